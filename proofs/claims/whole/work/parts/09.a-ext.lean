section JT
variable {own : String} {cc : ByteArray} {nL : Nat} {ret : Option FieldType} {nm : String} {fr lo n0 nf : Nat} {pc : Nat} {lv : List (Nat × Value)} {st : List Value} {n : Nat} {m : Mm} {r : Rr} {σ : Type} {o : Option σ} {k : σ → Option Res}
theorem J_callT {ix : Nat} {y : MethodName} {bytes : ByteArray} {maxL : Nat} {rt : Option FieldType} {frc loc n1 : Nat} {oc : Option Res} {f : Res → Option σ} (j : UInt32) (hj : j.toNat < nS) (np : Nat) (As : List Value) (hd : decode cc pc = .ok (.invokevirtual ix, 3)) (hM : MV y bytes maxL rt np) (hv : Cond.instanceMethod y ∈ TBg ∧ Cond.selects y.cls y y ∈ TBg) (hl1 : Cond.methodLink own ix y ∈ TBg) (hC : Ct y bytes maxL rt frc loc (.float j :: As) n n1 m r oc) (hlen : As.length = np) (hcn : "java/lang/String" = y.cls) (hfr : frc + 1 ≤ fr ∧ 8 + (maxL + 11) + loc ≤ lo) (hst : (st.map fun v => v.category).sum ≤ 8) (hn1 : n ≤ n1 ∧ n1 ≤ nf) (h : ∀ (v : Option Value) (m1 : Mm) (r1 : Rr), oc = some (v, m1, r1) → J own cc nL ret nm fr lo n0 nf (pc + 3) (lv) (v.toList ++ st) (n1) (m1) (r1) (f (v, m1, r1)) (k)) : J own cc nL ret nm fr lo n0 nf (pc) (lv) (As.reverse ++ .float j :: st) (n) (m) (r) (oc.bind f) (k) := by
  intro p l e R s mi args below meth c D base cid sa sv H locs ls x C hP hS hl hn hf hx
  obtain ⟨c1, c2, c3, c4, c5, c6, c7, c8, c9, c10, c11, c12, c13, c14⟩ := id C
  subst hlen
  obtain ⟨w1, w2, w3⟩ := hM
  cases hoc : oc with
  | none => rw [hoc] at hx; cases hx
  | some y0 =>
    rw [hoc] at hx
    refine W_size hP hS c9 hn (fun hz => ?_)
    have hm1 := nsl_mono hn1.1
    have hm2 := nsl_mono hn1.2
    have hm3 := nsl_mono hn
    have hcat : ((st.map (rv base sa)).map fun v => v.category).sum ≤ 8 := by
      rw [List.map_map]
      have e9 : ((fun v : Value => v.category) ∘ rv base sa) = (fun v : Value => v.category) := funext (fun v => rv_cat base sa v)
      rw [e9]
      exact hst
    refine va_callQ (va_runV (C := y.cls) (As := As.map (rv base sa)) (rest := st.map (rv base sa)) ⟨c1, c2, c4, c5, c6⟩ (hC l D base cid sa sv y0 hoc) (cwV As.length c6 (fun w hw => by
      rcases List.mem_append.mp hw with h9 | h9
      · simp only [List.mem_cons, List.not_mem_nil, or_false] at h9
        rcases h9 with rfl | rfl | rfl | rfl
        · exact TBg_good _ hl1
        · exact TBg_good _ hv.1
        · exact TBg_good _ hv.2
        · exact TBg_good _ w2
      · exact TBg_code w1 w h9) rfl rfl rfl ⟨rfl, w3⟩ ⟨Nat.le_trans hfr.1 c10, Nat.le_trans hfr.2 c11⟩) (by rw [← hcn]; exact ⟨blind, vk_recv c8.2.2.1 hj hS, fun U hU hW => ⟨rfl, by rw [hU]; exact hz, by rw [hU]; exact hP, c8.to hW (fun q hq hA => by rw [hU]; exact hS.2.1 q hq hA)⟩⟩) rfl (by simp) hl.1 (by simp [rv]) (lv_room hcat) hd ⟨by omega, by omega⟩) hS (fun H1 locs1 hP1 hS1 => ?_)
    have e1 : n - n0 + (n1 - n) = n1 - n0 := by omega
    have e2 : nsl n - nsl n0 + (nsl n1 - nsl n) = nsl n1 - nsl n0 := by omega
    rw [e1, e2]
    have h1 := h y0.1 y0.2.1 y0.2.2 hoc p l e R s mi args below meth c D base cid sa sv H1 locs1 ls x C hP1 hS1 hl (by omega) hn1.2 hx
    have e3 : (y0.1.toList ++ st).map (rv base sa) = (y0.1.map (rv base sa)).toList ++ st.map (rv base sa) := by
      cases y0.1 <;> simp
    rw [e3] at h1
    exact h1
theorem J_callTP {ix : Nat} {y : MethodName} {bytes : ByteArray} {maxL : Nat} {rt : Option FieldType} {frc loc : Nat} {oi : Option Int32} {f : Int32 → Option σ} (j : UInt32) (hj : j.toNat < nS) (np : Nat) (As : List Value) (hd : decode cc pc = .ok (.invokevirtual ix, 3)) (hM : MV y bytes maxL rt np) (hv : Cond.instanceMethod y ∈ TBg ∧ Cond.selects y.cls y y ∈ TBg) (hl1 : Cond.methodLink own ix y ∈ TBg) (hC : Ct y bytes maxL rt frc loc (.float j :: As) n n m r (rP m r oi)) (hlen : As.length = np) (hcn : "java/lang/String" = y.cls) (hfr : frc + 1 ≤ fr ∧ 8 + (maxL + 11) + loc ≤ lo) (hst : (st.map fun v => v.category).sum ≤ 8) (h : ∀ z, J own cc nL ret nm fr lo n0 nf (pc + 3) (lv) (.int z :: st) (n) (m) (r) (f z) (k)) : J own cc nL ret nm fr lo n0 nf (pc) (lv) (As.reverse ++ .float j :: st) (n) (m) (r) (oi.bind f) (k) := by
  intro p l e R s mi args below meth c D base cid sa sv H locs ls x C hP hS hl hn hf hx
  refine J_callT (k := k) (oc := rP m r oi) (f := fun q => f (vi q.1)) j hj np As hd hM hv hl1 hC hlen hcn hfr hst ⟨Nat.le_refl n, hf⟩ (fun v m1 r1 he => ?_) p l e R s mi args below meth c D base cid sa sv H locs ls x C hP hS hl hn hf ?_
  · cases oi with
    | none => cases he
    | some z =>
      cases he
      exact h z
  · rw [← hx]
    cases oi with
    | none => rfl
    | some z => rfl
end JT
theorem mv_J7_fill : MV yJ7_fill_53178 cJ7_fill_53178 4 none 2 := ⟨tb 405 (by decide +kernel) rfl, tb 11 (by decide +kernel) rfl, by decide +kernel⟩
theorem mv_J7_fills : Cond.static yJ7_fill_53178 ∈ TBg := tb 404 (by decide +kernel) rfl
theorem mv_J6_bitCount : MV yJ6_bitCount_0f7a4 cJ6_bitCount_0f7a4 1 (some .int) 1 := ⟨tb 882 (by decide +kernel) rfl, tb 18 (by decide +kernel) rfl, by decide +kernel⟩
theorem mv_J6_bitCounts : Cond.static yJ6_bitCount_0f7a4 ∈ TBg := tb 881 (by decide +kernel) rfl
theorem mv_J0_length : MV yJ0_length_8abf5 cJ0_length_8abf5 1 (some .int) 0 := ⟨tb 517 (by decide +kernel) rfl, tb 14 (by decide +kernel) rfl, by decide +kernel⟩
theorem mv_J0_lengthv : Cond.instanceMethod yJ0_length_8abf5 ∈ TBg ∧ Cond.selects yJ0_length_8abf5.cls yJ0_length_8abf5 yJ0_length_8abf5 ∈ TBg := ⟨tb 515 (by decide +kernel) rfl, tb 516 (by decide +kernel) rfl⟩
theorem mv_J0_charAt : MV yJ0_charAt_5068e cJ0_charAt_5068e 2 (some .char) 1 := ⟨tb 527 (by decide +kernel) rfl, tb 14 (by decide +kernel) rfl, by decide +kernel⟩
theorem mv_J0_charAtv : Cond.instanceMethod yJ0_charAt_5068e ∈ TBg ∧ Cond.selects yJ0_charAt_5068e.cls yJ0_charAt_5068e yJ0_charAt_5068e ∈ TBg := ⟨tb 525 (by decide +kernel) rfl, tb 526 (by decide +kernel) rfl⟩
def f_J7_fill (m : Mm) (a N : Nat) (v : Int32) : Option Mm := some (upA m a (fun i => if i < N then v else m a i))
def bitc (x0 : Int32) : Int32 :=
  let x1 := x0 - ((x0.toUInt32 >>> ((1 : Int32).toUInt32 &&& Int32.toUInt32 31)).toInt32 &&& 1431655765)
  let x2 := (x1 &&& 858993459) + ((x1.toUInt32 >>> ((2 : Int32).toUInt32 &&& Int32.toUInt32 31)).toInt32 &&& 858993459)
  let x3 := (x2 + (x2.toUInt32 >>> ((4 : Int32).toUInt32 &&& Int32.toUInt32 31)).toInt32) &&& 252645135
  let x4 := x3 + (x3.toUInt32 >>> ((8 : Int32).toUInt32 &&& Int32.toUInt32 31)).toInt32
  let x5 := x4 + (x4.toUInt32 >>> ((16 : Int32).toUInt32 &&& Int32.toUInt32 31)).toInt32
  x5 &&& 63
def f_J6_bitCount (x : Int32) : Option Int32 := some (bitc x)
def f_J0_length (j : UInt32) : Option Int32 := some (nI (lenS.getD j.toNat 0))
def f_J0_charAt (j : UInt32) (i : Int32) : Option Int32 := if i < 0 ∨ lenS.getD j.toNat 0 ≤ i.toNatClampNeg then none else some ((bytS.getD j.toNat []).getD i.toNatClampNeg 0)

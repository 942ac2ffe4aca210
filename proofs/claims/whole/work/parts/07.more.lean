theorem df_all : ∀ c, c < 10 → ∀ j, j < CK c → defaultValue (tyT c j) = if isR c j = true then Value.null else .int 0 := by decide +kernel
theorem cat_sum (base : Nat) (sa : Nat → Nat) (st : List Value) : ((st.map (rv base sa)).map fun v => v.category).sum = (st.map fun v => v.category).sum := by
  rw [List.map_map]
  have e9 : ((fun v : Value => v.category) ∘ rv base sa) = (fun v : Value => v.category) := funext (fun v => rv_cat base sa v)
  rw [e9]
def imax (x y : Int32) : Int32 := if x < y then y else x
def imin (x y : Int32) : Int32 := if y < x then y else x
def iabs (x : Int32) : Int32 := if 0 ≤ x then x else 0 - x
def acopy (m : Mm) (a0 N0 : Nat) (sp : Int32) (a N1 : Nat) (dp len : Int32) : Option Mm :=
  if sp < 0 ∨ dp < 0 ∨ len < 0 ∨ N0 < sp.toNatClampNeg + len.toNatClampNeg ∨ N1 < dp.toNatClampNeg + len.toNatClampNeg then none
  else some (upA m a (va_cpy (m a0) (m a) sp.toNatClampNeg dp.toNatClampNeg len.toNatClampNeg))
theorem ml_objinit : Cond.instanceMethod objectInit ∈ TBg ∧ Cond.code objectInit ⟨#[0xb1]⟩ 1 none ∈ TBg := by decide +kernel
theorem ml_acopy : Cond.native arraycopyName ∈ TBg ∧ Cond.static arraycopyName ∈ TBg ∧ Cond.initialized "java/lang/System" ∈ TBg := by decide +kernel
theorem ml_max : Cond.static Lib.Math.max.name ∈ TBg ∧ Cond.initialized "java/lang/Math" ∈ TBg ∧ Cond.code Lib.Math.max.name Lib.Math.max.code 2 (some .int) ∈ TBg := by decide +kernel
theorem ml_min : Cond.static Lib.Math.min.name ∈ TBg ∧ Cond.initialized "java/lang/Math" ∈ TBg ∧ Cond.code Lib.Math.min.name Lib.Math.min.code 2 (some .int) ∈ TBg := by decide +kernel
theorem ml_abs : Cond.static Lib.Math.abs.name ∈ TBg ∧ Cond.initialized "java/lang/Math" ∈ TBg ∧ Cond.code Lib.Math.abs.name Lib.Math.abs.code 1 (some .int) ∈ TBg := by decide +kernel

section JM
variable {own : String} {cc : ByteArray} {nL : Nat} {ret : Option FieldType} {nm : String} {fr lo n0 nf : Nat} {pc : Nat} {lv : List (Nat × Value)} {st : List Value} {n : Nat} {m : Mm} {r : Rr} {σ : Type} {o : Option σ} {k : σ → Option Res}
theorem J_objInit {ix a : Nat} (hd : decode cc pc = .ok (.invokespecial ix, 3)) (hl1 : Cond.methodLink own ix objectInit ∈ TBg) (hfr : 1 ≤ fr) (hlo : (st.map fun v => v.category).sum + 12 ≤ lo) (h : J own cc nL ret nm fr lo n0 nf (pc + 3) (lv) (st) (n) (m) (r) (o) (k)) : J own cc nL ret nm fr lo n0 nf (pc) (lv) (.ref a :: st) (n) (m) (r) (o) (k) := by
  intro p l e R s mi args below meth c D base cid sa sv H locs ls x C hP hS hl hn hf hx
  obtain ⟨c1, c2, c3, c4, c5, c6, c7, c8, c9, c10, c11, c12, c13, c14⟩ := id C
  have hs := cat_sum base sa st
  exact W.objInit c1 c2 c5 (c6 _ hl1) (c6 _ ml_objinit.1) (c6 _ ml_objinit.2) rfl (by rw [c4]; exact hl.1) rfl hd (Nat.le_trans hfr c10) (by show 2 * 0 + _ + 12 ≤ _; rw [hs]; omega) (h p l e R s mi args below meth c D base cid sa sv H locs ls x C hP hS hl hn hf hx)
theorem J_mmax {ix : Nat} {x1 y1 : Int32} (hd : decode cc pc = .ok (.invokestatic ix, 3)) (hl1 : Cond.methodLink own ix Lib.Math.max.name ∈ TBg) (hfr : 1 ≤ fr) (hlo : (st.map fun v => v.category).sum + 13 ≤ lo) (h : J own cc nL ret nm fr lo n0 nf (pc + 3) (lv) (.int (imax x1 y1) :: st) (n) (m) (r) (o) (k)) : J own cc nL ret nm fr lo n0 nf (pc) (lv) (.int y1 :: .int x1 :: st) (n) (m) (r) (o) (k) := by
  intro p l e R s mi args below meth c D base cid sa sv H locs ls x C hP hS hl hn hf hx
  obtain ⟨c1, c2, c3, c4, c5, c6, c7, c8, c9, c10, c11, c12, c13, c14⟩ := id C
  have hs := cat_sum base sa st
  have hm1 := nsl_mono hf
  have hm3 := nsl_mono hn
  exact va_mmax c1 c2 (by rw [c4]; exact hl.1.symm) c5 (c6 _ hl1) (c6 _ ml_max.1) (c6 _ ml_max.2.1) (c6 _ ml_max.2.2) (Nat.le_trans hfr c10) (by rw [hs]; omega) (by omega) (by omega) hd (h p l e R s mi args below meth c D base cid sa sv H locs ls x C hP hS hl hn hf hx)
theorem J_mmin {ix : Nat} {x1 y1 : Int32} (hd : decode cc pc = .ok (.invokestatic ix, 3)) (hl1 : Cond.methodLink own ix Lib.Math.min.name ∈ TBg) (hfr : 1 ≤ fr) (hlo : (st.map fun v => v.category).sum + 13 ≤ lo) (h : J own cc nL ret nm fr lo n0 nf (pc + 3) (lv) (.int (imin x1 y1) :: st) (n) (m) (r) (o) (k)) : J own cc nL ret nm fr lo n0 nf (pc) (lv) (.int y1 :: .int x1 :: st) (n) (m) (r) (o) (k) := by
  intro p l e R s mi args below meth c D base cid sa sv H locs ls x C hP hS hl hn hf hx
  obtain ⟨c1, c2, c3, c4, c5, c6, c7, c8, c9, c10, c11, c12, c13, c14⟩ := id C
  have hs := cat_sum base sa st
  have hm1 := nsl_mono hf
  have hm3 := nsl_mono hn
  exact va_mmin c1 c2 (by rw [c4]; exact hl.1.symm) c5 (c6 _ hl1) (c6 _ ml_min.1) (c6 _ ml_min.2.1) (c6 _ ml_min.2.2) (Nat.le_trans hfr c10) (by rw [hs]; omega) (by omega) (by omega) hd (h p l e R s mi args below meth c D base cid sa sv H locs ls x C hP hS hl hn hf hx)
theorem J_mabs {ix : Nat} {x1 : Int32} (hd : decode cc pc = .ok (.invokestatic ix, 3)) (hl1 : Cond.methodLink own ix Lib.Math.abs.name ∈ TBg) (hfr : 1 ≤ fr) (hlo : (st.map fun v => v.category).sum + 13 ≤ lo) (h : J own cc nL ret nm fr lo n0 nf (pc + 3) (lv) (.int (iabs x1) :: st) (n) (m) (r) (o) (k)) : J own cc nL ret nm fr lo n0 nf (pc) (lv) (.int x1 :: st) (n) (m) (r) (o) (k) := by
  intro p l e R s mi args below meth c D base cid sa sv H locs ls x C hP hS hl hn hf hx
  obtain ⟨c1, c2, c3, c4, c5, c6, c7, c8, c9, c10, c11, c12, c13, c14⟩ := id C
  have hs := cat_sum base sa st
  have hm1 := nsl_mono hf
  have hm3 := nsl_mono hn
  exact va_mabs c1 c2 (by rw [c4]; exact hl.1.symm) c5 (c6 _ hl1) (c6 _ ml_abs.1) (c6 _ ml_abs.2.1) (c6 _ ml_abs.2.2) (Nat.le_trans hfr c10) (by rw [hs]; omega) (by omega) (by omega) hd (h p l e R s mi args below meth c D base cid sa sv H locs ls x C hP hS hl hn hf hx)
theorem J_acopy {ix : Nat} {sp dp len : Int32} {f : Mm → Option σ} (a0 N0 a N1 : Nat) (hd : decode cc pc = .ok (.invokestatic ix, 3)) (hl1 : Cond.methodLink own ix arraycopyName ∈ TBg) (hL0 : LAY a0 = (20, N0)) (hL : LAY a = (20, N1)) (ha0 : a0 < n) (ha : a < n) (hfr : 1 ≤ fr) (hlo : (st.map fun v => v.category).sum + (nativeFrameWords "java/lang/System" "arraycopy" 5 + 11) ≤ lo) (h : ∀ m1, J own cc nL ret nm fr lo n0 nf (pc + 3) (lv) (st) (n) (m1) (r) (f m1) (k)) : J own cc nL ret nm fr lo n0 nf (pc) (lv) (.int len :: .int dp :: .ref a :: .int sp :: .ref a0 :: st) (n) (m) (r) ((acopy m a0 N0 sp a N1 dp len).bind f) (k) := by
  intro p l e R s mi args below meth c D base cid sa sv H locs ls x C hP hS hl hn hf hx
  obtain ⟨c1, c2, c3, c4, c5, c6, c7, c8, c9, c10, c11, c12, c13, c14⟩ := id C
  by_cases hi : sp < 0 ∨ dp < 0 ∨ len < 0 ∨ N0 < sp.toNatClampNeg + len.toNatClampNeg ∨ N1 < dp.toNatClampNeg + len.toNatClampNeg
  · rw [acopy, if_pos hi] at hx
    cases hx
  · rw [acopy, if_neg hi] at hx
    simp only [not_or, Nat.not_lt] at hi
    obtain ⟨i1, i2, i3, i4, i5⟩ := hi
    have hs := cat_sum base sa st
    refine va_copyi (f := m a0) (g := m a) (ty := .int) c1 c2 (by rw [c4]; exact hl.1.symm) c5 (c6 _ hl1) (c6 _ ml_acopy.1) (c6 _ ml_acopy.2.1) (c6 _ ml_acopy.2.2) c8.1 hP wsof_D hS a0 a 0 0 (by rw [wsof_at ha0, cell_arr hL0 (by decide) (by decide)]) (by rw [wsof_at ha, cell_arr hL (by decide) (by decide)]) rfl rfl rfl i1 i2 i3 i4 i5 (fun _ _ => rfl) (Nat.le_trans hfr c10) (by rw [hs]; omega) hd (fun H1 locs1 hP1 _ hS1 => ?_)
    have e1 : (.inl (cid 20, N1, .inl (va_cpy (m a0) (m a) sp.toNatClampNeg dp.toNatClampNeg len.toNatClampNeg)) : va_E) = cellOf base cid a (upA m a (va_cpy (m a0) (m a) sp.toNatClampNeg dp.toNatClampNeg len.toNatClampNeg)) r := by
      rw [cell_arr hL (by decide) (by decide), upA_self]
    rw [e1, wsof_set (fun i hi => upA_ne hi) (fun i hi => rfl)] at hP1
    exact h _ p l e R s mi args below meth c D base cid sa sv H1 locs1 ls x C hP1 hS1 hl hn hf hx
theorem J_split {x1 c1 : Int32} {o1 o2 : Option σ} (h1 : x1 = c1 → J own cc nL ret nm fr lo n0 nf (pc) (lv) (.int x1 :: st) (n) (m) (r) (o1) (k)) (h2 : ¬ x1 = c1 → J own cc nL ret nm fr lo n0 nf (pc) (lv) (.int x1 :: st) (n) (m) (r) (o2) (k)) : J own cc nL ret nm fr lo n0 nf (pc) (lv) (.int x1 :: st) (n) (m) (r) (if x1 = c1 then o1 else o2) (k) := by
  by_cases h : x1 = c1
  · rw [if_pos h]; exact h1 h
  · rw [if_neg h]; exact h2 h
theorem J_tsIn {dflt lo1 hi1 : Int} {offs : Array Int} {len : Nat} {x1 c0 : Int32} {off : Int} (tgt : Nat) (hc : x1 = c0) (hd : decode cc pc = .ok (.tableswitch dflt lo1 hi1 offs, len)) (h1 : ¬ c0.toInt < lo1) (h2 : ¬ hi1 < c0.toInt) (ho : offs[(c0.toInt - lo1).toNat]? = some off) (ht : (pc : Int) + off = (tgt : Int)) (h : J own cc nL ret nm fr lo n0 nf (tgt) (lv) (st) (n) (m) (r) (o) (k)) : J own cc nL ret nm fr lo n0 nf (pc) (lv) (.int x1 :: st) (n) (m) (r) (o) (k) := by
  intro p l e R s mi args below meth c D base cid sa sv H locs ls x C hP hS hl hn hf hx
  obtain ⟨c1, c2, c3, c4, c5, c6, c7, c8, c9, c10, c11, c12, c13, c14⟩ := id C
  subst hc
  exact lv_tableIn c1 c2 hd h1 h2 ho ht (h p l e R s mi args below meth c D base cid sa sv H locs ls x C hP hS hl hn hf hx)
theorem J_tsOut {dflt lo1 hi1 : Int} {offs : Array Int} {len : Nat} {x1 : Int32} (tgt : Nat) (hd : decode cc pc = .ok (.tableswitch dflt lo1 hi1 offs, len)) (hr : x1.toInt < lo1 ∨ hi1 < x1.toInt) (ht : (pc : Int) + dflt = (tgt : Int)) (h : J own cc nL ret nm fr lo n0 nf (tgt) (lv) (st) (n) (m) (r) (o) (k)) : J own cc nL ret nm fr lo n0 nf (pc) (lv) (.int x1 :: st) (n) (m) (r) (o) (k) := by
  intro p l e R s mi args below meth c D base cid sa sv H locs ls x C hP hS hl hn hf hx
  obtain ⟨c1, c2, c3, c4, c5, c6, c7, c8, c9, c10, c11, c12, c13, c14⟩ := id C
  exact lv_tableOut c1 c2 hd hr ht (h p l e R s mi args below meth c D base cid sa sv H locs ls x C hP hS hl hn hf hx)
theorem J_lk {dflt : Int} {ps : Array (Int × Int)} {len : Nat} {x1 : Int32} {off : Int} (tgt : Nat) (hd : decode cc pc = .ok (.lookupswitch dflt ps, len)) (hp : (ps.toList.zip (ps.toList.drop 1)).all (fun (a, next) => a.1 < next.1) = true) (ho : Op.lookupswitch.offset ps.toList dflt x1.toInt = off) (ht : (pc : Int) + off = (tgt : Int)) (h : J own cc nL ret nm fr lo n0 nf (tgt) (lv) (st) (n) (m) (r) (o) (k)) : J own cc nL ret nm fr lo n0 nf (pc) (lv) (.int x1 :: st) (n) (m) (r) (o) (k) := by
  intro p l e R s mi args below meth c D base cid sa sv H locs ls x C hP hS hl hn hf hx
  obtain ⟨c1, c2, c3, c4, c5, c6, c7, c8, c9, c10, c11, c12, c13, c14⟩ := id C
  exact lv_lookup c1 c2 hd hp ho ht (h p l e R s mi args below meth c D base cid sa sv H locs ls x C hP hS hl hn hf hx)
theorem ts_out {x : Int32} {lo hi : Int} (l : List Int32) (hl : ∀ i : Nat, i < (hi - lo + 1).toNat → Int32.ofInt (lo + i) ∈ l) (h : ∀ c ∈ l, ¬ x = c) : x.toInt < lo ∨ hi < x.toInt := by
  by_cases h1 : x.toInt < lo
  · exact Or.inl h1
  · by_cases h2 : hi < x.toInt
    · exact Or.inr h2
    · have h3 := hl (x.toInt - lo).toNat (by omega)
      have e : lo + ((x.toInt - lo).toNat : Int) = x.toInt := by omega
      rw [e, Int32.ofInt_toInt] at h3
      exact absurd rfl (h x h3)
theorem J_new {ix : Nat} (ci : Nat) (hd : decode cc pc = .ok (.new ix, 3)) (hci : ci < 10) (hcl : Cond.classLink own ix (CN ci) ∈ TBg) (hinst : Cond.instantiable (CN ci) (CK ci) ∈ TBg) (hini : Cond.initialized (CN ci) ∈ TBg) (hL : (LAY n).1 = ci) (hm : ∀ j, m n j = 0) (hr : ∀ j, r n j = none) (hnf : n + 1 ≤ nf) (h : J own cc nL ret nm fr lo n0 nf (pc + 3) (lv) (.ref n :: st) (n + 1) (m) (r) (o) (k)) : J own cc nL ret nm fr lo n0 nf (pc) (lv) (st) (n) (m) (r) (o) (k) := by
  intro p l e R s mi args below meth c D base cid sa sv H locs ls x C hP hS hl hn hf hx
  obtain ⟨c1, c2, c3, c4, c5, c6, c7, c8, c9, c10, c11, c12, c13, c14⟩ := id C
  have hLe := lay_obj hL hci
  have hm1 := nsl_mono hnf
  have hm3 := nsl_mono hn
  have hsu := nsl_succ n
  rw [hLe] at hsu
  refine va_new (D := D) (ci := ci) (fs := (List.range (CK ci)).map (fun j => fval base ci j (m n j) (r n j))) (C := CN ci) (T := CT ci) (N := CK ci) c1 c2 c6 (cls_in ci hci) (tyT ci) (cls_ty ci hci) c5 (c6 _ hcl) (c6 _ hinst) (c6 _ hini) c8.1 hP wsof_D hS (fun q hq => by rw [c9] at hq; show base ≤ q; omega) (cls_at ci hci) (fun j hj => ?_) (by omega) (by omega) hd (fun q H1 hP1 hD1 hS1 => ?_)
  · rw [df_all ci hci j hj]
    simp only [vp_V, List.getD_eq_getElem?_getD, List.getElem?_map, List.getElem?_range hj, Option.map_some, Option.getD_some, fval, hm, hr]
    by_cases hR : isR ci j = true <;> simp [hR, va_rf]
  · refine W_new hP1 hD1 c9 hn (fun hq => ?_)
    subst hq
    rw [← cell_obj (cid := cid) hLe (by omega), wsof_push] at hP1
    have e1 : n - n0 + 1 = n + 1 - n0 := by omega
    have e2 : nsl n - nsl n0 + CK ci = nsl (n + 1) - nsl n0 := by omega
    rw [e1, e2]
    exact h p l e R s mi args below meth c D base cid sa sv H1 locs ls x C hP1 hS1 hl (by omega) hnf hx
theorem J_newI {z : Int32} (N : Nat) (hd : decode cc pc = .ok (.newarray .int, 2)) (hz0 : ¬ z < 0) (hzN : z.toNatClampNeg = N) (hsm : N * 8 ≤ 536870912) (hac : Cond.arrayClass .int ∈ TBg) (hL : LAY n = (20, N)) (hm : m n = fun _ => 0) (hnf : n + 1 ≤ nf) (h : J own cc nL ret nm fr lo n0 nf (pc + 2) (lv) (.ref n :: st) (n + 1) (m) (r) (o) (k)) : J own cc nL ret nm fr lo n0 nf (pc) (lv) (.int z :: st) (n) (m) (r) (o) (k) := by
  intro p l e R s mi args below meth c D base cid sa sv H locs ls x C hP hS hl hn hf hx
  obtain ⟨c1, c2, c3, c4, c5, c6, c7, c8, c9, c10, c11, c12, c13, c14⟩ := id C
  have hm1 := nsl_mono hnf
  have hm3 := nsl_mono hn
  have hsu := nsl_succ n
  rw [hL] at hsu
  simp only at hsu
  refine va_newa (atype := .int) (ty := .int) (a0 := (N, .inl (m n))) c1 c2 (c6 _ hac) rfl c8.1 hP wsof_D hS (fun q hq => by rw [c9] at hq; show base ≤ q; omega) (fun cA => by rw [hm]; rfl) hz0 hzN (by simp [componentBytes]; omega) (by omega) (by omega) hd (fun q cA H1 hK1 hP1 hD1 hS1 => ?_)
  have hcA : cA = cid 20 := by
    have g1 := (hK1.2 5 (cA, .int) rfl).2
    have g2 := (c8.1.2 0 (cid 20, .int) rfl).2
    exact Option.some.inj (Eq.trans (Eq.symm g1) g2)
  subst hcA
  refine W_new hP1 hD1 c9 hn (fun hq => ?_)
  subst hq
  rw [← cell_arr (base := base) (r := r) hL (by decide) (by decide), wsof_push] at hP1
  have e1 : n - n0 + 1 = n + 1 - n0 := by omega
  have e2 : nsl n - nsl n0 + N = nsl (n + 1) - nsl n0 := by omega
  rw [e1, e2]
  exact h p l e R s mi args below meth c D base cid sa sv H1 locs ls x C hP1 hS1 hl (by omega) hnf hx
theorem J_newB {z : Int32} (N : Nat) (hd : decode cc pc = .ok (.newarray .byte, 2)) (hz0 : ¬ z < 0) (hzN : z.toNatClampNeg = N) (hsm : N * 8 ≤ 536870912) (hac : Cond.arrayClass .byte ∈ TBg) (hL : LAY n = (21, N)) (hm : m n = fun _ => 0) (hnf : n + 1 ≤ nf) (h : J own cc nL ret nm fr lo n0 nf (pc + 2) (lv) (.ref n :: st) (n + 1) (m) (r) (o) (k)) : J own cc nL ret nm fr lo n0 nf (pc) (lv) (.int z :: st) (n) (m) (r) (o) (k) := by
  intro p l e R s mi args below meth c D base cid sa sv H locs ls x C hP hS hl hn hf hx
  obtain ⟨c1, c2, c3, c4, c5, c6, c7, c8, c9, c10, c11, c12, c13, c14⟩ := id C
  have hm1 := nsl_mono hnf
  have hm3 := nsl_mono hn
  have hsu := nsl_succ n
  rw [hL] at hsu
  simp only at hsu
  refine va_newa (atype := .byte) (ty := .byte) (a0 := (N, .inl (m n))) c1 c2 (c6 _ hac) rfl c8.1 hP wsof_D hS (fun q hq => by rw [c9] at hq; show base ≤ q; omega) (fun cA => by rw [hm]; rfl) hz0 hzN (by simp [componentBytes]; omega) (by omega) (by omega) hd (fun q cA H1 hK1 hP1 hD1 hS1 => ?_)
  have hcA : cA = cid 21 := by
    have g1 := (hK1.2 5 (cA, .byte) rfl).2
    have g2 := (c8.1.2 1 (cid 21, .byte) rfl).2
    exact Option.some.inj (Eq.trans (Eq.symm g1) g2)
  subst hcA
  refine W_new hP1 hD1 c9 hn (fun hq => ?_)
  subst hq
  rw [← cell_arr (base := base) (r := r) hL (by decide) (by decide), wsof_push] at hP1
  have e1 : n - n0 + 1 = n + 1 - n0 := by omega
  have e2 : nsl n - nsl n0 + N = nsl (n + 1) - nsl n0 := by omega
  rw [e1, e2]
  exact h p l e R s mi args below meth c D base cid sa sv H1 locs ls x C hP1 hS1 hl (by omega) hnf hx
theorem J_newZ {z : Int32} (N : Nat) (hd : decode cc pc = .ok (.newarray .boolean, 2)) (hz0 : ¬ z < 0) (hzN : z.toNatClampNeg = N) (hsm : N * 8 ≤ 536870912) (hac : Cond.arrayClass .boolean ∈ TBg) (hL : LAY n = (22, N)) (hm : m n = fun _ => 0) (hnf : n + 1 ≤ nf) (h : J own cc nL ret nm fr lo n0 nf (pc + 2) (lv) (.ref n :: st) (n + 1) (m) (r) (o) (k)) : J own cc nL ret nm fr lo n0 nf (pc) (lv) (.int z :: st) (n) (m) (r) (o) (k) := by
  intro p l e R s mi args below meth c D base cid sa sv H locs ls x C hP hS hl hn hf hx
  obtain ⟨c1, c2, c3, c4, c5, c6, c7, c8, c9, c10, c11, c12, c13, c14⟩ := id C
  have hm1 := nsl_mono hnf
  have hm3 := nsl_mono hn
  have hsu := nsl_succ n
  rw [hL] at hsu
  simp only at hsu
  refine va_newa (atype := .boolean) (ty := .boolean) (a0 := (N, .inl (m n))) c1 c2 (c6 _ hac) rfl c8.1 hP wsof_D hS (fun q hq => by rw [c9] at hq; show base ≤ q; omega) (fun cA => by rw [hm]; rfl) hz0 hzN (by simp [componentBytes]; omega) (by omega) (by omega) hd (fun q cA H1 hK1 hP1 hD1 hS1 => ?_)
  have hcA : cA = cid 22 := by
    have g1 := (hK1.2 5 (cA, .boolean) rfl).2
    have g2 := (c8.1.2 2 (cid 22, .boolean) rfl).2
    exact Option.some.inj (Eq.trans (Eq.symm g1) g2)
  subst hcA
  refine W_new hP1 hD1 c9 hn (fun hq => ?_)
  subst hq
  rw [← cell_arr (base := base) (r := r) hL (by decide) (by decide), wsof_push] at hP1
  have e1 : n - n0 + 1 = n + 1 - n0 := by omega
  have e2 : nsl n - nsl n0 + N = nsl (n + 1) - nsl n0 := by omega
  rw [e1, e2]
  exact h p l e R s mi args below meth c D base cid sa sv H1 locs ls x C hP1 hS1 hl (by omega) hnf hx
end JM

def rL (L : List (Nat × Nat × Nat)) : Rr := fun a k => (L.find? (fun q => q.1 == a && q.2.1 == k)).map (fun q => q.2.2)
theorem rL_cons (L : List (Nat × Nat × Nat)) (a k b : Nat) : upR (rL L) a k (some b) = rL ((a, k, b) :: L) := by
  funext a1 k1
  by_cases ha : a1 = a
  · subst ha
    rw [upR_self]
    by_cases hk : k1 = k
    · subst hk
      simp [va_up, rL, List.find?_cons]
    · have hk2 : ¬ k = k1 := fun h => hk h.symm
      simp [va_up, rL, hk, List.find?_cons, hk2]
  · have ha2 : ¬ a = a1 := fun h => ha h.symm
    rw [upR_ne ha]
    simp [rL, List.find?_cons, ha2]
theorem rL_none {L : List (Nat × Nat × Nat)} {n : Nat} (h : ∀ q ∈ L, q.1 < n) (j : Nat) : rL L n j = none := by
  have : L.find? (fun q => q.1 == n && q.2.1 == j) = none := by
    rw [List.find?_eq_none]
    intro q hq
    have := h q hq
    simp
    omega
  simp [rL, this]
section JK
variable {own : String} {cc : ByteArray} {nL : Nat} {ret : Option FieldType} {nm : String} {fr lo n0 nf : Nat} {pc : Nat} {lv : List (Nat × Value)} {st : List Value} {n : Nat} {m : Mm} {r : Rr} {σ : Type} {o : Option σ} {k : σ → Option Res}
theorem J_rcong {r1 : Rr} (hr : ∀ a, a < n → r a = r1 a) (h : J own cc nL ret nm fr lo n0 nf (pc) (lv) (st) (n) (m) (r1) (o) (k)) : J own cc nL ret nm fr lo n0 nf (pc) (lv) (st) (n) (m) (r) (o) (k) := by
  intro p l e R s mi args below meth c D base cid sa sv H locs ls x C hP hS hl hn hf hx
  obtain ⟨c1, c2, c3, c4, c5, c6, c7, c8, c9, c10, c11, c12, c13, c14⟩ := id C
  refine h p l e R s mi args below meth c D base cid sa sv H locs ls x C ?_ hS hl hn hf hx
  have e1 : wsof base cid n m r = wsof base cid n m r1 := by
    unfold wsof
    apply List.map_congr_left
    intro i hi
    have hi : i < n := by simpa using hi
    simp only [cellOf, hr i hi]
  rw [← e1]
  exact hP
theorem J_putId {ix : Nat} {v : Int32} (a ci kf : Nat) (hd : decode cc pc = .ok (.putfield ix, 3)) (hF : FL own ix ci kf) (hL : (LAY a).1 = ci) (hR : isR ci kf = false) (ha : a < n) (hfin : (CT ci kf).2.2.2 = false) (hnar : narrow (tyT ci kf) (.int v) = .int v) (hfit : fits (tyT ci kf) (.int v) = true) (h : J own cc nL ret nm fr lo n0 nf (pc + 3) (lv) (st) (n) (up2 m a kf v) (r) (o) (k)) : J own cc nL ret nm fr lo n0 nf (pc) (lv) (.int v :: .ref a :: st) (n) (m) (r) (o) (k) := by
  intro p l e R s mi args below meth c D base cid sa sv H locs ls x C hP hS hl hn hf hx
  obtain ⟨c1, c2, c3, c4, c5, c6, c7, c8, c9, c10, c11, c12, c13, c14⟩ := id C
  have h1 := J_putI (own := own) (cc := cc) (nL := nL) (ret := ret) (nm := nm) (fr := fr) (lo := lo) (n0 := n0) (nf := nf) (pc := pc) (lv := lv) (st := st) (n := n) (m := m) (r := r) (k := k) (v := v) (f := fun m1 => @ite _ (m1 = up2 m a kf v) (Classical.propDecidable _) o none) a ci kf hd hF hL hR ha hfin hnar hfit (fun m1 => by
    by_cases hm : m1 = up2 m a kf v
    · subst hm; simp only [if_true]; exact h
    · simp only [hm, if_false]; exact J_none)
  exact h1 p l e R s mi args below meth c D base cid sa sv H locs ls x C hP hS hl hn hf (by simp only [letv, if_true]; exact hx)
theorem J_iastd {i v : Int32} (a N : Nat) (hd : decode cc pc = .ok (.iastore, 1)) (hL : LAY a = (20, N)) (ha : a < n) (hi : ¬ (i < 0 ∨ N ≤ i.toNatClampNeg)) (h : J own cc nL ret nm fr lo n0 nf (pc + 1) (lv) (st) (n) (up2 m a i.toNatClampNeg v) (r) (o) (k)) : J own cc nL ret nm fr lo n0 nf (pc) (lv) (.int v :: .int i :: .ref a :: st) (n) (m) (r) (o) (k) := by
  intro p l e R s mi args below meth c D base cid sa sv H locs ls x C hP hS hl hn hf hx
  obtain ⟨c1, c2, c3, c4, c5, c6, c7, c8, c9, c10, c11, c12, c13, c14⟩ := id C
  have h1 := J_iast (own := own) (cc := cc) (nL := nL) (ret := ret) (nm := nm) (fr := fr) (lo := lo) (n0 := n0) (nf := nf) (pc := pc) (lv := lv) (st := st) (n := n) (m := m) (r := r) (k := k) (i := i) (v := v) (f := fun m1 => @ite _ (m1 = up2 m a i.toNatClampNeg v) (Classical.propDecidable _) o none) a N hd hL ha (fun m1 => by
    by_cases hm : m1 = up2 m a i.toNatClampNeg v
    · subst hm; simp only [if_true]; exact h
    · simp only [hm, if_false]; exact J_none)
  exact h1 p l e R s mi args below meth c D base cid sa sv H locs ls x C hP hS hl hn hf (by simp only [ast, if_neg hi, Option.bind_some, if_true]; exact hx)
theorem J_getRe {ix : Nat} (a ci kf b : Nat) (hd : decode cc pc = .ok (.getfield ix, 3)) (hF : FL own ix ci kf) (hL : (LAY a).1 = ci) (hR : isR ci kf = true) (ha : a < n) (hb : r a kf = some b) (h : J own cc nL ret nm fr lo n0 nf (pc + 3) (lv) (.ref b :: st) (n) (m) (r) (o) (k)) : J own cc nL ret nm fr lo n0 nf (pc) (lv) (.ref a :: st) (n) (m) (r) (o) (k) := J_getR a ci kf b hd hF hL hR ha hb h
theorem J_icmp_geT {x1 y1 : Int32} {off : Int} (tgt : Nat) (hd : decode cc pc = .ok (.if_icmp .ge off, 3)) (ht : (pc : Int) + off = (tgt : Int)) (hc : y1 ≤ x1) (h : J own cc nL ret nm fr lo n0 nf (tgt) (lv) (st) (n) (m) (r) (o) (k)) : J own cc nL ret nm fr lo n0 nf (pc) (lv) (.int y1 :: .int x1 :: st) (n) (m) (r) (o) (k) := by
  intro p l e R s mi args below meth c D base cid sa sv H locs ls x C hP hS hl hn hf hx
  obtain ⟨c1, c2, c3, c4, c5, c6, c7, c8, c9, c10, c11, c12, c13, c14⟩ := id C
  exact lv_icmp_ge c1 c2 hd ht (fun _ => h p l e R s mi args below meth c D base cid sa sv H locs ls x C hP hS hl hn hf hx) (fun hz => absurd hc hz)
theorem J_icmp_geF {x1 y1 : Int32} {off : Int} (tgt : Nat) (hd : decode cc pc = .ok (.if_icmp .ge off, 3)) (ht : (pc : Int) + off = (tgt : Int)) (hc : ¬ y1 ≤ x1) (h : J own cc nL ret nm fr lo n0 nf (pc + 3) (lv) (st) (n) (m) (r) (o) (k)) : J own cc nL ret nm fr lo n0 nf (pc) (lv) (.int y1 :: .int x1 :: st) (n) (m) (r) (o) (k) := by
  intro p l e R s mi args below meth c D base cid sa sv H locs ls x C hP hS hl hn hf hx
  obtain ⟨c1, c2, c3, c4, c5, c6, c7, c8, c9, c10, c11, c12, c13, c14⟩ := id C
  exact lv_icmp_ge c1 c2 hd ht (fun hz => absurd hz hc) (fun _ => h p l e R s mi args below meth c D base cid sa sv H locs ls x C hP hS hl hn hf hx)
theorem J_callINd {ix : Nat} {y : MethodName} {bytes : ByteArray} {maxL : Nat} {rt : Option FieldType} {frc loc n1 : Nat} {m1 : Mm} {r1 : Rr} (a : Nat) (host : String) (hd : decode cc pc = .ok (.invokespecial ix, 3)) (hM : MV y bytes maxL rt 0) (hrt : rt = none) (hin : y.name = "<init>") (hv : Cond.instanceMethod y ∈ TBg) (hl1 : Cond.methodLinkNest own ix y host ∈ NWl) (hC : Ct y bytes maxL rt frc loc [.ref a] n n1 m r (some (none, m1, r1))) (hfr : frc + 1 ≤ fr ∧ 8 + (maxL + 11) + loc ≤ lo) (hst : (st.map fun v => v.category).sum ≤ 8) (hn1 : n ≤ n1 ∧ n1 ≤ nf) (h : J own cc nL ret nm fr lo n0 nf (pc + 3) (lv) (st) (n1) (m1) (r1) (o) (k)) : J own cc nL ret nm fr lo n0 nf (pc) (lv) (.ref a :: st) (n) (m) (r) (o) (k) := by
  intro p l e R s mi args below meth c D base cid sa sv H locs ls x C hP hS hl hn hf hx
  obtain ⟨c1, c2, c3, c4, c5, c6, c7, c8, c9, c10, c11, c12, c13, c14⟩ := id C
  exact J_callIN (k := k) (oc := some (none, m1, r1)) (f := fun _ => o) a 0 host [] hd hM hrt hin hv hl1 hC rfl hfr hst hn1 (fun v m2 r2 he => by cases he; exact h) p l e R s mi args below meth c D base cid sa sv H locs ls x C hP hS hl hn hf hx
theorem J_anew {ix : Nat} {z : Int32} (N t ti : Nat) {CC : String} (hd : decode cc pc = .ok (.anewarray ix, 3)) (hz0 : ¬ z < 0) (hzN : z.toNatClampNeg = N) (hsm : N * 4 ≤ 536870912) (hcl : Cond.classLink own ix CC ∈ TBg) (hao : Cond.arrayOver (.object CC) ∈ NWl) (ht : ¬ t < 20 ∧ ¬ t < 23) (hty : ∀ cid : Nat → ClassId, (tysOf cid)[ti]? = some (cid t, .object CC)) (hL : LAY n = (t, N)) (hr : ∀ j, r n j = none) (hnf : n + 1 ≤ nf) (h : J own cc nL ret nm fr lo n0 nf (pc + 3) (lv) (.ref n :: st) (n + 1) (m) (r) (o) (k)) : J own cc nL ret nm fr lo n0 nf (pc) (lv) (.int z :: st) (n) (m) (r) (o) (k) := by
  intro p l e R s mi args below meth c D base cid sa sv H locs ls x C hP hS hl hn hf hx
  obtain ⟨c1, c2, c3, c4, c5, c6, c7, c8, c9, c10, c11, c12, c13, c14⟩ := id C
  have hm1 := nsl_mono hnf
  have hm3 := nsl_mono hn
  have hsu := nsl_succ n
  rw [hL] at hsu
  simp only at hsu
  refine va_newq (C := CC) c1 c2 c5 (c6 _ hcl) (c8.2.1 _ hao) c8.1 hP wsof_D hS (fun q hq => by rw [c9] at hq; show base ≤ q; omega) hz0 hzN hsm (by omega) (by omega) hd (fun q cA H1 hK1 hP1 hD1 hS1 => ?_)
  have hcA : cA = cid t := by
    have g1 := (hK1.2 5 (cA, .object CC) rfl).2
    have g2 := (c8.1.2 ti _ (hty cid)).2
    obtain ⟨_, _, _, _, _, g3⟩ := g1
    obtain ⟨_, _, _, _, _, g4⟩ := g2
    exact Option.some.inj (Eq.trans (Eq.symm g3) g4)
  subst hcA
  refine W_new hP1 hD1 c9 hn (fun hq => ?_)
  subst hq
  have e0 : (fun i => (r n i).map (base + ·)) = (fun _ : Nat => (none : Option Nat)) := by
    funext i
    rw [hr i]
    rfl
  rw [← e0, ← cell_arq (m := m) hL ht.1 ht.2, wsof_push] at hP1
  have e1 : n - n0 + 1 = n + 1 - n0 := by omega
  have e2 : nsl n - nsl n0 + N = nsl (n + 1) - nsl n0 := by omega
  rw [e1, e2]
  exact h p l e R s mi args below meth c D base cid sa sv H1 locs ls x C hP1 hS1 hl (by omega) hnf hx
theorem J_aast {i : Int32} (a N t ti b ci : Nat) (hd : decode cc pc = .ok (.aastore, 1)) (hL : LAY a = (t, N)) (ht : ¬ t < 20 ∧ ¬ t < 23) (hci : ci < 10) (hty : ∀ cid : Nat → ClassId, (tysOf cid)[ti]? = some (cid t, .object (CN ci))) (hLb : (LAY b).1 = ci) (ha : a < n) (hb : b < n) (hi : vp_in i N) (h : J own cc nL ret nm fr lo n0 nf (pc + 1) (lv) (st) (n) (m) (upR r a i.toNatClampNeg (some b)) (o) (k)) : J own cc nL ret nm fr lo n0 nf (pc) (lv) (.ref b :: .int i :: .ref a :: st) (n) (m) (r) (o) (k) := by
  intro p l e R s mi args below meth c D base cid sa sv H locs ls x C hP hS hl hn hf hx
  obtain ⟨c1, c2, c3, c4, c5, c6, c7, c8, c9, c10, c11, c12, c13, c14⟩ := id C
  refine va_astq (r := (CN ci, CT ci, CK ci)) (f := fun i => (r a i).map (base + ·)) (v := base + b) c1 c2 c8.1 hP wsof_D hS a ti b ci (by rw [wsof_at ha, cell_arq hL ht.1 ht.2]) (hty cid) (by rw [wsof_at hb, cell_obj (lay_obj hLb hci) (by omega)]) (cls_at ci hci) hi hd (fun H1 locs1 hP1 _ hS1 => ?_)
  have e1 : (.inl (cid t, N, .inr (.inr (.inr (.inr (va_up (fun i => (r a i).map (base + ·)) i.toNatClampNeg (some (base + b))))))) : va_E) = cellOf base cid a m (upR r a i.toNatClampNeg (some b)) := by
    rw [cell_arq hL ht.1 ht.2, upR_self]
    congr 7
    funext q
    by_cases hq : q = i.toNatClampNeg <;> simp [va_up, hq]
  rw [e1, wsof_set (fun i hi => rfl) (fun i hi => upR_ne hi)] at hP1
  exact h p l e R s mi args below meth c D base cid sa sv H1 locs1 ls x C hP1 hS1 hl hn hf hx
end JK

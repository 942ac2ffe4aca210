def CN (c : Nat) : String := match c with
  | 0 => RX0
  | 1 => RX1
  | 2 => RX2
  | 3 => RX3
  | 4 => RX4
  | 5 => RX5
  | 6 => RX6
  | 7 => RX7
  | 8 => RX8
  | _ => RX9
def CT (c : Nat) : u_T := match c with
  | 0 => TX0
  | 1 => TX1
  | 2 => TX2
  | 3 => TX3
  | 4 => TX4
  | 5 => TX5
  | 6 => TX6
  | 7 => TX7
  | 8 => TX8
  | _ => TX9
def CK (c : Nat) : Nat := match c with
  | 0 => 7
  | 1 => 20
  | 2 => 10
  | 3 => 3
  | 4 => 10
  | 5 => 3
  | 6 => 2
  | 7 => 11
  | 8 => 13
  | _ => 42
theorem lt10 {P : Nat → Prop} (h : P 0 ∧ P 1 ∧ P 2 ∧ P 3 ∧ P 4 ∧ P 5 ∧ P 6 ∧ P 7 ∧ P 8 ∧ P 9) : ∀ c, c < 10 → P c := by
  intro c hc
  obtain ⟨h0, h1, h2, h3, h4, h5, h6, h7, h8, h9⟩ := h
  match c, hc with
  | 0, _ => exact h0
  | 1, _ => exact h1
  | 2, _ => exact h2
  | 3, _ => exact h3
  | 4, _ => exact h4
  | 5, _ => exact h5
  | 6, _ => exact h6
  | 7, _ => exact h7
  | 8, _ => exact h8
  | 9, _ => exact h9
  | c + 10, hc => exact absurd hc (by omega)
theorem cls_at : ∀ c, c < 10 → classes[c]? = some (CN c, CT c, CK c) := lt10 ⟨rfl, rfl, rfl, rfl, rfl, rfl, rfl, rfl, rfl, rfl⟩
theorem in_X0 : ∀ w ∈ u_ws RX0 TX0 7, w ∈ TBg := by decide +kernel
theorem in_X1 : ∀ w ∈ u_ws RX1 TX1 20, w ∈ TBg := by decide +kernel
theorem in_X2 : ∀ w ∈ u_ws RX2 TX2 10, w ∈ TBg := by decide +kernel
theorem in_X3 : ∀ w ∈ u_ws RX3 TX3 3, w ∈ TBg := by decide +kernel
theorem in_X4 : ∀ w ∈ u_ws RX4 TX4 10, w ∈ TBg := by decide +kernel
theorem in_X5 : ∀ w ∈ u_ws RX5 TX5 3, w ∈ TBg := by decide +kernel
theorem in_X6 : ∀ w ∈ u_ws RX6 TX6 2, w ∈ TBg := by decide +kernel
theorem in_X7 : ∀ w ∈ u_ws RX7 TX7 11, w ∈ TBg := by decide +kernel
theorem in_X8 : ∀ w ∈ u_ws RX8 TX8 13, w ∈ TBg := by decide +kernel
theorem in_X9 : ∀ w ∈ u_ws RX9 TX9 42, w ∈ TBg := by decide +kernel
theorem cls_in : ∀ c, c < 10 → ∀ w ∈ u_ws (CN c) (CT c) (CK c), w ∈ TBg := lt10 ⟨in_X0, in_X1, in_X2, in_X3, in_X4, in_X5, in_X6, in_X7, in_X8, in_X9⟩
theorem cls_ty : ∀ c, c < 10 → ∀ k, k < CK c → parseFieldDescriptor (CT c k).2.2.1 = some (tyT c k) := lt10 ⟨tyX0_ok, tyX1_ok, tyX2_ok, tyX3_ok, tyX4_ok, tyX5_ok, tyX6_ok, tyX7_ok, tyX8_ok, tyX9_ok⟩
theorem cls_nm : ∀ c, c < 10 → ∀ a, a < CK c → ∀ b, b < CK c → a ≠ b → (CT c a).2.1 ≠ (CT c b).2.1 := lt10 ⟨nmX0, nmX1, nmX2, nmX3, nmX4, nmX5, nmX6, nmX7, nmX8, nmX9⟩
theorem dc_X0 : ∀ k, k < 7 → (TX0 k).1 = RX0 := by decide +kernel
theorem dc_X1 : ∀ k, k < 20 → (TX1 k).1 = RX1 := by decide +kernel
theorem dc_X2 : ∀ k, k < 10 → (TX2 k).1 = RX2 := by decide +kernel
theorem dc_X3 : ∀ k, k < 3 → (TX3 k).1 = RX3 := by decide +kernel
theorem dc_X4 : ∀ k, k < 10 → (TX4 k).1 = RX4 := by decide +kernel
theorem dc_X5 : ∀ k, k < 3 → (TX5 k).1 = RX5 := by decide +kernel
theorem dc_X6 : ∀ k, k < 2 → (TX6 k).1 = RX6 := by decide +kernel
theorem dc_X7 : ∀ k, k < 11 → (TX7 k).1 = RX7 := by decide +kernel
theorem dc_X8 : ∀ k, k < 13 → (TX8 k).1 = RX8 := by decide +kernel
theorem dc_X9 : ∀ k, k < 42 → (TX9 k).1 = RX9 := by decide +kernel
theorem cls_dc : ∀ c, c < 10 → ∀ k, k < CK c → (CT c k).1 = CN c := lt10 ⟨dc_X0, dc_X1, dc_X2, dc_X3, dc_X4, dc_X5, dc_X6, dc_X7, dc_X8, dc_X9⟩
theorem lay_all : ∀ k, k < 135 → ((LAY k).1 < 10 → (LAY k).2 = CK (LAY k).1) := by decide +kernel
theorem lay_out {k : Nat} (h : ¬ k < 135) : LAY k = (20, 0) := by
  unfold LAY
  rw [List.getD_eq_getElem?_getD, List.getElem?_eq_none (by show LAYL.length ≤ k; have : LAYL.length = 135 := by decide +kernel
                                                            omega)]
  rfl
theorem lay_obj {k ci : Nat} (h : (LAY k).1 = ci) (hc : ci < 10) : LAY k = (ci, CK ci) := by
  by_cases hk : k < 135
  · subst h
    exact Prod.ext rfl (lay_all k hk hc)
  · rw [lay_out hk] at h
    have : (20 : Nat) = ci := h
    omega
/-- a link of a field: which class, which of its fields -/
def FL (own : String) (ix ci kf : Nat) : Prop := ci < 10 ∧ kf < CK ci ∧ Cond.fieldLink own ix (CN ci) (CT ci kf).2.1 (CT ci kf).2.2.1 ∈ TBg
theorem low_of {D : va_G} {base n n0 : Nat} {cid : Nat → ClassId} {m : Mm} {r : Rr} {H H0 : Heap} {locs : List Loc} (hP : va_P D classes (wsof base cid n m r) H) (hS : va_S (AB base) H0 H locs) (h0 : H0.size = base + n0) : base + n ≤ H.size := by
  by_cases hn : n = 0
  · have := hS.1
    omega
  · have h1 := (hP (n - 1) _ (wsof_at (by omega))).lt
    simp only at h1
    omega
section HR
variable {p : Program} {l : Launch} {e : Env} {R : Room} {s : State} {mi : MethodId} {args : Array Value} {below : List Frame} {meth : Method} {c : Code} {H : Heap} {locs : List Loc} {Q : State → Prop} {g : JFrame} {slots : Nat}
theorem W_size {D : va_G} {base n n0 : Nat} {cid : Nat → ClassId} {m : Mm} {r : Rr} (hP : va_P D classes (wsof base cid n m r) H) (hS : va_S (AB base) s.heap H locs) (h0 : s.heap.size = base + n0) (hn : n0 ≤ n)
    (k : H.size = base + n → W p l e R s mi args below meth c H locs (n - n0) slots Q g) : W p l e R s mi args below meth c H locs (n - n0) slots Q g := by
  intro T hT X
  have h1 := X.heapSize
  have h2 := low_of hP hS h0
  rw [hT] at h1
  exact k (by omega) T hT X
theorem W_new {D : va_G} {base n n0 q : Nat} {E : va_E} {cid : Nat → ClassId} {m : Mm} {r : Rr} (hP : va_P D classes (wsof base cid n m r ++ [(q, E)]) H) (hD : va_D (AB base) (wsof base cid n m r ++ [(q, E)])) (h0 : s.heap.size = base + n0) (hn : n0 ≤ n)
    (k : q = base + n → W p l e R s mi args below meth c H locs (n - n0 + 1) slots Q g) : W p l e R s mi args below meth c H locs (n - n0 + 1) slots Q g := by
  intro T hT X
  have h1 := X.heapSize
  rw [hT] at h1
  have hq : (wsof base cid n m r ++ [(q, E)])[n]? = some (q, E) := by
    rw [List.getElem?_append_right (by rw [wsof_len]; exact Nat.le_refl _), wsof_len, Nat.sub_self]
    rfl
  have h2 := (hP n _ hq).lt
  have h3 : base ≤ q := hD.2 n _ hq
  simp only at h2
  refine k ?_ T hT X
  by_cases he : q = base + n
  · exact he
  · have hlt : q - base < n := by omega
    have h4 : (wsof base cid n m r ++ [(q, E)])[q - base]? = some (base + (q - base), cellOf base cid (q - base) m r) := by
      rw [List.getElem?_append_left (by rw [wsof_len]; exact hlt)]
      exact wsof_at hlt
    have h5 := hD.1 (q - base) n _ _ h4 hq (by simp only; omega)
    omega
end HR

section JH
variable {own : String} {cc : ByteArray} {nL : Nat} {ret : Option FieldType} {nm : String} {fr lo n0 nf : Nat} {pc : Nat} {lv : List (Nat × Value)} {st : List Value} {n : Nat} {m : Mm} {r : Rr} {σ : Type} {o : Option σ} {k : σ → Option Res}
theorem J_getI {ix : Nat} (a ci kf : Nat) (hd : decode cc pc = .ok (.getfield ix, 3)) (hF : FL own ix ci kf) (hL : (LAY a).1 = ci) (hR : isR ci kf = false) (ha : a < n) (h : J own cc nL ret nm fr lo n0 nf (pc + 3) (lv) (.int (m a kf) :: st) (n) (m) (r) (o) (k)) : J own cc nL ret nm fr lo n0 nf (pc) (lv) (.ref a :: st) (n) (m) (r) (o) (k) := by
  intro p l e R s mi args below meth c D base cid sa sv H locs ls x C hP hS hl hn hf hx
  obtain ⟨c1, c2, c3, c4, c5, c6, c7, c8, c9, c10, c11, c12, c13, c14⟩ := id C
  obtain ⟨f1, f2, f3⟩ := hF
  have hLe := lay_obj hL f1
  exact va_get (D := D) (ci := ci) (v := .int (m a kf)) (C := CN ci) (T := CT ci) (N := CK ci) c1 c2 c6 (cls_in ci f1) c5 c8.1 hP a (by rw [wsof_at ha, cell_obj hLe (by omega)]) (cls_at ci f1) kf f2 (c6 _ f3) (fun x hx => by rw [cls_dc ci f1 kf f2] at hx; exact hx) (by simp [f2, fval, hR]) hd (h p l e R s mi args below meth c D base cid sa sv H locs ls x C hP hS hl hn hf hx)
theorem J_getR {ix : Nat} (a ci kf b : Nat) (hd : decode cc pc = .ok (.getfield ix, 3)) (hF : FL own ix ci kf) (hL : (LAY a).1 = ci) (hR : isR ci kf = true) (ha : a < n) (hb : r a kf = some b) (h : J own cc nL ret nm fr lo n0 nf (pc + 3) (lv) (.ref b :: st) (n) (m) (r) (o) (k)) : J own cc nL ret nm fr lo n0 nf (pc) (lv) (.ref a :: st) (n) (m) (r) (o) (k) := by
  intro p l e R s mi args below meth c D base cid sa sv H locs ls x C hP hS hl hn hf hx
  obtain ⟨c1, c2, c3, c4, c5, c6, c7, c8, c9, c10, c11, c12, c13, c14⟩ := id C
  obtain ⟨f1, f2, f3⟩ := hF
  have hLe := lay_obj hL f1
  exact va_get (D := D) (ci := ci) (v := .ref (base + b)) (C := CN ci) (T := CT ci) (N := CK ci) c1 c2 c6 (cls_in ci f1) c5 c8.1 hP a (by rw [wsof_at ha, cell_obj hLe (by omega)]) (cls_at ci f1) kf f2 (c6 _ f3) (fun x hx => by rw [cls_dc ci f1 kf f2] at hx; exact hx) (by simp [f2, fval, hR, hb, va_rf]) hd (h p l e R s mi args below meth c D base cid sa sv H locs ls x C hP hS hl hn hf hx)
theorem J_putI {ix : Nat} {v : Int32} {f : Mm → Option σ} (a ci kf : Nat) (hd : decode cc pc = .ok (.putfield ix, 3)) (hF : FL own ix ci kf) (hL : (LAY a).1 = ci) (hR : isR ci kf = false) (ha : a < n) (hfin : (CT ci kf).2.2.2 = false) (hnar : narrow (tyT ci kf) (.int v) = .int v) (hfit : fits (tyT ci kf) (.int v) = true) (h : ∀ m1, J own cc nL ret nm fr lo n0 nf (pc + 3) (lv) (st) (n) (m1) (r) (f m1) (k)) : J own cc nL ret nm fr lo n0 nf (pc) (lv) (.int v :: .ref a :: st) (n) (m) (r) (letv (up2 m a kf v) f) (k) := by
  intro p l e R s mi args below meth c D base cid sa sv H locs ls x C hP hS hl hn hf hx
  obtain ⟨c1, c2, c3, c4, c5, c6, c7, c8, c9, c10, c11, c12, c13, c14⟩ := id C
  obtain ⟨f1, f2, f3⟩ := hF
  have hLe := lay_obj hL f1
  have he : (wsof base cid n m r)[a]? = some (base + a, .inr (ci, (List.range (CK ci)).map (fun j => fval base ci j (m a j) (r a j)))) := by rw [wsof_at ha, cell_obj hLe (by omega)]
  refine va_put (D := D) (ci := ci) (v := .int v) (ty := tyT ci kf) (C := CN ci) (T := CT ci) (N := CK ci) c1 c2 c6 (cls_in ci f1) (tyT ci) (cls_ty ci f1) (cls_nm ci f1) c5 c8.1 hP wsof_D hS a he (cls_at ci f1) kf f2 (c6 _ f3) (fun x hx => by rw [cls_dc ci f1 kf f2] at hx; exact hx) hfin (cls_ty ci f1 kf f2) hnar hfit (by simpa using f2) hd (fun H1 locs1 hP1 _ hS1 => ?_)
  rw [cell_putI (cid := cid) hLe (by omega) hR, wsof_set (fun i hi => up2_ne hi) (fun i hi => rfl)] at hP1
  exact h _ p l e R s mi args below meth c D base cid sa sv H1 locs1 ls x C hP1 hS1 hl hn hf hx
theorem J_putIF {ix : Nat} {v : Int32} {f : Mm → Option σ} (a ci kf : Nat) (hd : decode cc pc = .ok (.putfield ix, 3)) (hF : FL own ix ci kf) (hL : (LAY a).1 = ci) (hR : isR ci kf = false) (ha : a < n) (hfin : (CT ci kf).2.2.2 = true) (hini : nm = "<init>") (hown : CN ci = own) (hnar : narrow (tyT ci kf) (.int v) = .int v) (hfit : fits (tyT ci kf) (.int v) = true) (h : ∀ m1, J own cc nL ret nm fr lo n0 nf (pc + 3) (lv) (st) (n) (m1) (r) (f m1) (k)) : J own cc nL ret nm fr lo n0 nf (pc) (lv) (.int v :: .ref a :: st) (n) (m) (r) (letv (up2 m a kf v) f) (k) := by
  intro p l e R s mi args below meth c D base cid sa sv H locs ls x C hP hS hl hn hf hx
  obtain ⟨c1, c2, c3, c4, c5, c6, c7, c8, c9, c10, c11, c12, c13, c14⟩ := id C
  obtain ⟨f1, f2, f3⟩ := hF
  have hLe := lay_obj hL f1
  have he : (wsof base cid n m r)[a]? = some (base + a, .inr (ci, (List.range (CK ci)).map (fun j => fval base ci j (m a j) (r a j)))) := by rw [wsof_at ha, cell_obj hLe (by omega)]
  refine va_putF (D := D) (ci := ci) (v := .int v) (ty := tyT ci kf) (C := CN ci) (T := CT ci) (N := CK ci) c1 c2 c6 (cls_in ci f1) (tyT ci) (cls_ty ci f1) (cls_nm ci f1) c5 c8.1 hP wsof_D hS a he (cls_at ci f1) kf f2 (c6 _ f3) (fun x hx => by rw [cls_dc ci f1 kf f2] at hx; exact hx) hfin (c14.trans hini) ((cls_dc ci f1 kf f2).trans hown) (cls_ty ci f1 kf f2) hnar hfit (by simpa using f2) hd (fun H1 locs1 hP1 _ hS1 => ?_)
  rw [cell_putI (cid := cid) hLe (by omega) hR, wsof_set (fun i hi => up2_ne hi) (fun i hi => rfl)] at hP1
  exact h _ p l e R s mi args below meth c D base cid sa sv H1 locs1 ls x C hP1 hS1 hl hn hf hx
theorem J_putR {ix : Nat} (a ci kf b : Nat) (hd : decode cc pc = .ok (.putfield ix, 3)) (hF : FL own ix ci kf) (hL : (LAY a).1 = ci) (hR : isR ci kf = true) (ha : a < n) (hfin : (CT ci kf).2.2.2 = false) (hnar : ∀ z : Nat, narrow (tyT ci kf) (.ref z) = .ref z) (hfit : ∀ z : Nat, fits (tyT ci kf) (.ref z) = true) (h : J own cc nL ret nm fr lo n0 nf (pc + 3) (lv) (st) (n) (m) (upR r a kf (some b)) (o) (k)) : J own cc nL ret nm fr lo n0 nf (pc) (lv) (.ref b :: .ref a :: st) (n) (m) (r) (o) (k) := by
  intro p l e R s mi args below meth c D base cid sa sv H locs ls x C hP hS hl hn hf hx
  obtain ⟨c1, c2, c3, c4, c5, c6, c7, c8, c9, c10, c11, c12, c13, c14⟩ := id C
  obtain ⟨f1, f2, f3⟩ := hF
  have hLe := lay_obj hL f1
  have he : (wsof base cid n m r)[a]? = some (base + a, .inr (ci, (List.range (CK ci)).map (fun j => fval base ci j (m a j) (r a j)))) := by rw [wsof_at ha, cell_obj hLe (by omega)]
  refine va_put (D := D) (ci := ci) (v := .ref (base + b)) (ty := tyT ci kf) (C := CN ci) (T := CT ci) (N := CK ci) c1 c2 c6 (cls_in ci f1) (tyT ci) (cls_ty ci f1) (cls_nm ci f1) c5 c8.1 hP wsof_D hS a he (cls_at ci f1) kf f2 (c6 _ f3) (fun x hx => by rw [cls_dc ci f1 kf f2] at hx; exact hx) hfin (cls_ty ci f1 kf f2) (hnar _) (hfit _) (by simpa using f2) hd (fun H1 locs1 hP1 _ hS1 => ?_)
  rw [cell_putR (cid := cid) hLe (by omega) hR, wsof_set (fun i hi => rfl) (fun i hi => upR_ne hi)] at hP1
  exact h p l e R s mi args below meth c D base cid sa sv H1 locs1 ls x C hP1 hS1 hl hn hf hx
theorem J_putRF {ix : Nat} (a ci kf b : Nat) (hd : decode cc pc = .ok (.putfield ix, 3)) (hF : FL own ix ci kf) (hL : (LAY a).1 = ci) (hR : isR ci kf = true) (ha : a < n) (hfin : (CT ci kf).2.2.2 = true) (hini : nm = "<init>") (hown : CN ci = own) (hnar : ∀ z : Nat, narrow (tyT ci kf) (.ref z) = .ref z) (hfit : ∀ z : Nat, fits (tyT ci kf) (.ref z) = true) (h : J own cc nL ret nm fr lo n0 nf (pc + 3) (lv) (st) (n) (m) (upR r a kf (some b)) (o) (k)) : J own cc nL ret nm fr lo n0 nf (pc) (lv) (.ref b :: .ref a :: st) (n) (m) (r) (o) (k) := by
  intro p l e R s mi args below meth c D base cid sa sv H locs ls x C hP hS hl hn hf hx
  obtain ⟨c1, c2, c3, c4, c5, c6, c7, c8, c9, c10, c11, c12, c13, c14⟩ := id C
  obtain ⟨f1, f2, f3⟩ := hF
  have hLe := lay_obj hL f1
  have he : (wsof base cid n m r)[a]? = some (base + a, .inr (ci, (List.range (CK ci)).map (fun j => fval base ci j (m a j) (r a j)))) := by rw [wsof_at ha, cell_obj hLe (by omega)]
  refine va_putF (D := D) (ci := ci) (v := .ref (base + b)) (ty := tyT ci kf) (C := CN ci) (T := CT ci) (N := CK ci) c1 c2 c6 (cls_in ci f1) (tyT ci) (cls_ty ci f1) (cls_nm ci f1) c5 c8.1 hP wsof_D hS a he (cls_at ci f1) kf f2 (c6 _ f3) (fun x hx => by rw [cls_dc ci f1 kf f2] at hx; exact hx) hfin (c14.trans hini) ((cls_dc ci f1 kf f2).trans hown) (cls_ty ci f1 kf f2) (hnar _) (hfit _) (by simpa using f2) hd (fun H1 locs1 hP1 _ hS1 => ?_)
  rw [cell_putR (cid := cid) hLe (by omega) hR, wsof_set (fun i hi => rfl) (fun i hi => upR_ne hi)] at hP1
  exact h p l e R s mi args below meth c D base cid sa sv H1 locs1 ls x C hP1 hS1 hl hn hf hx
theorem J_iald {i : Int32} {f : Int32 → Option σ} (a N : Nat) (hd : decode cc pc = .ok (.iaload, 1)) (hL : LAY a = (20, N)) (ha : a < n) (h : ∀ z, J own cc nL ret nm fr lo n0 nf (pc + 1) (lv) (.int z :: st) (n) (m) (r) (f z) (k)) : J own cc nL ret nm fr lo n0 nf (pc) (lv) (.int i :: .ref a :: st) (n) (m) (r) ((ald m a N i).bind f) (k) := by
  intro p l e R s mi args below meth c D base cid sa sv H locs ls x C hP hS hl hn hf hx
  obtain ⟨c1, c2, c3, c4, c5, c6, c7, c8, c9, c10, c11, c12, c13, c14⟩ := id C
  by_cases hi : i < 0 ∨ N ≤ i.toNatClampNeg
  · rw [ald, if_pos hi] at hx
    cases hx
  · rw [ald, if_neg hi] at hx
    exact va_iald (f := m a) c1 c2 c8.1 hP a 0 (by rw [wsof_at ha, cell_arr hL (by decide) (by decide)]) rfl hi hd (h _ p l e R s mi args below meth c D base cid sa sv H locs ls x C hP hS hl hn hf hx)
theorem J_bald {i : Int32} {f : Int32 → Option σ} (a N : Nat) (hd : decode cc pc = .ok (.baload, 1)) (hL : LAY a = (21, N)) (ha : a < n) (h : ∀ z, J own cc nL ret nm fr lo n0 nf (pc + 1) (lv) (.int z :: st) (n) (m) (r) (f z) (k)) : J own cc nL ret nm fr lo n0 nf (pc) (lv) (.int i :: .ref a :: st) (n) (m) (r) ((ald m a N i).bind f) (k) := by
  intro p l e R s mi args below meth c D base cid sa sv H locs ls x C hP hS hl hn hf hx
  obtain ⟨c1, c2, c3, c4, c5, c6, c7, c8, c9, c10, c11, c12, c13, c14⟩ := id C
  by_cases hi : i < 0 ∨ N ≤ i.toNatClampNeg
  · rw [ald, if_pos hi] at hx
    cases hx
  · rw [ald, if_neg hi] at hx
    exact va_bald (f := m a) c1 c2 c8.1 hP a 1 (by rw [wsof_at ha, cell_arr hL (by decide) (by decide)]) rfl hi hd (h _ p l e R s mi args below meth c D base cid sa sv H locs ls x C hP hS hl hn hf hx)
theorem J_zald {i : Int32} {f : Int32 → Option σ} (a N : Nat) (hd : decode cc pc = .ok (.baload, 1)) (hL : LAY a = (22, N)) (ha : a < n) (h : ∀ z, J own cc nL ret nm fr lo n0 nf (pc + 1) (lv) (.int z :: st) (n) (m) (r) (f z) (k)) : J own cc nL ret nm fr lo n0 nf (pc) (lv) (.int i :: .ref a :: st) (n) (m) (r) ((ald m a N i).bind f) (k) := by
  intro p l e R s mi args below meth c D base cid sa sv H locs ls x C hP hS hl hn hf hx
  obtain ⟨c1, c2, c3, c4, c5, c6, c7, c8, c9, c10, c11, c12, c13, c14⟩ := id C
  by_cases hi : i < 0 ∨ N ≤ i.toNatClampNeg
  · rw [ald, if_pos hi] at hx
    cases hx
  · rw [ald, if_neg hi] at hx
    exact va_zald (f := m a) c1 c2 c8.1 hP a 2 (by rw [wsof_at ha, cell_arr hL (by decide) (by decide)]) rfl hi hd (h _ p l e R s mi args below meth c D base cid sa sv H locs ls x C hP hS hl hn hf hx)
theorem J_iast {i v : Int32} {f : Mm → Option σ} (a N : Nat) (hd : decode cc pc = .ok (.iastore, 1)) (hL : LAY a = (20, N)) (ha : a < n) (h : ∀ m1, J own cc nL ret nm fr lo n0 nf (pc + 1) (lv) (st) (n) (m1) (r) (f m1) (k)) : J own cc nL ret nm fr lo n0 nf (pc) (lv) (.int v :: .int i :: .ref a :: st) (n) (m) (r) ((ast m a N i (v)).bind f) (k) := by
  intro p l e R s mi args below meth c D base cid sa sv H locs ls x C hP hS hl hn hf hx
  obtain ⟨c1, c2, c3, c4, c5, c6, c7, c8, c9, c10, c11, c12, c13, c14⟩ := id C
  by_cases hi : i < 0 ∨ N ≤ i.toNatClampNeg
  · rw [ast, if_pos hi] at hx
    cases hx
  · rw [ast, if_neg hi] at hx
    refine va_iast (f := m a) c1 c2 c8.1 hP wsof_D hS a 0 (by rw [wsof_at ha, cell_arr hL (by decide) (by decide)]) rfl hi hd (fun H1 locs1 hP1 _ hS1 => ?_)
    have e1 : (.inl (cid 20, N, .inl (upd (m a) i.toNatClampNeg (v))) : va_E) = cellOf base cid a (up2 m a i.toNatClampNeg (v)) r := by
      rw [cell_arr hL (by decide) (by decide), up2_self]
    rw [e1, wsof_set (fun i hi => up2_ne hi) (fun i hi => rfl)] at hP1
    exact h _ p l e R s mi args below meth c D base cid sa sv H1 locs1 ls x C hP1 hS1 hl hn hf hx
theorem J_bast {i v : Int32} {f : Mm → Option σ} (a N : Nat) (hd : decode cc pc = .ok (.bastore, 1)) (hL : LAY a = (21, N)) (ha : a < n) (h : ∀ m1, J own cc nL ret nm fr lo n0 nf (pc + 1) (lv) (st) (n) (m1) (r) (f m1) (k)) : J own cc nL ret nm fr lo n0 nf (pc) (lv) (.int v :: .int i :: .ref a :: st) (n) (m) (r) ((ast m a N i (vp_nar .byte v)).bind f) (k) := by
  intro p l e R s mi args below meth c D base cid sa sv H locs ls x C hP hS hl hn hf hx
  obtain ⟨c1, c2, c3, c4, c5, c6, c7, c8, c9, c10, c11, c12, c13, c14⟩ := id C
  by_cases hi : i < 0 ∨ N ≤ i.toNatClampNeg
  · rw [ast, if_pos hi] at hx
    cases hx
  · rw [ast, if_neg hi] at hx
    refine va_bast (f := m a) c1 c2 c8.1 hP wsof_D hS a 1 (by rw [wsof_at ha, cell_arr hL (by decide) (by decide)]) rfl hi hd (fun H1 locs1 hP1 _ hS1 => ?_)
    have e1 : (.inl (cid 21, N, .inl (upd (m a) i.toNatClampNeg (vp_nar .byte v))) : va_E) = cellOf base cid a (up2 m a i.toNatClampNeg (vp_nar .byte v)) r := by
      rw [cell_arr hL (by decide) (by decide), up2_self]
    rw [e1, wsof_set (fun i hi => up2_ne hi) (fun i hi => rfl)] at hP1
    exact h _ p l e R s mi args below meth c D base cid sa sv H1 locs1 ls x C hP1 hS1 hl hn hf hx
theorem J_zast {i v : Int32} {f : Mm → Option σ} (a N : Nat) (hd : decode cc pc = .ok (.bastore, 1)) (hL : LAY a = (22, N)) (ha : a < n) (h : ∀ m1, J own cc nL ret nm fr lo n0 nf (pc + 1) (lv) (st) (n) (m1) (r) (f m1) (k)) : J own cc nL ret nm fr lo n0 nf (pc) (lv) (.int v :: .int i :: .ref a :: st) (n) (m) (r) ((ast m a N i (vp_nar .boolean v)).bind f) (k) := by
  intro p l e R s mi args below meth c D base cid sa sv H locs ls x C hP hS hl hn hf hx
  obtain ⟨c1, c2, c3, c4, c5, c6, c7, c8, c9, c10, c11, c12, c13, c14⟩ := id C
  by_cases hi : i < 0 ∨ N ≤ i.toNatClampNeg
  · rw [ast, if_pos hi] at hx
    cases hx
  · rw [ast, if_neg hi] at hx
    refine va_zast (f := m a) c1 c2 c8.1 hP wsof_D hS a 2 (by rw [wsof_at ha, cell_arr hL (by decide) (by decide)]) rfl hi hd (fun H1 locs1 hP1 _ hS1 => ?_)
    have e1 : (.inl (cid 22, N, .inl (upd (m a) i.toNatClampNeg (vp_nar .boolean v))) : va_E) = cellOf base cid a (up2 m a i.toNatClampNeg (vp_nar .boolean v)) r := by
      rw [cell_arr hL (by decide) (by decide), up2_self]
    rw [e1, wsof_set (fun i hi => up2_ne hi) (fun i hi => rfl)] at hP1
    exact h _ p l e R s mi args below meth c D base cid sa sv H1 locs1 ls x C hP1 hS1 hl hn hf hx
theorem J_aald {i : Int32} {f : Nat → Option σ} (a N t ti : Nat) {CC : String} (hd : decode cc pc = .ok (.aaload, 1)) (hL : LAY a = (t, N)) (ht : ¬ t < 20 ∧ ¬ t < 23) (hty : ∀ cid : Nat → ClassId, (tysOf cid)[ti]? = some (cid t, .object CC)) (ha : a < n) (h : ∀ b, r a i.toNatClampNeg = some b → J own cc nL ret nm fr lo n0 nf (pc + 1) (lv) (.ref b :: st) (n) (m) (r) (f b) (k)) : J own cc nL ret nm fr lo n0 nf (pc) (lv) (.int i :: .ref a :: st) (n) (m) (r) ((aldR r a N i).bind f) (k) := by
  intro p l e R s mi args below meth c D base cid sa sv H locs ls x C hP hS hl hn hf hx
  obtain ⟨c1, c2, c3, c4, c5, c6, c7, c8, c9, c10, c11, c12, c13, c14⟩ := id C
  by_cases hi : i < 0 ∨ N ≤ i.toNatClampNeg
  · rw [aldR, if_pos hi] at hx
    cases hx
  · rw [aldR, if_neg hi] at hx
    cases hb : r a i.toNatClampNeg with
    | none => rw [hb] at hx; cases hx
    | some b =>
      rw [hb] at hx
      have h1 := h b hb p l e R s mi args below meth c D base cid sa sv H locs ls x C hP hS hl hn hf hx
      refine va_aldq (f := fun i => (r a i).map (base + ·)) c1 c2 c8.1 hP a ti (by rw [wsof_at ha, cell_arq hL ht.1 ht.2]) (hty cid) hi hd ?_
      simp only [hb, Option.map_some, va_rf]
      exact h1
end JH

theorem tb {w : Cond} (i : Nat) (h : tables_1[i]? = some w) (hg : goodWord w = true) : w ∈ TBg := TBg_in (List.mem_append_right _ (List.mem_of_getElem? h)) hg
theorem tbN {w : Cond} (i : Nat) (h : tables_1[i]? = some w) (hg : isNest w = true) : w ∈ NWl := List.mem_filter.mpr ⟨List.mem_append_right _ (List.mem_of_getElem? h), hg⟩
theorem tbP {y : MethodName} {k : Nat} (i : Nat) (h : lw_privs[i]? = some (y, k)) (hg : goodWord (Cond.selects y.cls y y) = true) : Cond.selects y.cls y y ∈ TBg := TBg_in (List.mem_append_left _ (List.mem_map.mpr ⟨(y, k), List.mem_of_getElem? h, rfl⟩)) hg
def bG (v : Int32) : Option Int32 := if v = 0 ∨ v = 1 then some v else none
theorem sum_all {α β : Type} {Q : α ⊕ β → Prop} (h1 : ∀ a, Q (Sum.inl a)) (h2 : ∀ b, Q (Sum.inr b)) : ∀ y, Q y := fun y => match y with
  | .inl a => h1 a
  | .inr b => h2 b
section JB
variable {own : String} {cc : ByteArray} {nL : Nat} {ret : Option FieldType} {nm : String} {fr lo n0 nf : Nat} {pc : Nat} {lv : List (Nat × Value)} {st : List Value} {n : Nat} {m : Mm} {r : Rr} {σ : Type} {o : Option σ} {k : σ → Option Res}
theorem J_lv (ks : List Nat) {lw : List (Nat × Value)} (hk : lv_pick lv ks = lw) (h : J own cc nL ret nm fr lo n0 nf (pc) (lw) (st) (n) (m) (r) (o) (k)) : J own cc nL ret nm fr lo n0 nf (pc) (lv) (st) (n) (m) (r) (o) (k) := by
  intro p l e R s mi args below meth c D base cid sa sv H locs ls x C hP hS hl hn hf hx
  refine h p l e R s mi args below meth c D base cid sa sv H locs ls x C hP hS (lv_sub hl ks ?_) hn hf hx
  rw [← hk]
  simp only [lv_pick, lvR]
  rw [List.map_filterMap]
  congr 1
  funext i
  simp [List.getElem?_map]
theorem J_seqJ {ρ : Type} {o1 : Option ρ} {f : ρ → Option σ} (pj : Nat) (LV : ρ → List (Nat × Value)) (SV : ρ → List Value) (MV1 : ρ → Mm) (hj : ∀ y, J own cc nL ret nm fr lo n0 nf pj (LV y) (SV y) n (MV1 y) r (f y) k)
    (hb : ∀ k1 : ρ → Option Res, (∀ y, J own cc nL ret nm fr lo n0 nf pj (LV y) (SV y) n (MV1 y) r (some y) k1) → J own cc nL ret nm fr lo n0 nf (pc) (lv) (st) (n) (m) (r) (o1) (k1)) : J own cc nL ret nm fr lo n0 nf (pc) (lv) (st) (n) (m) (r) (o1.bind f) (k) :=
  J_seq (hb _ (fun y => J_end (hj y)))
theorem J_letJ {ρ : Type} {g : ρ → Option σ} {b : (ρ → Option σ) → Option σ} (pj : Nat) (LV : ρ → List (Nat × Value)) (SV : ρ → List Value) (MV1 : ρ → Mm) (hj : ∀ y, J own cc nL ret nm fr lo n0 nf pj (LV y) (SV y) n (MV1 y) r (g y) k)
    (hb : ∀ jp : ρ → Option σ, (∀ y, J own cc nL ret nm fr lo n0 nf pj (LV y) (SV y) n (MV1 y) r (jp y) k) → J own cc nL ret nm fr lo n0 nf (pc) (lv) (st) (n) (m) (r) (b jp) (k)) : J own cc nL ret nm fr lo n0 nf (pc) (lv) (st) (n) (m) (r) (letv g b) (k) := hb g hj
theorem J_loop {τ ρ : Type} {b : τ → Option (τ ⊕ ρ)} {f : ρ → Option σ} (Lv : τ → List (Nat × Value)) (Mv : τ → Mm) (PE : ρ → Nat) (LE : ρ → List (Nat × Value)) (SE : ρ → List Value) (ME : ρ → Mm)
    (hx : ∀ y, J own cc nL ret nm fr lo n0 nf (PE y) (LE y) (SE y) n (ME y) r (f y) k)
    (hb : ∀ (t : τ) (k' : τ ⊕ ρ → Option Res), (∀ t', J own cc nL ret nm fr lo n0 nf pc (Lv t') st n (Mv t') r (some (Sum.inl t' : τ ⊕ ρ)) k') → (∀ y : ρ, J own cc nL ret nm fr lo n0 nf (PE y) (LE y) (SE y) n (ME y) r (some (Sum.inr y : τ ⊕ ρ)) k') → J own cc nL ret nm fr lo n0 nf pc (Lv t) st n (Mv t) r (b t) k') :
    ∀ (F : Nat) (t : τ), J own cc nL ret nm fr lo n0 nf pc (Lv t) st n (Mv t) r ((iter F b t).bind f) k := by
  intro F t
  refine J_iter (Lv := Lv) (Mv := Mv) (f := f) (fun t k' h1 h2 => hb t k' h1 (fun y => h2 y _ _ _ _ (hx y))) F t
theorem J_iretP {v : Int32} (hd : decode cc pc = .ok (.ireturn, 1)) (hr : ret = some .int) (hnf : n = nf) : J own cc nL ret nm fr lo n0 nf pc lv [.int v] n m r (some v) (fun z => some ((some (.int z), m, r) : Res)) := J_iret (lv := lv) hd hr hnf
theorem J_iretI {v : Int32} (hd : decode cc pc = .ok (.ireturn, 1)) (hr : ret = some .int) (hnf : n = nf) : J own cc nL ret nm fr lo n0 nf pc lv [.int v] n m r (some (v, m)) (fun q : Int32 × Mm => some ((some (.int q.1), q.2, r) : Res)) := J_iret (lv := lv) hd hr hnf
theorem J_zretP {v : Int32} {ty : FieldType} (hd : decode cc pc = .ok (.ireturn, 1)) (hr : ret = some ty) (hw : narrow ty (.int v) = .int v) (hnf : n = nf) : J own cc nL ret nm fr lo n0 nf pc lv [.int v] n m r (some v) (fun z => some ((some (.int z), m, r) : Res)) := J_zret (lv := lv) hd hr hw hnf
theorem J_zretI {v : Int32} {ty : FieldType} (hd : decode cc pc = .ok (.ireturn, 1)) (hr : ret = some ty) (hw : narrow ty (.int v) = .int v) (hnf : n = nf) : J own cc nL ret nm fr lo n0 nf pc lv [.int v] n m r (some (v, m)) (fun q : Int32 × Mm => some ((some (.int q.1), q.2, r) : Res)) := J_zret (lv := lv) hd hr hw hnf
theorem J_bretP {v : Int32} (hd : decode cc pc = .ok (.ireturn, 1)) (hr : ret = some .boolean) (hnf : n = nf) : J own cc nL ret nm fr lo n0 nf pc lv [.int v] n m r (bG v) (fun z => some ((some (.int z), m, r) : Res)) := by
  by_cases h : v = 0 ∨ v = 1
  · rw [bG, if_pos h]
    refine J_zretP hd hr ?_ hnf
    rcases h with rfl | rfl <;> rfl
  · rw [bG, if_neg h]
    exact J_none
theorem J_bretI {v : Int32} (hd : decode cc pc = .ok (.ireturn, 1)) (hr : ret = some .boolean) (hnf : n = nf) : J own cc nL ret nm fr lo n0 nf pc lv [.int v] n m r ((bG v).bind fun z => some (z, m)) (fun q : Int32 × Mm => some ((some (.int q.1), q.2, r) : Res)) := by
  by_cases h : v = 0 ∨ v = 1
  · rw [bG, if_pos h]
    refine J_zretI hd hr ?_ hnf
    rcases h with rfl | rfl <;> rfl
  · rw [bG, if_neg h]
    exact J_none
theorem J_vretV (hd : decode cc pc = .ok (.return_, 1)) (hr : ret = none) (hnf : n = nf) : J own cc nL ret nm fr lo n0 nf pc lv [] n m r (some m) (fun q : Mm => some ((none, q, r) : Res)) := J_vret (lv := lv) hd hr hnf
theorem Ct.ofP {y : MethodName} {av : List Value} {oi : Option Int32} (lw : List (Nat × Value)) (hy : plainName y.cls = true) (hav : (lg_sl av).length ≤ nL) (hown : y.cls = own) (hnm : y.name = nm) (hlv : lv_args 0 av = lw) (h : J own cc nL ret nm fr lo n n 0 lw [] n m r oi (fun z => some ((some (.int z), m, r) : Res))) : Ct y cc nL ret fr lo av n n m r (rP m r oi) := by
  subst hown; subst hnm; subst hlv
  refine Ct.of hy (Nat.le_refl _) hav ?_
  intro p l e R s mi args below meth c D base cid sa sv H locs ls x C hP hS hl hn hf hx
  refine h p l e R s mi args below meth c D base cid sa sv H locs ls x C hP hS hl hn hf ?_
  rw [← hx]
  cases oi <;> rfl
theorem Ct.ofI {y : MethodName} {av : List Value} {oi : Option (Int32 × Mm)} (lw : List (Nat × Value)) (hy : plainName y.cls = true) (hav : (lg_sl av).length ≤ nL) (hown : y.cls = own) (hnm : y.name = nm) (hlv : lv_args 0 av = lw) (h : J own cc nL ret nm fr lo n n 0 lw [] n m r oi (fun q : Int32 × Mm => some ((some (.int q.1), q.2, r) : Res))) : Ct y cc nL ret fr lo av n n m r (rI r oi) := by
  subst hown; subst hnm; subst hlv
  refine Ct.of hy (Nat.le_refl _) hav ?_
  intro p l e R s mi args below meth c D base cid sa sv H locs ls x C hP hS hl hn hf hx
  refine h p l e R s mi args below meth c D base cid sa sv H locs ls x C hP hS hl hn hf ?_
  rw [← hx]
  cases oi <;> rfl
theorem Ct.ofV {y : MethodName} {av : List Value} {oi : Option Mm} {rz : Rr} (lw : List (Nat × Value)) (hy : plainName y.cls = true) (hav : (lg_sl av).length ≤ nL) (hown : y.cls = own) (hnm : y.name = nm) (hlv : lv_args 0 av = lw) (h : J own cc nL ret nm fr lo n n 0 lw [] n m r oi (fun q : Mm => some ((none, q, rz) : Res))) : Ct y cc nL ret fr lo av n n m r (rV rz oi) := by
  subst hown; subst hnm; subst hlv
  refine Ct.of hy (Nat.le_refl _) hav ?_
  intro p l e R s mi args below meth c D base cid sa sv H locs ls x C hP hS hl hn hf hx
  refine h p l e R s mi args below meth c D base cid sa sv H locs ls x C hP hS hl hn hf ?_
  rw [← hx]
  cases oi <;> rfl
end JB
def RFL : List (List (Option Nat)) := [[some 1, some 4, some 18, some 32, some 33, some 34, some 39, some 40, some 42], [some 2, none, none, none, none, some 3], [], [], [none, none, none, none, some 5, some 6, some 7, some 8, some 9, some 10, some 17], [], [], [], [], [], [none, some 11, some 12, some 13, some 14, some 15, some 16], [], [], [], [], [], [], [], [none, none, none, none, some 19, some 20, some 21, some 22, some 23, some 24, some 31], [], [], [], [], [], [none, some 25, some 26, some 27, some 28, some 29, some 30], [], [], [], [], [], [], [], [some 77, some 91], [], [none, none, some 35, some 36, some 37, some 38], [], [], [], [], [], [none, some 41], [], [some 105, some 107, some 109, some 111], [none, none, none, none, some 44, some 45, some 46, some 47, some 48, some 49, some 50, some 51, some 52, some 53, some 54, some 55, some 56, some 57, some 58, some 59], [], [], [], [], [], [], [], [], [], [], [], [], [], [], [], [], [none, none, none, none, some 61, some 62, some 63, some 64, some 65, some 66, some 67, some 68, some 69, some 70, some 71, some 72, some 73, some 74, some 75, some 76], [], [], [], [], [], [], [], [], [], [], [], [], [], [], [], [], [none, none, none, none, some 78, some 79, some 80, some 81, some 82, some 83, some 90], [], [], [], [], [], [none, some 84, some 85, some 86, some 87, some 88, some 89], [], [], [], [], [], [], [], [none, none, none, none, some 92, some 93, some 94, some 95, some 96, some 97, some 104], [], [], [], [], [], [none, some 98, some 99, some 100, some 101, some 102, some 103], [], [], [], [], [], [], [], [none, none, some 106], [], [none, none, some 108], [], [none, none, some 110], [], [none, none, some 112], [], [some 114, some 115, none, some 116, none, some 117, none, some 118, none, some 119, some 120, none, some 121, none, some 122, none, some 123, none, some 124, some 125, some 126, some 127, none, none, none, none, none, none, none, none, none, some 128, some 129, some 130, none, none, none, some 131, some 132, some 133, some 134], [], [], [], [], [], [], [], [], [], [], [], [], [], [], [], [], [], [], [], [], []]
def RF (P D : Nat) (T : Option Nat) : Rr := fun a k => if a = 0 ∧ k = 9 then some P else if a = 0 ∧ k = 10 then some D else if a = 1 ∧ k = 6 then T else (RFL.getD a []).getD k none
theorem RF_set {P D q : Nat} {T : Option Nat} : upR (RF P D T) 1 6 (some q) = RF P D (some q) := by
  funext a k
  by_cases ha : a = 1
  · subst ha
    rw [upR_self]
    by_cases hk : k = 6
    · subst hk
      simp [va_up, RF]
    · simp [va_up, RF, hk]
  · rw [upR_ne ha]
    simp [RF, ha]
def isSt (S : Nat) : Prop := S = 4 ∨ S = 18 ∨ S = 77 ∨ S = 91
theorem le_St {S : Nat} (h : isSt S) : S + 14 ≤ 113 := by
  rcases h with rfl | rfl | rfl | rfl <;> decide
theorem lay_St_0 {S : Nat} (h : isSt S) : LAY S = (7, 11) := by
  rcases h with rfl | rfl | rfl | rfl <;> rfl
theorem layc_St_0 {S : Nat} (h : isSt S) : (LAY S).1 = 7 := by
  rcases h with rfl | rfl | rfl | rfl <;> rfl
theorem lt_St_0 {S n : Nat} (h : isSt S) (hn : 113 ≤ n) : S < n := by
  have := le_St h
  omega
theorem rf_St_0_4 {S P D : Nat} {T : Option Nat} (h : isSt S) : RF P D T S 4 = some (S + 1) := by
  rcases h with rfl | rfl | rfl | rfl <;> rfl
theorem rf_St_0_5 {S P D : Nat} {T : Option Nat} (h : isSt S) : RF P D T S 5 = some (S + 2) := by
  rcases h with rfl | rfl | rfl | rfl <;> rfl
theorem rf_St_0_6 {S P D : Nat} {T : Option Nat} (h : isSt S) : RF P D T S 6 = some (S + 3) := by
  rcases h with rfl | rfl | rfl | rfl <;> rfl
theorem rf_St_0_7 {S P D : Nat} {T : Option Nat} (h : isSt S) : RF P D T S 7 = some (S + 4) := by
  rcases h with rfl | rfl | rfl | rfl <;> rfl
theorem rf_St_0_8 {S P D : Nat} {T : Option Nat} (h : isSt S) : RF P D T S 8 = some (S + 5) := by
  rcases h with rfl | rfl | rfl | rfl <;> rfl
theorem rf_St_0_9 {S P D : Nat} {T : Option Nat} (h : isSt S) : RF P D T S 9 = some (S + 6) := by
  rcases h with rfl | rfl | rfl | rfl <;> rfl
theorem rf_St_0_10 {S P D : Nat} {T : Option Nat} (h : isSt S) : RF P D T S 10 = some (S + 13) := by
  rcases h with rfl | rfl | rfl | rfl <;> rfl
theorem lay_St_1 {S : Nat} (h : isSt S) : LAY (S + 1) = (20, 8) := by
  rcases h with rfl | rfl | rfl | rfl <;> rfl
theorem lt_St_1 {S n : Nat} (h : isSt S) (hn : 113 ≤ n) : (S + 1) < n := by
  have := le_St h
  omega
theorem lay_St_2 {S : Nat} (h : isSt S) : LAY (S + 2) = (20, 8) := by
  rcases h with rfl | rfl | rfl | rfl <;> rfl
theorem lt_St_2 {S n : Nat} (h : isSt S) (hn : 113 ≤ n) : (S + 2) < n := by
  have := le_St h
  omega
theorem lay_St_3 {S : Nat} (h : isSt S) : LAY (S + 3) = (20, 10) := by
  rcases h with rfl | rfl | rfl | rfl <;> rfl
theorem lt_St_3 {S n : Nat} (h : isSt S) (hn : 113 ≤ n) : (S + 3) < n := by
  have := le_St h
  omega
theorem lay_St_4 {S : Nat} (h : isSt S) : LAY (S + 4) = (20, 4) := by
  rcases h with rfl | rfl | rfl | rfl <;> rfl
theorem lt_St_4 {S n : Nat} (h : isSt S) (hn : 113 ≤ n) : (S + 4) < n := by
  have := le_St h
  omega
theorem lay_St_5 {S : Nat} (h : isSt S) : LAY (S + 5) = (20, 3) := by
  rcases h with rfl | rfl | rfl | rfl <;> rfl
theorem lt_St_5 {S n : Nat} (h : isSt S) (hn : 113 ≤ n) : (S + 5) < n := by
  have := le_St h
  omega
theorem lay_St_6 {S : Nat} (h : isSt S) : LAY (S + 6) = (0, 7) := by
  rcases h with rfl | rfl | rfl | rfl <;> rfl
theorem layc_St_6 {S : Nat} (h : isSt S) : (LAY (S + 6)).1 = 0 := by
  rcases h with rfl | rfl | rfl | rfl <;> rfl
theorem lt_St_6 {S n : Nat} (h : isSt S) (hn : 113 ≤ n) : (S + 6) < n := by
  have := le_St h
  omega
theorem rf_St_6_1 {S P D : Nat} {T : Option Nat} (h : isSt S) : RF P D T (S + 6) 1 = some (S + 7) := by
  rcases h with rfl | rfl | rfl | rfl <;> rfl
theorem rf_St_6_2 {S P D : Nat} {T : Option Nat} (h : isSt S) : RF P D T (S + 6) 2 = some (S + 8) := by
  rcases h with rfl | rfl | rfl | rfl <;> rfl
theorem rf_St_6_3 {S P D : Nat} {T : Option Nat} (h : isSt S) : RF P D T (S + 6) 3 = some (S + 9) := by
  rcases h with rfl | rfl | rfl | rfl <;> rfl
theorem rf_St_6_4 {S P D : Nat} {T : Option Nat} (h : isSt S) : RF P D T (S + 6) 4 = some (S + 10) := by
  rcases h with rfl | rfl | rfl | rfl <;> rfl
theorem rf_St_6_5 {S P D : Nat} {T : Option Nat} (h : isSt S) : RF P D T (S + 6) 5 = some (S + 11) := by
  rcases h with rfl | rfl | rfl | rfl <;> rfl
theorem rf_St_6_6 {S P D : Nat} {T : Option Nat} (h : isSt S) : RF P D T (S + 6) 6 = some (S + 12) := by
  rcases h with rfl | rfl | rfl | rfl <;> rfl
theorem lay_St_7 {S : Nat} (h : isSt S) : LAY (S + 7) = (20, 12) := by
  rcases h with rfl | rfl | rfl | rfl <;> rfl
theorem lt_St_7 {S n : Nat} (h : isSt S) (hn : 113 ≤ n) : (S + 7) < n := by
  have := le_St h
  omega
theorem lay_St_8 {S : Nat} (h : isSt S) : LAY (S + 8) = (20, 12) := by
  rcases h with rfl | rfl | rfl | rfl <;> rfl
theorem lt_St_8 {S n : Nat} (h : isSt S) (hn : 113 ≤ n) : (S + 8) < n := by
  have := le_St h
  omega
theorem lay_St_9 {S : Nat} (h : isSt S) : LAY (S + 9) = (20, 12) := by
  rcases h with rfl | rfl | rfl | rfl <;> rfl
theorem lt_St_9 {S n : Nat} (h : isSt S) (hn : 113 ≤ n) : (S + 9) < n := by
  have := le_St h
  omega
theorem lay_St_10 {S : Nat} (h : isSt S) : LAY (S + 10) = (20, 12) := by
  rcases h with rfl | rfl | rfl | rfl <;> rfl
theorem lt_St_10 {S n : Nat} (h : isSt S) (hn : 113 ≤ n) : (S + 10) < n := by
  have := le_St h
  omega
theorem lay_St_11 {S : Nat} (h : isSt S) : LAY (S + 11) = (20, 12) := by
  rcases h with rfl | rfl | rfl | rfl <;> rfl
theorem lt_St_11 {S n : Nat} (h : isSt S) (hn : 113 ≤ n) : (S + 11) < n := by
  have := le_St h
  omega
theorem lay_St_12 {S : Nat} (h : isSt S) : LAY (S + 12) = (20, 12) := by
  rcases h with rfl | rfl | rfl | rfl <;> rfl
theorem lt_St_12 {S n : Nat} (h : isSt S) (hn : 113 ≤ n) : (S + 12) < n := by
  have := le_St h
  omega
theorem lay_St_13 {S : Nat} (h : isSt S) : LAY (S + 13) = (3, 3) := by
  rcases h with rfl | rfl | rfl | rfl <;> rfl
theorem layc_St_13 {S : Nat} (h : isSt S) : (LAY (S + 13)).1 = 3 := by
  rcases h with rfl | rfl | rfl | rfl <;> rfl
theorem lt_St_13 {S n : Nat} (h : isSt S) (hn : 113 ≤ n) : (S + 13) < n := by
  have := le_St h
  omega
def isPl (S : Nat) : Prop := S = 43 ∨ S = 60
theorem le_Pl {S : Nat} (h : isPl S) : S + 17 ≤ 113 := by
  rcases h with rfl | rfl <;> decide
theorem lay_Pl_0 {S : Nat} (h : isPl S) : LAY S = (1, 20) := by
  rcases h with rfl | rfl <;> rfl
theorem layc_Pl_0 {S : Nat} (h : isPl S) : (LAY S).1 = 1 := by
  rcases h with rfl | rfl <;> rfl
theorem lt_Pl_0 {S n : Nat} (h : isPl S) (hn : 113 ≤ n) : S < n := by
  have := le_Pl h
  omega
theorem rf_Pl_0_4 {S P D : Nat} {T : Option Nat} (h : isPl S) : RF P D T S 4 = some (S + 1) := by
  rcases h with rfl | rfl <;> rfl
theorem rf_Pl_0_5 {S P D : Nat} {T : Option Nat} (h : isPl S) : RF P D T S 5 = some (S + 2) := by
  rcases h with rfl | rfl <;> rfl
theorem rf_Pl_0_6 {S P D : Nat} {T : Option Nat} (h : isPl S) : RF P D T S 6 = some (S + 3) := by
  rcases h with rfl | rfl <;> rfl
theorem rf_Pl_0_7 {S P D : Nat} {T : Option Nat} (h : isPl S) : RF P D T S 7 = some (S + 4) := by
  rcases h with rfl | rfl <;> rfl
theorem rf_Pl_0_8 {S P D : Nat} {T : Option Nat} (h : isPl S) : RF P D T S 8 = some (S + 5) := by
  rcases h with rfl | rfl <;> rfl
theorem rf_Pl_0_9 {S P D : Nat} {T : Option Nat} (h : isPl S) : RF P D T S 9 = some (S + 6) := by
  rcases h with rfl | rfl <;> rfl
theorem rf_Pl_0_10 {S P D : Nat} {T : Option Nat} (h : isPl S) : RF P D T S 10 = some (S + 7) := by
  rcases h with rfl | rfl <;> rfl
theorem rf_Pl_0_11 {S P D : Nat} {T : Option Nat} (h : isPl S) : RF P D T S 11 = some (S + 8) := by
  rcases h with rfl | rfl <;> rfl
theorem rf_Pl_0_12 {S P D : Nat} {T : Option Nat} (h : isPl S) : RF P D T S 12 = some (S + 9) := by
  rcases h with rfl | rfl <;> rfl
theorem rf_Pl_0_13 {S P D : Nat} {T : Option Nat} (h : isPl S) : RF P D T S 13 = some (S + 10) := by
  rcases h with rfl | rfl <;> rfl
theorem rf_Pl_0_14 {S P D : Nat} {T : Option Nat} (h : isPl S) : RF P D T S 14 = some (S + 11) := by
  rcases h with rfl | rfl <;> rfl
theorem rf_Pl_0_15 {S P D : Nat} {T : Option Nat} (h : isPl S) : RF P D T S 15 = some (S + 12) := by
  rcases h with rfl | rfl <;> rfl
theorem rf_Pl_0_16 {S P D : Nat} {T : Option Nat} (h : isPl S) : RF P D T S 16 = some (S + 13) := by
  rcases h with rfl | rfl <;> rfl
theorem rf_Pl_0_17 {S P D : Nat} {T : Option Nat} (h : isPl S) : RF P D T S 17 = some (S + 14) := by
  rcases h with rfl | rfl <;> rfl
theorem rf_Pl_0_18 {S P D : Nat} {T : Option Nat} (h : isPl S) : RF P D T S 18 = some (S + 15) := by
  rcases h with rfl | rfl <;> rfl
theorem rf_Pl_0_19 {S P D : Nat} {T : Option Nat} (h : isPl S) : RF P D T S 19 = some (S + 16) := by
  rcases h with rfl | rfl <;> rfl
theorem lay_Pl_1 {S : Nat} (h : isPl S) : LAY (S + 1) = (20, 8) := by
  rcases h with rfl | rfl <;> rfl
theorem lt_Pl_1 {S n : Nat} (h : isPl S) (hn : 113 ≤ n) : (S + 1) < n := by
  have := le_Pl h
  omega
theorem lay_Pl_2 {S : Nat} (h : isPl S) : LAY (S + 2) = (20, 8) := by
  rcases h with rfl | rfl <;> rfl
theorem lt_Pl_2 {S n : Nat} (h : isPl S) (hn : 113 ≤ n) : (S + 2) < n := by
  have := le_Pl h
  omega
theorem lay_Pl_3 {S : Nat} (h : isPl S) : LAY (S + 3) = (20, 8) := by
  rcases h with rfl | rfl <;> rfl
theorem lt_Pl_3 {S n : Nat} (h : isPl S) (hn : 113 ≤ n) : (S + 3) < n := by
  have := le_Pl h
  omega
theorem lay_Pl_4 {S : Nat} (h : isPl S) : LAY (S + 4) = (20, 8) := by
  rcases h with rfl | rfl <;> rfl
theorem lt_Pl_4 {S n : Nat} (h : isPl S) (hn : 113 ≤ n) : (S + 4) < n := by
  have := le_Pl h
  omega
theorem lay_Pl_5 {S : Nat} (h : isPl S) : LAY (S + 5) = (20, 10) := by
  rcases h with rfl | rfl <;> rfl
theorem lt_Pl_5 {S n : Nat} (h : isPl S) (hn : 113 ≤ n) : (S + 5) < n := by
  have := le_Pl h
  omega
theorem lay_Pl_6 {S : Nat} (h : isPl S) : LAY (S + 6) = (20, 10) := by
  rcases h with rfl | rfl <;> rfl
theorem lt_Pl_6 {S n : Nat} (h : isPl S) (hn : 113 ≤ n) : (S + 6) < n := by
  have := le_Pl h
  omega
theorem lay_Pl_7 {S : Nat} (h : isPl S) : LAY (S + 7) = (20, 10) := by
  rcases h with rfl | rfl <;> rfl
theorem lt_Pl_7 {S n : Nat} (h : isPl S) (hn : 113 ≤ n) : (S + 7) < n := by
  have := le_Pl h
  omega
theorem lay_Pl_8 {S : Nat} (h : isPl S) : LAY (S + 8) = (20, 10) := by
  rcases h with rfl | rfl <;> rfl
theorem lt_Pl_8 {S n : Nat} (h : isPl S) (hn : 113 ≤ n) : (S + 8) < n := by
  have := le_Pl h
  omega
theorem lay_Pl_9 {S : Nat} (h : isPl S) : LAY (S + 9) = (20, 10) := by
  rcases h with rfl | rfl <;> rfl
theorem lt_Pl_9 {S n : Nat} (h : isPl S) (hn : 113 ≤ n) : (S + 9) < n := by
  have := le_Pl h
  omega
theorem lay_Pl_10 {S : Nat} (h : isPl S) : LAY (S + 10) = (20, 10) := by
  rcases h with rfl | rfl <;> rfl
theorem lt_Pl_10 {S n : Nat} (h : isPl S) (hn : 113 ≤ n) : (S + 10) < n := by
  have := le_Pl h
  omega
theorem lay_Pl_11 {S : Nat} (h : isPl S) : LAY (S + 11) = (20, 4) := by
  rcases h with rfl | rfl <;> rfl
theorem lt_Pl_11 {S n : Nat} (h : isPl S) (hn : 113 ≤ n) : (S + 11) < n := by
  have := le_Pl h
  omega
theorem lay_Pl_12 {S : Nat} (h : isPl S) : LAY (S + 12) = (20, 4) := by
  rcases h with rfl | rfl <;> rfl
theorem lt_Pl_12 {S n : Nat} (h : isPl S) (hn : 113 ≤ n) : (S + 12) < n := by
  have := le_Pl h
  omega
theorem lay_Pl_13 {S : Nat} (h : isPl S) : LAY (S + 13) = (20, 4) := by
  rcases h with rfl | rfl <;> rfl
theorem lt_Pl_13 {S n : Nat} (h : isPl S) (hn : 113 ≤ n) : (S + 13) < n := by
  have := le_Pl h
  omega
theorem lay_Pl_14 {S : Nat} (h : isPl S) : LAY (S + 14) = (20, 3) := by
  rcases h with rfl | rfl <;> rfl
theorem lt_Pl_14 {S n : Nat} (h : isPl S) (hn : 113 ≤ n) : (S + 14) < n := by
  have := le_Pl h
  omega
theorem lay_Pl_15 {S : Nat} (h : isPl S) : LAY (S + 15) = (20, 3) := by
  rcases h with rfl | rfl <;> rfl
theorem lt_Pl_15 {S n : Nat} (h : isPl S) (hn : 113 ≤ n) : (S + 15) < n := by
  have := le_Pl h
  omega
theorem lay_Pl_16 {S : Nat} (h : isPl S) : LAY (S + 16) = (20, 5) := by
  rcases h with rfl | rfl <;> rfl
theorem lt_Pl_16 {S n : Nat} (h : isPl S) (hn : 113 ≤ n) : (S + 16) < n := by
  have := le_Pl h
  omega
def isSh (S : Nat) : Prop := S = 105 ∨ S = 107 ∨ S = 109 ∨ S = 111
theorem le_Sh {S : Nat} (h : isSh S) : S + 2 ≤ 113 := by
  rcases h with rfl | rfl | rfl | rfl <;> decide
theorem lay_Sh_0 {S : Nat} (h : isSh S) : LAY S = (5, 3) := by
  rcases h with rfl | rfl | rfl | rfl <;> rfl
theorem layc_Sh_0 {S : Nat} (h : isSh S) : (LAY S).1 = 5 := by
  rcases h with rfl | rfl | rfl | rfl <;> rfl
theorem lt_Sh_0 {S n : Nat} (h : isSh S) (hn : 113 ≤ n) : S < n := by
  have := le_Sh h
  omega
theorem rf_Sh_0_2 {S P D : Nat} {T : Option Nat} (h : isSh S) : RF P D T S 2 = some (S + 1) := by
  rcases h with rfl | rfl | rfl | rfl <;> rfl
theorem lay_Sh_1 {S : Nat} (h : isSh S) : LAY (S + 1) = (20, 40) := by
  rcases h with rfl | rfl | rfl | rfl <;> rfl
theorem lt_Sh_1 {S n : Nat} (h : isSh S) (hn : 113 ≤ n) : (S + 1) < n := by
  have := le_Sh h
  omega
def isOr (S : Nat) : Prop := S = 10 ∨ S = 24 ∨ S = 83 ∨ S = 97
theorem le_Or {S : Nat} (h : isOr S) : S + 7 ≤ 113 := by
  rcases h with rfl | rfl | rfl | rfl <;> decide
theorem lay_Or_0 {S : Nat} (h : isOr S) : LAY S = (0, 7) := by
  rcases h with rfl | rfl | rfl | rfl <;> rfl
theorem layc_Or_0 {S : Nat} (h : isOr S) : (LAY S).1 = 0 := by
  rcases h with rfl | rfl | rfl | rfl <;> rfl
theorem lt_Or_0 {S n : Nat} (h : isOr S) (hn : 113 ≤ n) : S < n := by
  have := le_Or h
  omega
theorem rf_Or_0_1 {S P D : Nat} {T : Option Nat} (h : isOr S) : RF P D T S 1 = some (S + 1) := by
  rcases h with rfl | rfl | rfl | rfl <;> rfl
theorem rf_Or_0_2 {S P D : Nat} {T : Option Nat} (h : isOr S) : RF P D T S 2 = some (S + 2) := by
  rcases h with rfl | rfl | rfl | rfl <;> rfl
theorem rf_Or_0_3 {S P D : Nat} {T : Option Nat} (h : isOr S) : RF P D T S 3 = some (S + 3) := by
  rcases h with rfl | rfl | rfl | rfl <;> rfl
theorem rf_Or_0_4 {S P D : Nat} {T : Option Nat} (h : isOr S) : RF P D T S 4 = some (S + 4) := by
  rcases h with rfl | rfl | rfl | rfl <;> rfl
theorem rf_Or_0_5 {S P D : Nat} {T : Option Nat} (h : isOr S) : RF P D T S 5 = some (S + 5) := by
  rcases h with rfl | rfl | rfl | rfl <;> rfl
theorem rf_Or_0_6 {S P D : Nat} {T : Option Nat} (h : isOr S) : RF P D T S 6 = some (S + 6) := by
  rcases h with rfl | rfl | rfl | rfl <;> rfl
theorem lay_Or_1 {S : Nat} (h : isOr S) : LAY (S + 1) = (20, 12) := by
  rcases h with rfl | rfl | rfl | rfl <;> rfl
theorem lt_Or_1 {S n : Nat} (h : isOr S) (hn : 113 ≤ n) : (S + 1) < n := by
  have := le_Or h
  omega
theorem lay_Or_2 {S : Nat} (h : isOr S) : LAY (S + 2) = (20, 12) := by
  rcases h with rfl | rfl | rfl | rfl <;> rfl
theorem lt_Or_2 {S n : Nat} (h : isOr S) (hn : 113 ≤ n) : (S + 2) < n := by
  have := le_Or h
  omega
theorem lay_Or_3 {S : Nat} (h : isOr S) : LAY (S + 3) = (20, 12) := by
  rcases h with rfl | rfl | rfl | rfl <;> rfl
theorem lt_Or_3 {S n : Nat} (h : isOr S) (hn : 113 ≤ n) : (S + 3) < n := by
  have := le_Or h
  omega
theorem lay_Or_4 {S : Nat} (h : isOr S) : LAY (S + 4) = (20, 12) := by
  rcases h with rfl | rfl | rfl | rfl <;> rfl
theorem lt_Or_4 {S n : Nat} (h : isOr S) (hn : 113 ≤ n) : (S + 4) < n := by
  have := le_Or h
  omega
theorem lay_Or_5 {S : Nat} (h : isOr S) : LAY (S + 5) = (20, 12) := by
  rcases h with rfl | rfl | rfl | rfl <;> rfl
theorem lt_Or_5 {S n : Nat} (h : isOr S) (hn : 113 ≤ n) : (S + 5) < n := by
  have := le_Or h
  omega
theorem lay_Or_6 {S : Nat} (h : isOr S) : LAY (S + 6) = (20, 12) := by
  rcases h with rfl | rfl | rfl | rfl <;> rfl
theorem lt_Or_6 {S n : Nat} (h : isOr S) (hn : 113 ≤ n) : (S + 6) < n := by
  have := le_Or h
  omega
def isSc (S : Nat) : Prop := S = 17 ∨ S = 31 ∨ S = 90 ∨ S = 104 ∨ S = 39
theorem le_Sc {S : Nat} (h : isSc S) : S + 1 ≤ 113 := by
  rcases h with rfl | rfl | rfl | rfl | rfl <;> decide
theorem lay_Sc_0 {S : Nat} (h : isSc S) : LAY S = (3, 3) := by
  rcases h with rfl | rfl | rfl | rfl | rfl <;> rfl
theorem layc_Sc_0 {S : Nat} (h : isSc S) : (LAY S).1 = 3 := by
  rcases h with rfl | rfl | rfl | rfl | rfl <;> rfl
theorem lt_Sc_0 {S n : Nat} (h : isSc S) (hn : 113 ≤ n) : S < n := by
  have := le_Sc h
  omega
theorem or_St {S : Nat} (h : isSt S) : isOr (S + 6) := by
  rcases h with rfl | rfl | rfl | rfl <;> simp [isOr]
theorem sc_St {S : Nat} (h : isSt S) : isSc (S + 13) := by
  rcases h with rfl | rfl | rfl | rfl <;> simp [isSc]
def isWt (w : Nat) : Prop := LAY w = (20, 8) ∧ w < 113
theorem wt_St {S : Nat} (h : isSt S) : isWt (S + 1) := ⟨lay_St_1 h, by have := le_St h; omega⟩
theorem st_img {P D : Nat} {T : Option Nat} {i : Nat} {b : Nat} (h : RF P D T 32 i = some b) : isSt b := by
  match i, h with
  | 0, h => cases h; simp [isSt]
  | 1, h => cases h; simp [isSt]
  | i + 2, h => simp [RF, RFL] at h
theorem sh_sheets {P D : Nat} {T : Option Nat} {i : Nat} {b : Nat} (h : RF P D T 42 i = some b) : isSh b := by
  match i, h with
  | 0, h => cases h; simp [isSh]
  | 1, h => cases h; simp [isSh]
  | 2, h => cases h; simp [isSh]
  | 3, h => cases h; simp [isSh]
  | i + 4, h => simp [RF, RFL] at h

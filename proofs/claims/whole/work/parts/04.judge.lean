def isNest : Cond → Bool
  | .methodLinkNest _ _ _ _ => true
  | .arrayOver (.object _) => true
  | _ => false
def NWl : List Cond := lw_tbl.filter isNest
abbrev AB (base : Nat) : Nat → Prop := fun q => base ≤ q
def SX (base : Nat) (sa sv : Nat → Nat) (U : State) : Prop :=
  vk_S nS lenS bytS sa sv (AB base) U U.heap ∧ (∀ i, i < nS → vk_R RX2 (idS.getD i 0) (txS.getD i "") (sa i) U) ∧ va_Z "java/lang/String" "COMPACT_STRINGS" "Z" (.int 1) (AB base) U U.heap ∧ va_Zq "jdk/internal/util/Preconditions" "SIOOBE_FORMATTER" "Ljava/util/function/BiFunction;" (AB base) U U.heap
def StU (D : va_G) (base : Nat) (cid : Nat → ClassId) (sa sv : Nat → Nat) (U : State) : Prop := va_K D classes (tysOf cid) U ∧ (∀ w ∈ NWl, va_Nw w U) ∧ SX base sa sv U
theorem StU.to {D : va_G} {base : Nat} {cid : Nat → ClassId} {sa sv : Nat → Nat} {s U : State} (h : StU D base cid sa sv s) (hW : s.WarmedH U.vm) (hq : ∀ a : Nat, a < s.heap.size → ¬ AB base a → U.heap[a]? = s.heap[a]?) : StU D base cid sa sv U := by
  obtain ⟨h1, h2, h3, h4, h5, h6⟩ := h
  refine ⟨va_K.moved hW.alike h1, fun w hw => ?_, ((h3.moved hW.alike).kept hq), fun i hi => (h4 i hi).warm hW, (h5.moved hW.alike).kept hq, (h6.moved hW.alike).kept hq⟩
  have hn := (List.mem_filter.mp hw).2
  have h0 := h2 w hw
  clear hw
  cases w <;> first | exact va_Nw.warmM hW h0 | (cases hn; done) | (rename_i ty; cases ty <;> first | exact va_AO.moved hW.alike h0 | cases hn)
def MC (own : String) (cc : ByteArray) (nL : Nat) (ret : Option FieldType) (nm : String) (fr lo n0 nf : Nat) (p : Program) (R : Room) (s : State) (mi : MethodId) (args : Array Value) (meth : Method) (c : Code) (D : va_G) (base : Nat) (cid : Nat → ClassId) (sa sv : Nat → Nat) : Prop :=
  p.tables.exec = Jvm.exec ∧ c.code = cc ∧ meth.sig.returnType = ret ∧ c.maxLocals = nL ∧ s.vm.findClass own = some mi.cls ∧ (∀ w ∈ TBg, w.before args s = true) ∧ meth.locks = false ∧ StU D base cid sa sv s ∧ s.heap.size = base + n0 ∧ fr ≤ R.frames ∧ lo ≤ R.locals ∧ nf - n0 ≤ R.cells ∧ nsl nf - nsl n0 ≤ R.slots ∧ meth.name = nm
def QR (base : Nat) (sa : Nat → Nat) (cid : Nat → ClassId) (D : va_G) (nf : Nat) (x : Res) : Array Value → State → Outcome → State → Prop := fun _ st oc t =>
  oc = .returned (x.1.map (rv base sa)) ∧ va_P D classes (wsof base cid nf x.2.1 x.2.2) t.heap ∧ va_F (AB base) st t
/-- from the frame at pc, over the abstract cells n m r: if the value o, and k behind it, come to a result, the machine comes to it -/
def J (own : String) (cc : ByteArray) (nL : Nat) (ret : Option FieldType) (nm : String) (fr lo n0 nf : Nat) (pc : Nat) (lv : List (Nat × Value)) (st : List Value) (n : Nat) (m : Mm) (r : Rr) {σ : Type} (o : Option σ) (k : σ → Option Res) : Prop :=
  ∀ (p : Program) (l : Launch) (e : Env) (R : Room) (s : State) (mi : MethodId) (args : Array Value) (below : List Frame) (meth : Method) (c : Code) (D : va_G) (base : Nat) (cid : Nat → ClassId) (sa sv : Nat → Nat) (H : Heap) (locs : List Loc) (ls : Array Slot) (x : Res),
    MC own cc nL ret nm fr lo n0 nf p R s mi args meth c D base cid sa sv → va_P D classes (wsof base cid n m r) H → va_S (AB base) s.heap H locs → lv_has ls nL (lvR base sa lv) → n0 ≤ n → n ≤ nf → o.bind k = some x →
    W p l e R s mi args below meth c H locs (n - n0) (nsl n - nsl n0) (MQ below (QR base sa cid D nf x) args s (nf - n0) (nsl nf - nsl n0) (AB base)) (F0 mi pc ls (st.map (rv base sa)))
def Ct (y : MethodName) (cc : ByteArray) (nL : Nat) (ret : Option FieldType) (fr lo : Nat) (av : List Value) (n n' : Nat) (m : Mm) (r : Rr) (o : Option Res) : Prop :=
  ∀ (l : Launch) (D : va_G) (base : Nat) (cid : Nat → ClassId) (sa sv : Nat → Nat) (x : Res), o = some x →
    Met l y (Cond.code y cc nL ret :: TBg) { frames := fr, cells := n' - n, slots := nsl n' - nsl n, locals := lo } (va_Pc (av.map (rv base sa)) (fun U => U.heap.size = base + n ∧ va_P D classes (wsof base cid n m r) U.heap ∧ StU D base cid sa sv U)) (QR base sa cid D n' x) (n' - n) (nsl n' - nsl n) (AB base)
theorem lvargs_R (base : Nat) (sa : Nat → Nat) : ∀ (av : List Value) (i : Nat), lv_args i (av.map (rv base sa)) = lvR base sa (lv_args i av)
  | [], _ => rfl
  | v :: vs, i => by
    simp only [List.map_cons, lv_args, lvR, rv_cat]
    rw [lvargs_R base sa vs]
    rfl
theorem lgsl_len (base : Nat) (sa : Nat → Nat) : ∀ (av : List Value), (lg_sl (av.map (rv base sa))).length = (lg_sl av).length
  | [] => rfl
  | v :: vs => by
    have ih := lgsl_len base sa vs
    simp only [lg_sl] at ih ⊢
    simp only [List.map_cons, List.flatMap_cons, List.length_append, ih, rv_cat]
    by_cases h : v.category = 2 <;> simp [h]
theorem Ct.of {y : MethodName} {cc : ByteArray} {nL : Nat} {ret : Option FieldType} {fr lo : Nat} {av : List Value} {n n' : Nat} {m : Mm} {r : Rr} {o : Option Res} (hy : plainName y.cls = true) (hn : n ≤ n') (hav : (lg_sl av).length ≤ nL)
    (h : J y.cls cc nL ret y.name fr lo n n' 0 (lv_args 0 av) [] n m r o some) : Ct y cc nL ret fr lo av n n' m r o := by
  intro l D base cid sa sv x hx
  refine Met.ofW (cc := cc) (maxL := nL) (ret := ret) hy rfl ?_
  intro p e s mi args below meth c s₁ B hml hv
  obtain ⟨rfl, hsz, hP, hSt⟩ := hv
  have hts := atoms_spec (ws := Cond.code y cc nL ret :: TBg) B.pre
  have hown : s.vm.findClass y.cls = some mi.cls := findClass_of_methodNamed B.named
  have hl := lv_entry (av.map (rv base sa)) (n := nL) (by rw [lgsl_len]; exact hav)
  rw [lg_entry_eq]
  generalize (lg_sl (av.map (rv base sa)) ++ List.replicate (nL - (lg_sl (av.map (rv base sa))).length) Slot.unset).toArray = ls at hl ⊢
  rw [lvargs_R] at hl
  have key := h p l e { frames := fr, cells := n' - n, slots := nsl n' - nsl n, locals := lo } s mi ((av.map (rv base sa)).toArray) below meth c D base cid sa sv s.heap [] ls x ⟨B.exec, B.bytes, B.returns, hml, hown, fun w hw => hts w (List.mem_cons_of_mem _ hw), B.notSynchronized, hSt, hsz, Nat.le_refl _, Nat.le_refl _, Nat.le_refl _, Nat.le_refl _, (name_of_methodNamed B.named B.method).1⟩ hP va_S.rf hl (Nat.le_refl _) hn (by rw [hx]; rfl)
  rw [Nat.sub_self, Nat.sub_self] at key
  exact key
def letv {α β : Type} (a : α) (f : α → β) : β := f a
def ald (m : Mm) (a N : Nat) (i : Int32) : Option Int32 := if i < 0 ∨ N ≤ i.toNatClampNeg then none else some (m a i.toNatClampNeg)
def ast (m : Mm) (a N : Nat) (i v : Int32) : Option Mm := if i < 0 ∨ N ≤ i.toNatClampNeg then none else some (up2 m a i.toNatClampNeg v)
def aldR (r : Rr) (a N : Nat) (i : Int32) : Option Nat := if i < 0 ∨ N ≤ i.toNatClampNeg then none else r a i.toNatClampNeg
def odiv (x y : Int32) : Option Int32 := if y = 0 then none else some (x / y)
def orem (x y : Int32) : Option Int32 := if y = 0 then none else some (x - x / y * y)
def iter {σ ρ : Type} : Nat → (σ → Option (σ ⊕ ρ)) → σ → Option ρ
  | 0, _, _ => none
  | F + 1, b, s => (b s).bind (Sum.elim (iter F b) some)

section JR
variable {own : String} {cc : ByteArray} {nL : Nat} {ret : Option FieldType} {nm : String} {fr lo n0 nf : Nat} {pc : Nat} {lv : List (Nat × Value)} {st : List Value} {n : Nat} {m : Mm} {r : Rr} {σ : Type} {o : Option σ} {k : σ → Option Res}
theorem J_none {σ : Type} {k : σ → Option Res} : J own cc nL ret nm fr lo n0 nf pc lv st n m r (none : Option σ) k := by
  intro p l e R s mi args below meth c D base cid sa sv H locs ls x C hP hS hl hn hf hx
  cases hx
theorem lvR_at {base : Nat} {sa : Nat → Nat} {lv : List (Nat × Value)} {j i : Nat} {v : Value} (h : lv[j]? = some (i, v)) : (lvR base sa lv)[j]? = some (i, rv base sa v) := by
  simp [lvR, h]
theorem lvR_st {base : Nat} {sa : Nat → Nat} {lv lv' : List (Nat × Value)} {i : Nat} {v : Value} (h : (i, v) :: lv.filter (fun q => !(q.1 == i) && !(q.1 + 1 == i && q.2.category == 2)) = lv') : (i, rv base sa v) :: (lvR base sa lv).filter (fun q => !(q.1 == i) && !(q.1 + 1 == i && q.2.category == 2)) = lvR base sa lv' := by
  subst h
  simp only [lvR, List.map_cons, List.filter_map]
  congr 2
  apply List.filter_congr
  intro q _
  simp [rv_cat]
theorem lvR_stL {base : Nat} {sa : Nat → Nat} {lv lv' : List (Nat × Value)} {i : Nat} {v : Value} (h : (i, v) :: lv.filter (fun q => !(q.1 == i) && (!(q.1 == i + 1) && !(q.1 + 1 == i && q.2.category == 2))) = lv') : (i, rv base sa v) :: (lvR base sa lv).filter (fun q => !(q.1 == i) && (!(q.1 == i + 1) && !(q.1 + 1 == i && q.2.category == 2))) = lvR base sa lv' := by
  subst h
  simp only [lvR, List.map_cons, List.filter_map]
  congr 2
  apply List.filter_congr
  intro q _
  simp [rv_cat]

theorem J_iconst {z : Int} (v : Int32) (hd : decode cc pc = .ok (.iconst z, 1)) (hv : Int32.ofInt z = v) (h : J own cc nL ret nm fr lo n0 nf (pc + 1) (lv) (.int v :: st) (n) (m) (r) (o) (k)) : J own cc nL ret nm fr lo n0 nf (pc) (lv) (st) (n) (m) (r) (o) (k) := by
  intro p l e R s mi args below meth c D base cid sa sv H locs ls x C hP hS hl hn hf hx
  exact lv_iconst C.1 C.2.1 hd hv (h p l e R s mi args below meth c D base cid sa sv H locs ls x C hP hS hl hn hf hx)
theorem J_bipush {z : Int} (v : Int32) (hd : decode cc pc = .ok (.bipush z, 2)) (hv : (Int8.ofInt z).toInt32 = v) (h : J own cc nL ret nm fr lo n0 nf (pc + 2) (lv) (.int v :: st) (n) (m) (r) (o) (k)) : J own cc nL ret nm fr lo n0 nf (pc) (lv) (st) (n) (m) (r) (o) (k) := by
  intro p l e R s mi args below meth c D base cid sa sv H locs ls x C hP hS hl hn hf hx
  exact lv_bipush C.1 C.2.1 hd hv (h p l e R s mi args below meth c D base cid sa sv H locs ls x C hP hS hl hn hf hx)
theorem J_sipush {z : Int} (v : Int32) (hd : decode cc pc = .ok (.sipush z, 3)) (hv : (Int16.ofInt z).toInt32 = v) (h : J own cc nL ret nm fr lo n0 nf (pc + 3) (lv) (.int v :: st) (n) (m) (r) (o) (k)) : J own cc nL ret nm fr lo n0 nf (pc) (lv) (st) (n) (m) (r) (o) (k) := by
  intro p l e R s mi args below meth c D base cid sa sv H locs ls x C hP hS hl hn hf hx
  exact lv_sipush C.1 C.2.1 hd hv (h p l e R s mi args below meth c D base cid sa sv H locs ls x C hP hS hl hn hf hx)
theorem J_lconst {z : Fin 2} (v : Int64) (hd : decode cc pc = .ok (.lconst z, 1)) (hv : Int64.ofNat (z : Nat) = v) (h : J own cc nL ret nm fr lo n0 nf (pc + 1) (lv) (.long v :: st) (n) (m) (r) (o) (k)) : J own cc nL ret nm fr lo n0 nf (pc) (lv) (st) (n) (m) (r) (o) (k) := by
  intro p l e R s mi args below meth c D base cid sa sv H locs ls x C hP hS hl hn hf hx
  exact lv_lconst C.1 C.2.1 hd hv (h p l e R s mi args below meth c D base cid sa sv H locs ls x C hP hS hl hn hf hx)
theorem J_ldcw {ix : Nat} (v : Int32) (hd : decode cc pc = .ok (.ldc_w ix, 3)) (hw : Cond.constant own ix v ∈ TBg) (h : J own cc nL ret nm fr lo n0 nf (pc + 3) (lv) (.int v :: st) (n) (m) (r) (o) (k)) : J own cc nL ret nm fr lo n0 nf (pc) (lv) (st) (n) (m) (r) (o) (k) := by
  intro p l e R s mi args below meth c D base cid sa sv H locs ls x C hP hS hl hn hf hx
  exact lv_ldcw C.1 C.2.1 C.2.2.2.2.1 (C.2.2.2.2.2.1 _ hw) hd (h p l e R s mi args below meth c D base cid sa sv H locs ls x C hP hS hl hn hf hx)
theorem J_ldc {ix : Nat} (v : Int32) (hd : decode cc pc = .ok (.ldc ix, 2)) (hw : Cond.constant own ix v ∈ TBg) (h : J own cc nL ret nm fr lo n0 nf (pc + 2) (lv) (.int v :: st) (n) (m) (r) (o) (k)) : J own cc nL ret nm fr lo n0 nf (pc) (lv) (st) (n) (m) (r) (o) (k) := by
  intro p l e R s mi args below meth c D base cid sa sv H locs ls x C hP hS hl hn hf hx
  exact lv_ldc C.1 C.2.1 C.2.2.2.2.1 (C.2.2.2.2.2.1 _ hw) hd (h p l e R s mi args below meth c D base cid sa sv H locs ls x C hP hS hl hn hf hx)
theorem J_ldc2 {ix : Nat} (v : Int64) (hd : decode cc pc = .ok (.ldc2_w ix, 3)) (hw : Cond.constantLong own ix v ∈ TBg) (h : J own cc nL ret nm fr lo n0 nf (pc + 3) (lv) (.long v :: st) (n) (m) (r) (o) (k)) : J own cc nL ret nm fr lo n0 nf (pc) (lv) (st) (n) (m) (r) (o) (k) := by
  intro p l e R s mi args below meth c D base cid sa sv H locs ls x C hP hS hl hn hf hx
  exact lv_ldc2 C.1 C.2.1 C.2.2.2.2.1 (C.2.2.2.2.2.1 _ hw) hd (h p l e R s mi args below meth c D base cid sa sv H locs ls x C hP hS hl hn hf hx)
theorem J_ldcS {ix : Nat} (j : Nat) (hj : j < nS) (hown : own = RX2) (hix : idS.getD j 0 = ix) (hd : decode cc pc = .ok (.ldc ix, 2)) (h : J own cc nL ret nm fr lo n0 nf (pc + 2) (lv) (.float (UInt32.ofNat j) :: st) (n) (m) (r) (o) (k)) : J own cc nL ret nm fr lo n0 nf (pc) (lv) (st) (n) (m) (r) (o) (k) := by
  intro p l e R s mi args below meth c D base cid sa sv H locs ls x C hP hS hl hn hf hx
  subst hown
  subst hix
  have ej : (UInt32.ofNat j).toNat = j := by
    have : j < 10 := hj
    simp [UInt32.toNat_ofNat']
    omega
  have h1 := h p l e R s mi args below meth c D base cid sa sv H locs ls x C hP hS hl hn hf hx
  simp only [List.map_cons, rv, ej] at h1
  exact va_ldcS C.1 C.2.1 C.2.2.2.2.1 (C.2.2.2.2.2.2.2.1.2.2.2.1 j hj) hd h1
theorem J_iload_n {z : Fin 4} (i j : Nat) (v : Int32) (hd : decode cc pc = .ok (.iload_n z, 1)) (hi : (z : Nat) = i) (hj : lv[j]? = some (i, .int v)) (h : J own cc nL ret nm fr lo n0 nf (pc + 1) (lv) (.int v :: st) (n) (m) (r) (o) (k)) : J own cc nL ret nm fr lo n0 nf (pc) (lv) (st) (n) (m) (r) (o) (k) := by
  intro p l e R s mi args below meth c D base cid sa sv H locs ls x C hP hS hl hn hf hx
  exact lv_iload_n C.1 C.2.1 hd hi (lv_at hl j (lvR_at hj)) (h p l e R s mi args below meth c D base cid sa sv H locs ls x C hP hS hl hn hf hx)
theorem J_iload (i j : Nat) (v : Int32) (hd : decode cc pc = .ok (.iload i, 2)) (hj : lv[j]? = some (i, .int v)) (h : J own cc nL ret nm fr lo n0 nf (pc + 2) (lv) (.int v :: st) (n) (m) (r) (o) (k)) : J own cc nL ret nm fr lo n0 nf (pc) (lv) (st) (n) (m) (r) (o) (k) := by
  intro p l e R s mi args below meth c D base cid sa sv H locs ls x C hP hS hl hn hf hx
  exact lv_iload C.1 C.2.1 hd (lv_at hl j (lvR_at hj)) (h p l e R s mi args below meth c D base cid sa sv H locs ls x C hP hS hl hn hf hx)
theorem J_lload_n {z : Fin 4} (i j : Nat) (v : Int64) (hd : decode cc pc = .ok (.lload_n z, 1)) (hi : (z : Nat) = i) (hj : lv[j]? = some (i, .long v)) (h : J own cc nL ret nm fr lo n0 nf (pc + 1) (lv) (.long v :: st) (n) (m) (r) (o) (k)) : J own cc nL ret nm fr lo n0 nf (pc) (lv) (st) (n) (m) (r) (o) (k) := by
  intro p l e R s mi args below meth c D base cid sa sv H locs ls x C hP hS hl hn hf hx
  exact lv_lload_n C.1 C.2.1 hd hi (lv_at hl j (lvR_at hj)) (h p l e R s mi args below meth c D base cid sa sv H locs ls x C hP hS hl hn hf hx)
theorem J_lload (i j : Nat) (v : Int64) (hd : decode cc pc = .ok (.lload i, 2)) (hj : lv[j]? = some (i, .long v)) (h : J own cc nL ret nm fr lo n0 nf (pc + 2) (lv) (.long v :: st) (n) (m) (r) (o) (k)) : J own cc nL ret nm fr lo n0 nf (pc) (lv) (st) (n) (m) (r) (o) (k) := by
  intro p l e R s mi args below meth c D base cid sa sv H locs ls x C hP hS hl hn hf hx
  exact lv_lload C.1 C.2.1 hd (lv_at hl j (lvR_at hj)) (h p l e R s mi args below meth c D base cid sa sv H locs ls x C hP hS hl hn hf hx)
theorem J_aload_n {z : Fin 4} (i j : Nat) (v : Nat) (hd : decode cc pc = .ok (.aload_n z, 1)) (hi : (z : Nat) = i) (hj : lv[j]? = some (i, .ref v)) (h : J own cc nL ret nm fr lo n0 nf (pc + 1) (lv) (.ref v :: st) (n) (m) (r) (o) (k)) : J own cc nL ret nm fr lo n0 nf (pc) (lv) (st) (n) (m) (r) (o) (k) := by
  intro p l e R s mi args below meth c D base cid sa sv H locs ls x C hP hS hl hn hf hx
  exact lv_aload_n C.1 C.2.1 hd hi (lv_at hl j (lvR_at hj)) (h p l e R s mi args below meth c D base cid sa sv H locs ls x C hP hS hl hn hf hx)
theorem J_aload (i j : Nat) (v : Nat) (hd : decode cc pc = .ok (.aload i, 2)) (hj : lv[j]? = some (i, .ref v)) (h : J own cc nL ret nm fr lo n0 nf (pc + 2) (lv) (.ref v :: st) (n) (m) (r) (o) (k)) : J own cc nL ret nm fr lo n0 nf (pc) (lv) (st) (n) (m) (r) (o) (k) := by
  intro p l e R s mi args below meth c D base cid sa sv H locs ls x C hP hS hl hn hf hx
  exact lv_aload C.1 C.2.1 hd (lv_at hl j (lvR_at hj)) (h p l e R s mi args below meth c D base cid sa sv H locs ls x C hP hS hl hn hf hx)
theorem J_sload_n {z : Fin 4} (i j : Nat) (v : UInt32) (hd : decode cc pc = .ok (.aload_n z, 1)) (hi : (z : Nat) = i) (hj : lv[j]? = some (i, .float v)) (h : J own cc nL ret nm fr lo n0 nf (pc + 1) (lv) (.float v :: st) (n) (m) (r) (o) (k)) : J own cc nL ret nm fr lo n0 nf (pc) (lv) (st) (n) (m) (r) (o) (k) := by
  intro p l e R s mi args below meth c D base cid sa sv H locs ls x C hP hS hl hn hf hx
  exact lv_aload_n C.1 C.2.1 hd hi (lv_at hl j (lvR_at hj)) (h p l e R s mi args below meth c D base cid sa sv H locs ls x C hP hS hl hn hf hx)
theorem J_istore_n {z : Fin 4} (i : Nat) (lw : List (Nat × Value)) {v : Int32} (hd : decode cc pc = .ok (.istore_n z, 1)) (hi : (z : Nat) = i) (hn1 : i < nL) (hv : (i, Value.int v) :: lv.filter (fun q => !(q.1 == i) && !(q.1 + 1 == i && q.2.category == 2)) = lw) (h : J own cc nL ret nm fr lo n0 nf (pc + 1) (lw) (st) (n) (m) (r) (o) (k)) : J own cc nL ret nm fr lo n0 nf (pc) (lv) (.int v :: st) (n) (m) (r) (o) (k) := by
  intro p l e R s mi args below meth c D base cid sa sv H locs ls x C hP hS hl hn hf hx
  exact lv_istore_n C.1 C.2.1 hd hi hl hn1 (lvR_st hv) (fun ls1 hl1 => h p l e R s mi args below meth c D base cid sa sv H locs ls1 x C hP hS hl1 hn hf hx)
theorem J_istore (i : Nat) (lw : List (Nat × Value)) {v : Int32} (hd : decode cc pc = .ok (.istore i, 2)) (hn1 : i < nL) (hv : (i, Value.int v) :: lv.filter (fun q => !(q.1 == i) && !(q.1 + 1 == i && q.2.category == 2)) = lw) (h : J own cc nL ret nm fr lo n0 nf (pc + 2) (lw) (st) (n) (m) (r) (o) (k)) : J own cc nL ret nm fr lo n0 nf (pc) (lv) (.int v :: st) (n) (m) (r) (o) (k) := by
  intro p l e R s mi args below meth c D base cid sa sv H locs ls x C hP hS hl hn hf hx
  exact lv_istore C.1 C.2.1 hd hl hn1 (lvR_st hv) (fun ls1 hl1 => h p l e R s mi args below meth c D base cid sa sv H locs ls1 x C hP hS hl1 hn hf hx)
theorem J_astore_n {z : Fin 4} (i : Nat) (lw : List (Nat × Value)) {v : Nat} (hd : decode cc pc = .ok (.astore_n z, 1)) (hi : (z : Nat) = i) (hn1 : i < nL) (hv : (i, Value.ref v) :: lv.filter (fun q => !(q.1 == i) && !(q.1 + 1 == i && q.2.category == 2)) = lw) (h : J own cc nL ret nm fr lo n0 nf (pc + 1) (lw) (st) (n) (m) (r) (o) (k)) : J own cc nL ret nm fr lo n0 nf (pc) (lv) (.ref v :: st) (n) (m) (r) (o) (k) := by
  intro p l e R s mi args below meth c D base cid sa sv H locs ls x C hP hS hl hn hf hx
  exact lv_astore_n C.1 C.2.1 hd hi hl hn1 (lvR_st hv) (fun ls1 hl1 => h p l e R s mi args below meth c D base cid sa sv H locs ls1 x C hP hS hl1 hn hf hx)
theorem J_astore (i : Nat) (lw : List (Nat × Value)) {v : Nat} (hd : decode cc pc = .ok (.astore i, 2)) (hn1 : i < nL) (hv : (i, Value.ref v) :: lv.filter (fun q => !(q.1 == i) && !(q.1 + 1 == i && q.2.category == 2)) = lw) (h : J own cc nL ret nm fr lo n0 nf (pc + 2) (lw) (st) (n) (m) (r) (o) (k)) : J own cc nL ret nm fr lo n0 nf (pc) (lv) (.ref v :: st) (n) (m) (r) (o) (k) := by
  intro p l e R s mi args below meth c D base cid sa sv H locs ls x C hP hS hl hn hf hx
  exact lv_astore C.1 C.2.1 hd hl hn1 (lvR_st hv) (fun ls1 hl1 => h p l e R s mi args below meth c D base cid sa sv H locs ls1 x C hP hS hl1 hn hf hx)
theorem J_lstore (i : Nat) (lw : List (Nat × Value)) {v : Int64} (hd : decode cc pc = .ok (.lstore i, 2)) (hn1 : i + 1 < nL) (hv : (i, Value.long v) :: lv.filter (fun q => !(q.1 == i) && (!(q.1 == i + 1) && !(q.1 + 1 == i && q.2.category == 2))) = lw) (h : J own cc nL ret nm fr lo n0 nf (pc + 2) (lw) (st) (n) (m) (r) (o) (k)) : J own cc nL ret nm fr lo n0 nf (pc) (lv) (.long v :: st) (n) (m) (r) (o) (k) := by
  intro p l e R s mi args below meth c D base cid sa sv H locs ls x C hP hS hl hn hf hx
  exact lv_lstore C.1 C.2.1 hd hl hn1 (lvR_stL hv) (fun ls1 hl1 => h p l e R s mi args below meth c D base cid sa sv H locs ls1 x C hP hS hl1 hn hf hx)
theorem J_iinc {z : Int} (i j : Nat) (lw : List (Nat × Value)) (v w : Int32) (hd : decode cc pc = .ok (.iinc i z, 3)) (hj : lv[j]? = some (i, .int v)) (hw : v + Int32.ofInt z = w) (hn1 : i < nL) (hv : (i, Value.int w) :: lv.filter (fun q => !(q.1 == i) && !(q.1 + 1 == i && q.2.category == 2)) = lw) (h : J own cc nL ret nm fr lo n0 nf (pc + 3) (lw) (st) (n) (m) (r) (o) (k)) : J own cc nL ret nm fr lo n0 nf (pc) (lv) (st) (n) (m) (r) (o) (k) := by
  intro p l e R s mi args below meth c D base cid sa sv H locs ls x C hP hS hl hn hf hx
  exact lv_iinc C.1 C.2.1 hd hl (lvR_at hj) hw hn1 (lvR_st hv) (fun ls1 hl1 => h p l e R s mi args below meth c D base cid sa sv H locs ls1 x C hP hS hl1 hn hf hx)
theorem J_iadd {x1 y1 : Int32} (hd : decode cc pc = .ok (.iadd, 1)) (h : J own cc nL ret nm fr lo n0 nf (pc + 1) (lv) (.int (x1 + y1) :: st) (n) (m) (r) (o) (k)) : J own cc nL ret nm fr lo n0 nf (pc) (lv) (.int y1 :: .int x1 :: st) (n) (m) (r) (o) (k) := by
  intro p l e R s mi args below meth c D base cid sa sv H locs ls x C hP hS hl hn hf hx
  exact lv_iadd C.1 C.2.1 hd (h p l e R s mi args below meth c D base cid sa sv H locs ls x C hP hS hl hn hf hx)
theorem J_isub {x1 y1 : Int32} (hd : decode cc pc = .ok (.isub, 1)) (h : J own cc nL ret nm fr lo n0 nf (pc + 1) (lv) (.int (x1 - y1) :: st) (n) (m) (r) (o) (k)) : J own cc nL ret nm fr lo n0 nf (pc) (lv) (.int y1 :: .int x1 :: st) (n) (m) (r) (o) (k) := by
  intro p l e R s mi args below meth c D base cid sa sv H locs ls x C hP hS hl hn hf hx
  exact lv_isub C.1 C.2.1 hd (h p l e R s mi args below meth c D base cid sa sv H locs ls x C hP hS hl hn hf hx)
theorem J_imul {x1 y1 : Int32} (hd : decode cc pc = .ok (.imul, 1)) (h : J own cc nL ret nm fr lo n0 nf (pc + 1) (lv) (.int (x1 * y1) :: st) (n) (m) (r) (o) (k)) : J own cc nL ret nm fr lo n0 nf (pc) (lv) (.int y1 :: .int x1 :: st) (n) (m) (r) (o) (k) := by
  intro p l e R s mi args below meth c D base cid sa sv H locs ls x C hP hS hl hn hf hx
  exact lv_imul C.1 C.2.1 hd (h p l e R s mi args below meth c D base cid sa sv H locs ls x C hP hS hl hn hf hx)
theorem J_iand {x1 y1 : Int32} (hd : decode cc pc = .ok (.iand, 1)) (h : J own cc nL ret nm fr lo n0 nf (pc + 1) (lv) (.int (x1 &&& y1) :: st) (n) (m) (r) (o) (k)) : J own cc nL ret nm fr lo n0 nf (pc) (lv) (.int y1 :: .int x1 :: st) (n) (m) (r) (o) (k) := by
  intro p l e R s mi args below meth c D base cid sa sv H locs ls x C hP hS hl hn hf hx
  exact lv_iand C.1 C.2.1 hd (h p l e R s mi args below meth c D base cid sa sv H locs ls x C hP hS hl hn hf hx)
theorem J_ior {x1 y1 : Int32} (hd : decode cc pc = .ok (.ior, 1)) (h : J own cc nL ret nm fr lo n0 nf (pc + 1) (lv) (.int (x1 ||| y1) :: st) (n) (m) (r) (o) (k)) : J own cc nL ret nm fr lo n0 nf (pc) (lv) (.int y1 :: .int x1 :: st) (n) (m) (r) (o) (k) := by
  intro p l e R s mi args below meth c D base cid sa sv H locs ls x C hP hS hl hn hf hx
  exact lv_ior C.1 C.2.1 hd (h p l e R s mi args below meth c D base cid sa sv H locs ls x C hP hS hl hn hf hx)
theorem J_ixor {x1 y1 : Int32} (hd : decode cc pc = .ok (.ixor, 1)) (h : J own cc nL ret nm fr lo n0 nf (pc + 1) (lv) (.int (x1 ^^^ y1) :: st) (n) (m) (r) (o) (k)) : J own cc nL ret nm fr lo n0 nf (pc) (lv) (.int y1 :: .int x1 :: st) (n) (m) (r) (o) (k) := by
  intro p l e R s mi args below meth c D base cid sa sv H locs ls x C hP hS hl hn hf hx
  exact lv_ixor C.1 C.2.1 hd (h p l e R s mi args below meth c D base cid sa sv H locs ls x C hP hS hl hn hf hx)
theorem J_ishl {x1 y1 : Int32} (hd : decode cc pc = .ok (.ishl, 1)) (h : J own cc nL ret nm fr lo n0 nf (pc + 1) (lv) (.int (x1 <<< (y1 &&& 31)) :: st) (n) (m) (r) (o) (k)) : J own cc nL ret nm fr lo n0 nf (pc) (lv) (.int y1 :: .int x1 :: st) (n) (m) (r) (o) (k) := by
  intro p l e R s mi args below meth c D base cid sa sv H locs ls x C hP hS hl hn hf hx
  exact lv_ishl C.1 C.2.1 hd (h p l e R s mi args below meth c D base cid sa sv H locs ls x C hP hS hl hn hf hx)
theorem J_ishr {x1 y1 : Int32} (hd : decode cc pc = .ok (.ishr, 1)) (h : J own cc nL ret nm fr lo n0 nf (pc + 1) (lv) (.int (x1 >>> (y1 &&& 31)) :: st) (n) (m) (r) (o) (k)) : J own cc nL ret nm fr lo n0 nf (pc) (lv) (.int y1 :: .int x1 :: st) (n) (m) (r) (o) (k) := by
  intro p l e R s mi args below meth c D base cid sa sv H locs ls x C hP hS hl hn hf hx
  exact lv_ishr C.1 C.2.1 hd (h p l e R s mi args below meth c D base cid sa sv H locs ls x C hP hS hl hn hf hx)
theorem J_iushr {x1 y1 : Int32} (hd : decode cc pc = .ok (.iushr, 1)) (h : J own cc nL ret nm fr lo n0 nf (pc + 1) (lv) (.int ((x1.toUInt32 >>> (y1.toUInt32 &&& Int32.toUInt32 31)).toInt32) :: st) (n) (m) (r) (o) (k)) : J own cc nL ret nm fr lo n0 nf (pc) (lv) (.int y1 :: .int x1 :: st) (n) (m) (r) (o) (k) := by
  intro p l e R s mi args below meth c D base cid sa sv H locs ls x C hP hS hl hn hf hx
  exact lv_iushr C.1 C.2.1 hd rfl (h p l e R s mi args below meth c D base cid sa sv H locs ls x C hP hS hl hn hf hx)
theorem J_ineg {x1 : Int32} (hd : decode cc pc = .ok (.ineg, 1)) (h : J own cc nL ret nm fr lo n0 nf (pc + 1) (lv) (.int (0 - x1) :: st) (n) (m) (r) (o) (k)) : J own cc nL ret nm fr lo n0 nf (pc) (lv) (.int x1 :: st) (n) (m) (r) (o) (k) := by
  intro p l e R s mi args below meth c D base cid sa sv H locs ls x C hP hS hl hn hf hx
  first | exact lv_ineg C.1 C.2.1 hd (h p l e R s mi args below meth c D base cid sa sv H locs ls x C hP hS hl hn hf hx) | (refine lv_ineg C.1 C.2.1 hd ?_; have h1 := h p l e R s mi args below meth c D base cid sa sv H locs ls x C hP hS hl hn hf hx; simpa using h1)
theorem J_ladd {x1 y1 : Int64} (hd : decode cc pc = .ok (.ladd, 1)) (h : J own cc nL ret nm fr lo n0 nf (pc + 1) (lv) (.long (x1 + y1) :: st) (n) (m) (r) (o) (k)) : J own cc nL ret nm fr lo n0 nf (pc) (lv) (.long y1 :: .long x1 :: st) (n) (m) (r) (o) (k) := by
  intro p l e R s mi args below meth c D base cid sa sv H locs ls x C hP hS hl hn hf hx
  exact lv_ladd C.1 C.2.1 hd (h p l e R s mi args below meth c D base cid sa sv H locs ls x C hP hS hl hn hf hx)
theorem J_lsub {x1 y1 : Int64} (hd : decode cc pc = .ok (.lsub, 1)) (h : J own cc nL ret nm fr lo n0 nf (pc + 1) (lv) (.long (x1 - y1) :: st) (n) (m) (r) (o) (k)) : J own cc nL ret nm fr lo n0 nf (pc) (lv) (.long y1 :: .long x1 :: st) (n) (m) (r) (o) (k) := by
  intro p l e R s mi args below meth c D base cid sa sv H locs ls x C hP hS hl hn hf hx
  exact lv_lsub C.1 C.2.1 hd (h p l e R s mi args below meth c D base cid sa sv H locs ls x C hP hS hl hn hf hx)
theorem J_land {x1 y1 : Int64} (hd : decode cc pc = .ok (.land, 1)) (h : J own cc nL ret nm fr lo n0 nf (pc + 1) (lv) (.long (x1 &&& y1) :: st) (n) (m) (r) (o) (k)) : J own cc nL ret nm fr lo n0 nf (pc) (lv) (.long y1 :: .long x1 :: st) (n) (m) (r) (o) (k) := by
  intro p l e R s mi args below meth c D base cid sa sv H locs ls x C hP hS hl hn hf hx
  exact lv_land C.1 C.2.1 hd (h p l e R s mi args below meth c D base cid sa sv H locs ls x C hP hS hl hn hf hx)
theorem J_lor {x1 y1 : Int64} (hd : decode cc pc = .ok (.lor, 1)) (h : J own cc nL ret nm fr lo n0 nf (pc + 1) (lv) (.long (x1 ||| y1) :: st) (n) (m) (r) (o) (k)) : J own cc nL ret nm fr lo n0 nf (pc) (lv) (.long y1 :: .long x1 :: st) (n) (m) (r) (o) (k) := by
  intro p l e R s mi args below meth c D base cid sa sv H locs ls x C hP hS hl hn hf hx
  exact lv_lor C.1 C.2.1 hd (h p l e R s mi args below meth c D base cid sa sv H locs ls x C hP hS hl hn hf hx)
theorem J_lshl {x1 : Int64} {y1 : Int32} (hd : decode cc pc = .ok (.lshl, 1)) (h : J own cc nL ret nm fr lo n0 nf (pc + 1) (lv) (.long (x1 <<< (y1.toInt64 &&& 63)) :: st) (n) (m) (r) (o) (k)) : J own cc nL ret nm fr lo n0 nf (pc) (lv) (.int y1 :: .long x1 :: st) (n) (m) (r) (o) (k) := by
  intro p l e R s mi args below meth c D base cid sa sv H locs ls x C hP hS hl hn hf hx
  exact lv_lshl C.1 C.2.1 hd rfl (h p l e R s mi args below meth c D base cid sa sv H locs ls x C hP hS hl hn hf hx)
theorem J_lshr {x1 : Int64} {y1 : Int32} (hd : decode cc pc = .ok (.lshr, 1)) (h : J own cc nL ret nm fr lo n0 nf (pc + 1) (lv) (.long (x1 >>> (y1.toInt64 &&& 63)) :: st) (n) (m) (r) (o) (k)) : J own cc nL ret nm fr lo n0 nf (pc) (lv) (.int y1 :: .long x1 :: st) (n) (m) (r) (o) (k) := by
  intro p l e R s mi args below meth c D base cid sa sv H locs ls x C hP hS hl hn hf hx
  exact lv_lshr C.1 C.2.1 hd rfl (h p l e R s mi args below meth c D base cid sa sv H locs ls x C hP hS hl hn hf hx)
theorem J_lcmp {x1 y1 : Int64} (hd : decode cc pc = .ok (.lcmp, 1)) (h : J own cc nL ret nm fr lo n0 nf (pc + 1) (lv) (.int (lg_cmp x1 y1) :: st) (n) (m) (r) (o) (k)) : J own cc nL ret nm fr lo n0 nf (pc) (lv) (.long y1 :: .long x1 :: st) (n) (m) (r) (o) (k) := by
  intro p l e R s mi args below meth c D base cid sa sv H locs ls x C hP hS hl hn hf hx
  exact W.lcmp C.1 C.2.1 hd (h p l e R s mi args below meth c D base cid sa sv H locs ls x C hP hS hl hn hf hx)
theorem J_i2l {x1 : Int32} (hd : decode cc pc = .ok (.i2l, 1)) (h : J own cc nL ret nm fr lo n0 nf (pc + 1) (lv) (.long (x1.toInt64) :: st) (n) (m) (r) (o) (k)) : J own cc nL ret nm fr lo n0 nf (pc) (lv) (.int x1 :: st) (n) (m) (r) (o) (k) := by
  intro p l e R s mi args below meth c D base cid sa sv H locs ls x C hP hS hl hn hf hx
  exact lv_i2l C.1 C.2.1 hd rfl (h p l e R s mi args below meth c D base cid sa sv H locs ls x C hP hS hl hn hf hx)
theorem J_l2i {x1 : Int64} (hd : decode cc pc = .ok (.l2i, 1)) (h : J own cc nL ret nm fr lo n0 nf (pc + 1) (lv) (.int (x1.toInt32) :: st) (n) (m) (r) (o) (k)) : J own cc nL ret nm fr lo n0 nf (pc) (lv) (.long x1 :: st) (n) (m) (r) (o) (k) := by
  intro p l e R s mi args below meth c D base cid sa sv H locs ls x C hP hS hl hn hf hx
  exact lv_l2i C.1 C.2.1 hd rfl (h p l e R s mi args below meth c D base cid sa sv H locs ls x C hP hS hl hn hf hx)
theorem J_i2b {x1 : Int32} (hd : decode cc pc = .ok (.i2b, 1)) (h : J own cc nL ret nm fr lo n0 nf (pc + 1) (lv) (.int (x1.toInt8.toInt32) :: st) (n) (m) (r) (o) (k)) : J own cc nL ret nm fr lo n0 nf (pc) (lv) (.int x1 :: st) (n) (m) (r) (o) (k) := by
  intro p l e R s mi args below meth c D base cid sa sv H locs ls x C hP hS hl hn hf hx
  exact lv_i2b C.1 C.2.1 hd rfl (h p l e R s mi args below meth c D base cid sa sv H locs ls x C hP hS hl hn hf hx)
theorem J_i2s {x1 : Int32} (hd : decode cc pc = .ok (.i2s, 1)) (h : J own cc nL ret nm fr lo n0 nf (pc + 1) (lv) (.int (x1.toInt16.toInt32) :: st) (n) (m) (r) (o) (k)) : J own cc nL ret nm fr lo n0 nf (pc) (lv) (.int x1 :: st) (n) (m) (r) (o) (k) := by
  intro p l e R s mi args below meth c D base cid sa sv H locs ls x C hP hS hl hn hf hx
  exact lv_i2s C.1 C.2.1 hd rfl (h p l e R s mi args below meth c D base cid sa sv H locs ls x C hP hS hl hn hf hx)
theorem J_idiv {x1 y1 : Int32} {f : Int32 → Option σ} (hd : decode cc pc = .ok (.idiv, 1)) (h : ∀ z, J own cc nL ret nm fr lo n0 nf (pc + 1) (lv) (.int z :: st) (n) (m) (r) (f z) (k)) : J own cc nL ret nm fr lo n0 nf (pc) (lv) (.int y1 :: .int x1 :: st) (n) (m) (r) ((odiv x1 y1).bind f) (k) := by
  intro p l e R s mi args below meth c D base cid sa sv H locs ls x C hP hS hl hn hf hx
  by_cases h0 : y1 = 0
  · rw [odiv, if_pos h0] at hx
    cases hx
  · rw [odiv, if_neg h0] at hx
    exact lv_idiv C.1 C.2.1 hd h0 (h (x1 / y1) p l e R s mi args below meth c D base cid sa sv H locs ls x C hP hS hl hn hf hx)
theorem J_irem {x1 y1 : Int32} {f : Int32 → Option σ} (hd : decode cc pc = .ok (.irem, 1)) (h : ∀ z, J own cc nL ret nm fr lo n0 nf (pc + 1) (lv) (.int z :: st) (n) (m) (r) (f z) (k)) : J own cc nL ret nm fr lo n0 nf (pc) (lv) (.int y1 :: .int x1 :: st) (n) (m) (r) ((orem x1 y1).bind f) (k) := by
  intro p l e R s mi args below meth c D base cid sa sv H locs ls x C hP hS hl hn hf hx
  by_cases h0 : y1 = 0
  · rw [orem, if_pos h0] at hx
    cases hx
  · rw [orem, if_neg h0] at hx
    exact lv_irem C.1 C.2.1 hd h0 (h (x1 - x1 / y1 * y1) p l e R s mi args below meth c D base cid sa sv H locs ls x C hP hS hl hn hf hx)
theorem J_dup {va : Value} (hd : decode cc pc = .ok (.dup, 1)) (hva : va.category = 1) (h : J own cc nL ret nm fr lo n0 nf (pc + 1) (lv) (va :: va :: st) (n) (m) (r) (o) (k)) : J own cc nL ret nm fr lo n0 nf (pc) (lv) (va :: st) (n) (m) (r) (o) (k) := by
  intro p l e R s mi args below meth c D base cid sa sv H locs ls x C hP hS hl hn hf hx
  exact lv_dup C.1 C.2.1 hd (by rw [rv_cat]; exact hva) (h p l e R s mi args below meth c D base cid sa sv H locs ls x C hP hS hl hn hf hx)
theorem J_pop {va : Value} (hd : decode cc pc = .ok (.pop, 1)) (hva : va.category = 1) (h : J own cc nL ret nm fr lo n0 nf (pc + 1) (lv) (st) (n) (m) (r) (o) (k)) : J own cc nL ret nm fr lo n0 nf (pc) (lv) (va :: st) (n) (m) (r) (o) (k) := by
  intro p l e R s mi args below meth c D base cid sa sv H locs ls x C hP hS hl hn hf hx
  exact lv_pop C.1 C.2.1 hd (by rw [rv_cat]; exact hva) (h p l e R s mi args below meth c D base cid sa sv H locs ls x C hP hS hl hn hf hx)
theorem J_dup2 {va vb : Value} (hd : decode cc pc = .ok (.dup2, 1)) (hva : va.category = 1) (hvb : vb.category = 1) (h : J own cc nL ret nm fr lo n0 nf (pc + 1) (lv) (va :: vb :: va :: vb :: st) (n) (m) (r) (o) (k)) : J own cc nL ret nm fr lo n0 nf (pc) (lv) (va :: vb :: st) (n) (m) (r) (o) (k) := by
  intro p l e R s mi args below meth c D base cid sa sv H locs ls x C hP hS hl hn hf hx
  exact lv_dup2_11 C.1 C.2.1 hd (by rw [rv_cat]; exact hva) (by rw [rv_cat]; exact hvb) (h p l e R s mi args below meth c D base cid sa sv H locs ls x C hP hS hl hn hf hx)
theorem J_dup_x1 {va vb : Value} (hd : decode cc pc = .ok (.dup_x1, 1)) (hva : va.category = 1) (hvb : vb.category = 1) (h : J own cc nL ret nm fr lo n0 nf (pc + 1) (lv) (va :: vb :: va :: st) (n) (m) (r) (o) (k)) : J own cc nL ret nm fr lo n0 nf (pc) (lv) (va :: vb :: st) (n) (m) (r) (o) (k) := by
  intro p l e R s mi args below meth c D base cid sa sv H locs ls x C hP hS hl hn hf hx
  exact lv_dup_x1 C.1 C.2.1 hd (by rw [rv_cat]; exact hva) (by rw [rv_cat]; exact hvb) (h p l e R s mi args below meth c D base cid sa sv H locs ls x C hP hS hl hn hf hx)
theorem J_goto {off : Int} (tgt : Nat) (hd : decode cc pc = .ok (.goto off, 3)) (ht : (pc : Int) + off = (tgt : Int)) (h : J own cc nL ret nm fr lo n0 nf (tgt) (lv) (st) (n) (m) (r) (o) (k)) : J own cc nL ret nm fr lo n0 nf (pc) (lv) (st) (n) (m) (r) (o) (k) := by
  intro p l e R s mi args below meth c D base cid sa sv H locs ls x C hP hS hl hn hf hx
  exact lv_goto C.1 C.2.1 hd ht (h p l e R s mi args below meth c D base cid sa sv H locs ls x C hP hS hl hn hf hx)
theorem J_if_eq {x1 : Int32} {off : Int} {o1 o2 : Option σ} (tgt : Nat) (hd : decode cc pc = .ok (.ifCond .eq off, 3)) (ht : (pc : Int) + off = (tgt : Int)) (h1 : J own cc nL ret nm fr lo n0 nf (tgt) (lv) (st) (n) (m) (r) (o1) (k)) (h2 : J own cc nL ret nm fr lo n0 nf (pc + 3) (lv) (st) (n) (m) (r) (o2) (k)) : J own cc nL ret nm fr lo n0 nf (pc) (lv) (.int x1 :: st) (n) (m) (r) (if x1 = 0 then o1 else o2) (k) := by
  intro p l e R s mi args below meth c D base cid sa sv H locs ls x C hP hS hl hn hf hx
  exact lv_if_eq C.1 C.2.1 hd ht (fun hc => h1 p l e R s mi args below meth c D base cid sa sv H locs ls x C hP hS hl hn hf (by rw [if_pos hc] at hx; exact hx)) (fun hc => h2 p l e R s mi args below meth c D base cid sa sv H locs ls x C hP hS hl hn hf (by rw [if_neg hc] at hx; exact hx))
theorem J_if_ne {x1 : Int32} {off : Int} {o1 o2 : Option σ} (tgt : Nat) (hd : decode cc pc = .ok (.ifCond .ne off, 3)) (ht : (pc : Int) + off = (tgt : Int)) (h1 : J own cc nL ret nm fr lo n0 nf (tgt) (lv) (st) (n) (m) (r) (o1) (k)) (h2 : J own cc nL ret nm fr lo n0 nf (pc + 3) (lv) (st) (n) (m) (r) (o2) (k)) : J own cc nL ret nm fr lo n0 nf (pc) (lv) (.int x1 :: st) (n) (m) (r) (if x1 = 0 then o2 else o1) (k) := by
  intro p l e R s mi args below meth c D base cid sa sv H locs ls x C hP hS hl hn hf hx
  exact lv_if_ne C.1 C.2.1 hd ht (fun hc => h1 p l e R s mi args below meth c D base cid sa sv H locs ls x C hP hS hl hn hf (by rw [if_neg hc] at hx; exact hx)) (fun hc => h2 p l e R s mi args below meth c D base cid sa sv H locs ls x C hP hS hl hn hf (by rw [if_pos hc] at hx; exact hx))
theorem J_if_lt {x1 : Int32} {off : Int} {o1 o2 : Option σ} (tgt : Nat) (hd : decode cc pc = .ok (.ifCond .lt off, 3)) (ht : (pc : Int) + off = (tgt : Int)) (h1 : J own cc nL ret nm fr lo n0 nf (tgt) (lv) (st) (n) (m) (r) (o1) (k)) (h2 : J own cc nL ret nm fr lo n0 nf (pc + 3) (lv) (st) (n) (m) (r) (o2) (k)) : J own cc nL ret nm fr lo n0 nf (pc) (lv) (.int x1 :: st) (n) (m) (r) (if x1 < 0 then o1 else o2) (k) := by
  intro p l e R s mi args below meth c D base cid sa sv H locs ls x C hP hS hl hn hf hx
  exact lv_if_lt C.1 C.2.1 hd ht (fun hc => h1 p l e R s mi args below meth c D base cid sa sv H locs ls x C hP hS hl hn hf (by rw [if_pos hc] at hx; exact hx)) (fun hc => h2 p l e R s mi args below meth c D base cid sa sv H locs ls x C hP hS hl hn hf (by rw [if_neg hc] at hx; exact hx))
theorem J_if_ge {x1 : Int32} {off : Int} {o1 o2 : Option σ} (tgt : Nat) (hd : decode cc pc = .ok (.ifCond .ge off, 3)) (ht : (pc : Int) + off = (tgt : Int)) (h1 : J own cc nL ret nm fr lo n0 nf (tgt) (lv) (st) (n) (m) (r) (o1) (k)) (h2 : J own cc nL ret nm fr lo n0 nf (pc + 3) (lv) (st) (n) (m) (r) (o2) (k)) : J own cc nL ret nm fr lo n0 nf (pc) (lv) (.int x1 :: st) (n) (m) (r) (if 0 ≤ x1 then o1 else o2) (k) := by
  intro p l e R s mi args below meth c D base cid sa sv H locs ls x C hP hS hl hn hf hx
  exact lv_if_ge C.1 C.2.1 hd ht (fun hc => h1 p l e R s mi args below meth c D base cid sa sv H locs ls x C hP hS hl hn hf (by rw [if_pos hc] at hx; exact hx)) (fun hc => h2 p l e R s mi args below meth c D base cid sa sv H locs ls x C hP hS hl hn hf (by rw [if_neg hc] at hx; exact hx))
theorem J_if_gt {x1 : Int32} {off : Int} {o1 o2 : Option σ} (tgt : Nat) (hd : decode cc pc = .ok (.ifCond .gt off, 3)) (ht : (pc : Int) + off = (tgt : Int)) (h1 : J own cc nL ret nm fr lo n0 nf (tgt) (lv) (st) (n) (m) (r) (o1) (k)) (h2 : J own cc nL ret nm fr lo n0 nf (pc + 3) (lv) (st) (n) (m) (r) (o2) (k)) : J own cc nL ret nm fr lo n0 nf (pc) (lv) (.int x1 :: st) (n) (m) (r) (if 0 < x1 then o1 else o2) (k) := by
  intro p l e R s mi args below meth c D base cid sa sv H locs ls x C hP hS hl hn hf hx
  exact lv_if_gt C.1 C.2.1 hd ht (fun hc => h1 p l e R s mi args below meth c D base cid sa sv H locs ls x C hP hS hl hn hf (by rw [if_pos hc] at hx; exact hx)) (fun hc => h2 p l e R s mi args below meth c D base cid sa sv H locs ls x C hP hS hl hn hf (by rw [if_neg hc] at hx; exact hx))
theorem J_if_le {x1 : Int32} {off : Int} {o1 o2 : Option σ} (tgt : Nat) (hd : decode cc pc = .ok (.ifCond .le off, 3)) (ht : (pc : Int) + off = (tgt : Int)) (h1 : J own cc nL ret nm fr lo n0 nf (tgt) (lv) (st) (n) (m) (r) (o1) (k)) (h2 : J own cc nL ret nm fr lo n0 nf (pc + 3) (lv) (st) (n) (m) (r) (o2) (k)) : J own cc nL ret nm fr lo n0 nf (pc) (lv) (.int x1 :: st) (n) (m) (r) (if x1 ≤ 0 then o1 else o2) (k) := by
  intro p l e R s mi args below meth c D base cid sa sv H locs ls x C hP hS hl hn hf hx
  exact lv_if_le C.1 C.2.1 hd ht (fun hc => h1 p l e R s mi args below meth c D base cid sa sv H locs ls x C hP hS hl hn hf (by rw [if_pos hc] at hx; exact hx)) (fun hc => h2 p l e R s mi args below meth c D base cid sa sv H locs ls x C hP hS hl hn hf (by rw [if_neg hc] at hx; exact hx))
theorem J_icmp_eq {x1 y1 : Int32} {off : Int} {o1 o2 : Option σ} (tgt : Nat) (hd : decode cc pc = .ok (.if_icmp .eq off, 3)) (ht : (pc : Int) + off = (tgt : Int)) (h1 : J own cc nL ret nm fr lo n0 nf (tgt) (lv) (st) (n) (m) (r) (o1) (k)) (h2 : J own cc nL ret nm fr lo n0 nf (pc + 3) (lv) (st) (n) (m) (r) (o2) (k)) : J own cc nL ret nm fr lo n0 nf (pc) (lv) (.int y1 :: .int x1 :: st) (n) (m) (r) (if x1 = y1 then o1 else o2) (k) := by
  intro p l e R s mi args below meth c D base cid sa sv H locs ls x C hP hS hl hn hf hx
  exact lv_icmp_eq C.1 C.2.1 hd ht (fun hc => h1 p l e R s mi args below meth c D base cid sa sv H locs ls x C hP hS hl hn hf (by rw [if_pos hc] at hx; exact hx)) (fun hc => h2 p l e R s mi args below meth c D base cid sa sv H locs ls x C hP hS hl hn hf (by rw [if_neg hc] at hx; exact hx))
theorem J_icmp_ne {x1 y1 : Int32} {off : Int} {o1 o2 : Option σ} (tgt : Nat) (hd : decode cc pc = .ok (.if_icmp .ne off, 3)) (ht : (pc : Int) + off = (tgt : Int)) (h1 : J own cc nL ret nm fr lo n0 nf (tgt) (lv) (st) (n) (m) (r) (o1) (k)) (h2 : J own cc nL ret nm fr lo n0 nf (pc + 3) (lv) (st) (n) (m) (r) (o2) (k)) : J own cc nL ret nm fr lo n0 nf (pc) (lv) (.int y1 :: .int x1 :: st) (n) (m) (r) (if x1 = y1 then o2 else o1) (k) := by
  intro p l e R s mi args below meth c D base cid sa sv H locs ls x C hP hS hl hn hf hx
  exact lv_icmp_ne C.1 C.2.1 hd ht (fun hc => h1 p l e R s mi args below meth c D base cid sa sv H locs ls x C hP hS hl hn hf (by rw [if_neg hc] at hx; exact hx)) (fun hc => h2 p l e R s mi args below meth c D base cid sa sv H locs ls x C hP hS hl hn hf (by rw [if_pos hc] at hx; exact hx))
theorem J_icmp_lt {x1 y1 : Int32} {off : Int} {o1 o2 : Option σ} (tgt : Nat) (hd : decode cc pc = .ok (.if_icmp .lt off, 3)) (ht : (pc : Int) + off = (tgt : Int)) (h1 : J own cc nL ret nm fr lo n0 nf (tgt) (lv) (st) (n) (m) (r) (o1) (k)) (h2 : J own cc nL ret nm fr lo n0 nf (pc + 3) (lv) (st) (n) (m) (r) (o2) (k)) : J own cc nL ret nm fr lo n0 nf (pc) (lv) (.int y1 :: .int x1 :: st) (n) (m) (r) (if x1 < y1 then o1 else o2) (k) := by
  intro p l e R s mi args below meth c D base cid sa sv H locs ls x C hP hS hl hn hf hx
  exact lv_icmp_lt C.1 C.2.1 hd ht (fun hc => h1 p l e R s mi args below meth c D base cid sa sv H locs ls x C hP hS hl hn hf (by rw [if_pos hc] at hx; exact hx)) (fun hc => h2 p l e R s mi args below meth c D base cid sa sv H locs ls x C hP hS hl hn hf (by rw [if_neg hc] at hx; exact hx))
theorem J_icmp_ge {x1 y1 : Int32} {off : Int} {o1 o2 : Option σ} (tgt : Nat) (hd : decode cc pc = .ok (.if_icmp .ge off, 3)) (ht : (pc : Int) + off = (tgt : Int)) (h1 : J own cc nL ret nm fr lo n0 nf (tgt) (lv) (st) (n) (m) (r) (o1) (k)) (h2 : J own cc nL ret nm fr lo n0 nf (pc + 3) (lv) (st) (n) (m) (r) (o2) (k)) : J own cc nL ret nm fr lo n0 nf (pc) (lv) (.int y1 :: .int x1 :: st) (n) (m) (r) (if y1 ≤ x1 then o1 else o2) (k) := by
  intro p l e R s mi args below meth c D base cid sa sv H locs ls x C hP hS hl hn hf hx
  exact lv_icmp_ge C.1 C.2.1 hd ht (fun hc => h1 p l e R s mi args below meth c D base cid sa sv H locs ls x C hP hS hl hn hf (by rw [if_pos hc] at hx; exact hx)) (fun hc => h2 p l e R s mi args below meth c D base cid sa sv H locs ls x C hP hS hl hn hf (by rw [if_neg hc] at hx; exact hx))
theorem J_icmp_gt {x1 y1 : Int32} {off : Int} {o1 o2 : Option σ} (tgt : Nat) (hd : decode cc pc = .ok (.if_icmp .gt off, 3)) (ht : (pc : Int) + off = (tgt : Int)) (h1 : J own cc nL ret nm fr lo n0 nf (tgt) (lv) (st) (n) (m) (r) (o1) (k)) (h2 : J own cc nL ret nm fr lo n0 nf (pc + 3) (lv) (st) (n) (m) (r) (o2) (k)) : J own cc nL ret nm fr lo n0 nf (pc) (lv) (.int y1 :: .int x1 :: st) (n) (m) (r) (if y1 < x1 then o1 else o2) (k) := by
  intro p l e R s mi args below meth c D base cid sa sv H locs ls x C hP hS hl hn hf hx
  exact lv_icmp_gt C.1 C.2.1 hd ht (fun hc => h1 p l e R s mi args below meth c D base cid sa sv H locs ls x C hP hS hl hn hf (by rw [if_pos hc] at hx; exact hx)) (fun hc => h2 p l e R s mi args below meth c D base cid sa sv H locs ls x C hP hS hl hn hf (by rw [if_neg hc] at hx; exact hx))
theorem J_icmp_le {x1 y1 : Int32} {off : Int} {o1 o2 : Option σ} (tgt : Nat) (hd : decode cc pc = .ok (.if_icmp .le off, 3)) (ht : (pc : Int) + off = (tgt : Int)) (h1 : J own cc nL ret nm fr lo n0 nf (tgt) (lv) (st) (n) (m) (r) (o1) (k)) (h2 : J own cc nL ret nm fr lo n0 nf (pc + 3) (lv) (st) (n) (m) (r) (o2) (k)) : J own cc nL ret nm fr lo n0 nf (pc) (lv) (.int y1 :: .int x1 :: st) (n) (m) (r) (if x1 ≤ y1 then o1 else o2) (k) := by
  intro p l e R s mi args below meth c D base cid sa sv H locs ls x C hP hS hl hn hf hx
  exact lv_icmp_le C.1 C.2.1 hd ht (fun hc => h1 p l e R s mi args below meth c D base cid sa sv H locs ls x C hP hS hl hn hf (by rw [if_pos hc] at hx; exact hx)) (fun hc => h2 p l e R s mi args below meth c D base cid sa sv H locs ls x C hP hS hl hn hf (by rw [if_neg hc] at hx; exact hx))
theorem J_let {v : Int32} {f : Int32 → Option σ} (h : ∀ z, J own cc nL ret nm fr lo n0 nf (pc) (lv) (.int z :: st) (n) (m) (r) (f z) (k)) : J own cc nL ret nm fr lo n0 nf (pc) (lv) (.int v :: st) (n) (m) (r) (letv v f) (k) := h v
theorem J_letL {v : Int64} {f : Int64 → Option σ} (h : ∀ z, J own cc nL ret nm fr lo n0 nf (pc) (lv) (.long z :: st) (n) (m) (r) (f z) (k)) : J own cc nL ret nm fr lo n0 nf (pc) (lv) (.long v :: st) (n) (m) (r) (letv v f) (k) := h v
theorem J_seq {ρ : Type} {o1 : Option ρ} {f : ρ → Option σ} (h : J own cc nL ret nm fr lo n0 nf pc lv st n m r o1 (fun y => (f y).bind k)) : J own cc nL ret nm fr lo n0 nf (pc) (lv) (st) (n) (m) (r) (o1.bind f) (k) := by
  intro p l e R s mi args below meth c D base cid sa sv H locs ls x C hP hS hl hn hf hx
  exact h p l e R s mi args below meth c D base cid sa sv H locs ls x C hP hS hl hn hf (by rw [← Option.bind_assoc]; exact hx)
theorem J_end {ρ : Type} {y : ρ} {f : ρ → Option σ} (h : J own cc nL ret nm fr lo n0 nf (pc) (lv) (st) (n) (m) (r) (f y) (k)) : J own cc nL ret nm fr lo n0 nf pc lv st n m r (some y) (fun y => (f y).bind k) := by
  intro p l e R s mi args below meth c D base cid sa sv H locs ls x C hP hS hl hn hf hx
  exact h p l e R s mi args below meth c D base cid sa sv H locs ls x C hP hS hl hn hf hx
theorem J_iter {τ ρ : Type} {b : τ → Option (τ ⊕ ρ)} {f : ρ → Option σ} {Lv : τ → List (Nat × Value)} {Mv : τ → Mm}
    (hb : ∀ (t : τ) (k' : τ ⊕ ρ → Option Res), (∀ t', J own cc nL ret nm fr lo n0 nf pc (Lv t') st n (Mv t') r (some (Sum.inl t' : τ ⊕ ρ)) k') → (∀ y : ρ, ∀ (pc' : Nat) (lv' : List (Nat × Value)) (st' : List Value) (m' : Mm), J own cc nL ret nm fr lo n0 nf pc' lv' st' n m' r (f y) k → J own cc nL ret nm fr lo n0 nf pc' lv' st' n m' r (some (Sum.inr y : τ ⊕ ρ)) k') → J own cc nL ret nm fr lo n0 nf pc (Lv t) st n (Mv t) r (b t) k') :
    ∀ (F : Nat) (t : τ), J own cc nL ret nm fr lo n0 nf pc (Lv t) st n (Mv t) r ((iter F b t).bind f) k := by
  intro F
  induction F with
  | zero => intro t; exact J_none
  | succ F ih =>
    intro t
    have h1 := hb t (fun y => ((Sum.elim (iter F b) some y).bind f).bind k) (fun t' => ?_) (fun y pc' lv' st' m' h => ?_)
    · intro p l e R s mi args below meth c D base cid sa sv H locs ls x C hP hS hl hn hf hx
      refine h1 p l e R s mi args below meth c D base cid sa sv H locs ls x C hP hS hl hn hf ?_
      rw [iter] at hx
      rw [← hx]
      cases b t with
      | none => rfl
      | some y => rfl
    · intro p l e R s mi args below meth c D base cid sa sv H locs ls x C hP hS hl hn hf hx
      exact ih t' p l e R s mi args below meth c D base cid sa sv H locs ls x C hP hS hl hn hf hx
    · intro p l e R s mi args below meth c D base cid sa sv H locs ls x C hP hS hl hn hf hx
      exact h p l e R s mi args below meth c D base cid sa sv H locs ls x C hP hS hl hn hf hx
theorem J_iret {v : Int32} (hd : decode cc pc = .ok (.ireturn, 1)) (hr : ret = some .int) (hnf : n = nf) : J own cc nL ret nm fr lo n0 nf pc lv [.int v] n m r (some ((some (.int v), m, r) : Res)) some := by
  intro p l e R s mi args below meth c D base cid sa sv H locs ls x C hP hS hl hn hf hx
  cases hx
  subst hnf
  subst hr
  obtain ⟨c1, c2, c3, c4, c5, c6, c7, c8⟩ := C
  exact W.iret (v := v) c1 c2 c3 (fun t ht hW => ⟨rfl, by rw [ht]; exact hP, hS.F ht⟩) hS.2.2 hd c7
theorem J_zret {v : Int32} {ty : FieldType} (hd : decode cc pc = .ok (.ireturn, 1)) (hr : ret = some ty) (hw : narrow ty (.int v) = .int v) (hnf : n = nf) : J own cc nL ret nm fr lo n0 nf pc lv [.int v] n m r (some ((some (.int v), m, r) : Res)) some := by
  intro p l e R s mi args below meth c D base cid sa sv H locs ls x C hP hS hl hn hf hx
  cases hx
  subst hnf
  subst hr
  obtain ⟨c1, c2, c3, c4, c5, c6, c7, c8⟩ := C
  exact W.zret (v := v) c1 c2 c3 hw (fun t ht hW => ⟨rfl, by rw [ht]; exact hP, hS.F ht⟩) hS.2.2 hd c7
theorem J_vret (hd : decode cc pc = .ok (.return_, 1)) (hr : ret = none) (hnf : n = nf) : J own cc nL ret nm fr lo n0 nf pc lv [] n m r (some ((none, m, r) : Res)) some := by
  intro p l e R s mi args below meth c D base cid sa sv H locs ls x C hP hS hl hn hf hx
  cases hx
  subst hnf
  subst hr
  obtain ⟨c1, c2, c3, c4, c5, c6, c7, c8⟩ := C
  exact W.vret c1 c2 c3 (fun t ht hW => ⟨rfl, by rw [ht]; exact hP, hS.F ht⟩) hS.2.2 hd c7
end JR

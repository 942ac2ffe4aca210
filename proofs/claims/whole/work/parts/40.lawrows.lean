def R_law : String := "WhichHoldLaw"
def lw_P (b : Addr) (xs : List Int32) (args : Array Value) (s : State) : Prop := args = #[.ref b] ∧ s.IntsAt b xs ∧ xs.length ≤ 2560 ∧ (Jvm.Cond.and given_1 narrow_1).before args s = true
def lw_Q (_ : Array Value) (s : State) (o : Outcome) (t : State) : Prop := o = .returned (some (.int 1)) ∧ Framed s o t [] 600000 7302250
def lw_Z (below : List Frame) (a : Array Value) (s : State) : State → Prop := fun t => ∃ o, t.status = .running ∧ Ended t below o ∧ lw_Q a s o t
/-- the law's own end, with 1 on the stack, nothing written that was there before, its room as the claim has it -/
theorem lw_ret {p : Program} {l : Launch} {e : Env} {s : State} {m : MethodId} {below : List Frame} {meth : Method} {c : Code} {b : Nat} (hx : p.tables.exec = Jvm.exec) (hb : c.code = code) (hr : meth.sig.returnType = ret) (hlocks : meth.locks = false) {pc : Nat} {H : Heap} {ls : Array Slot} (hdg : decode code pc = .ok (.ireturn, 1)) : W p l e room_1 s m #[Value.ref b] below meth c H [] 600000 7302250 (lw_Z below #[Value.ref b] s) (F0 m pc ls [.int 1]) := by
  intro T hT X
  obtain ⟨fs, hret, hrun, hended, hW, hframe⟩ := X.leave (v := some (.int 1)) (hlocks := hlocks) (fun h => by rw [hr] at h; cases h)
  have hmeth' : T.vm.method? m = some meth := X.method'
  refine ⟨T.setFrames fs, ?_, .returned (some (.int 1)), hrun, hended, rfl, ⟨_, rfl⟩, hW, hframe⟩
  jvm_step X.here [X.here.top, hx, hb, hdg, hmeth', hr, ret, narrow_b1]
  (try refine ⟨rfl, ?_⟩); (try refine ⟨rfl, ?_⟩)
  first | (intro acts; rw [hret _ acts rfl rfl rfl]) | rw [hret _ _ rfl rfl rfl]
  exact Steps.refl _
/-- what holds at the law's entry: the machine, the code, the tables' words (any of lw_tbl by 'hts w (by decide +kernel)'), the script of L ints xs at the cell b, what the Statement gives of the start (any of its parts by flat_of_before) -/
def lw_At (p : Program) (s : State) (m : MethodId) (meth : Method) (c : Code) (b L : Nat) (xs : Nat → Int32) : Prop :=
  p.tables.exec = Jvm.exec ∧ c.code = code ∧ meth.sig.returnType = ret ∧ c.maxLocals = 4 ∧ s.vm.findClass R_law = some m.cls ∧ (∀ w ∈ lw_tbl, w.before #[Value.ref b] s = true) ∧ va_X b L xs s s.heap ∧ b < s.heap.size ∧ meth.locks = false ∧ (Jvm.Cond.and given_1 narrow_1).before #[Value.ref b] s = true
def ML (p : Program) (s : State) (mi : MethodId) (meth : Method) (c : Code) (D : va_G) (base : Nat) (cid : Nat → ClassId) (sa sv : Nat → Nat) (b L : Nat) (xs : Nat → Int32) : Prop :=
  p.tables.exec = Jvm.exec ∧ c.code = code ∧ meth.sig.returnType = ret ∧ c.maxLocals = 4 ∧ s.vm.findClass R_law = some mi.cls ∧ (∀ w ∈ TBg, w.before #[Value.ref b] s = true) ∧ meth.locks = false ∧ StU D base cid sa sv s ∧ s.heap.size = base + 0 ∧ va_X b L xs s s.heap ∧ b < s.heap.size ∧ sa 77 = b
def LJ (b L : Nat) (xs : Nat → Int32) (pc : Nat) (lv : List (Nat × Value)) (st : List Value) (n : Nat) (m : Mm) (r : Rr) : Prop :=
  ∀ (p : Program) (l : Launch) (e : Env) (s : State) (mi : MethodId) (below : List Frame) (meth : Method) (c : Code) (D : va_G) (base : Nat) (cid : Nat → ClassId) (sa sv : Nat → Nat) (H : Heap) (locs : List Loc) (ls : Array Slot),
    ML p s mi meth c D base cid sa sv b L xs → va_P D classes (wsof base cid n m r) H → va_S (AB base) s.heap H locs → lv_has ls 4 (lvR base sa lv) → n ≤ 135 →
    W p l e room_1 s mi #[Value.ref b] below meth c H locs (n - 0) (nsl n - nsl 0) (lw_Z below #[Value.ref b] s) (F0 mi pc ls (st.map (rv base sa)))
section LR
variable {b L : Nat} {xs : Nat → Int32} {pc : Nat} {lv : List (Nat × Value)} {st : List Value} {n : Nat} {m : Mm} {r : Rr}
theorem LJ_iconst {z : Int} (v : Int32) (hd : decode code pc = .ok (.iconst z, 1)) (hv : Int32.ofInt z = v) (h : LJ b L xs (pc + 1) (lv) (.int v :: st) (n) (m) (r)) : LJ b L xs (pc) (lv) (st) (n) (m) (r) := by
  intro p l e s mi below meth c D base cid sa sv H locs ls C hP hS hl hf
  exact lv_iconst C.1 C.2.1 hd hv (h p l e s mi below meth c D base cid sa sv H locs ls C hP hS hl hf)
theorem LJ_bipush {z : Int} (v : Int32) (hd : decode code pc = .ok (.bipush z, 2)) (hv : (Int8.ofInt z).toInt32 = v) (h : LJ b L xs (pc + 2) (lv) (.int v :: st) (n) (m) (r)) : LJ b L xs (pc) (lv) (st) (n) (m) (r) := by
  intro p l e s mi below meth c D base cid sa sv H locs ls C hP hS hl hf
  exact lv_bipush C.1 C.2.1 hd hv (h p l e s mi below meth c D base cid sa sv H locs ls C hP hS hl hf)
theorem LJ_ldc2 {ix : Nat} (v : Int64) (hd : decode code pc = .ok (.ldc2_w ix, 3)) (hw : Cond.constantLong R_law ix v ∈ TBg) (h : LJ b L xs (pc + 3) (lv) (.long v :: st) (n) (m) (r)) : LJ b L xs (pc) (lv) (st) (n) (m) (r) := by
  intro p l e s mi below meth c D base cid sa sv H locs ls C hP hS hl hf
  exact lv_ldc2 C.1 C.2.1 C.2.2.2.2.1 (C.2.2.2.2.2.1 _ hw) hd (h p l e s mi below meth c D base cid sa sv H locs ls C hP hS hl hf)
theorem LJ_iload_n {z : Fin 4} (i j : Nat) (v : Int32) (hd : decode code pc = .ok (.iload_n z, 1)) (hi : (z : Nat) = i) (hj : lv[j]? = some (i, .int v)) (h : LJ b L xs (pc + 1) (lv) (.int v :: st) (n) (m) (r)) : LJ b L xs (pc) (lv) (st) (n) (m) (r) := by
  intro p l e s mi below meth c D base cid sa sv H locs ls C hP hS hl hf
  exact lv_iload_n C.1 C.2.1 hd hi (lv_at hl j (lvR_at hj)) (h p l e s mi below meth c D base cid sa sv H locs ls C hP hS hl hf)
theorem LJ_aload_n {z : Fin 4} (i j : Nat) (v : Nat) (hd : decode code pc = .ok (.aload_n z, 1)) (hi : (z : Nat) = i) (hj : lv[j]? = some (i, .ref v)) (h : LJ b L xs (pc + 1) (lv) (.ref v :: st) (n) (m) (r)) : LJ b L xs (pc) (lv) (st) (n) (m) (r) := by
  intro p l e s mi below meth c D base cid sa sv H locs ls C hP hS hl hf
  exact lv_aload_n C.1 C.2.1 hd hi (lv_at hl j (lvR_at hj)) (h p l e s mi below meth c D base cid sa sv H locs ls C hP hS hl hf)
theorem LJ_sload_n {z : Fin 4} (i j : Nat) (v : UInt32) (hd : decode code pc = .ok (.aload_n z, 1)) (hi : (z : Nat) = i) (hj : lv[j]? = some (i, .float v)) (h : LJ b L xs (pc + 1) (lv) (.float v :: st) (n) (m) (r)) : LJ b L xs (pc) (lv) (st) (n) (m) (r) := by
  intro p l e s mi below meth c D base cid sa sv H locs ls C hP hS hl hf
  exact lv_aload_n C.1 C.2.1 hd hi (lv_at hl j (lvR_at hj)) (h p l e s mi below meth c D base cid sa sv H locs ls C hP hS hl hf)
theorem LJ_istore_n {z : Fin 4} (i : Nat) (lw : List (Nat × Value)) {v : Int32} (hd : decode code pc = .ok (.istore_n z, 1)) (hi : (z : Nat) = i) (hn1 : i < 4) (hv : (i, Value.int v) :: lv.filter (fun q => !(q.1 == i) && !(q.1 + 1 == i && q.2.category == 2)) = lw) (h : LJ b L xs (pc + 1) (lw) (st) (n) (m) (r)) : LJ b L xs (pc) (lv) (.int v :: st) (n) (m) (r) := by
  intro p l e s mi below meth c D base cid sa sv H locs ls C hP hS hl hf
  exact lv_istore_n C.1 C.2.1 hd hi hl hn1 (lvR_st hv) (fun ls1 hl1 => h p l e s mi below meth c D base cid sa sv H locs ls1 C hP hS hl1 hf)
theorem LJ_astore_n {z : Fin 4} (i : Nat) (lw : List (Nat × Value)) {v : Nat} (hd : decode code pc = .ok (.astore_n z, 1)) (hi : (z : Nat) = i) (hn1 : i < 4) (hv : (i, Value.ref v) :: lv.filter (fun q => !(q.1 == i) && !(q.1 + 1 == i && q.2.category == 2)) = lw) (h : LJ b L xs (pc + 1) (lw) (st) (n) (m) (r)) : LJ b L xs (pc) (lv) (.ref v :: st) (n) (m) (r) := by
  intro p l e s mi below meth c D base cid sa sv H locs ls C hP hS hl hf
  exact lv_astore_n C.1 C.2.1 hd hi hl hn1 (lvR_st hv) (fun ls1 hl1 => h p l e s mi below meth c D base cid sa sv H locs ls1 C hP hS hl1 hf)
theorem LJ_iinc {z : Int} (i j : Nat) (lw : List (Nat × Value)) (v w : Int32) (hd : decode code pc = .ok (.iinc i z, 3)) (hj : lv[j]? = some (i, .int v)) (hw : v + Int32.ofInt z = w) (hn1 : i < 4) (hv : (i, Value.int w) :: lv.filter (fun q => !(q.1 == i) && !(q.1 + 1 == i && q.2.category == 2)) = lw) (h : LJ b L xs (pc + 3) (lw) (st) (n) (m) (r)) : LJ b L xs (pc) (lv) (st) (n) (m) (r) := by
  intro p l e s mi below meth c D base cid sa sv H locs ls C hP hS hl hf
  exact lv_iinc C.1 C.2.1 hd hl (lvR_at hj) hw hn1 (lvR_st hv) (fun ls1 hl1 => h p l e s mi below meth c D base cid sa sv H locs ls1 C hP hS hl1 hf)
theorem LJ_iadd {x1 y1 : Int32} (hd : decode code pc = .ok (.iadd, 1)) (h : LJ b L xs (pc + 1) (lv) (.int (x1 + y1) :: st) (n) (m) (r)) : LJ b L xs (pc) (lv) (.int y1 :: .int x1 :: st) (n) (m) (r) := by
  intro p l e s mi below meth c D base cid sa sv H locs ls C hP hS hl hf
  exact lv_iadd C.1 C.2.1 hd (h p l e s mi below meth c D base cid sa sv H locs ls C hP hS hl hf)
theorem LJ_isub {x1 y1 : Int32} (hd : decode code pc = .ok (.isub, 1)) (h : LJ b L xs (pc + 1) (lv) (.int (x1 - y1) :: st) (n) (m) (r)) : LJ b L xs (pc) (lv) (.int y1 :: .int x1 :: st) (n) (m) (r) := by
  intro p l e s mi below meth c D base cid sa sv H locs ls C hP hS hl hf
  exact lv_isub C.1 C.2.1 hd (h p l e s mi below meth c D base cid sa sv H locs ls C hP hS hl hf)
theorem LJ_iand {x1 y1 : Int32} (hd : decode code pc = .ok (.iand, 1)) (h : LJ b L xs (pc + 1) (lv) (.int (x1 &&& y1) :: st) (n) (m) (r)) : LJ b L xs (pc) (lv) (.int y1 :: .int x1 :: st) (n) (m) (r) := by
  intro p l e s mi below meth c D base cid sa sv H locs ls C hP hS hl hf
  exact lv_iand C.1 C.2.1 hd (h p l e s mi below meth c D base cid sa sv H locs ls C hP hS hl hf)
theorem LJ_land {x1 y1 : Int64} (hd : decode code pc = .ok (.land, 1)) (h : LJ b L xs (pc + 1) (lv) (.long (x1 &&& y1) :: st) (n) (m) (r)) : LJ b L xs (pc) (lv) (.long y1 :: .long x1 :: st) (n) (m) (r) := by
  intro p l e s mi below meth c D base cid sa sv H locs ls C hP hS hl hf
  exact lv_land C.1 C.2.1 hd (h p l e s mi below meth c D base cid sa sv H locs ls C hP hS hl hf)
theorem LJ_lor {x1 y1 : Int64} (hd : decode code pc = .ok (.lor, 1)) (h : LJ b L xs (pc + 1) (lv) (.long (x1 ||| y1) :: st) (n) (m) (r)) : LJ b L xs (pc) (lv) (.long y1 :: .long x1 :: st) (n) (m) (r) := by
  intro p l e s mi below meth c D base cid sa sv H locs ls C hP hS hl hf
  exact lv_lor C.1 C.2.1 hd (h p l e s mi below meth c D base cid sa sv H locs ls C hP hS hl hf)
theorem LJ_lshl {x1 : Int64} {y1 : Int32} (hd : decode code pc = .ok (.lshl, 1)) (h : LJ b L xs (pc + 1) (lv) (.long (x1 <<< (y1.toInt64 &&& 63)) :: st) (n) (m) (r)) : LJ b L xs (pc) (lv) (.int y1 :: .long x1 :: st) (n) (m) (r) := by
  intro p l e s mi below meth c D base cid sa sv H locs ls C hP hS hl hf
  exact lv_lshl C.1 C.2.1 hd rfl (h p l e s mi below meth c D base cid sa sv H locs ls C hP hS hl hf)
theorem LJ_i2l {x1 : Int32} (hd : decode code pc = .ok (.i2l, 1)) (h : LJ b L xs (pc + 1) (lv) (.long (x1.toInt64) :: st) (n) (m) (r)) : LJ b L xs (pc) (lv) (.int x1 :: st) (n) (m) (r) := by
  intro p l e s mi below meth c D base cid sa sv H locs ls C hP hS hl hf
  exact lv_i2l C.1 C.2.1 hd rfl (h p l e s mi below meth c D base cid sa sv H locs ls C hP hS hl hf)
theorem LJ_dup {va : Value} (hd : decode code pc = .ok (.dup, 1)) (hva : va.category = 1) (h : LJ b L xs (pc + 1) (lv) (va :: va :: st) (n) (m) (r)) : LJ b L xs (pc) (lv) (va :: st) (n) (m) (r) := by
  intro p l e s mi below meth c D base cid sa sv H locs ls C hP hS hl hf
  exact lv_dup C.1 C.2.1 hd (by rw [rv_cat]; exact hva) (h p l e s mi below meth c D base cid sa sv H locs ls C hP hS hl hf)
theorem LJ_goto {off : Int} (tgt : Nat) (hd : decode code pc = .ok (.goto off, 3)) (ht : (pc : Int) + off = (tgt : Int)) (h : LJ b L xs (tgt) (lv) (st) (n) (m) (r)) : LJ b L xs (pc) (lv) (st) (n) (m) (r) := by
  intro p l e s mi below meth c D base cid sa sv H locs ls C hP hS hl hf
  exact lv_goto C.1 C.2.1 hd ht (h p l e s mi below meth c D base cid sa sv H locs ls C hP hS hl hf)
theorem LJ_icmp_eq {x1 y1 : Int32} {off : Int} (tgt : Nat) (hd : decode code pc = .ok (.if_icmp .eq off, 3)) (ht : (pc : Int) + off = (tgt : Int)) (h1 : x1 = y1 → LJ b L xs (tgt) (lv) (st) (n) (m) (r)) (h2 : ¬ x1 = y1 → LJ b L xs (pc + 3) (lv) (st) (n) (m) (r)) : LJ b L xs (pc) (lv) (.int y1 :: .int x1 :: st) (n) (m) (r) := by
  intro p l e s mi below meth c D base cid sa sv H locs ls C hP hS hl hf
  exact lv_icmp_eq C.1 C.2.1 hd ht (fun hc => h1 hc p l e s mi below meth c D base cid sa sv H locs ls C hP hS hl hf) (fun hc => h2 hc p l e s mi below meth c D base cid sa sv H locs ls C hP hS hl hf)
theorem LJ_icmp_gt {x1 y1 : Int32} {off : Int} (tgt : Nat) (hd : decode code pc = .ok (.if_icmp .gt off, 3)) (ht : (pc : Int) + off = (tgt : Int)) (h1 : y1 < x1 → LJ b L xs (tgt) (lv) (st) (n) (m) (r)) (h2 : ¬ y1 < x1 → LJ b L xs (pc + 3) (lv) (st) (n) (m) (r)) : LJ b L xs (pc) (lv) (.int y1 :: .int x1 :: st) (n) (m) (r) := by
  intro p l e s mi below meth c D base cid sa sv H locs ls C hP hS hl hf
  exact lv_icmp_gt C.1 C.2.1 hd ht (fun hc => h1 hc p l e s mi below meth c D base cid sa sv H locs ls C hP hS hl hf) (fun hc => h2 hc p l e s mi below meth c D base cid sa sv H locs ls C hP hS hl hf)
theorem LJ_sld {i : Int32} (hd : decode code pc = .ok (.iaload, 1)) (hi : vp_in i L) (h : LJ b L xs (pc + 1) (lv) (.int (xs i.toNatClampNeg) :: st) (n) (m) (r)) : LJ b L xs (pc) (lv) (.int i :: .float 77 :: st) (n) (m) (r) := by
  intro p l e s mi below meth c D base cid sa sv H locs ls C hP hS hl hf
  obtain ⟨c1, c2, c3, c4, c5, c6, c7, c8, c9, cX, cb, csa⟩ := id C
  have hbA : ¬ AB base b := by
    show ¬ base ≤ b
    omega
  have e7 : rv base sa (.float 77) = .ref b := by
    show Value.ref (sa (77 : UInt32).toNat) = .ref b
    rw [← csa]
    rfl
  simp only [List.map_cons, e7]
  exact va_sld c1 c2 cX cb hbA hS hi hd (h p l e s mi below meth c D base cid sa sv H locs ls C hP hS hl hf)
theorem LJ_slen (hd : decode code pc = .ok (.arraylength, 1)) (h : LJ b L xs (pc + 1) (lv) (.int (nI L) :: st) (n) (m) (r)) : LJ b L xs (pc) (lv) (.float 77 :: st) (n) (m) (r) := by
  intro p l e s mi below meth c D base cid sa sv H locs ls C hP hS hl hf
  obtain ⟨c1, c2, c3, c4, c5, c6, c7, c8, c9, cX, cb, csa⟩ := id C
  have hbA : ¬ AB base b := by
    show ¬ base ≤ b
    omega
  have e7 : rv base sa (.float 77) = .ref b := by
    show Value.ref (sa (77 : UInt32).toNat) = .ref b
    rw [← csa]
    rfl
  simp only [List.map_cons, e7]
  exact va_slen c1 c2 cX cb hbA hS hd (h p l e s mi below meth c D base cid sa sv H locs ls C hP hS hl hf)
theorem LJ_tsIn {dflt lo1 hi1 : Int} {offs : Array Int} {len : Nat} {x1 c0 : Int32} {off : Int} (tgt : Nat) (hc : x1 = c0) (hd : decode code pc = .ok (.tableswitch dflt lo1 hi1 offs, len)) (h1 : ¬ c0.toInt < lo1) (h2 : ¬ hi1 < c0.toInt) (ho : offs[(c0.toInt - lo1).toNat]? = some off) (ht : (pc : Int) + off = (tgt : Int)) (h : LJ b L xs (tgt) (lv) (st) (n) (m) (r)) : LJ b L xs (pc) (lv) (.int x1 :: st) (n) (m) (r) := by
  intro p l e s mi below meth c D base cid sa sv H locs ls C hP hS hl hf
  subst hc
  exact lv_tableIn C.1 C.2.1 hd h1 h2 ho ht (h p l e s mi below meth c D base cid sa sv H locs ls C hP hS hl hf)
theorem LJ_tsOut {dflt lo1 hi1 : Int} {offs : Array Int} {len : Nat} {x1 : Int32} (tgt : Nat) (hd : decode code pc = .ok (.tableswitch dflt lo1 hi1 offs, len)) (hr : x1.toInt < lo1 ∨ hi1 < x1.toInt) (ht : (pc : Int) + dflt = (tgt : Int)) (h : LJ b L xs (tgt) (lv) (st) (n) (m) (r)) : LJ b L xs (pc) (lv) (.int x1 :: st) (n) (m) (r) := by
  intro p l e s mi below meth c D base cid sa sv H locs ls C hP hS hl hf
  exact lv_tableOut C.1 C.2.1 hd hr ht (h p l e s mi below meth c D base cid sa sv H locs ls C hP hS hl hf)
theorem LJ_lv (ks : List Nat) {lw : List (Nat × Value)} (hk : lv_pick lv ks = lw) (h : LJ b L xs (pc) (lw) (st) (n) (m) (r)) : LJ b L xs (pc) (lv) (st) (n) (m) (r) := by
  intro p l e s mi below meth c D base cid sa sv H locs ls C hP hS hl hf
  refine h p l e s mi below meth c D base cid sa sv H locs ls C hP hS (lv_sub hl ks ?_) hf
  rw [← hk]
  simp only [lv_pick, lvR]
  rw [List.map_filterMap]
  congr 1
  funext i
  simp [List.getElem?_map]
theorem LJ_rcong {r1 : Rr} (hr : ∀ a, a < n → r a = r1 a) (h : LJ b L xs (pc) (lv) (st) (n) (m) (r1)) : LJ b L xs (pc) (lv) (st) (n) (m) (r) := by
  intro p l e s mi below meth c D base cid sa sv H locs ls C hP hS hl hf
  refine h p l e s mi below meth c D base cid sa sv H locs ls C ?_ hS hl hf
  have e1 : wsof base cid n m r = wsof base cid n m r1 := by
    unfold wsof
    apply List.map_congr_left
    intro i hi
    have hi : i < n := by simpa using hi
    simp only [cellOf, hr i hi]
  rw [← e1]
  exact hP
theorem LJ_ret1 (hd : decode code pc = .ok (.ireturn, 1)) : LJ b L xs (pc) (lv) ([.int 1]) (n) (m) (r) := by
  intro p l e s mi below meth c D base cid sa sv H locs ls C hP hS hl hf
  obtain ⟨c1, c2, c3, c4, c5, c6, c7, c8, c9, cX, cb, csa⟩ := id C
  have hm1 := nsl_mono hf
  have h135 : nsl 135 = 2815 := by decide +kernel
  refine va_forget (fun q hq => by have := hS.2.2 q hq; rw [c9]; exact this) ?_
  refine W.widen (k := 600000) (n := 7302250) (by omega) (by omega) ?_
  exact lw_ret c1 c2 c3 c7 hd
theorem LJ_new {ix : Nat} (ci : Nat) (hd : decode code pc = .ok (.new ix, 3)) (hci : ci < 10) (hcl : Cond.classLink R_law ix (CN ci) ∈ TBg) (hinst : Cond.instantiable (CN ci) (CK ci) ∈ TBg) (hini : Cond.initialized (CN ci) ∈ TBg) (hL : (LAY n).1 = ci) (hm : ∀ j, m n j = 0) (hr : ∀ j, r n j = none) (hnf : n + 1 ≤ 135) (h : LJ b L xs (pc + 3) (lv) (.ref n :: st) (n + 1) (m) (r)) : LJ b L xs (pc) (lv) (st) (n) (m) (r) := by
  intro p l e s mi below meth c D base cid sa sv H locs ls C hP hS hl hf
  obtain ⟨c1, c2, c3, c4, c5, c6, c7, c8, c9, cX, cb, csa⟩ := id C
  have hLe := lay_obj hL hci
  have hm1 := nsl_mono hnf
  have h135 : nsl 135 = 2815 := by decide +kernel
  have h00 : nsl 0 = 0 := by decide +kernel
  have hsu := nsl_succ n
  rw [hLe] at hsu
  simp only at hsu
  refine va_new (D := D) (ci := ci) (fs := (List.range (CK ci)).map (fun j => fval base ci j (m n j) (r n j))) (C := CN ci) (T := CT ci) (N := CK ci) c1 c2 c6 (cls_in ci hci) (tyT ci) (cls_ty ci hci) c5 (c6 _ hcl) (c6 _ hinst) (c6 _ hini) c8.1 hP wsof_D hS (fun q hq => by rw [c9] at hq; show base ≤ q; omega) (cls_at ci hci) (fun j hj => ?_) (by show n - 0 + 1 ≤ 600000; omega) (by show nsl n - nsl 0 + CK ci ≤ 7302250; omega) hd (fun q H1 hP1 hD1 hS1 => ?_)
  · rw [df_all ci hci j hj]
    simp only [vp_V, List.getD_eq_getElem?_getD, List.getElem?_map, List.getElem?_range hj, Option.map_some, Option.getD_some, fval, hm, hr]
    by_cases hR : isR ci j = true <;> simp [hR, va_rf]
  · refine W_new hP1 hD1 c9 (Nat.zero_le n) (fun hq => ?_)
    subst hq
    rw [← cell_obj (cid := cid) hLe (by omega), wsof_push] at hP1
    have e1 : n - 0 + 1 = n + 1 - 0 := by omega
    have e2 : nsl n - nsl 0 + CK ci = nsl (n + 1) - nsl 0 := by omega
    rw [e1, e2]
    exact h p l e s mi below meth c D base cid sa sv H1 locs ls C hP1 hS1 hl hnf
theorem LJ_callV {ix : Nat} {y : MethodName} {bytes : ByteArray} {maxL : Nat} {rt : Option FieldType} {frc loc n1 : Nat} {v : Option Value} {m1 : Mm} {r1 : Rr} (a ci np : Nat) (As : List Value) (hd : decode code pc = .ok (.invokevirtual ix, 3)) (hM : MV y bytes maxL rt np) (hv : Cond.instanceMethod y ∈ TBg ∧ Cond.selects y.cls y y ∈ TBg) (hl1 : Cond.methodLink R_law ix y ∈ TBg) (hC : Ct y bytes maxL rt frc loc (.ref a :: As) n n1 m r (some (v, m1, r1))) (hlen : As.length = np) (hL : (LAY a).1 = ci) (hci : ci < 10) (hcn : CN ci = y.cls) (ha : a < n) (hfr : frc + 1 ≤ 11 ∧ 8 + (maxL + 11) + loc ≤ 386) (hst : (st.map fun v => v.category).sum ≤ 8) (hn1 : n ≤ n1 ∧ n1 ≤ 135) (h : LJ b L xs (pc + 3) (lv) (v.toList ++ st) (n1) (m1) (r1)) : LJ b L xs (pc) (lv) (As.reverse ++ .ref a :: st) (n) (m) (r) := by
  intro p l e s mi below meth c D base cid sa sv H locs ls C hP hS hl hf
  subst hlen
  obtain ⟨c1, c2, c3, c4, c5, c6, c7, c8, c9, cX, cb, csa⟩ := id C
  obtain ⟨w1, w2, w3⟩ := hM
  refine W_size hP hS c9 (Nat.zero_le n) (fun hz => ?_)
  have hm1 := nsl_mono hn1.1
  have hm2 := nsl_mono hn1.2
  have h135 : nsl 135 = 2815 := by decide +kernel
  have h00 : nsl 0 = 0 := by decide +kernel
  have hcat := cat_sum base sa st
  refine va_callQ (va_runV (C := y.cls) (As := As.map (rv base sa)) (rest := st.map (rv base sa)) ⟨c1, c2, c4, c5, c6⟩ (hC l D base cid sa sv (v, m1, r1) rfl) (cwV As.length c6 (fun w hw => by
      rcases List.mem_append.mp hw with h9 | h9
      · simp only [List.mem_cons, List.not_mem_nil, or_false] at h9
        rcases h9 with rfl | rfl | rfl | rfl
        · exact TBg_good _ hl1
        · exact TBg_good _ hv.1
        · exact TBg_good _ hv.2
        · exact TBg_good _ w2
      · exact TBg_code w1 w h9) rfl rfl rfl ⟨rfl, w3⟩ hfr) (by rw [← hcn]; exact ⟨blind, va_recv c8.1 hP (cls_at ci hci) (q0 := a) (by rw [wsof_at ha, cell_obj (lay_obj hL hci) (by omega)]), fun U hU hW => ⟨rfl, by rw [hU]; exact hz, by rw [hU]; exact hP, c8.to hW (fun q hq hA => by rw [hU]; exact hS.2.1 q hq hA)⟩⟩) rfl (by simp) hl.1 (by simp [rv]) (lv_room (by rw [hcat]; exact hst)) hd ⟨by show n - 0 + (n1 - n) ≤ 600000; omega, by show nsl n - nsl 0 + (nsl n1 - nsl n) ≤ 7302250; omega⟩) hS (fun H1 locs1 hP1 hS1 => ?_)
  have e1 : n - 0 + (n1 - n) = n1 - 0 := by omega
  have e2 : nsl n - nsl 0 + (nsl n1 - nsl n) = nsl n1 - nsl 0 := by omega
  rw [e1, e2]
  have h1 := h p l e s mi below meth c D base cid sa sv H1 locs1 ls C hP1 hS1 hl hn1.2
  have e3 : (v.toList ++ st).map (rv base sa) = (v.map (rv base sa)).toList ++ st.map (rv base sa) := by
    cases v <;> simp
  rw [e3] at h1
  exact h1
theorem LJ_callI {ix : Nat} {y : MethodName} {bytes : ByteArray} {maxL : Nat} {rt : Option FieldType} {frc loc n1 : Nat} {v : Option Value} {m1 : Mm} {r1 : Rr} (a np : Nat) (As : List Value) (hd : decode code pc = .ok (.invokespecial ix, 3)) (hM : MV y bytes maxL rt np) (hrt : rt = none) (hin : y.name = "<init>") (hv : Cond.instanceMethod y ∈ TBg) (hl1 : Cond.methodLink R_law ix y ∈ TBg) (hC : Ct y bytes maxL rt frc loc (.ref a :: As) n n1 m r (some (v, m1, r1))) (hlen : As.length = np) (hfr : frc + 1 ≤ 11 ∧ 8 + (maxL + 11) + loc ≤ 386) (hst : (st.map fun v => v.category).sum ≤ 8) (hn1 : n ≤ n1 ∧ n1 ≤ 135) (h : LJ b L xs (pc + 3) (lv) (v.toList ++ st) (n1) (m1) (r1)) : LJ b L xs (pc) (lv) (As.reverse ++ .ref a :: st) (n) (m) (r) := by
  intro p l e s mi below meth c D base cid sa sv H locs ls C hP hS hl hf
  subst hrt
  subst hlen
  obtain ⟨c1, c2, c3, c4, c5, c6, c7, c8, c9, cX, cb, csa⟩ := id C
  obtain ⟨w1, w2, w3⟩ := hM
  refine W_size hP hS c9 (Nat.zero_le n) (fun hz => ?_)
  have hm1 := nsl_mono hn1.1
  have hm2 := nsl_mono hn1.2
  have h135 : nsl 135 = 2815 := by decide +kernel
  have h00 : nsl 0 = 0 := by decide +kernel
  have hcat := cat_sum base sa st
  refine va_callQ (va_runI (As := As.map (rv base sa)) (rest := st.map (rv base sa)) ⟨c1, c2, c4, c5, c6⟩ (hC l D base cid sa sv (v, m1, r1) rfl) (cwI As.length c6 (TBg_code w1) rfl rfl rfl (c6 _ w2) (c6 _ hl1) (c6 _ hv) hin w3 hfr) ⟨blind, fun U hU hW => ⟨rfl, by rw [hU]; exact hz, by rw [hU]; exact hP, c8.to hW (fun q hq hA => by rw [hU]; exact hS.2.1 q hq hA)⟩⟩ rfl (by simp) hl.1 (by simp [rv]) (lv_room (by rw [hcat]; exact hst)) hd ⟨by show n - 0 + (n1 - n) ≤ 600000; omega, by show nsl n - nsl 0 + (nsl n1 - nsl n) ≤ 7302250; omega⟩) hS (fun H1 locs1 hP1 hS1 => ?_)
  have e1 : n - 0 + (n1 - n) = n1 - 0 := by omega
  have e2 : nsl n - nsl 0 + (nsl n1 - nsl n) = nsl n1 - nsl 0 := by omega
  rw [e1, e2]
  have h1 := h p l e s mi below meth c D base cid sa sv H1 locs1 ls C hP1 hS1 hl hn1.2
  have e3 : (v.toList ++ st).map (rv base sa) = (v.map (rv base sa)).toList ++ st.map (rv base sa) := by
    cases v <;> simp
  rw [e3] at h1
  exact h1
end LR

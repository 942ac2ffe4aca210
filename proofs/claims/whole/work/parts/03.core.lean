abbrev Mm : Type := Nat → Nat → Int32
abbrev Rr : Type := Nat → Nat → Option Nat
abbrev Res : Type := Option Value × Mm × Rr
abbrev classes : List vw_C := [(RX0, TX0, 7), (RX1, TX1, 20), (RX2, TX2, 10), (RX3, TX3, 3), (RX4, TX4, 10), (RX5, TX5, 3), (RX6, TX6, 2), (RX7, TX7, 11), (RX8, TX8, 13), (RX9, TX9, 42)]
def tyT (c : Nat) : Nat → FieldType := match c with
  | 0 => tyX0
  | 1 => tyX1
  | 2 => tyX2
  | 3 => tyX3
  | 4 => tyX4
  | 5 => tyX5
  | 6 => tyX6
  | 7 => tyX7
  | 8 => tyX8
  | _ => tyX9
def LAYL : List (Nat × Nat) := [(8, 13), (2, 10), (21, 400), (22, 5), (7, 11), (20, 8), (20, 8), (20, 10), (20, 4), (20, 3), (0, 7), (20, 12), (20, 12), (20, 12), (20, 12), (20, 12), (20, 12), (3, 3), (7, 11), (20, 8), (20, 8), (20, 10), (20, 4), (20, 3), (0, 7), (20, 12), (20, 12), (20, 12), (20, 12), (20, 12), (20, 12), (3, 3), (23, 2), (22, 2), (4, 10), (20, 14), (20, 3), (20, 3), (20, 3), (3, 3), (6, 2), (20, 8), (24, 4), (1, 20), (20, 8), (20, 8), (20, 8), (20, 8), (20, 10), (20, 10), (20, 10), (20, 10), (20, 10), (20, 10), (20, 4), (20, 4), (20, 4), (20, 3), (20, 3), (20, 5), (1, 20), (20, 8), (20, 8), (20, 8), (20, 8), (20, 10), (20, 10), (20, 10), (20, 10), (20, 10), (20, 10), (20, 4), (20, 4), (20, 4), (20, 3), (20, 3), (20, 5), (7, 11), (20, 8), (20, 8), (20, 10), (20, 4), (20, 3), (0, 7), (20, 12), (20, 12), (20, 12), (20, 12), (20, 12), (20, 12), (3, 3), (7, 11), (20, 8), (20, 8), (20, 10), (20, 4), (20, 3), (0, 7), (20, 12), (20, 12), (20, 12), (20, 12), (20, 12), (20, 12), (3, 3), (5, 3), (20, 40), (5, 3), (20, 40), (5, 3), (20, 40), (5, 3), (20, 40), (9, 42), (20, 512), (22, 2), (20, 32), (20, 60), (20, 12), (20, 6), (20, 5), (20, 32), (20, 60), (20, 12), (20, 6), (20, 5), (22, 5), (20, 400), (20, 14), (20, 3), (20, 3), (20, 8), (20, 4), (20, 4), (20, 160)]
def LAY (k : Nat) : Nat × Nat := LAYL.getD k (20, 0)
def isRL : List (List Bool) := [[false, true, true, true, true, true, true], [false, false, false, false, true, true, true, true, true, true, true, true, true, true, true, true, true, true, true, true], [true, false, false, false, false, true, true, false, false, false], [false, false, false], [false, false, true, true, true, true, false, false, false, false], [false, false, true], [false, true], [false, false, false, false, true, true, true, true, true, true, true], [true, true, true, true, true, true, true, true, true, true, true, false, false], [true, true, false, true, false, true, false, true, false, true, true, false, true, false, true, false, true, false, true, true, true, true, false, false, false, false, false, false, false, false, false, true, true, true, false, false, false, true, true, true, true, false]]
def isR (c j : Nat) : Bool := (isRL.getD c []).getD j false
def nsl (n : Nat) : Nat := ((LAYL.take n).map (fun q => q.2)).sum
def TBg : List Cond := lw_tbl.filter goodWord
theorem TBg_in {w : Cond} (h : w ∈ lw_tbl) (hg : goodWord w = true) : w ∈ TBg := List.mem_filter.mpr ⟨h, hg⟩
theorem TBg_good : GoodIn TBg TBg := fun w h => ⟨h, good_of_word (List.mem_filter.mp h).2⟩
theorem TBg_code {y : MethodName} {cc : ByteArray} {nL : Nat} {ret : Option FieldType} (h : Cond.code y cc nL ret ∈ TBg) : GoodIn TBg (Cond.code y cc nL ret :: TBg) := fun w hw => (List.mem_cons.mp hw).elim (fun e => by rw [e]; exact TBg_good _ h) (fun h => TBg_good w h)
def up2 (m : Mm) (a i : Nat) (v : Int32) : Mm := fun b => if b = a then upd (m a) i v else m b
def upR (r : Rr) (a i : Nat) (v : Option Nat) : Rr := fun b => if b = a then va_up (r a) i v else r b
def upA (m : Mm) (a : Nat) (f : Nat → Int32) : Mm := fun b => if b = a then f else m b
/-- an abstract value as it lies on the machine: cells from base on, the text constants at their own places -/
def rv (base : Nat) (sa : Nat → Nat) : Value → Value
  | .ref a => .ref (base + a)
  | .float j => .ref (sa j.toNat)
  | v => v
theorem rv_cat (base : Nat) (sa : Nat → Nat) (v : Value) : (rv base sa v).category = v.category := by cases v <;> rfl
def lvR (base : Nat) (sa : Nat → Nat) (lv : List (Nat × Value)) : List (Nat × Value) := lv.map (fun q => (q.1, rv base sa q.2))
def fval (base c j : Nat) (x : Int32) (y : Option Nat) : Value := if isR c j = true then va_rf (y.map (base + ·)) else .int x
def cellOf (base : Nat) (cid : Nat → ClassId) (k : Nat) (m : Mm) (r : Rr) : va_E :=
  if (LAY k).1 < 20 then .inr ((LAY k).1, (List.range (LAY k).2).map (fun j => fval base (LAY k).1 j (m k j) (r k j)))
  else if (LAY k).1 < 23 then .inl (cid (LAY k).1, (LAY k).2, .inl (m k))
  else .inl (cid (LAY k).1, (LAY k).2, .inr (.inr (.inr (.inr (fun i => (r k i).map (base + ·))))))
def wsof (base : Nat) (cid : Nat → ClassId) (n : Nat) (m : Mm) (r : Rr) : va_W := (List.range n).map (fun k => (base + k, cellOf base cid k m r))
theorem wsof_at {base n k : Nat} {cid : Nat → ClassId} {m : Mm} {r : Rr} (h : k < n) : (wsof base cid n m r)[k]? = some (base + k, cellOf base cid k m r) := by
  simp [wsof, h]
theorem wsof_len {base n : Nat} {cid : Nat → ClassId} {m : Mm} {r : Rr} : (wsof base cid n m r).length = n := by simp [wsof]
theorem wsof_get {base n k : Nat} {cid : Nat → ClassId} {m : Mm} {r : Rr} {q : Nat × va_E} (h : (wsof base cid n m r)[k]? = some q) : k < n ∧ q = (base + k, cellOf base cid k m r) := by
  have h1 : k < n := by have := (List.getElem?_eq_some_iff.mp h).1; rwa [wsof_len] at this
  rw [wsof_at h1] at h
  exact ⟨h1, (Option.some.inj h).symm⟩
theorem wsof_D {base n : Nat} {cid : Nat → ClassId} {m : Mm} {r : Rr} : va_D (fun q => base ≤ q) (wsof base cid n m r) := by
  refine ⟨fun i j x y hi hj hxy => ?_, fun k q hk => ?_⟩
  · obtain ⟨-, rfl⟩ := wsof_get hi
    obtain ⟨-, rfl⟩ := wsof_get hj
    simp only at hxy
    omega
  · obtain ⟨-, rfl⟩ := wsof_get hk
    exact Nat.le_add_right _ _
theorem wsof_set {base n k : Nat} {cid : Nat → ClassId} {m m' : Mm} {r r' : Rr} (hm : ∀ i, i ≠ k → m' i = m i) (hr : ∀ i, i ≠ k → r' i = r i) : (wsof base cid n m r).set k (base + k, cellOf base cid k m' r') = wsof base cid n m' r' := by
  apply List.ext_getElem?
  intro i
  by_cases hi : i < n
  · by_cases hk : i = k
    · subst hk
      rw [List.getElem?_set_self (by rw [wsof_len]; exact hi), wsof_at hi]
    · rw [List.getElem?_set_ne (Ne.symm hk), wsof_at hi, wsof_at hi]
      simp only [cellOf, hm i hk, hr i hk]
  · rw [List.getElem?_eq_none (by rw [List.length_set, wsof_len]; omega), List.getElem?_eq_none (by rw [wsof_len]; omega)]
theorem wsof_push {base n : Nat} {cid : Nat → ClassId} {m : Mm} {r : Rr} : wsof base cid n m r ++ [(base + n, cellOf base cid n m r)] = wsof base cid (n + 1) m r := by
  simp [wsof, List.range_succ]
theorem cell_obj {base k ci N : Nat} {cid : Nat → ClassId} {m : Mm} {r : Rr} (h : LAY k = (ci, N)) (hc : ci < 20) : cellOf base cid k m r = .inr (ci, (List.range N).map (fun j => fval base ci j (m k j) (r k j))) := by
  simp [cellOf, h, hc]
theorem cell_arr {base k t N : Nat} {cid : Nat → ClassId} {m : Mm} {r : Rr} (h : LAY k = (t, N)) (h1 : ¬ t < 20) (h2 : t < 23) : cellOf base cid k m r = .inl (cid t, N, .inl (m k)) := by
  simp [cellOf, h, h1, h2]
theorem cell_arq {base k t N : Nat} {cid : Nat → ClassId} {m : Mm} {r : Rr} (h : LAY k = (t, N)) (h1 : ¬ t < 20) (h2 : ¬ t < 23) : cellOf base cid k m r = .inl (cid t, N, .inr (.inr (.inr (.inr (fun i => (r k i).map (base + ·)))))) := by
  simp [cellOf, h, h1, h2]
theorem map_range_set {α : Type} (f : Nat → α) (N j : Nat) (v : α) : ((List.range N).map f).set j v = (List.range N).map (fun i => if i = j then v else f i) := by
  apply List.ext_getElem?
  intro i
  by_cases hi : i < N
  · by_cases hj : i = j
    · subst hj
      rw [List.getElem?_set_self (by simpa using hi)]
      simp [hi]
    · rw [List.getElem?_set_ne (Ne.symm hj)]
      simp [hi, hj]
  · rw [List.getElem?_eq_none (by simp; omega), List.getElem?_eq_none (by simp; omega)]
theorem up2_self (m : Mm) (a i : Nat) (v : Int32) : up2 m a i v a = upd (m a) i v := if_pos rfl
theorem up2_ne {m : Mm} {a b i : Nat} {v : Int32} (h : b ≠ a) : up2 m a i v b = m b := if_neg h
theorem upR_self (r : Rr) (a i : Nat) (v : Option Nat) : upR r a i v a = va_up (r a) i v := if_pos rfl
theorem upR_ne {r : Rr} {a b i : Nat} {v : Option Nat} (h : b ≠ a) : upR r a i v b = r b := if_neg h
theorem upA_self (m : Mm) (a : Nat) (f : Nat → Int32) : upA m a f a = f := if_pos rfl
theorem upA_ne {m : Mm} {a b : Nat} {f : Nat → Int32} (h : b ≠ a) : upA m a f b = m b := if_neg h
theorem cell_putI {base k ci N j : Nat} {cid : Nat → ClassId} {m : Mm} {r : Rr} {v : Int32} (h : LAY k = (ci, N)) (hc : ci < 20) (hR : isR ci j = false) : (.inr (ci, ((List.range N).map (fun j => fval base ci j (m k j) (r k j))).set j (.int v)) : va_E) = cellOf base cid k (up2 m k j v) r := by
  rw [cell_obj h hc, map_range_set, up2_self]
  congr 2
  apply List.map_congr_left
  intro i _
  by_cases hi : i = j
  · subst hi
    simp [fval, hR, upd]
  · simp [hi, fval, upd]
theorem cell_putR {base k ci N j b : Nat} {cid : Nat → ClassId} {m : Mm} {r : Rr} (h : LAY k = (ci, N)) (hc : ci < 20) (hR : isR ci j = true) : (.inr (ci, ((List.range N).map (fun j => fval base ci j (m k j) (r k j))).set j (.ref (base + b))) : va_E) = cellOf base cid k m (upR r k j (some b)) := by
  rw [cell_obj h hc, map_range_set, upR_self]
  congr 2
  apply List.map_congr_left
  intro i _
  by_cases hi : i = j
  · subst hi
    simp [fval, hR, va_up, va_rf]
  · simp [hi, fval, va_up]

def nS : Nat := 10
def lenS : List Nat := [4, 4, 4, 4, 5, 5, 5, 5, 4, 4]
def bytS : List (List Int32) := [[104, 111, 108, 100], [100, 111, 111, 114], [104, 111, 108, 101], [112, 117, 109, 112], [99, 114, 101, 119, 115], [115, 105, 110, 107, 115], [108, 105, 115, 116, 115], [116, 114, 105, 109, 115], [115, 97, 102, 101], [115, 104, 117, 116]]
def txS : List String := ["hold", "door", "hole", "pump", "crews", "sinks", "lists", "trims", "safe", "shut"]
def idS : List Nat := [91, 97, 99, 101, 103, 105, 107, 109, 111, 158]
def tysOf (cid : Nat → ClassId) : List (ClassId × FieldType) := [(cid 20, .int), (cid 21, .byte), (cid 22, .boolean), (cid 23, .object RX7), (cid 24, .object RX5)]

theorem nsl_mono {a b : Nat} (h : a ≤ b) : nsl a ≤ nsl b := by
  obtain ⟨d, rfl⟩ := Nat.exists_eq_add_of_le h
  unfold nsl
  rw [List.take_add, List.map_append, List.sum_append]
  exact Nat.le_add_right _ _
theorem nsl_succ (a : Nat) : nsl (a + 1) = nsl a + (LAY a).2 := by
  unfold nsl LAY
  rw [List.take_add, List.map_append, List.sum_append]
  congr 1
  by_cases ha : a < LAYL.length
  · have h9 : List.take 1 (List.drop a LAYL) = [LAYL[a]] := by
      rw [List.drop_eq_getElem_cons ha]
      rfl
    rw [h9, List.getD_eq_getElem?_getD, List.getElem?_eq_getElem ha]
    simp
  · rw [List.drop_eq_nil_of_le (by omega), List.getD_eq_getElem?_getD, List.getElem?_eq_none (by omega)]
    rfl
/-- what is said of a method once: it is there, and its code -/
def MV (y : MethodName) (bytes : ByteArray) (maxL : Nat) (rt : Option FieldType) (np : Nat) : Prop := Cond.code y bytes maxL rt ∈ TBg ∧ Cond.initialized y.cls ∈ TBg ∧ (y.cls ≠ "java/lang/invoke/MethodHandle" ∧ y.cls ≠ "java/lang/invoke/VarHandle" ∧ (parseMethodDescriptor y.desc).map (fun d => d.parameters.length) = some np)
theorem blind {D : va_G} {base n : Nat} {cid : Nat → ClassId} {sa sv : Nat → Nat} {m : Mm} {r : Rr} {av : List Value} : FrameBlind (va_Pc av (fun U => U.heap.size = base + n ∧ va_P D classes (wsof base cid n m r) U.heap ∧ StU D base cid sa sv U)) := by
  intro a U g mk q
  obtain ⟨q0, q1, q2, q3⟩ := q
  exact ⟨q0, q1, q2, q3.to (State.WarmedH.refl U) (fun _ _ _ => rfl)⟩
section CQ
variable {p : Program} {l : Launch} {e : Env} {R : Room} {s : State} {mi : MethodId} {args : Array Value} {below : List Frame} {meth : Method} {c : Code} {H : Heap} {locs : List Loc} {cells slots : Nat} {Q : State → Prop}
theorem va_callQ {mc ms pc : Nat} {ls : Array Slot} {st0 rest : List Value} {base n1 : Nat} {sa : Nat → Nat} {cid : Nat → ClassId} {D : va_G} {y0 : Res} {a : Array Value}
    (hr : va_Run p l e R s mi args below meth c H locs cells slots mc ms (F0 mi pc ls st0) rest (QR base sa cid D n1 y0 a) (AB base)) (hS : va_S (AB base) s.heap H locs)
    (kk : ∀ (H1 : Heap) (locs1 : List Loc), va_P D classes (wsof base cid n1 y0.2.1 y0.2.2) H1 → va_S (AB base) s.heap H1 locs1 → W p l e R s mi args below meth c H1 locs1 (cells + mc) (slots + ms) Q (F0 mi (pc + 3) ls ((y0.1.map (rv base sa)).toList ++ rest))) : W p l e R s mi args below meth c H locs cells slots Q (F0 mi pc ls st0) := by
  intro T hT X
  obtain ⟨v, st₀, t, T', L, h0, X', hL, e1, e2, ⟨hv, hp, hz, hk⟩, st⟩ := hr T hT X
  have hv' : v = y0.1.map (rv base sa) := by
    have := Outcome.returned.inj hv
    exact this
  subst hv'
  rw [h0] at hz hk
  obtain ⟨t2, a1, b1⟩ := kk T'.heap (locs ++ L) (by rw [e1]; exact hp)
    ⟨Nat.le_trans hS.1 (by rw [e1]; exact hz), fun q h1 h2 => by rw [e1, hk q (Nat.lt_of_lt_of_le h1 hS.1) h2]; exact hS.2.1 q h1 h2, fun q hq => by
      rcases List.mem_append.mp hq with h | h
      · exact hS.2.2 q h
      · exact hL q h⟩ T' rfl X'
  exact ⟨t2, st t2 a1, b1⟩
end CQ

section JC
variable {own : String} {cc : ByteArray} {nL : Nat} {ret : Option FieldType} {nm : String} {fr lo n0 nf : Nat} {pc : Nat} {lv : List (Nat × Value)} {st : List Value} {n : Nat} {m : Mm} {r : Rr} {σ : Type} {o : Option σ} {k : σ → Option Res}
theorem J_callV {ix : Nat} {y : MethodName} {bytes : ByteArray} {maxL : Nat} {rt : Option FieldType} {frc loc n1 : Nat} {oc : Option Res} {f : Res → Option σ} (a ci np : Nat) (As : List Value) (hd : decode cc pc = .ok (.invokevirtual ix, 3)) (hM : MV y bytes maxL rt np) (hv : Cond.instanceMethod y ∈ TBg ∧ Cond.selects y.cls y y ∈ TBg) (hl1 : Cond.methodLink own ix y ∈ TBg) (hC : Ct y bytes maxL rt frc loc (.ref a :: As) n n1 m r oc) (hlen : As.length = np) (hL : (LAY a).1 = ci) (hci : ci < 10) (hcn : CN ci = y.cls) (ha : a < n) (hfr : frc + 1 ≤ fr ∧ 8 + (maxL + 11) + loc ≤ lo) (hst : (st.map fun v => v.category).sum ≤ 8) (hn1 : n ≤ n1 ∧ n1 ≤ nf) (h : ∀ (v : Option Value) (m1 : Mm) (r1 : Rr), oc = some (v, m1, r1) → J own cc nL ret nm fr lo n0 nf (pc + 3) (lv) (v.toList ++ st) (n1) (m1) (r1) (f (v, m1, r1)) (k)) : J own cc nL ret nm fr lo n0 nf (pc) (lv) (As.reverse ++ .ref a :: st) (n) (m) (r) (oc.bind f) (k) := by
  intro p l e R s mi args below meth c D base cid sa sv H locs ls x C hP hS hl hn hf hx
  obtain ⟨c1, c2, c3, c4, c5, c6, c7, c8, c9, c10, c11, c12, c13, c14⟩ := id C
  subst hlen
  obtain ⟨w1, w2, w3⟩ := hM
  cases hoc : oc with
  | none => rw [hoc] at hx; cases hx
  | some y0 =>
    rw [hoc] at hx
    refine W_size hP hS c9 hn (fun hz => ?_)
    have hm1 := nsl_mono hn1.1
    have hm2 := nsl_mono hn1.2
    have hm3 := nsl_mono hn
    have hcat : ((st.map (rv base sa)).map fun v => v.category).sum ≤ 8 := by
      rw [List.map_map]
      have e9 : ((fun v : Value => v.category) ∘ rv base sa) = (fun v : Value => v.category) := funext (fun v => rv_cat base sa v)
      rw [e9]
      exact hst
    refine va_callQ (va_runV (C := y.cls) (As := As.map (rv base sa)) (rest := st.map (rv base sa)) ⟨c1, c2, c4, c5, c6⟩ (hC l D base cid sa sv y0 hoc) (cwV As.length c6 (fun w hw => by
      rcases List.mem_append.mp hw with h9 | h9
      · simp only [List.mem_cons, List.not_mem_nil, or_false] at h9
        rcases h9 with rfl | rfl | rfl | rfl
        · exact TBg_good _ hl1
        · exact TBg_good _ hv.1
        · exact TBg_good _ hv.2
        · exact TBg_good _ w2
      · exact TBg_code w1 w h9) rfl rfl rfl ⟨rfl, w3⟩ ⟨Nat.le_trans hfr.1 c10, Nat.le_trans hfr.2 c11⟩) (by rw [← hcn]; exact ⟨blind, va_recv c8.1 hP (cls_at ci hci) (q0 := a) (by rw [wsof_at ha, cell_obj (lay_obj hL hci) (by omega)]), fun U hU hW => ⟨rfl, by rw [hU]; exact hz, by rw [hU]; exact hP, c8.to hW (fun q hq hA => by rw [hU]; exact hS.2.1 q hq hA)⟩⟩) rfl (by simp) hl.1 (by simp [rv]) (lv_room hcat) hd ⟨by omega, by omega⟩) hS (fun H1 locs1 hP1 hS1 => ?_)
    have e1 : n - n0 + (n1 - n) = n1 - n0 := by omega
    have e2 : nsl n - nsl n0 + (nsl n1 - nsl n) = nsl n1 - nsl n0 := by omega
    rw [e1, e2]
    have h1 := h y0.1 y0.2.1 y0.2.2 hoc p l e R s mi args below meth c D base cid sa sv H1 locs1 ls x C hP1 hS1 hl (by omega) hn1.2 hx
    have e3 : (y0.1.toList ++ st).map (rv base sa) = (y0.1.map (rv base sa)).toList ++ st.map (rv base sa) := by
      cases y0.1 <;> simp
    rw [e3] at h1
    exact h1
theorem J_callS {ix : Nat} {y : MethodName} {bytes : ByteArray} {maxL : Nat} {rt : Option FieldType} {frc loc n1 : Nat} {oc : Option Res} {f : Res → Option σ} (np : Nat) (As : List Value) (hd : decode cc pc = .ok (.invokestatic ix, 3)) (hM : MV y bytes maxL rt np) (hv : Cond.static y ∈ TBg) (hl1 : Cond.methodLink own ix y ∈ TBg) (hC : Ct y bytes maxL rt frc loc As n n1 m r oc) (hlen : As.length = np) (hfr : frc + 1 ≤ fr ∧ 8 + (maxL + 11) + loc ≤ lo) (hst : (st.map fun v => v.category).sum ≤ 8) (hn1 : n ≤ n1 ∧ n1 ≤ nf) (h : ∀ (v : Option Value) (m1 : Mm) (r1 : Rr), oc = some (v, m1, r1) → J own cc nL ret nm fr lo n0 nf (pc + 3) (lv) (v.toList ++ st) (n1) (m1) (r1) (f (v, m1, r1)) (k)) : J own cc nL ret nm fr lo n0 nf (pc) (lv) (As.reverse ++ st) (n) (m) (r) (oc.bind f) (k) := by
  intro p l e R s mi args below meth c D base cid sa sv H locs ls x C hP hS hl hn hf hx
  obtain ⟨c1, c2, c3, c4, c5, c6, c7, c8, c9, c10, c11, c12, c13, c14⟩ := id C
  subst hlen
  obtain ⟨w1, w2, w3⟩ := hM
  cases hoc : oc with
  | none => rw [hoc] at hx; cases hx
  | some y0 =>
    rw [hoc] at hx
    refine W_size hP hS c9 hn (fun hz => ?_)
    have hm1 := nsl_mono hn1.1
    have hm2 := nsl_mono hn1.2
    have hm3 := nsl_mono hn
    have hcat : ((st.map (rv base sa)).map fun v => v.category).sum ≤ 8 := by
      rw [List.map_map]
      have e9 : ((fun v : Value => v.category) ∘ rv base sa) = (fun v : Value => v.category) := funext (fun v => rv_cat base sa v)
      rw [e9]
      exact hst
    refine va_callQ (va_runS (As := As.map (rv base sa)) (rest := st.map (rv base sa)) ⟨c1, c2, c4, c5, c6⟩ (hC l D base cid sa sv y0 hoc) (va_cwS As.length c6 (fun w hw => by
      rcases List.mem_append.mp hw with h9 | h9
      · simp only [List.mem_cons, List.not_mem_nil, or_false] at h9
        rcases h9 with rfl | rfl | rfl
        · exact TBg_good _ hl1
        · exact TBg_good _ hv
        · exact TBg_good _ w2
      · exact TBg_code w1 w h9) rfl rfl rfl w3 ⟨Nat.le_trans hfr.1 c10, Nat.le_trans hfr.2 c11⟩) ⟨blind, fun U hU hW => ⟨rfl, by rw [hU]; exact hz, by rw [hU]; exact hP, c8.to hW (fun q hq hA => by rw [hU]; exact hS.2.1 q hq hA)⟩⟩ rfl (by simp) hl.1 (by simp [rv]) (lv_room hcat) hd ⟨by omega, by omega⟩) hS (fun H1 locs1 hP1 hS1 => ?_)
    have e1 : n - n0 + (n1 - n) = n1 - n0 := by omega
    have e2 : nsl n - nsl n0 + (nsl n1 - nsl n) = nsl n1 - nsl n0 := by omega
    rw [e1, e2]
    have h1 := h y0.1 y0.2.1 y0.2.2 hoc p l e R s mi args below meth c D base cid sa sv H1 locs1 ls x C hP1 hS1 hl (by omega) hn1.2 hx
    have e3 : (y0.1.toList ++ st).map (rv base sa) = (y0.1.map (rv base sa)).toList ++ st.map (rv base sa) := by
      cases y0.1 <;> simp
    rw [e3] at h1
    exact h1
theorem J_callSN {ix : Nat} {y : MethodName} {bytes : ByteArray} {maxL : Nat} {rt : Option FieldType} {frc loc n1 : Nat} {oc : Option Res} {f : Res → Option σ} (np : Nat) (host : String) (As : List Value) (hd : decode cc pc = .ok (.invokestatic ix, 3)) (hM : MV y bytes maxL rt np) (hv : Cond.static y ∈ TBg) (hl1 : Cond.methodLinkNest own ix y host ∈ NWl) (hC : Ct y bytes maxL rt frc loc As n n1 m r oc) (hlen : As.length = np) (hfr : frc + 1 ≤ fr ∧ 8 + (maxL + 11) + loc ≤ lo) (hst : (st.map fun v => v.category).sum ≤ 8) (hn1 : n ≤ n1 ∧ n1 ≤ nf) (h : ∀ (v : Option Value) (m1 : Mm) (r1 : Rr), oc = some (v, m1, r1) → J own cc nL ret nm fr lo n0 nf (pc + 3) (lv) (v.toList ++ st) (n1) (m1) (r1) (f (v, m1, r1)) (k)) : J own cc nL ret nm fr lo n0 nf (pc) (lv) (As.reverse ++ st) (n) (m) (r) (oc.bind f) (k) := by
  intro p l e R s mi args below meth c D base cid sa sv H locs ls x C hP hS hl hn hf hx
  obtain ⟨c1, c2, c3, c4, c5, c6, c7, c8, c9, c10, c11, c12, c13, c14⟩ := id C
  subst hlen
  obtain ⟨w1, w2, w3⟩ := hM
  cases hoc : oc with
  | none => rw [hoc] at hx; cases hx
  | some y0 =>
    rw [hoc] at hx
    refine W_size hP hS c9 hn (fun hz => ?_)
    have hm1 := nsl_mono hn1.1
    have hm2 := nsl_mono hn1.2
    have hm3 := nsl_mono hn
    have hcat : ((st.map (rv base sa)).map fun v => v.category).sum ≤ 8 := by
      rw [List.map_map]
      have e9 : ((fun v : Value => v.category) ∘ rv base sa) = (fun v : Value => v.category) := funext (fun v => rv_cat base sa v)
      rw [e9]
      exact hst
    refine va_callQ (va_runSN (As := As.map (rv base sa)) (rest := st.map (rv base sa)) ⟨c1, c2, c4, c5, c6⟩ (hC l D base cid sa sv y0 hoc) (⟨va_cnB (host := host) As.length c6 (TBg_code w1) rfl rfl rfl (c8.2.1 _ hl1) (c6 _ w2) w3 ⟨Nat.le_trans hfr.1 c10, Nat.le_trans hfr.2 c11⟩, c6 _ hv, trivial⟩) ⟨blind, fun U hU hW => ⟨rfl, by rw [hU]; exact hz, by rw [hU]; exact hP, c8.to hW (fun q hq hA => by rw [hU]; exact hS.2.1 q hq hA)⟩⟩ rfl (by simp) hl.1 (by simp [rv]) (lv_room hcat) hd ⟨by omega, by omega⟩) hS (fun H1 locs1 hP1 hS1 => ?_)
    have e1 : n - n0 + (n1 - n) = n1 - n0 := by omega
    have e2 : nsl n - nsl n0 + (nsl n1 - nsl n) = nsl n1 - nsl n0 := by omega
    rw [e1, e2]
    have h1 := h y0.1 y0.2.1 y0.2.2 hoc p l e R s mi args below meth c D base cid sa sv H1 locs1 ls x C hP1 hS1 hl (by omega) hn1.2 hx
    have e3 : (y0.1.toList ++ st).map (rv base sa) = (y0.1.map (rv base sa)).toList ++ st.map (rv base sa) := by
      cases y0.1 <;> simp
    rw [e3] at h1
    exact h1
theorem J_callIN {ix : Nat} {y : MethodName} {bytes : ByteArray} {maxL : Nat} {rt : Option FieldType} {frc loc n1 : Nat} {oc : Option Res} {f : Res → Option σ} (a np : Nat) (host : String) (As : List Value) (hd : decode cc pc = .ok (.invokespecial ix, 3)) (hM : MV y bytes maxL rt np) (hrt : rt = none) (hin : y.name = "<init>") (hv : Cond.instanceMethod y ∈ TBg) (hl1 : Cond.methodLinkNest own ix y host ∈ NWl) (hC : Ct y bytes maxL rt frc loc (.ref a :: As) n n1 m r oc) (hlen : As.length = np) (hfr : frc + 1 ≤ fr ∧ 8 + (maxL + 11) + loc ≤ lo) (hst : (st.map fun v => v.category).sum ≤ 8) (hn1 : n ≤ n1 ∧ n1 ≤ nf) (h : ∀ (v : Option Value) (m1 : Mm) (r1 : Rr), oc = some (v, m1, r1) → J own cc nL ret nm fr lo n0 nf (pc + 3) (lv) (v.toList ++ st) (n1) (m1) (r1) (f (v, m1, r1)) (k)) : J own cc nL ret nm fr lo n0 nf (pc) (lv) (As.reverse ++ .ref a :: st) (n) (m) (r) (oc.bind f) (k) := by
  intro p l e R s mi args below meth c D base cid sa sv H locs ls x C hP hS hl hn hf hx
  obtain ⟨c1, c2, c3, c4, c5, c6, c7, c8, c9, c10, c11, c12, c13, c14⟩ := id C
  subst hlen
  subst hrt
  obtain ⟨w1, w2, w3⟩ := hM
  cases hoc : oc with
  | none => rw [hoc] at hx; cases hx
  | some y0 =>
    rw [hoc] at hx
    refine W_size hP hS c9 hn (fun hz => ?_)
    have hm1 := nsl_mono hn1.1
    have hm2 := nsl_mono hn1.2
    have hm3 := nsl_mono hn
    have hcat : ((st.map (rv base sa)).map fun v => v.category).sum ≤ 8 := by
      rw [List.map_map]
      have e9 : ((fun v : Value => v.category) ∘ rv base sa) = (fun v : Value => v.category) := funext (fun v => rv_cat base sa v)
      rw [e9]
      exact hst
    refine va_callQ (va_runIN (As := As.map (rv base sa)) (rest := st.map (rv base sa)) ⟨c1, c2, c4, c5, c6⟩ (hC l D base cid sa sv y0 hoc) (⟨va_cnB (host := host) As.length c6 (TBg_code w1) rfl rfl rfl (c8.2.1 _ hl1) (c6 _ w2) w3 ⟨Nat.le_trans hfr.1 c10, Nat.le_trans hfr.2 c11⟩, hin, c6 _ hv⟩) ⟨blind, fun U hU hW => ⟨rfl, by rw [hU]; exact hz, by rw [hU]; exact hP, c8.to hW (fun q hq hA => by rw [hU]; exact hS.2.1 q hq hA)⟩⟩ rfl (by simp) hl.1 (by simp [rv]) (lv_room hcat) hd ⟨by omega, by omega⟩) hS (fun H1 locs1 hP1 hS1 => ?_)
    have e1 : n - n0 + (n1 - n) = n1 - n0 := by omega
    have e2 : nsl n - nsl n0 + (nsl n1 - nsl n) = nsl n1 - nsl n0 := by omega
    rw [e1, e2]
    have h1 := h y0.1 y0.2.1 y0.2.2 hoc p l e R s mi args below meth c D base cid sa sv H1 locs1 ls x C hP1 hS1 hl (by omega) hn1.2 hx
    have e3 : (y0.1.toList ++ st).map (rv base sa) = (y0.1.map (rv base sa)).toList ++ st.map (rv base sa) := by
      cases y0.1 <;> simp
    rw [e3] at h1
    exact h1
theorem J_callI {ix : Nat} {y : MethodName} {bytes : ByteArray} {maxL : Nat} {rt : Option FieldType} {frc loc n1 : Nat} {oc : Option Res} {f : Res → Option σ} (a np : Nat) (As : List Value) (hd : decode cc pc = .ok (.invokespecial ix, 3)) (hM : MV y bytes maxL rt np) (hrt : rt = none) (hin : y.name = "<init>") (hv : Cond.instanceMethod y ∈ TBg) (hl1 : Cond.methodLink own ix y ∈ TBg) (hC : Ct y bytes maxL rt frc loc (.ref a :: As) n n1 m r oc) (hlen : As.length = np) (hfr : frc + 1 ≤ fr ∧ 8 + (maxL + 11) + loc ≤ lo) (hst : (st.map fun v => v.category).sum ≤ 8) (hn1 : n ≤ n1 ∧ n1 ≤ nf) (h : ∀ (v : Option Value) (m1 : Mm) (r1 : Rr), oc = some (v, m1, r1) → J own cc nL ret nm fr lo n0 nf (pc + 3) (lv) (v.toList ++ st) (n1) (m1) (r1) (f (v, m1, r1)) (k)) : J own cc nL ret nm fr lo n0 nf (pc) (lv) (As.reverse ++ .ref a :: st) (n) (m) (r) (oc.bind f) (k) := by
  intro p l e R s mi args below meth c D base cid sa sv H locs ls x C hP hS hl hn hf hx
  obtain ⟨c1, c2, c3, c4, c5, c6, c7, c8, c9, c10, c11, c12, c13, c14⟩ := id C
  subst hlen
  subst hrt
  obtain ⟨w1, w2, w3⟩ := hM
  cases hoc : oc with
  | none => rw [hoc] at hx; cases hx
  | some y0 =>
    rw [hoc] at hx
    refine W_size hP hS c9 hn (fun hz => ?_)
    have hm1 := nsl_mono hn1.1
    have hm2 := nsl_mono hn1.2
    have hm3 := nsl_mono hn
    have hcat : ((st.map (rv base sa)).map fun v => v.category).sum ≤ 8 := by
      rw [List.map_map]
      have e9 : ((fun v : Value => v.category) ∘ rv base sa) = (fun v : Value => v.category) := funext (fun v => rv_cat base sa v)
      rw [e9]
      exact hst
    refine va_callQ (va_runI (As := As.map (rv base sa)) (rest := st.map (rv base sa)) ⟨c1, c2, c4, c5, c6⟩ (hC l D base cid sa sv y0 hoc) (cwI As.length c6 (TBg_code w1) rfl rfl rfl (c6 _ w2) (c6 _ hl1) (c6 _ hv) hin w3 ⟨Nat.le_trans hfr.1 c10, Nat.le_trans hfr.2 c11⟩) ⟨blind, fun U hU hW => ⟨rfl, by rw [hU]; exact hz, by rw [hU]; exact hP, c8.to hW (fun q hq hA => by rw [hU]; exact hS.2.1 q hq hA)⟩⟩ rfl (by simp) hl.1 (by simp [rv]) (lv_room hcat) hd ⟨by omega, by omega⟩) hS (fun H1 locs1 hP1 hS1 => ?_)
    have e1 : n - n0 + (n1 - n) = n1 - n0 := by omega
    have e2 : nsl n - nsl n0 + (nsl n1 - nsl n) = nsl n1 - nsl n0 := by omega
    rw [e1, e2]
    have h1 := h y0.1 y0.2.1 y0.2.2 hoc p l e R s mi args below meth c D base cid sa sv H1 locs1 ls x C hP1 hS1 hl (by omega) hn1.2 hx
    have e3 : (y0.1.toList ++ st).map (rv base sa) = (y0.1.map (rv base sa)).toList ++ st.map (rv base sa) := by
      cases y0.1 <;> simp
    rw [e3] at h1
    exact h1
def bind2 {σ : Type} (o : Option (Int32 × Mm)) (f : Int32 → Mm → Option σ) : Option σ := o.bind (fun q => f q.1 q.2)
def rP (m : Mm) (r : Rr) (o : Option Int32) : Option Res := o.map (fun z => (some (.int z), m, r))
def rI (r : Rr) (o : Option (Int32 × Mm)) : Option Res := o.map (fun q => (some (.int q.1), q.2, r))
def rV (r : Rr) (o : Option Mm) : Option Res := o.map (fun q => (none, q, r))
def vi : Option Value → Int32
  | some (.int z) => z
  | _ => 0
theorem J_callVP {ix : Nat} {y : MethodName} {bytes : ByteArray} {maxL : Nat} {rt : Option FieldType} {frc loc : Nat} {oi : Option Int32} {f : Int32 → Option σ} (a ci np : Nat) (As : List Value) (hd : decode cc pc = .ok (.invokevirtual ix, 3)) (hM : MV y bytes maxL rt np) (hv : Cond.instanceMethod y ∈ TBg ∧ Cond.selects y.cls y y ∈ TBg) (hl1 : Cond.methodLink own ix y ∈ TBg) (hC : Ct y bytes maxL rt frc loc (.ref a :: As) n n m r (rP m r oi)) (hlen : As.length = np) (hL : (LAY a).1 = ci) (hci : ci < 10) (hcn : CN ci = y.cls) (ha : a < n) (hfr : frc + 1 ≤ fr ∧ 8 + (maxL + 11) + loc ≤ lo) (hst : (st.map fun v => v.category).sum ≤ 8) (h : ∀ z, J own cc nL ret nm fr lo n0 nf (pc + 3) (lv) (.int z :: st) (n) (m) (r) (f z) (k)) : J own cc nL ret nm fr lo n0 nf (pc) (lv) (As.reverse ++ .ref a :: st) (n) (m) (r) (oi.bind f) (k) := by
  intro p l e R s mi args below meth c D base cid sa sv H locs ls x C hP hS hl hn hf hx
  refine J_callV (k := k) (oc := rP m r oi) (f := fun q => f (vi q.1)) a ci np As hd hM hv hl1 hC hlen hL hci hcn ha hfr hst ⟨Nat.le_refl n, hf⟩ (fun v m1 r1 he => ?_) p l e R s mi args below meth c D base cid sa sv H locs ls x C hP hS hl hn hf ?_
  · cases oi with
    | none => cases he
    | some z =>
      cases he
      exact h z
  · rw [← hx]
    cases oi with
    | none => rfl
    | some z => rfl
theorem J_callVI {ix : Nat} {y : MethodName} {bytes : ByteArray} {maxL : Nat} {rt : Option FieldType} {frc loc : Nat} {oi : Option (Int32 × Mm)} {f : Int32 → Mm → Option σ} (a ci np : Nat) (As : List Value) (hd : decode cc pc = .ok (.invokevirtual ix, 3)) (hM : MV y bytes maxL rt np) (hv : Cond.instanceMethod y ∈ TBg ∧ Cond.selects y.cls y y ∈ TBg) (hl1 : Cond.methodLink own ix y ∈ TBg) (hC : Ct y bytes maxL rt frc loc (.ref a :: As) n n m r (rI r oi)) (hlen : As.length = np) (hL : (LAY a).1 = ci) (hci : ci < 10) (hcn : CN ci = y.cls) (ha : a < n) (hfr : frc + 1 ≤ fr ∧ 8 + (maxL + 11) + loc ≤ lo) (hst : (st.map fun v => v.category).sum ≤ 8) (h : ∀ z m1, J own cc nL ret nm fr lo n0 nf (pc + 3) (lv) (.int z :: st) (n) (m1) (r) (f z m1) (k)) : J own cc nL ret nm fr lo n0 nf (pc) (lv) (As.reverse ++ .ref a :: st) (n) (m) (r) (bind2 oi f) (k) := by
  intro p l e R s mi args below meth c D base cid sa sv H locs ls x C hP hS hl hn hf hx
  refine J_callV (k := k) (oc := rI r oi) (f := fun q => f (vi q.1) q.2.1) a ci np As hd hM hv hl1 hC hlen hL hci hcn ha hfr hst ⟨Nat.le_refl n, hf⟩ (fun v m1 r1 he => ?_) p l e R s mi args below meth c D base cid sa sv H locs ls x C hP hS hl hn hf ?_
  · cases oi with
    | none => cases he
    | some z =>
      cases he
      exact h z.1 z.2
  · rw [← hx]
    cases oi with
    | none => rfl
    | some z => rfl
theorem J_callVV {ix : Nat} {y : MethodName} {bytes : ByteArray} {maxL : Nat} {rt : Option FieldType} {frc loc : Nat} {oi : Option Mm} {f : Mm → Option σ} (a ci np : Nat) (As : List Value) (hd : decode cc pc = .ok (.invokevirtual ix, 3)) (hM : MV y bytes maxL rt np) (hv : Cond.instanceMethod y ∈ TBg ∧ Cond.selects y.cls y y ∈ TBg) (hl1 : Cond.methodLink own ix y ∈ TBg) (hC : Ct y bytes maxL rt frc loc (.ref a :: As) n n m r (rV r oi)) (hlen : As.length = np) (hL : (LAY a).1 = ci) (hci : ci < 10) (hcn : CN ci = y.cls) (ha : a < n) (hfr : frc + 1 ≤ fr ∧ 8 + (maxL + 11) + loc ≤ lo) (hst : (st.map fun v => v.category).sum ≤ 8) (h : ∀ m1, J own cc nL ret nm fr lo n0 nf (pc + 3) (lv) (st) (n) (m1) (r) (f m1) (k)) : J own cc nL ret nm fr lo n0 nf (pc) (lv) (As.reverse ++ .ref a :: st) (n) (m) (r) (oi.bind f) (k) := by
  intro p l e R s mi args below meth c D base cid sa sv H locs ls x C hP hS hl hn hf hx
  refine J_callV (k := k) (oc := rV r oi) (f := fun q => f q.2.1) a ci np As hd hM hv hl1 hC hlen hL hci hcn ha hfr hst ⟨Nat.le_refl n, hf⟩ (fun v m1 r1 he => ?_) p l e R s mi args below meth c D base cid sa sv H locs ls x C hP hS hl hn hf ?_
  · cases oi with
    | none => cases he
    | some z =>
      cases he
      exact h _
  · rw [← hx]
    cases oi with
    | none => rfl
    | some z => rfl
theorem J_callSP {ix : Nat} {y : MethodName} {bytes : ByteArray} {maxL : Nat} {rt : Option FieldType} {frc loc : Nat} {oi : Option Int32} {f : Int32 → Option σ} (np : Nat) (As : List Value) (hd : decode cc pc = .ok (.invokestatic ix, 3)) (hM : MV y bytes maxL rt np) (hv : Cond.static y ∈ TBg) (hl1 : Cond.methodLink own ix y ∈ TBg) (hC : Ct y bytes maxL rt frc loc As n n m r (rP m r oi)) (hlen : As.length = np)  (hfr : frc + 1 ≤ fr ∧ 8 + (maxL + 11) + loc ≤ lo) (hst : (st.map fun v => v.category).sum ≤ 8) (h : ∀ z, J own cc nL ret nm fr lo n0 nf (pc + 3) (lv) (.int z :: st) (n) (m) (r) (f z) (k)) : J own cc nL ret nm fr lo n0 nf (pc) (lv) (As.reverse ++ st) (n) (m) (r) (oi.bind f) (k) := by
  intro p l e R s mi args below meth c D base cid sa sv H locs ls x C hP hS hl hn hf hx
  refine J_callS (k := k) (oc := rP m r oi) (f := fun q => f (vi q.1)) np As hd hM hv hl1 hC hlen  hfr hst ⟨Nat.le_refl n, hf⟩ (fun v m1 r1 he => ?_) p l e R s mi args below meth c D base cid sa sv H locs ls x C hP hS hl hn hf ?_
  · cases oi with
    | none => cases he
    | some z =>
      cases he
      exact h z
  · rw [← hx]
    cases oi with
    | none => rfl
    | some z => rfl
theorem J_callSI {ix : Nat} {y : MethodName} {bytes : ByteArray} {maxL : Nat} {rt : Option FieldType} {frc loc : Nat} {oi : Option (Int32 × Mm)} {f : Int32 → Mm → Option σ} (np : Nat) (As : List Value) (hd : decode cc pc = .ok (.invokestatic ix, 3)) (hM : MV y bytes maxL rt np) (hv : Cond.static y ∈ TBg) (hl1 : Cond.methodLink own ix y ∈ TBg) (hC : Ct y bytes maxL rt frc loc As n n m r (rI r oi)) (hlen : As.length = np)  (hfr : frc + 1 ≤ fr ∧ 8 + (maxL + 11) + loc ≤ lo) (hst : (st.map fun v => v.category).sum ≤ 8) (h : ∀ z m1, J own cc nL ret nm fr lo n0 nf (pc + 3) (lv) (.int z :: st) (n) (m1) (r) (f z m1) (k)) : J own cc nL ret nm fr lo n0 nf (pc) (lv) (As.reverse ++ st) (n) (m) (r) (bind2 oi f) (k) := by
  intro p l e R s mi args below meth c D base cid sa sv H locs ls x C hP hS hl hn hf hx
  refine J_callS (k := k) (oc := rI r oi) (f := fun q => f (vi q.1) q.2.1) np As hd hM hv hl1 hC hlen  hfr hst ⟨Nat.le_refl n, hf⟩ (fun v m1 r1 he => ?_) p l e R s mi args below meth c D base cid sa sv H locs ls x C hP hS hl hn hf ?_
  · cases oi with
    | none => cases he
    | some z =>
      cases he
      exact h z.1 z.2
  · rw [← hx]
    cases oi with
    | none => rfl
    | some z => rfl
theorem J_callSV {ix : Nat} {y : MethodName} {bytes : ByteArray} {maxL : Nat} {rt : Option FieldType} {frc loc : Nat} {oi : Option Mm} {f : Mm → Option σ} (np : Nat) (As : List Value) (hd : decode cc pc = .ok (.invokestatic ix, 3)) (hM : MV y bytes maxL rt np) (hv : Cond.static y ∈ TBg) (hl1 : Cond.methodLink own ix y ∈ TBg) (hC : Ct y bytes maxL rt frc loc As n n m r (rV r oi)) (hlen : As.length = np)  (hfr : frc + 1 ≤ fr ∧ 8 + (maxL + 11) + loc ≤ lo) (hst : (st.map fun v => v.category).sum ≤ 8) (h : ∀ m1, J own cc nL ret nm fr lo n0 nf (pc + 3) (lv) (st) (n) (m1) (r) (f m1) (k)) : J own cc nL ret nm fr lo n0 nf (pc) (lv) (As.reverse ++ st) (n) (m) (r) (oi.bind f) (k) := by
  intro p l e R s mi args below meth c D base cid sa sv H locs ls x C hP hS hl hn hf hx
  refine J_callS (k := k) (oc := rV r oi) (f := fun q => f q.2.1) np As hd hM hv hl1 hC hlen  hfr hst ⟨Nat.le_refl n, hf⟩ (fun v m1 r1 he => ?_) p l e R s mi args below meth c D base cid sa sv H locs ls x C hP hS hl hn hf ?_
  · cases oi with
    | none => cases he
    | some z =>
      cases he
      exact h _
  · rw [← hx]
    cases oi with
    | none => rfl
    | some z => rfl
theorem J_callSNP {ix : Nat} {y : MethodName} {bytes : ByteArray} {maxL : Nat} {rt : Option FieldType} {frc loc : Nat} {oi : Option Int32} {f : Int32 → Option σ} (np : Nat) (host : String) (As : List Value) (hd : decode cc pc = .ok (.invokestatic ix, 3)) (hM : MV y bytes maxL rt np) (hv : Cond.static y ∈ TBg) (hl1 : Cond.methodLinkNest own ix y host ∈ NWl) (hC : Ct y bytes maxL rt frc loc As n n m r (rP m r oi)) (hlen : As.length = np)  (hfr : frc + 1 ≤ fr ∧ 8 + (maxL + 11) + loc ≤ lo) (hst : (st.map fun v => v.category).sum ≤ 8) (h : ∀ z, J own cc nL ret nm fr lo n0 nf (pc + 3) (lv) (.int z :: st) (n) (m) (r) (f z) (k)) : J own cc nL ret nm fr lo n0 nf (pc) (lv) (As.reverse ++ st) (n) (m) (r) (oi.bind f) (k) := by
  intro p l e R s mi args below meth c D base cid sa sv H locs ls x C hP hS hl hn hf hx
  refine J_callSN (k := k) (oc := rP m r oi) (f := fun q => f (vi q.1)) np host As hd hM hv hl1 hC hlen  hfr hst ⟨Nat.le_refl n, hf⟩ (fun v m1 r1 he => ?_) p l e R s mi args below meth c D base cid sa sv H locs ls x C hP hS hl hn hf ?_
  · cases oi with
    | none => cases he
    | some z =>
      cases he
      exact h z
  · rw [← hx]
    cases oi with
    | none => rfl
    | some z => rfl
theorem J_callSNI {ix : Nat} {y : MethodName} {bytes : ByteArray} {maxL : Nat} {rt : Option FieldType} {frc loc : Nat} {oi : Option (Int32 × Mm)} {f : Int32 → Mm → Option σ} (np : Nat) (host : String) (As : List Value) (hd : decode cc pc = .ok (.invokestatic ix, 3)) (hM : MV y bytes maxL rt np) (hv : Cond.static y ∈ TBg) (hl1 : Cond.methodLinkNest own ix y host ∈ NWl) (hC : Ct y bytes maxL rt frc loc As n n m r (rI r oi)) (hlen : As.length = np)  (hfr : frc + 1 ≤ fr ∧ 8 + (maxL + 11) + loc ≤ lo) (hst : (st.map fun v => v.category).sum ≤ 8) (h : ∀ z m1, J own cc nL ret nm fr lo n0 nf (pc + 3) (lv) (.int z :: st) (n) (m1) (r) (f z m1) (k)) : J own cc nL ret nm fr lo n0 nf (pc) (lv) (As.reverse ++ st) (n) (m) (r) (bind2 oi f) (k) := by
  intro p l e R s mi args below meth c D base cid sa sv H locs ls x C hP hS hl hn hf hx
  refine J_callSN (k := k) (oc := rI r oi) (f := fun q => f (vi q.1) q.2.1) np host As hd hM hv hl1 hC hlen  hfr hst ⟨Nat.le_refl n, hf⟩ (fun v m1 r1 he => ?_) p l e R s mi args below meth c D base cid sa sv H locs ls x C hP hS hl hn hf ?_
  · cases oi with
    | none => cases he
    | some z =>
      cases he
      exact h z.1 z.2
  · rw [← hx]
    cases oi with
    | none => rfl
    | some z => rfl
theorem J_callSNV {ix : Nat} {y : MethodName} {bytes : ByteArray} {maxL : Nat} {rt : Option FieldType} {frc loc : Nat} {oi : Option Mm} {f : Mm → Option σ} (np : Nat) (host : String) (As : List Value) (hd : decode cc pc = .ok (.invokestatic ix, 3)) (hM : MV y bytes maxL rt np) (hv : Cond.static y ∈ TBg) (hl1 : Cond.methodLinkNest own ix y host ∈ NWl) (hC : Ct y bytes maxL rt frc loc As n n m r (rV r oi)) (hlen : As.length = np)  (hfr : frc + 1 ≤ fr ∧ 8 + (maxL + 11) + loc ≤ lo) (hst : (st.map fun v => v.category).sum ≤ 8) (h : ∀ m1, J own cc nL ret nm fr lo n0 nf (pc + 3) (lv) (st) (n) (m1) (r) (f m1) (k)) : J own cc nL ret nm fr lo n0 nf (pc) (lv) (As.reverse ++ st) (n) (m) (r) (oi.bind f) (k) := by
  intro p l e R s mi args below meth c D base cid sa sv H locs ls x C hP hS hl hn hf hx
  refine J_callSN (k := k) (oc := rV r oi) (f := fun q => f q.2.1) np host As hd hM hv hl1 hC hlen  hfr hst ⟨Nat.le_refl n, hf⟩ (fun v m1 r1 he => ?_) p l e R s mi args below meth c D base cid sa sv H locs ls x C hP hS hl hn hf ?_
  · cases oi with
    | none => cases he
    | some z =>
      cases he
      exact h _
  · rw [← hx]
    cases oi with
    | none => rfl
    | some z => rfl
end JC

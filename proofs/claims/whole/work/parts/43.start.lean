def tmS (i : Nat) : Term := .string RX2 (idS.getD i 0)
abbrev gvC : List Cond := flatC (Jvm.Cond.and given_1 narrow_1)
theorem gs_ex : ∀ i, i < 10 → Cond.exactly (tmS i) "java/lang/String" ∈ gvC := by decide +kernel
theorem gs_co : ∀ i, i < 10 → Cond.eq (.field (tmS i) "java/lang/String" "coder" "B") (.int 0) ∈ gvC := by decide +kernel
theorem gs_ar : ∀ i, i < 10 → Cond.arrayOf (.field (tmS i) "java/lang/String" "value" "[B") .byte ∈ gvC := by decide +kernel
theorem gs_le : ∀ i, i < 10 → Cond.eq (.length (.field (tmS i) "java/lang/String" "value" "[B")) (.int (Int32.ofNat (lenS.getD i 0))) ∈ gvC := by decide +kernel
theorem gs_el : ∀ i, i < 10 → ∀ j, j < lenS.getD i 0 → Cond.eq (.elem (.field (tmS i) "java/lang/String" "value" "[B") (.int (Int32.ofNat j))) (.int ((bytS.getD i []).getD j 0)) ∈ gvC := by decide +kernel
theorem gs_ne : ∀ i, i < 10 → ∀ j, j < 10 → i ≠ j → (Cond.not (Cond.eq (tmS i) (tmS j)) ∈ gvC ∨ Cond.not (Cond.eq (tmS j) (tmS i)) ∈ gvC) := by decide +kernel
theorem gs_cs : Cond.eq (.static "java/lang/String" "COMPACT_STRINGS" "Z") (.int 1) ∈ gvC := by decide +kernel
theorem gs_fm : Cond.isRef (.static "jdk/internal/util/Preconditions" "SIOOBE_FORMATTER" "Ljava/util/function/BiFunction;") ∈ gvC := by decide +kernel
theorem gs_sr : ∀ i, i < 10 → Cond.stringRef RX2 (idS.getD i 0) (txS.getD i "") ∈ lw_tbl := by decide +kernel
theorem gs_l1 : Cond.laysStatic "java/lang/String" "COMPACT_STRINGS" "Z" ∈ lw_tbl := by decide +kernel
theorem gs_l2 : Cond.laysStatic "jdk/internal/util/Preconditions" "SIOOBE_FORMATTER" "Ljava/util/function/BiFunction;" ∈ lw_tbl := by decide +kernel
theorem gs_i1 : Cond.initialized "java/lang/String" ∈ lw_tbl ∧ Cond.initialized "jdk/internal/util/Preconditions" ∈ lw_tbl := by decide +kernel
theorem gs_ac : Cond.arrayClass .int ∈ lw_tbl ∧ Cond.arrayClass .byte ∈ lw_tbl ∧ Cond.arrayClass .boolean ∈ lw_tbl ∧ Cond.arrayOver (.object RX7) ∈ lw_tbl ∧ Cond.arrayOver (.object RX5) ∈ lw_tbl := by decide +kernel
theorem gs_ins : ∀ c, c < 10 → Cond.instantiable (CN c) (CK c) ∈ lw_tbl := by decide +kernel
theorem SX_of {b : Nat} {s : State} (hts : ∀ w ∈ lw_tbl, w.before #[Value.ref b] s = true) (hgv : (Jvm.Cond.and given_1 narrow_1).before #[Value.ref b] s = true) : ∃ sa sv : Nat → Nat, SX s.heap.size sa sv s ∧ sa 77 = b := by
  have hs := flat_of_before _ hgv
  have hA : ∀ a : Nat, a < s.heap.size → ¬ AB s.heap.size a := fun a h q => Nat.not_le.mpr h q
  obtain ⟨adK, adV, hK, hev⟩ := vk_Sof (args := #[Value.ref b]) (s := s) (N := nS) (tm := tmS) (len := lenS) (byt := bytS) (A := AB s.heap.size) (fun i hi => (str_small i hi).1) (fun i hi => hs _ (gs_ex i hi)) (fun i hi => hs _ (gs_co i hi)) (fun i hi => hs _ (gs_ar i hi)) (fun i hi => hs _ (gs_le i hi)) (fun i hi j hj => hs _ (gs_el i hi j hj)) (fun i j hi hj hij => (gs_ne i hi j hj hij).imp (hs _) (hs _)) hA
  have hsa : ∀ i, i < 10 → (fun i => if i < 10 then adK i else b) i = adK i := fun i hi => if_pos hi
  refine ⟨fun i => if i < 10 then adK i else b, adV, ⟨⟨fun i hi => ?_, fun i j hi hj h => ?_⟩, fun i hi => ?_, ?_, ?_⟩, rfl⟩
  · rw [hsa i hi]
    exact hK.1 i hi
  · rw [hsa i hi, hsa j hj] at h
    exact hK.2 i j hi hj h
  · rw [hsa i hi]
    exact vk_R.of (A := #[Value.ref b]) (hts _ (gs_sr i hi)) (hev i hi)
  · exact va_Zof (hts _ gs_l1) (hts _ gs_i1.1) (va_eqi (hs _ gs_cs)) hA
  · exact va_Zqof (hts _ gs_l2) (hts _ gs_i1.2) (hs _ gs_fm) hA
theorem ar_of {A : Array Value} {s : State} {ty : FieldType} (h : (Cond.arrayClass ty).before A s = true) (hp : ∀ cA, s.vm.findClass ("[" ++ ty.toString) = some cA → va_RA s cA ty) : ∃ cA : ClassId, ArrOfT s cA ty ∧ va_RA s cA ty := by
  obtain ⟨c, k, comp, h1, h2, h3⟩ := Cond.arrayClass_spec h
  exact ⟨c, fun n z => ⟨fun k h => (by cases h), k, h2, comp, h3⟩, hp c h1⟩
theorem ao_of {A : Array Value} {s : State} {C : String} (h : (Cond.arrayOver (.object C)).before A s = true) : ∃ cA : ClassId, ArrOfT s cA (.object C) ∧ va_RA s cA (.object C) := by
  obtain ⟨comp, c, k, h1, h2, h3, h4, h5⟩ := Cond.arrayOver_spec h
  exact ⟨c, fun n z => ⟨fun k h => (by cases h), k, h3, comp, h4⟩, ⟨k, comp, h3, h4, h1, h5⟩⟩
theorem K_of {b : Nat} {s : State} (hts : ∀ w ∈ lw_tbl, w.before #[Value.ref b] s = true) : ∃ (D : va_G) (cid : Nat → ClassId), va_K D classes (tysOf cid) s := by
  have hg : ∀ w ∈ TBg, w.before #[Value.ref b] s = true := fun w hw => hts w (List.mem_filter.mp hw).1
  have hc : ∀ k, ∃ q : ClassId × (Nat → Nat), k < 10 → u_Kn s (CN k) (CT k) (CK k) q.1 q.2 := by
    intro k
    by_cases hk : k < 10
    · obtain ⟨cC, iS, h⟩ := u_known (C := CN k) (T := CT k) (N := CK k) hg (cls_in k hk) (hts _ (gs_ins k hk))
      exact ⟨(cC, iS), fun _ => h⟩
    · exact ⟨(0, fun _ => 0), fun h => absurd h hk⟩
  obtain ⟨cI, hI⟩ := ar_of (hts _ gs_ac.1) (fun cA h => h)
  obtain ⟨cB, hB⟩ := ar_of (hts _ gs_ac.2.1) (fun cA h => h)
  obtain ⟨cZ, hZ⟩ := ar_of (hts _ gs_ac.2.2.1) (fun cA h => h)
  obtain ⟨cS, hS⟩ := ao_of (hts _ gs_ac.2.2.2.1)
  obtain ⟨cH, hH⟩ := ao_of (hts _ gs_ac.2.2.2.2)
  refine ⟨(fun k => (hc k).choose.1, fun k => (hc k).choose.2), fun k => if k = 20 then cI else if k = 21 then cB else if k = 22 then cZ else if k = 23 then cS else cH, ?_, ?_⟩
  · intro k q hq
    have hk : k < 10 := (List.getElem?_eq_some_iff.mp hq).1
    rw [cls_at k hk] at hq
    cases hq
    exact (hc k).choose_spec hk
  · intro k q hq
    match k, hq with
    | 0, hq => cases hq; exact hI
    | 1, hq => cases hq; exact hB
    | 2, hq => cases hq; exact hZ
    | 3, hq => cases hq; exact hS
    | 4, hq => cases hq; exact hH
    | k + 5, hq => simp [tysOf] at hq
theorem NW_of {b : Nat} {s : State} (hts : ∀ w ∈ lw_tbl, w.before #[Value.ref b] s = true) : ∀ w ∈ NWl, va_Nw w s := by
  intro w hw
  obtain ⟨h1, h2⟩ := List.mem_filter.mp hw
  have h3 := hts w h1
  clear hw h1
  cases w <;> first | exact va_Nw.of rfl h3 | (cases h2; done) | (rename_i ty; cases ty <;> first | exact va_Nw.of rfl h3 | exact va_AO.of h3 | cases h2)
set_option maxHeartbeats 4000000 in
theorem start_of {F : Nat} {G : Nat → Mm → Nat → Nat → Option Nat → Prop} (hpl0 : ∀ c m P D T, G c m P D T → isPl P ∧ isPl D) (hini : INI F (G 0)) (hops : ∀ c, c < 512 → OPS F (G c) (G (c + 1))) {p : Program} {e : Env} {s : State} {m : MethodId} {below : List Frame} {meth : Method} {c : Code} (l : Launch) {b L : Nat} {xs : Nat → Int32} (hL : L ≤ 2560) (C0 : lw_At p s m meth c b L xs) : W p l e room_1 s m #[Value.ref b] below meth c s.heap [] 0 0 (lw_Z below #[Value.ref b] s) (entryFrame m ([Value.ref b] : List Value).toArray 4) := by
  obtain ⟨hx, hb, hr, hml, hown, hts, hX, hbl, hlocks, hgv⟩ := id C0
  obtain ⟨sa, sv, hSX, hsa⟩ := SX_of hts hgv
  obtain ⟨D, cid, hK⟩ := K_of hts
  have hg : ∀ w ∈ TBg, w.before #[Value.ref b] s = true := fun w hw => hts w (List.mem_filter.mp hw).1
  have hl := lv_entry ([.ref b]) (n := 4) (Nat.le_of_ble_eq_true rfl)
  rw [lg_entry_eq]
  generalize (lg_sl ([.ref b]) ++ List.replicate (4 - (lg_sl ([.ref b])).length) Slot.unset).toArray = ls at hl ⊢
  have hl1 : lv_has ls 4 (lvR s.heap.size sa [(0, .float 77)]) := by
    have e7 : rv s.heap.size sa (.float 77) = .ref b := by
      show Value.ref (sa (77 : UInt32).toNat) = .ref b
      rw [← hsa]
      rfl
    simp only [lvR, List.map_cons, List.map_nil, e7]
    exact hl
  have key := law_begin (F := F) (G := G) (b := b) (L := L) (xs := xs) hL hpl0 hini hops p l e s m below meth c D s.heap.size cid sa sv s.heap [] ls ⟨hx, hb, hr, hml, hown, hg, hlocks, ⟨hK, NW_of hts, hSX⟩, rfl, hX, hbl, hsa⟩ (fun k q h => by simp [wsof] at h) va_S.rf hl1 (by decide)
  rw [Nat.sub_self, Nat.sub_self] at key
  exact key

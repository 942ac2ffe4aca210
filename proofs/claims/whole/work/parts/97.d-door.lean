/-! text: a line of a door -/
theorem AT_mono {n : Nat} {bs : Nat → Nat} {q q' f k e : Nat} {mc mr : Mm} (h : ATt n bs q f k e mc mr) (hq : q' ≤ q) : ATt n bs q' f k e mc mr := by
  obtain ⟨⟨pos, h1, h2⟩, h3⟩ := h
  exact ⟨⟨pos, by omega, h2⟩, h3⟩
theorem zt_unlike {n : Nat} {bs : Nat → Nat} {c r : Mm} {F q : Nat} {x1 x2 y1 : Int32} {E : Prop} (hF : 5000 ≤ F) (hn : n ≤ 400) (hb : ∀ i, i < n → bs i < 256) (h : ((∃ f e, ATt n bs q f 3 e c r) ∧ E ∧ r 113 26 = x2 ∧ y1 = x1) ∨ FAt n bs c r) : ∃ c' r7 r', (if x2 = x1 then ((f_X2_refuse c 3).bind fun m12 => some m12) else (some c) : Option Mm) = some c' ∧ (if (r 113 27) = 0 then ((if y1 = r 113 26 then (some 0) else (some 1) : Option (Int32)).bind fun y8 => (f_X9_needs r y8 3).bind fun m10 => some m10) else (some r) : Option (Mm)) = some r7 ∧ f_X9_next F r7 = some r' ∧ FRc c c' ∧ FRm r r' ∧ ((SSt n bs (q + 1) c' r' ∧ E ∧ x1 ≠ x2) ∨ FAt n bs c' r') := by
  rcases h with ⟨⟨f, e, hA⟩, hE, h26, hy⟩ | hf
  · have z27 := AT_m hA
    by_cases w : x2 = x1
    · obtain ⟨⟨pos, h1, hC⟩, h0, hw, hM⟩ := id hA
      have y : (if y1 = r 113 26 then (some 0) else (some 1) : Option (Int32)) = some 0 := if_pos (by rw [h26, hy, w])
      have nd := m_need (m := r) (a := 0) (v := 3) z27
      rw [if_pos rfl] at nd
      have n27 : ¬ up2 (up2 r 113 27 3) 113 28 (r 113 24) 113 27 ≤ 0 := by rw [up2_slot (by decide), up2_same]; decide
      refine ⟨up2 (up2 c 1 3 3) 1 4 (c 1 7), _, _, ?_, ?_, m_nxF n27, (FRc.rf.up (by omega)).up (by omega), (FRm.rf.up (by omega)).up (by omega), Or.inr (FA_mk (v := 3) hC (by decide) (by decide) (by rw [up2_slot (by decide), up2_same]; rfl) (by rw [up2_same]; exact hM.2.1))⟩
      · rw [if_pos w, c_refuse, if_pos h0, Option.bind_some]
      · rw [if_pos z27, y, Option.bind_some, nd, Option.bind_some]
    · obtain ⟨r', d1, d2, d3⟩ := zt_adv (F := F) hF hn hb hA (by decide)
      have y : (if y1 = r 113 26 then (some 0) else (some 1) : Option (Int32)) = some 1 := if_neg (by rw [h26, hy]; exact fun q => w q.symm)
      have nd := m_need (m := r) (a := 1) (v := 3) z27
      rw [if_neg n10] at nd
      refine ⟨c, r, r', if_neg w, ?_, d1, FRc.rf, d2, Or.inl ⟨d3, hE, fun q => w q.symm⟩⟩
      rw [if_pos z27, y, Option.bind_some, nd, Option.bind_some]
  · refine ⟨c, r, r, ?_, if_neg (FA_m hf).1, m_nxF (FA_m hf).2, FRc.rf, FRm.rf, Or.inr hf⟩
    by_cases w : x2 = x1
    · rw [if_pos w, c_rfF (FA_c hf), Option.bind_some]
    · rw [if_neg w]
theorem zt_shut {n : Nat} {bs : Nat → Nat} {c r : Mm} {F q a i : Nat} {E : Prop} (hF : 5000 ≤ F) (hn : n ≤ 400) (hb : ∀ i, i < n → bs i < 256) (ha : 2 < a) (h : (SSt n bs q c r ∧ E) ∨ FAt n bs c r) : ∃ m23 x24 c6 z r6, f_X2_nextToken F c = some m23 ∧ f_X2_spells F m23 (UInt32.ofNat 9) = some x24 ∧ (x24 = 0 ∨ x24 = 1) ∧ FRc c m23 ∧ (if x24 = 0 then (some (up2 m23 a i (if x24 = 0 then 1 else 0))) else ((f_X2_nextToken F (up2 m23 a i (if x24 = 0 then 1 else 0))).bind fun m30 => some m30) : Option Mm) = some c6 ∧ FRc (up2 m23 a i (if x24 = 0 then 1 else 0)) c6 ∧ (if (r 113 27) = 0 then (if (r 113 25) = (1 : Int32) then ((f_X9_nameNow r).bind fun x20 => if x20 = (14 : Int32) then (some 1) else (some 0)) else (some 0)) else (some 0) : Option Int32) = some z ∧ (if z = 0 then (some r) else ((f_X9_next F r).bind fun m24 => some m24) : Option Mm) = some r6 ∧ FRm r r6 ∧ (((∃ f k e, ATt n bs q f k e c6 r6) ∧ r 113 27 = 0 ∧ E ∧ z = x24) ∨ FAt n bs c6 r6) := by
  have fault : ∀ m23, f_X2_nextToken F c = some m23 → FRc c m23 → FAt n bs m23 r → ∃ m23 x24 c6 z r6, f_X2_nextToken F c = some m23 ∧ f_X2_spells F m23 (UInt32.ofNat 9) = some x24 ∧ (x24 = 0 ∨ x24 = 1) ∧ FRc c m23 ∧ (if x24 = 0 then (some (up2 m23 a i (if x24 = 0 then 1 else 0))) else ((f_X2_nextToken F (up2 m23 a i (if x24 = 0 then 1 else 0))).bind fun m30 => some m30) : Option Mm) = some c6 ∧ FRc (up2 m23 a i (if x24 = 0 then 1 else 0)) c6 ∧ (if (r 113 27) = 0 then (if (r 113 25) = (1 : Int32) then ((f_X9_nameNow r).bind fun x20 => if x20 = (14 : Int32) then (some 1) else (some 0)) else (some 0)) else (some 0) : Option Int32) = some z ∧ (if z = 0 then (some r) else ((f_X9_next F r).bind fun m24 => some m24) : Option Mm) = some r6 ∧ FRm r r6 ∧ (((∃ f k e, ATt n bs q f k e c6 r6) ∧ r 113 27 = 0 ∧ E ∧ z = x24) ∨ FAt n bs c6 r6) := fun m23 a1 a2 hf => by
    have key : ∀ x24 : Int32, f_X2_spells F m23 (UInt32.ofNat 9) = some x24 → (x24 = 0 ∨ x24 = 1) → (if x24 = 0 then (some (up2 m23 a i (if x24 = 0 then 1 else 0))) else ((f_X2_nextToken F (up2 m23 a i (if x24 = 0 then 1 else 0))).bind fun m30 => some m30) : Option Mm) = some (up2 m23 a i (if x24 = 0 then 1 else 0)) := fun x24 _ hx => by
      rcases hx with rfl | rfl
      · rw [if_pos rfl]
      · rw [if_neg n10, c_nxF (FA_c (FA_upc hf ha)), Option.bind_some]
    obtain ⟨⟨pos, f, k, e, hC⟩, -⟩ := id hf
    rcases spells_any (F := F) hF hn hb hC (j := 9) (by decide) with s | s
    · exact ⟨m23, 1, _, 0, r, a1, s, Or.inr rfl, a2, key 1 s (Or.inr rfl), FRc.rf, if_neg (FA_m hf).1, if_pos rfl, FRm.rf, Or.inr (FA_upc hf ha)⟩
    · exact ⟨m23, 0, _, 0, r, a1, s, Or.inl rfl, a2, key 0 s (Or.inl rfl), FRc.rf, if_neg (FA_m hf).1, if_pos rfl, FRm.rf, Or.inr (FA_upc hf ha)⟩
  rcases h with ⟨hs, hE⟩ | hf
  · obtain ⟨m23, a1, a2, a3 | a3⟩ := zt_peek (F := F) hF hn hb hs
    · obtain ⟨f, k, e, hA⟩ := a3
      have z27 := AT_m hA
      obtain ⟨⟨pos, h1, hC⟩, h0, hw, hM⟩ := id hA
      have hk5 := TK_k5 hC.2.1
      have no : f_X2_spells F m23 (UInt32.ofNat 9) = some 0 → (if (r 113 27) = 0 then (if (r 113 25) = (1 : Int32) then ((f_X9_nameNow r).bind fun x20 => if x20 = (14 : Int32) then (some 1) else (some 0)) else (some 0)) else (some 0) : Option Int32) = some 0 → ∃ m23 x24 c6 z r6, f_X2_nextToken F c = some m23 ∧ f_X2_spells F m23 (UInt32.ofNat 9) = some x24 ∧ (x24 = 0 ∨ x24 = 1) ∧ FRc c m23 ∧ (if x24 = 0 then (some (up2 m23 a i (if x24 = 0 then 1 else 0))) else ((f_X2_nextToken F (up2 m23 a i (if x24 = 0 then 1 else 0))).bind fun m30 => some m30) : Option Mm) = some c6 ∧ FRc (up2 m23 a i (if x24 = 0 then 1 else 0)) c6 ∧ (if (r 113 27) = 0 then (if (r 113 25) = (1 : Int32) then ((f_X9_nameNow r).bind fun x20 => if x20 = (14 : Int32) then (some 1) else (some 0)) else (some 0)) else (some 0) : Option Int32) = some z ∧ (if z = 0 then (some r) else ((f_X9_next F r).bind fun m24 => some m24) : Option Mm) = some r6 ∧ FRm r r6 ∧ (((∃ f k e, ATt n bs q f k e c6 r6) ∧ r 113 27 = 0 ∧ E ∧ z = x24) ∨ FAt n bs c6 r6) := fun s zz =>
        ⟨m23, 0, _, 0, r, a1, s, Or.inl rfl, a2, if_pos rfl, FRc.rf, zz, if_pos rfl, FRm.rf, Or.inl ⟨⟨f, k, e, AT_upc hA ha⟩, z27, hE, rfl⟩⟩
      by_cases q2 : k = 2
      · subst q2
        have h25 : r 113 25 = (1 : Int32) := hM.2.2.1
        obtain ⟨x, y, n1, n2, n3, ⟨n4, n5⟩ | ⟨n4, n5⟩⟩ := zt_name (F := F) hF hn hb hC hM
        · obtain ⟨r6, d1, d2, d3⟩ := zt_adv (F := F) hF hn hb hA (by decide)
          have sx : SSt n bs (q + 1) (up2 m23 a i (if (1 : Int32) = 0 then 1 else 0)) r6 := SS_upc d3 ha
          obtain ⟨c6, g1, g2, g3⟩ := zt_peek (F := F) hF hn hb sx
          refine ⟨m23, 1, c6, 1, r6, a1, n5, Or.inr rfl, a2, ?_, g2, ?_, ?_, d2, g3.imp (fun g => ?_) id⟩
          · rw [if_neg n10, g1, Option.bind_some]
          · rw [if_pos z27, if_pos h25, n2, Option.bind_some, if_pos n4]
          · rw [if_neg n10, d1, Option.bind_some]
          · obtain ⟨f2, k2, e2, g⟩ := g
            exact ⟨⟨f2, k2, e2, AT_mono g (by omega)⟩, z27, hE, rfl⟩
        · refine no n5 ?_
          rw [if_pos z27, if_pos h25, n2, Option.bind_some, if_neg n4]
      · refine no (spells_no ?_) ?_
        · rw [hC.2.2.2.2, show (2 : Int32) = nI 2 from rfl, nq (by omega) (by decide)]; exact q2
        · have h25 : ¬ r 113 25 = (1 : Int32) := by rw [hM.2.2.1, (krN_c hk5).1]; exact q2
          rw [if_pos z27, if_neg h25]
    · exact fault m23 a1 a2 a3
  · exact fault c (c_nxF (FA_c hf)) FRc.rf hf

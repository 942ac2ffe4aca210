/-! the class's valves, doors and pumps -/
theorem c_valves {p s : AS} {m : Mm} {S Q F : Nat} (hS : isSt S) (hQ : isPl Q) (hp : PW p) (hP : PC p m Q) (hR : RC p s m S) (hw : SW p s) (hf : SF p s) (hF : 100 < F) : ∃ m', f_X7_comeThroughValves F m S Q = some m' ∧ RC p (rep (valvS p) (p 0 0) s) m' S ∧ FC S m m' ∧ SW p (rep (valvS p) (p 0 0) s) ∧ Wo s (rep (valvS p) (p 0 0) s) := by
  obtain ⟨⟨l1, l2, l3, l4⟩, ph, pd, pl, pp, pr⟩ := id hp
  obtain ⟨m', h1, h2, h3, h4⟩ := c_loop (F := F) (n := p 0 0) (f := valvS p) (I := fun t => SW p t ∧ Wo s t) (b := b_X7_comeThroughValves_2 S Q) (g := fun m => m) (by omega) hR ⟨hw, Wo.rf⟩ (by
    intro i t m1 hi ⟨ht, ht2⟩ hR1 hf1
    have hP1 := PC_FC hP hS hQ hf1
    have hft := SF_Wo hf ht2
    have hv := hft.2.1 i hi
    have hwi := ht i hi
    have hti := ph i hi
    have e1 := C_ld hR1 (N := 8) 2 i hi (by omega) (by decide)
    have e2 := P_ld hP1 (N := 8) 1 i hi (by omega) (by decide)
    have e3 := C_ld hR1 (N := 8) 1 i hi (by omega) (by decide)
    have hc : ¬ nI (p 0 0) ≤ nI i := nI_ge hi (by omega)
    have hw2 := valvS_w ht hi
    by_cases hv1 : t 2 i = 1
    · obtain ⟨m2, e4, h2, h3⟩ := C_st hR1 (N := 8) 1 i (if p 1 i - t 1 i ≤ 5 then p 1 i else t 1 i + 5) (by decide) (by decide) (by omega) (by decide)
      have hv2 : valvS p i t = u3 t 1 i (if p 1 i - t 1 i ≤ 5 then p 1 i else t 1 i + 5) := by rw [valvS, if_pos hv1]
      rw [hv2] at hw2 ⊢
      refine ⟨m2, ?_, h2, h3, hw2.1, ht2.tr hw2.2⟩
      have e5 : imin (nI (p 1 i)) (nI (t 1 i) + (5 : Int32)) = nI (if p 1 i - t 1 i ≤ 5 then p 1 i else t 1 i + 5) := by
        rw [show nI (t 1 i) + (5 : Int32) = nI (t 1 i + 5) from nI_add _ 5, imin]
        by_cases q : p 1 i - t 1 i ≤ 5
        · rw [if_pos q, if_neg (nI_nlt (by omega) (by omega))]
        · rw [if_neg q, if_pos (nI_lt (by omega) (by omega))]
      rw [hv1] at e1
      have e6 : nI 1 = (1 : Int32) := rfl
      simp only [b_X7_comeThroughValves_2, PC_0 hP1, hc, e1, e2, e3, e5, e6, e4, Option.bind_some, ↓reduceIte, nI_1]
    · have hv2 : valvS p i t = t := by rw [valvS, if_neg hv1]
      rw [hv2]
      refine ⟨m1, ?_, hR1, FC.rf, ht, ht2⟩
      have e6 : ¬ nI (t 2 i) = (1 : Int32) := nI_ne (b := 1) (by omega) (by decide) hv1
      simp only [b_X7_comeThroughValves_2, PC_0 hP1, hc, e1, e6, Option.bind_some, ↓reduceIte, nI_1]) (by
    intro t m1 _ hR1 hf1
    have hP1 := PC_FC hP hS hQ hf1
    simp only [b_X7_comeThroughValves_2, PC_0 hP1, Int32.le_refl, ↓reduceIte])
  exact ⟨m', by rw [f_X7_comeThroughValves, h1]; rfl, h2, h3, h4⟩
theorem c_pumps {p s : AS} {m : Mm} {S Q F : Nat} (hS : isSt S) (hQ : isPl Q) (hp : PW p) (hP : PC p m Q) (hR : RC p s m S) (hw : SW p s) (hf : SF p s) (hF : 100 < F) : ∃ m', f_X7_pumpOut F m S Q = some m' ∧ RC p (rep (pumpS p) (p 0 3) s) m' S ∧ FC S m m' ∧ SW p (rep (pumpS p) (p 0 3) s) ∧ Wo s (rep (pumpS p) (p 0 3) s) := by
  obtain ⟨⟨l1, l2, l3, l4⟩, ph, pd, pl, pp, pr⟩ := id hp
  obtain ⟨m', h1, h2, h3, h4⟩ := c_loop (F := F) (n := p 0 3) (f := pumpS p) (I := fun t => SW p t ∧ Wo s t) (b := b_X7_pumpOut_2 S Q) (g := fun m => m) (by omega) hR ⟨hw, Wo.rf⟩ (by
    intro i t m1 hi ⟨ht, ht2⟩ hR1 hf1
    have hP1 := PC_FC hP hS hQ hf1
    have hft := SF_Wo hf ht2
    have hv := hft.2.2.2.2 i hi
    have e1 := C_ld hR1 (N := 3) 5 i hi (by omega) (by decide)
    have e2 := P_ld hP1 (N := 3) 14 i hi (by omega) (by decide)
    have hc : ¬ nI (p 0 3) ≤ nI i := nI_ge hi (by omega)
    have hw2 := pumpS_w (k := i) ht
    obtain ⟨q1, q2, q3⟩ := pp i hi
    by_cases hv1 : t 5 i < p 0 0
    · have hwi := ht _ hv1
      have hti := ph _ hv1
      have e3 := C_ld hR1 (N := 8) 1 _ hv1 (by omega) (by decide)
      obtain ⟨m2, e4, h2, h3⟩ := C_st hR1 (N := 8) 1 (t 5 i) (t 1 (t 5 i) - p 14 i) (by decide) (by decide) (by omega) (by decide)
      have hv2 : pumpS p i t = u3 t 1 (t 5 i) (t 1 (t 5 i) - p 14 i) := by rw [pumpS, if_pos hv1]
      rw [hv2] at hw2 ⊢
      refine ⟨m2, ?_, h2, h3, hw2.1, ht2.tr hw2.2⟩
      have e5 : imax (0 : Int32) (nI (t 1 (t 5 i)) - nI (p 14 i)) = nI (t 1 (t 5 i) - p 14 i) := by
        rw [imax]
        by_cases q : p 14 i < t 1 (t 5 i)
        · rw [pk_sub (by omega), if_pos (n0_lt (by omega) (by omega))]
        · have h0 : t 1 (t 5 i) - p 14 i = 0 := by omega
          by_cases q5 : p 14 i = t 1 (t 5 i)
          · rw [pk_sub (by omega), h0, if_neg (by decide)]; rfl
          · have := pk_sneg (a := t 1 (t 5 i)) (b := p 14 i) (by omega) (by omega)
            rw [if_neg (Int32.lt_asymm this), h0]; rfl
      have e6 : ¬ nI (t 5 i) < (0 : Int32) := nI_pos (by omega)
      have e7 : ¬ nI (p 0 0) ≤ nI (t 5 i) := nI_ge hv1 (by omega)
      simp only [b_X7_pumpOut_2, PC_3 hP1, PC_0 hP1, hc, e1, e2, e3, e5, e6, e7, e4, Option.bind_some, ↓reduceIte, nI_1]
    · have hv2 : pumpS p i t = t := by rw [pumpS, if_neg hv1]
      rw [hv2]
      refine ⟨m1, ?_, hR1, FC.rf, ht, ht2⟩
      have e6 : nI (t 5 i) < (0 : Int32) := by
        rcases hv with q | q
        · exact absurd q hv1
        · rw [q]; decide +kernel
      simp only [b_X7_pumpOut_2, PC_3 hP1, hc, e1, e6, Option.bind_some, ↓reduceIte, nI_1]) (by
    intro t m1 _ hR1 hf1
    have hP1 := PC_FC hP hS hQ hf1
    simp only [b_X7_pumpOut_2, PC_3 hP1, Int32.le_refl, ↓reduceIte])
  exact ⟨m', by rw [f_X7_pumpOut, h1]; rfl, h2, h3, h4⟩
theorem imax_n {a b : Nat} (ha : a < 2 ^ 31) (hb : b < 2 ^ 31) : imax (nI a) (nI b) = nI (max a b) := by
  rw [imax]
  by_cases q : a < b
  · rw [if_pos (nI_lt q hb), Nat.max_eq_right (by omega)]
  · rw [if_neg (nI_nlt (by omega) ha), Nat.max_eq_left (by omega)]
theorem c_door {p s : AS} {m : Mm} {S Q F d : Nat} (hS : isSt S) (hQ : isPl Q) (hp : PW p) (hP : PC p m Q) (hR : RC p s m S) (hw : SW p s) (hf : SF p s) (hF : 100 < F) (hd : d < p 0 1) : ∃ m', f_X7_flowThroughDoor F m S Q (nI d) = some m' ∧ RC p (doorS p d s) m' S ∧ FC S m m' := by
  obtain ⟨⟨l1, l2, l3, l4⟩, ph, pd, pl, pp, pr⟩ := id hp
  obtain ⟨a1, a2, a3, a4, a5, a6, a7, a8, a9⟩ := pd d hd
  have f1 := C_ld hR (N := 10) 3 d hd (by omega) (by decide)
  have f2 := P_ld hP (N := 10) 5 d hd (by omega) (by decide)
  have f3 := P_ld hP (N := 10) 6 d hd (by omega) (by decide)
  have ho := hf.2.2.1 d hd
  by_cases hc : s 3 d = 1
  · have hn : ¬ nI (s 3 d) = (0 : Int32) := nI_ne (b := 0) (by omega) (by decide) (by omega)
    obtain ⟨r, h1, m', h2, h3, h4⟩ := iter_Q (b := b_X7_flowThroughDoor_28 S Q (nI d) (nI (p 5 d)) (nI (p 6 d))) (F := F) (p 8 d) (fun i x => ∃ m1, x = (nI i, m1) ∧ RC p (rep (fun _ => tonS p d) i s) m1 S ∧ FC S m m1 ∧ SW p (rep (fun _ => tonS p d) i s)) (fun r => ∃ m', (r = Sum.inl m' ∨ r = Sum.inr m') ∧ RC p (rep (fun _ => tonS p d) (p 8 d) s) m' S ∧ FC S m m') (by omega) (by
      rintro i x hi ⟨m1, rfl, hR1, hf1, ht⟩
      generalize ht0 : rep (fun _ => tonS p d) i s = t at hR1 ht
      have hnx : rep (fun _ => tonS p d) (i + 1) s = tonS p d t := by rw [← ht0]; rfl
      have hfx : tonS p d t = t → rep (fun _ => tonS p d) (p 8 d) s = t := by
        intro q
        have := rep_fix (f := fun _ => tonS p d) (s := s) (i := i) (fun j _ => by rw [ht0]; exact q) (p 8 d - i)
        rw [ht0, Nat.add_sub_cancel' (by omega)] at this
        exact this
      have hP1 := PC_FC hP hS hQ hf1
      have wa := ht _ a1
      have wb := ht _ a2
      have ta := ph _ a1
      have tb := ph _ a2
      have e0 := P_ld hP1 (N := 10) 8 d hd (by omega) (by decide)
      have e1 := P_ld hP1 (N := 8) 1 _ a1 (by omega) (by decide)
      have e2 := C_ld hR1 (N := 8) 1 _ a1 (by omega) (by decide)
      have e3 := P_ld hP1 (N := 8) 1 _ a2 (by omega) (by decide)
      have e4 := C_ld hR1 (N := 8) 1 _ a2 (by omega) (by decide)
      have e5 : f_X8_heightIn (nI (p 1 (p 5 d))) (nI (t 1 (p 5 d))) = some (nI (hgt p t (p 5 d))) := c_height (by omega) (by omega) (by omega)
      have e6 : f_X8_heightIn (nI (p 1 (p 6 d))) (nI (t 1 (p 6 d))) = some (nI (hgt p t (p 6 d))) := c_height (by omega) (by omega) (by omega)
      have e7 := P_ld hP1 (N := 10) 7 d hd (by omega) (by decide)
      have hA := hgt_le ta.1 wa
      have hB := hgt_le tb.1 wb
      have hc0 : ¬ nI (p 8 d) ≤ nI i := nI_ge hi (by omega)
      have hmx := imax_n (a := hgt p t (p 5 d)) (b := hgt p t (p 6 d)) (by omega) (by omega)
      by_cases h1 : hgt p t (p 5 d) = hgt p t (p 6 d)
      · have hst : tonS p d t = t := by rw [tonS, if_pos h1]
        refine Or.inr ⟨_, ?_, m1, Or.inl rfl, by rw [hfx hst]; exact hR1, hf1⟩
        have h1' : nI (hgt p t (p 5 d)) = nI (hgt p t (p 6 d)) := by rw [h1]
        simp only [b_X7_flowThroughDoor_28, e0, e1, e2, e3, e4, e5, e6, e7, hc0, h1', Option.bind_some, ↓reduceIte]
      have h1' : ¬ nI (hgt p t (p 5 d)) = nI (hgt p t (p 6 d)) := nI_ne (by omega) (by omega) h1
      by_cases h2 : max (hgt p t (p 5 d)) (hgt p t (p 6 d)) ≤ p 7 d
      · have hst : tonS p d t = t := by rw [tonS, if_neg h1, if_pos h2]
        refine Or.inr ⟨_, ?_, m1, Or.inl rfl, by rw [hfx hst]; exact hR1, hf1⟩
        have h2' : ¬ nI (p 7 d) < nI (max (hgt p t (p 5 d)) (hgt p t (p 6 d))) := nI_nlt h2 (by omega)
        simp only [b_X7_flowThroughDoor_28, e0, e1, e2, e3, e4, e5, e6, e7, hc0, h1', hmx, h2', Option.bind_some, ↓reduceIte]
      have h2' : nI (p 7 d) < nI (max (hgt p t (p 5 d)) (hgt p t (p 6 d))) := nI_lt (by omega) (by omega)
      refine Or.inl ?_
      rw [hnx]
      have htw := (tonS_w hp hd ht).1
      by_cases h3 : hgt p t (p 6 d) < hgt p t (p 5 d)
      · have hst : tonS p d t = u3 (u3 t 1 (p 5 d) (t 1 (p 5 d) - 1)) 1 (p 6 d) (t 1 (p 6 d) + 1) := by rw [tonS, if_neg h1, if_neg h2, if_pos h3]
        have hpos := hgt_pos h3
        rw [hst] at htw ⊢
        obtain ⟨m2, g1, g2, g3⟩ := C_st hR1 (N := 8) 1 (p 5 d) (t 1 (p 5 d) - 1) (by decide) (by decide) (by omega) (by decide)
        have g4 := C_ld g2 (N := 8) 1 (p 6 d) a2 (by omega) (by decide)
        rw [u3_i (Ne.symm a3)] at g4
        obtain ⟨m3, g5, g6, g7⟩ := C_st g2 (N := 8) 1 (p 6 d) (t 1 (p 6 d) + 1) (by decide) (by decide) (by omega) (by decide)
        refine ⟨_, ?_, m3, rfl, g6, hf1.tr (g3.tr g7), htw⟩
        have h3' : ¬ nI (hgt p t (p 5 d)) ≤ nI (hgt p t (p 6 d)) := nI_ge h3 (by omega)
        have k1 : nI (t 1 (p 5 d)) - (1 : Int32) = nI (t 1 (p 5 d) - 1) := pk_sub (b := 1) (by omega)
        simp only [b_X7_flowThroughDoor_28, e0, e1, e2, e3, e4, e5, e6, e7, hc0, h1', hmx, h2', h3', k1, g1, g4, g5, nI_1, Option.bind_some, ↓reduceIte]
      · have hst : tonS p d t = u3 (u3 t 1 (p 6 d) (t 1 (p 6 d) - 1)) 1 (p 5 d) (t 1 (p 5 d) + 1) := by rw [tonS, if_neg h1, if_neg h2, if_neg h3]
        have hpos := hgt_pos (p := p) (s := t) (h := p 6 d) (g := hgt p t (p 5 d)) (by omega)
        rw [hst, u3_comm (fun q => a3 q.2)] at htw ⊢
        obtain ⟨m2, g1, g2, g3⟩ := C_st hR1 (N := 8) 1 (p 5 d) (t 1 (p 5 d) + 1) (by decide) (by decide) (by omega) (by decide)
        have g4 := C_ld g2 (N := 8) 1 (p 6 d) a2 (by omega) (by decide)
        rw [u3_i (Ne.symm a3)] at g4
        obtain ⟨m3, g5, g6, g7⟩ := C_st g2 (N := 8) 1 (p 6 d) (t 1 (p 6 d) - 1) (by decide) (by decide) (by omega) (by decide)
        refine ⟨_, ?_, m3, rfl, g6, hf1.tr (g3.tr g7), htw⟩
        have h3' : nI (hgt p t (p 5 d)) ≤ nI (hgt p t (p 6 d)) := nI_le (by omega) (by omega)
        have k1 : nI (t 1 (p 5 d)) - (-1 : Int32) = nI (t 1 (p 5 d) + 1) := by rw [Int32.sub_eq_add_neg, Int32.neg_neg]; exact nI_1 _
        have k2 : nI (t 1 (p 6 d)) + (-1 : Int32) = nI (t 1 (p 6 d) - 1) := by
          have := pk_m1 (t 1 (p 6 d) - 1)
          rwa [Nat.sub_add_cancel hpos] at this
        simp only [b_X7_flowThroughDoor_28, e0, e1, e2, e3, e4, e5, e6, e7, hc0, h1', hmx, h2', h3', k1, k2, g1, g4, g5, nI_1, Option.bind_some, ↓reduceIte]) (by
      rintro x ⟨m1, rfl, hR1, hf1, ht⟩
      have hP1 := PC_FC hP hS hQ hf1
      have e0 := P_ld hP1 (N := 10) 8 d hd (by omega) (by decide)
      refine ⟨_, ?_, m1, Or.inr rfl, hR1, hf1⟩
      simp only [b_X7_flowThroughDoor_28, e0, Int32.le_refl, Option.bind_some, ↓reduceIte]) (x := (0, m)) ⟨m, rfl, hR, FC.rf, hw⟩
    have hst : doorS p d s = rep (fun _ => tonS p d) (p 8 d) s := by rw [doorS, if_pos hc]
    rw [hst]
    refine ⟨m', ?_, h3, h4⟩
    rcases h2 with rfl | rfl <;> simp only [f_X7_flowThroughDoor, f1, f2, f3, hn, h1, Option.bind_some, ↓reduceIte, Sum.elim_inl, Sum.elim_inr]
  · have h0 : s 3 d = 0 := by omega
    have hst : doorS p d s = s := by rw [doorS, if_neg hc]
    rw [hst]
    refine ⟨m, ?_, hR, FC.rf⟩
    have hn : nI (s 3 d) = (0 : Int32) := by rw [h0]; rfl
    simp only [f_X7_flowThroughDoor, f1, hn, Option.bind_some, ↓reduceIte]

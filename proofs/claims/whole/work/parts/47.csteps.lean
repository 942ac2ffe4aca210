/-! the class's steps over a state: water -/
theorem n0_lt {n : Nat} (h : 0 < n) (h2 : n < 2 ^ 31) : (0 : Int32) < nI n := nI_lt (a := 0) h h2
theorem c_height {t w : Nat} (ht : 0 < t) (ht2 : t < 2 ^ 31) (hw : 12 * w < 2 ^ 31) : f_X8_heightIn (nI t) (nI w) = some (nI (12 * w / t)) := by
  unfold f_X8_heightIn
  rw [if_pos (n0_lt ht ht2), show (12 : Int32) * nI w = nI (12 * w) from pk_mul 12 w, odivN hw ht ht2]
  rfl
theorem come_ar {r g : Nat} (hr : r ≤ 20) (hg : g ≤ 12) : r * (12 - g) ≤ 240 := Nat.mul_le_mul hr (Nat.sub_le 12 g)
theorem c_tonsIn {r g rm : Nat} (hr : r ≤ 20) (hg : g ≤ 12) (hm : rm < 2 ^ 31) : f_X8_tonsIn (nI r) (nI g) (nI rm) = some (nI (tIn r g rm)) := by
  have h1 := come_ar hr hg
  unfold f_X8_tonsIn
  rw [show (12 : Int32) - nI g = nI (12 - g) from pk_sub (a := 12) hg, pk_mul, show nI (r * (12 - g)) + (12 : Int32) = nI (r * (12 - g) + 12) from nI_add _ 12, show nI (r * (12 - g) + 12) - (1 : Int32) = nI (r * (12 - g) + 11) from pk_sub (b := 1) (by omega), show (12 : Int32) = nI 12 from rfl, odivN (by omega) (by omega) (by omega)]
  simp only [Option.bind_some, tIn]
  by_cases hc : rm ≤ (r * (12 - g) + 11) / 12
  · rw [if_pos hc, if_pos (nI_le hc (by omega))]
  · rw [if_neg hc, if_neg (nI_ge (by omega) (by omega))]
theorem hgt_le {p s : AS} {h : Nat} (h1 : 1 ≤ p 1 h) (hw : s 1 h ≤ p 1 h) : hgt p s h ≤ 12 := by
  unfold hgt
  exact Nat.div_le_of_le_mul (by rw [Nat.mul_comm]; exact Nat.mul_le_mul_right 12 hw)
theorem rat_le {p s : AS} {i : Nat} (h : p 12 i ≤ 20) : rat p s i ≤ 20 := by
  unfold rat
  split <;> omega
theorem tIn_le {r g rm : Nat} : tIn r g rm ≤ rm := by
  unfold tIn
  split <;> omega
theorem c_thru {p s : AS} {m : Mm} {S Q i : Nat} (hp : PW p) (hP : PC p m Q) (hR : RC p s m S) (hw : SW p s) (hs : s 4 i ≤ 1) (hi : i < p 0 2) : f_X7_tonsThrough m S Q (nI i) = some (nI (come p s i)) := by
  obtain ⟨⟨l1, l2, l3, l4⟩, ph, pd, pl, pp, pr⟩ := id hp
  obtain ⟨a1, a2, a3, a4, a5⟩ := pl i hi
  obtain ⟨b1, b2, b3, b4, b5⟩ := ph _ a1
  have hw1 := hw _ a1
  have e1 := P_ld hP (N := 4) 11 i hi (by omega) (by decide)
  have e2 := C_ld hR (N := 4) 4 i hi (by omega) (by decide)
  have e3 := P_ld hP (N := 4) 12 i hi (by omega) (by decide)
  have e4 := P_ld hP (N := 8) 1 _ a1 (by omega) (by decide)
  have e5 := C_ld hR (N := 8) 1 _ a1 (by omega) (by decide)
  have e6 := c_height (t := p 1 (p 11 i)) (w := s 1 (p 11 i)) (by omega) (by omega) (by omega)
  have e7 : nI (p 12 i) + (1 : Int32) = nI (p 12 i + 1) := nI_add _ 1
  have e8 : odiv (nI (p 12 i + 1)) (2 : Int32) = some (nI ((p 12 i + 1) / 2)) := odivN (d := 2) (by omega) (by omega) (by omega)
  have e9 := c_tonsIn (r := rat p s i) (g := hgt p s (p 11 i)) (rm := p 1 (p 11 i) - s 1 (p 11 i)) (rat_le a3) (hgt_le b1 hw1) (by omega)
  unfold rat hgt at e9
  unfold come rat hgt
  by_cases hc : s 4 i = 1
  · have hc2 : nI 1 = (1 : Int32) := rfl
    rw [hc] at e2
    rw [if_pos hc] at e9 ⊢
    simp only [f_X7_tonsThrough, e1, e2, e3, e4, e5, e6, e7, e8, e9, hc2, Option.bind_some, ↓reduceIte, pk_sub hw1]
  · have hc2 : ¬ nI (s 4 i) = (1 : Int32) := nI_ne (b := 1) (by omega) (by decide) hc
    rw [if_neg hc] at e9 ⊢
    simp only [f_X7_tonsThrough, e1, e2, e3, e4, e5, e6, e9, hc2, Option.bind_some, ↓reduceIte, pk_sub hw1]
/-- only the water changes -/
def Wo (s s' : AS) : Prop := ∀ a, a ≠ 1 → s' a = s a
theorem Wo.rf {s : AS} : Wo s s := fun _ _ => rfl
theorem Wo.tr {s t u : AS} (h1 : Wo s t) (h2 : Wo t u) : Wo s u := fun a ha => (h2 a ha).trans (h1 a ha)
theorem Wo.up {s : AS} {i v : Nat} : Wo s (u3 s 1 i v) := fun a ha => funext fun b => u3_f ha
theorem SW_up {p s : AS} {i v : Nat} (h : SW p s) (hv : v ≤ p 1 i) : SW p (u3 s 1 i v) := fun h hh => by
  by_cases e : h = i
  · subst e; rw [u3_same]; exact hv
  · rw [u3_i e]; exact ‹SW p s› h hh
theorem holeS_w {p s : AS} {i : Nat} (h : SW p s) (hi : p 11 i < p 0 0) : SW p (holeS p i s) ∧ Wo s (holeS p i s) := by
  refine ⟨SW_up h ?_, Wo.up⟩
  have h1 := h _ hi
  have h2 : come p s i ≤ p 1 (p 11 i) - s 1 (p 11 i) := tIn_le
  omega
theorem valvS_w {p s : AS} {i : Nat} (h : SW p s) (hi : i < p 0 0) : SW p (valvS p i s) ∧ Wo s (valvS p i s) := by
  unfold valvS
  split
  · refine ⟨SW_up h ?_, Wo.up⟩
    have h1 := h _ hi
    split <;> omega
  · exact ⟨h, Wo.rf⟩
theorem hgt_pos {p s : AS} {h g : Nat} (hg : g < hgt p s h) : 1 ≤ s 1 h := by
  apply Decidable.byContradiction
  intro q
  have : s 1 h = 0 := by omega
  unfold hgt at hg
  rw [this] at hg
  simp at hg
theorem hgt_room {p s : AS} {h g : Nat} (h1 : 1 ≤ p 1 h) (hw : s 1 h ≤ p 1 h) (hg : hgt p s h < g) (hg2 : g ≤ 12) : s 1 h < p 1 h := by
  apply Decidable.byContradiction
  intro q
  have : s 1 h = p 1 h := by omega
  unfold hgt at hg
  rw [this, Nat.mul_div_cancel _ (by omega)] at hg
  omega
theorem tonS_w {p s : AS} {d : Nat} (hp : PW p) (hd : d < p 0 1) (h : SW p s) : SW p (tonS p d s) ∧ Wo s (tonS p d s) := by
  obtain ⟨⟨l1, l2, l3, l4⟩, ph, pd, pl, pp, pr⟩ := id hp
  obtain ⟨a1, a2, a3, a4, a5, a6, a7, a8, a9⟩ := pd d hd
  have wa := h _ a1
  have wb := h _ a2
  have ta := (ph _ a1).1
  have tb := (ph _ a2).1
  unfold tonS
  split
  · exact ⟨h, Wo.rf⟩
  split
  · exact ⟨h, Wo.rf⟩
  split
  · rename_i hc
    have := hgt_room tb wb hc (hgt_le ta wa)
    exact ⟨SW_up (SW_up h (by omega)) (by omega), Wo.tr Wo.up Wo.up⟩
  · rename_i h0 h2 hc
    have := hgt_room ta wa (g := hgt p s (p 6 d)) (by omega) (hgt_le tb wb)
    exact ⟨SW_up (SW_up h (by omega)) (by omega), Wo.tr Wo.up Wo.up⟩
theorem doorS_w {p s : AS} {d : Nat} (hp : PW p) (hd : d < p 0 1) (h : SW p s) : SW p (doorS p d s) ∧ Wo s (doorS p d s) := by
  unfold doorS
  split
  · exact rep_inv (I := fun t => SW p t ∧ Wo s t) ⟨h, Wo.rf⟩ (fun i t _ ht => ⟨(tonS_w hp hd ht.1).1, ht.2.tr (tonS_w hp hd ht.1).2⟩) _ (Nat.le_refl _)
  · exact ⟨h, Wo.rf⟩
theorem pumpS_w {p s : AS} {k : Nat} (h : SW p s) : SW p (pumpS p k s) ∧ Wo s (pumpS p k s) := by
  unfold pumpS
  split
  · rename_i hc
    have := h _ hc
    exact ⟨SW_up h (by omega), Wo.up⟩
  · exact ⟨h, Wo.rf⟩
theorem waterS_w {p s : AS} (hp : PW p) (h : SW p s) : SW p (waterS p s) ∧ Wo s (waterS p s) := by
  obtain ⟨⟨l1, l2, l3, l4⟩, ph, pd, pl, pp, pr⟩ := id hp
  unfold waterS
  have q1 := rep_inv (f := holeS p) (I := fun t => SW p t ∧ Wo s t) ⟨h, Wo.rf⟩ (fun i t hi ht => ⟨(holeS_w ht.1 (pl i hi).1).1, ht.2.tr (holeS_w ht.1 (pl i hi).1).2⟩) _ (Nat.le_refl (p 0 2))
  have q2 := rep_inv (f := valvS p) (I := fun t => SW p t ∧ Wo s t) q1 (fun i t hi ht => ⟨(valvS_w ht.1 hi).1, ht.2.tr (valvS_w ht.1 hi).2⟩) _ (Nat.le_refl (p 0 0))
  have q3 := rep_inv (f := doorS p) (I := fun t => SW p t ∧ Wo s t) q2 (fun i t hi ht => ⟨(doorS_w hp hi ht.1).1, ht.2.tr (doorS_w hp hi ht.1).2⟩) _ (Nat.le_refl (p 0 1))
  exact rep_inv (f := pumpS p) (I := fun t => SW p t ∧ Wo s t) q3 (fun i t hi ht => ⟨(pumpS_w ht.1).1, ht.2.tr (pumpS_w ht.1).2⟩) _ (Nat.le_refl (p 0 3))
/-- what the water steps take as given of a state -/
def SF (p s : AS) : Prop := s 6 0 ≤ 12 ∧ (∀ h, h < p 0 0 → s 2 h ≤ 1) ∧ (∀ d, d < p 0 1 → s 3 d ≤ 1) ∧ (∀ i, i < p 0 2 → s 4 i ≤ 1) ∧ (∀ k, k < p 0 3 → s 5 k < p 0 0 ∨ s 5 k = 4294967292)
theorem SF_Wo {p s t : AS} (h : SF p s) (hw : Wo s t) : SF p t := by
  unfold SF
  rw [hw 6 (by decide), hw 2 (by decide), hw 3 (by decide), hw 4 (by decide), hw 5 (by decide)]
  exact h
theorem RC_z {p s t : AS} {m : Mm} {S : Nat} (h : RC p s m S) (e : ∀ a, a < 13 → s a = t a) : RC p t m S := fun j i hi => by
  rw [← e 6 (by decide)] at hi
  rw [h j i hi, e j (cnS_lt hi)]
theorem RC_size {p s : AS} {m : Mm} {S : Nat} (h : RC p s m S) : m (S + 6) 0 = nI (s 6 0) := h 6 0 Nat.one_pos
theorem PC_0 {p : AS} {m : Mm} {P : Nat} (h : PC p m P) : m P 0 = nI (p 0 0) := h 0 0 (by show 0 < 4; decide)
theorem PC_1 {p : AS} {m : Mm} {P : Nat} (h : PC p m P) : m P 1 = nI (p 0 1) := h 0 1 (by show 1 < 4; decide)
theorem PC_2 {p : AS} {m : Mm} {P : Nat} (h : PC p m P) : m P 2 = nI (p 0 2) := h 0 2 (by show 2 < 4; decide)
theorem PC_3 {p : AS} {m : Mm} {P : Nat} (h : PC p m P) : m P 3 = nI (p 0 3) := h 0 3 (by show 3 < 4; decide)
theorem RC_0 {p s : AS} {m : Mm} {S : Nat} (h : RC p s m S) : m S 0 = nI (s 0 0) := h 0 0 (by show 0 < 3; decide)
theorem RC_1 {p s : AS} {m : Mm} {S : Nat} (h : RC p s m S) : m S 1 = nI (s 0 1) := h 0 1 (by show 1 < 3; decide)
theorem RC_2 {p s : AS} {m : Mm} {S : Nat} (h : RC p s m S) : m S 2 = nI (s 0 2) := h 0 2 (by show 2 < 3; decide)
/-- a loop of the class over a state: each round does a step of the told one -/
theorem c_loop {ρ : Type} {p s : AS} {m : Mm} {S F n : Nat} {f : Nat → AS → AS} {I : AS → Prop} {b : Int32 × Mm → Option ((Int32 × Mm) ⊕ ρ)} {g : Mm → ρ} (hF : n < F) (hR : RC p s m S) (h0 : I s) (hstep : ∀ i t (m1 : Mm), i < n → I t → RC p t m1 S → FC S m m1 → ∃ m2, b (nI i, m1) = some (Sum.inl (nI (i + 1), m2)) ∧ RC p (f i t) m2 S ∧ FC S m1 m2 ∧ I (f i t)) (hend : ∀ t (m1 : Mm), I t → RC p t m1 S → FC S m m1 → b (nI n, m1) = some (Sum.inr (g m1))) : ∃ m2, iter F b ((0, m) : Int32 × Mm) = some (g m2) ∧ RC p (rep f n s) m2 S ∧ FC S m m2 ∧ I (rep f n s) := by
  obtain ⟨r, h1, m2, h2, h3, h4, h5⟩ := iter_P (b := b) (F := F) n (fun i x => ∃ m1, x = (nI i, m1) ∧ RC p (rep f i s) m1 S ∧ FC S m m1 ∧ I (rep f i s)) (fun r => ∃ m2, r = g m2 ∧ RC p (rep f n s) m2 S ∧ FC S m m2 ∧ I (rep f n s)) hF (by
    rintro i x hi ⟨m1, rfl, q1, q2, q3⟩
    obtain ⟨m2, w1, w2, w3, w4⟩ := hstep i _ m1 hi q3 q1 q2
    exact ⟨_, w1, m2, rfl, w2, q2.tr w3, w4⟩) (by
    rintro x ⟨m1, rfl, q1, q2, q3⟩
    exact ⟨_, hend _ m1 q3 q1 q2, m1, rfl, q1, q2, q3⟩) (x := (0, m)) ⟨m, rfl, hR, FC.rf, h0⟩
  exact ⟨m2, by rw [h1, h2], h3, h4, h5⟩
theorem c_holes {p s : AS} {m : Mm} {S Q F : Nat} (hS : isSt S) (hQ : isPl Q) (hp : PW p) (hP : PC p m Q) (hR : RC p s m S) (hw : SW p s) (hf : SF p s) (hF : 100 < F) : ∃ m', f_X7_comeThroughHoles F m S Q = some m' ∧ RC p (rep (holeS p) (p 0 2) s) m' S ∧ FC S m m' ∧ SW p (rep (holeS p) (p 0 2) s) ∧ Wo s (rep (holeS p) (p 0 2) s) := by
  obtain ⟨⟨l1, l2, l3, l4⟩, ph, pd, pl, pp, pr⟩ := id hp
  obtain ⟨m', h1, h2, h3, h4⟩ := c_loop (F := F) (n := p 0 2) (f := holeS p) (I := fun t => SW p t ∧ Wo s t) (b := b_X7_comeThroughHoles_2 S Q) (g := fun m => m) (by omega) hR ⟨hw, Wo.rf⟩ (by
    intro i t m1 hi ⟨ht, ht2⟩ hR1 hf1
    have hP1 := PC_FC hP hS hQ hf1
    have hft := SF_Wo hf ht2
    have a1 := (pl i hi).1
    have e1 := P_ld hP1 (N := 4) 11 i hi (by omega) (by decide)
    have e2 := C_ld hR1 (N := 8) 1 _ a1 (by omega) (by decide)
    have e3 := c_thru hp hP1 hR1 ht (hft.2.2.2.1 i hi) hi
    obtain ⟨m2, e4, h2, h3⟩ := C_st hR1 (N := 8) 1 (p 11 i) (t 1 (p 11 i) + come p t i) (by decide) (by decide) (by omega) (by decide)
    refine ⟨m2, ?_, h2, h3, (holeS_w ht a1).1, ht2.tr (holeS_w ht a1).2⟩
    have hc : ¬ nI (p 0 2) ≤ nI i := nI_ge hi (by omega)
    simp only [b_X7_comeThroughHoles_2, PC_2 hP1, hc, e1, e2, e3, nI_add, e4, Option.bind_some, ↓reduceIte, nI_1]) (by
    intro t m1 _ hR1 hf1
    have hP1 := PC_FC hP hS hQ hf1
    simp only [b_X7_comeThroughHoles_2, PC_2 hP1, Int32.le_refl, ↓reduceIte])
  exact ⟨m', by rw [f_X7_comeThroughHoles, h1]; rfl, h2, h3, h4⟩

/-! text: the word that begins a line, in both -/
theorem isW_4 {bs : Nat → Nat} {f e j a b c d : Nat} (hw : wdB j = [a, b, c, d]) : isW4 bs f e j ↔ (e - f = 4 ∧ bs f = a ∧ bs (f + 1) = b ∧ bs (f + 2) = c ∧ bs (f + 3) = d) := by
  unfold isW4
  rw [hw]
  constructor
  · rintro ⟨h1, h2⟩
    exact ⟨h1, h2 0 (by decide : 0 < 4), h2 1 (by decide : 1 < 4), h2 2 (by decide : 2 < 4), h2 3 (by decide : 3 < 4)⟩
  · rintro ⟨h1, h2, h3, h4, h5⟩
    refine ⟨h1, fun t ht => ?_⟩
    have ht' : t < 4 := ht
    have hc : t = 0 ∨ t = 1 ∨ t = 2 ∨ t = 3 := by omega
    rcases hc with rfl | rfl | rfl | rfl
    · exact h2
    · exact h3
    · exact h4
    · exact h5
theorem isW_5 {bs : Nat → Nat} {f e j a b c d g : Nat} (hw : wdB j = [a, b, c, d, g]) : isW4 bs f e j ↔ ((e - f = 5 ∧ bs f = a ∧ bs (f + 1) = b ∧ bs (f + 2) = c ∧ bs (f + 3) = d) ∧ bs (f + 4) = g) := by
  unfold isW4
  rw [hw]
  constructor
  · rintro ⟨h1, h2⟩
    exact ⟨⟨h1, h2 0 (by decide : 0 < 5), h2 1 (by decide : 1 < 5), h2 2 (by decide : 2 < 5), h2 3 (by decide : 3 < 5)⟩, h2 4 (by decide : 4 < 5)⟩
  · rintro ⟨⟨h1, h2, h3, h4, h5⟩, h6⟩
    refine ⟨h1, fun t ht => ?_⟩
    have ht' : t < 5 := ht
    have hc : t = 0 ∨ t = 1 ∨ t = 2 ∨ t = 3 ∨ t = 4 := by omega
    rcases hc with rfl | rfl | rfl | rfl | rfl
    · exact h2
    · exact h3
    · exact h4
    · exact h5
    · exact h6
/-- a word of four letters, a word of five: both sides -/
def w4t (o g k : Option Int32) : Option Int32 := o.bind fun x => if x = 0 then g else k
def w5t (o l : Option Int32) (v : Int32) (g : Option Int32) : Option Int32 := o.bind fun x => if x = 0 then g else l.bind fun z => if z = (115 : Int32) then some v else g
def Z4 (bs : Nat → Nat) (f e j : Nat) (oc om : Option Int32) : Prop := (isW4 bs f e j ∧ oc = some 1 ∧ (∀ g k, w4t oc g k = k) ∧ ∀ g k, w4t om g k = k) ∨ (¬ isW4 bs f e j ∧ oc = some 0 ∧ (∀ g k, w4t oc g k = g) ∧ ∀ g k, w4t om g k = g)
def Z5 (bs : Nat → Nat) (f e j : Nat) (oc om l : Option Int32) : Prop := (isW4 bs f e j ∧ oc = some 1 ∧ (∀ g k, w4t oc g k = k) ∧ ∀ v g, w5t om l v g = some v) ∨ (¬ isW4 bs f e j ∧ oc = some 0 ∧ (∀ g k, w4t oc g k = g) ∧ ∀ v g, w5t om l v g = g)
theorem w4t_1 {o : Option Int32} (h : o = some 1) (g k : Option Int32) : w4t o g k = k := by
  unfold w4t
  rw [h, Option.bind_some, if_neg n10]
theorem w4t_0 {o : Option Int32} (h : o = some 0) (g k : Option Int32) : w4t o g k = g := by
  unfold w4t
  rw [h, Option.bind_some, if_pos rfl]
theorem Z4_of {n : Nat} {bs : Nat → Nat} {mc mr : Mm} {F pos f e a b c d : Nat} (hF : 5000 ≤ F) (hn : n ≤ 400) (hb : ∀ i, i < n → bs i < 256) (hC : CAt n bs pos f 2 e mc) (hM : MAt n bs f 2 e mr) (j : Nat) (hj : j < 10) (hw : wdB j = [a, b, c, d]) (ha : a < 256 ∧ b < 256 ∧ c < 256 ∧ d < 256) : Z4 bs f e j (f_X2_spells F mc (UInt32.ofNat j)) (f_X9_is mr (nI 4) (nI a) (nI b) (nI c) (nI d)) := by
  obtain ⟨hB, ht, r7, r8, r9⟩ := hC
  obtain ⟨g1, g2, g3, g4⟩ := TK_lt ht (by decide)
  have gd : ∀ i, f ≤ i → i < e → kdB (bs i) = 2 := by
    rcases TK_k ht with w | ⟨-, -, -, w⟩ | w | w
    · omega
    · exact w
    · omega
    · omega
  have hs := c_spells (F := F) hF hn hb hB hj r9 r7 r8 g3 g4 gd
  have hi := m_is (L := 4) hn hb hM.1 (hM.2.2.2.1 (by decide)) hM.2.1 g3 g4 (by decide) (by decide) ha.1 ha.2.1 ha.2.2.1 ha.2.2.2
  rw [← isW_4 hw] at hi
  rcases hs with ⟨w, s⟩ | ⟨w, s⟩
  · rcases hi with ⟨-, i⟩ | ⟨w2, -⟩
    · exact Or.inl ⟨w, s, w4t_1 s, w4t_1 i⟩
    · exact absurd w w2
  · rcases hi with ⟨w2, -⟩ | ⟨-, i⟩
    · exact absurd w2 w
    · exact Or.inr ⟨w, s, w4t_0 s, w4t_0 i⟩
theorem Z5_of {n : Nat} {bs : Nat → Nat} {mc mr : Mm} {F pos f e a b c d : Nat} (hF : 5000 ≤ F) (hn : n ≤ 400) (hb : ∀ i, i < n → bs i < 256) (hC : CAt n bs pos f 2 e mc) (hM : MAt n bs f 2 e mr) (j : Nat) (hj : j < 10) (hw : wdB j = [a, b, c, d, 115]) (ha : a < 256 ∧ b < 256 ∧ c < 256 ∧ d < 256) : Z5 bs f e j (f_X2_spells F mc (UInt32.ofNat j)) (f_X9_is mr (nI 5) (nI a) (nI b) (nI c) (nI d)) (f_X9_look mr (mr 113 24 + nI 4)) := by
  obtain ⟨hB, ht, r7, r8, r9⟩ := hC
  obtain ⟨g1, g2, g3, g4⟩ := TK_lt ht (by decide)
  have gd : ∀ i, f ≤ i → i < e → kdB (bs i) = 2 := by
    rcases TK_k ht with w | ⟨-, -, -, w⟩ | w | w
    · omega
    · exact w
    · omega
    · omega
  have hs := c_spells (F := F) hF hn hb hB hj r9 r7 r8 g3 g4 gd
  have hi := m_is (L := 5) hn hb hM.1 (hM.2.2.2.1 (by decide)) hM.2.1 g3 g4 (by decide) (by decide) ha.1 ha.2.1 ha.2.2.1 ha.2.2.2
  have hk : e - f = 5 → f_X9_look mr (mr 113 24 + nI 4) = some (nI (bs (f + 4))) := fun q => by
    rw [hM.2.1, nI_add]
    exact m_look hM.1 hn (by omega)
  rcases hs with ⟨w, s⟩ | ⟨w, s⟩
  · have w' := (isW_5 hw).mp w
    rcases hi with ⟨-, i⟩ | ⟨w2, -⟩
    · refine Or.inl ⟨w, s, w4t_1 s, fun v g => ?_⟩
      unfold w5t
      rw [i, Option.bind_some, if_neg n10, hk w'.1.1, w'.2, Option.bind_some]
      exact if_pos rfl
    · exact absurd w'.1 w2
  · refine Or.inr ⟨w, s, w4t_0 s, fun v g => ?_⟩
    unfold w5t
    rcases hi with ⟨w2, i⟩ | ⟨-, i⟩
    · have n115 : ¬ nI (bs (f + 4)) = (115 : Int32) := fun q => w ((isW_5 hw).mpr ⟨w2, by
        have hb4 := hb (f + 4) (by omega)
        rw [show (115 : Int32) = nI 115 from rfl, nq (by omega) (by decide)] at q
        exact q⟩)
      rw [i, Option.bind_some, if_neg n10, hk w2.1, Option.bind_some, if_neg n115]
    · rw [i, Option.bind_some, if_pos rfl]
def LNm (x y : Int32) : Prop := (x = 5 ∧ y = 10) ∨ (x = 6 ∧ y = 11) ∨ (x = 7 ∧ y = 12) ∨ (x = 8 ∧ y = 13) ∨ (x = 0 ∧ y = 0) ∨ (x = 1 ∧ y = 1) ∨ (x = 2 ∧ y = 2) ∨ (x = 3 ∧ y = 3) ∨ (x = 4 ∧ y = 4) ∨ (x = -4 ∧ (y = -4 ∨ y = 14))
theorem ln_eq (F : Nat) (m : Mm) : f_X2_lineBegun F m = w4t (f_X2_spells F m (UInt32.ofNat 0)) (w4t (f_X2_spells F m (UInt32.ofNat 1)) (w4t (f_X2_spells F m (UInt32.ofNat 2)) (w4t (f_X2_spells F m (UInt32.ofNat 3)) (w4t (f_X2_spells F m (UInt32.ofNat 4)) (w4t (f_X2_spells F m (UInt32.ofNat 5)) (w4t (f_X2_spells F m (UInt32.ofNat 6)) (w4t (f_X2_spells F m (UInt32.ofNat 7)) (w4t (f_X2_spells F m (UInt32.ofNat 8)) (some (-4)) (some 4)) (some 3)) (some 2)) (some 1)) (some 0)) (some 8)) (some 7)) (some 6)) (some 5) := rfl
theorem nm_eq (m : Mm) : f_X9_nameNow m = w4t (f_X9_is m 4 104 111 108 100) (w4t (f_X9_is m 4 100 111 111 114) (w4t (f_X9_is m 4 104 111 108 101) (w4t (f_X9_is m 4 112 117 109 112) (w5t (f_X9_is m 5 99 114 101 119) (f_X9_look m (m 113 24 + 4)) 0 (w5t (f_X9_is m 5 115 105 110 107) (f_X9_look m (m 113 24 + 4)) 1 (w5t (f_X9_is m 5 108 105 115 116) (f_X9_look m (m 113 24 + 4)) 2 (w5t (f_X9_is m 5 116 114 105 109) (f_X9_look m (m 113 24 + 4)) 3 (w4t (f_X9_is m 4 115 97 102 101) (w4t (f_X9_is m 4 115 104 117 116) (some (-4)) (some 14)) (some 4)))))) (some 13)) (some 12)) (some 11)) (some 10) := rfl
theorem ex9 {bs : Nat → Nat} {f e : Nat} (h : isW4 bs f e 9) : ∀ j, j < 9 → ¬ isW4 bs f e j := by
  obtain ⟨h0, h1, h2, h3, h4⟩ := (isW_4 (j := 9) (a := 115) (b := 104) (c := 117) (d := 116) rfl).mp h
  intro j hj w
  have hc : j = 0 ∨ j = 1 ∨ j = 2 ∨ j = 3 ∨ j = 4 ∨ j = 5 ∨ j = 6 ∨ j = 7 ∨ j = 8 := by omega
  rcases hc with rfl | rfl | rfl | rfl | rfl | rfl | rfl | rfl | rfl
  · have := ((isW_4 (j := 0) rfl).mp w).2.1; omega
  · have := ((isW_4 (j := 1) rfl).mp w).2.1; omega
  · have := ((isW_4 (j := 2) rfl).mp w).2.1; omega
  · have := ((isW_4 (j := 3) rfl).mp w).2.1; omega
  · have := ((isW_5 (j := 4) rfl).mp w).1.1; omega
  · have := ((isW_5 (j := 5) rfl).mp w).1.1; omega
  · have := ((isW_5 (j := 6) rfl).mp w).1.1; omega
  · have := ((isW_5 (j := 7) rfl).mp w).1.1; omega
  · have := ((isW_4 (j := 8) rfl).mp w).2.2.1; omega
theorem zt_name {n : Nat} {bs : Nat → Nat} {mc mr : Mm} {F pos f e : Nat} (hF : 5000 ≤ F) (hn : n ≤ 400) (hb : ∀ i, i < n → bs i < 256) (hC : CAt n bs pos f 2 e mc) (hM : MAt n bs f 2 e mr) : ∃ x y, f_X2_lineBegun F mc = some x ∧ f_X9_nameNow mr = some y ∧ LNm x y ∧ ((y = 14 ∧ f_X2_spells F mc (UInt32.ofNat 9) = some 1) ∨ (¬ y = 14 ∧ f_X2_spells F mc (UInt32.ofNat 9) = some 0)) := by
  have h0 : Z4 bs f e 0 (f_X2_spells F mc (UInt32.ofNat 0)) (f_X9_is mr 4 104 111 108 100) := Z4_of hF hn hb hC hM 0 (by decide) rfl (by decide)
  have h1 : Z4 bs f e 1 (f_X2_spells F mc (UInt32.ofNat 1)) (f_X9_is mr 4 100 111 111 114) := Z4_of hF hn hb hC hM 1 (by decide) rfl (by decide)
  have h2 : Z4 bs f e 2 (f_X2_spells F mc (UInt32.ofNat 2)) (f_X9_is mr 4 104 111 108 101) := Z4_of hF hn hb hC hM 2 (by decide) rfl (by decide)
  have h3 : Z4 bs f e 3 (f_X2_spells F mc (UInt32.ofNat 3)) (f_X9_is mr 4 112 117 109 112) := Z4_of hF hn hb hC hM 3 (by decide) rfl (by decide)
  have h4 : Z5 bs f e 4 (f_X2_spells F mc (UInt32.ofNat 4)) (f_X9_is mr 5 99 114 101 119) (f_X9_look mr (mr 113 24 + 4)) := Z5_of hF hn hb hC hM 4 (by decide) rfl (by decide)
  have h5 : Z5 bs f e 5 (f_X2_spells F mc (UInt32.ofNat 5)) (f_X9_is mr 5 115 105 110 107) (f_X9_look mr (mr 113 24 + 4)) := Z5_of hF hn hb hC hM 5 (by decide) rfl (by decide)
  have h6 : Z5 bs f e 6 (f_X2_spells F mc (UInt32.ofNat 6)) (f_X9_is mr 5 108 105 115 116) (f_X9_look mr (mr 113 24 + 4)) := Z5_of hF hn hb hC hM 6 (by decide) rfl (by decide)
  have h7 : Z5 bs f e 7 (f_X2_spells F mc (UInt32.ofNat 7)) (f_X9_is mr 5 116 114 105 109) (f_X9_look mr (mr 113 24 + 4)) := Z5_of hF hn hb hC hM 7 (by decide) rfl (by decide)
  have h8 : Z4 bs f e 8 (f_X2_spells F mc (UInt32.ofNat 8)) (f_X9_is mr 4 115 97 102 101) := Z4_of hF hn hb hC hM 8 (by decide) rfl (by decide)
  have h9 : Z4 bs f e 9 (f_X2_spells F mc (UInt32.ofNat 9)) (f_X9_is mr 4 115 104 117 116) := Z4_of hF hn hb hC hM 9 (by decide) rfl (by decide)
  have no9 : ∀ j, j < 9 → isW4 bs f e j → f_X2_spells F mc (UInt32.ofNat 9) = some 0 := fun j hj w => by
    rcases h9 with ⟨w9, -⟩ | ⟨-, s, -⟩
    · exact absurd w (ex9 w9 j hj)
    · exact s
  rw [ln_eq, nm_eq]
  rcases h0 with ⟨w0, -, c0, m0⟩ | ⟨w0, -, c0, m0⟩
  · exact ⟨5, 10, c0 _ _, m0 _ _, Or.inl ⟨rfl, rfl⟩, Or.inr ⟨by decide, no9 0 (by decide) w0⟩⟩
  rw [c0, m0]
  rcases h1 with ⟨w1, -, c1, m1⟩ | ⟨w1, -, c1, m1⟩
  · exact ⟨6, 11, c1 _ _, m1 _ _, Or.inr (Or.inl ⟨rfl, rfl⟩), Or.inr ⟨by decide, no9 1 (by decide) w1⟩⟩
  rw [c1, m1]
  rcases h2 with ⟨w2, -, c2, m2⟩ | ⟨w2, -, c2, m2⟩
  · exact ⟨7, 12, c2 _ _, m2 _ _, Or.inr (Or.inr (Or.inl ⟨rfl, rfl⟩)), Or.inr ⟨by decide, no9 2 (by decide) w2⟩⟩
  rw [c2, m2]
  rcases h3 with ⟨w3, -, c3, m3⟩ | ⟨w3, -, c3, m3⟩
  · exact ⟨8, 13, c3 _ _, m3 _ _, Or.inr (Or.inr (Or.inr (Or.inl ⟨rfl, rfl⟩))), Or.inr ⟨by decide, no9 3 (by decide) w3⟩⟩
  rw [c3, m3]
  rcases h4 with ⟨w4, -, c4, m4⟩ | ⟨w4, -, c4, m4⟩
  · exact ⟨0, 0, c4 _ _, m4 _ _, Or.inr (Or.inr (Or.inr (Or.inr (Or.inl ⟨rfl, rfl⟩)))), Or.inr ⟨by decide, no9 4 (by decide) w4⟩⟩
  rw [c4, m4]
  rcases h5 with ⟨w5, -, c5, m5⟩ | ⟨w5, -, c5, m5⟩
  · exact ⟨1, 1, c5 _ _, m5 _ _, Or.inr (Or.inr (Or.inr (Or.inr (Or.inr (Or.inl ⟨rfl, rfl⟩))))), Or.inr ⟨by decide, no9 5 (by decide) w5⟩⟩
  rw [c5, m5]
  rcases h6 with ⟨w6, -, c6, m6⟩ | ⟨w6, -, c6, m6⟩
  · exact ⟨2, 2, c6 _ _, m6 _ _, Or.inr (Or.inr (Or.inr (Or.inr (Or.inr (Or.inr (Or.inl ⟨rfl, rfl⟩)))))), Or.inr ⟨by decide, no9 6 (by decide) w6⟩⟩
  rw [c6, m6]
  rcases h7 with ⟨w7, -, c7, m7⟩ | ⟨w7, -, c7, m7⟩
  · exact ⟨3, 3, c7 _ _, m7 _ _, Or.inr (Or.inr (Or.inr (Or.inr (Or.inr (Or.inr (Or.inr (Or.inl ⟨rfl, rfl⟩))))))), Or.inr ⟨by decide, no9 7 (by decide) w7⟩⟩
  rw [c7, m7]
  rcases h8 with ⟨w8, -, c8, m8⟩ | ⟨w8, -, c8, m8⟩
  · exact ⟨4, 4, c8 _ _, m8 _ _, Or.inr (Or.inr (Or.inr (Or.inr (Or.inr (Or.inr (Or.inr (Or.inr (Or.inl ⟨rfl, rfl⟩)))))))), Or.inr ⟨by decide, no9 8 (by decide) w8⟩⟩
  rw [c8, m8]
  rcases h9 with ⟨w9, s9, c9, m9⟩ | ⟨w9, s9, c9, m9⟩
  · exact ⟨-4, 14, rfl, m9 _ _, Or.inr (Or.inr (Or.inr (Or.inr (Or.inr (Or.inr (Or.inr (Or.inr (Or.inr (⟨rfl, Or.inr rfl⟩))))))))), Or.inl ⟨rfl, s9⟩⟩
  · exact ⟨-4, -4, rfl, m9 _ _, Or.inr (Or.inr (Or.inr (Or.inr (Or.inr (Or.inr (Or.inr (Or.inr (Or.inr (⟨rfl, Or.inl rfl⟩))))))))), Or.inr ⟨by decide, s9⟩⟩
/-- where no word stands -/
theorem spells_no {F : Nat} {m : Mm} {a : UInt32} (h : ¬ m 1 9 = (2 : Int32)) : f_X2_spells F m a = some 0 := by unfold f_X2_spells; rw [if_neg h]
theorem line_no {F : Nat} {m : Mm} (h : ¬ m 1 9 = (2 : Int32)) : f_X2_lineBegun F m = some (-4) := by
  rw [ln_eq, w4t_0 (spells_no h), w4t_0 (spells_no h), w4t_0 (spells_no h), w4t_0 (spells_no h), w4t_0 (spells_no h), w4t_0 (spells_no h), w4t_0 (spells_no h), w4t_0 (spells_no h), w4t_0 (spells_no h)]
/-- a word read by the class alone, behind a fault -/
theorem spells_any {n : Nat} {bs : Nat → Nat} {mc : Mm} {F pos f k e : Nat} (hF : 5000 ≤ F) (hn : n ≤ 400) (hb : ∀ i, i < n → bs i < 256) (hC : CAt n bs pos f k e mc) {j : Nat} (hj : j < 10) : f_X2_spells F mc (UInt32.ofNat j) = some 1 ∨ f_X2_spells F mc (UInt32.ofNat j) = some 0 := by
  obtain ⟨hB, ht, r7, r8, r9⟩ := hC
  have k2 : (nI k = (2 : Int32)) = (k = 2) := nq (c := 2) (by have := TK_k5 ht; omega) (by decide)
  by_cases q : k = 2
  · subst q
    obtain ⟨g1, g2, g3, g4⟩ := TK_lt ht (by decide)
    have gd : ∀ i, f ≤ i → i < e → kdB (bs i) = 2 := by
      rcases TK_k ht with w | ⟨-, -, -, w⟩ | w | w
      · omega
      · exact w
      · omega
      · omega
    rcases c_spells (F := F) hF hn hb hB hj r9 r7 r8 g3 g4 gd with ⟨-, s⟩ | ⟨-, s⟩
    · exact Or.inl s
    · exact Or.inr s
  · exact Or.inr (spells_no (by rw [r9, k2]; exact q))

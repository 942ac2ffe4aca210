theorem c_copyF {p s : AS} {m : Mm} {S S2 : Nat} (hS : isSt S) (hS2 : isSt S2) (hne : S ≠ S2) (hp : PL p) (hz : s 6 0 ≤ 12) (hR : RC p s m S2) : ∃ m', f_X7_copyFrom m S S2 = some m' ∧ RC p s m' S ∧ FC S m m' := by
  obtain ⟨m2, h1, h2, h3⟩ := c_copyW hS hS2 hne hp hR
  have hd : ∀ {m' : Mm}, FC S m m' → ∀ j, j < 14 → m' (S2 + j) = m (S2 + j) := fun hf j hj => hf.1 _ (stst hS hS2 hne hj)
  have h0 : RCz p (s 6 0) (fun j i => if 7 ≤ j ∧ j ≤ 12 then co (m2 (S + j) i) else frS s j i) m2 S := by
    intro j i hi
    by_cases q : 7 ≤ j ∧ j ≤ 12
    · simp only [if_pos q, nI_co]
    · simp only [if_neg q]
      refine h2 j i ?_
      have hj := cnS_lt hi
      have : j = 0 ∨ j = 1 ∨ j = 2 ∨ j = 3 ∨ j = 4 ∨ j = 5 ∨ j = 6 := by omega
      rcases this with rfl | rfl | rfl | rfl | rfl | rfl | rfl <;> exact hi
  obtain ⟨k2, k3⟩ := Cz_put h0 6 0 (s 6 0) (by decide)
  have f3 := h3.tr k3
  generalize hm3 : up2 m2 (S + 6) 0 (nI (s 6 0)) = m3 at k2 k3 f3
  obtain ⟨d2, d3⟩ := Cz_row k2 7 (s 7) (fun j => if j < s 6 0 then m3 (S2 + 7) j else m3 (S + 7) j) (by decide) (by decide) (fun i hi => by
    have hi' : i < s 6 0 := hi
    rw [if_pos hi', hd f3 7 (by decide)]; exact hR 7 i hi')
  have f4 := f3.tr d3
  generalize hm4 : upA m3 (S + 7) (fun j => if j < s 6 0 then m3 (S2 + 7) j else m3 (S + 7) j) = m4 at d2 d3 f4
  obtain ⟨e2, e3⟩ := Cz_row d2 8 (s 8) (fun j => if j < s 6 0 then m4 (S2 + 8) j else m4 (S + 8) j) (by decide) (by decide) (fun i hi => by
    have hi' : i < s 6 0 := hi
    rw [if_pos hi', hd f4 8 (by decide)]; exact hR 8 i hi')
  have f5 := f4.tr e3
  generalize hm5 : upA m4 (S + 8) (fun j => if j < s 6 0 then m4 (S2 + 8) j else m4 (S + 8) j) = m5 at e2 e3 f5
  obtain ⟨g2, g3⟩ := Cz_row e2 9 (s 9) (fun j => if j < s 6 0 then m5 (S2 + 9) j else m5 (S + 9) j) (by decide) (by decide) (fun i hi => by
    have hi' : i < s 6 0 := hi
    rw [if_pos hi', hd f5 9 (by decide)]; exact hR 9 i hi')
  have f6 := f5.tr g3
  generalize hm6 : upA m5 (S + 9) (fun j => if j < s 6 0 then m5 (S2 + 9) j else m5 (S + 9) j) = m6 at g2 g3 f6
  obtain ⟨i2, i3⟩ := Cz_row g2 10 (s 10) (fun j => if j < s 6 0 then m6 (S2 + 10) j else m6 (S + 10) j) (by decide) (by decide) (fun i hi => by
    have hi' : i < s 6 0 := hi
    rw [if_pos hi', hd f6 10 (by decide)]; exact hR 10 i hi')
  have f7 := f6.tr i3
  generalize hm7 : upA m6 (S + 10) (fun j => if j < s 6 0 then m6 (S2 + 10) j else m6 (S + 10) j) = m7 at i2 i3 f7
  obtain ⟨j2, j3⟩ := Cz_row i2 11 (s 11) (fun j => if j < s 6 0 then m7 (S2 + 11) j else m7 (S + 11) j) (by decide) (by decide) (fun i hi => by
    have hi' : i < s 6 0 := hi
    rw [if_pos hi', hd f7 11 (by decide)]; exact hR 11 i hi')
  have f8 := f7.tr j3
  generalize hm8 : upA m7 (S + 11) (fun j => if j < s 6 0 then m7 (S2 + 11) j else m7 (S + 11) j) = m8 at j2 j3 f8
  obtain ⟨l2, l3⟩ := Cz_row j2 12 (s 12) (fun j => if j < s 6 0 then m8 (S2 + 12) j else m8 (S + 12) j) (by decide) (by decide) (fun i hi => by
    have hi' : i < s 6 0 := hi
    rw [if_pos hi', hd f8 12 (by decide)]; exact hR 12 i hi')
  refine ⟨_, ?_, ?_, f8.tr l3⟩
  · have z2 : m2 (S2 + 6) 0 = nI (s 6 0) := by rw [hd h3 6 (by decide)]; exact RC_size hR
    have z : ∀ (m' : Mm), RCz p (s 6 0) (u3 (fun j i => if 7 ≤ j ∧ j ≤ 12 then co (m2 (S + j) i) else frS s j i) 6 0 (s 6 0)) m' S → m' (S + 6) 0 = nI (s 6 0) := fun m' h => by
      rw [h 6 0 (by show 0 < 1; decide), u3_same]
    have z3 : m3 (S + 6) 0 = nI (s 6 0) := by rw [k2 6 0 (by show 0 < 1; decide), u3_same]
    have z4 : m4 (S + 6) 0 = nI (s 6 0) := by rw [← hm4, upA_ne (by omega)]; exact z3
    have z5 : m5 (S + 6) 0 = nI (s 6 0) := by rw [← hm5, upA_ne (by omega)]; exact z4
    have z6 : m6 (S + 6) 0 = nI (s 6 0) := by rw [← hm6, upA_ne (by omega)]; exact z5
    have z7 : m7 (S + 6) 0 = nI (s 6 0) := by rw [← hm7, upA_ne (by omega)]; exact z6
    have z8 : m8 (S + 6) 0 = nI (s 6 0) := by rw [← hm8, upA_ne (by omega)]; exact z7
    have hlt : s 6 0 < 2 ^ 31 := by omega
    unfold f_X7_copyFrom
    rw [h1, Option.bind_some]
    unfold f_X0_copyFrom
    rw [letv_eq, z2, hm3, z3, acopy_n hz hz hlt, Option.bind_some, show S2 + 6 + 1 = S2 + 7 from rfl, show S + 6 + 1 = S + 7 from rfl, hm4, z4, acopy_n hz hz hlt, Option.bind_some, show S2 + 6 + 2 = S2 + 8 from rfl, show S + 6 + 2 = S + 8 from rfl, hm5, z5, acopy_n hz hz hlt, Option.bind_some, show S2 + 6 + 3 = S2 + 9 from rfl, show S + 6 + 3 = S + 9 from rfl, hm6, z6, acopy_n hz hz hlt, Option.bind_some, show S2 + 6 + 4 = S2 + 10 from rfl, show S + 6 + 4 = S + 10 from rfl, hm7, z7, acopy_n hz hz hlt, Option.bind_some, show S2 + 6 + 5 = S2 + 11 from rfl, show S + 6 + 5 = S + 11 from rfl, hm8, z8, acopy_n hz hz hlt, Option.bind_some, show S2 + 6 + 6 = S2 + 12 from rfl, show S + 6 + 6 = S + 12 from rfl]
    rfl
  · refine RC_zz (RCz_eq l2 (fun j i hi => ?_))
    have hj := cnS_lt hi
    have : j = 0 ∨ j = 1 ∨ j = 2 ∨ j = 3 ∨ j = 4 ∨ j = 5 ∨ j = 6 ∨ j = 7 ∨ j = 8 ∨ j = 9 ∨ j = 10 ∨ j = 11 ∨ j = 12 := by omega
    rcases this with rfl | rfl | rfl | rfl | rfl | rfl | rfl | rfl | rfl | rfl | rfl | rfl | rfl
    · simp [u3, uR, frS]
    · simp [u3, uR, frS]
    · simp [u3, uR, frS]
    · simp [u3, uR, frS]
    · simp [u3, uR, frS]
    · simp [u3, uR, frS]
    · have hi' : i < 1 := hi
      have : i = 0 := by omega
      subst this
      simp [u3, uR]
    · simp [uR]
    · simp [uR]
    · simp [uR]
    · simp [uR]
    · simp [uR]
    · simp [uR]
/-- the state with which a plan begins, before it is looked at -/
def iniS (p : AS) : AS := fun j i => if j = 1 then p 4 i else if j = 3 then p 10 i else if j = 5 then p 15 i else 0
theorem fill_n {m : Mm} {a N : Nat} {v : Int32} : f_J7_fill m a N v = some (upA m a (fun i => if i < N then v else m a i)) := rfl
theorem seeS_any {p s : AS} {v w : Nat} : seeS p (u3 (u3 s 0 1 v) 0 2 w) = seeS p s := by
  unfold seeS
  rw [u3_r (a := 1) (by decide), u3_r (a := 1) (by decide)]
  funext a b
  simp only [u3]
  by_cases h2 : a = 0 ∧ b = 2
  · simp [h2]
  · by_cases h1 : a = 0 ∧ b = 1
    · simp [h1]
    · simp [h1, h2]
theorem c_start {p : AS} {m : Mm} {S Q F : Nat} (hS : isSt S) (hQ : isPl Q) (hp : PW p) (hP : PC p m Q) (hF : 100 < F) : ∃ m', f_X7_startFrom F m S Q = some m' ∧ RC p (seeS p (iniS p)) m' S ∧ FC S m m' := by
  obtain ⟨⟨l1, l2, l3, l4⟩, -⟩ := id hp
  have hd : ∀ {m' : Mm}, FC S m m' → ∀ j, j < 17 → m' (Q + j) = m (Q + j) := fun hf j hj => hf.1 _ (stpl hS hQ hj)
  have h0 : RCz p 0 (fun j i => co (m (S + j) i)) m S := fun j i _ => (nI_co _).symm
  obtain ⟨a2, a3⟩ := Cz_put h0 0 0 0 (by decide)
  have f3 := a3
  generalize hm3 : up2 m (S + 0) 0 (nI 0) = m3 at a2 a3 f3
  obtain ⟨d2, d3⟩ := Cz_row a2 1 (p 4) (fun j => if j < 8 then m3 (Q + 4) j else m3 (S + 1) j) (by decide) (by decide) (fun i hi => by
    have hi' : i < p 0 0 := hi
    rw [if_pos (by omega), hd f3 4 (by decide)]; exact hP 4 i hi')
  have f4 := f3.tr d3
  generalize hm4 : upA m3 (S + 1) (fun j => if j < 8 then m3 (Q + 4) j else m3 (S + 1) j) = m4 at d2 d3 f4
  obtain ⟨e2, e3⟩ := Cz_row d2 3 (p 10) (fun j => if j < 10 then m4 (Q + 10) j else m4 (S + 3) j) (by decide) (by decide) (fun i hi => by
    have hi' : i < p 0 1 := hi
    rw [if_pos (by omega), hd f4 10 (by decide)]; exact hP 10 i hi')
  have f5 := f4.tr e3
  generalize hm5 : upA m4 (S + 3) (fun j => if j < 10 then m4 (Q + 10) j else m4 (S + 3) j) = m5 at e2 e3 f5
  obtain ⟨g2, g3⟩ := Cz_row e2 5 (p 15) (fun j => if j < 3 then m5 (Q + 15) j else m5 (S + 5) j) (by decide) (by decide) (fun i hi => by
    have hi' : i < p 0 3 := hi
    rw [if_pos (by omega), hd f5 15 (by decide)]; exact hP 15 i hi')
  have f6 := f5.tr g3
  generalize hm6 : upA m5 (S + 5) (fun j => if j < 3 then m5 (Q + 15) j else m5 (S + 5) j) = m6 at g2 g3 f6
  obtain ⟨i2, i3⟩ := Cz_row g2 2 (fun _ => 0) (fun i => if i < 8 then 0 else m6 (S + 2) i) (by decide) (by decide) (fun i hi => by
    have hi' : i < p 0 0 := hi
    rw [if_pos (by omega)]; rfl)
  have f7 := f6.tr i3
  generalize hm7 : upA m6 (S + 2) (fun i => if i < 8 then 0 else m6 (S + 2) i) = m7 at i2 i3 f7
  obtain ⟨j2, j3⟩ := Cz_row i2 4 (fun _ => 0) (fun i => if i < 4 then 0 else m7 (S + 4) i) (by decide) (by decide) (fun i hi => by
    have hi' : i < p 0 2 := hi
    rw [if_pos (by omega)]; rfl)
  have f8 := f7.tr j3
  generalize hm8 : upA m7 (S + 4) (fun i => if i < 4 then 0 else m7 (S + 4) i) = m8 at j2 j3 f8
  obtain ⟨k2, k3⟩ := Cz_put j2 6 0 0 (by decide)
  have f9 := f8.tr k3
  have hR : RC p (u3 (u3 (iniS p) 0 1 (co (m S 1))) 0 2 (co (m S 2))) (up2 m8 (S + 6) 0 (nI 0)) S := by
    unfold RC
    rw [show u3 (u3 (iniS p) 0 1 (co (m S 1))) 0 2 (co (m S 2)) 6 0 = 0 from rfl]
    refine RCz_eq k2 (fun j i hi => ?_)
    have hj := cnS_lt hi
    have : j = 0 ∨ j = 1 ∨ j = 2 ∨ j = 3 ∨ j = 4 ∨ j = 5 ∨ j = 6 ∨ j = 7 ∨ j = 8 ∨ j = 9 ∨ j = 10 ∨ j = 11 ∨ j = 12 := by omega
    rcases this with rfl | rfl | rfl | rfl | rfl | rfl | rfl | rfl | rfl | rfl | rfl | rfl | rfl
    · have hi' : i < 3 := hi
      have : i = 0 ∨ i = 1 ∨ i = 2 := by omega
      rcases this with rfl | rfl | rfl <;> simp [u3, uR, iniS]
    · simp [u3, uR, iniS]
    · simp [u3, uR, iniS]
    · simp [u3, uR, iniS]
    · simp [u3, uR, iniS]
    · simp [u3, uR, iniS]
    · have hi' : i < 1 := hi
      have : i = 0 := by omega
      subst this
      simp [u3, iniS]
    · exact absurd hi (Nat.not_lt_zero i)
    · exact absurd hi (Nat.not_lt_zero i)
    · exact absurd hi (Nat.not_lt_zero i)
    · exact absurd hi (Nat.not_lt_zero i)
    · exact absurd hi (Nat.not_lt_zero i)
    · exact absurd hi (Nat.not_lt_zero i)
  obtain ⟨m9, n1, n2, n3, -⟩ := c_see hS hQ hp (PC_FC hP hS hQ f9) hR hF
  rw [seeS_any] at n2
  refine ⟨m9, ?_, n2, f9.tr n3⟩
  unfold f_X7_startFrom
  rw [letv_eq, show up2 m S 0 0 = m3 from hm3]
  rw [show (8 : Int32) = nI 8 from rfl, show (10 : Int32) = nI 10 from rfl, show (3 : Int32) = nI 3 from rfl, acopy_n (by decide) (by decide) (by decide), Option.bind_some, hm4, acopy_n (by decide) (by decide) (by decide), Option.bind_some, hm5, acopy_n (by decide) (by decide) (by decide), Option.bind_some, hm6, fill_n, Option.bind_some, hm7, fill_n, Option.bind_some, hm8, letv_eq, show (0 : Int32) = nI 0 from rfl, n1]
  rfl
theorem iniS_I {p : AS} (hp : PW p) : SW p (iniS p) ∧ SO p 0 (iniS p) := by
  obtain ⟨⟨l1, l2, l3, l4⟩, ph, pd, pl, pp, pr⟩ := id hp
  refine ⟨fun h hh => ?_, ?_⟩
  · have := ph h hh
    show p 4 h ≤ p 1 h
    omega
  · refine ⟨by show 0 ≤ 12; omega, fun h hh => by show 0 ≤ 1; omega, fun d hd => ?_, fun i hi => ?_, fun k hk => ?_, fun k hk => ?_, rfl, Nat.le_refl _⟩
    · refine ⟨?_, by show 0 ≤ 1; omega, rfl⟩
      have := pd d hd
      show p 10 d ≤ 1
      omega
    · exact ⟨by show 0 ≤ 1; omega, by show 0 ≤ 1; omega, rfl⟩
    · have := pp k hk
      left
      show p 15 k < p 0 0
      omega
    · exact absurd hk (Nat.not_lt_zero k)
theorem seeS_I {p s : AS} {M : Nat} (hw : SW p s) (ho : SO p M s) : SI p M (seeS p s) := by
  refine ⟨?_, SO_of ho (fun a ha => by unfold seeS; rw [u3_r (by omega), u3_r (by omega)]) ?_, seeS_Y⟩
  · unfold SW seeS
    rw [u3_r (by decide), u3_r (by decide)]
    exact hw
  · unfold seeS
    rw [u3_i (by decide), u3_i (by decide)]
    exact ho.2.2.2.2.2.2.2

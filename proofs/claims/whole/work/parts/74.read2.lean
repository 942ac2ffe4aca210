theorem is_order2 {p : AS} {m mr : Mm} {P : Nat} (hp : PL p) (pc : PC p m P) (pm : PM p mr) (a b c : Int32) : (f_X8_isOrder m P a b c = some 0 ∧ rOrd mr a b c = some 0) ∨ (f_X8_isOrder m P a b c = some 1 ∧ rOrd mr a b c = some 1 ∧ goO p (co a) (co b) (co c)) := by
  obtain ⟨l1, l2, l3, l4⟩ := id hp
  rcases is_order hp pc pm a b c with h | ⟨h1, h2, kd, wt, wh, rfl, rfl, rfl, g1, g2, g3, g4, g5⟩
  · exact Or.inl h
  · refine Or.inr ⟨h1, h2, ?_⟩
    have e1 : co (nI kd) = kd := co_nI (by omega)
    have hq : kd = 0 ∨ kd = 1 ∨ kd = 2 ∨ kd = 3 ∨ kd = 4 := by omega
    have e2 : co (nI wt) = wt := by
      refine co_nI ?_
      rcases hq with q | q | q | q | q
      · have := g2 (by omega); omega
      · have := g2 (by omega); omega
      · have := g3 q; omega
      · have := (g4 q).1; omega
      · have := (g5 q).1; omega
    unfold goO
    rw [e1, e2]
    refine ⟨g1, g2, g3, fun q => ⟨(g4 q).1, ?_⟩, fun q => ⟨(g5 q).1, ?_⟩⟩
    · rcases (g4 q).2 with w | w
      · rw [co_nI (by omega)]; exact Or.inl w
      · rw [w]; exact Or.inr (by decide)
    · have := (g5 q).2
      rw [co_nI (by omega)]; exact this
/-- the minute of an order on a sheet, in both -/
theorem in_min {mu : Nat} (x : Int32) (hmu : mu < 2 ^ 28) : f_X9_in ((nI mu).toInt64 + x.toInt64) (nI mu).toInt64 999 = if nI mu + x < nI mu then some 0 else if (999 : Int32) < nI mu + x then some 0 else some 1 := by
  have hM : (nI mu).toInt = (mu : Int) := nI_toInt (by omega)
  have hx1 := Int32.le_toInt x
  have hx2 := Int32.toInt_lt x
  have e9 : (999 : Int64).toInt = 999 := by decide
  have e9' : (999 : Int32).toInt = 999 := by decide
  have hs : ((nI mu).toInt64 + x.toInt64).toInt = (mu : Int) + x.toInt := by
    rw [Int64.toInt_add, Int32.toInt_toInt64, Int32.toInt_toInt64, hM]
    exact Int.bmod_eq_of_le_mul_two (by omega) (by omega)
  have l1 : (lg_cmp ((nI mu).toInt64 + x.toInt64) (nI mu).toInt64 < 0) ↔ (mu : Int) + x.toInt < mu := by
    rw [lg_cmp_lt, Int64.lt_iff_toInt_lt, hs, Int32.toInt_toInt64, hM]
  have l2 : (0 < lg_cmp ((nI mu).toInt64 + x.toInt64) 999) ↔ 999 < (mu : Int) + x.toInt := by
    rw [lg_cmp_gt, Int64.lt_iff_toInt_lt, hs, e9]
  have hadd : (nI mu + x).toInt = ((mu : Int) + x.toInt).bmod (2 ^ 32) := by rw [Int32.toInt_add, hM]
  unfold f_X9_in
  by_cases q : (mu : Int) + x.toInt < 2 ^ 31
  · have hs2 : (nI mu + x).toInt = (mu : Int) + x.toInt := by
      rw [hadd]
      exact Int.bmod_eq_of_le_mul_two (by omega) (by omega)
    have k1 : (nI mu + x < nI mu) ↔ (mu : Int) + x.toInt < mu := by rw [Int32.lt_iff_toInt_lt, hs2, hM]
    have k2 : ((999 : Int32) < nI mu + x) ↔ 999 < (mu : Int) + x.toInt := by rw [Int32.lt_iff_toInt_lt, hs2, e9']
    by_cases w1 : (mu : Int) + x.toInt < mu
    · rw [if_pos (l1.mpr w1), if_pos (k1.mpr w1)]
    · rw [if_neg (fun w => w1 (l1.mp w)), if_neg (fun w => w1 (k1.mp w))]
      by_cases w2 : 999 < (mu : Int) + x.toInt
      · rw [if_pos (l2.mpr w2), if_pos (k2.mpr w2)]
      · rw [if_neg (fun w => w2 (l2.mp w)), if_neg (fun w => w2 (k2.mp w))]
  · have hs2 : (nI mu + x).toInt = (mu : Int) + x.toInt - 2 ^ 32 := by
      rw [hadd, ← Int.sub_bmod_right ((mu : Int) + x.toInt) (2 ^ 32)]
      exact Int.bmod_eq_of_le_mul_two (by omega) (by omega)
    have k1 : nI mu + x < nI mu := by rw [Int32.lt_iff_toInt_lt, hs2, hM]; omega
    rw [if_neg (fun w => by have := l1.mp w; omega), if_pos (l2.mpr (by omega)), if_pos k1]

/-! text: the reference's words -/
theorem m_is {n : Nat} {bs : Nat → Nat} {m : Mm} {f e L a b c d : Nat} (hn : n ≤ 400) (hb : ∀ i, i < n → bs i < 256) (hB : MBy n bs m) (h23 : m 113 23 = nI e) (h24 : m 113 24 = nI f) (h1 : f < e) (h2 : e ≤ n) (hL : 4 ≤ L) (hL2 : L ≤ 5) (ha : a < 256) (hb' : b < 256) (hc : c < 256) (hd : d < 256) : ((e - f = L ∧ bs f = a ∧ bs (f + 1) = b ∧ bs (f + 2) = c ∧ bs (f + 3) = d) ∧ f_X9_is m (nI L) (nI a) (nI b) (nI c) (nI d) = some 1) ∨ (¬ (e - f = L ∧ bs f = a ∧ bs (f + 1) = b ∧ bs (f + 2) = c ∧ bs (f + 3) = d) ∧ f_X9_is m (nI L) (nI a) (nI b) (nI c) (nI d) = some 0) := by
  have hsub : m 113 23 - m 113 24 = nI (e - f) := by rw [h23, h24, pk_sub (by omega)]
  unfold f_X9_is
  rw [hsub]
  by_cases q : e - f = L
  case neg =>
    right
    exact ⟨fun w => q w.1, if_neg (by rw [nq (by omega) (by omega)]; exact q)⟩
  rw [if_pos (by rw [q]), h24]
  have lk : ∀ t, t < 4 → f_X9_look m (nI (f + t)) = some (nI (bs (f + t))) ∧ bs (f + t) < 256 := fun t ht => ⟨m_look hB hn (by omega), hb _ (by omega)⟩
  obtain ⟨l0, b0⟩ := lk 0 (by decide)
  obtain ⟨l1, b1⟩ := lk 1 (by decide)
  obtain ⟨l2, b2⟩ := lk 2 (by decide)
  obtain ⟨l3, b3⟩ := lk 3 (by decide)
  rw [show f + 0 = f from rfl] at l0 b0
  rw [l0, Option.bind_some]
  have ne : ∀ x y : Nat, x < 256 → y < 256 → x ≠ y → ¬ nI x = nI y := fun x y hx hy h => by rw [nq (by omega) (by omega)]; exact h
  by_cases q0 : bs f = a
  case neg => exact Or.inr ⟨fun w => q0 w.2.1, if_neg (ne _ _ b0 ha q0)⟩
  rw [if_pos (by rw [q0]), show nI f + (1 : Int32) = nI (f + 1) from nI_1 f, l1, Option.bind_some]
  by_cases q1 : bs (f + 1) = b
  case neg => exact Or.inr ⟨fun w => q1 w.2.2.1, if_neg (ne _ _ b1 hb' q1)⟩
  rw [if_pos (by rw [q1]), show nI f + (2 : Int32) = nI (f + 2) from nI_add f 2, l2, Option.bind_some]
  by_cases q2 : bs (f + 2) = c
  case neg => exact Or.inr ⟨fun w => q2 w.2.2.2.1, if_neg (ne _ _ b2 hc q2)⟩
  rw [if_pos (by rw [q2]), show nI f + (3 : Int32) = nI (f + 3) from nI_add f 3, l3, Option.bind_some]
  by_cases q3 : bs (f + 3) = d
  case neg => exact Or.inr ⟨fun w => q3 w.2.2.2.2, if_neg (ne _ _ b3 hd q3)⟩
  exact Or.inl ⟨⟨q, q0, q1, q2, q3⟩, if_pos (by rw [q3])⟩

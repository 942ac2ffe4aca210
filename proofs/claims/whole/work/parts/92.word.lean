/-! text: words -/
def wdB (j : Nat) : List Nat := [[104, 111, 108, 100], [100, 111, 111, 114], [104, 111, 108, 101], [112, 117, 109, 112], [99, 114, 101, 119, 115], [115, 105, 110, 107, 115], [108, 105, 115, 116, 115], [116, 114, 105, 109, 115], [115, 97, 102, 101], [115, 104, 117, 116]].getD j []
def isW4 (bs : Nat → Nat) (f e j : Nat) : Prop := e - f = (wdB j).length ∧ ∀ t, t < (wdB j).length → bs (f + t) = (wdB j).getD t 0
theorem wd_len : ∀ j, j < 10 → f_J0_length (UInt32.ofNat j) = some (nI (wdB j).length) ∧ (wdB j).length ≤ 5 ∧ 4 ≤ (wdB j).length := by decide +kernel
theorem wd_chr : ∀ j, j < 10 → ∀ t, t < (wdB j).length → f_J0_charAt (UInt32.ofNat j) (nI t) = some (nI ((wdB j).getD t 0)) ∧ (wdB j).getD t 0 < 256 := by decide +kernel
theorem c_spells {n : Nat} {bs : Nat → Nat} {m : Mm} {F f e j : Nat} (hF : 5000 ≤ F) (hn : n ≤ 400) (hb : ∀ i, i < n → bs i < 256) (hB : CB n bs m) (hj : j < 10) (h9 : m 1 9 = 2) (h7 : m 1 7 = nI f) (h8 : m 1 8 = nI e) (h1 : f < e) (h2 : e ≤ n) (h3 : ∀ i, f ≤ i → i < e → kdB (bs i) = 2) : (isW4 bs f e j ∧ f_X2_spells F m (UInt32.ofNat j) = some 1) ∨ (¬ isW4 bs f e j ∧ f_X2_spells F m (UInt32.ofNat j) = some 0) := by
  obtain ⟨w1, w2, w2'⟩ := wd_len j hj
  have hsub : m 1 8 - m 1 7 = nI (e - f) := by rw [h8, h7, pk_sub (by omega)]
  unfold f_X2_spells
  rw [if_pos h9, w1, Option.bind_some, hsub]
  by_cases q : e - f = (wdB j).length
  case neg =>
    right
    exact ⟨fun w => q w.1, if_neg (by rw [nq (by omega) (by omega)]; exact q)⟩
  rw [if_pos (by rw [q])]
  have hstep : ∀ t, t < (wdB j).length → b_X2_spells_28 m (UInt32.ofNat j) (nI t) = (if bs (f + t) = (wdB j).getD t 0 then some (Sum.inl (nI (t + 1))) else some (Sum.inr (Sum.inl ()))) := fun t ht => by
    have hc : ¬ nI (wdB j).length ≤ nI t := nI_ge ht (by omega)
    have hbt := hb (f + t) (by omega)
    have hd := (kdB_le _ hbt).2.2.2.2.2 (h3 (f + t) (by omega) (by omega))
    have e1 : ald m 2 400 (m 1 7 + nI t) = some (nI (bs (f + t))) := by rw [h7, nI_add, ald_n (by omega) (by decide), hB.2 _ (by omega)]; exact congrArg some hd
    obtain ⟨c1, c2⟩ := wd_chr j hj t ht
    unfold b_X2_spells_28
    rw [w1, Option.bind_some, if_neg hc, e1, Option.bind_some, c1, Option.bind_some, nI_1]
    have hq : (nI (bs (f + t)) = nI ((wdB j).getD t 0)) = (bs (f + t) = (wdB j).getD t 0) := nq (by omega) (by omega)
    by_cases w : bs (f + t) = (wdB j).getD t 0
    · rw [if_pos w, if_pos (by rw [w])]
    · have w' : ¬ nI (bs (f + t)) = nI ((wdB j).getD t 0) := by rw [hq]; exact w
      rw [if_neg w, if_neg w']
  obtain ⟨r, g1, g2⟩ := iter_Q (b := b_X2_spells_28 m (UInt32.ofNat j)) (F := F) (wdB j).length (fun t x => x = nI t ∧ ∀ u, u < t → bs (f + u) = (wdB j).getD u 0) (fun r => (r = Sum.inr () ∧ isW4 bs f e j) ∨ (r = Sum.inl () ∧ ¬ isW4 bs f e j)) (by omega) (by
    rintro t x ht ⟨rfl, q1⟩
    rw [hstep t ht]
    by_cases w : bs (f + t) = (wdB j).getD t 0
    · left
      rw [if_pos w]
      refine ⟨_, rfl, rfl, fun u hu => ?_⟩
      by_cases e0 : u = t
      · subst e0; exact w
      · exact q1 u (by omega)
    · right
      rw [if_neg w]
      exact ⟨_, rfl, Or.inr ⟨rfl, fun a => w (a.2 t ht)⟩⟩) (by
    rintro x ⟨rfl, q1⟩
    refine ⟨Sum.inr (), ?_, Or.inl ⟨rfl, q, q1⟩⟩
    unfold b_X2_spells_28
    rw [w1, Option.bind_some, if_pos (Int32.le_refl _)]) (x := (0 : Int32)) ⟨rfl, fun u hu => absurd hu (by omega)⟩
  rw [g1, Option.bind_some]
  rcases g2 with ⟨rfl, g⟩ | ⟨rfl, g⟩
  · exact Or.inl ⟨g, rfl⟩
  · exact Or.inr ⟨g, rfl⟩

/-! pure facts: loops that count, reads and writes at known places -/
theorem iter_for {σ ρ : Type} (b : σ → Option (σ ⊕ ρ)) (S : Nat → σ) (n : Nat) (fin : ρ) (hstep : ∀ i, i < n → b (S i) = some (Sum.inl (S (i + 1)))) (hend : b (S n) = some (Sum.inr fin)) : ∀ (k i F : Nat), i + k = n → k < F → iter F b (S i) = some fin := by
  intro k
  induction k with
  | zero =>
    intro i F hi hF
    have : i = n := by omega
    subst this
    cases F with
    | zero => omega
    | succ F => simp [iter, hend]
  | succ k ih =>
    intro i F hi hF
    cases F with
    | zero => omega
    | succ F =>
      rw [iter, hstep i (by omega)]
      exact ih (i + 1) F (by omega) (by omega)
theorem iter_n {σ ρ : Type} {b : σ → Option (σ ⊕ ρ)} {F : Nat} (S : Nat → σ) (n : Nat) (fin : ρ) (hF : n < F) (hstep : ∀ i, i < n → b (S i) = some (Sum.inl (S (i + 1)))) (hend : b (S n) = some (Sum.inr fin)) : iter F b (S 0) = some fin := iter_for b S n fin hstep hend n 0 F (by omega) hF
theorem ald_n {m : Mm} {a N i : Nat} (h : i < N) (hN : N < 2 ^ 31) : ald m a N (nI i) = some (m a i) := by
  have h2 : ¬ (nI i < 0 ∨ N ≤ (nI i).toNatClampNeg) := nI_in h hN
  rw [ald, if_neg h2, nI_clamp (by omega)]
theorem ast_n {m : Mm} {a N i : Nat} {v : Int32} (h : i < N) (hN : N < 2 ^ 31) : ast m a N (nI i) v = some (up2 m a i v) := by
  have h2 : ¬ (nI i < 0 ∨ N ≤ (nI i).toNatClampNeg) := nI_in h hN
  rw [ast, if_neg h2, nI_clamp (by omega)]
theorem ald_x {m : Mm} {a N i : Nat} {x : Int32} (hx : x = nI i) (h : i < N) (hN : N < 2 ^ 31) : ald m a N x = some (m a i) := by
  rw [hx]; exact ald_n h hN
theorem ast_x {m : Mm} {a N i : Nat} {x v : Int32} (hx : x = nI i) (h : i < N) (hN : N < 2 ^ 31) : ast m a N x v = some (up2 m a i v) := by
  rw [hx]; exact ast_n h hN
theorem lit (n : Nat) : (OfNat.ofNat n : Int32) = nI n := rfl
theorem letv_eq {α β : Type} (a : α) (f : α → β) : letv a f = f a := rfl
theorem up2_at {m : Mm} {a i : Nat} {v : Int32} {b j : Nat} : up2 m a i v b j = if b = a ∧ j = i then v else m b j := by
  by_cases hb : b = a
  · subst hb
    simp [up2, upd]
  · simp [up2, hb]
theorem up2_same {m : Mm} {a i : Nat} {v : Int32} : up2 m a i v a i = v := by simp [up2_at]
theorem up2_slot {m : Mm} {a i : Nat} {v : Int32} {j : Nat} (h : j ≠ i) : up2 m a i v a j = m a j := by simp [up2_at, h]
theorem up2_twice (m : Mm) (a i : Nat) (v w : Int32) : up2 (up2 m a i v) a i w = up2 m a i w := by
  funext b j
  simp only [up2_at]
  by_cases h : b = a ∧ j = i <;> simp [h]
theorem odiv_n {x y : Int32} (h : ¬ y = 0) : odiv x y = some (x / y) := if_neg h
def sumTo (f : Nat → Int32) : Nat → Int32
  | 0 => 0
  | n + 1 => sumTo f n + f n
theorem sumTo_congr {f g : Nat → Int32} : ∀ {n : Nat}, (∀ i, i < n → f i = g i) → sumTo f n = sumTo g n
  | 0, _ => rfl
  | n + 1, h => by
    rw [sumTo, sumTo, sumTo_congr (fun i hi => h i (by omega)), h n (by omega)]
theorem x9_allOf {F : Nat} {m : Mm} {nh B : Nat} (hF : 100 < F) (hh : m 113 2 = nI nh) (hn : nh ≤ 8) (hB : B + 128 ≤ 512) : f_X9_allOf F m (nI B) = some (sumTo (fun h => m 114 (B + h)) nh) := by
  unfold f_X9_allOf
  rw [show ((0, 0) : Int32 × Int32) = (fun i => (sumTo (fun h => m 114 (B + h)) i, nI i)) 0 from rfl]
  rw [iter_n (fun i => (sumTo (fun h => m 114 (B + h)) i, nI i)) nh (sumTo (fun h => m 114 (B + h)) nh) (by omega)]
  · rfl
  · intro i hi
    have h1 : ¬ nI nh ≤ nI i := nI_ge hi (by omega)
    simp only [b_X9_allOf_4, hh, if_neg h1]
    rw [ald_x (i := B + i) (by rw [lit, nI_add, nI_add]; simp) (by omega) (by omega)]
    simp only [Option.bind_some, letv_eq, sumTo, nI_1]
  · simp only [b_X9_allOf_4, hh, if_pos (Int32.le_refl _)]
theorem x9_size (x : Int32) : f_X9_size x = some (iabs x) := by
  unfold f_X9_size iabs
  by_cases h : 0 ≤ x <;> simp [h]
theorem x9_listOf {F : Nat} {m : Mm} {nh B : Nat} (hF : 100 < F) (hh : m 113 2 = nI nh) (hn : nh ≤ 8) (hB : B + 128 ≤ 512) : f_X9_listOf F m (nI B) = some (iabs (sumTo (fun h => (m 116 (4 * h + 1) - 1) * m 114 (B + h)) nh) / 2) := by
  unfold f_X9_listOf
  rw [show ((0, 0) : Int32 × Int32) = (fun i => (sumTo (fun h => (m 116 (4 * h + 1) - 1) * m 114 (B + h)) i, nI i)) 0 from rfl]
  rw [iter_n (fun i => (sumTo (fun h => (m 116 (4 * h + 1) - 1) * m 114 (B + h)) i, nI i)) nh (sumTo (fun h => (m 116 (4 * h + 1) - 1) * m 114 (B + h)) nh) (by omega)]
  · simp only [Option.bind_some, x9_size, odiv_n (show ¬ (2 : Int32) = 0 by decide)]
  · intro i hi
    have h1 : ¬ nI nh ≤ nI i := nI_ge hi (by omega)
    simp only [b_X9_listOf_4, hh, if_neg h1]
    rw [ald_x (i := 4 * i + 1) (by rw [lit, lit, pk_mul, nI_add]) (by omega) (by omega)]
    simp only [Option.bind_some]
    rw [ald_x (i := B + i) (by rw [lit, nI_add, nI_add]; simp) (by omega) (by omega)]
    simp only [Option.bind_some, letv_eq, sumTo, nI_1]
  · simp only [b_X9_listOf_4, hh, if_pos (Int32.le_refl _)]
theorem x9_trimOf {F : Nat} {m : Mm} {nh B : Nat} (hF : 100 < F) (hh : m 113 2 = nI nh) (hn : nh ≤ 8) (hB : B + 128 ≤ 512) : f_X9_trimOf F m (nI B) = some (iabs (sumTo (fun h => (m 116 (4 * h + 2) - 9) * m 114 (B + h)) nh) / 10) := by
  unfold f_X9_trimOf
  rw [show ((0, 0) : Int32 × Int32) = (fun i => (sumTo (fun h => (m 116 (4 * h + 2) - 9) * m 114 (B + h)) i, nI i)) 0 from rfl]
  rw [iter_n (fun i => (sumTo (fun h => (m 116 (4 * h + 2) - 9) * m 114 (B + h)) i, nI i)) nh (sumTo (fun h => (m 116 (4 * h + 2) - 9) * m 114 (B + h)) nh) (by omega)]
  · simp only [Option.bind_some, x9_size, odiv_n (show ¬ (10 : Int32) = 0 by decide)]
  · intro i hi
    have h1 : ¬ nI nh ≤ nI i := nI_ge hi (by omega)
    simp only [b_X9_trimOf_4, hh, if_neg h1]
    rw [ald_x (i := 4 * i + 2) (by rw [lit, lit, pk_mul, nI_add]) (by omega) (by omega)]
    simp only [Option.bind_some]
    rw [ald_x (i := B + i) (by rw [lit, nI_add, nI_add]; simp) (by omega) (by omega)]
    simp only [Option.bind_some, letv_eq, sumTo, nI_1]
  · simp only [b_X9_trimOf_4, hh, if_pos (Int32.le_refl _)]

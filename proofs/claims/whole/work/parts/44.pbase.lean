/-! pure facts: loops, reads and writes at known places -/
theorem iter_Q {σ ρ : Type} {b : σ → Option (σ ⊕ ρ)} {F : Nat} (n : Nat) (Q : Nat → σ → Prop) (E : ρ → Prop) (hF : n < F) (hs : ∀ i x, i < n → Q i x → (∃ y, b x = some (Sum.inl y) ∧ Q (i + 1) y) ∨ (∃ r, b x = some (Sum.inr r) ∧ E r)) (he : ∀ x, Q n x → ∃ r, b x = some (Sum.inr r) ∧ E r) {x : σ} (h0 : Q 0 x) : ∃ r, iter F b x = some r ∧ E r := by
  have key : ∀ (k i F : Nat) (x : σ), i + k = n → k < F → Q i x → ∃ r, iter F b x = some r ∧ E r := by
    intro k
    induction k with
    | zero =>
      intro i F x hi hF hq
      have : i = n := by omega
      subst this
      cases F with
      | zero => omega
      | succ F =>
        obtain ⟨r, h1, h2⟩ := he x hq
        exact ⟨r, by rw [iter, h1]; rfl, h2⟩
    | succ k ih =>
      intro i F x hi hF hq
      cases F with
      | zero => omega
      | succ F =>
        rcases hs i x (by omega) hq with ⟨y, h1, h2⟩ | ⟨r, h1, h2⟩
        · obtain ⟨r, h3, h4⟩ := ih (i + 1) F y (by omega) (by omega) h2
          exact ⟨r, by rw [iter, h1]; exact h3, h4⟩
        · exact ⟨r, by rw [iter, h1]; rfl, h2⟩
  exact key n 0 F x (by omega) hF h0
theorem iter_P {σ ρ : Type} {b : σ → Option (σ ⊕ ρ)} {F : Nat} (n : Nat) (Q : Nat → σ → Prop) (E : ρ → Prop) (hF : n < F) (hs : ∀ i x, i < n → Q i x → ∃ y, b x = some (Sum.inl y) ∧ Q (i + 1) y) (he : ∀ x, Q n x → ∃ r, b x = some (Sum.inr r) ∧ E r) {x : σ} (h0 : Q 0 x) : ∃ r, iter F b x = some r ∧ E r := iter_Q n Q E hF (fun i x h q => Or.inl (hs i x h q)) he h0
theorem iter_n {σ ρ : Type} {b : σ → Option (σ ⊕ ρ)} {F : Nat} (S : Nat → σ) (n : Nat) (fin : ρ) (hF : n < F) (hstep : ∀ i, i < n → b (S i) = some (Sum.inl (S (i + 1)))) (hend : b (S n) = some (Sum.inr fin)) : iter F b (S 0) = some fin := by
  obtain ⟨r, h1, rfl⟩ := iter_P (b := b) (F := F) n (fun i x => x = S i) (fun r => r = fin) hF (fun i x hi hx => ⟨S (i + 1), by rw [hx]; exact hstep i hi, rfl⟩) (fun x hx => ⟨fin, by rw [hx]; exact hend, rfl⟩) (x := S 0) rfl
  exact h1
theorem nI_inj {a b : Nat} (ha : a < 2 ^ 32) (hb : b < 2 ^ 32) : nI a = nI b ↔ a = b := by
  constructor
  · intro h
    have h2 := congrArg (fun x : Int32 => x.toBitVec.toNat) h
    simp only [pk_tn ha, pk_tn hb] at h2
    exact h2
  · intro h; rw [h]
theorem nI_ne {a b : Nat} (ha : a < 2 ^ 32) (hb : b < 2 ^ 32) (h : a ≠ b) : ¬ nI a = nI b := fun q => h ((nI_inj ha hb).mp q)
theorem nI_NN : nI 4294967292 = (-4 : Int32) := by decide +kernel
theorem nI_32 {n : Nat} (h : n < 2 ^ 31) : n < 2 ^ 32 := by omega
theorem ald_n {m : Mm} {a N i : Nat} (h : i < N) (hN : N < 2 ^ 31) : ald m a N (nI i) = some (m a i) := by
  have h2 : ¬ (nI i < 0 ∨ N ≤ (nI i).toNatClampNeg) := nI_in h hN
  rw [ald, if_neg h2, nI_clamp (by omega)]
theorem ast_n {m : Mm} {a N i : Nat} {v : Int32} (h : i < N) (hN : N < 2 ^ 31) : ast m a N (nI i) v = some (up2 m a i v) := by
  have h2 : ¬ (nI i < 0 ∨ N ≤ (nI i).toNatClampNeg) := nI_in h hN
  rw [ast, if_neg h2, nI_clamp (by omega)]
theorem ald_x {m : Mm} {a N i : Nat} {x : Int32} (hx : x = nI i) (h : i < N) (hN : N < 2 ^ 31) : ald m a N x = some (m a i) := by
  rw [hx]; exact ald_n h hN
theorem ast_x {m : Mm} {a N i : Nat} {x v : Int32} (hx : x = nI i) (h : i < N) (hN : N < 2 ^ 31) : ast m a N x v = some (up2 m a i v) := by
  rw [hx]; exact ast_n h hN
theorem ald_v {m : Mm} {a N i : Nat} {v : Int32} (hv : m a i = v) (h : i < N) (hN : N < 2 ^ 31) : ald m a N (nI i) = some v := by
  rw [ald_n h hN, hv]
theorem letv_eq {α β : Type} (a : α) (f : α → β) : letv a f = f a := rfl
theorem up2_at {m : Mm} {a i : Nat} {v : Int32} {b j : Nat} : up2 m a i v b j = if b = a ∧ j = i then v else m b j := by
  by_cases hb : b = a
  · subst hb
    simp [up2, upd]
  · simp [up2, hb]
theorem up2_same {m : Mm} {a i : Nat} {v : Int32} : up2 m a i v a i = v := by simp [up2_at]
theorem up2_slot {m : Mm} {a i : Nat} {v : Int32} {j : Nat} (h : j ≠ i) : up2 m a i v a j = m a j := by simp [up2_at, h]
theorem up2_cell {m : Mm} {a i : Nat} {v : Int32} {b j : Nat} (h : b ≠ a) : up2 m a i v b j = m b j := by simp [up2_at, h]
theorem up2_twice (m : Mm) (a i : Nat) (v w : Int32) : up2 (up2 m a i v) a i w = up2 m a i w := by
  funext b j
  simp only [up2_at]
  by_cases h : b = a ∧ j = i <;> simp [h]
theorem up2_id {m : Mm} {a i : Nat} {v : Int32} (h : m a i = v) : up2 m a i v = m := by
  funext b j
  simp only [up2_at]
  split
  · rename_i q; rw [q.1, q.2, h]
  · rfl
theorem odiv_n {x y : Int32} (h : ¬ y = 0) : odiv x y = some (x / y) := if_neg h
theorem odivN {a d : Nat} (ha : a < 2 ^ 31) (h0 : 0 < d) (hd : d < 2 ^ 31) : odiv (nI a) (nI d) = some (nI (a / d)) := by
  rw [odiv_n (nI_ne0 h0 hd), pk_div ha h0 hd]
theorem ix1 (a b : Nat) : nI a + nI b = nI (a + b) := nI_add a b
theorem ix2 (a b c : Nat) : nI a + nI b + nI c = nI (a + b + c) := by rw [nI_add, nI_add]
theorem ixm (a b : Nat) : nI a * nI b = nI (a * b) := pk_mul a b
theorem ixm1 (a b c : Nat) : nI a * nI b + nI c = nI (a * b + c) := by rw [pk_mul, nI_add]
def sumTo (f : Nat → Int32) : Nat → Int32
  | 0 => 0
  | n + 1 => sumTo f n + f n
theorem sumTo_congr {f g : Nat → Int32} : ∀ {n : Nat}, (∀ i, i < n → f i = g i) → sumTo f n = sumTo g n
  | 0, _ => rfl
  | n + 1, h => by
    rw [sumTo, sumTo, sumTo_congr (fun i hi => h i (by omega)), h n (by omega)]
def sumN (f : Nat → Nat) : Nat → Nat
  | 0 => 0
  | n + 1 => sumN f n + f n
theorem sumN_congr {f g : Nat → Nat} : ∀ {n : Nat}, (∀ i, i < n → f i = g i) → sumN f n = sumN g n
  | 0, _ => rfl
  | n + 1, h => by
    rw [sumN, sumN, sumN_congr (fun i hi => h i (by omega)), h n (by omega)]
theorem sumN_le {f : Nat → Nat} {c : Nat} : ∀ {n : Nat}, (∀ i, i < n → f i ≤ c) → sumN f n ≤ n * c
  | 0, _ => by simp [sumN]
  | n + 1, h => by
    have := sumN_le (f := f) (c := c) (n := n) (fun i hi => h i (by omega))
    have := h n (by omega)
    rw [sumN, Nat.add_mul]; omega
theorem sumN_upd {f g : Nat → Nat} {k : Nat} : ∀ {n : Nat}, k < n → (∀ i, i < n → i ≠ k → g i = f i) → sumN g n + f k = sumN f n + g k
  | 0, h, _ => absurd h (by omega)
  | n + 1, h, hf => by
    rw [sumN, sumN]
    by_cases hk : k = n
    · subst hk
      rw [sumN_congr (f := g) (g := f) (fun i hi => hf i (by omega) (by omega))]
      omega
    · have h1 := sumN_upd (f := f) (g := g) (k := k) (n := n) (by omega) (fun i hi => hf i (by omega))
      have h2 := hf n (by omega) (fun q => hk q.symm)
      omega
theorem sumN_ge {f : Nat → Nat} {k : Nat} : ∀ {n : Nat}, k < n → f k ≤ sumN f n
  | 0, h => absurd h (by omega)
  | n + 1, h => by
    rw [sumN]
    by_cases hk : k = n
    · subst hk; omega
    · have := sumN_ge (f := f) (k := k) (n := n) (by omega)
      omega
theorem sumN_ge2 {f : Nat → Nat} {j k : Nat} (hjk : j ≠ k) : ∀ {n : Nat}, j < n → k < n → f j + f k ≤ sumN f n
  | 0, h, _ => absurd h (by omega)
  | n + 1, h, h2 => by
    rw [sumN]
    by_cases hk : k = n
    · subst hk
      have := sumN_ge (f := f) (k := j) (n := k) (by omega)
      omega
    · by_cases hj : j = n
      · subst hj
        have := sumN_ge (f := f) (k := k) (n := j) (by omega)
        omega
      · have := sumN_ge2 (f := f) hjk (n := n) (by omega) (by omega)
        omega
theorem sumN_zero {f : Nat → Nat} : ∀ {n : Nat}, (∀ i, i < n → f i = 0) → sumN f n = 0
  | 0, _ => rfl
  | n + 1, h => by
    rw [sumN, sumN_zero (fun i hi => h i (by omega)), h n (by omega)]
def rep {α : Type} (f : Nat → α → α) : Nat → α → α
  | 0, s => s
  | n + 1, s => f n (rep f n s)
theorem rep_inv {α : Type} {f : Nat → α → α} {I : α → Prop} {n : Nat} {s : α} (h0 : I s) (hs : ∀ i t, i < n → I t → I (f i t)) : ∀ k, k ≤ n → I (rep f k s)
  | 0, _ => h0
  | k + 1, h => hs k _ (by omega) (rep_inv h0 hs k (by omega))
theorem rep_fix {α : Type} {f : Nat → α → α} {s : α} {i : Nat} (h : ∀ j, i ≤ j → f j (rep f i s) = rep f i s) : ∀ k, rep f (i + k) s = rep f i s
  | 0 => rfl
  | k + 1 => by
    show f (i + k) (rep f (i + k) s) = _
    rw [rep_fix h k, h _ (by omega)]

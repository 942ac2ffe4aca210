/-! text: numbers -/
theorem c_val {n : Nat} {bs : Nat → Nat} {m : Mm} {F f e : Nat} (hF : 5000 ≤ F) (hn : n ≤ 400) (hb : ∀ i, i < n → bs i < 256) (hB : CB n bs m) (h8 : m 1 8 = nI e) (h1 : f ≤ e) (h2 : e ≤ n) (h3 : ∀ i, f ≤ i → i < e → kdB (bs i) = 3) : iter F (b_X2_takeNumber_36 m) ((0, nI f) : Int32 × Int32) = some (nI (vD bs f (e - f))) := by
  have h := iter_n (b := b_X2_takeNumber_36 m) (F := F) (fun i => ((nI (vD bs f i), nI (f + i)) : Int32 × Int32)) (e - f) (nI (vD bs f (e - f))) (by omega) (fun i hi => by
    have hc : ¬ m 1 8 ≤ nI (f + i) := by rw [h8]; exact nI_ge (by omega) (by omega)
    have hd := (kdB_le _ (hb (f + i) (by omega))).2.2.2.2.1 (h3 (f + i) (by omega) (by omega))
    have e1 : ald m 2 400 (nI (f + i)) = some (nI (bs (f + i))) := by rw [ald_n (by omega) (by decide), hB.2 _ (by omega), hd.1]
    have e2 : nI (vD bs f i) * (10 : Int32) + nI (bs (f + i)) - (48 : Int32) = nI (vD bs f (i + 1)) := by
      rw [show (10 : Int32) = nI 10 from rfl, pk_mul, nI_add, show (48 : Int32) = nI 48 from rfl, pk_sub (by omega)]
      have : vD bs f i * 10 + bs (f + i) - 48 = vD bs f (i + 1) := by
        show _ = 10 * vD bs f i + (bs (f + i) - 48)
        omega
      rw [this]
    unfold b_X2_takeNumber_36
    dsimp only
    rw [if_neg hc, e1, Option.bind_some, letv_eq, e2, nI_1]
    rfl) (by
    have hc : m 1 8 ≤ nI (f + (e - f)) := by rw [h8, show f + (e - f) = e by omega]; exact Int32.le_refl _
    unfold b_X2_takeNumber_36
    dsimp only
    rw [if_pos hc])
  exact h
theorem vD_lt {bs : Nat → Nat} {f : Nat} : ∀ i, (∀ j, j < i → bs (f + j) ≤ 57) → vD bs f i < 10 ^ i
  | 0, _ => Nat.one_pos
  | i + 1, h => by
    have := vD_lt i (fun j hj => h j (by omega))
    have := h i (by omega)
    have e : vD bs f (i + 1) = 10 * vD bs f i + (bs (f + i) - 48) := rfl
    rw [e, Nat.pow_succ]
    omega
theorem c_refuse {m : Mm} {v : Int32} : f_X2_refuse m v = some (if m 1 3 = 0 then up2 (up2 m 1 3 v) 1 4 (m 1 7) else m) := by
  unfold f_X2_refuse
  by_cases q : m 1 3 = 0
  · rw [if_pos q, if_pos q, letv_eq, letv_eq, up2_slot (show (7 : Nat) ≠ 3 by decide)]
  · rw [if_neg q, if_neg q]

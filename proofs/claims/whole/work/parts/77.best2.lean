/-! best: rows filled and looked at -/
theorem pw14 {c k : Nat} (hc : c ≤ 14) (hk : k ≤ 3) : c ^ k ≤ 2744 := by
  have h1 : c ^ k ≤ 14 ^ k := Nat.pow_le_pow_left hc k
  have h2 : (14 : Nat) ^ k ≤ 14 ^ 3 := Nat.pow_le_pow_right (by decide) hk
  omega
def cvK (k t : Nat) : Int32 := if t < k then nI (k - 1 - t) else -1
theorem cvK_step : ∀ k, k ≤ 3 → ∀ t, t < k → cvK k t + (-1) = cvK k (t + 1) := by decide +kernel
theorem cvK_0 : ∀ k, k ≤ 3 → nI k - 1 = cvK k 0 := by decide +kernel
theorem oremN {a d : Nat} (ha : a < 2 ^ 31) (h0 : 0 < d) (hd : d < 2 ^ 31) : orem (nI a) (nI d) = some (nI (a % d)) := by
  unfold orem
  rw [if_neg (nI_ne0 h0 hd), pk_rem ha h0 hd]
def unP (p s : AS) (k r : Nat) : Prop := ∀ i, i < k → ∀ j, j < i → cod p s k r i ≠ cod p s k r j
theorem unl_iff {p s : AS} {k r : Nat} : unl p s k r = true ↔ unP p s k r := by
  unfold unl unP
  simp only [List.all_eq_true, List.mem_range, decide_eq_true_eq]
theorem dig_step {c k r t : Nat} (ht : t < k) : r / c ^ t % c = dig c k r (k - 1 - t) := by
  unfold dig
  rw [show k - 1 - (k - 1 - t) = t from by omega]
theorem div_step {c r t : Nat} : r / c ^ t / c = r / c ^ (t + 1) := by
  rw [Nat.div_div_eq_div_mul, Nat.pow_succ]
theorem c_fill {p s : AS} {m : Mm} {F k r : Nat} (hF : 5000 ≤ F) (hp : PL p) (hk : k ≤ 3) (hkc : k ≤ (chL p s).length) (hr : r < (chL p s).length ^ k) (h6 : m 34 6 = nI (chL p s).length) (hl : LC m 35 (chL p s)) : ∃ m', f_X4_fillRow F m (nI r) (nI k) = some (if unl p s k r then 1 else 0, m') ∧ (∀ i, i < k → m' 36 i = nI (cod p s k r i)) ∧ ∀ b, b ≠ 36 → m' b = m b := by
  have hc14 := chL_len (s := s) hp
  have hpw := pw14 hc14 hk
  obtain ⟨m1, a1, a2, a3⟩ := iter_P (b := b_X4_fillRow_7) (F := F) k (fun t x => ∃ m1, x = (nI (r / (chL p s).length ^ t), cvK k t, m1) ∧ (∀ i, i < k → k ≤ i + t → m1 36 i = nI (cod p s k r i)) ∧ ∀ b, b ≠ 36 → m1 b = m b) (fun x => (∀ i, i < k → x 36 i = nI (cod p s k r i)) ∧ ∀ b, b ≠ 36 → x b = m b) (by omega) (by
    rintro t x ht ⟨m1, rfl, q1, q2⟩
    have hcp : 0 < (chL p s).length := by omega
    have hdl := dig_lt (k := k) (r := r) (i := k - 1 - t) hcp
    have hle : r / (chL p s).length ^ t ≤ r := Nat.div_le_self _ _
    have k1 : ¬ cvK k t < (0 : Int32) := by rw [cvK, if_pos ht]; exact nI_pos (by omega)
    have g6 : m1 34 6 = nI (chL p s).length := by rw [q2 34 (by decide)]; exact h6
    have k2 : ¬ m1 34 6 ≤ (0 : Int32) := by rw [g6]; exact nI_nle hcp (by omega)
    have e1 : orem (nI (r / (chL p s).length ^ t)) (nI (chL p s).length) = some (nI (dig (chL p s).length k r (k - 1 - t))) := by
      rw [oremN (by omega) hcp (by omega), dig_step ht]
    have e2 : ald m1 35 14 (nI (dig (chL p s).length k r (k - 1 - t))) = some (nI (cod p s k r (k - 1 - t))) := by
      rw [ald_n (by omega) (by decide), q2 35 (by decide), hl _ hdl]
      rfl
    have e3 : ast m1 36 3 (cvK k t) (nI (cod p s k r (k - 1 - t))) = some (up2 m1 36 (k - 1 - t) (nI (cod p s k r (k - 1 - t)))) := by
      rw [cvK, if_pos ht]
      exact ast_n (by omega) (by decide)
    have e4 : odiv (nI (r / (chL p s).length ^ t)) (nI (chL p s).length) = some (nI (r / (chL p s).length ^ (t + 1))) := by
      rw [odivN (by omega) hcp (by omega), div_step]
    refine ⟨_, ?_, up2 m1 36 (k - 1 - t) (nI (cod p s k r (k - 1 - t))), rfl, fun i hi hit => ?_, fun b hb => by rw [up2_ne hb, q2 b hb]⟩
    · unfold b_X4_fillRow_7
      dsimp only
      rw [if_neg k1, if_neg k2, g6, e1, Option.bind_some, e2, Option.bind_some, e3, Option.bind_some, up2_cell (by decide), g6, e4, Option.bind_some, cvK_step k hk t ht]
    · by_cases e : i = k - 1 - t
      · rw [e, up2_same]
      · rw [up2_slot e]; exact q1 i hi (by omega)) (by
    rintro x ⟨m1, rfl, q1, q2⟩
    refine ⟨m1, ?_, fun i hi => q1 i hi (by omega), q2⟩
    unfold b_X4_fillRow_7
    exact if_pos (show cvK k k < (0 : Int32) from by rw [cvK, if_neg (by omega)]; decide)) (x := (nI r, cvK k 0, m)) ⟨m, by rw [Nat.pow_zero, Nat.div_one], fun i hi hit => absurd hit (by omega), fun _ _ => rfl⟩
  have hcb : ∀ i, i < k → cod p s k r i < 2 ^ 20 := fun i hi => by
    rcases cod_in (k := k) (r := r) (i := i) (s := s) hp (by omega) with ⟨w, -⟩ | ⟨-, w, -⟩
    · omega
    · have := hp.2.2.1; omega
  have inn : ∀ i, i < k → ∃ e, iter F (b_X4_fillRow_62 m1 (nI i)) (0 : Int32) = some e ∧ ((e = Sum.inl () ∧ ¬ ∀ j, j < i → cod p s k r i ≠ cod p s k r j) ∨ (e = Sum.inr () ∧ ∀ j, j < i → cod p s k r i ≠ cod p s k r j)) := fun i hi => by
    refine iter_Q (b := b_X4_fillRow_62 m1 (nI i)) (F := F) i (fun j x => x = nI j ∧ ∀ j', j' < j → cod p s k r i ≠ cod p s k r j') (fun e => (e = Sum.inl () ∧ ¬ ∀ j, j < i → cod p s k r i ≠ cod p s k r j) ∨ (e = Sum.inr () ∧ ∀ j, j < i → cod p s k r i ≠ cod p s k r j)) (by omega) ?_ ?_ ⟨rfl, fun j' hj' => absurd hj' (by omega)⟩
    · rintro j x hj ⟨rfl, q⟩
      have hc : ¬ nI i ≤ nI j := nI_ge hj (by omega)
      have e1 : ald m1 36 3 (nI i) = some (nI (cod p s k r i)) := by rw [ald_n (by omega) (by decide), a2 i hi]
      have e2 : ald m1 36 3 (nI j) = some (nI (cod p s k r j)) := by rw [ald_n (by omega) (by decide), a2 j (by omega)]
      by_cases w : cod p s k r i = cod p s k r j
      · refine Or.inr ⟨Sum.inl (), ?_, Or.inl ⟨rfl, fun hall => hall j hj w⟩⟩
        unfold b_X4_fillRow_62
        rw [if_neg hc, e1, Option.bind_some, e2, Option.bind_some, if_pos (by rw [w])]
      · have w' : ¬ nI (cod p s k r i) = nI (cod p s k r j) := nI_ne (by have := hcb i hi; omega) (by have := hcb j (by omega); omega) w
        refine Or.inl ⟨nI (j + 1), ?_, rfl, fun j' hj' => ?_⟩
        · unfold b_X4_fillRow_62
          rw [if_neg hc, e1, Option.bind_some, e2, Option.bind_some, if_neg w', nI_1]
        · by_cases e : j' = j
          · rw [e]; exact w
          · exact q j' (by omega)
    · rintro x ⟨rfl, q⟩
      refine ⟨Sum.inr (), ?_, Or.inr ⟨rfl, q⟩⟩
      unfold b_X4_fillRow_62
      exact if_pos (Int32.le_refl _)
  obtain ⟨e, b1, b2⟩ := iter_Q (b := b_X4_fillRow_53 F (nI k) m1) (F := F) (k - 1) (fun i x => x = nI (i + 1) ∧ ∀ a, a < i + 1 → a < k → ∀ j, j < a → cod p s k r a ≠ cod p s k r j) (fun e => (e = Sum.inl () ∧ ¬ unP p s k r) ∨ (e = Sum.inr () ∧ unP p s k r)) (by omega) (by
    rintro i x hi ⟨rfl, q⟩
    have hc : ¬ nI k ≤ nI (i + 1) := nI_ge (by omega) (by omega)
    obtain ⟨e, g1, g2⟩ := inn (i + 1) (by omega)
    rcases g2 with ⟨rfl, g2⟩ | ⟨rfl, g2⟩
    · refine Or.inr ⟨Sum.inl (), ?_, Or.inl ⟨rfl, fun hall => g2 (fun j hj => hall (i + 1) (by omega) j hj)⟩⟩
      unfold b_X4_fillRow_53
      rw [if_neg hc, g1]
      rfl
    · refine Or.inl ⟨nI (i + 1 + 1), ?_, rfl, fun a ha hak j hj => ?_⟩
      · unfold b_X4_fillRow_53
        rw [if_neg hc, g1]
        show some (Sum.inl (nI (i + 1) + 1)) = _
        rw [nI_1]
      · by_cases e : a = i + 1
        · subst e; exact g2 j hj
        · exact q a (by omega) hak j hj) (by
    rintro x ⟨rfl, q⟩
    refine ⟨Sum.inr (), ?_, Or.inr ⟨rfl, fun a ha j hj => q a (by omega) ha j hj⟩⟩
    unfold b_X4_fillRow_53
    exact if_pos (nI_le (by omega) (by omega))) (x := 1) ⟨rfl, fun a ha hak j hj => by omega⟩
  refine ⟨m1, ?_, a2, a3⟩
  unfold f_X4_fillRow
  rw [letv_eq, cvK_0 k hk, a1, Option.bind_some, b1]
  rcases b2 with ⟨rfl, h⟩ | ⟨rfl, h⟩
  · rw [if_neg (fun w => h (unl_iff.mp w))]; rfl
  · rw [if_pos (unl_iff.mpr h)]; rfl
/-- the reference's row, and whether its choices are unlike -/
theorem m_digits {p s : AS} {m : Mm} {F k r : Nat} (hF : 5000 ≤ F) (hp : PL p) (hk : k ≤ 3) (hkc : k ≤ (chL p s).length) (hr : r < (chL p s).length ^ k) (h6 : m 113 30 = nI (chL p s).length) : ∃ m', iter F b_X9_findBest_47 ((nI r, cvK k 0, m) : Int32 × Int32 × Mm) = some m' ∧ (∀ i, i < k → m' 129 i = nI (dig (chL p s).length k r i)) ∧ ∀ b, b ≠ 129 → m' b = m b := by
  have hc14 := chL_len (s := s) hp
  have hpw := pw14 hc14 hk
  obtain ⟨m1, a1, a2, a3⟩ := iter_P (b := b_X9_findBest_47) (F := F) k (fun t x => ∃ m1, x = (nI (r / (chL p s).length ^ t), cvK k t, m1) ∧ (∀ i, i < k → k ≤ i + t → m1 129 i = nI (dig (chL p s).length k r i)) ∧ ∀ b, b ≠ 129 → m1 b = m b) (fun x => (∀ i, i < k → x 129 i = nI (dig (chL p s).length k r i)) ∧ ∀ b, b ≠ 129 → x b = m b) (by omega) (by
    rintro t x ht ⟨m1, rfl, q1, q2⟩
    have hcp : 0 < (chL p s).length := by omega
    have hdl := dig_lt (k := k) (r := r) (i := k - 1 - t) hcp
    have hle : r / (chL p s).length ^ t ≤ r := Nat.div_le_self _ _
    have k1 : ¬ cvK k t < (0 : Int32) := by rw [cvK, if_pos ht]; exact nI_pos (by omega)
    have g6 : m1 113 30 = nI (chL p s).length := by rw [q2 113 (by decide)]; exact h6
    have e1 : orem (nI (r / (chL p s).length ^ t)) (nI (chL p s).length) = some (nI (dig (chL p s).length k r (k - 1 - t))) := by
      rw [oremN (by omega) hcp (by omega), dig_step ht]
    have e3 : ast m1 129 3 (cvK k t) (nI (dig (chL p s).length k r (k - 1 - t))) = some (up2 m1 129 (k - 1 - t) (nI (dig (chL p s).length k r (k - 1 - t)))) := by
      rw [cvK, if_pos ht]
      exact ast_n (by omega) (by decide)
    have e4 : odiv (nI (r / (chL p s).length ^ t)) (nI (chL p s).length) = some (nI (r / (chL p s).length ^ (t + 1))) := by
      rw [odivN (by omega) hcp (by omega), div_step]
    refine ⟨_, ?_, up2 m1 129 (k - 1 - t) (nI (dig (chL p s).length k r (k - 1 - t))), rfl, fun i hi hit => ?_, fun b hb => by rw [up2_ne hb, q2 b hb]⟩
    · unfold b_X9_findBest_47
      dsimp only
      rw [if_neg k1, g6, e1, Option.bind_some, e3, Option.bind_some, up2_cell (by decide), g6, e4, Option.bind_some, cvK_step k hk t ht]
    · by_cases e : i = k - 1 - t
      · rw [e, up2_same]
      · rw [up2_slot e]; exact q1 i hi (by omega)) (by
    rintro x ⟨m1, rfl, q1, q2⟩
    refine ⟨m1, ?_, fun i hi => q1 i hi (by omega), q2⟩
    unfold b_X9_findBest_47
    exact if_pos (show cvK k k < (0 : Int32) from by rw [cvK, if_neg (by omega)]; decide)) (x := (nI r, cvK k 0, m)) ⟨m, by rw [Nat.pow_zero, Nat.div_one], fun i hi hit => absurd hit (by omega), fun _ _ => rfl⟩
  exact ⟨m1, a1, a2, a3⟩
theorem m_unlike {p s : AS} {m : Mm} {F k r : Nat} (hF : 5000 ≤ F) (hp : PL p) (hk : k ≤ 3) (hkc : k ≤ (chL p s).length) (hd : ∀ i, i < k → m 129 i = nI (dig (chL p s).length k r i)) : f_X9_isUnlike F m (nI k) = some (if unl p s k r then 1 else 0) := by
  have hc14 := chL_len (s := s) hp
  have hdb : ∀ i, i < k → dig (chL p s).length k r i < 2 ^ 20 := fun i hi => by
    have := dig_lt (k := k) (r := r) (i := i) (c := (chL p s).length) (by omega)
    omega
  have inn : ∀ i, i < k → ∀ ok : Bool, ∃ e : Int32, iter F (b_X9_isUnlike_12 m ((if ok then 1 else 0), nI i)) (((if ok then 1 else 0), 0) : Int32 × Int32) = some e ∧ ∃ ok2 : Bool, e = (if ok2 then 1 else 0) ∧ (ok2 = true ↔ ok = true ∧ ∀ j, j < i → cod p s k r i ≠ cod p s k r j) := fun i hi ok => by
    refine iter_P (b := b_X9_isUnlike_12 m ((if ok then 1 else 0), nI i)) (F := F) i (fun j x => ∃ ok2 : Bool, x = ((if ok2 then 1 else 0), nI j) ∧ (ok2 = true ↔ ok = true ∧ ∀ j', j' < j → cod p s k r i ≠ cod p s k r j')) (fun e => ∃ ok2 : Bool, e = (if ok2 then 1 else 0) ∧ (ok2 = true ↔ ok = true ∧ ∀ j, j < i → cod p s k r i ≠ cod p s k r j)) (by omega) ?_ ?_ ⟨ok, rfl, ⟨fun q => ⟨q, fun j' hj' => absurd hj' (by omega)⟩, fun q => q.1⟩⟩
    · rintro j x hj ⟨ok2, rfl, q⟩
      have hc : ¬ nI i ≤ nI j := nI_ge hj (by omega)
      have e1 : ald m 129 3 (nI i) = some (nI (dig (chL p s).length k r i)) := by rw [ald_n (by omega) (by decide), hd i hi]
      have e2 : ald m 129 3 (nI j) = some (nI (dig (chL p s).length k r j)) := by rw [ald_n (by omega) (by decide), hd j (by omega)]
      have hcd := cod_dig (s := s) (k := k) (r := r) (i := i) (j := j) hp (by omega)
      cases ok2 with
      | false =>
        refine ⟨_, ?_, false, rfl, ⟨fun w => absurd w (by decide), fun w => absurd (q.mpr ⟨w.1, fun j' hj' => w.2 j' (by omega)⟩) (by decide)⟩⟩
        unfold b_X9_isUnlike_12
        dsimp only
        rw [if_neg hc, show (if false = true then (1 : Int32) else 0) = 0 from rfl, if_pos rfl, Option.bind_some, nI_1]
      | true =>
        have t3 := q.mp rfl
        by_cases w : cod p s k r i = cod p s k r j
        · have w' : nI (dig (chL p s).length k r i) = nI (dig (chL p s).length k r j) := by rw [hcd.mp w]
          refine ⟨_, ?_, false, rfl, ⟨fun w => absurd w (by decide), fun v => absurd w (v.2 j (by omega))⟩⟩
          unfold b_X9_isUnlike_12
          dsimp only
          rw [if_neg hc, if_neg (by decide), e1, Option.bind_some, e2, Option.bind_some, if_pos w', Option.bind_some, nI_1]
          rfl
        · have w' : ¬ nI (dig (chL p s).length k r i) = nI (dig (chL p s).length k r j) := nI_ne (by have := hdb i hi; omega) (by have := hdb j (by omega); omega) (fun e => w (hcd.mpr e))
          refine ⟨_, ?_, true, rfl, ⟨fun _ => ⟨t3.1, fun j' hj' => ?_⟩, fun _ => rfl⟩⟩
          · unfold b_X9_isUnlike_12
            dsimp only
            rw [if_neg hc, if_neg (by decide), e1, Option.bind_some, e2, Option.bind_some, if_neg w', Option.bind_some, nI_1]
            rfl
          · by_cases e : j' = j
            · rw [e]; exact w
            · exact t3.2 j' (by omega)
    · rintro x ⟨ok2, rfl, q⟩
      refine ⟨_, ?_, ok2, rfl, q⟩
      unfold b_X9_isUnlike_12
      exact if_pos (Int32.le_refl _)
  obtain ⟨e, b1, ok, b2, b3⟩ := iter_P (b := b_X9_isUnlike_4 F m (nI k)) (F := F) k (fun i x => ∃ ok : Bool, x = ((if ok then 1 else 0), nI i) ∧ (ok = true ↔ ∀ a, a < i → ∀ j, j < a → cod p s k r a ≠ cod p s k r j)) (fun e => ∃ ok : Bool, e = (if ok then 1 else 0) ∧ (ok = true ↔ unP p s k r)) (by omega) (by
    rintro i x hi ⟨ok, rfl, q⟩
    have hc : ¬ nI k ≤ nI i := nI_ge hi (by omega)
    obtain ⟨e, g1, ok2, rfl, g3⟩ := inn i hi ok
    refine ⟨_, ?_, ok2, rfl, ?_⟩
    · unfold b_X9_isUnlike_4
      dsimp only
      rw [if_neg hc, g1, Option.bind_some, nI_1]
    · rw [g3, q]
      constructor
      · rintro ⟨h1, h2⟩ a ha j hj
        by_cases e : a = i
        · subst e; exact h2 j hj
        · exact h1 a (by omega) j hj
      · intro h
        exact ⟨fun a ha j hj => h a (by omega) j hj, fun j hj => h i (by omega) j hj⟩) (by
    rintro x ⟨ok, rfl, q⟩
    refine ⟨_, ?_, ok, rfl, q⟩
    unfold b_X9_isUnlike_4
    exact if_pos (Int32.le_refl _)) (x := (1, 0)) ⟨true, rfl, ⟨fun _ a ha => absurd ha (by omega), fun _ => rfl⟩⟩
  have hu : unl p s k r = ok := by
    cases ok with
    | true => exact unl_iff.mpr (b3.mp rfl)
    | false =>
      apply eq_false_of_ne_true
      intro w
      exact absurd (b3.mpr (unl_iff.mp w)) (by decide)
  unfold f_X9_isUnlike
  rw [b1, Option.bind_some, b2, hu]
  cases ok
  · exact bG_0
  · exact bG_1

/-! rates, sheet, lay -/
def fitB (v : Nat → Nat) (t r i : Nat) : Bool := decide (v (i + 1) = v i + tIn r (12 * v i / t) (t - v i))
def fitA (v : Nat → Nat) (t r : Nat) : Nat → Bool
  | 0 => true
  | i + 1 => fitA v t r i && fitB v t r i
theorem fitA_all {v : Nat → Nat} {t r : Nat} : ∀ n, fitA v t r n = true ↔ ∀ i, i < n → fitB v t r i = true
  | 0 => ⟨fun _ i hi => absurd hi (by omega), fun _ => rfl⟩
  | n + 1 => by
    rw [fitA, Bool.and_eq_true, fitA_all n]
    constructor
    · rintro ⟨h1, h2⟩ i hi
      by_cases e : i = n
      · rw [e]; exact h2
      · exact h1 i (by omega)
    · intro h
      exact ⟨fun i hi => h i (by omega), h n (by omega)⟩
theorem c_fits {m : Mm} {F z t r : Nat} {v : Nat → Nat} (hF : 5000 ≤ F) (hz : z ≤ 8) (o1 : m 40 0 = nI z) (o3 : ∀ i, i < z → m 41 i = nI (v i) ∧ v i ≤ t) (ht : 1 ≤ t) (ht2 : t ≤ 99) (hr : r ≤ 20) : f_X6_fits F m (nI r) (nI t) = some (if fitA v t r (z - 1) then 1 else 0) := by
  obtain ⟨e, h1, h2⟩ := iter_Q (b := b_X6_fits_2 m (nI r) (nI t)) (F := F) (z - 1) (fun i x => x = nI (i + 1) ∧ fitA v t r i = true) (fun e => (e = Sum.inl () ∧ fitA v t r (z - 1) = false) ∨ (e = Sum.inr () ∧ fitA v t r (z - 1) = true)) (by omega) (by
    rintro i x hi ⟨rfl, q⟩
    have hc : ¬ m 40 0 ≤ nI (i + 1) := by rw [o1]; exact nI_ge (by omega) (by omega)
    have e0 : nI (i + 1) - (1 : Int32) = nI i := nI_pred i
    have e1 : ald m 41 8 (nI i) = some (nI (v i)) := by rw [ald_n (by omega) (by decide), (o3 i (by omega)).1]
    have e2 : ald m 41 8 (nI (i + 1)) = some (nI (v (i + 1))) := by rw [ald_n (by omega) (by decide), (o3 (i + 1) (by omega)).1]
    have hv := (o3 i (by omega)).2
    have hv2 := (o3 (i + 1) (by omega)).2
    have hg : 12 * v i / t ≤ 12 := Nat.div_le_of_le_mul (by rw [Nat.mul_comm]; exact Nat.mul_le_mul_right 12 hv)
    have e3 : f_X8_heightIn (nI t) (nI (v i)) = some (nI (12 * v i / t)) := c_height (by omega) (by omega) (by omega)
    have e4 : f_X8_tonsIn (nI r) (nI (12 * v i / t)) (nI t - nI (v i)) = some (nI (tIn r (12 * v i / t) (t - v i))) := by rw [pk_sub hv]; exact c_tonsIn hr hg (by omega)
    have hti : tIn r (12 * v i / t) (t - v i) ≤ t - v i := tIn_le
    by_cases w : fitB v t r i = true
    · refine Or.inl ⟨nI (i + 1 + 1), ?_, rfl, by rw [fitA, q, w]; rfl⟩
      have w2 : v (i + 1) = v i + tIn r (12 * v i / t) (t - v i) := by simpa [fitB] using w
      unfold b_X6_fits_2
      rw [if_neg hc, e0, e1, Option.bind_some, e2, Option.bind_some, e3, Option.bind_some, e4, Option.bind_some, nI_add, if_pos (by rw [w2]), nI_1]
    · have w2 : ¬ v (i + 1) = v i + tIn r (12 * v i / t) (t - v i) := by simpa [fitB] using w
      have w3 : ¬ nI (v (i + 1)) = nI (v i + tIn r (12 * v i / t) (t - v i)) := nI_ne (by omega) (by omega) w2
      refine Or.inr ⟨Sum.inl (), ?_, Or.inl ⟨rfl, ?_⟩⟩
      · unfold b_X6_fits_2
        rw [if_neg hc, e0, e1, Option.bind_some, e2, Option.bind_some, e3, Option.bind_some, e4, Option.bind_some, nI_add, if_neg w3]
      · apply eq_false_of_ne_true
        intro h
        exact w ((fitA_all _).mp h i hi)) (by
    rintro x ⟨rfl, q⟩
    have hc : m 40 0 ≤ nI (z - 1 + 1) := by rw [o1]; exact nI_le (by omega) (by omega)
    refine ⟨Sum.inr (), ?_, Or.inr ⟨rfl, q⟩⟩
    unfold b_X6_fits_2
    exact if_pos hc) (x := 1) ⟨rfl, rfl⟩
  unfold f_X6_fits
  rw [h1]
  rcases h2 with ⟨rfl, h⟩ | ⟨rfl, h⟩
  · rw [h]; rfl
  · rw [h]; rfl
theorem m_fits {p : AS} {m : Mm} {F z h r : Nat} {v : Nat → Nat} (hF : 5000 ≤ F) (hp : PW p) (pm : PM p m) (hz : z ≤ 8) (o1 : m 113 36 = nI z) (hh : h < p 0 0) (o3 : ∀ i, i < z → m 131 i = nI (v i) ∧ v i ≤ p 1 h) (hr : r ≤ 20) : f_X9_fits F m (nI h) (nI r) = some (if fitA v (p 1 h) r (z - 1) then 1 else 0) := by
  have th := hp.2.1 h hh
  have e0 : ald m 116 32 (4 * nI h) = some (nI (p 1 h)) := pm_h hp.1 pm h 0 hh (by decide) (ixm 4 h)
  have h1 := iter_n (b := b_X9_fits_15 m (nI r) (nI (p 1 h))) (F := F) (fun i => (if fitA v (p 1 h) r i then 1 else 0, nI i)) (z - 1) (if fitA v (p 1 h) r (z - 1) then 1 else 0) (by omega) (by
    intro i hi
    have hc : ¬ m 113 36 ≤ nI i + 1 := by rw [o1, nI_1]; exact nI_ge (by omega) (by omega)
    have e1 : ald m 131 8 (nI i) = some (nI (v i)) := by rw [ald_n (by omega) (by decide), (o3 i (by omega)).1]
    have e2 : ald m 131 8 (nI i + 1) = some (nI (v (i + 1))) := by rw [nI_1, ald_n (by omega) (by decide), (o3 (i + 1) (by omega)).1]
    have hv := (o3 i (by omega)).2
    have hv2 := (o3 (i + 1) (by omega)).2
    have hg : 12 * v i / p 1 h ≤ 12 := Nat.div_le_of_le_mul (by rw [Nat.mul_comm]; exact Nat.mul_le_mul_right 12 hv)
    have hca := come_ar hr hg
    have e3 : (12 : Int32) * nI (v i) = nI (12 * v i) := pk_mul 12 _
    have e4 : odiv (nI (12 * v i)) (nI (p 1 h)) = some (nI (12 * v i / p 1 h)) := odivN (by omega) (by omega) (by omega)
    have e5 : (12 : Int32) - nI (12 * v i / p 1 h) = nI (12 - 12 * v i / p 1 h) := pk_sub (a := 12) hg
    have e6 : nI r * nI (12 - 12 * v i / p 1 h) + (11 : Int32) = nI (r * (12 - 12 * v i / p 1 h) + 11) := ixm1 _ _ 11
    have e7 : odiv (nI (r * (12 - 12 * v i / p 1 h) + 11)) (12 : Int32) = some (nI ((r * (12 - 12 * v i / p 1 h) + 11) / 12)) := odivN (d := 12) (by omega) (by omega) (by omega)
    have e8 : (if nI (p 1 h - v i) ≤ nI ((r * (12 - 12 * v i / p 1 h) + 11) / 12) then some (nI (p 1 h - v i)) else some (nI ((r * (12 - 12 * v i / p 1 h) + 11) / 12))) = some (nI (tIn r (12 * v i / p 1 h) (p 1 h - v i))) := by
      unfold tIn
      by_cases q : p 1 h - v i ≤ (r * (12 - 12 * v i / p 1 h) + 11) / 12
      · rw [if_pos q, if_pos (nI_le q (by omega))]
      · rw [if_neg q, if_neg (nI_ge (by omega) (by omega))]
    have hti : tIn r (12 * v i / p 1 h) (p 1 h - v i) ≤ p 1 h - v i := tIn_le
    have fin : ∀ y : Bool, ((if (if fitA v (p 1 h) r i then (1 : Int32) else 0) = 0 then (some 0) else (if nI (v (i + 1)) = nI (v i) + nI (tIn r (12 * v i / p 1 h) (p 1 h - v i)) then (some 1) else (some 0))) : Option Int32) = some (if y then 1 else 0) → fitA v (p 1 h) r (i + 1) = y → b_X9_fits_15 m (nI r) (nI (p 1 h)) (if fitA v (p 1 h) r i then 1 else 0, nI i) = some (Sum.inl (if fitA v (p 1 h) r (i + 1) then 1 else 0, nI (i + 1))) := by
      intro y hy hf
      unfold b_X9_fits_15
      dsimp only
      rw [if_neg hc, e1, Option.bind_some, e3, e4, Option.bind_some, e5, e6, e7, Option.bind_some, Option.bind_some, letv_eq, pk_sub hv, e2, Option.bind_some, Option.bind_some, e8, Option.bind_some, hy, Option.bind_some, nI_1, hf]
    cases hfi : fitA v (p 1 h) r i with
    | false =>
      rw [hfi] at fin
      exact fin false (if_pos rfl) (by rw [fitA, hfi]; rfl)
    | true =>
      rw [hfi] at fin
      have n1 : ¬ (if true = true then (1 : Int32) else 0) = 0 := by decide
      by_cases w : fitB v (p 1 h) r i = true
      · have w2 : v (i + 1) = v i + tIn r (12 * v i / p 1 h) (p 1 h - v i) := by simpa [fitB] using w
        exact fin true (by rw [if_neg n1, nI_add, if_pos (by rw [w2])]; rfl) (by rw [fitA, hfi, w]; rfl)
      · have w2 : ¬ v (i + 1) = v i + tIn r (12 * v i / p 1 h) (p 1 h - v i) := by simpa [fitB] using w
        have w3 : ¬ nI (v (i + 1)) = nI (v i + tIn r (12 * v i / p 1 h) (p 1 h - v i)) := nI_ne (by omega) (by omega) w2
        exact fin false (by rw [if_neg n1, nI_add, if_neg w3]; rfl) (by rw [fitA, hfi, eq_false_of_ne_true w]; rfl)) (by
    have hc : m 113 36 ≤ nI (z - 1) + 1 := by rw [o1, nI_1]; exact nI_le (by omega) (by omega)
    unfold b_X9_fits_15
    exact if_pos hc)
  unfold f_X9_fits
  rw [e0, Option.bind_some, show ((1, 0) : Int32 × Int32) = (fun i => ((if fitA v (p 1 h) r i then (1 : Int32) else 0), nI i)) 0 from rfl, h1, Option.bind_some]
  cases fitA v (p 1 h) r (z - 1)
  · exact bG_0
  · exact bG_1
def rbS (f : Nat → Bool) : Nat → Int32
  | 0 => 0
  | i + 1 => if f (i + 1) then rbS f i ||| ((1 : Int32) <<< (nI (i + 1) &&& 31)) else rbS f i
theorem op_rates {F c : Nat} (hF : 5000 ≤ F) : OP_rates F (G c) (G (c + 1)) := by
  intro m P D T hG a1
  have hG' := G_mono hG (Nat.le_succ c)
  obtain ⟨hP, hD, hPD, p, s, hp, hI, hFI, ⟨pc, pm, rc, rm⟩, gi, gr, gt, gs, go, gk⟩ := G_alt hG
  obtain ⟨⟨l1, l2, l3, l4⟩, ph, -⟩ := id hp
  obtain ⟨z, v, hz8, o1, o2, o3⟩ := id go
  unfold f_X8_rates f_X9_rates
  rcases is_hold hp.1 pc pm a1 with ⟨h, hh, rfl, h8, h9⟩ | ⟨hx, h8, h9⟩
  case inr => exact ⟨-1, by rw [h8]; rfl, by rw [h9]; rfl, hG'⟩
  have th := ph h hh
  have e1 : ald m (P + 1) 8 (nI h) = some (nI (p 1 h)) := P_ld pc 1 h hh (by omega) (by decide)
  have r1 : ald m 116 32 (4 * nI h) = some (nI (p 1 h)) := pm_h hp.1 pm h 0 hh (by decide) (ixm 4 h)
  rw [h8, h9, Option.bind_some, Option.bind_some, if_neg n10, if_neg n10, e1, Option.bind_some]
  unfold f_X6_ratesThatFit
  -- the first loop, in both
  obtain ⟨x8, b1, b2⟩ := iter_Q (b := b_X6_ratesThatFit_2 m (nI (p 1 h))) (F := F) z (fun i x => x = nI i ∧ ∀ k, k < i → v k ≤ p 1 h) (fun e => (e = Sum.inl () ∧ ¬ ∀ k, k < z → v k ≤ p 1 h) ∨ (e = Sum.inr () ∧ ∀ k, k < z → v k ≤ p 1 h)) (by omega) (by
    rintro i x hi ⟨rfl, q⟩
    obtain ⟨t1, t2, t3⟩ := o3 i hi
    have hc : ¬ m 40 0 ≤ nI i := by rw [o1]; exact nI_ge hi (by omega)
    have e2 : ald m 41 8 (nI i) = some (nI (v i)) := by rw [ald_n (by omega) (by decide), t1]
    by_cases w : v i ≤ p 1 h
    · refine Or.inl ⟨nI (i + 1), ?_, rfl, fun k hk => ?_⟩
      · unfold b_X6_ratesThatFit_2
        rw [if_neg hc, e2, Option.bind_some, if_pos (nI_le w (by omega)), nI_1]
      · by_cases e : k = i
        · rw [e]; exact w
        · exact q k (by omega)
    · refine Or.inr ⟨Sum.inl (), ?_, Or.inl ⟨rfl, fun hall => w (hall i hi)⟩⟩
      unfold b_X6_ratesThatFit_2
      rw [if_neg hc, e2, Option.bind_some, if_neg (nI_ge (by omega) (by omega))]) (by
    rintro x ⟨rfl, q⟩
    refine ⟨Sum.inr (), ?_, Or.inr ⟨rfl, q⟩⟩
    unfold b_X6_ratesThatFit_2
    exact if_pos (by rw [o1]; exact Int32.le_refl _)) (x := 0) ⟨rfl, fun k hk => absurd hk (by omega)⟩
  obtain ⟨x9, d1, d2⟩ := iter_Q (b := b_X9_rates_12 m (nI h)) (F := F) z (fun i x => x = nI i ∧ ∀ k, k < i → v k ≤ p 1 h) (fun e => (e = Sum.inl () ∧ ¬ ∀ k, k < z → v k ≤ p 1 h) ∨ (e = Sum.inr () ∧ ∀ k, k < z → v k ≤ p 1 h)) (by omega) (by
    rintro i x hi ⟨rfl, q⟩
    obtain ⟨t1, t2, t3⟩ := o3 i hi
    have hc : ¬ m 113 36 ≤ nI i := by rw [o2]; exact nI_ge hi (by omega)
    have e2 : ald m 131 8 (nI i) = some (nI (v i)) := by rw [ald_n (by omega) (by decide), t2]
    by_cases w : v i ≤ p 1 h
    · refine Or.inl ⟨nI (i + 1), ?_, rfl, fun k hk => ?_⟩
      · unfold b_X9_rates_12
        rw [if_neg hc, e2, Option.bind_some, r1, Option.bind_some, if_pos (nI_le w (by omega)), nI_1]
      · by_cases e : k = i
        · rw [e]; exact w
        · exact q k (by omega)
    · refine Or.inr ⟨Sum.inl (), ?_, Or.inl ⟨rfl, fun hall => w (hall i hi)⟩⟩
      unfold b_X9_rates_12
      rw [if_neg hc, e2, Option.bind_some, r1, Option.bind_some, if_neg (nI_ge (by omega) (by omega))]) (by
    rintro x ⟨rfl, q⟩
    refine ⟨Sum.inr (), ?_, Or.inr ⟨rfl, q⟩⟩
    unfold b_X9_rates_12
    exact if_pos (by rw [o2]; exact Int32.le_refl _)) (x := 0) ⟨rfl, fun k hk => absurd hk (by omega)⟩
  rw [b1, d1]
  rcases b2 with ⟨rfl, q1⟩ | ⟨rfl, q1⟩
  · rcases d2 with ⟨rfl, q2⟩ | ⟨rfl, q2⟩
    · exact ⟨-1, rfl, rfl, hG'⟩
    · exact absurd q2 q1
  rcases d2 with ⟨rfl, q2⟩ | ⟨rfl, q2⟩
  · exact absurd q1 q2
  have hc8 : iter F (b_X6_ratesThatFit_32 F m (nI (p 1 h))) ((0, 1) : Int32 × Int32) = some (rbS (fun r => fitA v (p 1 h) r (z - 1)) 20) := by
    have g := iter_n (b := b_X6_ratesThatFit_32 F m (nI (p 1 h))) (F := F) (fun i => (rbS (fun r => fitA v (p 1 h) r (z - 1)) i, nI (i + 1))) 20 (rbS (fun r => fitA v (p 1 h) r (z - 1)) 20) (by omega) (by
      intro i hi
      have hc : ¬ (20 : Int32) < nI (i + 1) := nI_nlt (a := 20) (by omega) (by decide)
      have e2 := c_fits (r := i + 1) hF hz8 o1 (t := p 1 h) (v := v) (fun k hk => ⟨(o3 k hk).1, q1 k hk⟩) (by omega) (by omega) (by omega)
      unfold b_X6_ratesThatFit_32
      dsimp only
      rw [if_neg hc, e2, Option.bind_some, nI_1, rbS]
      cases fitA v (p 1 h) (i + 1) (z - 1)
      · rfl
      · rfl) (by
      unfold b_X6_ratesThatFit_32
      exact if_pos (show (20 : Int32) < nI 21 from by decide))
    exact g
  have hc9 : iter F (b_X9_rates_49 F m (nI h)) ((0, 1) : Int32 × Int32) = some (rbS (fun r => fitA v (p 1 h) r (z - 1)) 20) := by
    have g := iter_n (b := b_X9_rates_49 F m (nI h)) (F := F) (fun i => (rbS (fun r => fitA v (p 1 h) r (z - 1)) i, nI (i + 1))) 20 (rbS (fun r => fitA v (p 1 h) r (z - 1)) 20) (by omega) (by
      intro i hi
      have hc : ¬ (21 : Int32) ≤ nI (i + 1) := nI_ge (b := 21) (by omega) (by decide)
      have e2 := m_fits (r := i + 1) hF hp pm hz8 o2 hh (v := v) (fun k hk => ⟨(o3 k hk).2.1, q1 k hk⟩) (by omega)
      unfold b_X9_rates_49
      dsimp only
      rw [if_neg hc, e2, Option.bind_some, nI_1, rbS]
      cases fitA v (p 1 h) (i + 1) (z - 1)
      · rw [show (if false = true then (1 : Int32) else 0) = 0 from rfl, if_pos rfl, Option.bind_some, letv_eq, Int32.or_zero]
        rfl
      · rfl) (by
      unfold b_X9_rates_49
      exact if_pos (show (21 : Int32) ≤ nI 21 from by decide))
    exact g
  refine ⟨rbS (fun r => fitA v (p 1 h) r (z - 1)) 20, ?_, ?_, hG'⟩
  · show ((iter F (b_X6_ratesThatFit_32 F m (nI (p 1 h))) ((0, 1) : Int32 × Int32)).bind fun e6 => some e6).bind _ = _
    rw [hc8]
    rfl
  · show (iter F (b_X9_rates_49 F m (nI h)) ((0, 1) : Int32 × Int32)).bind _ = _
    rw [hc9]
    rfl
theorem shtN : ∀ k, k < 4 → shtOf (nI k) = some (105 + 2 * k) := by
  intro k hk
  have : k = 0 ∨ k = 1 ∨ k = 2 ∨ k = 3 := by omega
  rcases this with rfl | rfl | rfl | rfl <;> decide +kernel
theorem sheet_k {x : Int32} (n : Nat) (hn : n < 2 ^ 20) (hnI : nI n = Int32.ofNat n) : (∃ k, k < n ∧ x = nI k) ∨ x < 0 ∨ nI n ≤ x := by
  rcases pk_ix x (n := n) (by omega) with w | w | ⟨j, hj, rfl⟩
  · exact Or.inr (Or.inl w)
  · exact Or.inr (Or.inr w)
  · exact Or.inl ⟨j, hj, rfl⟩
theorem is_sheet (a b : Int32) : (∃ k l, k < 4 ∧ l < 3 ∧ a = nI k ∧ b = nI l ∧ f_X9_isSheet a b = some 1) ∨ ((a < 0 ∨ (4 : Int32) ≤ a ∨ b < 0 ∨ (3 : Int32) ≤ b) ∧ f_X9_isSheet a b = some 0) := by
  unfold f_X9_isSheet
  rcases in_N a 0 3 (A := 0) (B := 3) (by decide) (by decide) (by decide) (by decide) with ⟨k, -, hk, rfl, h⟩ | ⟨hx, h⟩
  · rw [h, Option.bind_some, if_neg n10]
    rcases in_N b 0 2 (A := 0) (B := 2) (by decide) (by decide) (by decide) (by decide) with ⟨l, -, hl, rfl, h2⟩ | ⟨hx, h2⟩
    · rw [h2]
      exact Or.inl ⟨k, l, by omega, by omega, rfl, rfl, rfl⟩
    · rw [h2]
      refine Or.inr ⟨?_, rfl⟩
      rcases hx with q | q
      · exact Or.inr (Or.inr (Or.inl q))
      · rcases sheet_k (x := b) 3 (by decide) rfl with ⟨j, hj, rfl⟩ | w | w
        · exact absurd q (nI_nlt (by omega) (by omega))
        · exact Or.inr (Or.inr (Or.inl w))
        · exact Or.inr (Or.inr (Or.inr w))
  · rw [h]
    refine Or.inr ⟨?_, rfl⟩
    rcases hx with q | q
    · exact Or.inl q
    · rcases sheet_k (x := a) 4 (by decide) rfl with ⟨j, hj, rfl⟩ | w | w
      · exact absurd q (nI_nlt (by omega) (by omega))
      · exact Or.inl w
      · exact Or.inr (Or.inl w)

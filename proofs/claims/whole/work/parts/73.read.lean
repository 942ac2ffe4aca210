/-! read -/
theorem cmp_l {a b : Nat} (ha : a < 2 ^ 63) (hb : b < 2 ^ 63) : (lg_cmp (lN a) (lN b) < 0) = (a < b) := propext ((lg_cmp_lt _ _).trans (pk_lLT ha hb))
/-- what the machine finds at a record -/
def tcN (a2 : Int32) (l n f i : Nat) : Nat := if a2 = nI l then (if f + 4 * i + 4 ≤ n then 0 else 2) else 3
theorem c_tear0 {m : Mm} {k : Nat} {a2 x : Int32} (h : m (105 + 2 * k) 1 = -4) : f_X5_tearAt m (105 + 2 * k) a2 x 4 = some 1 := by
  unfold f_X5_tearAt
  rw [if_pos h]
theorem c_tear {m : Mm} {k l n f i : Nat} {a2 : Int32} (h0 : m (105 + 2 * k) 0 = nI l) (h1 : m (105 + 2 * k) 1 = nI n) (hn : n ≤ 40) (hf : f + 4 * i < 2 ^ 31) : f_X5_tearAt m (105 + 2 * k) a2 (nI f + 4 * nI i) 4 = some (nI (tcN a2 l n f i)) := by
  have w1 : ¬ m (105 + 2 * k) 1 = (-4 : Int32) := by
    rw [h1, ← nI_NN]
    exact nI_ne (by omega) (by decide) (by omega)
  have e1 : nI f + (4 : Int32) * nI i = nI (f + 4 * i) := by rw [show (4 : Int32) = nI 4 from rfl, pk_mul, nI_add]
  unfold f_X5_tearAt tcN
  rw [if_neg w1, h0, h1, e1]
  by_cases q : a2 = nI l
  · rw [if_pos q, if_pos q, if_neg (nI_pos hf)]
    have e2 : (nI (f + 4 * i) ≤ nI n - 4) ↔ f + 4 * i + 4 ≤ n := by
      rw [Int32.le_iff_toInt_le, show (4 : Int32) = nI 4 from rfl, pk_sub_toInt (by omega) (by decide), nI_toInt hf]
      omega
    by_cases q2 : f + 4 * i + 4 ≤ n
    · rw [if_pos q2, if_pos (e2.mpr q2)]; rfl
    · rw [if_neg q2, if_neg (fun w => q2 (e2.mp w))]; rfl
  · rw [if_neg q, if_neg q]; rfl
theorem c_tearn {m : Mm} {k l n : Nat} {a2 x : Int32} (h0 : m (105 + 2 * k) 0 = nI l) (h1 : m (105 + 2 * k) 1 = nI n) (hn : n ≤ 40) (hx : x < 0) : f_X5_tearAt m (105 + 2 * k) a2 x 4 = some (if a2 = nI l then 2 else 3) := by
  have w1 : ¬ m (105 + 2 * k) 1 = (-4 : Int32) := by
    rw [h1, ← nI_NN]
    exact nI_ne (by omega) (by decide) (by omega)
  unfold f_X5_tearAt
  rw [if_neg w1, h0]
  by_cases q : a2 = nI l
  · rw [if_pos q, if_pos q, if_pos hx]
  · rw [if_neg q, if_neg q]
/-- the reference's four looks, when each gives the same until one fails -/
theorem m_four {m : Mm} {a1 a2 a3 w : Int32} {F i : Nat} (hF : 5000 ≤ F) (R : Int32) (look : Nat → Int32) (hl : ∀ c, c < 4 → (letv ((a3.toInt64 + (((4 : Int32) * nI i).toInt64)) + (nI c).toInt64) fun x11 => (ald m 132 4 a1).bind fun x12 => (if x12 = ((-4) : Int32) then (some 1) else ((ald m 132 4 a1).bind fun x14 => if x14 = a2 then (if (lg_cmp x11 (0 : Int64)) < 0 then (some 2) else ((ald m 133 4 a1).bind fun x15 => if (lg_cmp x11 x15.toInt64) < 0 then (some 0) else (some 2))) else (some 3)) : Option (Int32)).bind fun y13 => some (Sum.inl (y13, nI c + 1))) = (some (Sum.inl (look c, nI c + 1)) : Option ((Int32 × Int32) ⊕ Int32))) (h1 : ∀ c, c < 4 → look c = 0 ∨ look c = R) (h2 : R = 0 ∨ ∃ c, c < 4 ∧ look c = R) : iter F (b_X9_read_47 m a1 a2 a3 (0, w, nI i)) ((0, 0) : Int32 × Int32) = some R := by
  obtain ⟨r, g1, g2⟩ := iter_Q (b := b_X9_read_47 m a1 a2 a3 (0, w, nI i)) (F := F) 4 (fun c x => (x = (0, nI c) ∧ ∀ c', c' < c → look c' = 0) ∨ (x = (R, nI c) ∧ R ≠ 0)) (fun r => r = R) (by omega) (by
    rintro c x hc (⟨rfl, q⟩ | ⟨rfl, q⟩)
    · have hcc : ¬ (4 : Int32) ≤ nI c := nI_ge (b := 4) hc (by decide)
      refine Or.inl ⟨(look c, nI (c + 1)), ?_, ?_⟩
      · unfold b_X9_read_47
        dsimp only
        rw [if_neg hcc, if_pos rfl, hl c hc, nI_1]
      · rcases h1 c hc with w | w
        · left
          refine ⟨by rw [w], fun c' hc' => ?_⟩
          by_cases e : c' = c
          · rw [e]; exact w
          · exact q c' (by omega)
        · by_cases hR : R = 0
          · left
            refine ⟨by rw [w, hR], fun c' hc' => ?_⟩
            by_cases e : c' = c
            · rw [e, w, hR]
            · exact q c' (by omega)
          · exact Or.inr ⟨by rw [w], hR⟩
    · have hcc : ¬ (4 : Int32) ≤ nI c := nI_ge (b := 4) hc (by decide)
      refine Or.inr ⟨R, ?_, rfl⟩
      unfold b_X9_read_47
      dsimp only
      rw [if_neg hcc, if_neg q]) (by
    rintro x (⟨rfl, q⟩ | ⟨rfl, q⟩)
    · refine ⟨0, ?_, ?_⟩
      · unfold b_X9_read_47
        exact if_pos (show (4 : Int32) ≤ nI 4 from by decide)
      · rcases h2 with w | ⟨c, hc, w⟩
        · exact w.symm
        · rw [← w, q c hc]
    · refine ⟨R, ?_, rfl⟩
      unfold b_X9_read_47
      exact if_pos (show (4 : Int32) ≤ nI 4 from by decide)) (x := (0, 0)) (Or.inl ⟨rfl, fun c' hc' => absurd hc' (by omega)⟩)
  rw [g1, g2]
theorem m_tear0 {m : Mm} {a2 a3 w : Int32} {F k i : Nat} (hF : 5000 ≤ F) (hk : k < 4) (h : m 132 k = -4) : iter F (b_X9_read_47 m (nI k) a2 a3 (0, w, nI i)) ((0, 0) : Int32 × Int32) = some 1 := by
  have r1 : ald m 132 4 (nI k) = some (m 132 k) := ald_n hk (by decide)
  refine m_four hF 1 (fun _ => 1) (fun c hc => ?_) (fun _ _ => Or.inr rfl) (Or.inr ⟨0, by decide, rfl⟩)
  rw [letv_eq, r1, Option.bind_some, if_pos h]
  rfl
theorem m_tear3 {m : Mm} {a2 a3 w : Int32} {F k l i : Nat} (hF : 5000 ≤ F) (hk : k < 4) (hl : l ≤ 2) (h : m 132 k = nI l) (hne : ¬ a2 = nI l) : iter F (b_X9_read_47 m (nI k) a2 a3 (0, w, nI i)) ((0, 0) : Int32 × Int32) = some 3 := by
  have r1 : ald m 132 4 (nI k) = some (m 132 k) := ald_n hk (by decide)
  have w2 : ¬ m 132 k = (-4 : Int32) := by
    rw [h, ← nI_NN]
    exact nI_ne (by omega) (by decide) (by omega)
  refine m_four hF 3 (fun _ => 3) (fun c hc => ?_) (fun _ _ => Or.inr rfl) (Or.inr ⟨0, by decide, rfl⟩)
  rw [letv_eq, r1, Option.bind_some, if_neg w2, Option.bind_some, h, if_neg (Ne.symm hne)]
  rfl
theorem m_tear {m : Mm} {a2 w : Int32} {F k l n f i : Nat} (hF : 5000 ≤ F) (hk : k < 4) (hl : l ≤ 2) (hn : n ≤ 40) (h : m 132 k = nI l) (h2 : m 133 k = nI n) (hf : f < 2 ^ 31) (hi : i ≤ 10) : iter F (b_X9_read_47 m (nI k) a2 (nI f) (0, w, nI i)) ((0, 0) : Int32 × Int32) = some (nI (tcN a2 l n f i)) := by
  have r1 : ald m 132 4 (nI k) = some (m 132 k) := ald_n hk (by decide)
  have r2 : ald m 133 4 (nI k) = some (m 133 k) := ald_n hk (by decide)
  have w2 : ¬ m 132 k = (-4 : Int32) := by
    rw [h, ← nI_NN]
    exact nI_ne (by omega) (by decide) (by omega)
  unfold tcN
  by_cases q : a2 = nI l
  · rw [if_pos q]
    have look : ∀ c, c < 4 → (letv (((nI f).toInt64 + (((4 : Int32) * nI i).toInt64)) + (nI c).toInt64) fun x11 => (ald m 132 4 (nI k)).bind fun x12 => (if x12 = ((-4) : Int32) then (some 1) else ((ald m 132 4 (nI k)).bind fun x14 => if x14 = a2 then (if (lg_cmp x11 (0 : Int64)) < 0 then (some 2) else ((ald m 133 4 (nI k)).bind fun x15 => if (lg_cmp x11 x15.toInt64) < 0 then (some 0) else (some 2))) else (some 3)) : Option (Int32)).bind fun y13 => some (Sum.inl (y13, nI c + 1))) = (some (Sum.inl ((if f + 4 * i + c < n then 0 else 2), nI c + 1)) : Option ((Int32 × Int32) ⊕ Int32)) := by
      intro c hc
      have e1 : (nI f).toInt64 + ((4 : Int32) * nI i).toInt64 + (nI c).toInt64 = lN (f + 4 * i + c) := by
        rw [show (4 : Int32) * nI i = nI (4 * i) from pk_mul 4 i, nI_l (by omega), nI_l (by omega), nI_l (by omega), lN_add, lN_add]
      have e2 : ¬ lg_cmp (lN (f + 4 * i + c)) (0 : Int64) < 0 := by
        rw [show (0 : Int64) = lN 0 from rfl, cmp_l (by omega) (by decide)]
        omega
      have e3 : (lg_cmp (lN (f + 4 * i + c)) ((nI n).toInt64) < 0) ↔ f + 4 * i + c < n := by
        rw [nI_l (by omega), cmp_l (by omega) (by omega)]
      rw [letv_eq, r1, r2, Option.bind_some, if_neg w2, Option.bind_some, h, if_pos q.symm, e1, if_neg e2, Option.bind_some, h2]
      by_cases q3 : f + 4 * i + c < n
      · rw [if_pos q3, if_pos (e3.mpr q3)]; rfl
      · rw [if_neg q3, if_neg (fun w => q3 (e3.mp w))]; rfl
    by_cases q2 : f + 4 * i + 4 ≤ n
    · rw [if_pos q2]
      exact m_four hF (nI 0) (fun c => if f + 4 * i + c < n then 0 else 2) look (fun c hc => Or.inl (if_pos (by omega))) (Or.inl rfl)
    · rw [if_neg q2]
      refine m_four hF (nI 2) (fun c => if f + 4 * i + c < n then 0 else 2) look (fun c hc => ?_) (Or.inr ⟨3, by decide, if_neg (by omega)⟩)
      by_cases q3 : f + 4 * i + c < n
      · exact Or.inl (if_pos q3)
      · exact Or.inr (if_neg q3)
  · rw [if_neg q]
    exact m_tear3 hF hk hl h q
theorem m_tearn {m : Mm} {a2 a3 w : Int32} {F k l : Nat} (hF : 5000 ≤ F) (hk : k < 4) (hl : l ≤ 2) (h : m 132 k = nI l) (hx : a3 < 0) : iter F (b_X9_read_47 m (nI k) a2 a3 (0, w, 0)) ((0, 0) : Int32 × Int32) = some (if a2 = nI l then 2 else 3) := by
  by_cases q : a2 = nI l
  case neg =>
    rw [if_neg q]
    exact m_tear3 (i := 0) hF hk hl h q
  rw [if_pos q]
  have r1 : ald m 132 4 (nI k) = some (m 132 k) := ald_n hk (by decide)
  have w2 : ¬ m 132 k = (-4 : Int32) := by
    rw [h, ← nI_NN]
    exact nI_ne (by omega) (by decide) (by omega)
  -- the first look fails; what the others would find is not asked
  have h0 : b_X9_read_47 m (nI k) a2 a3 (0, w, 0) (0, 0) = some (Sum.inl (2, 1)) := by
    have e1 : lg_cmp (a3.toInt64 + ((4 : Int32) * 0).toInt64 + (0 : Int32).toInt64) (0 : Int64) < 0 := by
      have e0 : ((4 : Int32) * 0).toInt64 = 0 := by decide
      have e00 : (0 : Int32).toInt64 = 0 := by decide
      rw [e0, e00, Int64.add_zero, Int64.add_zero, lg_cmp_lt, Int64.lt_iff_toInt_lt, Int32.toInt_toInt64]
      have := Int32.lt_iff_toInt_lt.mp hx
      simpa using this
    unfold b_X9_read_47
    dsimp only
    rw [if_neg (by decide), if_pos rfl, letv_eq, r1, Option.bind_some, if_neg w2, Option.bind_some, h, if_pos q.symm, if_pos e1]
    rfl
  have h1 : b_X9_read_47 m (nI k) a2 a3 (0, w, 0) (2, 1) = some (Sum.inr 2) := by
    unfold b_X9_read_47
    dsimp only
    rw [if_neg (by decide), if_neg (by decide)]
  obtain ⟨F1, rfl⟩ : ∃ F1, F = F1 + 2 := ⟨F - 2, by omega⟩
  rw [show F1 + 2 = (F1 + 1) + 1 from rfl, iter, h0, Option.bind_some, Sum.elim_inl, iter, h1]
  rfl

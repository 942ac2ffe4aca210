/-! sheet, lay -/
theorem op_sheet {F c : Nat} (hF : 5000 ≤ F) : OP_sheet F (G c) (G (c + 1)) := by
  intro m P D T hG a1 a2 a3
  have hG' := G_mono hG (Nat.le_succ c)
  obtain ⟨hP, hD, hPD, p, s, hp, hI, hFI, -, gi, gr, gt, gs, go, gk⟩ := G_alt hG
  unfold f_X8_sheet f_X9_sheet
  rcases is_sheet a1 a2 with ⟨k, l, hk, hl, rfl, rfl, h⟩ | ⟨hx, h⟩
  case inr =>
    refine ⟨-1, m, m, ?_, by rw [h]; rfl, hG'⟩
    by_cases q1 : a1 < 0
    · rw [if_pos q1]
    rw [if_neg q1]
    by_cases q2 : (4 : Int32) ≤ a1
    · rw [if_pos q2]
    rw [if_neg q2]
    by_cases q3 : a2 < 0
    · rw [if_pos q3]
    rw [if_neg q3]
    by_cases q4 : (3 : Int32) ≤ a2
    · rw [if_pos q4]
    rcases hx with q | q | q | q
    · exact absurd q q1
    · exact absurd q q2
    · exact absurd q q3
    · exact absurd q q4
  have k1 : ¬ nI k < (0 : Int32) := nI_pos (by omega)
  have k2 : ¬ (4 : Int32) ≤ nI k := nI_ge (b := 4) hk (by decide)
  have k3 : ¬ nI l < (0 : Int32) := nI_pos (by omega)
  have k4 : ¬ (3 : Int32) ≤ nI l := nI_ge (b := 3) hl (by decide)
  rw [if_neg k1, if_neg k2, if_neg k3, if_neg k4]
  by_cases q5 : a3 ≤ (40 : Int32)
  case neg =>
    refine ⟨-1, m, m, by rw [if_neg q5], by rw [h, Option.bind_some, if_neg n10, if_neg q5], hG'⟩
  by_cases q6 : (0 : Int32) ≤ a3
  case neg =>
    refine ⟨-14, m, m, by rw [if_pos q5, if_neg q6], by rw [h, Option.bind_some, if_neg n10, if_pos q5, if_neg q6], hG'⟩
  obtain ⟨n, hn, rfl⟩ : ∃ n, n ≤ 40 ∧ a3 = nI n := by
    rcases sheet_k (x := a3) 41 (by decide) rfl with ⟨j, hj, rfl⟩ | w | w
    · exact ⟨j, by omega, rfl⟩
    · exact absurd w (Int32.not_lt.mpr q6)
    · exact absurd (Int32.le_trans w q5) (by decide)
  have e1 : ast (upA (up2 (up2 m (105 + 2 * k) 0 (nI l)) (105 + 2 * k) 1 (nI n)) (105 + 2 * k + 1) (fun i => if i < 40 then 0 else (up2 (up2 m (105 + 2 * k) 0 (nI l)) (105 + 2 * k) 1 (nI n)) (105 + 2 * k + 1) i)) 132 4 (nI k) (nI l) = some (up2 (upA (up2 (up2 m (105 + 2 * k) 0 (nI l)) (105 + 2 * k) 1 (nI n)) (105 + 2 * k + 1) (fun i => if i < 40 then 0 else (up2 (up2 m (105 + 2 * k) 0 (nI l)) (105 + 2 * k) 1 (nI n)) (105 + 2 * k + 1) i)) 132 k (nI l)) := ast_n hk (by decide)
  generalize hm1 : upA (up2 (up2 m (105 + 2 * k) 0 (nI l)) (105 + 2 * k) 1 (nI n)) (105 + 2 * k + 1) (fun i => if i < 40 then 0 else (up2 (up2 m (105 + 2 * k) 0 (nI l)) (105 + 2 * k) 1 (nI n)) (105 + 2 * k + 1) i) = m1 at e1
  have e2 : ast (up2 m1 132 k (nI l)) 133 4 (nI k) (nI n) = some (up2 (up2 m1 132 k (nI l)) 133 k (nI n)) := ast_n hk (by decide)
  have f1 : ∀ b, b ≠ 105 + 2 * k → b ≠ 105 + 2 * k + 1 → m1 b = m b := fun b h1 h2 => by rw [← hm1, upA_ne h2, up2_ne h1, up2_ne h1]
  have c0 : m1 (105 + 2 * k) 0 = nI l := by rw [← hm1, upA_ne (by omega), up2_slot (by decide), up2_same]
  have c1 : m1 (105 + 2 * k) 1 = nI n := by rw [← hm1, upA_ne (by omega), up2_same]
  have c2 : ∀ i, i < 40 → m1 (105 + 2 * k + 1) i = 0 := fun i hi => by rw [← hm1, upA_self]; exact if_pos hi
  obtain ⟨m3, d1, d2, d3, d4⟩ := iter_P (b := b_X9_sheet_40 (nI k)) (F := F) 40 (fun i x => ∃ m3, x = (nI i, m3) ∧ (∀ b, b ≠ 134 → m3 b = up2 (up2 m1 132 k (nI l)) 133 k (nI n) b) ∧ (∀ j, j < 40 * k ∨ 40 * k + 40 ≤ j → m3 134 j = m1 134 j) ∧ ∀ j, j < i → m3 134 (40 * k + j) = 0) (fun r => (∀ b, b ≠ 134 → r b = up2 (up2 m1 132 k (nI l)) 133 k (nI n) b) ∧ (∀ j, j < 40 * k ∨ 40 * k + 40 ≤ j → r 134 j = m1 134 j) ∧ ∀ j, j < 40 → r 134 (40 * k + j) = 0) (by omega) (by
    rintro i x hi ⟨m3, rfl, q1, q2, q3⟩
    have hc : ¬ (40 : Int32) ≤ nI i := nI_ge (b := 40) hi (by decide)
    have e3 : ast m3 134 160 (40 * nI k + nI i) 0 = some (up2 m3 134 (40 * k + i) 0) := ast_x (ixm1 40 k i) (by omega) (by decide)
    refine ⟨_, ?_, up2 m3 134 (40 * k + i) 0, rfl, fun b hb => by rw [up2_ne hb, q1 b hb], fun j hj => by rw [up2_slot (by omega), q2 j hj], fun j hj => ?_⟩
    · unfold b_X9_sheet_40
      dsimp only
      rw [if_neg hc, e3, Option.bind_some, nI_1]
    · by_cases e : j = i
      · subst e; rw [up2_same]
      · rw [up2_slot (by omega), q3 j (by omega)]) (by
    rintro x ⟨m3, rfl, q1, q2, q3⟩
    refine ⟨m3, ?_, q1, q2, q3⟩
    unfold b_X9_sheet_40
    exact if_pos (show (40 : Int32) ≤ nI 40 from by decide)) (x := (0, up2 (up2 m1 132 k (nI l)) 133 k (nI n))) ⟨_, rfl, fun _ _ => rfl, fun j _ => by rw [up2_cell (by decide), up2_cell (by decide)], fun j hj => absurd hj (by omega)⟩
  have f2 : ∀ b, b ≠ 105 + 2 * k → b ≠ 105 + 2 * k + 1 → b ≠ 132 → b ≠ 133 → b ≠ 134 → m3 b = m b := fun b h1 h2 h3 h4 h5 => by rw [d2 b h5, up2_ne h4, up2_ne h3, f1 b h1 h2]
  refine ⟨1, m1, m3, ?_, ?_, G_chg hG (Nat.le_succ c) (fun b hb => f2 b (by omega) (by omega) (by omega) (by omega) (by omega)) (fun i hi => by rw [f2 113 (by omega) (by omega) (by decide) (by decide) (by decide)]) (GR_fr gr (by rw [f2 1 (by omega) (by omega) (by decide) (by decide) (by decide)]) (f2 2 (by omega) (by omega) (by decide) (by decide) (by decide)) (f2 127 (by omega) (by omega) (by decide) (by decide) (by decide)) (by rw [f2 113 (by omega) (by omega) (by decide) (by decide) (by decide)]) (by rw [f2 113 (by omega) (by omega) (by decide) (by decide) (by decide)]) (by rw [f2 0 (by omega) (by omega) (by decide) (by decide) (by decide)])) ?_ (fun i hi => ?_) (GO_fr go (f2 40 (by omega) (by omega) (by decide) (by decide) (by decide)) (f2 41 (by omega) (by omega) (by decide) (by decide) (by decide)) (f2 131 (by omega) (by omega) (by decide) (by decide) (by decide)) (by rw [f2 113 (by omega) (by omega) (by decide) (by decide) (by decide)]))⟩
  · rw [if_pos q5, if_pos q6, shtN k hk, Option.bind_some]
    unfold f_X5_renew
    rw [letv_eq, letv_eq, fill_n, Option.bind_some, hm1]
    rfl
  · rw [h, Option.bind_some, if_neg n10, if_pos q5, if_pos q6, e1, Option.bind_some, e2, Option.bind_some, d1]
    rfl
  · unfold GT
    rw [f2 0 (by omega) (by omega) (by decide) (by decide) (by decide), f2 113 (by omega) (by omega) (by decide) (by decide) (by decide)]
    exact gt
  · by_cases e : i = k
    · subst e
      refine Or.inr ⟨l, n, by omega, hn, ?_, ?_, ?_, ?_, fun j hj => ?_⟩
      · rw [d2 _ (by omega), up2_ne (by omega), up2_ne (by omega)]; exact c0
      · rw [d2 132 (by decide), up2_cell (by decide), up2_same]
      · rw [d2 _ (by omega), up2_ne (by omega), up2_ne (by omega)]; exact c1
      · rw [d2 133 (by decide), up2_same]
      · rw [d2 _ (by omega), up2_ne (by omega), up2_ne (by omega), c2 j hj, d4 j hj]
    · have g := gs i hi
      have w1 : m3 (105 + 2 * i) = m (105 + 2 * i) := f2 _ (by omega) (by omega) (by omega) (by omega) (by omega)
      have w2 : m3 (105 + 2 * i + 1) = m (105 + 2 * i + 1) := f2 _ (by omega) (by omega) (by omega) (by omega) (by omega)
      have w3 : m3 132 i = m 132 i := by rw [d2 132 (by decide), up2_cell (by decide), up2_slot e, f1 132 (by omega) (by omega)]
      have w4 : m3 133 i = m 133 i := by rw [d2 133 (by decide), up2_slot e, up2_cell (by decide), f1 133 (by omega) (by omega)]
      have w5 : ∀ j, j < 40 → m3 134 (40 * i + j) = m 134 (40 * i + j) := fun j hj => by rw [d3 _ (by omega), f1 134 (by omega) (by omega)]
      rw [w1, w2, w3, w4]
      refine g.imp id ?_
      rintro ⟨l', n', g1, g2, g3, g4, g5, g6, g7⟩
      exact ⟨l', n', g1, g2, g3, g4, g5, g6, fun j hj => by rw [w5 j hj]; exact g7 j hj⟩
theorem op_lay {F c : Nat} : OP_lay F (G c) (G (c + 1)) := by
  intro m P D T hG a1 a2 a3
  have hG' := G_mono hG (Nat.le_succ c)
  obtain ⟨hP, hD, hPD, p, s, hp, hI, hFI, -, gi, gr, gt, gs, go, gk⟩ := G_alt hG
  unfold f_X8_lay f_X9_lay
  rcases in_N a1 0 3 (A := 0) (B := 3) (by decide) (by decide) (by decide) (by decide) with ⟨k, -, hk, rfl, h⟩ | ⟨hx, h⟩
  case inr =>
    refine ⟨-1, m, m, ?_, by unfold f_X9_isSheet; rw [h]; rfl, hG'⟩
    rcases hx with q | q
    · rw [if_pos (show a1 < (0 : Int32) from q)]
    · have w : ¬ a1 < (4 : Int32) := by
        intro w
        rcases sheet_k (x := a1) 4 (by decide) rfl with ⟨j, hj, rfl⟩ | v | v
        · exact nI_nlt (by omega) (by omega) q
        · exact absurd (Int32.lt_trans q v) (by decide)
        · exact absurd w (Int32.not_lt.mpr v)
      rw [if_neg w]
      split <;> rfl
  have hk4 : k < 4 := by omega
  have k1 : ¬ nI k < (0 : Int32) := nI_pos (by omega)
  have k2 : nI k < (4 : Int32) := nI_lt (b := 4) hk4 (by decide)
  have h00 : f_X9_in (0 : Int32).toInt64 0 2 = some 1 := by decide +kernel
  have hS : f_X9_isSheet (nI k) 0 = some 1 := by
    unfold f_X9_isSheet
    rw [h, Option.bind_some, if_neg n10, h00]
    rfl
  have r1 : ald m 132 4 (nI k) = some (m 132 k) := ald_n hk4 (by decide)
  have r2 : ald m 133 4 (nI k) = some (m 133 k) := ald_n hk4 (by decide)
  rw [if_neg k1, if_pos k2, shtN k hk4, Option.bind_some, Option.bind_some, Option.bind_some]
  unfold f_X5_tearAt
  rcases gs k hk4 with ⟨g1, g2⟩ | ⟨l, n, hl, hn, g1, g2, g3, g4, g5⟩
  · refine ⟨-11, m, m, ?_, ?_, hG'⟩
    · rw [if_pos g1]
      rfl
    · rw [hS, Option.bind_some, if_neg n10, r1, Option.bind_some, if_pos g2]
  have w1 : ¬ m (105 + 2 * k) 1 = (-4 : Int32) := by
    rw [g3, ← nI_NN]
    exact nI_ne (by omega) (by decide) (by omega)
  have w2 : ¬ m 132 k = (-4 : Int32) := by
    rw [g2, ← nI_NN]
    exact nI_ne (by omega) (by decide) (by omega)
  rw [if_neg w1, if_pos rfl, g3]
  have lead : ∀ (z : Int32 × Mm) (x : Int32), (f_X9_in a2.toInt64 0 ((nI n - 1).toInt64)) = some x → ∀ m1 : Mm, m1 132 = m 132 → m1 133 = m 133 → (((if x = 0 then (some ((-12), m1)) else ((ald m1 132 4 (nI k)).bind fun x7 => (if x7 = 0 then (some a3.toInt8.toInt32) else ((ald m1 132 4 (nI k)).bind fun x9 => if x9 = (1 : Int32) then (some a3.toInt16.toInt32) else (some a3)) : Option (Int32)).bind fun y8 => (ast m1 134 160 (((40 : Int32) * (nI k)) + a2) y8).bind fun m10 => some (1, m10))) : Option (Int32 × Mm)) = some z) → ((f_X9_isSheet (nI k) 0).bind fun x1 => if x1 = 0 then (some ((-1), m1)) else ((ald m1 132 4 (nI k)).bind fun x3 => if x3 = ((-4) : Int32) then (some ((-11), m1)) else ((ald m1 133 4 (nI k)).bind fun x4 => (f_X9_in a2.toInt64 0 ((x4 - (1 : Int32)).toInt64)).bind fun x5 => if x5 = 0 then (some ((-12), m1)) else ((ald m1 132 4 (nI k)).bind fun x7 => (if x7 = 0 then (some a3.toInt8.toInt32) else ((ald m1 132 4 (nI k)).bind fun x9 => if x9 = (1 : Int32) then (some a3.toInt16.toInt32) else (some a3)) : Option (Int32)).bind fun y8 => (ast m1 134 160 (((40 : Int32) * (nI k)) + a2) y8).bind fun m10 => some (1, m10))))) = some z := by
    intro z x hx m1 hm1 hm2 hz
    have r1' : ald m1 132 4 (nI k) = some (m 132 k) := by rw [ald_n hk4 (by decide), hm1]
    have r2' : ald m1 133 4 (nI k) = some (m 133 k) := by rw [ald_n hk4 (by decide), hm2]
    rw [r1'] at hz
    rw [hS, Option.bind_some, if_neg n10, r1', Option.bind_some, if_neg w2, r2', Option.bind_some, g4, hx, Option.bind_some]
    exact hz
  rcases in_cnt a2 n (A := 0) (B := (nI n - 1).toInt64) (by decide) rfl (by omega) with ⟨j, hj, rfl, hin⟩ | ⟨hx, hin⟩
  · have k5 : ¬ nI j < (0 : Int32) := nI_pos (by omega)
    have k6 : nI j ≤ nI n - 1 := by rw [show nI n - 1 = nI (n - 1) from pk_sub (b := 1) (by omega)]; exact nI_le (by omega) (by omega)
    rw [if_neg k5, if_pos k6, Option.bind_some, if_pos rfl]
    unfold f_X5_store
    obtain ⟨y, hy8, hy9⟩ : ∃ y, (if nI l = 0 then (some a3.toInt8.toInt32) else (if nI l = (1 : Int32) then (some a3.toInt16.toInt32) else (some a3)) : Option (Int32)) = some y ∧ (if nI l = 0 then (some a3.toInt8.toInt32) else ((some (nI l)).bind fun x9 => if x9 = (1 : Int32) then (some a3.toInt16.toInt32) else (some a3)) : Option (Int32)) = some y := by
      by_cases q : nI l = 0
      · exact ⟨_, if_pos q, if_pos q⟩
      · rw [if_neg q, if_neg q, Option.bind_some]
        by_cases q2 : nI l = (1 : Int32)
        · exact ⟨_, if_pos q2, if_pos q2⟩
        · exact ⟨_, if_neg q2, if_neg q2⟩
    have e1 : ast m (105 + 2 * k + 1) 40 (nI j) y = some (up2 m (105 + 2 * k + 1) j y) := ast_n (by omega) (by decide)
    have e2 : ast (up2 m (105 + 2 * k + 1) j y) 134 160 (40 * nI k + nI j) y = some (up2 (up2 m (105 + 2 * k + 1) j y) 134 (40 * k + j) y) := ast_x (ixm1 40 k j) (by omega) (by decide)
    have f2 : ∀ b, b ≠ 105 + 2 * k + 1 → b ≠ 134 → up2 (up2 m (105 + 2 * k + 1) j y) 134 (40 * k + j) y b = m b := fun b h1 h2 => by rw [up2_ne h2, up2_ne h1]
    refine ⟨1, up2 m (105 + 2 * k + 1) j y, up2 (up2 m (105 + 2 * k + 1) j y) 134 (40 * k + j) y, ?_, ?_, G_chg hG (Nat.le_succ c) (fun b hb => f2 b (by omega) (by omega)) (fun i hi => by rw [f2 113 (by omega) (by decide)]) (GR_fr gr (by rw [f2 1 (by omega) (by decide)]) (f2 2 (by omega) (by decide)) (f2 127 (by omega) (by decide)) (by rw [f2 113 (by omega) (by decide)]) (by rw [f2 113 (by omega) (by decide)]) (by rw [f2 0 (by omega) (by decide)])) ?_ (fun i hi => ?_) (GO_fr go (f2 40 (by omega) (by decide)) (f2 41 (by omega) (by decide)) (f2 131 (by omega) (by decide)) (by rw [f2 113 (by omega) (by decide)]))⟩
    · rw [g1, hy8, Option.bind_some, e1]
      rfl
    · refine lead _ 1 hin (up2 m (105 + 2 * k + 1) j y) (up2_ne (by omega)) (up2_ne (by omega)) ?_
      have r1' : ald (up2 m (105 + 2 * k + 1) j y) 132 4 (nI k) = some (nI l) := by rw [ald_n hk4 (by decide), up2_cell (by omega), g2]
      rw [if_neg n10, r1', Option.bind_some, hy9, Option.bind_some, e2]
      rfl
    · unfold GT
      rw [f2 0 (by omega) (by decide), f2 113 (by omega) (by decide)]
      exact gt
    · have w0 : up2 (up2 m (105 + 2 * k + 1) j y) 134 (40 * k + j) y (105 + 2 * i) = m (105 + 2 * i) := f2 _ (by omega) (by omega)
      rw [w0, f2 132 (by omega) (by decide), f2 133 (by omega) (by decide)]
      refine (gs i hi).imp id ?_
      rintro ⟨l', n', t1, t2, t3, t4, t5, t6, t7⟩
      refine ⟨l', n', t1, t2, t3, t4, t5, t6, fun q hq => ?_⟩
      by_cases e : i = k
      · subst e
        rw [up2_cell (by omega)]
        by_cases e2 : q = j
        · subst e2
          rw [up2_same, up2_same]
        · rw [up2_slot e2, up2_slot (by omega), up2_cell (by omega)]
          exact t7 q hq
      · rw [f2 _ (by omega) (by omega), up2_slot (by omega), up2_cell (by omega)]
        exact t7 q hq
  · refine ⟨-12, m, m, ?_, lead (-12, m) 0 hin m rfl rfl (if_pos rfl), hG'⟩
    have : (if a2 < 0 then (some (2 : Int32)) else (if a2 ≤ (nI n - 1) then (some 0) else (some 2))) = some 2 := by
      rcases hx with q | q
      · rw [if_pos q]
      · by_cases q0 : a2 < 0
        · rw [if_pos q0]
        · have : ¬ a2 ≤ nI n - 1 := by
            have hlt : nI n - 1 < nI n := by
              rw [Int32.lt_iff_toInt_lt, show (1 : Int32) = nI 1 from rfl, pk_sub_toInt (by omega) (by decide), nI_toInt (by omega)]
              omega
            exact Int32.not_le.mpr (Int32.lt_of_lt_of_le hlt q)
          rw [if_neg q0, if_neg this]
    rw [this]
    rfl

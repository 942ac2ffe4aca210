/-! best: the reference's search -/
def KR (p s : AS) (k : Nat) (m : Mm) (a : Option (Nat × Nat × Nat)) : Prop := match a with
  | none => m 113 34 = -1
  | some q => m 113 34 = nI (lgN q.1) ∧ m 113 35 = nI q.2.1 ∧ (q.1 = 4294967292 ∨ q.1 ≤ 120) ∧ q.2.1 < 2 ^ 20 ∧ ∀ i, i < k → m 130 i = nI (cod p s k q.2.2 i)
theorem m_copy0 {m : Mm} {F k : Nat} (hF : 5000 ≤ F) (hk : k ≤ 3) : iter F (b_X9_findBest_187 (nI k) 0) ((0, m) : Int32 × Mm) = some m := by
  refine iter_n (b := b_X9_findBest_187 (nI k) 0) (F := F) (fun i => ((nI i, m) : Int32 × Mm)) k m (by omega) (fun i hi => ?_) ?_
  · have hid : up2 m 130 i (m 130 i) = m := by
      funext a b
      by_cases q : a = 130
      · subst q
        by_cases q2 : b = i
        · subst q2; rw [up2_same]
        · rw [up2_slot q2]
      · rw [up2_ne q]
    unfold b_X9_findBest_187
    dsimp only
    rw [if_neg (nI_ge hi (by omega)), if_pos rfl, ald_n (by omega) (by decide), Option.bind_some, Option.bind_some, ast_n (by omega) (by decide), Option.bind_some, nI_1, hid]
  · unfold b_X9_findBest_187
    exact if_pos (Int32.le_refl _)
theorem m_copy1 {p s : AS} {m : Mm} {F k r : Nat} (hF : 5000 ≤ F) (hp : PL p) (hk : k ≤ 3) (hkc : k ≤ (chL p s).length) (hdig : ∀ i, i < k → m 129 i = nI (dig (chL p s).length k r i)) (hch : LC m 128 (chL p s)) : ∃ m', iter F (b_X9_findBest_187 (nI k) 1) ((0, m) : Int32 × Mm) = some m' ∧ (∀ i, i < k → m' 130 i = nI (cod p s k r i)) ∧ ∀ b, b ≠ 130 → m' b = m b := by
  exact iter_P (b := b_X9_findBest_187 (nI k) 1) (F := F) k (fun i x => ∃ m1, x = (nI i, m1) ∧ (∀ j, j < i → m1 130 j = nI (cod p s k r j)) ∧ ∀ b, b ≠ 130 → m1 b = m b) (fun m' => (∀ i, i < k → m' 130 i = nI (cod p s k r i)) ∧ ∀ b, b ≠ 130 → m' b = m b) (by omega) (by
    rintro i x hi ⟨m1, rfl, q1, q2⟩
    have hc0 : 0 < (chL p s).length := by omega
    have hl14 := chL_len (s := s) hp
    have hdl : dig (chL p s).length k r i < (chL p s).length := dig_lt hc0
    have e129 : ald m1 129 3 (nI i) = some (nI (dig (chL p s).length k r i)) := by
      rw [ald_n (by omega) (by decide), q2 129 (by decide), hdig _ hi]
    have e128 : ald m1 128 14 (nI (dig (chL p s).length k r i)) = some (nI (cod p s k r i)) := by
      rw [ald_n (by omega) (by decide), q2 128 (by decide), hch _ hdl]; rfl
    refine ⟨_, ?_, up2 m1 130 i (nI (cod p s k r i)), rfl, fun j hj => ?_, fun b hb => by rw [up2_ne hb, q2 b hb]⟩
    · unfold b_X9_findBest_187
      dsimp only
      rw [if_neg (nI_ge hi (by omega)), if_neg (by decide), e129, Option.bind_some, e128, Option.bind_some, Option.bind_some, ast_n (by omega) (by decide), Option.bind_some, nI_1]
    · by_cases e : j = i
      · subst e; rw [up2_same]
      · rw [up2_slot e]; exact q1 j (by omega)) (by
    rintro x ⟨m1, rfl, q1, q2⟩
    refine ⟨m1, ?_, q1, q2⟩
    unfold b_X9_findBest_187
    exact if_pos (Int32.le_refl _)) ⟨m, rfl, fun j hj => absurd hj (by omega), fun _ _ => rfl⟩
def LR (p s : AS) (m : Mm) : Prop := m 113 30 = nI (chL p s).length ∧ LC m 128 (chL p s)
theorem lg_eq {a b : Nat} (ha : a = 4294967292 ∨ a ≤ 120) (hb : b = 4294967292 ∨ b ≤ 120) : (nI (lgN a) = nI (lgN b)) = (a = b) := by
  have h1 : lgN a < 2 ^ 31 := by unfold lgN; split <;> omega
  have h2 : lgN b < 2 ^ 31 := by unfold lgN; split <;> omega
  rw [nq (by omega) (by omega)]
  unfold lgN
  apply propext
  by_cases qa : a = 4294967292 <;> by_cases qb : b = 4294967292 <;> simp [qa, qb] <;> omega
theorem m_bestRow {p s : AS} {m : Mm} {F M k n r : Nat} {e2 : Int32} {a : Option (Nat × Nat × Nat)} (hF : 5000 ≤ F) (hp : PW p) (pm : PM p m) (hI : SI p M s) (rm : RM p s m 0) (hM : M + 120 ≤ 2 ^ 20) (hk : k ≤ 3) (hkc : k ≤ (chL p s).length) (hn : n ≤ 60) (hr : r < (chL p s).length ^ k) (he : ¬ e2 ≤ nI r) (hl : LR p s m) (ha : KR p s k m a) : ∃ m2, b_X9_findBest_32 F (nI k) (nI n) e2 (nI r, m) = some (Sum.inl (nI (r + 1), m2)) ∧ KR p s k m2 (stepB p s k n r a) ∧ LR p s m2 ∧ FQ m m2 := by
  obtain ⟨h30, hch⟩ := hl
  have hz := hI.2.1.1
  obtain ⟨m1, a1, a2, a3⟩ := m_digits (F := F) hF hp.1 hk hkc hr h30
  have a1' : iter F b_X9_findBest_47 ((nI r, nI k - (1 : Int32), m) : Int32 × Int32 × Mm) = some m1 := by rw [cvK_0 k hk]; exact a1
  have b1 := m_unlike (F := F) hF hp.1 hk hkc a2
  have ch1 : LC m1 128 (chL p s) := fun i hi => by rw [a3 128 (by decide)]; exact hch i hi
  have f1 : FQ m m1 := ⟨fun b q1 q2 q3 q4 q5 => a3 b q4, fun i _ => by rw [a3 114 (by decide)], fun i _ _ _ _ => by rw [a3 113 (by decide)]⟩
  have k1 : ∀ m', m' 113 = m 113 → m' 130 = m 130 → KR p s k m' a := fun m' h1 h2 => by
    cases a with
    | none => show m' 113 34 = -1; rw [h1]; exact ha
    | some q =>
      obtain ⟨g1, g2, g3, g4, g5⟩ := ha
      exact ⟨by rw [h1]; exact g1, by rw [h1]; exact g2, g3, g4, fun i hi => by rw [h2]; exact g5 i hi⟩
  by_cases hu : unl p s k r = true
  case neg =>
    rw [if_neg hu] at b1
    refine ⟨m1, ?_, ?_, ⟨by rw [a3 113 (by decide)]; exact h30, ch1⟩, f1⟩
    · unfold b_X9_findBest_32
      dsimp only
      rw [if_neg he, letv_eq, a1', Option.bind_some, b1, Option.bind_some, if_pos rfl, Option.bind_some, nI_1]
    · unfold stepB
      rw [if_neg hu]
      exact k1 m1 (a3 113 (by decide)) (a3 130 (by decide))
  rw [if_pos hu] at b1
  have pm1 := PM_FQ pm f1
  have rm1 : RM p s m1 0 := RM_fr hp.1 hz rm (fun i _ hi => f1.2.1 i (by omega))
  obtain ⟨Y, m3, c1, c2, c3, c4, c5⟩ := m_tries (F := F) (n := n) hF hp hM hk hkc hn hu pm1 hI rm1 a2 ch1
  obtain ⟨j1, -, j3⟩ := rowO_I (k := k) (r := r) hp hI (by omega) hk hkc
  have pm3 : PM p m3 := PM_FM (B := 384) pm1 c3.1
  have rm3 : RM p s m3 0 := RM_fr hp.1 hz rm1 (fun i _ hi => c3.2 i (by omega))
  have hY0 : Y 0 = runS p n (rowO p s k r) 0 := funext fun i => c5 0 i (by decide)
  have hY1 : Y 1 = runS p n (rowO p s k r) 1 := funext fun i => c5 1 i (by decide)
  have hun : untS s Y = rowM p s k n r := by unfold rowM untS; rw [hY0]
  have r0 : f_X9_untilSunk m3 = some (nI (rowM p s k n r)) := by
    rw [m_until hp rm3 c2 hz c4.2.1.1 hI.2.2.1 c4.2.2.1 (fun q1 q2 => by
      have := (runS_seen hp j1 (by rw [j3 0 (by decide)]; exact q1) n (by omega)).2 (by rw [← hY0]; exact q2)
      rw [j3 0 (by decide)] at this
      rw [hY0]
      omega), hun]
  have hb1 := rowM_b (k := k) (r := r) (n := n) hp hI hM hk hkc hn
  have hb2 := rowA_b (k := k) (r := r) (n := n) hp hI hM hk hkc hn
  have r1 := longer_n hb1
  have r2 : ∀ m', PM p m' → RM p Y m' 384 → f_X9_allOf F m' 384 = some (nI (rowA p s k n r)) := fun m' h1 h2 => by
    have := m_all (B := 384) (F := F) hp (by decide) h1 c4.2.1.1 h2 (by omega)
    rw [hY1] at this
    exact this
  have h113 : m3 113 = m 113 := by rw [c3.1 113 (by decide), a3 113 (by decide)]
  have h130 : m3 130 = m 130 := by rw [c3.1 130 (by decide), a3 130 (by decide)]
  have h128 : m3 128 = m 128 := by rw [c3.1 128 (by decide), a3 128 (by decide)]
  have h129 : m3 129 = m1 129 := c3.1 129 (by decide)
  -- taken or not
  obtain ⟨y, hy1, hy2⟩ : ∃ y : Int32, (if (m3 113 34) < nI (lgN (rowM p s k n r)) then (some 1) else (if nI (lgN (rowM p s k n r)) = (m3 113 34) then ((f_X9_allOf F m3 384).bind fun x23 => if (m3 113 35) ≤ x23 then (some 0) else (some 1)) else (some 0)) : Option (Int32)) = some y ∧ ((y = 1 ∧ stepB p s k n r a = some (rowM p s k n r, rowA p s k n r, r)) ∨ (y = 0 ∧ stepB p s k n r a = a)) := by
    have hlg : lgN (rowM p s k n r) < 2 ^ 31 := by unfold lgN; split <;> omega
    rw [h113, r2 m3 pm3 c2]
    unfold stepB
    rw [if_pos hu]
    cases a with
    | none =>
      have h34 : m 113 34 = -1 := ha
      refine ⟨1, ?_, Or.inl ⟨rfl, rfl⟩⟩
      rw [if_pos]
      rw [h34]
      exact Int32.lt_of_lt_of_le (b := 0) (by decide) (nI_le (a := 0) (by omega) hlg)
    | some q =>
      obtain ⟨g1, g2, g3, g4, g5⟩ := ha
      have e1 := ltr_lg hb1 g3
      have e2 := lg_eq hb1 g3
      rw [g1, g2]
      dsimp only
      cases hl : ltr (rowM p s k n r) q.1 with
      | true =>
        refine ⟨1, ?_, Or.inl ⟨rfl, ?_⟩⟩
        · rw [if_pos]
          refine Int32.not_le.mp ?_
          rw [e1, hl]
          decide
        · rw [if_pos (by simp)]
      | false =>
        have n1 : ¬ nI (lgN q.1) < nI (lgN (rowM p s k n r)) := Int32.not_lt.mpr (by rw [e1]; exact hl)
        rw [if_neg n1]
        by_cases w1 : rowM p s k n r = q.1
        · rw [if_pos (by rw [w1]), Option.bind_some]
          by_cases w2 : q.2.1 ≤ rowA p s k n r
          · exact ⟨0, if_pos (nI_le w2 (by omega)), Or.inr ⟨rfl, if_neg (by simp [w1, Nat.not_lt.mpr w2])⟩⟩
          · exact ⟨1, if_neg (nI_ge (by omega) (by omega)), Or.inl ⟨rfl, if_pos (by simp [w1, Nat.not_le.mp w2])⟩⟩
        · have w1' : ¬ nI (lgN (rowM p s k n r)) = nI (lgN q.1) := by rw [e2]; exact w1
          exact ⟨0, by rw [if_neg w1'], Or.inr ⟨rfl, if_neg (by simp [w1])⟩⟩
  rcases hy2 with ⟨rfl, hst⟩ | ⟨rfl, hst⟩
  · -- taken
    have pm4 : PM p (up2 m3 113 34 (nI (lgN (rowM p s k n r)))) := PM_FQ pm3 (FQ.up (by omega))
    have rm4 : RM p Y (up2 m3 113 34 (nI (lgN (rowM p s k n r)))) 384 := RM_cell c2 (up2_ne (by decide))
    generalize hm4 : up2 m3 113 34 (nI (lgN (rowM p s k n r))) = m4 at pm4 rm4
    have f4 : FQ m3 m4 := by rw [← hm4]; exact FQ.up (by omega)
    have f5 : FQ m4 (up2 m4 113 35 (nI (rowA p s k n r))) := FQ.up (by omega)
    generalize hm5 : up2 m4 113 35 (nI (rowA p s k n r)) = m5 at f5
    have s5 : ∀ b, b ≠ 113 → m5 b = m3 b := fun b hb => by rw [← hm5, up2_ne hb, ← hm4, up2_ne hb]
    obtain ⟨m6, i1, i2, i3⟩ := m_copy1 (m := m5) (F := F) (r := r) hF hp.1 hk hkc (fun i hi => by rw [s5 129 (by decide), h129]; exact a2 i hi) (fun i hi => by rw [s5 128 (by decide), h128]; exact hch i hi)
    have f6 : FQ m5 m6 := ⟨fun b q1 q2 q3 q4 q5 => i3 b q5, fun i _ => by rw [i3 114 (by decide)], fun i _ _ _ _ => by rw [i3 113 (by decide)]⟩
    refine ⟨m6, ?_, ?_, ⟨?_, fun i hi => ?_⟩, f1.tr (c3.fq.tr (f4.tr (f5.tr f6)))⟩
    · unfold b_X9_findBest_32
      dsimp only
      rw [if_neg he, letv_eq, a1', Option.bind_some, b1, Option.bind_some, if_neg (by decide), c1, Option.bind_some, r0, Option.bind_some, r1, Option.bind_some, hy1, Option.bind_some, if_neg (by decide), Option.bind_some, letv_eq, hm4, if_neg (by decide), r2 m4 pm4 rm4, Option.bind_some, Option.bind_some, letv_eq, hm5, i1, Option.bind_some, Option.bind_some, nI_1]
    · rw [hst]
      refine ⟨?_, ?_, hb1, hb2, i2⟩
      · show m6 113 34 = nI (lgN (rowM p s k n r))
        rw [i3 113 (by decide), ← hm5, up2_slot (by decide), ← hm4, up2_same]
      · show m6 113 35 = nI (rowA p s k n r)
        rw [i3 113 (by decide), ← hm5, up2_same]
    · rw [i3 113 (by decide), ← hm5, up2_slot (by decide), ← hm4, up2_slot (by decide), h113]; exact h30
    · rw [i3 128 (by decide), s5 128 (by decide), h128]; exact hch i hi
  · -- not taken
    have hid : ∀ i, up2 m3 113 i (m3 113 i) = m3 := fun i => by
      funext a b
      by_cases q : a = 113
      · subst q
        by_cases q2 : b = i
        · subst q2; rw [up2_same]
        · rw [up2_slot q2]
      · rw [up2_ne q]
    refine ⟨m3, ?_, ?_, ⟨by rw [h113]; exact h30, fun i hi => by rw [h128]; exact hch i hi⟩, f1.tr c3.fq⟩
    · unfold b_X9_findBest_32
      dsimp only
      rw [if_neg he, letv_eq, a1', Option.bind_some, b1, Option.bind_some, if_neg (by decide), c1, Option.bind_some, r0, Option.bind_some, r1, Option.bind_some, hy1, Option.bind_some, if_pos rfl, Option.bind_some, letv_eq, hid, if_pos rfl, Option.bind_some, letv_eq, hid, m_copy0 hF hk, Option.bind_some, Option.bind_some, nI_1]
    · rw [hst]
      exact k1 m3 h113 h130
theorem m_best {p s : AS} {m : Mm} {F M k n : Nat} (hF : 5000 ≤ F) (hp : PW p) (pm : PM p m) (hI : SI p M s) (rm : RM p s m 0) (hM : M + 120 ≤ 2 ^ 20) (hk : k ≤ 3) (hkc : k ≤ (chL p s).length) (hn : n ≤ 60) (hl : LR p s m) : ∃ m2, f_X9_findBest F m (nI k) (nI n) = some m2 ∧ KR p s k m2 (bestF p s k n) ∧ FQ m m2 := by
  have hz := hI.2.1.1
  have hb := pw14 (chL_len (s := s) hp.1) hk
  have e1 : iter F (b_X9_findBest_5 m (nI k)) ((1, 0) : Int32 × Int32) = some (nI ((chL p s).length ^ k)) := by
    refine iter_n (b := b_X9_findBest_5 m (nI k)) (F := F) (fun i => ((nI ((chL p s).length ^ i), nI i) : Int32 × Int32)) k _ (by omega) (fun i hi => ?_) ?_
    · unfold b_X9_findBest_5
      dsimp only
      rw [if_neg (nI_ge hi (by omega)), hl.1, letv_eq, pk_mul, nI_1, Nat.pow_succ]
    · unfold b_X9_findBest_5
      exact if_pos (Int32.le_refl _)
  have f0 : FQ m (up2 m 113 34 (-1)) := FQ.up (by omega)
  obtain ⟨m2, c1, c2, c3⟩ := iter_P (b := b_X9_findBest_32 F (nI k) (nI n) (nI ((chL p s).length ^ k))) (F := F) ((chL p s).length ^ k) (fun r x => ∃ m1, x = (nI r, m1) ∧ KR p s k m1 (rep (stepB p s k n) r none) ∧ LR p s m1 ∧ FQ m m1) (fun m2 => KR p s k m2 (bestF p s k n) ∧ FQ m m2) (by omega) (by
    rintro r x hr ⟨m1, rfl, q1, q2, q3⟩
    obtain ⟨m2, c1, c2, c3, c4⟩ := m_bestRow (F := F) (n := n) hF hp (PM_FQ pm q3) hI (RM_fr hp.1 hz rm (fun i _ hi => q3.2.1 i (by omega))) hM hk hkc hn hr (nI_ge hr (by omega)) q2 q1
    exact ⟨_, c1, m2, rfl, c2, c3, q3.tr c4⟩) (by
    rintro x ⟨m1, rfl, q1, q2, q3⟩
    refine ⟨m1, ?_, q1, q3⟩
    unfold b_X9_findBest_32
    exact if_pos (Int32.le_refl _)) (x := (0, up2 m 113 34 (-1))) ⟨_, rfl, up2_same, ⟨by rw [up2_slot (by decide)]; exact hl.1, fun i hi => by rw [up2_ne (by decide)]; exact hl.2 i hi⟩, f0⟩
  refine ⟨m2, ?_, c2, c3⟩
  unfold f_X9_findBest
  rw [e1, Option.bind_some, letv_eq, c1]
  rfl

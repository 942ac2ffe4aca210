/-! the empty draft; how both begin -/
def pl0 : AS := fun j i => if j = 16 then (if i = 0 then 1 else if i = 1 then 400 else if i = 2 then 40 else if i = 3 then 60 else 0) else 0
theorem pl0_W : PW pl0 := by
  refine ⟨⟨by decide, by decide, by decide, by decide⟩, fun h hh => absurd hh (Nat.not_lt_zero h), fun h hh => absurd hh (Nat.not_lt_zero h), fun h hh => absurd hh (Nat.not_lt_zero h), fun h hh => absurd hh (Nat.not_lt_zero h), by decide, by decide, by decide, by decide, by decide, by decide⟩
theorem c_clear {m : Mm} {Q : Nat} : ∃ m', f_X1_clear m Q = some m' ∧ PC pl0 m' Q ∧ ∀ b, b ≠ Q → b ≠ Q + 16 → m' b = m b := by
  refine ⟨up2 (up2 (up2 (up2 (up2 (up2 (up2 (up2 (up2 m Q 0 0) Q 1 0) Q 2 0) Q 3 0) (Q + 16) 0 1) (Q + 16) 1 400) (Q + 16) 2 40) (Q + 16) 3 60) (Q + 16) 4 0, ?_, ?_, fun b h1 h2 => by rw [up2_ne h2, up2_ne h2, up2_ne h2, up2_ne h2, up2_ne h2, up2_ne h1, up2_ne h1, up2_ne h1, up2_ne h1]⟩
  · have s : ∀ (m : Mm) (i : Nat) (v : Int32), i < 5 → ast m (Q + 16) 5 (nI i) v = some (up2 m (Q + 16) i v) := fun m i v hi => ast_n hi (by decide)
    unfold f_X1_clear
    rw [letv_eq, letv_eq, letv_eq, letv_eq, show (0 : Int32) = nI 0 from rfl, s _ 0 _ (by decide), Option.bind_some, show (1 : Int32) = nI 1 from rfl, s _ 1 _ (by decide), Option.bind_some, show (2 : Int32) = nI 2 from rfl, s _ 2 _ (by decide), Option.bind_some, show (3 : Int32) = nI 3 from rfl, s _ 3 _ (by decide), Option.bind_some, show (4 : Int32) = nI 4 from rfl, s _ 4 _ (by decide)]
    rfl
  · intro j i hi
    have hj := cnP_lt hi
    have hj' : j = 0 ∨ j = 16 ∨ (0 < j ∧ j < 16) := by omega
    rcases hj' with rfl | rfl | hj'
    · have hi' : i < 4 := hi
      rw [show Q + 0 = Q from rfl]
      have q : Q ≠ Q + 16 := by omega
      rw [up2_ne q, up2_ne q, up2_ne q, up2_ne q, up2_ne q]
      have hc : i = 0 ∨ i = 1 ∨ i = 2 ∨ i = 3 := by omega
      rcases hc with rfl | rfl | rfl | rfl
      · rw [up2_slot (by decide), up2_slot (by decide), up2_slot (by decide), up2_same]; rfl
      · rw [up2_slot (by decide), up2_slot (by decide), up2_same]; rfl
      · rw [up2_slot (by decide), up2_same]; rfl
      · rw [up2_same]; rfl
    · have hi' : i < 5 := hi
      have hc : i = 0 ∨ i = 1 ∨ i = 2 ∨ i = 3 ∨ i = 4 := by omega
      rcases hc with rfl | rfl | rfl | rfl | rfl
      · rw [up2_slot (by decide), up2_slot (by decide), up2_slot (by decide), up2_slot (by decide), up2_same]; rfl
      · rw [up2_slot (by decide), up2_slot (by decide), up2_slot (by decide), up2_same]; rfl
      · rw [up2_slot (by decide), up2_slot (by decide), up2_same]; rfl
      · rw [up2_slot (by decide), up2_same]; rfl
      · rw [up2_same]; rfl
    · exfalso
      have hc : j = 1 ∨ j = 2 ∨ j = 3 ∨ j = 4 ∨ j = 5 ∨ j = 6 ∨ j = 7 ∨ j = 8 ∨ j = 9 ∨ j = 10 ∨ j = 11 ∨ j = 12 ∨ j = 13 ∨ j = 14 ∨ j = 15 := by omega
      rcases hc with rfl | rfl | rfl | rfl | rfl | rfl | rfl | rfl | rfl | rfl | rfl | rfl | rfl | rfl | rfl <;> exact absurd hi (Nat.not_lt_zero i)
theorem m_first {m : Mm} {F : Nat} (hF : 5000 ≤ F) : ∃ m', f_X9_firstDraft F m = some m' ∧ DM pl0 m' ∧ (∀ i, i < 5 → m' 126 i = 0) ∧ (∀ b, b ≠ 113 → b ≠ 125 → b ≠ 126 → m' b = m b) ∧ ∀ i, i ≠ 11 → i ≠ 13 → i ≠ 15 → i ≠ 17 → m' 113 i = m 113 i := by
  generalize hm4 : up2 (up2 (up2 (up2 m 113 11 0) 113 13 0) 113 15 0) 113 17 0 = m4
  obtain ⟨m', h1, h2, h3, h4⟩ := iter_P (b := b_X9_firstDraft_22) (F := F) 5 (fun i x => ∃ m1, x = (nI i, m1) ∧ (∀ j, j < i → m1 125 j = nI (pl0 16 j)) ∧ (∀ j, j < i → m1 126 j = 0) ∧ ∀ b, b ≠ 125 → b ≠ 126 → m1 b = m4 b) (fun m' => (∀ i, i < 5 → m' 125 i = nI (pl0 16 i)) ∧ (∀ i, i < 5 → m' 126 i = 0) ∧ ∀ b, b ≠ 125 → b ≠ 126 → m' b = m4 b) (by omega) (by
    rintro i x hi ⟨m1, rfl, q1, q2, q3⟩
    have hc : ¬ (5 : Int32) ≤ nI i := nI_ge (b := 5) hi (by decide)
    have e : (if nI i = 0 then (some 1) else (if nI i = (1 : Int32) then (some 400) else (if nI i = (2 : Int32) then (some 40) else (if nI i = (3 : Int32) then (some 60) else (some 0)))) : Option (Int32)) = some (nI (pl0 16 i)) := by
      have hc : i = 0 ∨ i = 1 ∨ i = 2 ∨ i = 3 ∨ i = 4 := by omega
      rcases hc with rfl | rfl | rfl | rfl | rfl <;> decide
    have n0 : vp_nar .boolean 0 = (0 : Int32) := by decide
    refine ⟨_, ?_, up2 (up2 m1 125 i (nI (pl0 16 i))) 126 i 0, rfl, fun j hj => ?_, fun j hj => ?_, fun b q4 q5 => by rw [up2_ne q5, up2_ne q4, q3 b q4 q5]⟩
    · unfold b_X9_firstDraft_22
      dsimp only
      rw [if_neg hc, e, Option.bind_some, ast_n hi (by decide), Option.bind_some, ast_n hi (by decide), Option.bind_some, nI_1, n0]
    · rw [up2_ne (by decide)]
      by_cases w : j = i
      · subst w; rw [up2_same]
      · rw [up2_slot w]; exact q1 j (by omega)
    · by_cases w : j = i
      · subst w; rw [up2_same]
      · rw [up2_slot w, up2_ne (by decide)]; exact q2 j (by omega)) (by
    rintro x ⟨m1, rfl, q1, q2, q3⟩
    refine ⟨m1, ?_, q1, q2, q3⟩
    unfold b_X9_firstDraft_22
    exact if_pos (show (5 : Int32) ≤ nI 5 by decide)) (x := (0, m4)) ⟨m4, rfl, fun j hj => absurd hj (by omega), fun j hj => absurd hj (by omega), fun _ _ _ => rfl⟩
  have h113 : m' 113 = m4 113 := h4 113 (by decide) (by decide)
  refine ⟨m', ?_, ⟨?_, ?_, ?_, ?_, fun h hh => absurd hh (Nat.not_lt_zero h), fun h hh => absurd hh (Nat.not_lt_zero h), fun h hh => absurd hh (Nat.not_lt_zero h), fun h hh => absurd hh (Nat.not_lt_zero h), h2⟩, h3, fun b q1 q2 q3 => ?_, fun i q1 q2 q3 q4 => ?_⟩
  · unfold f_X9_firstDraft
    rw [letv_eq, letv_eq, letv_eq, letv_eq, hm4, h1]
    rfl
  · rw [h113, ← hm4, up2_slot (by decide), up2_slot (by decide), up2_slot (by decide), up2_same]; rfl
  · rw [h113, ← hm4, up2_slot (by decide), up2_slot (by decide), up2_same]; rfl
  · rw [h113, ← hm4, up2_slot (by decide), up2_same]; rfl
  · rw [h113, ← hm4, up2_same]; rfl
  · rw [h4 b q2 q3, ← hm4, up2_ne q1, up2_ne q1, up2_ne q1, up2_ne q1]
  · rw [h113, ← hm4, up2_slot q4, up2_slot q3, up2_slot q2, up2_slot q1]
theorem ini_all {F : Nat} (hF : 5000 ≤ F) : INI F (G 0) := by
  have hP43 : isPl 43 := Or.inl rfl
  generalize hz : (fun _ _ => 0 : Mm) = z
  have z0 : ∀ b i, z b i = 0 := fun b i => by rw [← hz]
  obtain ⟨m1, a1, a2, a3⟩ := c_clear (m := mC0 z) (Q := 43)
  obtain ⟨m2, b1, b2, b3⟩ := c_start (F := F) (S := 4) (Or.inl rfl) hP43 pl0_W a2 (by omega)
  have hm2 : ∀ b, (b < 4 ∨ 17 < b) → b ≠ 43 → b ≠ 59 → m2 b = mC0 z b := fun b q1 q2 q3 => by rw [b3.1 b (by omega), a3 b q2 q3]
  have hC0 : ∀ b, b ≠ 34 → b ≠ 105 → b ≠ 107 → b ≠ 109 → b ≠ 111 → mC0 z b = fun _ => 0 := fun b q1 q2 q3 q4 q5 => by
    unfold mC0
    rw [up2_ne q5, up2_ne q4, up2_ne q3, up2_ne q2, up2_ne q1]
    funext i
    exact z0 b i
  have hm2z : ∀ b, (b < 4 ∨ 17 < b) → b ≠ 43 → b ≠ 59 → b ≠ 34 → b ≠ 105 → b ≠ 107 → b ≠ 109 → b ≠ 111 → ∀ i, m2 b i = 0 := fun b q1 q2 q3 q4 q5 q6 q7 q8 i => by
    rw [hm2 b q1 q2 q3, hC0 b q4 q5 q6 q7 q8]
  obtain ⟨m3, c1, c2, c3, c4, c5⟩ := m_first (m := mM0 m2) (F := F) hF
  obtain ⟨m4, d1, d2, d3, d4, d5, d6, d7, d8⟩ := m_keepD (m := m3) (F := F) hF pl0_W c2
  have hm4 : ∀ b, b < 113 ∨ b = 127 ∨ b = 131 → m4 b = m2 b := fun b hb => by
    rw [d6 b (by omega) (by omega) (by omega) (by omega) (by omega) (by omega) (by omega) (by omega), c4 b (by omega) (by omega) (by omega)]
    unfold mM0
    rw [up2_ne (by omega), up2_ne (by omega), up2_ne (by omega), up2_ne (by omega)]
  have h113 : ∀ i, i ≠ 2 → i ≠ 4 → i ≠ 6 → i ≠ 8 → i ≠ 11 → i ≠ 13 → i ≠ 15 → i ≠ 17 → m4 113 i = 0 := fun i q1 q2 q3 q4 q5 q6 q7 q8 => by
    rw [d7 i q1 q2 q3 q4, c5 i q5 q6 q7 q8]
    unfold mM0
    rw [up2_ne (by decide), up2_ne (by decide), up2_ne (by decide), up2_ne (by decide)]
    exact hm2z 113 (by omega) (by decide) (by decide) (by decide) (by decide) (by decide) (by decide) (by decide) i
  have s0 : SI pl0 (120 * 0) (seeS pl0 (iniS pl0)) := seeS_I (iniS_I pl0_W).1 (iniS_I pl0_W).2
  have hFI : FI (seeS pl0 (iniS pl0)) := by
    unfold FI
    unfold seeS
    rw [u3_f (by decide), u3_f (by decide), u3_f (a := 6) (by decide), u3_f (a := 6) (by decide)]
    rfl
  have g4 : ∀ b i, (b < 4 ∨ 17 < b) → b < 113 ∨ b = 127 ∨ b = 131 → b ≠ 43 → b ≠ 59 → b ≠ 34 → b ≠ 105 → b ≠ 107 → b ≠ 109 → b ≠ 111 → m4 b i = 0 := fun b i q1 q2 q3 q4 q5 q6 q7 q8 q9 => by rw [hm4 b q2, hm2z b q1 q3 q4 q5 q6 q7 q8 q9]
  refine ⟨m2, m4, ?_, fun b hb => ?_, ?_, hP43, Or.inr rfl, by decide, pl0, seeS pl0 (iniS pl0), pl0_W, s0, hFI, ⟨?_, d2, ?_, d3⟩, fun i hi => ?_, ⟨⟨0, by decide, ?_, ?_, fun i hi => absurd hi (Nat.not_lt_zero i)⟩, ?_⟩, ?_, fun k hk => ?_, ⟨0, fun _ => 0, by decide, ?_, ?_, fun i hi => absurd hi (Nat.not_lt_zero i)⟩, ?_⟩
  · unfold f_X8_init
    rw [hz, a1, Option.bind_some, b1]
    rfl
  · rw [hm2 b (by omega) (by omega) (by omega), hC0 b (by omega) (by omega) (by omega) (by omega) (by omega)]
  · unfold f_X9_init
    rw [c1, Option.bind_some, d1]
    rfl
  · refine PC_fr (PC_FC a2 (Or.inl rfl) hP43 b3) (fun j hj => ?_)
    exact hm4 _ (by omega)
  · exact RC_fr b2 (fun j hj i _ => by rw [hm4 _ (by omega)])
  · have e33 : m4 33 i = 0 := g4 33 i (by omega) (by omega) (by decide) (by decide) (by decide) (by decide) (by decide) (by decide) (by decide)
    refine ⟨?_, Or.inl e33⟩
    have hc : i = 0 ∨ i = 1 := by omega
    rcases hc with rfl | rfl
    · rw [e33, d4]
    · rw [e33, d5]
  · exact g4 1 1 (by omega) (by omega) (by decide) (by decide) (by decide) (by decide) (by decide) (by decide) (by decide)
  · exact h113 22 (by decide) (by decide) (by decide) (by decide) (by decide) (by decide) (by decide) (by decide)
  · rw [h113 27 (by decide) (by decide) (by decide) (by decide) (by decide) (by decide) (by decide) (by decide)]
    exact g4 0 11 (by omega) (by omega) (by decide) (by decide) (by decide) (by decide) (by decide) (by decide) (by decide)
  · unfold GT
    rw [h113 41 (by decide) (by decide) (by decide) (by decide) (by decide) (by decide) (by decide) (by decide)]
    exact g4 0 12 (by omega) (by omega) (by decide) (by decide) (by decide) (by decide) (by decide) (by decide) (by decide)
  · left
    have e132 : m4 132 = mM0 m2 132 := by rw [d6 132 (by decide) (by decide) (by decide) (by decide) (by decide) (by decide) (by decide) (by decide), c4 132 (by decide) (by decide) (by decide)]
    have hc : k = 0 ∨ k = 1 ∨ k = 2 ∨ k = 3 := by omega
    rw [hm4 (105 + 2 * k) (by omega), hm2 (105 + 2 * k) (by omega) (by omega) (by omega), e132]
    rcases hc with rfl | rfl | rfl | rfl
    · exact ⟨by unfold mC0; rw [up2_ne (by decide), up2_ne (by decide), up2_ne (by decide), up2_same], by unfold mM0; rw [up2_slot (by decide), up2_slot (by decide), up2_slot (by decide), up2_same]⟩
    · exact ⟨by unfold mC0; rw [up2_ne (by decide), up2_ne (by decide), up2_same], by unfold mM0; rw [up2_slot (by decide), up2_slot (by decide), up2_same]⟩
    · exact ⟨by unfold mC0; rw [up2_ne (by decide), up2_same], by unfold mM0; rw [up2_slot (by decide), up2_same]⟩
    · exact ⟨by unfold mC0; rw [up2_same], by unfold mM0; rw [up2_same]⟩
  · exact g4 40 0 (by omega) (by omega) (by decide) (by decide) (by decide) (by decide) (by decide) (by decide) (by decide)
  · exact h113 36 (by decide) (by decide) (by decide) (by decide) (by decide) (by decide) (by decide) (by decide)
  · left
    rw [hm4 34 (by omega), hm2 34 (by omega) (by decide) (by decide)]
    unfold mC0
    rw [up2_ne (by decide), up2_ne (by decide), up2_ne (by decide), up2_ne (by decide), up2_same]

/-! the reference takes its draft as the plan -/
def DM (p : AS) (m : Mm) : Prop := m 113 11 = nI (p 0 0) ∧ m 113 13 = nI (p 0 1) ∧ m 113 15 = nI (p 0 2) ∧ m 113 17 = nI (p 0 3) ∧ (∀ h, h < p 0 0 → ∀ k, k < 4 → m 121 (4 * h + k) = nI (p (1 + k) h)) ∧ (∀ d, d < p 0 1 → ∀ k, k < 6 → m 122 (6 * d + k) = nI (p (5 + k) d)) ∧ (∀ i, i < p 0 2 → ∀ k, k < 3 → m 123 (3 * i + k) = nI (p (11 + k) i)) ∧ (∀ i, i < p 0 3 → ∀ k, k < 2 → m 124 (2 * i + k) = nI (p (14 + k) i)) ∧ (∀ k, k < 5 → m 125 k = nI (p 16 k))
theorem m_cp {b : Int32 × Mm → Option ((Int32 × Mm) ⊕ Mm)} {m : Mm} {F : Nat} (src dst N : Nat) (hne : src ≠ dst) (hF : N < F) (hb : ∀ i m1, i < N → b (nI i, m1) = some (Sum.inl (nI (i + 1), up2 m1 dst i (m1 src i)))) (he : ∀ m1, b (nI N, m1) = some (Sum.inr m1)) : ∃ m', iter F b ((0, m) : Int32 × Mm) = some m' ∧ (∀ i, i < N → m' dst i = m src i) ∧ ∀ a, a ≠ dst → m' a = m a := by
  exact iter_P (b := b) (F := F) N (fun i x => ∃ m1, x = (nI i, m1) ∧ (∀ j, j < i → m1 dst j = m src j) ∧ ∀ a, a ≠ dst → m1 a = m a) (fun m' => (∀ i, i < N → m' dst i = m src i) ∧ ∀ a, a ≠ dst → m' a = m a) hF (by
    rintro i x hi ⟨m1, rfl, q1, q2⟩
    refine ⟨_, hb i m1 hi, _, rfl, fun j hj => ?_, fun a ha => by rw [up2_ne ha, q2 a ha]⟩
    by_cases e : j = i
    · subst e; rw [up2_same, q2 src hne]
    · rw [up2_slot e]; exact q1 j (by omega)) (by
    rintro x ⟨m1, rfl, q1, q2⟩
    exact ⟨m1, he m1, q1, q2⟩) ⟨m, rfl, fun j hj => absurd hj (by omega), fun _ _ => rfl⟩
theorem m_putl {b : Int32 × Mm → Option ((Int32 × Mm) ⊕ Mm)} {m : Mm} {F : Nat} (B N : Nat) (v : Nat → Int32) (hF : N < F) (hb : ∀ i m1, i < N → (∀ a, a ≠ 114 → m1 a = m a) → b (nI i, m1) = some (Sum.inl (nI (i + 1), up2 m1 114 (B + i) (v i)))) (he : ∀ m1, (∀ a, a ≠ 114 → m1 a = m a) → b (nI N, m1) = some (Sum.inr m1)) : ∃ m', iter F b ((0, m) : Int32 × Mm) = some m' ∧ (∀ i, m' 114 i = if B ≤ i ∧ i < B + N then v (i - B) else m 114 i) ∧ ∀ a, a ≠ 114 → m' a = m a := by
  exact iter_P (b := b) (F := F) N (fun i x => ∃ m1, x = (nI i, m1) ∧ (∀ j, m1 114 j = if B ≤ j ∧ j < B + i then v (j - B) else m 114 j) ∧ ∀ a, a ≠ 114 → m1 a = m a) (fun m' => (∀ i, m' 114 i = if B ≤ i ∧ i < B + N then v (i - B) else m 114 i) ∧ ∀ a, a ≠ 114 → m' a = m a) hF (by
    rintro i x hi ⟨m1, rfl, q1, q2⟩
    refine ⟨_, hb i m1 hi q2, _, rfl, fun j => ?_, fun a ha => by rw [up2_ne ha, q2 a ha]⟩
    by_cases e : j = B + i
    · subst e; rw [up2_same, if_pos (by omega), show B + i - B = i by omega]
    · rw [up2_slot e, q1 j]
      by_cases w : B ≤ j ∧ j < B + i
      · rw [if_pos w, if_pos (by omega)]
      · rw [if_neg w, if_neg (by omega)]) (by
    rintro x ⟨m1, rfl, q1, q2⟩
    exact ⟨m1, he m1 q2, q1, q2⟩) ⟨m, rfl, fun j => by rw [if_neg (by omega)], fun _ _ => rfl⟩
theorem m_keepD {p : AS} {m : Mm} {F : Nat} (hF : 5000 ≤ F) (hp : PW p) (hd : DM p m) : ∃ m', f_X9_keepDraft F m = some m' ∧ PM p m' ∧ RM p (seeS p (iniS p)) m' 0 ∧ m' 115 0 = 0 ∧ m' 115 1 = 0 ∧ (∀ b, b ≠ 113 → b ≠ 114 → b ≠ 115 → b ≠ 116 → b ≠ 117 → b ≠ 118 → b ≠ 119 → b ≠ 120 → m' b = m b) ∧ (∀ i, i ≠ 2 → i ≠ 4 → i ≠ 6 → i ≠ 8 → m' 113 i = m 113 i) ∧ ∀ i, 128 ≤ i → m' 114 i = m 114 i := by
  obtain ⟨d1, d2, d3, d4, d5, d6, d7, d8, d9⟩ := hd
  obtain ⟨⟨l1, l2, l3, l4⟩, -⟩ := id hp
  generalize hm4 : up2 (up2 (up2 (up2 m 113 2 (m 113 11)) 113 4 (m 113 13)) 113 6 (m 113 15)) 113 8 (m 113 17) = m4
  have h4 : ∀ a, a ≠ 113 → m4 a = m a := fun a ha => by rw [← hm4, up2_ne ha, up2_ne ha, up2_ne ha, up2_ne ha]
  have h4i : ∀ i, i ≠ 2 → i ≠ 4 → i ≠ 6 → i ≠ 8 → m4 113 i = m 113 i := fun i q1 q2 q3 q4 => by rw [← hm4, up2_slot q4, up2_slot q3, up2_slot q2, up2_slot q1]
  have c2 : m4 113 2 = nI (p 0 0) := by rw [← hm4, up2_slot (by decide), up2_slot (by decide), up2_slot (by decide), up2_same, d1]
  have c4 : m4 113 4 = nI (p 0 1) := by rw [← hm4, up2_slot (by decide), up2_slot (by decide), up2_same, d2]
  have c6 : m4 113 6 = nI (p 0 2) := by rw [← hm4, up2_slot (by decide), up2_same, d3]
  have c8 : m4 113 8 = nI (p 0 3) := by rw [← hm4, up2_same, d4]
  have e0 : ∀ {α : Type} (g : Mm → Option α), (letv (up2 m 113 2 (m 113 11)) fun m1 => letv (up2 m1 113 4 (m1 113 13)) fun m2 => letv (up2 m2 113 6 (m2 113 15)) fun m3 => letv (up2 m3 113 8 (m3 113 17)) g) = g m4 := fun g => by
    rw [letv_eq, letv_eq, letv_eq, letv_eq, up2_slot (show (13 : Nat) ≠ 2 by decide), up2_slot (show (15 : Nat) ≠ 4 by decide), up2_slot (show (15 : Nat) ≠ 2 by decide), up2_slot (show (17 : Nat) ≠ 6 by decide), up2_slot (show (17 : Nat) ≠ 4 by decide), up2_slot (show (17 : Nat) ≠ 2 by decide), hm4]
  obtain ⟨m5, a1, a2, a3⟩ := m_cp (b := b_X9_keepDraft_34) (m := m4) (F := F) 121 116 32 (by decide) (by omega) (fun i m1 hi => by
    unfold b_X9_keepDraft_34
    dsimp only
    have hc : ¬ (32 : Int32) ≤ nI i := nI_ge (b := 32) hi (by decide)
    rw [if_neg hc, ald_n hi (by decide), Option.bind_some, ast_n hi (by decide), Option.bind_some, nI_1]) (fun m1 => by unfold b_X9_keepDraft_34; exact if_pos (show (32 : Int32) ≤ nI 32 by decide))
  obtain ⟨m6, b1, b2, b3⟩ := m_cp (b := b_X9_keepDraft_60) (m := m5) (F := F) 122 117 60 (by decide) (by omega) (fun i m1 hi => by
    unfold b_X9_keepDraft_60
    dsimp only
    have hc : ¬ (60 : Int32) ≤ nI i := nI_ge (b := 60) hi (by decide)
    rw [if_neg hc, ald_n hi (by decide), Option.bind_some, ast_n hi (by decide), Option.bind_some, nI_1]) (fun m1 => by unfold b_X9_keepDraft_60; exact if_pos (show (60 : Int32) ≤ nI 60 by decide))
  obtain ⟨m7, f1, f2, f3⟩ := m_cp (b := b_X9_keepDraft_86) (m := m6) (F := F) 123 118 12 (by decide) (by omega) (fun i m1 hi => by
    unfold b_X9_keepDraft_86
    dsimp only
    have hc : ¬ (12 : Int32) ≤ nI i := nI_ge (b := 12) hi (by decide)
    rw [if_neg hc, ald_n hi (by decide), Option.bind_some, ast_n hi (by decide), Option.bind_some, nI_1]) (fun m1 => by unfold b_X9_keepDraft_86; exact if_pos (show (12 : Int32) ≤ nI 12 by decide))
  obtain ⟨m8, g1, g2, g3⟩ := m_cp (b := b_X9_keepDraft_112) (m := m7) (F := F) 124 119 6 (by decide) (by omega) (fun i m1 hi => by
    unfold b_X9_keepDraft_112
    dsimp only
    have hc : ¬ (6 : Int32) ≤ nI i := nI_ge (b := 6) hi (by decide)
    rw [if_neg hc, ald_n hi (by decide), Option.bind_some, ast_n hi (by decide), Option.bind_some, nI_1]) (fun m1 => by unfold b_X9_keepDraft_112; exact if_pos (show (6 : Int32) ≤ nI 6 by decide))
  obtain ⟨m9, i1, i2, i3⟩ := m_cp (b := b_X9_keepDraft_138) (m := m8) (F := F) 125 120 5 (by decide) (by omega) (fun i m1 hi => by
    unfold b_X9_keepDraft_138
    dsimp only
    have hc : ¬ (5 : Int32) ≤ nI i := nI_ge (b := 5) hi (by decide)
    rw [if_neg hc, ald_n hi (by decide), Option.bind_some, ast_n hi (by decide), Option.bind_some, nI_1]) (fun m1 => by unfold b_X9_keepDraft_138; exact if_pos (show (5 : Int32) ≤ nI 5 by decide))
  have h9 : ∀ a, a ≠ 116 → a ≠ 117 → a ≠ 118 → a ≠ 119 → a ≠ 120 → m9 a = m4 a := fun a q1 q2 q3 q4 q5 => by rw [i3 a q5, g3 a q4, f3 a q3, b3 a q2, a3 a q1]
  have w116 : ∀ i, i < 32 → m9 116 i = m 121 i := fun i hi => by rw [i3 116 (by decide), g3 116 (by decide), f3 116 (by decide), b3 116 (by decide), a2 i hi, h4 121 (by decide)]
  have w117 : ∀ i, i < 60 → m9 117 i = m 122 i := fun i hi => by rw [i3 117 (by decide), g3 117 (by decide), f3 117 (by decide), b2 i hi, a3 122 (by decide), h4 122 (by decide)]
  have w118 : ∀ i, i < 12 → m9 118 i = m 123 i := fun i hi => by rw [i3 118 (by decide), g3 118 (by decide), f2 i hi, b3 123 (by decide), a3 123 (by decide), h4 123 (by decide)]
  have w119 : ∀ i, i < 6 → m9 119 i = m 124 i := fun i hi => by rw [i3 119 (by decide), g2 i hi, f3 124 (by decide), b3 124 (by decide), a3 124 (by decide), h4 124 (by decide)]
  have w120 : ∀ i, i < 5 → m9 120 i = m 125 i := fun i hi => by rw [i2 i hi, g3 125 (by decide), f3 125 (by decide), b3 125 (by decide), a3 125 (by decide), h4 125 (by decide)]
  have k113 : m9 113 = m4 113 := h9 113 (by decide) (by decide) (by decide) (by decide) (by decide)
  have pm9 : PM p m9 := ⟨by rw [k113, c2], by rw [k113, c4], by rw [k113, c6], by rw [k113, c8], fun h hh k hk => by rw [w116 _ (by omega)]; exact d5 h hh k hk, fun d hh k hk => by rw [w117 _ (by omega)]; exact d6 d hh k hk, fun i hh k hk => by rw [w118 _ (by omega)]; exact d7 i hh k hk, fun i hh k hk => by rw [w119 _ (by omega)]; exact d8 i hh k hk, fun k hk => by rw [w120 _ hk]; exact d9 k hk⟩
  -- the state is laid down
  obtain ⟨mA, A1, A2, A3⟩ := m_putl (b := b_X9_keepDraft_163) (m := m9) (F := F) 0 128 (fun _ => 0) (by omega) (fun i m1 hi _ => by
    unfold b_X9_keepDraft_163
    dsimp only
    have hc : ¬ (128 : Int32) ≤ nI i := nI_ge (b := 128) hi (by decide)
    rw [if_neg hc, show (0 : Int32) + nI i = nI (0 + i) from ix1 0 i, ast_n (by omega) (by decide), Option.bind_some, nI_1]) (fun m1 _ => by unfold b_X9_keepDraft_163; exact if_pos (show (128 : Int32) ≤ nI 128 by decide))
  have pmA : ∀ m1, (∀ a, a ≠ 114 → m1 a = m9 a) → PM p m1 := fun m1 h => PM_FM (B := 0) pm9 h
  obtain ⟨mB, B1, B2, B3⟩ := m_putl (b := b_X9_keepDraft_187) (m := mA) (F := F) 0 (p 0 0) (fun i => nI (p 4 i)) (by omega) (fun i m1 hi hm => by
    obtain ⟨x1, -, -, -, x5, -⟩ := pmA m1 (fun a ha => by rw [hm a ha, A3 a ha])
    unfold b_X9_keepDraft_187
    dsimp only
    have hc : ¬ m1 113 2 ≤ nI i := by rw [x1]; exact nI_ge hi (by omega)
    rw [if_neg hc, show (4 : Int32) * nI i + (3 : Int32) = nI (4 * i + 3) from ixm1 4 i 3, ald_n (by omega) (by decide), x5 i hi 3 (by decide), Option.bind_some, show (0 : Int32) + nI i = nI (0 + i) from ix1 0 i, ast_n (by omega) (by decide), Option.bind_some, nI_1]) (fun m1 hm => by
    obtain ⟨x1, -⟩ := pmA m1 (fun a ha => by rw [hm a ha, A3 a ha])
    unfold b_X9_keepDraft_187
    dsimp only
    exact if_pos (show m1 113 2 ≤ nI (p 0 0) by rw [x1]; exact Int32.le_refl _))
  obtain ⟨mC, C1, C2, C3⟩ := m_putl (b := b_X9_keepDraft_221) (m := mB) (F := F) 16 (p 0 1) (fun i => nI (p 10 i)) (by omega) (fun i m1 hi hm => by
    obtain ⟨-, x1, -, -, -, x5, -⟩ := pmA m1 (fun a ha => by rw [hm a ha, B3 a ha, A3 a ha])
    unfold b_X9_keepDraft_221
    dsimp only
    have hc : ¬ m1 113 4 ≤ nI i := by rw [x1]; exact nI_ge hi (by omega)
    rw [if_neg hc, show (6 : Int32) * nI i + (5 : Int32) = nI (6 * i + 5) from ixm1 6 i 5, ald_n (by omega) (by decide), x5 i hi 5 (by decide), Option.bind_some, show (16 : Int32) + nI i = nI (16 + i) from ix1 16 i, ast_n (by omega) (by decide), Option.bind_some, nI_1]) (fun m1 hm => by
    obtain ⟨-, x1, -⟩ := pmA m1 (fun a ha => by rw [hm a ha, B3 a ha, A3 a ha])
    unfold b_X9_keepDraft_221
    dsimp only
    exact if_pos (show m1 113 4 ≤ nI (p 0 1) by rw [x1]; exact Int32.le_refl _))
  obtain ⟨mD, D1, D2, D3⟩ := m_putl (b := b_X9_keepDraft_257) (m := mC) (F := F) 44 (p 0 3) (fun i => nI (p 15 i)) (by omega) (fun i m1 hi hm => by
    obtain ⟨-, -, -, x1, -, -, -, x5, -⟩ := pmA m1 (fun a ha => by rw [hm a ha, C3 a ha, B3 a ha, A3 a ha])
    unfold b_X9_keepDraft_257
    dsimp only
    have hc : ¬ m1 113 8 ≤ nI i := by rw [x1]; exact nI_ge hi (by omega)
    rw [if_neg hc, show (2 : Int32) * nI i + (1 : Int32) = nI (2 * i + 1) from ixm1 2 i 1, ald_n (by omega) (by decide), x5 i hi 1 (by decide), Option.bind_some, show (44 : Int32) + nI i = nI (44 + i) from ix1 44 i, ast_n (by omega) (by decide), Option.bind_some, nI_1]) (fun m1 hm => by
    obtain ⟨-, -, -, x1, -⟩ := pmA m1 (fun a ha => by rw [hm a ha, C3 a ha, B3 a ha, A3 a ha])
    unfold b_X9_keepDraft_257
    dsimp only
    exact if_pos (show m1 113 8 ≤ nI (p 0 3) by rw [x1]; exact Int32.le_refl _))
  have hD9 : ∀ a, a ≠ 114 → mD a = m9 a := fun a ha => by rw [D3 a ha, C3 a ha, B3 a ha, A3 a ha]
  generalize hmE : up2 (up2 (up2 mD 114 73 (-4)) 115 0 0) 115 1 0 = mE
  have hE : ∀ a, a ≠ 114 → a ≠ 115 → mE a = m9 a := fun a q1 q2 => by rw [← hmE, up2_ne q2, up2_ne q2, up2_ne q1, hD9 a q1]
  have hE114 : ∀ i, i ≠ 73 → mE 114 i = mD 114 i := fun i hi => by rw [← hmE, up2_ne (by decide), up2_ne (by decide), up2_slot hi]
  have hE73 : mE 114 73 = nI 4294967292 := by rw [← hmE, up2_ne (by decide), up2_ne (by decide), up2_same, nI_NN]
  have pmE : PM p mE := by
    have := pm9
    unfold PM at this ⊢
    rw [hE 113 (by decide) (by decide), hE 116 (by decide) (by decide), hE 117 (by decide) (by decide), hE 118 (by decide) (by decide), hE 119 (by decide) (by decide), hE 120 (by decide) (by decide)]
    exact this
  have cell : ∀ i, i < 128 → i ≠ 73 → mE 114 i = if 44 ≤ i ∧ i < 44 + p 0 3 then nI (p 15 (i - 44)) else if 16 ≤ i ∧ i < 16 + p 0 1 then nI (p 10 (i - 16)) else if i < p 0 0 then nI (p 4 i) else 0 := fun i hi h73 => by
    rw [hE114 i h73, D2 i]
    by_cases q1 : 44 ≤ i ∧ i < 44 + p 0 3
    · rw [if_pos q1, if_pos q1]
    rw [if_neg q1, if_neg q1, C2 i]
    by_cases q2 : 16 ≤ i ∧ i < 16 + p 0 1
    · rw [if_pos q2, if_pos q2]
    rw [if_neg q2, if_neg q2, B2 i]
    by_cases q3 : i < p 0 0
    · rw [if_pos (by omega), if_pos q3]; rfl
    · rw [if_neg (by omega), if_neg q3, A2 i, if_pos (by omega)]
  have rmE : RM p (u3 (iniS p) 0 2 4294967292) mE 0 := by
    intro j i hi
    rw [show u3 (iniS p) 0 2 4294967292 6 0 = 0 from rfl] at hi
    have hj := cnM_lt hi
    have hj' : j = 0 ∨ j = 1 ∨ j = 2 ∨ j = 3 ∨ j = 4 ∨ j = 5 ∨ j = 6 ∨ j = 7 ∨ j = 8 ∨ j = 9 ∨ j = 10 ∨ j = 11 ∨ j = 12 ∨ j = 13 ∨ j = 14 ∨ j = 15 ∨ j = 16 := by omega
    have z : ∀ x, x < 128 → x ≠ 73 → (x < 44 ∨ 47 ≤ x) → (x < 16 ∨ 26 ≤ x) → 8 ≤ x → mE 114 x = 0 := fun x q1 q2 q3 q4 q5 => by rw [cell x q1 q2, if_neg (by omega), if_neg (by omega), if_neg (by omega)]
    rcases hj' with rfl | rfl | rfl | rfl | rfl | rfl | rfl | rfl | rfl | rfl | rfl | rfl | rfl | rfl | rfl | rfl | rfl
    · have hi' : i < 3 := hi
      by_cases e : i = 2
      · subst e
        rw [u3_same]
        exact hE73
      · rw [u3_i e]
        show mE 114 (0 + 71 + i) = nI 0
        rw [z _ (by omega) (by omega) (by omega) (by omega) (by omega)]; rfl
    · have hi' : i < p 0 0 := hi
      show mE 114 (0 + 0 + i) = nI (p 4 i)
      rw [cell _ (by omega) (by omega), if_neg (by omega), if_neg (by omega), if_pos (by omega), show 0 + 0 + i = i by omega]
    · have hi' : i < p 0 0 := hi
      show mE 114 (0 + 8 + i) = nI 0
      rw [z _ (by omega) (by omega) (by omega) (by omega) (by omega)]; rfl
    · have hi' : i < p 0 1 := hi
      show mE 114 (0 + 16 + i) = nI (p 10 i)
      rw [cell _ (by omega) (by omega), if_neg (by omega), if_pos (by omega), show 0 + 16 + i - 16 = i by omega]
    · have hi' : i < p 0 2 := hi
      show mE 114 (0 + 36 + i) = nI 0
      rw [z _ (by omega) (by omega) (by omega) (by omega) (by omega)]; rfl
    · have hi' : i < p 0 3 := hi
      show mE 114 (0 + 44 + i) = nI (p 15 i)
      rw [cell _ (by omega) (by omega), if_pos (by omega), show 0 + 44 + i - 44 = i by omega]
    · have hi' : i < 1 := hi
      show mE 114 (0 + 76 + i) = nI 0
      rw [z _ (by omega) (by omega) (by omega) (by omega) (by omega)]; rfl
    · exact absurd hi (Nat.not_lt_zero i)
    · exact absurd hi (Nat.not_lt_zero i)
    · exact absurd hi (Nat.not_lt_zero i)
    · exact absurd hi (Nat.not_lt_zero i)
    · exact absurd hi (Nat.not_lt_zero i)
    · exact absurd hi (Nat.not_lt_zero i)
    · have hi' : i < p 0 1 := hi
      show mE 114 (0 + 26 + i) = nI 0
      rw [z _ (by omega) (by omega) (by omega) (by omega) (by omega)]; rfl
    · have hi' : i < p 0 2 := hi
      show mE 114 (0 + 40 + i) = nI 0
      rw [z _ (by omega) (by omega) (by omega) (by omega) (by omega)]; rfl
    · have hi' : i < 1 := hi
      show mE 114 (0 + 74 + i) = nI 0
      rw [z _ (by omega) (by omega) (by omega) (by omega) (by omega)]; rfl
    · have hi' : i < 1 := hi
      show mE 114 (0 + 75 + i) = nI 0
      rw [z _ (by omega) (by omega) (by omega) (by omega) (by omega)]; rfl
  have ho : SO p 0 (u3 (iniS p) 0 2 4294967292) := SO_of (iniS_I hp).2 (fun a ha => u3_r (by omega)) (Nat.le_refl _)
  obtain ⟨mF, s1, s2, s3⟩ := m_sees (B := 0) (F := F) hp (by decide) pmE ho rmE (by omega) rfl
  have s1' : f_X9_sees F mE 0 = some mF := s1
  have hsee : seeS p (u3 (iniS p) 0 2 4294967292) = seeS p (iniS p) := by
    have := seeS_any (p := p) (s := iniS p) (v := 0) (w := 4294967292)
    rw [u3_id (show iniS p 0 1 = 0 from rfl)] at this
    exact this
  rw [hsee] at s2
  refine ⟨mF, ?_, PM_FM (B := 0) pmE s3.1, s2, ?_, ?_, fun b q1 q2 q3 q4 q5 q6 q7 q8 => ?_, fun i q1 q2 q3 q4 => ?_, fun i hi => ?_⟩
  · have n0 : ∀ v, v = vp_nar .boolean 0 → v = (0 : Int32) := fun v hv => by rw [hv]; decide
    unfold f_X9_keepDraft
    rw [e0, a1, Option.bind_some, b1, Option.bind_some, f1, Option.bind_some, g1, Option.bind_some, i1, Option.bind_some, A1, Option.bind_some, B1, Option.bind_some, C1, Option.bind_some, D1, Option.bind_some, n0 _ rfl, show (73 : Int32) = nI 73 from rfl, ast_n (by decide) (by decide), Option.bind_some, show ast (up2 mD 114 73 (-4)) 115 2 0 0 = some (up2 (up2 mD 114 73 (-4)) 115 0 0) from ast_n (i := 0) (by decide) (by decide), Option.bind_some, show ast (up2 (up2 mD 114 73 (-4)) 115 0 0) 115 2 1 0 = some (up2 (up2 (up2 mD 114 73 (-4)) 115 0 0) 115 1 0) from ast_n (i := 1) (by decide) (by decide), Option.bind_some, hmE, s1']
    rfl
  · rw [s3.1 115 (by decide), ← hmE, up2_slot (by decide), up2_same]
  · rw [s3.1 115 (by decide), ← hmE, up2_same]
  · rw [s3.1 b q2, hE b q2 q3, h9 b q4 q5 q6 q7 q8, h4 b q1]
  · rw [s3.1 113 (by decide), hE 113 (by decide) (by decide), k113, h4i i q1 q2 q3 q4]
  · rw [s3.2 i (by omega), hE114 i (by omega), D2 i, if_neg (by omega), C2 i, if_neg (by omega), B2 i, if_neg (by omega), A2 i, if_neg (by omega), h9 114 (by decide) (by decide) (by decide) (by decide) (by decide), h4 114 (by decide)]

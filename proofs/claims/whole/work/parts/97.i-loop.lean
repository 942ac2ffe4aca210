/-! text: all lines, in both -/
theorem iter_2 {σ ρ τ υ : Type} {b : σ → Option (σ ⊕ ρ)} {d : τ → Option (τ ⊕ υ)} {F : Nat} (n : Nat) (Q : Nat → σ → τ → Prop) (E : ρ → υ → Prop) (hF : n < F) (hs : ∀ i x y, i < n → Q i x y → (∃ x' y', b x = some (Sum.inl x') ∧ d y = some (Sum.inl y') ∧ Q (i + 1) x' y') ∨ (∃ r u, b x = some (Sum.inr r) ∧ d y = some (Sum.inr u) ∧ E r u)) (he : ∀ x y, Q n x y → ∃ r u, b x = some (Sum.inr r) ∧ d y = some (Sum.inr u) ∧ E r u) {x : σ} {y : τ} (h0 : Q 0 x y) : ∃ r u, iter F b x = some r ∧ iter F d y = some u ∧ E r u := by
  have key : ∀ (k i F : Nat) (x : σ) (y : τ), i + k = n → k < F → Q i x y → ∃ r u, iter F b x = some r ∧ iter F d y = some u ∧ E r u := by
    intro k
    induction k with
    | zero =>
      intro i F x y hi hF hq
      have : i = n := by omega
      subst this
      cases F with
      | zero => omega
      | succ F =>
        obtain ⟨r, u, h1, h2, h3⟩ := he x y hq
        exact ⟨r, u, by rw [iter, h1]; rfl, by rw [iter, h2]; rfl, h3⟩
    | succ k ih =>
      intro i F x y hi hF hq
      cases F with
      | zero => omega
      | succ F =>
        rcases hs i x y (by omega) hq with ⟨x', y', h1, h2, h3⟩ | ⟨r, u, h1, h2, h3⟩
        · obtain ⟨r, u, h4, h5, h6⟩ := ih (i + 1) F x' y' (by omega) (by omega) h3
          exact ⟨r, u, by rw [iter, h1]; exact h4, by rw [iter, h2]; exact h5, h6⟩
        · exact ⟨r, u, by rw [iter, h1]; rfl, by rw [iter, h2]; rfl, h3⟩
  exact key n 0 F x y (by omega) hF h0
def FYc (D : Nat) (m m' : Mm) : Prop := ∀ b, b ≠ 1 → b ≠ 3 → (b < D ∨ D + 16 < b) → m' b = m b
/-- what stands at the end -/
def ENDt (n : Nat) (bs : Nat → Nat) (D : Nat) (mc mr : Mm) : Prop := (mc 1 3 = 0 ∧ mr 113 27 = 0 ∧ ∃ p, DRt D p mc mr) ∨ FAt n bs mc mr
theorem zt_loop {n : Nat} {bs : Nat → Nat} {m0 r0 : Mm} {F D : Nat} {p0 : AS} (hF : 5000 ≤ F) (hn : n ≤ 400) (hb : ∀ i, i < n → bs i < 256) (hD : isPl D) (hs : SSt n bs 0 m0 r0) (dr : DRt D p0 m0 r0) (h12 : m0 1 2 = 0) : ∃ e mc mr i, iter F (b_X2_parse_11 F D) ((0, m0) : Int32 × Mm) = some e ∧ (e = Sum.inl mc ∨ e = Sum.inr mc) ∧ iter F (b_X9_text_20 F) ((0, r0) : Int32 × Mm) = some (nI i, mr) ∧ FYc D m0 mc ∧ FZm r0 mr ∧ mc 1 2 = nI i ∧ ENDt n bs D mc mr := by
  have hD3 : 40 < D := by rcases hD with rfl | rfl <;> decide
  -- both stop at a fault
  have stopF : ∀ (i : Nat) (mc mr : Mm), i ≤ 400 → FAt n bs mc mr → b_X2_parse_11 F D ((nI i, mc) : Int32 × Mm) = some (Sum.inr (Sum.inr mc)) ∧ b_X9_text_20 F ((nI i, mr) : Int32 × Mm) = some (Sum.inr (nI i, mr)) := fun i mc mr hi hf => by
    have h4 : ¬ (400 : Int32) < nI i := nI_nlt (a := 400) hi (by decide)
    constructor
    · unfold b_X2_parse_11
      rw [if_neg h4, c_nxF (FA_c hf), Option.bind_some, if_neg (FA_c hf)]
    · unfold b_X9_text_20
      rw [if_neg (FA_m hf).1]
  have step : ∀ (i : Nat) (mc mr : Mm), i ≤ 400 → SSt n bs i mc mr → (∃ p, DRt D p mc mr) → mc 1 2 = nI i → (i < 400 ∧ ∃ mc' mr', b_X2_parse_11 F D ((nI i, mc) : Int32 × Mm) = some (Sum.inl (nI (i + 1), mc')) ∧ b_X9_text_20 F ((nI i, mr) : Int32 × Mm) = some (Sum.inl (nI (i + 1), mr')) ∧ FYc D mc mc' ∧ FZm mr mr' ∧ mc' 1 2 = nI (i + 1) ∧ ((SSt n bs (i + 1) mc' mr' ∧ ∃ p, DRt D p mc' mr') ∨ FAt n bs mc' mr')) ∨ (∃ e mc', b_X2_parse_11 F D ((nI i, mc) : Int32 × Mm) = some (Sum.inr e) ∧ (e = Sum.inl mc' ∨ e = Sum.inr mc') ∧ b_X9_text_20 F ((nI i, mr) : Int32 × Mm) = some (Sum.inr (nI i, mr)) ∧ FYc D mc mc' ∧ mc' 1 2 = nI i ∧ ENDt n bs D mc' mr) := by
    rintro i mc mr hi hs ⟨p, dr⟩ h2
    have h4 : ¬ (400 : Int32) < nI i := nI_nlt (a := 400) hi (by decide)
    obtain ⟨m7, a1, a2, a3 | a3⟩ := zt_peek (F := F) hF hn hb hs
    · obtain ⟨f, k, e, hA⟩ := a3
      have z27 := AT_m hA
      obtain ⟨⟨pos, h1, hC⟩, h0, hw, hM⟩ := id hA
      have hk5 := TK_k5 hC.2.1
      have dr7 : DRt D p m7 mr := ⟨dr.1, PC_FRc dr.2.1 hD a2, dr.2.2.1, fun r hr => by rw [a2.1 3 (by decide)]; exact dr.2.2.2 r hr⟩
      have fy7 : FYc D mc m7 := fun b q1 _ _ => a2.1 b q1
      have h27 : m7 1 2 = nI i := by rw [a2.2 2 (by omega)]; exact h2
      by_cases q0 : k = 0
      · right
        refine ⟨Sum.inl m7, m7, ?_, Or.inl rfl, ?_, fy7, h27, Or.inl ⟨h0, z27, p, dr7⟩⟩
        · unfold b_X2_parse_11
          have n9 : m7 1 9 = 0 := by rw [hC.2.2.2.2, q0]; rfl
          rw [if_neg h4, a1, Option.bind_some, if_pos h0, if_pos n9]
        · unfold b_X9_text_20
          have n25 : mr 113 25 = 0 := by rw [hM.2.2.1, q0]; rfl
          rw [if_pos z27, if_pos n25]
      · left
        have hpos := TK_lt hC.2.1 q0
        obtain ⟨x, mc', mr', b1, b2, b3, b4, b5, b6⟩ := zt_line (F := F) hF hn hb hD hA q0 dr7
        have h12' : mc' 1 2 + 1 = nI (i + 1) := by rw [b4.2 2 (by decide), h27, nI_1]
        refine ⟨by omega, up2 mc' 1 2 (nI (i + 1)), mr', ?_, ?_, fun b q1 q2 q3 => by rw [up2_ne q1, b4.1 b q1 q2 q3, a2.1 b q1], b5, up2_same, b6.imp (fun w => ⟨SS_fr w.1 (Nat.le_refl _) (fun j hj => up2_slot (by omega)) (up2_ne (by decide)) (fun _ _ _ => rfl) rfl, ?_⟩) (fun w => FA_fr w (fun j hj => up2_slot (by omega)) (up2_ne (by decide)) (fun _ _ _ => rfl))⟩
        · unfold swC at b2
          have n9 : ¬ m7 1 9 = 0 := by rw [hC.2.2.2.2]; exact nI_ne0 (by omega) (by omega)
          unfold b_X2_parse_11
          rw [if_neg h4, a1, Option.bind_some, if_pos h0, if_neg n9, b1, Option.bind_some, b2, Option.bind_some, letv_eq, h12', nI_1]
        · unfold b_X9_text_20
          have n25 : ¬ mr 113 25 = 0 := by rw [hM.2.2.1, (krN_c hk5).2.2.2]; exact q0
          rw [if_pos z27, if_neg n25, b3, Option.bind_some, nI_1]
        · obtain ⟨-, p', w1, w2, w3, w4⟩ := w
          exact ⟨p', w1, PC_fr w2 (fun j hj => up2_ne (by omega)), w3, fun r hr => by rw [up2_ne (by decide)]; exact w4 r hr⟩
    · right
      refine ⟨Sum.inr m7, m7, ?_, Or.inr rfl, ?_, fun b q1 _ _ => a2.1 b q1, by rw [a2.2 2 (by omega)]; exact h2, Or.inr a3⟩
      · unfold b_X2_parse_11
        rw [if_neg h4, a1, Option.bind_some, if_neg (FA_c a3)]
      · unfold b_X9_text_20
        rw [if_neg (FA_m a3).1]
  obtain ⟨r, u, c1, c2, e, mc, mr, i, rfl, c3, rfl, c4⟩ := iter_2 (b := b_X2_parse_11 F D) (d := b_X9_text_20 F) (F := F) 400 (fun i x y => ∃ mc mr, x = (nI i, mc) ∧ y = (nI i, mr) ∧ FYc D m0 mc ∧ FZm r0 mr ∧ mc 1 2 = nI i ∧ ((SSt n bs i mc mr ∧ ∃ p, DRt D p mc mr) ∨ FAt n bs mc mr)) (fun r u => ∃ e mc mr i, r = e ∧ (e = Sum.inl mc ∨ e = Sum.inr mc) ∧ u = (nI i, mr) ∧ FYc D m0 mc ∧ FZm r0 mr ∧ mc 1 2 = nI i ∧ ENDt n bs D mc mr) (by omega) (by
    rintro i x y hi ⟨mc, mr, rfl, rfl, f1, f2, f3, f4 | f4⟩
    · rcases step i mc mr (by omega) f4.1 f4.2 f3 with ⟨-, mc', mr', g1, g2, g3, g4, g5, g6⟩ | ⟨e, mc', g1, g2, g3, g4, g5, g6⟩
      · exact Or.inl ⟨_, _, g1, g2, mc', mr', rfl, rfl, fun b q1 q2 q3 => by rw [g3 b q1 q2 q3, f1 b q1 q2 q3], f2.tr g4, g5, g6⟩
      · exact Or.inr ⟨_, _, g1, g3, e, mc', mr, i, rfl, g2, rfl, fun b q1 q2 q3 => by rw [g4 b q1 q2 q3, f1 b q1 q2 q3], f2, g5, g6⟩
    · obtain ⟨g1, g2⟩ := stopF i mc mr (by omega) f4
      exact Or.inr ⟨_, _, g1, g2, _, mc, mr, i, rfl, Or.inr rfl, rfl, f1, f2, f3, Or.inr f4⟩) (by
    rintro x y ⟨mc, mr, rfl, rfl, f1, f2, f3, f4 | f4⟩
    · rcases step 400 mc mr (Nat.le_refl _) f4.1 f4.2 f3 with ⟨q, -⟩ | ⟨e, mc', g1, g2, g3, g4, g5, g6⟩
      · exact absurd q (by decide)
      · exact ⟨_, _, g1, g3, e, mc', mr, 400, rfl, g2, rfl, fun b q1 q2 q3 => by rw [g4 b q1 q2 q3, f1 b q1 q2 q3], f2, g5, g6⟩
    · obtain ⟨g1, g2⟩ := stopF 400 mc mr (Nat.le_refl _) f4
      exact ⟨_, _, g1, g2, _, mc, mr, 400, rfl, Or.inr rfl, rfl, f1, f2, f3, Or.inr f4⟩) (x := ((0, m0) : Int32 × Mm)) (y := ((0, r0) : Int32 × Mm)) ⟨m0, r0, rfl, rfl, fun _ _ _ _ => rfl, FZm.rf, h12, Or.inl ⟨hs, p0, dr⟩⟩
  exact ⟨_, mc, mr, i, c1, c3, c2, c4⟩
theorem c_anew {m : Mm} {D F : Nat} (hF : 5000 ≤ F) (hD : isPl D) : ∃ m', f_X2_startAnew F m D = some m' ∧ PC pl0 m' D ∧ (∀ r, r < 5 → m' 3 r = 0) ∧ FYc D m m' ∧ m' 1 8 = 0 ∧ m' 1 2 = 0 ∧ m' 1 3 = 0 ∧ m' 1 1 = m 1 1 := by
  have hD3 : 40 < D := by rcases hD with rfl | rfl <;> decide
  obtain ⟨m2, a1, a2, a3⟩ := c_clear (m := m) (Q := D)
  obtain ⟨m4, b1, b2, b3⟩ := iter_P (b := b_X2_startAnew_9) (F := F) 5 (fun i x => ∃ m1, x = (nI i, m1) ∧ (∀ j, j < i → m1 3 j = 0) ∧ ∀ b, b ≠ 3 → m1 b = m2 b) (fun m' => (∀ j, j < 5 → m' 3 j = 0) ∧ ∀ b, b ≠ 3 → m' b = m2 b) (by omega) (by
    rintro i x hi ⟨m1, rfl, q1, q2⟩
    have hc : ¬ (5 : Int32) ≤ nI i := nI_ge (b := 5) hi (by decide)
    have n0 : vp_nar .boolean 0 = (0 : Int32) := by decide
    refine ⟨_, ?_, up2 m1 3 i 0, rfl, fun j hj => ?_, fun b hb => by rw [up2_ne hb, q2 b hb]⟩
    · unfold b_X2_startAnew_9
      dsimp only
      rw [if_neg hc, ast_n hi (by decide), Option.bind_some, nI_1, n0]
    · by_cases w : j = i
      · subst w; rw [up2_same]
      · rw [up2_slot w]; exact q1 j (by omega)) (by
    rintro x ⟨m1, rfl, q1, q2⟩
    refine ⟨m1, ?_, q1, q2⟩
    unfold b_X2_startAnew_9
    exact if_pos (show (5 : Int32) ≤ nI 5 by decide)) (x := ((0, m2) : Int32 × Mm)) ⟨m2, rfl, fun j hj => absurd hj (by omega), fun _ _ => rfl⟩
  refine ⟨up2 (up2 (up2 m4 1 8 0) 1 2 0) 1 3 0, ?_, ?_, fun r hr => by rw [up2_ne (by decide), up2_ne (by decide), up2_ne (by decide)]; exact b2 r hr, fun b q1 q2 q3 => by rw [up2_ne q1, up2_ne q1, up2_ne q1, b3 b q2, a3 b (by omega) (by omega)], by rw [up2_slot (by decide), up2_slot (by decide), up2_same], by rw [up2_slot (by decide), up2_same], up2_same, ?_⟩
  · unfold f_X2_startAnew
    rw [a1, Option.bind_some, b1]
    rfl
  · exact PC_fr a2 (fun j hj => by rw [up2_ne (by omega), up2_ne (by omega), up2_ne (by omega), b3 _ (by omega)])
  · rw [up2_slot (by decide), up2_slot (by decide), up2_slot (by decide), b3 1 (by decide), a3 1 (by omega) (by omega)]
theorem zt_parse {n : Nat} {bs : Nat → Nat} {m mr : Mm} {F D : Nat} (hF : 5000 ≤ F) (hn : n ≤ 400) (hb : ∀ i, i < n → bs i < 256) (hD : isPl D) (hB : CB n bs m) (hM : MBy n bs mr) : ∃ mc m4 m6 mr' i, f_X2_parse F m D = some (up2 mc 1 1 0) ∧ f_X9_firstDraft F (up2 (up2 mr 113 27 0) 113 23 0) = some m4 ∧ f_X9_next F m4 = some m6 ∧ iter F (b_X9_text_20 F) ((0, m6) : Int32 × Mm) = some (nI i, mr') ∧ FYc D m mc ∧ FZm mr mr' ∧ mc 1 2 = nI i ∧ ENDt n bs D mc mr' := by
  have hD3 : 40 < D := by rcases hD with rfl | rfl <;> decide
  obtain ⟨m0, a1, a2, a3, a4, a5, a6, a7, a8⟩ := c_anew (m := m) (F := F) hF hD
  obtain ⟨m4, b1, b2, b3, b4, b5⟩ := m_first (m := up2 (up2 mr 113 27 0) 113 23 0) (F := F) hF
  have f4 : FZm mr m4 := ⟨fun b q1 q2 => by rw [b4 b q1 (by omega) (by omega), up2_ne q1, up2_ne q1], fun i q1 q2 q3 q4 q5 => by rw [b5 i q1 q2 q3 q4, up2_slot (by omega), up2_slot (by omega)]⟩
  have B4 : MBy n bs m4 := MB_fr hM (f4.2 22 (by decide) (by decide) (by decide) (by decide) (by omega)) (f4.1 127 (by decide) (by omega))
  obtain ⟨f, k, e, ht⟩ := TK_ex (n := n) (bs := bs) hb (pos := 0) (Nat.zero_le n)
  obtain ⟨m6, c1, N1, N2, N3, N4, N5, N6, N7, N8⟩ := m_tok (F := F) (m := m4) hF hn hb B4 (by rw [b5 27 (by decide) (by decide) (by decide) (by decide), up2_slot (by decide), up2_same]) (by rw [b5 23 (by decide) (by decide) (by decide) (by decide), up2_same]; rfl) ht
  have f6 : FZm mr m6 := f4.fr ⟨N1, N2⟩
  have hs : SSt n bs 0 m0 m6 := ⟨0, f, k, e, Nat.le_refl _, Nat.zero_le _, ht, CB_fr hB a8 (a4 2 (by decide) (by decide) (by omega)), a7, a5, MB_fr B4 (N2 22 (by omega)) (N1 127 (by decide)), N3, N4, N5, N6, N7, N8⟩
  have dr : DRt D pl0 m0 m6 := ⟨pl0_W, a2, DM_FRm b2 ⟨N1, N2⟩, fun r hr => by rw [a3 r hr, N1 126 (by decide), b3 r hr]⟩
  obtain ⟨e2, mc, mr', i, d1, d2, d3, d4, d5, d6, d7⟩ := zt_loop (F := F) hF hn hb hD hs dr a6
  refine ⟨mc, m4, m6, mr', i, ?_, b1, c1, d3, fun b q1 q2 q3 => by rw [d4 b q1 q2 q3, a4 b q1 q2 q3], f6.tr d5, d6, d7⟩
  unfold f_X2_parse
  rw [a1, Option.bind_some, d1, Option.bind_some]
  rcases d2 with rfl | rfl <;> rfl

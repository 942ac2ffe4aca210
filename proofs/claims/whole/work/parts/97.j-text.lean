/-! text -/
theorem c_fim {m : Mm} {F : Nat} (hF : 5000 ≤ F) : ∃ m', f_X8_forgetImages F m = some m' ∧ (∀ i, i < 2 → m' 33 i = 0) ∧ ∀ b, b ≠ 33 → m' b = m b := by
  obtain ⟨m4, b1, b2, b3⟩ := iter_P (b := b_X8_forgetImages_2) (F := F) 2 (fun i x => ∃ m1, x = (nI i, m1) ∧ (∀ j, j < i → m1 33 j = 0) ∧ ∀ b, b ≠ 33 → m1 b = m b) (fun m' => (∀ j, j < 2 → m' 33 j = 0) ∧ ∀ b, b ≠ 33 → m' b = m b) (by omega) (by
    rintro i x hi ⟨m1, rfl, q1, q2⟩
    have hc : ¬ (2 : Int32) ≤ nI i := nI_ge (b := 2) hi (by decide)
    have n0 : vp_nar .boolean 0 = (0 : Int32) := by decide
    refine ⟨_, ?_, up2 m1 33 i 0, rfl, fun j hj => ?_, fun b hb => by rw [up2_ne hb, q2 b hb]⟩
    · unfold b_X8_forgetImages_2
      dsimp only
      rw [if_neg hc, ast_n hi (by decide), Option.bind_some, nI_1, n0]
    · by_cases w : j = i
      · subst w; rw [up2_same]
      · rw [up2_slot w]; exact q1 j (by omega)) (by
    rintro x ⟨m1, rfl, q1, q2⟩
    refine ⟨m1, ?_, q1, q2⟩
    unfold b_X8_forgetImages_2
    exact if_pos (show (2 : Int32) ≤ nI 2 by decide)) (x := ((0, m) : Int32 × Mm)) ⟨m, rfl, fun j hj => absurd hj (by omega), fun _ _ => rfl⟩
  refine ⟨m4, ?_, b2, b3⟩
  unfold f_X8_forgetImages
  rw [b1, Option.bind_some]
theorem FI_ini (p : AS) : FI (seeS p (iniS p)) := by
  unfold FI
  unfold seeS
  rw [u3_f (by decide), u3_f (by decide), u3_f (a := 6) (by decide), u3_f (a := 6) (by decide)]
  rfl
theorem op_text {F c : Nat} (hF : 5000 ≤ F) : OP_text F (G c) (G (c + 1)) := by
  intro m P D T hG
  obtain ⟨hP, hD, hPD, p, s, hp, hI, hFI, ⟨pc, pm, rc, rm⟩, gi, gr, gt, gs, go, gk⟩ := id hG
  obtain ⟨⟨n, hn, g1, g2, g3⟩, g4⟩ := gr
  have hDg : (D = 43 ∧ P = 60) ∨ (D = 60 ∧ P = 43) := by
    rcases hD with h | h <;> rcases hP with h2 | h2
    · exact absurd (h2.trans h.symm) hPD
    · exact Or.inl ⟨h, h2⟩
    · exact Or.inr ⟨h, h2⟩
    · exact absurd (h2.trans h.symm) hPD
  have hb : ∀ i, i < n → co (m 127 i) < 256 := fun i hi => by
    obtain ⟨b, b1, b2, -⟩ := g3 i hi
    rw [b2, co_nI (by omega)]; exact b1
  have hB : CB n (fun i => co (m 127 i)) m := ⟨g1, fun i hi => by
    obtain ⟨b, b1, b2, b3⟩ := g3 i hi
    show m 2 i = sxB (co (m 127 i))
    rw [b3, b2, co_nI (by omega)]; rfl⟩
  have hM0 : MBy n (fun i => co (m 127 i)) m := ⟨g2, fun i hi => (nI_co _).symm⟩
  obtain ⟨mc, -, -, -, -, a1, -, -, -, a5, -, -, -⟩ := zt_parse (F := F) hF hn hb hD hB hM0
  generalize he : up2 mc 1 1 0 = e at a1
  have e11 : e 1 1 = 0 := by rw [← he, up2_same]
  have fe : ∀ b, b ≠ 1 → b ≠ 3 → (b < D ∨ D + 16 < b) → e b = m b := fun b q1 q2 q3 => by rw [← he, up2_ne q1, a5 b q1 q2 q3]
  have key : ∀ mr, MBy n (fun i => co (m 127 i)) mr → ∃ m4 m6 mr' i, f_X9_firstDraft F (up2 (up2 mr 113 27 0) 113 23 0) = some m4 ∧ f_X9_next F m4 = some m6 ∧ iter F (b_X9_text_20 F) ((0, m6) : Int32 × Mm) = some (nI i, mr') ∧ FZm mr mr' ∧ e 1 2 = nI i ∧ ((e 1 3 = 0 ∧ mr' 113 27 = 0 ∧ ∃ p, PW p ∧ PC p e D ∧ DM p mr') ∨ (∃ v a, 0 < v ∧ v < 6 ∧ e 1 3 = nI v ∧ e 1 4 = nI a ∧ mr' 113 27 = nI v ∧ mr' 113 28 = nI a)) := fun mr hM => by
    obtain ⟨mc2, m4, m6, mr', i, c1, c2, c3, c4, -, c6, c7, c8⟩ := zt_parse (F := F) hF hn hb hD hB hM
    rw [a1] at c1
    have c1' := Option.some.inj c1
    refine ⟨m4, m6, mr', i, c2, c3, c4, c6, by rw [c1', up2_slot (by decide)]; exact c7, ?_⟩
    rcases c8 with ⟨w1, w2, p2, w3, w4, w5, -⟩ | ⟨-, v, a, w1, w2, w3, w4, w5, w6⟩
    · exact Or.inl ⟨by rw [c1', up2_slot (by decide)]; exact w1, w2, p2, w3, PC_fr w4 (fun j hj => by rw [c1', up2_ne (by omega)]), w5⟩
    · exact Or.inr ⟨v, a, w1, w2, by rw [c1', up2_slot (by decide)]; exact w3, by rw [c1', up2_slot (by decide)]; exact w4, w5, w6⟩
  by_cases z0 : e 1 3 = 0
  case neg =>
    -- a fault
    have MB2 : MBy n (fun i => co (m 127 i)) (up2 e 0 11 (e 1 3)) := MB_fr hM0 (by rw [up2_ne (by decide), fe 113 (by decide) (by decide) (by omega)]) (by rw [up2_ne (by decide), fe 127 (by decide) (by decide) (by omega)])
    obtain ⟨m4, m6, mr', i, b1, b2, b3, b4, b5, b6⟩ := key _ MB2
    rcases b6 with b6 | ⟨v, a, v1, v2, v3, v4, v5, v6⟩
    · exact absurd b6.1 z0
    have hm : ∀ b, b ≠ 0 → b ≠ 1 → b ≠ 3 → (b < D ∨ D + 16 < b) → b ≠ 113 → (b < 121 ∨ 126 < b) → up2 mr' 113 22 0 b = m b := fun b q0 q1 q2 q3 q4 q5 => by rw [up2_ne q4, b4.1 b q4 q5, up2_ne q0, fe b q1 q2 q3]
    have hm0 : ∀ i, i ≠ 11 → up2 mr' 113 22 0 0 i = m 0 i := fun i hi => by rw [up2_ne (by decide), b4.1 0 (by decide) (by omega), up2_slot hi, fe 0 (by decide) (by decide) (by omega)]
    have hm1 : ∀ i, i ≠ 11 → i ≠ 13 → i ≠ 15 → i ≠ 17 → i ≠ 22 → (i < 23 ∨ 28 < i) → up2 mr' 113 22 0 113 i = m 113 i := fun i q1 q2 q3 q4 q5 q6 => by rw [up2_slot q5, b4.2 i q1 q2 q3 q4 q6, up2_ne (by decide), fe 113 (by decide) (by decide) (by omega)]
    refine ⟨(-10 : Int32) - nI a, up2 e 0 11 (e 1 3), up2 mr' 113 22 0, P, D, some D, ?_, ?_, hP, hD, hPD, p, s, hp, SI_mono hI (by omega), hFI, ⟨PC_fr pc (fun j hj => hm _ (by omega) (by omega) (by omega) (by omega) (by omega) (by omega)), ?_, RC_fr rc (fun j hj i _ => by rw [hm (4 + j) (by omega) (by omega) (by omega) (by omega) (by omega) (by omega)]), RM_fr hp.1 hI.2.1.1 rm (fun i _ _ => by rw [hm 114 (by decide) (by decide) (by decide) (by omega) (by decide) (by decide)])⟩, GI_mono (GI_fr hp.1 gi (hm 33 (by decide) (by decide) (by decide) (by omega) (by decide) (by decide)) (hm 115 (by decide) (by decide) (by decide) (by omega) (by decide) (by decide)) (fun b q1 q2 => hm b (by omega) (by omega) (by omega) (by omega) (by omega) (by omega)) (fun i _ _ => by rw [hm 114 (by decide) (by decide) (by decide) (by omega) (by decide) (by decide)])) (by omega), ⟨⟨0, by decide, ?_, up2_same, fun i hi => absurd hi (Nat.not_lt_zero i)⟩, ?_⟩, ?_, GS_fr gs (fun b q1 q2 => hm b (by omega) (by omega) (by omega) (by omega) (by omega) (by omega)) (hm 132 (by decide) (by decide) (by decide) (by omega) (by decide) (by decide)) (hm 133 (by decide) (by decide) (by decide) (by omega) (by decide) (by decide)) (hm 134 (by decide) (by decide) (by decide) (by omega) (by decide) (by decide)), GO_fr go (hm 40 (by decide) (by decide) (by decide) (by omega) (by decide) (by decide)) (hm 41 (by decide) (by decide) (by decide) (by omega) (by decide) (by decide)) (hm 131 (by decide) (by decide) (by decide) (by omega) (by decide) (by decide)) (hm1 36 (by decide) (by decide) (by decide) (by decide) (by decide) (by decide)), ?_⟩
    · have z1 : ¬ up2 e 0 11 (e 1 3) 0 11 = 0 := by rw [up2_same]; exact z0
      unfold f_X8_text
      rw [a1, Option.bind_some, letv_eq, if_neg z1, up2_ne (show (1 : Nat) ≠ 0 by decide), v4]
    · have n27 : ¬ up2 mr' 113 22 0 113 27 ≤ 0 := by rw [up2_slot (by decide), v5]; exact nI_nle v1 (by omega)
      unfold f_X9_text
      rw [letv_eq, letv_eq, b1, Option.bind_some, b2, Option.bind_some, b3, Option.bind_some, letv_eq]
      dsimp only
      rw [if_neg n27, up2_slot (show (28 : Nat) ≠ 22 by decide), v6]
    · unfold PM
      rw [hm1 2 (by decide) (by decide) (by decide) (by decide) (by decide) (by decide), hm1 4 (by decide) (by decide) (by decide) (by decide) (by decide) (by decide), hm1 6 (by decide) (by decide) (by decide) (by decide) (by decide) (by decide), hm1 8 (by decide) (by decide) (by decide) (by decide) (by decide) (by decide), hm 116 (by decide) (by decide) (by decide) (by omega) (by decide) (by decide), hm 117 (by decide) (by decide) (by decide) (by omega) (by decide) (by decide), hm 118 (by decide) (by decide) (by decide) (by omega) (by decide) (by decide), hm 119 (by decide) (by decide) (by decide) (by omega) (by decide) (by decide), hm 120 (by decide) (by decide) (by decide) (by omega) (by decide) (by decide)]
      exact pm
    · rw [up2_ne (by decide), b4.1 1 (by decide) (by decide), up2_ne (by decide), e11]; rfl
    · rw [up2_slot (show (27 : Nat) ≠ 22 by decide), v5, up2_ne (by decide), b4.1 0 (by decide) (by decide), up2_same, v3]
    · unfold GT
      rw [hm0 12 (by decide), hm1 41 (by decide) (by decide) (by decide) (by decide) (by decide) (by decide)]
      exact gt
    · have e34 := hm 34 (by decide) (by decide) (by decide) (by omega) (by decide) (by decide)
      exact GK_fr gk (fun _ _ => rfl) (by rw [e34]) (by rw [e34]) (by rw [e34]) (by rw [e34]) (hm 37 (by decide) (by decide) (by decide) (by omega) (by decide) (by decide))
  -- no fault: all is told anew
  have PCe : ∀ p2 : AS, PC p2 e D → PC p2 (up2 e 0 11 (e 1 3)) D := fun p2 h => PC_fr h (fun j hj => up2_ne (by omega))
  obtain ⟨mq4, mq6, mq7, iq, -, -, -, -, -, hq6⟩ := key m hM0
  rcases hq6 with ⟨-, -, pq1, hq7, hq8, -⟩ | ⟨v, a, v1, v2, v3, -⟩
  case inr => exact absurd (v3.symm.trans z0) (nI_ne0 v1 (by omega))
  obtain ⟨m3, s1, -, s3⟩ := c_start (F := F) (S := 4) (Or.inl rfl) hD hq7 (PCe _ hq8) (by omega)
  obtain ⟨m4, f1, f2, f3⟩ := c_fim (m := m3) (F := F) hF
  have h5 : ∀ b, b ≠ 0 → b ≠ 1 → b ≠ 3 → (b < D ∨ D + 16 < b) → (b < 4 ∨ 17 < b) → b ≠ 33 → b ≠ 34 → up2 m4 34 7 (-4) b = m b := fun b q0 q1 q2 q3 q4 q5 q6 => by rw [up2_ne q6, f3 b q5, s3.1 b q4, up2_ne q0, fe b q1 q2 q3]
  have MB5 : MBy n (fun i => co (m 127 i)) (up2 m4 34 7 (-4)) := MB_fr hM0 (by rw [h5 113 (by decide) (by decide) (by decide) (by omega) (by decide) (by decide) (by decide)]) (h5 127 (by decide) (by decide) (by decide) (by omega) (by decide) (by decide) (by decide))
  obtain ⟨r4, r6, mr', i, b1, b2, b3, b4, b5, b6⟩ := key _ MB5
  rcases b6 with ⟨-, z27, p2, w1, w2, w3⟩ | ⟨v, a, v1, v2, v3, -⟩
  case inr => exact absurd (v3.symm.trans z0) (nI_ne0 v1 (by omega))
  obtain ⟨m3', t1, t2, -⟩ := c_start (F := F) (S := 4) (Or.inl rfl) hD w1 (PCe _ w2) (by omega)
  rw [s1] at t1
  obtain rfl := Option.some.inj t1
  have DM2 : DM p2 (up2 mr' 113 22 0) := by
    unfold DM at w3 ⊢
    rw [up2_slot (by decide), up2_slot (by decide), up2_slot (by decide), up2_slot (by decide), up2_ne (by decide), up2_ne (by decide), up2_ne (by decide), up2_ne (by decide), up2_ne (by decide)]
    exact w3
  obtain ⟨m9, d1, d2, d3, d4, d5, d6, d7, d8⟩ := m_keepD (F := F) hF w1 DM2
  have h9 : ∀ b, (b < 113 ∨ 126 < b) → m9 b = up2 m4 34 7 (-4) b := fun b q => by rw [d6 b (by omega) (by omega) (by omega) (by omega) (by omega) (by omega) (by omega) (by omega), up2_ne (by omega), b4.1 b (by omega) (by omega)]
  have h9m : ∀ b, (b < 113 ∨ 126 < b) → b ≠ 0 → b ≠ 1 → b ≠ 3 → (b < D ∨ D + 16 < b) → (b < 4 ∨ 17 < b) → b ≠ 33 → b ≠ 34 → m9 b = m b := fun b q q0 q1 q2 q3 q4 q5 q6 => (h9 b q).trans (h5 b q0 q1 q2 q3 q4 q5 q6)
  have h93 : ∀ b, (b < 113 ∨ 126 < b) → b ≠ 33 → b ≠ 34 → m9 b = m3 b := fun b q q5 q6 => by rw [h9 b q, up2_ne q6, f3 b q5]
  have h113 : ∀ i, i ≠ 2 → i ≠ 4 → i ≠ 6 → i ≠ 8 → i ≠ 11 → i ≠ 13 → i ≠ 15 → i ≠ 17 → (i < 22 ∨ 28 < i) → m9 113 i = m 113 i := fun i q1 q2 q3 q4 q5 q6 q7 q8 q9 => by rw [d7 i q1 q2 q3 q4, up2_slot (by omega), b4.2 i q5 q6 q7 q8 (by omega), h5 113 (by decide) (by decide) (by decide) (by omega) (by decide) (by decide) (by decide)]
  have m312 : m3 1 2 = nI i := by rw [s3.1 1 (by decide), up2_ne (by decide)]; exact b5
  refine ⟨nI i, up2 m4 34 7 (-4), m9, D, P, some D, ?_, ?_, hD, hP, Ne.symm hPD, p2, seeS p2 (iniS p2), w1, SI_mono (seeS_I (iniS_I w1).1 (iniS_I w1).2) (Nat.zero_le _), FI_ini p2, ⟨?_, d2, RC_fr t2 (fun j hj i _ => by rw [h93 (4 + j) (by omega) (by omega) (by omega)]), d3⟩, fun i hi => ?_, ⟨⟨0, by decide, ?_, ?_, fun i hi => absurd hi (Nat.not_lt_zero i)⟩, ?_⟩, ?_, GS_fr gs (fun b q1 q2 => h9m b (by omega) (by omega) (by omega) (by omega) (by omega) (by omega) (by omega) (by omega)) (h9m 132 (by decide) (by decide) (by decide) (by decide) (by omega) (by decide) (by decide) (by decide)) (h9m 133 (by decide) (by decide) (by decide) (by decide) (by omega) (by decide) (by decide) (by decide)) (h9m 134 (by decide) (by decide) (by decide) (by decide) (by omega) (by decide) (by decide) (by decide)), GO_fr go (h9m 40 (by decide) (by decide) (by decide) (by decide) (by omega) (by decide) (by decide) (by decide)) (h9m 41 (by decide) (by decide) (by decide) (by decide) (by omega) (by decide) (by decide) (by decide)) (h9m 131 (by decide) (by decide) (by decide) (by decide) (by omega) (by decide) (by decide) (by decide)) (h113 36 (by decide) (by decide) (by decide) (by decide) (by decide) (by decide) (by decide) (by decide) (by decide)), ?_⟩
  · have z1 : up2 e 0 11 (e 1 3) 0 11 = 0 := by rw [up2_same]; exact z0
    unfold f_X8_text
    rw [a1, Option.bind_some, letv_eq, if_pos z1, s1, Option.bind_some, f1, Option.bind_some]
    unfold f_X4_forget
    rw [letv_eq, Option.bind_some, up2_ne (show (1 : Nat) ≠ 34 by decide), f3 1 (by decide), m312]
  · have n27 : up2 mr' 113 22 0 113 27 ≤ 0 := by rw [up2_slot (by decide), z27]; exact Int32.le_refl _
    unfold f_X9_text
    rw [letv_eq, letv_eq, b1, Option.bind_some, b2, Option.bind_some, b3, Option.bind_some, letv_eq]
    dsimp only
    rw [if_pos n27, d1, Option.bind_some]
  · exact PC_fr (PC_FC (PCe _ w2) (Or.inl rfl) hD s3) (fun j hj => h93 _ (by omega) (by omega) (by omega))
  · have e33 : m9 33 i = 0 := by rw [h9 33 (by decide), up2_ne (by decide)]; exact f2 i hi
    refine ⟨?_, Or.inl e33⟩
    have hc : i = 0 ∨ i = 1 := by omega
    rcases hc with rfl | rfl
    · rw [e33, d4]
    · rw [e33, d5]
  · rw [h93 1 (by decide) (by decide) (by decide), s3.1 1 (by decide), up2_ne (by decide), e11]; rfl
  · rw [d7 22 (by decide) (by decide) (by decide) (by decide), up2_same]; rfl
  · rw [d7 27 (by decide) (by decide) (by decide) (by decide), up2_slot (by decide), z27, h93 0 (by decide) (by decide) (by decide), s3.1 0 (by decide), up2_same, z0]
  · unfold GT
    rw [h113 41 (by decide) (by decide) (by decide) (by decide) (by decide) (by decide) (by decide) (by decide) (by decide), h93 0 (by decide) (by decide) (by decide), s3.1 0 (by decide), up2_slot (by decide), fe 0 (by decide) (by decide) (by omega)]
    exact gt
  · left
    rw [h9 34 (by decide), up2_same]

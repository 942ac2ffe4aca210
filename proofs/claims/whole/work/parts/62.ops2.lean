/-! keep, back, order, recall -/
theorem vnb1 : vp_nar .boolean 1 = 1 := by decide +kernel
theorem vnb0 : vp_nar .boolean 0 = 0 := by decide +kernel
theorem imgN : ∀ i, i < 2 → imgOf (nI i) = some (77 + 14 * i) := by
  intro i hi
  have : i = 0 ∨ i = 1 := by omega
  rcases this with rfl | rfl <;> decide +kernel
theorem st_imG {i : Nat} (hi : i < 2) : isSt (77 + 14 * i) := by
  have : i = 0 ∨ i = 1 := by omega
  rcases this with rfl | rfl
  · exact Or.inr (Or.inr (Or.inl rfl))
  · exact Or.inr (Or.inr (Or.inr rfl))
theorem op_keep {F c : Nat} (hF : 5000 ≤ F) : OP_keep F (G c) (G (c + 1)) := by
  intro m P D T hG a1
  have hG' := G_mono hG (Nat.le_succ c)
  obtain ⟨hP, hD, hPD, p, s, hp, hI, hFI, ⟨pc, pm, rc, rm⟩, gi, gr, gt, gs, go, gk⟩ := G_alt hG
  have hz := hI.2.1.1
  have hS4 : isSt 4 := Or.inl rfl
  unfold f_X8_keep f_X9_keep
  rcases in_N a1 0 1 (A := 0) (B := 1) (by decide) (by decide) (by decide) (by decide) with ⟨i, -, hi, rfl, h⟩ | ⟨hx, h⟩
  case inr =>
    refine ⟨-1, m, m, ?_, by rw [h]; rfl, hG'⟩
    rcases hx with q | q
    · rw [if_pos (show a1 < (0 : Int32) from q)]
    · have k2 : ¬ a1 < (2 : Int32) := by
        intro w
        rcases pk_ix a1 (n := 2) (by decide) with v | v | ⟨j, hj, rfl⟩
        · exact absurd (Int32.lt_trans q v) (by decide)
        · exact absurd w (Int32.not_lt.mpr v)
        · exact nI_nlt (by omega) (by omega) q
      rw [if_neg k2]
      split <;> rfl
  have hi2 : i < 2 := by omega
  have k1 : ¬ nI i < (0 : Int32) := nI_pos (by omega)
  have k2 : nI i < (2 : Int32) := nI_lt (b := 2) hi2 (by decide)
  have hSi := st_imG hi2
  have e1 : ald m 33 2 (nI i) = some (m 33 i) := ald_n hi2 (by decide)
  obtain ⟨m1, a1', a2', a3'⟩ := c_copyF hSi hS4 (by omega) hp.1 hz rc
  have e2 : ast m1 33 2 (nI i) (vp_nar .boolean 1) = some (up2 m1 33 i 1) := by rw [vnb1]; exact ast_n hi2 (by decide)
  have hm2 : ∀ b, b < 77 + 14 * i ∨ 77 + 14 * i + 13 < b → b ≠ 33 → up2 m1 33 i 1 b = m b := fun b hb h33 => by rw [up2_ne h33, a3'.1 b hb]
  have e3 : ald (up2 m1 33 i 1) 115 2 (nI i) = some (m 33 i) := by
    rw [ald_n hi2 (by decide), hm2 115 (by omega) (by decide), (gi i hi2).1]
  have e4 : ast (up2 m1 33 i 1) 115 2 (nI i) (vp_nar .boolean 1) = some (up2 (up2 m1 33 i 1) 115 i 1) := by rw [vnb1]; exact ast_n hi2 (by decide)
  have rm2 : RM p s (up2 (up2 m1 33 i 1) 115 i 1) 0 := RM_cell rm (by rw [up2_ne (by decide), hm2 114 (by omega) (by decide)])
  obtain ⟨m4, d1, d2, d3⟩ := m_copy (A := 0) (B := 128 + 128 * i) (F := F) hp hz rm2 (by decide) (by omega) (by omega) (by omega)
  have d1' : f_X9_copies F (up2 (up2 m1 33 i 1) 115 i 1) (128 + 128 * nI i) 0 = some m4 := by
    rw [show (128 : Int32) + 128 * nI i = nI (128 + 128 * i) from by rw [show (128 : Int32) = nI 128 from rfl, pk_mul, nI_add]]
    exact d1
  have hm4 : ∀ b, b < 77 + 14 * i ∨ 77 + 14 * i + 13 < b → b ≠ 33 → b ≠ 114 → b ≠ 115 → m4 b = m b := fun b hb h33 h114 h115 => by
    rw [d3.1 b h114, up2_ne h115, hm2 b hb h33]
  have hf : (if m 33 i = 0 then some (0 : Int32) else some 1) = f_X9_flag (m 33 i) := rfl
  have hfl : ∃ z, f_X9_flag (m 33 i) = some z := by unfold f_X9_flag; split <;> exact ⟨_, rfl⟩
  obtain ⟨z, hz2⟩ := hfl
  refine ⟨z, up2 m1 33 i 1, m4, ?_, ?_, hP, hD, hPD, p, s, hp, SI_mono hI (by omega), hFI, ⟨PC_fr pc (fun j hj => ?_), ?_, RC_fr rc (fun j hj k _ => ?_), RM_fr hp.1 hz rm (fun k _ q => ?_)⟩, fun k hk => ?_, GR_fr gr ?_ ?_ ?_ ?_ ?_ ?_, ?_, GS_fr gs (fun b q1 q2 => hm4 b (by omega) (by omega) (by omega) (by omega)) (hm4 _ (by omega) (by decide) (by decide) (by decide)) (hm4 _ (by omega) (by decide) (by decide) (by decide)) (hm4 _ (by omega) (by decide) (by decide) (by decide)), GO_fr go (hm4 _ (by omega) (by decide) (by decide) (by decide)) (hm4 _ (by omega) (by decide) (by decide) (by decide)) (hm4 _ (by omega) (by decide) (by decide) (by decide)) ?_, GK_fr gk (fun _ _ => rfl) ?_ ?_ ?_ ?_ (hm4 _ (by omega) (by decide) (by decide) (by decide))⟩
  · rw [if_neg k1, if_pos k2, e1, Option.bind_some, hf, hz2, Option.bind_some, imgN i hi2, Option.bind_some, a1', Option.bind_some, e2]
    rfl
  · rw [h, Option.bind_some, if_neg n10, e3, Option.bind_some, hz2, Option.bind_some, e4, Option.bind_some, d1']
    rfl
  · have := isPl_le hP
    have : 43 ≤ P := by rcases hP with rfl | rfl <;> decide
    exact hm4 _ (by omega) (by omega) (by omega) (by omega)
  · unfold PM
    rw [hm4 113 (by omega) (by decide) (by decide) (by decide), hm4 116 (by omega) (by decide) (by decide) (by decide), hm4 117 (by omega) (by decide) (by decide) (by decide), hm4 118 (by omega) (by decide) (by decide) (by decide), hm4 119 (by omega) (by decide) (by decide) (by decide), hm4 120 (by omega) (by decide) (by decide) (by decide)]
    exact pm
  · rw [hm4 _ (by omega) (by omega) (by omega) (by omega)]
  · rw [d3.2 k (by omega), up2_ne (by decide), hm2 114 (by omega) (by decide)]
  · have h33 : ∀ k, m4 33 k = up2 m 33 i 1 33 k := fun k => by
      rw [d3.1 33 (by decide), up2_ne (by decide)]
      simp only [up2_at]
      split
      · rfl
      · rw [a3'.1 33 (by omega)]
    have h115 : ∀ k, m4 115 k = up2 m 115 i 1 115 k := fun k => by
      rw [d3.1 115 (by decide)]
      simp only [up2_at]
      split
      · rfl
      · rw [if_neg (by omega), a3'.1 115 (by omega)]
    by_cases e : k = i
    · subst e
      refine ⟨by rw [h33, h115, up2_same, up2_same], Or.inr ⟨by rw [h33, up2_same], s, SI_mono hI (by omega), hFI, RC_fr a2' (fun j hj k _ => ?_), d2⟩⟩
      rw [d3.1 _ (by omega), up2_ne (by omega), up2_ne (by omega)]
    · obtain ⟨g1, g2⟩ := gi k hk
      refine ⟨by rw [h33, h115, up2_slot e, up2_slot e]; exact g1, ?_⟩
      rw [h33, up2_slot e]
      refine g2.imp id ?_
      rintro ⟨g3, t, g4, g5, g6, g7⟩
      refine ⟨g3, t, SI_mono g4 (by omega), g5, RC_fr g6 (fun j hj k' _ => ?_), RM_fr hp.1 g4.2.1.1 g7 (fun k' q1 q2 => ?_)⟩
      · rw [hm4 _ (by omega) (by omega) (by omega) (by omega)]
      · rw [d3.2 k' (by omega), up2_ne (by decide), hm2 114 (by omega) (by decide)]
  · rw [hm4 1 (by omega) (by decide) (by decide) (by decide)]
  · exact hm4 2 (by omega) (by decide) (by decide) (by decide)
  · exact hm4 127 (by omega) (by decide) (by decide) (by decide)
  · rw [hm4 113 (by omega) (by decide) (by decide) (by decide)]
  · rw [hm4 113 (by omega) (by decide) (by decide) (by decide)]
  · rw [hm4 0 (by omega) (by decide) (by decide) (by decide)]
  · unfold GT
    rw [hm4 0 (by omega) (by decide) (by decide) (by decide), hm4 113 (by omega) (by decide) (by decide) (by decide)]
    exact gt
  · rw [hm4 113 (by omega) (by decide) (by decide) (by decide)]
  · rw [hm4 34 (by omega) (by decide) (by decide) (by decide)]
  · rw [hm4 34 (by omega) (by decide) (by decide) (by decide)]
  · rw [hm4 34 (by omega) (by decide) (by decide) (by decide)]
  · rw [hm4 34 (by omega) (by decide) (by decide) (by decide)]
theorem op_back {F c : Nat} (hF : 5000 ≤ F) : OP_back F (G c) (G (c + 1)) := by
  intro m P D T hG a1
  have hG' := G_mono hG (Nat.le_succ c)
  obtain ⟨hP, hD, hPD, p, s, hp, hI, hFI, ⟨pc, pm, rc, rm⟩, gi, gr, gt, gs, go, gk⟩ := G_alt hG
  have hS4 : isSt 4 := Or.inl rfl
  unfold f_X8_back f_X9_back
  rcases in_N a1 0 1 (A := 0) (B := 1) (by decide) (by decide) (by decide) (by decide) with ⟨i, -, hi, rfl, h⟩ | ⟨hx, h⟩
  case inr =>
    refine ⟨-1, m, m, ?_, by rw [h]; rfl, hG'⟩
    rcases hx with q | q
    · rw [if_pos (show a1 < (0 : Int32) from q)]
    · have k2 : ¬ a1 < (2 : Int32) := by
        intro w
        rcases pk_ix a1 (n := 2) (by decide) with v | v | ⟨j, hj, rfl⟩
        · exact absurd (Int32.lt_trans q v) (by decide)
        · exact absurd w (Int32.not_lt.mpr v)
        · exact nI_nlt (by omega) (by omega) q
      rw [if_neg k2]
      split <;> rfl
  have hi2 : i < 2 := by omega
  have k1 : ¬ nI i < (0 : Int32) := nI_pos (by omega)
  have k2 : nI i < (2 : Int32) := nI_lt (b := 2) hi2 (by decide)
  have hSi := st_imG hi2
  have e1 : ald m 33 2 (nI i) = some (m 33 i) := ald_n hi2 (by decide)
  have e3 : ald m 115 2 (nI i) = some (m 33 i) := by rw [ald_n hi2 (by decide), (gi i hi2).1]
  rcases (gi i hi2).2 with q0 | ⟨q1, t, tI, tF, trc, trm⟩
  · refine ⟨-2, m, m, ?_, ?_, hG'⟩
    · rw [if_neg k1, if_pos k2, e1, Option.bind_some, if_pos q0]
    · rw [h, Option.bind_some, if_neg n10, e3, Option.bind_some, if_pos q0]
  have q1' : ¬ m 33 i = 0 := by rw [q1]; decide
  have hz := tI.2.1.1
  obtain ⟨m1, a1', a2', a3'⟩ := c_copyF hS4 hSi (by omega) hp.1 hz trc
  have hm2 := fgt a3'.1 (-4)
  have rm2 : RM p t (up2 m1 34 7 (-4)) (128 + 128 * i) := RM_cell trm (hm2 114 (by omega) (by decide))
  obtain ⟨m4, d1, d2, d3⟩ := m_copy (A := 128 + 128 * i) (B := 0) (F := F) hp hz rm2 (by omega) (by decide) (by omega) (by omega)
  have d1' : f_X9_copies F (up2 m1 34 7 (-4)) 0 (128 + 128 * nI i) = some m4 := by
    rw [show (128 : Int32) + 128 * nI i = nI (128 + 128 * i) from by rw [show (128 : Int32) = nI 128 from rfl, pk_mul, nI_add]]
    exact d1
  have e4 : ald (up2 m1 34 7 (-4)) 115 2 (nI i) = some (m 33 i) := by rw [ald_n hi2 (by decide), hm2 115 (by omega) (by decide), (gi i hi2).1]
  obtain ⟨u1, -⟩ := m_under hp hz d2
  refine ⟨nI (t 0 0), up2 m1 34 7 (-4), m4, ?_, ?_, G_two hP hD hPD hp pc pm (Nat.le_succ c) gi gr gt gs go (SI_mono tI (by omega)) tF (RC_fr a2' (fun j hj k _ => up2_cell (by omega))) d2 (Or.inl up2_same) hm2 d3 (s := s)⟩
  · rw [if_neg k1, if_pos k2, e1, Option.bind_some, if_neg q1', imgN i hi2, Option.bind_some, a1', Option.bind_some]
    unfold f_X4_forget
    rw [letv_eq, Option.bind_some, up2_cell (by decide), RC_0 a2']
  · rw [h, Option.bind_some, if_neg n10, e4, Option.bind_some, if_neg q1', d1', Option.bind_some, u1]
    rfl
/-- the reference's look at an order, behind its minute -/
def rOrd (m : Mm) (a3 a4 a5 : Int32) : Option Int32 := if a3 = 0 then ((f_X9_isDoor m a4).bind fun x4 => bG x4) else (if a3 = 1 then ((f_X9_isDoor m a4).bind fun x6 => bG x6) else (if a3 = 2 then ((f_X9_in a4.toInt64 0 (((m 113 6) - (1 : Int32)).toInt64)).bind fun x8 => bG x8) else (if a3 = 3 then ((f_X9_in a4.toInt64 0 (((m 113 8) - (1 : Int32)).toInt64)).bind fun x10 => if x10 = 0 then (some 0) else (if a5 = ((-4) : Int32) then (some 1) else ((f_X9_isHold m a5).bind fun x12 => if x12 = 0 then (some 0) else (some 1)))) else (if a3 = 4 then ((f_X9_isHold m a4).bind fun x14 => if x14 = 0 then (some 0) else ((f_X9_in a5.toInt64 0 1).bind fun x16 => if x16 = 0 then (some 0) else (some 1))) else (some 0)))))
theorem rOrd_eq (m : Mm) (a1 : Int64) (a3 a4 a5 : Int32) : f_X9_isOrder m a1 a3 a4 a5 = (ald m 114 512 71).bind fun x1 => (f_X9_in a1 x1.toInt64 999).bind fun x2 => if x2 = 0 then (some 0) else rOrd m a3 a4 a5 := rfl
theorem is_order {p : AS} {m mr : Mm} {P : Nat} (hp : PL p) (pc : PC p m P) (pm : PM p mr) (a b c : Int32) : (f_X8_isOrder m P a b c = some 0 ∧ rOrd mr a b c = some 0) ∨ (f_X8_isOrder m P a b c = some 1 ∧ rOrd mr a b c = some 1 ∧ ∃ kd wt wh, a = nI kd ∧ b = nI wt ∧ c = nI wh ∧ goO p kd wt wh) := by
  obtain ⟨l1, l2, l3, l4⟩ := id hp
  have hco : c = nI (co c) := (nI_co c).symm
  unfold f_X8_isOrder rOrd
  by_cases q0 : a = 0
  · rw [if_pos q0, if_pos q0]
    rcases is_door hp pc pm b with ⟨j, hj, rfl, h8, h9⟩ | ⟨-, h8, h9⟩
    · rw [h8, h9]
      exact Or.inr ⟨bG_1, bG_1, 0, j, co c, q0, rfl, hco, by omega, fun _ => hj, fun q => by omega, fun q => by omega, fun q => by omega⟩
    · rw [h8, h9]
      exact Or.inl ⟨bG_0, bG_0⟩
  rw [if_neg q0, if_neg q0]
  by_cases q1 : a = 1
  · rw [if_pos q1, if_pos q1]
    rcases is_door hp pc pm b with ⟨j, hj, rfl, h8, h9⟩ | ⟨-, h8, h9⟩
    · rw [h8, h9]
      exact Or.inr ⟨bG_1, bG_1, 1, j, co c, q1, rfl, hco, by omega, fun _ => hj, fun q => by omega, fun q => by omega, fun q => by omega⟩
    · rw [h8, h9]
      exact Or.inl ⟨bG_0, bG_0⟩
  rw [if_neg q1, if_neg q1]
  by_cases q2 : a = 2
  · rw [if_pos q2, if_pos q2]
    rcases is_hole hp pc pm b with ⟨j, hj, rfl, h8, h9⟩ | ⟨-, h8, h9⟩
    · rw [h8, h9]
      exact Or.inr ⟨bG_1, bG_1, 2, j, co c, q2, rfl, hco, by omega, fun q => by omega, fun _ => hj, fun q => by omega, fun q => by omega⟩
    · rw [h8, h9]
      exact Or.inl ⟨bG_0, bG_0⟩
  rw [if_neg q2, if_neg q2]
  by_cases q3 : a = 3
  · rw [if_pos q3, if_pos q3]
    rcases is_pump hp pc pm b with ⟨j, hj, rfl, h8, h9⟩ | ⟨-, h8, h9⟩
    · rw [h8, h9, Option.bind_some, Option.bind_some, if_neg n10, if_neg n10]
      by_cases q : c = -4
      · rw [if_pos q, if_pos q]
        exact Or.inr ⟨rfl, rfl, 3, j, 4294967292, q3, rfl, by rw [q, nI_NN], by omega, fun q => by omega, fun q => by omega, fun _ => ⟨hj, Or.inr rfl⟩, fun q => by omega⟩
      · rw [if_neg q, if_neg q]
        rcases is_hold hp pc pm c with ⟨k, hk, rfl, g8, g9⟩ | ⟨-, g8, g9⟩
        · rw [g8, g9]
          exact Or.inr ⟨rfl, rfl, 3, j, k, q3, rfl, rfl, by omega, fun q => by omega, fun q => by omega, fun _ => ⟨hj, Or.inl hk⟩, fun q => by omega⟩
        · rw [g8, g9]
          exact Or.inl ⟨rfl, rfl⟩
    · rw [h8, h9]
      exact Or.inl ⟨rfl, rfl⟩
  rw [if_neg q3, if_neg q3]
  by_cases q4 : a = 4
  · rw [if_pos q4, if_pos q4]
    rcases is_hold hp pc pm b with ⟨j, hj, rfl, h8, h9⟩ | ⟨-, h8, h9⟩
    · rw [h8, h9, Option.bind_some, Option.bind_some, if_neg n10, if_neg n10]
      rcases in_N c 0 1 (A := 0) (B := 1) (by decide) (by decide) (by decide) (by decide) with ⟨k, -, hk, rfl, h⟩ | ⟨hx, h⟩
      · rw [h, Option.bind_some, if_neg n10]
        have : k = 0 ∨ k = 1 := by omega
        rcases this with rfl | rfl
        · exact Or.inr ⟨by decide, rfl, 4, j, 0, q4, rfl, rfl, by omega, fun q => by omega, fun q => by omega, fun q => by omega, fun _ => ⟨hj, by omega⟩⟩
        · exact Or.inr ⟨by decide, rfl, 4, j, 1, q4, rfl, rfl, by omega, fun q => by omega, fun q => by omega, fun q => by omega, fun _ => ⟨hj, by omega⟩⟩
      · rw [h, Option.bind_some, if_pos rfl]
        have w0 : ¬ c = 0 := fun q => (ne_out hx (by decide) 0 (by decide) (by decide)).mp q
        have w1 : ¬ c = 1 := fun q => (ne_out hx (by decide) 1 (by decide) (by decide)).mp q
        rw [if_neg w0, if_neg w1]
        exact Or.inl ⟨rfl, rfl⟩
    · rw [h8, h9]
      exact Or.inl ⟨rfl, rfl⟩
  rw [if_neg q4, if_neg q4]
  exact Or.inl ⟨rfl, rfl⟩
theorem FI_app {s : AS} {a b c d : Nat} (h : FI s) : FI (appS s a b c d) := by
  unfold FI at h ⊢
  have n11 : appS s a b c d 11 (s 6 0) = 0 := by simp [appS]
  rw [appS_6, sumN, show isW 3 (appS s a b c d) (s 6 0) = 0 from by rw [isW, n11, if_neg (by omega)], Nat.add_zero, appS_r (j := 16) (by omega), h]
  exact sumN_congr (fun i hi => by simp only [isW, appS_o (s := s) (a := a) (b := b) (c := c) (d := d) (j := 11) (by decide) (Nat.ne_of_lt hi)])
theorem minute_cases {x : Int32} {M : Nat} (hM : M < 2 ^ 28) : (∃ v, M ≤ v ∧ v ≤ 999 ∧ x = nI v) ∨ x < nI M ∨ (999 : Int32) < x := by
  by_cases q : x < nI M
  · exact Or.inr (Or.inl q)
  by_cases q2 : (999 : Int32) < x
  · exact Or.inr (Or.inr q2)
  left
  rcases pk_ix x (n := 1000) (by omega) with w | w | ⟨j, hj, rfl⟩
  · exact absurd (Int32.lt_of_lt_of_le w (nI_pos' (by omega))) q
  · exact absurd (Int32.lt_of_lt_of_le (show (999 : Int32) < nI 1000 from by decide) w) q2
  · refine ⟨j, ?_, by omega, rfl⟩
    apply Decidable.byContradiction
    intro w
    exact q (nI_lt (by omega) (by omega))
theorem op_order {F c : Nat} (hc : c ≤ 512) : OP_order F (G c) (G (c + 1)) := by
  intro m P D T hG a1 a2 a3 a4
  have hG' := G_mono hG (Nat.le_succ c)
  obtain ⟨hP, hD, hPD, p, s, hp, hI, hFI, ⟨pc, pm, rc, rm⟩, gi, gr, gt, gs, go, gk⟩ := G_alt hG
  have hz := hI.2.1.1
  have hM : s 0 0 ≤ 120 * c := hI.2.1.2.2.2.2.2.2.2
  obtain ⟨u1, -, -, -, -, u6⟩ := m_under hp hz rm
  have r9 : ∀ mr, RM p s mr 0 → f_X9_isOrder mr a1.toInt64 a2 a3 a4 = if a1 < nI (s 0 0) then some 0 else if (999 : Int32) < a1 then some 0 else rOrd mr a2 a3 a4 := by
    intro mr h
    obtain ⟨w1, -⟩ := m_under hp hz h
    rw [rOrd_eq, w1, Option.bind_some, show (999 : Int64) = (999 : Int32).toInt64 from by decide, in_i]
    split
    · rfl
    split
    · rfl
    · rfl
  have r8 : f_X8_order m P a1 a2 a3 a4 = bind2 (if a1 < nI (s 0 0) then some (-1, m) else if (999 : Int32) < a1 then some (-1, m) else ((f_X8_isOrder m P a2 a3 a4).bind fun x1 => if x1 = 0 then (some ((-1), m)) else (bind2 (f_X0_append m 10 a1 a2 a3 a4) fun x3 m4 => some (x3, m4)))) (fun x1 m2 => some (x1, m2)) := by
    unfold f_X8_order f_X8_tell
    rw [RC_0 rc]
  by_cases q1 : a1 < nI (s 0 0)
  · rw [if_pos q1] at r8
    refine ⟨-1, m, m, r8, ?_, hG'⟩
    unfold f_X9_order
    rw [r9 m rm, if_pos q1]
    rfl
  rw [if_neg q1] at r8
  by_cases q2 : (999 : Int32) < a1
  · rw [if_pos q2] at r8
    refine ⟨-1, m, m, r8, ?_, hG'⟩
    unfold f_X9_order
    rw [r9 m rm, if_neg q1, if_pos q2]
    rfl
  rw [if_neg q2] at r8
  obtain ⟨v, hv1, hv2, rfl⟩ : ∃ v, s 0 0 ≤ v ∧ v ≤ 999 ∧ a1 = nI v := by
    rcases minute_cases (x := a1) (M := s 0 0) (by omega) with w | w | w
    · exact w
    · exact absurd w q1
    · exact absurd w q2
  rcases is_order hp.1 pc pm a2 a3 a4 with ⟨h8, h9⟩ | ⟨h8, h9, kd, wt, wh, rfl, rfl, rfl, hg⟩
  · rw [h8] at r8
    refine ⟨-1, m, m, r8, ?_, hG'⟩
    unfold f_X9_order
    rw [r9 m rm, if_neg q1, if_neg q2, h9]
    rfl
  rw [h8, Option.bind_some, if_neg n10] at r8
  by_cases qz : s 6 0 = 12
  · have e1 : f_X0_append m 10 (nI v) (nI kd) (nI wt) (nI wh) = some (-3, m) := c_full (S := 4) rc qz
    refine ⟨-3, m, m, ?_, ?_, hG'⟩
    · rw [r8, e1]; rfl
    · unfold f_X9_order
      rw [r9 m rm, if_neg q1, if_neg q2, h9, Option.bind_some, if_neg n10, u6, Option.bind_some, if_pos (show nI (s 6 0) = (12 : Int32) from by rw [qz]; rfl)]
  have hz2 : s 6 0 < 12 := by omega
  obtain ⟨m1, a1', a2', a3'⟩ := c_append (S := 4) (a := v) (b := kd) (c := wt) (d := wh) rc hz2
  have a1'' : f_X0_append m 10 (nI v) (nI kd) (nI wt) (nI wh) = some (nI (s 6 0), m1) := a1'
  have hm1 : ∀ b, b < 4 ∨ 17 < b → b ≠ 34 → m1 b = m b := fun b hb _ => a3'.1 b hb
  have pm1 : PM p m1 := by
    unfold PM
    rw [hm1 113 (by omega) (by decide), hm1 116 (by omega) (by decide), hm1 117 (by omega) (by decide), hm1 118 (by omega) (by decide), hm1 119 (by omega) (by decide), hm1 120 (by omega) (by decide)]
    exact pm
  have rm1 : RM p s m1 0 := RM_cell rm (hm1 114 (by omega) (by decide))
  obtain ⟨u1', -, -, -, -, u6'⟩ := m_under hp hz rm1
  obtain ⟨m2, d1, d2, d3⟩ := m_tells (B := 0) (a := v) (b := kd) (c := wt) (d := wh) hp (by decide) rm1 hz2
  have d1' : f_X9_tells m1 0 (nI v) (nI kd) (nI wt) (nI wh) = some m2 := d1
  have hIt := appS_I (a := v) (b := kd) (c := wt) (d := wh) hI hz2 (by omega) hg
  obtain ⟨-, -, -, -, -, u7⟩ := m_under hp hIt.2.1.1 d2
  have h9' : rOrd m1 (nI kd) (nI wt) (nI wh) = some 1 := by
    unfold rOrd f_X9_isDoor f_X9_isHold at h9 ⊢
    rw [hm1 113 (by omega) (by decide)]
    exact h9
  have hn12 : ¬ nI (s 6 0) = (12 : Int32) := nI_ne (b := 12) (by omega) (by decide) qz
  refine ⟨nI (s 6 0), m1, m2, ?_, ?_, G_two hP hD hPD hp pc pm (Nat.le_succ c) gi gr gt gs go (SI_mono hIt (by omega)) (FI_app hFI) a2' d2 (GK_fr gk (fun j hj => (appS_r (by omega)).symm) ?_ ?_ ?_ ?_ (hm1 37 (by omega) (by decide))) hm1 d3 (s := s)⟩
  · rw [r8, a1'']; rfl
  · unfold f_X9_order
    rw [r9 m1 rm1, if_neg q1, if_neg q2, h9', Option.bind_some, if_neg n10, u6', Option.bind_some, if_neg hn12, d1', Option.bind_some, u7, Option.bind_some, appS_6]
    rw [show nI (s 6 0 + 1) - 1 = nI (s 6 0) from nI_pred _]
  · rw [a3'.1 34 (by omega)]
  · rw [a3'.1 34 (by omega)]
  · rw [a3'.1 34 (by omega)]
  · rw [a3'.1 34 (by omega)]

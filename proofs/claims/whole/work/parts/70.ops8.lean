/-! sound, wipe, end, feed -/
theorem G_chg {c d : Nat} {m m2 : Mm} {P D : Nat} {T : Option Nat} (h : G c m P D T) (hcd : c ≤ d) (e : ∀ b, (3 ≤ b ∧ b < 40) ∨ (42 ≤ b ∧ b < 105) ∨ (114 ≤ b ∧ b < 127) → m2 b = m b) (e2 : ∀ i, i = 2 ∨ i = 4 ∨ i = 6 ∨ i = 8 → m2 113 i = m 113 i) (gr : GR m2) (gt : GT m2) (gs : GS m2) (go : GO m2) : G d m2 P D T := by
  obtain ⟨hP, hD, hPD, p, s, hp, hI, hFI, ⟨pc, pm, rc, rm⟩, gi, -, -, -, -, gk⟩ := h
  have hPl := isPl_le hP
  have hPg : 43 ≤ P := by rcases hP with rfl | rfl <;> decide
  refine ⟨hP, hD, hPD, p, s, hp, SI_mono hI (by omega), hFI, ⟨PC_fr pc (fun j hj => e _ (by omega)), ?_, RC_fr rc (fun j hj i _ => by rw [e (4 + j) (by omega)]), RM_cell rm (e 114 (by omega))⟩, GI_mono (GI_fr hp.1 gi (e 33 (by omega)) (e 115 (by omega)) (fun b q1 q2 => e b (by omega)) (fun i _ _ => by rw [e 114 (by omega)])) (by omega), gr, gt, gs, go, GK_fr gk (fun _ _ => rfl) (by rw [e 34 (by omega)]) (by rw [e 34 (by omega)]) (by rw [e 34 (by omega)]) (by rw [e 34 (by omega)]) (e 37 (by omega))⟩
  unfold PM
  rw [e2 2 (by omega), e2 4 (by omega), e2 6 (by omega), e2 8 (by omega), e 116 (by omega), e 117 (by omega), e 118 (by omega), e 119 (by omega), e 120 (by omega)]
  exact pm
theorem op_sound {F c : Nat} : OP_sound F (G c) (G (c + 1)) := by
  intro m P D T hG a1
  have hG' := G_mono hG (Nat.le_succ c)
  obtain ⟨hP, hD, hPD, p, s, hp, hI, hFI, -, gi, gr, gt, gs, go, gk⟩ := G_alt hG
  obtain ⟨z, v, hz8, o1, o2, o3⟩ := id go
  unfold f_X8_sound f_X9_sound f_X6_append
  rcases in_N a1 0 99 (A := 0) (B := 99) (by decide) (by decide) (by decide) (by decide) with ⟨w, -, hw, rfl, h⟩ | ⟨hx, h⟩
  case inr =>
    refine ⟨-1, m, m, ?_, by rw [h]; rfl, hG'⟩
    rcases hx with q | q
    · rw [if_pos (show a1 < (0 : Int32) from q)]; rfl
    · rw [if_neg (c := a1 ≤ (99 : Int32)) (Int32.not_le.mpr q)]
      split <;> rfl
  have k1 : ¬ nI w < (0 : Int32) := nI_pos (by omega)
  have k2 : nI w ≤ (99 : Int32) := nI_le (b := 99) hw (by decide)
  rw [if_neg k1, if_pos k2, o1]
  by_cases q : z = 8
  · have k3 : ¬ nI z < (8 : Int32) := by rw [q]; decide
    have k4 : m 113 36 = (8 : Int32) := by rw [o2, q]; rfl
    refine ⟨-3, m, m, by rw [if_neg k3]; rfl, ?_, hG'⟩
    rw [h, Option.bind_some, if_neg n10, if_pos k4]
  · have k3 : nI z < (8 : Int32) := nI_lt (b := 8) (by omega) (by decide)
    have e1 : ast (up2 m 40 0 (nI (z + 1))) 41 8 (nI z) (nI w) = some (up2 (up2 m 40 0 (nI (z + 1))) 41 z (nI w)) := ast_n (by omega) (by decide)
    generalize hm1 : up2 (up2 m 40 0 (nI (z + 1))) 41 z (nI w) = m1 at e1
    have f1 : ∀ b, b ≠ 40 → b ≠ 41 → m1 b = m b := fun b q1 q2 => by rw [← hm1, up2_ne q2, up2_ne q1]
    have k4 : m1 113 36 = nI z := by rw [f1 113 (by decide) (by decide), o2]
    have k5 : ¬ nI z = (8 : Int32) := nI_ne (b := 8) (by omega) (by decide) q
    have e2 : ast m1 131 8 (nI z) (nI w) = some (up2 m1 131 z (nI w)) := ast_n (by omega) (by decide)
    refine ⟨nI (z + 1), m1, up2 (up2 m1 131 z (nI w)) 113 36 (nI (z + 1)), ?_, ?_, ?_⟩
    · rw [if_pos k3, letv_eq, letv_eq, nI_1, e1, Option.bind_some]
      show some (m1 40 0, m1) = _
      rw [← hm1, up2_cell (by decide), up2_same]
    · have hx : up2 m1 131 z (nI w) 113 36 = nI z := by rw [up2_cell (by decide)]; exact k4
      rw [h, Option.bind_some, if_neg n10, k4, if_neg k5, e2, Option.bind_some, letv_eq, hx, nI_1, up2_same]
    · have f2 : ∀ b, b ≠ 40 → b ≠ 41 → b ≠ 131 → b ≠ 113 → up2 (up2 m1 131 z (nI w)) 113 36 (nI (z + 1)) b = m b := fun b q1 q2 q3 q4 => by rw [up2_ne q4, up2_ne q3, f1 b q1 q2]
      have f3 : ∀ i, i ≠ 36 → up2 (up2 m1 131 z (nI w)) 113 36 (nI (z + 1)) 113 i = m 113 i := fun i hi => by rw [up2_slot hi, up2_cell (by decide), f1 113 (by decide) (by decide)]
      refine G_chg hG (Nat.le_succ c) (fun b hb => f2 b (by omega) (by omega) (by omega) (by omega)) (fun i hi => f3 i (by omega)) (GR_fr gr (by rw [f2 1 (by decide) (by decide) (by decide) (by decide)]) (f2 2 (by decide) (by decide) (by decide) (by decide)) (f2 127 (by decide) (by decide) (by decide) (by decide)) (f3 22 (by decide)) (f3 27 (by decide)) (by rw [f2 0 (by decide) (by decide) (by decide) (by decide)])) ?_ (GS_fr gs (fun b q1 q2 => f2 b (by omega) (by omega) (by omega) (by omega)) (f2 132 (by decide) (by decide) (by decide) (by decide)) (f2 133 (by decide) (by decide) (by decide) (by decide)) (f2 134 (by decide) (by decide) (by decide) (by decide))) ?_
      · unfold GT
        rw [f2 0 (by decide) (by decide) (by decide) (by decide), f3 41 (by decide)]
        exact gt
      · refine ⟨z + 1, fun i => if i = z then w else v i, by omega, ?_, up2_same, fun i hi => ?_⟩
        · rw [up2_cell (by decide), up2_cell (by decide), ← hm1, up2_cell (by decide), up2_same]
        · rw [up2_cell (by decide), up2_cell (by decide), up2_cell (by decide), ← hm1]
          by_cases e : i = z
          · subst e
            rw [up2_same, up2_same]
            exact ⟨congrArg nI (if_pos rfl).symm, congrArg nI (if_pos rfl).symm, by show (if i = i then w else v i) ≤ 99; rw [if_pos rfl]; exact hw⟩
          · rw [up2_slot e, up2_slot e, up2_cell (by decide), up2_cell (by decide), up2_cell (by decide)]
            obtain ⟨t1, t2, t3⟩ := o3 i (by omega)
            exact ⟨t1.trans (congrArg nI (if_neg e).symm), t2.trans (congrArg nI (if_neg e).symm), by show (if i = z then w else v i) ≤ 99; rw [if_neg e]; exact t3⟩
theorem op_wipe {F c : Nat} : OP_wipe F (G c) (G (c + 1)) := by
  intro m P D T hG
  obtain ⟨hP, hD, hPD, p, s, hp, hI, hFI, -, gi, gr, gt, gs, go, gk⟩ := G_alt hG
  obtain ⟨z, v, hz8, o1, o2, o3⟩ := id go
  have f2 : ∀ b, b ≠ 40 → b ≠ 113 → up2 (up2 m 40 0 0) 113 36 0 b = m b := fun b q1 q4 => by rw [up2_ne q4, up2_ne q1]
  have f3 : ∀ i, i ≠ 36 → up2 (up2 m 40 0 0) 113 36 0 113 i = m 113 i := fun i hi => by rw [up2_slot hi, up2_cell (by decide)]
  refine ⟨nI z, up2 m 40 0 0, up2 (up2 m 40 0 0) 113 36 0, ?_, ?_, G_chg hG (Nat.le_succ c) (fun b hb => f2 b (by omega) (by omega)) (fun i hi => f3 i (by omega)) (GR_fr gr (by rw [f2 1 (by decide) (by decide)]) (f2 2 (by decide) (by decide)) (f2 127 (by decide) (by decide)) (f3 22 (by decide)) (f3 27 (by decide)) (by rw [f2 0 (by decide) (by decide)])) ?_ (GS_fr gs (fun b q1 q2 => f2 b (by omega) (by omega)) (f2 132 (by decide) (by decide)) (f2 133 (by decide) (by decide)) (f2 134 (by decide) (by decide))) ⟨0, v, by omega, ?_, up2_same, fun i hi => absurd hi (by omega)⟩⟩
  · unfold f_X8_wipe f_X6_clear
    rw [letv_eq, letv_eq, o1]
    rfl
  · unfold f_X9_wipe
    rw [letv_eq, letv_eq, up2_cell (by decide), o2]
  · unfold GT
    rw [f2 0 (by decide) (by decide), f3 41 (by decide)]
    exact gt
  · rw [up2_cell (by decide), up2_same]
    rfl
theorem op_end {F c : Nat} : OP_end F (G c) (G (c + 1)) := by
  intro m P D T hG a1
  have hG' := G_mono hG (Nat.le_succ c)
  obtain ⟨hP, hD, hPD, p, s, hp, hI, hFI, -, gi, gr, gt, gs, go, gk⟩ := G_alt hG
  obtain ⟨⟨n, hn, g1, g2, g3⟩, g4⟩ := id gr
  have r9 : ∀ mr : Mm, mr 113 22 = nI n → f_X9_end mr a1 = (f_X9_in a1.toInt64 0 ((nI n).toInt64)).bind fun x1 => if x1 = 0 then (some ((-1), mr)) else (letv (mr 113 22) fun x3 => letv (up2 mr 113 22 a1) fun m4 => some (x3, m4)) := fun mr h => by
    unfold f_X9_end
    rw [h]
  unfold f_X8_end f_X2_cut
  rw [g1]
  rcases in_N a1 0 n (A := 0) (B := (nI n).toInt64) (by decide) rfl (by omega) (by omega) with ⟨w, -, hw, rfl, h⟩ | ⟨hx, h⟩
  case inr =>
    refine ⟨-1, m, m, ?_, by rw [r9 m g2, h]; rfl, hG'⟩
    rcases hx with q | q
    · rw [if_pos (show a1 < (0 : Int32) from q)]; rfl
    · rw [if_neg (c := a1 ≤ nI n) (Int32.not_le.mpr q)]
      split <;> rfl
  have k1 : ¬ nI w < (0 : Int32) := nI_pos (by omega)
  have k2 : nI w ≤ nI n := nI_le hw (by omega)
  have f2 : ∀ b, b ≠ 1 → b ≠ 113 → up2 (up2 m 1 1 (nI w)) 113 22 (nI w) b = m b := fun b q1 q4 => by rw [up2_ne q4, up2_ne q1]
  have f3 : ∀ i, i ≠ 22 → up2 (up2 m 1 1 (nI w)) 113 22 (nI w) 113 i = m 113 i := fun i hi => by rw [up2_slot hi, up2_cell (by decide)]
  have g2' : up2 m 1 1 (nI w) 113 22 = nI n := by rw [up2_cell (by decide)]; exact g2
  refine ⟨nI n, up2 m 1 1 (nI w), up2 (up2 m 1 1 (nI w)) 113 22 (nI w), ?_, ?_, G_chg hG (Nat.le_succ c) (fun b hb => f2 b (by omega) (by omega)) (fun i hi => f3 i (by omega)) ⟨⟨w, by omega, ?_, up2_same, fun i hi => ?_⟩, ?_⟩ ?_ (GS_fr gs (fun b q1 q2 => f2 b (by omega) (by omega)) (f2 132 (by decide) (by decide)) (f2 133 (by decide) (by decide)) (f2 134 (by decide) (by decide))) (GO_fr go (f2 40 (by decide) (by decide)) (f2 41 (by decide) (by decide)) (f2 131 (by decide) (by decide)) (f3 36 (by decide)))⟩
  · rw [if_neg k1, if_pos k2, letv_eq, letv_eq]
    rfl
  · rw [r9 _ g2', h, Option.bind_some, if_neg n10, letv_eq, letv_eq, g2']
  · rw [up2_cell (by decide), up2_same]
  · rw [f2 127 (by decide) (by decide), f2 2 (by decide) (by decide)]
    exact g3 i (by omega)
  · rw [f2 0 (by decide) (by decide), f3 27 (by decide)]
    exact g4
  · unfold GT
    rw [f2 0 (by decide) (by decide), f3 41 (by decide)]
    exact gt
theorem byte_of (y : Int64) : (y &&& (255 : Int64)).toInt32 = nI (y.toBitVec.toNat % 256) ∧ y.toInt32.toInt8 = (nI (y.toBitVec.toNat % 256)).toInt8 := by
  constructor
  · apply Int32.toBitVec_inj.mp
    apply BitVec.eq_of_toNat_eq
    have e : (255 : Int64).toBitVec.toNat = 2 ^ 8 - 1 := by decide
    rw [pk_tn (by omega)]
    rw [Int64.toBitVec_toInt32, Int64.toBitVec_and, BitVec.signExtend_eq_setWidth_of_le _ (by decide), BitVec.toNat_setWidth, BitVec.toNat_and, e, Nat.and_two_pow_sub_one_eq_mod]
    omega
  · apply Int8.toBitVec_inj.mp
    apply BitVec.eq_of_toNat_eq
    rw [Int32.toBitVec_toInt8, Int32.toBitVec_toInt8, Int64.toBitVec_toInt32, BitVec.signExtend_eq_setWidth_of_le _ (by decide), BitVec.signExtend_eq_setWidth_of_le _ (by decide), BitVec.signExtend_eq_setWidth_of_le _ (by decide), BitVec.toNat_setWidth, BitVec.toNat_setWidth, BitVec.toNat_setWidth, pk_tn (by omega)]
    omega
def shF (i : Nat) : Int32 := if i < 8 then nI (56 - 8 * i) else -8
theorem shF_step : ∀ i, i < 8 → shF i + (-8) = shF (i + 1) := by decide +kernel
theorem shF_pos : ∀ i, i < 8 → ¬ shF i < 0 := by decide +kernel
def btF (v : Int64) (i : Nat) : Nat := (v >>> ((shF i).toInt64 &&& 63)).toBitVec.toNat % 256
theorem op_feed {F c : Nat} (hF : 5000 ≤ F) : OP_feed F (G c) (G (c + 1)) := by
  intro m P D T hG a1
  have hG' := G_mono hG (Nat.le_succ c)
  obtain ⟨hP, hD, hPD, p, s, hp, hI, hFI, -, gi, gr, gt, gs, go, gk⟩ := G_alt hG
  obtain ⟨⟨n, hn, g1, g2, g3⟩, g4⟩ := id gr
  have e8 : nI n + (8 : Int32) = nI (n + 8) := nI_add n 8
  by_cases q : n + 8 ≤ 400
  case neg =>
    have k : ¬ nI (n + 8) ≤ (400 : Int32) := nI_ge (a := 400) (by omega) (by omega)
    refine ⟨-3, m, m, ?_, ?_, hG'⟩
    · unfold f_X8_feed f_X2_append
      rw [g1, e8, if_neg k]
      rfl
    · unfold f_X9_feed
      rw [g2, e8, if_neg k]
  have k : nI (n + 8) ≤ (400 : Int32) := nI_le (b := 400) q (by decide)
  obtain ⟨m1, b1, b2, b3, b4, b5⟩ := iter_P (b := b_X2_append_19 a1) (F := F) 8 (fun i x => ∃ m1, x = (shF i, m1) ∧ m1 1 1 = nI (n + i) ∧ (∀ b, b ≠ 1 → b ≠ 2 → m1 b = m b) ∧ (∀ k, k ≠ 1 → m1 1 k = m 1 k) ∧ (∀ k, k < n → m1 2 k = m 2 k) ∧ ∀ k, k < i → m1 2 (n + k) = (nI (btF a1 k)).toInt8.toInt32) (fun r => r 1 1 = nI (n + 8) ∧ (∀ b, b ≠ 1 → b ≠ 2 → r b = m b) ∧ (∀ k, k < n → r 2 k = m 2 k) ∧ ∀ k, k < 8 → r 2 (n + k) = (nI (btF a1 k)).toInt8.toInt32) (by omega) (by
    rintro i x hi ⟨m1, rfl, q1, q2, q3, q4, q5⟩
    have e1 : ast (up2 m1 1 1 (nI (n + i + 1))) 2 400 (nI (n + i)) (nI (btF a1 i)).toInt8.toInt32 = some (up2 (up2 m1 1 1 (nI (n + i + 1))) 2 (n + i) (nI (btF a1 i)).toInt8.toInt32) := ast_n (by omega) (by decide)
    refine ⟨_, ?_, up2 (up2 m1 1 1 (nI (n + i + 1))) 2 (n + i) (nI (btF a1 i)).toInt8.toInt32, rfl, ?_, fun b h1 h2 => ?_, fun k hk => ?_, fun k hk => ?_, fun k hk => ?_⟩
    · unfold b_X2_append_19
      dsimp only
      rw [if_neg (shF_pos i hi), letv_eq, letv_eq, q1, nI_1, pk_vb, (byte_of _).2]
      show (ast (up2 m1 1 1 (nI (n + i + 1))) 2 400 (nI (n + i)) (nI (btF a1 i)).toInt8.toInt32).bind _ = _
      rw [e1, Option.bind_some, shF_step i hi]
    · rw [up2_cell (by decide), up2_same]; rfl
    · rw [up2_ne h2, up2_ne h1, q2 b h1 h2]
    · rw [up2_cell (by decide), up2_slot hk, q3 k hk]
    · rw [up2_slot (by omega), up2_cell (by decide), q4 k hk]
    · by_cases e : k = i
      · subst e; rw [up2_same]
      · rw [up2_slot (by omega), up2_cell (by decide), q5 k (by omega)]) (by
    rintro x ⟨m1, rfl, q1, q2, q3, q4, q5⟩
    refine ⟨m1, ?_, q1, q2, q4, q5⟩
    unfold b_X2_append_19
    exact if_pos (show shF 8 < 0 from by decide)) (x := (56, m)) ⟨m, rfl, g1, fun _ _ _ => rfl, fun _ _ => rfl, fun _ _ => rfl, fun k hk => absurd hk (by omega)⟩
  obtain ⟨m2, d1, d2, d3, d4, d5, d6⟩ := iter_P (b := b_X9_feed_19 a1) (F := F) 8 (fun i x => ∃ m2, x = (shF i, m2) ∧ m2 113 22 = nI (n + i) ∧ (∀ b, b ≠ 113 → b ≠ 127 → m2 b = m1 b) ∧ (∀ k, k ≠ 22 → m2 113 k = m1 113 k) ∧ (∀ k, k < n → m2 127 k = m1 127 k) ∧ ∀ k, k < i → m2 127 (n + k) = nI (btF a1 k)) (fun r => r 113 22 = nI (n + 8) ∧ (∀ b, b ≠ 113 → b ≠ 127 → r b = m1 b) ∧ (∀ k, k ≠ 22 → r 113 k = m1 113 k) ∧ (∀ k, k < n → r 127 k = m1 127 k) ∧ ∀ k, k < 8 → r 127 (n + k) = nI (btF a1 k)) (by omega) (by
    rintro i x hi ⟨m1, rfl, q1, q2, q3, q4, q5⟩
    have e1 : ast m1 127 400 (nI (n + i)) (nI (btF a1 i)) = some (up2 m1 127 (n + i) (nI (btF a1 i))) := ast_n (by omega) (by decide)
    refine ⟨_, ?_, up2 (up2 m1 127 (n + i) (nI (btF a1 i))) 113 22 (nI (n + i + 1)), rfl, ?_, fun b h1 h2 => ?_, fun k hk => ?_, fun k hk => ?_, fun k hk => ?_⟩
    · unfold b_X9_feed_19
      dsimp only
      rw [if_neg (shF_pos i hi), q1, (byte_of _).1]
      show (ast m1 127 400 (nI (n + i)) (nI (btF a1 i))).bind _ = _
      rw [e1, Option.bind_some, letv_eq, up2_cell (by decide), q1, nI_1, shF_step i hi]
    · rw [up2_same]; rfl
    · rw [up2_ne h1, up2_ne h2, q2 b h1 h2]
    · rw [up2_slot hk, up2_cell (by decide), q3 k hk]
    · rw [up2_cell (by decide), up2_slot (by omega), q4 k hk]
    · rw [up2_cell (by decide)]
      by_cases e : k = i
      · subst e; rw [up2_same]
      · rw [up2_slot (by omega), q5 k (by omega)]) (by
    rintro x ⟨m1, rfl, q1, q2, q3, q4, q5⟩
    refine ⟨m1, ?_, q1, q2, q3, q4, q5⟩
    unfold b_X9_feed_19
    exact if_pos (show shF 8 < 0 from by decide)) (x := (56, m1)) ⟨m1, rfl, by rw [b3 113 (by decide) (by decide)]; exact g2, fun _ _ _ => rfl, fun _ _ => rfl, fun _ _ => rfl, fun k hk => absurd hk (by omega)⟩
  have f2 : ∀ b, b ≠ 1 → b ≠ 2 → b ≠ 113 → b ≠ 127 → m2 b = m b := fun b h1 h2 h3 h4 => by rw [d3 b h3 h4, b3 b h1 h2]
  have f3 : ∀ i, i ≠ 22 → m2 113 i = m 113 i := fun i hi => by rw [d4 i hi, b3 113 (by decide) (by decide)]
  refine ⟨nI (n + 8), m1, m2, ?_, ?_, G_chg hG (Nat.le_succ c) (fun b hb => f2 b (by omega) (by omega) (by omega) (by omega)) (fun i hi => f3 i (by omega)) ⟨⟨n + 8, q, ?_, d2, fun i hi => ?_⟩, ?_⟩ ?_ (GS_fr gs (fun b q1 q2 => f2 b (by omega) (by omega) (by omega) (by omega)) (f2 132 (by decide) (by decide) (by decide) (by decide)) (f2 133 (by decide) (by decide) (by decide) (by decide)) (f2 134 (by decide) (by decide) (by decide) (by decide))) (GO_fr go (f2 40 (by decide) (by decide) (by decide) (by decide)) (f2 41 (by decide) (by decide) (by decide) (by decide)) (f2 131 (by decide) (by decide) (by decide) (by decide)) (f3 36 (by decide)))⟩
  · unfold f_X8_feed f_X2_append
    rw [g1, e8, if_pos k, b1, Option.bind_some, b2]
    rfl
  · unfold f_X9_feed
    rw [b3 113 (by decide) (by decide), g2, e8, if_pos k, d1, Option.bind_some, d2]
  · rw [d3 1 (by decide) (by decide)]; exact b2
  · by_cases e : i < n
    · obtain ⟨b, hb, h1, h2⟩ := g3 i e
      refine ⟨b, hb, ?_, ?_⟩
      · rw [d5 i e, b3 127 (by decide) (by decide)]; exact h1
      · rw [d3 2 (by decide) (by decide), b4 i e]; exact h2
    · have hi8 : i - n < 8 := by omega
      have hin : n + (i - n) = i := by omega
      have h1 := d6 (i - n) hi8
      have h2 := b5 (i - n) hi8
      rw [hin] at h1 h2
      refine ⟨btF a1 (i - n), Nat.mod_lt _ (by decide), h1, ?_⟩
      rw [d3 2 (by decide) (by decide)]; exact h2
  · rw [f2 0 (by decide) (by decide) (by decide) (by decide), f3 27 (by decide)]
    exact g4
  · unfold GT
    rw [f2 0 (by decide) (by decide) (by decide) (by decide), f3 41 (by decide)]
    exact gt

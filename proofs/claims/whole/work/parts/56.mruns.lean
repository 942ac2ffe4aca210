/-! the reference's runs and copies -/
def FQ (m m' : Mm) : Prop := (∀ b, b ≠ 113 → b ≠ 114 → b ≠ 128 → b ≠ 129 → b ≠ 130 → m' b = m b) ∧ (∀ i, i < 384 → m' 114 i = m 114 i) ∧ (∀ i, i ≠ 29 → i ≠ 30 → i ≠ 34 → i ≠ 35 → m' 113 i = m 113 i)
theorem FQ.rf {m : Mm} : FQ m m := ⟨fun _ _ _ _ _ _ => rfl, fun _ _ => rfl, fun _ _ _ _ _ => rfl⟩
theorem FQ.tr {m m1 m2 : Mm} (h1 : FQ m m1) (h2 : FQ m1 m2) : FQ m m2 := ⟨fun b q1 q2 q3 q4 q5 => (h2.1 b q1 q2 q3 q4 q5).trans (h1.1 b q1 q2 q3 q4 q5), fun i hi => (h2.2.1 i hi).trans (h1.2.1 i hi), fun i q1 q2 q3 q4 => (h2.2.2 i q1 q2 q3 q4).trans (h1.2.2 i q1 q2 q3 q4)⟩
theorem FM.fq {m m' : Mm} (h : FM 384 m m') : FQ m m' := ⟨fun b _ q _ _ _ => h.1 b q, fun i hi => h.2 i (Or.inl hi), fun i _ _ _ _ => by rw [h.1 113 (by decide)]⟩
theorem FQ.up {m : Mm} {i : Nat} {v : Int32} (h : i = 29 ∨ i = 30 ∨ i = 34 ∨ i = 35) : FQ m (up2 m 113 i v) := ⟨fun b q1 _ _ _ _ => up2_ne q1, fun j _ => up2_cell (by decide), fun j _ _ _ _ => up2_slot (by omega)⟩
theorem PM_FQ {p : AS} {m m' : Mm} (hP : PM p m) (h : FQ m m') : PM p m' := by
  unfold PM
  rw [h.1 116 (by decide) (by decide) (by decide) (by decide) (by decide), h.1 117 (by decide) (by decide) (by decide) (by decide) (by decide), h.1 118 (by decide) (by decide) (by decide) (by decide) (by decide), h.1 119 (by decide) (by decide) (by decide) (by decide) (by decide), h.1 120 (by decide) (by decide) (by decide) (by decide) (by decide), h.2.2 2 (by decide) (by decide) (by decide) (by decide), h.2.2 4 (by decide) (by decide) (by decide) (by decide), h.2.2 6 (by decide) (by decide) (by decide) (by decide), h.2.2 8 (by decide) (by decide) (by decide) (by decide)]
  exact hP
theorem RM_cell {p s : AS} {m m' : Mm} {B : Nat} (h : RM p s m B) (e : m' 114 = m 114) : RM p s m' B := fun j i hi => by rw [e]; exact h j i hi
theorem m_runs {p s : AS} {m : Mm} {F M n : Nat} (hp : PW p) (hM : M + n ≤ 2 ^ 20) (hn : n ≤ 120) (hP : PM p m) (hI : SI p M s) (hR : RM p s m 384) (hF : 200 < F) : ∃ m', f_X9_runs F m (nI n) = some m' ∧ RM p (runS p n s) m' 384 ∧ FQ m m' ∧ m' 113 29 = mosL p n s := by
  have e1 : f_X9_listOf F m 384 = some (lst p (s 1)) := m_lst (B := 384) hp (by decide) hP hI.2.1.1 hR (by omega)
  obtain ⟨r, h1, h2, h3, h4⟩ := iter_P (b := b_X9_runs_13 F (nI n)) (F := F) n (fun i x => ∃ m1, x = (nI i, m1) ∧ RM p (runS p i s) m1 384 ∧ FQ m m1 ∧ m1 113 29 = mosL p i s) (fun r => RM p (runS p n s) r 384 ∧ FQ m r ∧ r 113 29 = mosL p n s) (by omega) (by
    rintro i x hi ⟨m1, rfl, q1, q2, q3⟩
    have hI1 := runS_I hp hI i (by omega)
    obtain ⟨m2, a1, a2, a3⟩ := m_minute (F := F) (B := 384) hp (by omega) (by decide) (PM_FQ hP q2) hI1 q1 (by omega)
    have a1' : f_X9_aMinute F m1 384 = some m2 := a1
    have hI2 := runS_I hp hI (i + 1) (by omega)
    have q4 := q2.tr a3.fq
    have a4 : f_X9_listOf F m2 384 = some (lst p (runS p (i + 1) s 1)) := m_lst (s := runS p (i + 1) s) (B := 384) hp (by decide) (PM_FQ hP q4) hI2.2.1.1 a2 (by omega)
    have a5 : m2 113 29 = mosL p i s := by rw [a3.1 113 (by decide)]; exact q3
    have hc : ¬ nI n ≤ nI i := nI_ge hi (by omega)
    have e2 : (if lst p (runS p (i + 1) s 1) ≤ m2 113 29 then some (m2 113 29) else (some (lst p (runS p (i + 1) s 1))).bind fun x11 => some x11) = some (mosL p (i + 1) s) := by
      rw [a5]
      show _ = some (imax (mosL p i s) (lst p (runS p (i + 1) s 1)))
      unfold imax
      by_cases q : lst p (runS p (i + 1) s 1) ≤ mosL p i s
      · rw [if_pos q, if_neg (Int32.not_lt.mpr q)]
      · rw [if_neg q, if_pos (Int32.not_le.mp q)]; rfl
    refine ⟨_, ?_, up2 m2 113 29 (mosL p (i + 1) s), rfl, RM_cell a2 (up2_ne (by decide)), q4.tr (FQ.up (by omega)), up2_same⟩
    unfold b_X9_runs_13
    dsimp only
    rw [if_neg hc, a1', Option.bind_some, a4, Option.bind_some, e2, Option.bind_some, letv_eq, nI_1]) (by
    rintro x ⟨m1, rfl, q1, q2, q3⟩
    refine ⟨m1, ?_, q1, q2, q3⟩
    unfold b_X9_runs_13
    dsimp only
    rw [if_pos (Int32.le_refl _)]) (x := (0, up2 m 113 29 (lst p (s 1)))) ⟨_, rfl, RM_cell hR (up2_ne (by decide)), FQ.up (by omega), up2_same⟩
  refine ⟨r, ?_, h2, h3, h4⟩
  unfold f_X9_runs
  rw [e1, Option.bind_some, letv_eq, h1]
  rfl
theorem m_until {p s t : AS} {m : Mm} (hp : PW p) (h0 : RM p s m 0) (ht : RM p t m 384) (hz : s 6 0 ≤ 12) (hz2 : t 6 0 ≤ 12) (hs : s 0 1 ≤ 3) (ht1 : t 0 1 ≤ 3) (hb : s 0 1 = 0 → t 0 1 ≠ 0 → s 0 0 ≤ t 0 2) : f_X9_untilSunk m = some (nI (untS s t)) := by
  have e1 : ald m 114 512 72 = some (nI (s 0 1)) := M_ld h0 hp.1 hz (by decide) 0 1 (by show 1 < 3; decide) rfl
  have e2 : ald m 114 512 456 = some (nI (t 0 1)) := M_ld ht hp.1 hz2 (by decide) 0 1 (by show 1 < 3; decide) rfl
  have e3 : ald m 114 512 457 = some (nI (t 0 2)) := M_ld ht hp.1 hz2 (by decide) 0 2 (by show 2 < 3; decide) rfl
  have e4 : ald m 114 512 71 = some (nI (s 0 0)) := M_ld h0 hp.1 hz (by decide) 0 0 (by show 0 < 3; decide) rfl
  unfold f_X9_untilSunk untS
  rw [e1, Option.bind_some]
  by_cases q : s 0 1 = 0
  · have k0 : nI (s 0 1) ≤ (0 : Int32) := by rw [q]; decide
    rw [if_pos k0, e2, Option.bind_some]
    by_cases q2 : t 0 1 = 0
    · have k1 : nI (t 0 1) ≤ (0 : Int32) := by rw [q2]; decide
      rw [if_pos k1, if_neg (by omega), if_neg (by omega), nI_NN]
    · have k1 := nI_le0 (a := t 0 1) (by omega) q2
      rw [if_neg k1, e3, Option.bind_some, e4, Option.bind_some, if_neg (by omega), if_pos q2, pk_sub (hb q q2)]
  · have k0 := nI_le0 (a := s 0 1) (by omega) q
    rw [if_neg k0, if_pos q]
    rfl
theorem m_copies {m : Mm} {A B F : Nat} (hA : A ≤ 384) (hB : B ≤ 384) (hd : A + 128 ≤ B ∨ B + 128 ≤ A) (hF : 200 < F) : ∃ m', f_X9_copies F m (nI B) (nI A) = some m' ∧ (∀ i, i < 128 → m' 114 (B + i) = m 114 (A + i)) ∧ FM B m m' := by
  obtain ⟨r, h1, h2, h3⟩ := iter_P (b := b_X9_copies_2 (nI B) (nI A)) (F := F) 128 (fun i x => ∃ m1, x = (nI i, m1) ∧ (∀ k, k < i → m1 114 (B + k) = m 114 (A + k)) ∧ FM B m m1) (fun r => (∀ i, i < 128 → r 114 (B + i) = m 114 (A + i)) ∧ FM B m r) (by omega) (by
    rintro i x hi ⟨m1, rfl, q1, q2⟩
    have hc : ¬ (128 : Int32) ≤ nI i := nI_ge (b := 128) hi (by decide)
    have e1 : ald m1 114 512 (nI A + nI i) = some (m 114 (A + i)) := by
      rw [ald_x (ix1 A i) (by omega) (by decide), q2.2 (A + i) (by omega)]
    have e2 : ast m1 114 512 (nI B + nI i) (m 114 (A + i)) = some (up2 m1 114 (B + i) (m 114 (A + i))) := ast_x (ix1 B i) (by omega) (by decide)
    refine ⟨(nI (i + 1), up2 m1 114 (B + i) (m 114 (A + i))), ?_, _, rfl, fun k hk => ?_, q2.tr ⟨fun b hb => up2_ne hb, fun j hj => up2_slot (by omega)⟩⟩
    · unfold b_X9_copies_2
      dsimp only
      rw [if_neg hc, e1, Option.bind_some, e2, Option.bind_some, nI_1]
    · by_cases e : k = i
      · subst e; rw [up2_same]
      · rw [up2_slot (by omega)]; exact q1 k (by omega)) (by
    rintro x ⟨m1, rfl, q1, q2⟩
    refine ⟨m1, ?_, q1, q2⟩
    unfold b_X9_copies_2
    dsimp only
    rw [if_pos (show (128 : Int32) ≤ nI 128 from by decide)]) (x := (0, m)) ⟨m, rfl, fun k hk => absurd hk (by omega), FM.rf⟩
  refine ⟨r, ?_, h2, h3⟩
  unfold f_X9_copies
  rw [h1]
  rfl
theorem m_copy {p s : AS} {m : Mm} {A B F : Nat} (hp : PW p) (hz : s 6 0 ≤ 12) (hR : RM p s m A) (hA : A ≤ 384) (hB : B ≤ 384) (hd : A + 128 ≤ B ∨ B + 128 ≤ A) (hF : 200 < F) : ∃ m', f_X9_copies F m (nI B) (nI A) = some m' ∧ RM p s m' B ∧ FM B m m' := by
  obtain ⟨m', h1, h2, h3⟩ := m_copies (m := m) hA hB hd hF
  refine ⟨m', h1, fun j i hi => ?_, h3⟩
  have := ofM_lt j (cnM_lt hi) i (cnM_len hp.1 hz hi)
  rw [Nat.add_assoc, h2 _ (by omega), ← Nat.add_assoc]
  exact hR j i hi
/-- a state without its orders -/
def frS (s : AS) : AS := fun j i => if j = 6 ∨ j = 13 ∨ j = 14 ∨ j = 15 then 0 else s j i
theorem frS_r {s : AS} {a : Nat} (h6 : a ≠ 6) (h13 : a ≠ 13) (h14 : a ≠ 14) (h15 : a ≠ 15) : frS s a = s a := by
  funext i
  unfold frS
  rw [if_neg (by omega)]
theorem frS_0 {s : AS} {a i : Nat} (h : a = 6 ∨ a = 13 ∨ a = 14 ∨ a = 15) : frS s a i = 0 := if_pos h
theorem frS_I {p s : AS} {M : Nat} (h : SI p M s) : SI p M (frS s) := by
  obtain ⟨hw, ho, hy⟩ := h
  refine ⟨?_, ?_, ?_⟩
  · unfold SW
    rw [frS_r (by decide) (by decide) (by decide) (by decide)]
    exact hw
  · obtain ⟨h1, h2, h3, h4, h5, h6, h7, h8⟩ := ho
    refine ⟨by rw [frS_0 (by omega)]; omega, by rw [frS_r (by decide) (by decide) (by decide) (by decide)]; exact h2, fun d hd => ?_, fun i hi => ?_, by rw [frS_r (by decide) (by decide) (by decide) (by decide)]; exact h5, fun k hk => ?_, ?_, ?_⟩
    · rw [frS_r (by decide) (by decide) (by decide) (by decide), frS_0 (by omega), frS_0 (by omega)]
      exact ⟨(h3 d hd).1, by omega, rfl⟩
    · rw [frS_r (by decide) (by decide) (by decide) (by decide), frS_0 (by omega), frS_0 (by omega)]
      exact ⟨(h4 i hi).1, by omega, rfl⟩
    · rw [frS_0 (by omega)] at hk
      omega
    · rw [frS_0 (by omega), frS_0 (by omega)]; rfl
    · rw [frS_r (by decide) (by decide) (by decide) (by decide)]; exact h8
  · unfold SY
    rw [frS_r (by decide) (by decide) (by decide) (by decide)]
    exact hy
theorem m_zero {m : Mm} {F n c : Nat} (b : Int32 × Mm → Option ((Int32 × Mm) ⊕ Mm)) (hn : n ≤ 100) (hc : c + n ≤ 512) (h1 : ∀ i m1, i < n → b (nI i, m1) = (ast m1 114 512 (nI c + nI i) 0).bind fun m7 => some (Sum.inl (nI i + 1, m7))) (h2 : ∀ m1, b (nI n, m1) = some (Sum.inr m1)) (hF : 200 < F) : ∃ m', iter F b ((0, m) : Int32 × Mm) = some m' ∧ (∀ i, i < n → m' 114 (c + i) = 0) ∧ (∀ b, b ≠ 114 → m' b = m b) ∧ (∀ i, i < c ∨ c + n ≤ i → m' 114 i = m 114 i) := by
  obtain ⟨r, g1, g2, g3, g4⟩ := iter_P (b := b) (F := F) n (fun i x => ∃ m1, x = (nI i, m1) ∧ (∀ k, k < i → m1 114 (c + k) = 0) ∧ (∀ b, b ≠ 114 → m1 b = m b) ∧ (∀ i, i < c ∨ c + n ≤ i → m1 114 i = m 114 i)) (fun r => (∀ i, i < n → r 114 (c + i) = 0) ∧ (∀ b, b ≠ 114 → r b = m b) ∧ (∀ i, i < c ∨ c + n ≤ i → r 114 i = m 114 i)) (by omega) (by
    rintro i x hi ⟨m1, rfl, q1, q2, q3⟩
    refine ⟨_, by rw [h1 i m1 hi, ast_x (ix1 c i) (by omega) (by decide), Option.bind_some, nI_1], _, rfl, fun k hk => ?_, fun b hb => by rw [up2_ne hb]; exact q2 b hb, fun j hj => by rw [up2_slot (by omega)]; exact q3 j hj⟩
    by_cases e : k = i
    · subst e; rw [up2_same]
    · rw [up2_slot (by omega)]; exact q1 k (by omega)) (by
    rintro x ⟨m1, rfl, q1, q2, q3⟩
    exact ⟨m1, h2 m1, q1, q2, q3⟩) (x := (0, m)) ⟨m, rfl, fun k hk => absurd hk (by omega), fun _ _ => rfl, fun _ _ => rfl⟩
  exact ⟨r, g1, g2, g3, g4⟩
theorem m_frees {p s : AS} {m : Mm} {F : Nat} (hp : PW p) (hz : s 6 0 ≤ 12) (hR : RM p s m 0) (hF : 200 < F) : ∃ m', f_X9_frees F m = some m' ∧ RM p (frS s) m' 384 ∧ FM 384 m m' := by
  obtain ⟨⟨l1, l2, l3, l4⟩, ph, pd, pl, pp, pr⟩ := id hp
  obtain ⟨m1, a1, a2, a3⟩ := m_copies (m := m) (A := 0) (B := 384) (F := F) (by decide) (by decide) (by decide) hF
  have a1' : f_X9_copies F m 384 0 = some m1 := a1
  have e1 : ast m1 114 512 460 0 = some (up2 m1 114 460 0) := ast_x (i := 460) rfl (by decide) (by decide)
  have e2 : ast (up2 m1 114 460 0) 114 512 458 0 = some (up2 (up2 m1 114 460 0) 114 458 0) := ast_x (i := 458) rfl (by decide) (by decide)
  obtain ⟨m2, b1, b2, b3, b4⟩ := m_zero (m := up2 (up2 m1 114 460 0) 114 458 0) (F := F) (n := 10) (c := 410) b_X9_frees_28 (by decide) (by decide) (by
    intro i m1 hi
    have hc : ¬ (10 : Int32) ≤ nI i := nI_ge (b := 10) hi (by decide)
    unfold b_X9_frees_28
    dsimp only
    rw [if_neg hc]
    rfl) (by
    intro m1
    unfold b_X9_frees_28
    dsimp only
    rw [if_pos (show (10 : Int32) ≤ nI 10 from by decide)]) hF
  obtain ⟨m3, c1, c2, c3, c4⟩ := m_zero (m := m2) (F := F) (n := 4) (c := 424) b_X9_frees_53 (by decide) (by decide) (by
    intro i m1 hi
    have hc : ¬ (4 : Int32) ≤ nI i := nI_ge (b := 4) hi (by decide)
    unfold b_X9_frees_53
    dsimp only
    rw [if_neg hc]
    rfl) (by
    intro m1
    unfold b_X9_frees_53
    dsimp only
    rw [if_pos (show (4 : Int32) ≤ nI 4 from by decide)]) hF
  refine ⟨m3, ?_, fun j i hi => ?_, ⟨fun b hb => ?_, fun i hi => ?_⟩⟩
  · unfold f_X9_frees
    rw [a1', Option.bind_some, e1, Option.bind_some, e2, Option.bind_some, b1, Option.bind_some, c1]
    rfl
  · rw [frS_0 (by omega)] at hi
    have hj := cnM_lt hi
    have hl := cnM_len hp.1 (by omega) hi
    have hlt := ofM_lt j hj i hl
    have base : ∀ (h15 : j ≠ 15) (h6 : j ≠ 6) (h13 : j ≠ 13) (h14 : j ≠ 14), i < cnM p (s 6 0) j → m3 114 (384 + ofM j + i) = nI (frS s j i) := by
      intro h15 h6 h13 h14 hi2
      have n1 : ¬ (ofM j + i = 76) := fun q => h6 (ofM_inj j hj i hl 6 (by decide) 0 (by decide) q).1
      have n2 : ¬ (ofM j + i = 74) := fun q => h15 (ofM_inj j hj i hl 15 (by decide) 0 (by decide) q).1
      have n3 : ofM j + i < 26 ∨ 36 ≤ ofM j + i := by
        apply Decidable.byContradiction
        intro q
        exact h13 (ofM_inj j hj i hl 13 (by decide) (ofM j + i - 26) (by show _ < 10; omega) (by show _ = 26 + _; omega)).1
      have n4 : ofM j + i < 40 ∨ 44 ≤ ofM j + i := by
        apply Decidable.byContradiction
        intro q
        exact h14 (ofM_inj j hj i hl 14 (by decide) (ofM j + i - 40) (by show _ < 4; omega) (by show _ = 40 + _; omega)).1
      rw [frS_r h6 h13 h14 h15, c4 _ (by omega), b4 _ (by omega), up2_slot (by omega), up2_slot (by omega), Nat.add_assoc, a2 _ (by omega), ← Nat.add_assoc]
      exact hR j i hi2
    have hjj : j = 0 ∨ j = 1 ∨ j = 2 ∨ j = 3 ∨ j = 4 ∨ j = 5 ∨ j = 6 ∨ j = 7 ∨ j = 8 ∨ j = 9 ∨ j = 10 ∨ j = 11 ∨ j = 12 ∨ j = 13 ∨ j = 14 ∨ j = 15 ∨ j = 16 := by omega
    rcases hjj with rfl | rfl | rfl | rfl | rfl | rfl | rfl | rfl | rfl | rfl | rfl | rfl | rfl | rfl | rfl | rfl | rfl
    · exact base (by decide) (by decide) (by decide) (by decide) hi
    · exact base (by decide) (by decide) (by decide) (by decide) hi
    · exact base (by decide) (by decide) (by decide) (by decide) hi
    · exact base (by decide) (by decide) (by decide) (by decide) hi
    · exact base (by decide) (by decide) (by decide) (by decide) hi
    · exact base (by decide) (by decide) (by decide) (by decide) hi
    · have : i = 0 := by
        have : i < 1 := hi
        omega
      subst this
      rw [frS_0 (by omega)]
      show m3 114 460 = 0
      rw [c4 _ (by omega), b4 _ (by omega), up2_slot (by decide), up2_same]
    · exact absurd hi (Nat.not_lt_zero i)
    · exact absurd hi (Nat.not_lt_zero i)
    · exact absurd hi (Nat.not_lt_zero i)
    · exact absurd hi (Nat.not_lt_zero i)
    · exact absurd hi (Nat.not_lt_zero i)
    · exact absurd hi (Nat.not_lt_zero i)
    · rw [frS_0 (by omega)]
      show m3 114 (410 + i) = 0
      have : i < 10 := hl
      rw [c4 _ (by omega)]
      exact b2 i (by omega)
    · rw [frS_0 (by omega)]
      show m3 114 (424 + i) = 0
      exact c2 i hl
    · have : i = 0 := by
        have : i < 1 := hi
        omega
      subst this
      rw [frS_0 (by omega)]
      show m3 114 458 = 0
      rw [c4 _ (by omega), b4 _ (by omega), up2_same]
    · exact base (by decide) (by decide) (by decide) (by decide) hi
  · rw [c3 b hb, b3 b hb, up2_ne hb, up2_ne hb, a3.1 b hb]
  · rw [c4 i (by omega), b4 i (by omega), up2_slot (by omega), up2_slot (by omega), a3.2 i hi]
/-- a state with one order more -/
def appS (s : AS) (mi kd wt wh : Nat) : AS := fun j i =>
  if j = 6 then (if i = 0 then s 6 0 + 1 else s j i)
  else if i = s 6 0 then (if j = 7 then mi else if j = 8 then kd else if j = 9 then wt else if j = 10 then wh else if j = 11 then 0 else if j = 12 then 4294967292 else s j i)
  else s j i
theorem appS_6 {s : AS} {a b c d : Nat} : appS s a b c d 6 0 = s 6 0 + 1 := by simp [appS]
theorem appS_o {s : AS} {a b c d j i : Nat} (h6 : j ≠ 6) (h : i ≠ s 6 0) : appS s a b c d j i = s j i := by simp [appS, h6, h]
theorem appS_r {s : AS} {a b c d j : Nat} (h6 : j < 6 ∨ 12 < j) : appS s a b c d j = s j := by
  funext i
  unfold appS
  rw [if_neg (by omega)]
  split
  · rw [if_neg (by omega), if_neg (by omega), if_neg (by omega), if_neg (by omega), if_neg (by omega), if_neg (by omega)]
  · rfl
theorem u3_app {s : AS} {a b c d : Nat} : u3 (u3 (u3 (u3 (u3 (u3 (u3 s 7 (s 6 0) a) 8 (s 6 0) b) 9 (s 6 0) c) 10 (s 6 0) d) 11 (s 6 0) 0) 12 (s 6 0) 4294967292) 6 0 (s 6 0 + 1) = appS s a b c d := by
  funext j i
  unfold appS u3
  by_cases h6 : j = 6
  · subst h6
    by_cases hi : i = 0 <;> simp [hi]
  · by_cases hi : i = s 6 0
    · simp only [h6, hi, false_and, and_true, if_false, if_true]
      by_cases h7 : j = 7
      · simp [h7]
      by_cases h8 : j = 8
      · simp [h8]
      by_cases h9 : j = 9
      · simp [h9]
      by_cases h10 : j = 10
      · simp [h10]
      by_cases h11 : j = 11
      · simp [h11]
      by_cases h12 : j = 12
      · simp [h12]
      simp [h7, h8, h9, h10, h11, h12]
    · simp [h6, hi]

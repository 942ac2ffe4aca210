/-! best: the times of the rows' orders -/
theorem sumN_cut {P : Nat → Prop} [DecidablePred P] : ∀ k n, n ≤ k → sumN (fun i => if i < n ∧ P i then 1 else 0) k = sumN (fun i => if P i then 1 else 0) n
  | 0, n, h => by
    have : n = 0 := by omega
    subst this
    rfl
  | k + 1, n, h => by
    by_cases e : n = k + 1
    · subst e
      exact sumN_congr (fun i hi => by
        by_cases q : P i
        · rw [if_pos ⟨hi, q⟩, if_pos q]
        · rw [if_neg (fun w => q w.2), if_neg q])
    · simp only [sumN]
      rw [sumN_cut k n (by omega), if_neg (fun w => by omega)]
      rfl
theorem tm_busy {w : Nat} {D : Nat → Nat} (h1 : 1 ≤ w) (h3 : w ≤ 3) (hD : ∀ i, 1 ≤ D i) {n : Nat} (hn : n < 3) : sumN (fun i => if tmO w (D 0) (D 1) n < tmO w (D 0) (D 1) i + D i then 1 else 0) n < w := by
  have d0 := hD 0
  have d1 := hD 1
  have hw : w = 1 ∨ w = 2 ∨ w = 3 := by omega
  have hn' : n = 0 ∨ n = 1 ∨ n = 2 := by omega
  rcases hn' with rfl | rfl | rfl <;> rcases hw with rfl | rfl | rfl <;> simp [sumN, tmO] <;> (repeat' split) <;> omega
theorem tm_full {w j : Nat} {D : Nat → Nat} (h1 : 1 ≤ w) (h3 : w ≤ 3) {n : Nat} (hn : n < 3) (hj : ∀ i, i < n → tmO w (D 0) (D 1) i ≤ j) (h : j < tmO w (D 0) (D 1) n) : w ≤ sumN (fun i => if j < tmO w (D 0) (D 1) i + D i then 1 else 0) n := by
  have hw : w = 1 ∨ w = 2 ∨ w = 3 := by omega
  have hn' : n = 0 ∨ n = 1 ∨ n = 2 := by omega
  rcases hn' with rfl | rfl | rfl
  · rcases hw with rfl | rfl | rfl <;> simp [tmO] at h
  · rcases hw with rfl | rfl | rfl <;> simp [tmO] at h
    simp [sumN, tmO, h]
  · have j1 := hj 1 (by decide)
    rcases hw with rfl | rfl | rfl <;> simp [tmO] at h j1
    · simp [sumN, tmO, h]
    · have : j < D 0 := by omega
      have : j < D 1 := by omega
      simp [sumN, tmO, *]
theorem tm_mono {w d0 d1 : Nat} {i n : Nat} (h : i ≤ n) (hn : n < 3) : tmO w d0 d1 i ≤ tmO w d0 d1 n := by
  have hn' : n = 0 ∨ n = 1 ∨ n = 2 := by omega
  have hi' : i = 0 ∨ i = 1 ∨ i = 2 := by omega
  rcases hn' with rfl | rfl | rfl <;> rcases hi' with rfl | rfl | rfl <;> simp [tmO] <;> (repeat' split) <;> omega
theorem row_TD {p s : AS} {k r : Nat} (hp : PW p) (hk : k ≤ 3) (hkc : k ≤ (chL p s).length) (hu : unl p s k r = true) : TD p k (cod p s k r) (rowT p s k r) (fun i => durO p (cod p s k r i)) := by
  obtain ⟨-, -, -, -, -, w1, w3, -⟩ := id hp
  by_cases hk0 : k = 0
  · subst hk0
    exact ⟨fun i hi => absurd hi (by omega), fun i n hi => absurd hi (by omega), fun i n _ hn => absurd hn (by omega), fun n hn => absurd hn (by omega)⟩
  have hc : 0 < (chL p s).length := by omega
  have hU := unl_iff.mp hu
  refine ⟨fun i hi => ⟨(dur_b hp hc).1, rfl, ?_⟩, fun i n hi hn hne => ?_, fun i n h hn => tm_mono h (by omega), fun n hn => ?_⟩
  · rcases cod_in (k := k) (r := r) (i := i) (s := s) hp.1 hc with ⟨q1, q2, -⟩ | ⟨q1, q2, -⟩
    · exact Or.inl ⟨q1, q2⟩
    · exact Or.inr ⟨q1, q2⟩
  · rcases Nat.lt_or_gt_of_ne hne with q | q
    · exact fun e => hU n hn i q e.symm
    · exact hU i hi n q
  · rw [sumN_cut (P := fun i => rowT p s k r n < rowT p s k r i + durO p (cod p s k r i)) k n (by omega)]
    exact tm_busy (D := fun i => durO p (cod p s k r i)) w1 w3 (fun i => (dur_b hp hc).1) (by omega)
theorem row_rows {p s : AS} {k r : Nat} : ∀ n, rowI p s k r n 6 0 = n ∧ ∀ i, i < n → rowI p s k r n 7 i = s 0 0 + rowT p s k r i ∧ rowI p s k r n 8 i = kdO (cod p s k r i) ∧ rowI p s k r n 9 i = wtO (cod p s k r i) ∧ rowI p s k r n 10 i = 0 ∧ rowI p s k r n 11 i = 0 ∧ rowI p s k r n 12 i = 4294967292
  | 0 => ⟨show bas s 6 0 = 0 from bas_0 (by decide), fun i hi => absurd hi (by omega)⟩
  | n + 1 => by
    obtain ⟨h1, h2⟩ := row_rows (p := p) (s := s) (k := k) (r := r) n
    have e : rowI p s k r (n + 1) = appS (rowI p s k r n) (s 0 0 + rowT p s k r n) (kdO (cod p s k r n)) (wtO (cod p s k r n)) 0 := rfl
    rw [e]
    refine ⟨by rw [appS_6, h1], fun i hi => ?_⟩
    by_cases q : i = n
    · subst q
      simp [appS, h1]
    · have q' : i ≠ rowI p s k r n 6 0 := by omega
      rw [appS_o (by decide) q', appS_o (by decide) q', appS_o (by decide) q', appS_o (by decide) q', appS_o (by decide) q', appS_o (by decide) q']
      exact h2 i (by omega)
theorem row_13 {p s : AS} {k r a : Nat} (ha : a = 13 ∨ a = 14 ∨ a = 15) : ∀ n, rowI p s k r n a = fun _ => 0
  | 0 => funext fun i => bas_0 (by omega)
  | n + 1 => by
    have e : rowI p s k r (n + 1) = appS (rowI p s k r n) (s 0 0 + rowT p s k r n) (kdO (cod p s k r n)) (wtO (cod p s k r n)) 0 := rfl
    rw [e, appS_r (by omega), row_13 ha n]
theorem row_IV {p s : AS} {k r : Nat} (hp : PL p) (hk : k ≤ 3) (hkc : k ≤ (chL p s).length) (h6 : ∀ a, a < 6 → rowO p s k r a = s a) : IV (s 0 0) k (cod p s k r) (rowT p s k r) (fun i => durO p (cod p s k r i)) 0 (rowO p s k r) := by
  have hR : rowO p s k r = rowI p s k r k := rfl
  obtain ⟨r1, r2⟩ := row_rows (p := p) (s := s) (k := k) (r := r) k
  refine ⟨by rw [hR, r1], by rw [h6 0 (by decide)]; rfl, fun i hi => ?_⟩
  obtain ⟨q1, q2, q3, q4, q5, q6⟩ := r2 i hi
  refine ⟨by rw [hR, q1], by rw [hR, q2], by rw [hR, q3], by rw [hR, q4], ?_, ?_, fun _ => ⟨fun hc => ?_, fun hc => ?_⟩⟩
  · rw [hR, q5]; unfold hwN; rw [if_pos (by omega)]
  · rw [hR, q6, if_neg (by omega)]
  · rw [h6 3 (by decide)]
    rcases cod_in (k := k) (r := r) (i := i) (s := s) hp (by omega) with ⟨-, -, w⟩ | ⟨w, -⟩
    · exact w
    · omega
  · rw [h6 4 (by decide)]
    rcases cod_in (k := k) (r := r) (i := i) (s := s) hp (by omega) with ⟨w, -⟩ | ⟨-, -, w⟩
    · omega
    · exact w
theorem minS_6 {p s : AS} {M : Nat} (hp : PW p) (hM : M ≤ 2 ^ 20) (h : SI p M s) : minS p s 6 = s 6 := by
  obtain ⟨hw, ho, hy⟩ := h
  unfold minS
  split
  · obtain ⟨k1, k2, k3, k4⟩ := ordS_K hp hM ho
    have hw1 : SW p (ordS p s) := by unfold SW; rw [k3]; exact hw
    obtain ⟨w1, w2⟩ := waterS_w hp hw1
    unfold seeS
    rw [u3_r (by decide), u3_r (by decide), u3_r (by decide), w2 6 (by decide), k4]
  · rw [u3_r (by decide)]
theorem min_why {p X : AS} (h : X 0 1 ≠ 0) : minS p X 0 1 ≠ 0 := by
  unfold minS
  rw [if_neg h, u3_i (by decide)]
  exact h
/-- what stands when minute j begins, with g orders told -/
def TJ (p s : AS) (k r j g : Nat) (Y : AS) : Prop := g ≤ k ∧ Y 6 0 = g ∧ Rg g (runS p j (rowO p s k r)) Y ∧ (runS p j (rowO p s k r) 0 1 = 0 → IV (s 0 0) k (cod p s k r) (rowT p s k r) (fun i => durO p (cod p s k r i)) j (runS p j (rowO p s k r)) ∧ (∀ i, i < g → rowT p s k r i < j) ∧ ∀ i, g ≤ i → i < k → j ≤ rowT p s k r i)
/-- the same behind the telling of minute j -/
def TM (p s : AS) (k r j g : Nat) (Y : AS) : Prop := g ≤ k ∧ Y 6 0 = g ∧ Rg g (runS p j (rowO p s k r)) Y ∧ (runS p j (rowO p s k r) 0 1 = 0 → IV (s 0 0) k (cod p s k r) (rowT p s k r) (fun i => durO p (cod p s k r i)) j (runS p j (rowO p s k r)) ∧ (∀ i, i < g → rowT p s k r i ≤ j) ∧ ∀ i, g ≤ i → i < k → j ≤ rowT p s k r i)
theorem TJ_min {p s : AS} {M k r j g : Nat} {Y : AS} (hp : PW p) (hM : M + j ≤ 2 ^ 20) (hk : k ≤ 3) (hkc : k ≤ (chL p s).length) (hu : unl p s k r = true) (hR : SI p M (rowO p s k r)) (hY : SI p (M + j) Y) (h : TM p s k r j g Y) (hs : runS p j (rowO p s k r) 0 1 = 0 → ∀ i, g ≤ i → i < k → j < rowT p s k r i) : TJ p s k r (j + 1) g (minS p Y) := by
  obtain ⟨h1, h2, h3, h4⟩ := h
  have hX := runS_I hp hR j hM
  have e : runS p (j + 1) (rowO p s k r) = minS p (runS p j (rowO p s k r)) := rfl
  have h6X : runS p j (rowO p s k r) 6 0 = k := by
    have : ∀ j, M + j ≤ 2 ^ 20 → runS p j (rowO p s k r) 6 0 = k := by
      intro j
      induction j with
      | zero => exact fun _ => (row_rows (p := p) (s := s) (k := k) (r := r) k).1
      | succ j ih =>
          intro hM'
          show minS p (runS p j (rowO p s k r)) 6 0 = k
          rw [minS_6 hp (by omega) (runS_I hp hR j (by omega))]
          exact ih (by omega)
    exact this j hM
  refine ⟨h1, by rw [minS_6 hp hM hY]; exact h2, ?_, fun q => ?_⟩
  · rw [e]
    refine Rg_min h3 h6X h2 h1 (fun q i hi1 hi2 => ?_)
    obtain ⟨⟨i1, i2, i3⟩, -, i5⟩ := h4 q
    obtain ⟨a7, -, -, -, a11, -⟩ := i3 i hi2
    have := hs q i hi1 hi2
    refine ⟨?_, ?_⟩
    · rw [a11]; unfold hwN; rw [if_pos (i5 i hi1 hi2)]
    · rw [a7, i2]; omega
  · rw [e] at q ⊢
    have q0 : runS p j (rowO p s k r) 0 1 = 0 := Decidable.byContradiction fun w => min_why w q
    obtain ⟨i1, i2, i3⟩ := h4 q0
    exact ⟨IV_min hp hM (row_TD hp hk hkc hu) hX i1 q0, fun i hi => by have := i2 i hi; omega, fun i hi1 hi2 => hs q0 i hi1 hi2⟩
/-- the next order is told -/
theorem TM_app {p s : AS} {k r j g : Nat} {Y : AS} (hg : g < k) (h : TM p s k r j g Y) (h0 : runS p j (rowO p s k r) 0 1 = 0) (hT : rowT p s k r g = j) (hmono : ∀ i, g < i → i < k → j ≤ rowT p s k r i) : TM p s k r j (g + 1) (appS Y (Y 0 0) (kdO (cod p s k r g)) (wtO (cod p s k r g)) 0) := by
  obtain ⟨h1, h2, h3, h4⟩ := h
  obtain ⟨⟨i1, i2, i3⟩, i4, i5⟩ := h4 h0
  obtain ⟨a7, a8, a9, a10, a11, a12, -⟩ := i3 g hg
  have hY0 : Y 0 0 = s 0 0 + j := by rw [← h3 0 0 (by omega), i2]
  refine ⟨hg, by rw [appS_6, h2], fun a i hi => ?_, fun _ => ⟨⟨i1, i2, i3⟩, fun i hi => ?_, fun i hi1 hi2 => i5 i (by omega) hi2⟩⟩
  · by_cases q : a < 6 ∨ 12 < a
    · rw [appS_r q]
      exact h3 a i (by omega)
    · have hi' : i < g + 1 := by omega
      by_cases e : i = g
      · subst e
        have hc : a = 7 ∨ a = 8 ∨ a = 9 ∨ a = 10 ∨ a = 11 ∨ a = 12 := by omega
        rcases hc with rfl | rfl | rfl | rfl | rfl | rfl
        · simp [appS, h2, a7, hY0, hT]
        · simp [appS, h2, a8]
        · simp [appS, h2, a9]
        · simp [appS, h2, a10]
        · simp [appS, h2, a11, hwN, hT]
        · simp [appS, h2, a12, hT]
      · rw [appS_o (by omega) (by omega)]
        exact h3 a i (by omega)
  · by_cases e : i = g
    · subst e; omega
    · exact i4 i (by omega)

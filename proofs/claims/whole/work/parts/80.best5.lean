/-! best: the class's rows, one after another -/
theorem rowM_b {p s : AS} {M k n r : Nat} (hp : PW p) (hI : SI p M s) (hM : M + 120 ≤ 2 ^ 20) (hk : k ≤ 3) (hkc : k ≤ (chL p s).length) (hn : n ≤ 60) : rowM p s k n r = 4294967292 ∨ rowM p s k n r ≤ 120 := by
  obtain ⟨j1, -, j3⟩ := rowO_I (k := k) (r := r) hp hI (by omega) hk hkc
  rcases untS_le (s := s) hp j1 (j3 0 (by decide)) (n := n) (by omega) (by omega) with w | w
  · exact Or.inl w
  · exact Or.inr (by unfold rowM; omega)
theorem rowA_b {p s : AS} {M k n r : Nat} (hp : PW p) (hI : SI p M s) (hM : M + 120 ≤ 2 ^ 20) (hk : k ≤ 3) (hkc : k ≤ (chL p s).length) (hn : n ≤ 60) : rowA p s k n r < 2 ^ 20 := by
  obtain ⟨j1, -, j3⟩ := rowO_I (k := k) (r := r) hp hI (by omega) hk hkc
  have hw := (runS_I hp j1 n (by omega)).1
  have h1 : sumN (runS p n (rowO p s k r) 1) (p 0 0) ≤ p 0 0 * 99 := sumN_le (fun h hh => by
    have := hw h hh
    have := (hp.2.1 h hh).2.1
    omega)
  have h2 : p 0 0 * 99 ≤ 8 * 99 := Nat.mul_le_mul_right _ hp.1.1
  unfold rowA
  omega
def LB (p s : AS) (m : Mm) : Prop := m 34 6 = nI (chL p s).length ∧ LC m 35 (chL p s) ∧ RC p s m 4
theorem c_bestRow {p s : AS} {m : Mm} {P F M k n r : Nat} {e7 : Int32} {a : Option (Nat × Nat × Nat)} (hF : 5000 ≤ F) (hP : isPl P) (hp : PW p) (pc : PC p m P) (hI : SI p M s) (hM : M + 120 ≤ 2 ^ 20) (hk : k ≤ 3) (hkc : k ≤ (chL p s).length) (hn : n ≤ 60) (hr : r < (chL p s).length ^ k) (he : ¬ e7 ≤ nI r) (hl : LB p s m) (ha : KB p s k m a) : ∃ m2, b_X4_findBest_73 F P 4 18 (nI k) (nI n) e7 (nI r, m) = some (Sum.inl (nI (r + 1), m2)) ∧ KB p s k m2 (stepB p s k n r a) ∧ LB p s m2 ∧ FB m m2 := by
  obtain ⟨h6, hlc, rc⟩ := hl
  obtain ⟨m1, a1, a2, a3⟩ := c_fill (F := F) (r := r) hF hp.1 hk hkc hr h6 hlc
  have a1' : f_X4_fillRow F m (nI r) (nI k) = some (if unl p s k r = true then 1 else 0, m1) := a1
  have f1 : FB m m1 := fun b _ _ _ q _ _ => a3 b q
  cases hu : unl p s k r with
  | false =>
    rw [if_neg (by rw [hu]; decide)] at a1'
    refine ⟨m1, ?_, ?_, ⟨by rw [a3 34 (by decide)]; exact h6, fun i hi => by rw [a3 35 (by decide)]; exact hlc i hi, RC_FB rc f1⟩, f1⟩
    · unfold b_X4_findBest_73
      dsimp only
      rw [if_neg he, a1', bind2_some, if_pos rfl, Option.bind_some, nI_1]
    · unfold stepB
      rw [hu, if_neg (by decide)]
      cases a with
      | none => show m1 34 9 = 0; rw [a3 34 (by decide)]; exact ha
      | some q =>
        obtain ⟨g1, g2, g3, g4, g5, g6⟩ := ha
        exact ⟨by rw [a3 34 (by decide)]; exact g1, by rw [a3 34 (by decide)]; exact g2, by rw [a3 34 (by decide)]; exact g3, g4, g5, fun i hi => by rw [a3 37 (by decide)]; exact g6 i hi⟩
  | true =>
    rw [if_pos hu] at a1'
    have rc1 := RC_FB rc f1
    obtain ⟨m2, b1, b2, b3⟩ := c_copyW isSt18 (Or.inl rfl) (by decide) hp.1 rc1
    have pc2 := PC_FC (PC_FB hP pc f1) isSt18 hP b3
    obtain ⟨m3, d1, d2, d3⟩ := c_give (F := F) (M := M) (k := k) (r := r) hF hP hp pc2 hI (by omega) hk hkc (fun i hi => by rw [b3.1 36 (by omega)]; exact a2 i hi) (RC_bas b2)
    obtain ⟨j1, -, j3⟩ := rowO_I (k := k) (r := r) hp hI (by omega) hk hkc
    have f2 : FB m1 m2 := b3.1.fb
    have f3 : FB m2 m3 := fun b q1 _ _ _ _ q6 => d3 b q1 q6
    have pc3 : PC p m3 P := PC_FB hP pc2 f3
    obtain ⟨m4, q, g1, g2, g3, -⟩ := c_go (F := F) (n := n) (m := m3) hF hP (M := M) (by omega) (by omega) hp pc3 FG.rf d2 j1
    have pc4 : PC p m4 P := PC_FB hP pc3 g3.fb
    obtain ⟨m5, i1, i2, i3⟩ := c_inAll (F := F) isSt18 hP hp pc4 g2 (by omega)
    have i1' : f_X7_waterInAll F m4 18 P = some (nI (rowA p s k n r), m5) := by
      rw [i1, u3_r (show (1 : Nat) ≠ 0 by decide)]
      rfl
    have g1' : f_X7_minutesAfloat F m3 18 P (nI n) = some (nI (rowM p s k n r), m4) := by
      rw [g1, untS_0 (j3 0 (by decide))]
      rfl
    have s34 : ∀ b, b = 34 ∨ b = 35 ∨ b = 37 → m5 b = m b := fun b hb => by
      rw [i3.1 b (by omega), g3 b (by omega), d3 b (by omega) (by omega), b3.1 b (by omega), a3 b (by omega)]
    have s36 : ∀ i, i < k → m5 36 i = nI (cod p s k r i) := fun i hi => by
      rw [i3.1 36 (by omega), g3 36 (by omega), d3 36 (by omega) (by omega), b3.1 36 (by omega)]; exact a2 i hi
    have ha5 : KB p s k m5 a := by
      cases a with
      | none => show m5 34 9 = 0; rw [s34 34 (by decide)]; exact ha
      | some q =>
        obtain ⟨g1, g2, g3, g4, g5, g6⟩ := ha
        exact ⟨by rw [s34 34 (by decide)]; exact g1, by rw [s34 34 (by decide)]; exact g2, by rw [s34 34 (by decide)]; exact g3, g4, g5, fun i hi => by rw [s34 37 (by decide)]; exact g6 i hi⟩
    obtain ⟨m6, k1, k2, k3, k4⟩ := c_keep (mi := rowM p s k n r) (wa := rowA p s k n r) (r := r) hk (rowM_b hp hI hM hk hkc hn) (rowA_b hp hI hM hk hkc hn) ha5 s36
    have f6 : FB m m6 := f1.tr (f2.tr (f3.tr (g3.fb.tr (i3.1.fb.tr (fun b _ q2 _ _ q5 _ => k3 b q2 q5)))))
    refine ⟨m6, ?_, ?_, ⟨?_, fun i hi => ?_, RC_FB rc f6⟩, f6⟩
    · unfold b_X4_findBest_73
      dsimp only
      rw [if_neg he, a1', bind2_some, if_neg (by decide), b1, Option.bind_some, d1, Option.bind_some, g1', bind2_some, i1', bind2_some, k1, Option.bind_some, Option.bind_some, nI_1]
    · unfold stepB
      rw [if_pos hu]
      cases a with
      | none => exact k2
      | some q => exact k2
    · rw [k4 6 (by decide) (by decide) (by decide), s34 34 (by decide)]; exact h6
    · rw [k3 35 (by decide) (by decide), s34 35 (by decide)]; exact hlc i hi
theorem c_bests {p s : AS} {m : Mm} {P F M k n : Nat} (hF : 5000 ≤ F) (hP : isPl P) (hp : PW p) (pc : PC p m P) (hI : SI p M s) (hM : M + 120 ≤ 2 ^ 20) (hk : k ≤ 3) (hkc : k ≤ (chL p s).length) (hn : n ≤ 60) (hl : LB p s m) (h9 : m 34 9 = 0) : ∃ m2, iter F (b_X4_findBest_73 F P 4 18 (nI k) (nI n) (nI ((chL p s).length ^ k))) ((0, m) : Int32 × Mm) = some m2 ∧ KB p s k m2 (bestF p s k n) ∧ LB p s m2 ∧ FB m m2 := by
  have hb := pw14 (chL_len (s := s) hp.1) hk
  exact iter_P (b := b_X4_findBest_73 F P 4 18 (nI k) (nI n) (nI ((chL p s).length ^ k))) (F := F) ((chL p s).length ^ k) (fun r x => ∃ m1, x = (nI r, m1) ∧ KB p s k m1 (rep (stepB p s k n) r none) ∧ LB p s m1 ∧ FB m m1) (fun m2 => KB p s k m2 (bestF p s k n) ∧ LB p s m2 ∧ FB m m2) (by omega) (by
    rintro r x hr ⟨m1, rfl, q1, q2, q3⟩
    obtain ⟨m2, c1, c2, c3, c4⟩ := c_bestRow (F := F) (n := n) hF hP hp (PC_FB hP pc q3) hI hM hk hkc hn hr (nI_ge hr (by omega)) q2 q1
    exact ⟨_, c1, m2, rfl, c2, c3, q3.tr c4⟩) (by
    rintro x ⟨m1, rfl, q1, q2, q3⟩
    refine ⟨m1, ?_, q1, q2, q3⟩
    unfold b_X4_findBest_73
    exact if_pos (Int32.le_refl _)) ⟨m, rfl, h9, hl, FB.rf⟩
theorem c_prod {m : Mm} {F k l : Nat} (hF : 5000 ≤ F) (hk : k ≤ 3) (h6 : m 34 6 = nI l) : iter F (b_X4_findBest_48 (nI k) m) ((1, 0) : Int32 × Int32) = some (nI (l ^ k)) := by
  refine iter_n (b := b_X4_findBest_48 (nI k) m) (F := F) (fun i => ((nI (l ^ i), nI i) : Int32 × Int32)) k _ (by omega) (fun i hi => ?_) ?_
  · unfold b_X4_findBest_48
    dsimp only
    rw [if_neg (nI_ge hi (by omega)), h6, letv_eq, pk_mul, nI_1, Nat.pow_succ]
  · unfold b_X4_findBest_48
    exact if_pos (Int32.le_refl _)
theorem bestF_some {p s : AS} {k n : Nat} : ∀ r t, unl p s k r = true → r < t → rep (stepB p s k n) t none ≠ none := by
  intro r t hu
  have hstep : ∀ r a, a ≠ none → stepB p s k n r a ≠ none := fun r a h => by
    unfold stepB
    split
    · cases a with
      | none => exact absurd rfl h
      | some q => dsimp only; split <;> simp
    · exact h
  induction t with
  | zero => intro h; omega
  | succ t ih =>
    intro h
    simp only [rep]
    by_cases e : r = t
    · subst e
      generalize rep (stepB p s k n) r none = a
      unfold stepB
      rw [if_pos hu]
      cases a with
      | none => simp
      | some q => dsimp only; split <;> simp
    · exact hstep _ _ (ih (by omega))
/-- some row is unlike -/
theorem unl_ex {p s : AS} {k : Nat} (hp : PL p) (hk : k ≤ 3) (hkc : k ≤ (chL p s).length) : ∃ r, r < (chL p s).length ^ k ∧ unl p s k r = true := by
  have hb := chL_len (s := s) hp
  generalize hl : (chL p s).length = l at hkc hb
  have key : ∀ r, r < l ^ k → (∀ i, i < k → ∀ j, j < i → dig l k r i ≠ dig l k r j) → ∃ r, r < l ^ k ∧ unl p s k r = true := fun r h1 h2 => ⟨r, h1, unl_iff.mpr (fun i hi j hj h => h2 i hi j hj (by
    have := (cod_dig (p := p) (s := s) (k := k) (r := r) (i := i) (j := j) hp (by omega)).mp h
    rw [hl] at this
    exact this))⟩
  have tab : ∀ k, k ≤ 3 → ∀ l, l ≤ 14 → k ≤ l → (if k ≤ 1 then 0 else if k = 2 then 1 else l + 2) < l ^ k ∧ ∀ i, i < k → ∀ j, j < i → dig l k (if k ≤ 1 then 0 else if k = 2 then 1 else l + 2) i ≠ dig l k (if k ≤ 1 then 0 else if k = 2 then 1 else l + 2) j := by decide +kernel
  obtain ⟨t1, t2⟩ := tab k hk l hb hkc
  exact key _ t1 t2
theorem bestF_ex {p s : AS} {k n : Nat} (hp : PL p) (hk : k ≤ 3) (hkc : k ≤ (chL p s).length) : ∃ q, bestF p s k n = some q := by
  obtain ⟨r, h1, h2⟩ := unl_ex hp hk hkc
  have := bestF_some (n := n) r _ h2 h1
  unfold bestF
  cases h : rep (stepB p s k n) ((chL p s).length ^ k) none with
  | none => exact absurd h this
  | some q => exact ⟨q, rfl⟩

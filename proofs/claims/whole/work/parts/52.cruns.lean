/-! the class's runs and copies -/
def runS (p : AS) (n : Nat) (s : AS) : AS := rep (fun _ => minS p) n s
def mosL (p : AS) : Nat → AS → Int32
  | 0, s => lst p (s 1)
  | n + 1, s => imax (mosL p n s) (lst p (runS p (n + 1) s 1))
def untS (s t : AS) : Nat := if s 0 1 ≠ 0 then 0 else if t 0 1 ≠ 0 then t 0 2 - s 0 0 else 4294967292
theorem runS_I {p s : AS} {M : Nat} (hp : PW p) (h : SI p M s) : ∀ n, M + n ≤ 2 ^ 20 → SI p (M + n) (runS p n s)
  | 0, _ => h
  | n + 1, hn => by
    have h1 := minS_I hp (by omega) (runS_I hp h n (by omega))
    exact h1
theorem runS_stuck {p s : AS} {i : Nat} (h : runS p i s 0 1 ≠ 0) : ∀ k, runS p (i + k) s = u3 (runS p i s) 0 0 (runS p i s 0 0 + k)
  | 0 => (u3_id rfl).symm
  | k + 1 => by
    show minS p (runS p (i + k) s) = _
    rw [runS_stuck h k, minS, if_neg (by rw [u3_i (by decide)]; exact h), u3_same]
    funext a b
    simp only [u3]
    split
    · omega
    · rfl
theorem imax_same (a : Int32) : imax a a = a := by unfold imax; split <;> rfl
theorem imax_abs (a b : Int32) : imax (imax a b) b = imax a b := by
  unfold imax
  by_cases q : a < b
  · rw [if_pos q, if_neg Int32.lt_irrefl]
  · rw [if_neg q, if_neg q]
theorem mosL_last (p s : AS) : ∀ n, imax (mosL p n s) (lst p (runS p n s 1)) = mosL p n s
  | 0 => imax_same _
  | n + 1 => imax_abs _ _
theorem mosL_stuck {p s : AS} {i : Nat} (h : runS p i s 0 1 ≠ 0) : ∀ k, mosL p (i + k) s = mosL p i s
  | 0 => rfl
  | k + 1 => by
    show imax (mosL p (i + k) s) (lst p (runS p (i + (k + 1)) s 1)) = _
    rw [mosL_stuck h k, runS_stuck h, u3_r (by decide)]
    exact mosL_last p s i
/-- what stays of a run: the minute in which she sank -/
theorem runS_seen {p s : AS} {M : Nat} (hp : PW p) (h : SI p M s) (h0 : s 0 1 = 0) : ∀ n, M + n ≤ 2 ^ 20 → (runS p n s 0 1 = 0 → runS p n s 0 0 = s 0 0 + n) ∧ (runS p n s 0 1 ≠ 0 → s 0 0 < runS p n s 0 2 ∧ runS p n s 0 2 ≤ s 0 0 + n)
  | 0, _ => ⟨fun _ => rfl, fun q => absurd h0 q⟩
  | n + 1, hn => by
    obtain ⟨i1, i2⟩ := runS_seen hp h h0 n (by omega)
    have hI := runS_I hp h n (by omega)
    show (minS p (runS p n s) 0 1 = 0 → minS p (runS p n s) 0 0 = _) ∧ (minS p (runS p n s) 0 1 ≠ 0 → s 0 0 < minS p (runS p n s) 0 2 ∧ minS p (runS p n s) 0 2 ≤ _)
    by_cases q : runS p n s 0 1 = 0
    · have i3 := i1 q
      rw [minS, if_pos q]
      refine ⟨fun _ => ?_, fun q2 => ?_⟩
      · unfold seeS
        rw [u3_i (by decide), u3_i (by decide), u3_same]; omega
      · have hq : ¬ whyN p ((u3 (waterS p (ordS p (runS p n s))) 0 0 (runS p n s 0 0 + 1)) 1) = 0 := by
          intro q3
          apply q2
          unfold seeS
          rw [u3_i (by decide), u3_same]
          exact q3
        unfold seeS
        rw [u3_same, if_neg hq, u3_same]; omega
    · have i3 := i2 q
      rw [minS, if_neg q]
      refine ⟨fun q2 => ?_, fun _ => ?_⟩
      · rw [u3_i (by decide)] at q2
        exact absurd q2 q
      · rw [u3_i (by decide)]; omega
theorem c_afloat {p s : AS} {m : Mm} {S Q F M n : Nat} (hS : isSt S) (hQ : isPl Q) (hM : M + n ≤ 2 ^ 20) (hn : n ≤ 120) (hp : PW p) (hP : PC p m Q) (hR : RC p s m S) (hI : SI p M s) (hF : 200 < F) : ∃ m' q, f_X7_minutesAfloat F m S Q (nI n) = some (nI (untS s (runS p n s)), m') ∧ RC p (u3 (runS p n s) 0 0 q) m' S ∧ FG S m m' ∧ m' S 3 = mosL p n s := by
  obtain ⟨e1, g1, g2⟩ := c_weighS (F := F) hS hQ hp hP hR (by omega)
  obtain ⟨g3, g4⟩ := C_gl g1 (lst p (s 1))
  obtain ⟨r, h1, q, h2, h3, h4⟩ := iter_Q (b := b_X7_minutesAfloat_32 F S Q (nI n)) (F := F) n (fun i x => ∃ m1, x = (nI i, m1) ∧ RC p (runS p i s) m1 S ∧ FG S m m1 ∧ m1 S 3 = mosL p i s) (fun r => ∃ q, RC p (u3 (runS p n s) 0 0 q) r S ∧ FG S m r ∧ r S 3 = mosL p n s) (by omega) (by
    rintro i x hi ⟨m1, rfl, hR1, hf1, hg1⟩
    have hP1 := PC_FG hP hS hQ hf1
    have hI1 := runS_I hp hI i (by omega)
    have hc : ¬ nI n ≤ nI i := nI_ge hi (by omega)
    by_cases q : runS p i s 0 1 = 0
    · obtain ⟨m2, a1, a2, a3, a4⟩ := c_minute (F := F) hS hQ (by omega) hp hP1 hR1 hI1 (by omega)
      obtain ⟨a5, a6⟩ := C_gl a2 (imax (m2 S 3) (m2 (S + 13) 1))
      have a7 : m2 S 3 = mosL p i s := a3.2.trans hg1
      refine Or.inl ⟨_, ?_, _, rfl, a5, hf1.tr (a3.1.tr a6), ?_⟩
      · have kq : nI (runS p i s 0 1) = (0 : Int32) := by rw [q]; rfl
        simp only [b_X7_minutesAfloat_32, hc, RC_1 hR1, kq, a1, letv_eq, nI_1, Option.bind_some, ↓reduceIte]
      · rw [up2_same, a7, a4 q]
        rfl
    · have kq : ¬ nI (runS p i s 0 1) = (0 : Int32) := nI_ne (b := 0) (by have := hI1.2.2.1; omega) (by decide) q
      refine Or.inr ⟨m1, ?_, runS p i s 0 0, ?_, hf1, ?_⟩
      · simp only [b_X7_minutesAfloat_32, hc, RC_1 hR1, kq, ↓reduceIte]
      · have := runS_stuck q (n - i)
        rw [Nat.add_sub_cancel' (by omega)] at this
        rw [this]
        have e : u3 (u3 (runS p i s) 0 0 (runS p i s 0 0 + (n - i))) 0 0 (runS p i s 0 0) = runS p i s := by
          funext a b
          simp only [u3]
          split
          · rename_i w; rw [w.1, w.2]
          · rfl
        rw [e]; exact hR1
      · have := mosL_stuck q (n - i)
        rw [Nat.add_sub_cancel' (by omega)] at this
        rw [this]; exact hg1) (by
    rintro x ⟨m1, rfl, hR1, hf1, hg1⟩
    refine ⟨m1, ?_, runS p n s 0 0, by rw [u3_id rfl]; exact hR1, hf1, hg1⟩
    simp only [b_X7_minutesAfloat_32, Int32.le_refl, ↓reduceIte]) (x := (0, up2 (scl m (S + 13) p (s 1)) S 3 (lst p (s 1)))) ⟨_, rfl, g3, g2.1.tr g4, up2_same⟩
  refine ⟨r, q, ?_, h2, h3, h4⟩
  have hI1 := runS_I hp hI n (by omega)
  have hb1 := hI1.2.2.1
  have z1 : r S 1 = nI (runS p n s 0 1) := by rw [RC_1 h2, u3_i (by decide)]
  have z2 : r S 2 = nI (runS p n s 0 2) := by rw [RC_2 h2, u3_i (by decide)]
  unfold f_X7_minutesAfloat
  rw [letv_eq, e1, Option.bind_some, letv_eq, scl_1, h1, Option.bind_some, z1, z2, RC_0 hR]
  have hm := hI.2.1.2.2.2.2.2.2.2
  by_cases w : runS p n s 0 1 = 0
  · have w' : nI (runS p n s 0 1) = (0 : Int32) := by rw [w]; rfl
    have w0 : s 0 1 = 0 := by
      apply Decidable.byContradiction
      intro w2
      have := runS_stuck (p := p) (s := s) (i := 0) w2 n
      rw [Nat.zero_add] at this
      rw [this, u3_i (by decide)] at w
      exact w2 w
    rw [if_pos w', untS, if_neg (by omega), if_neg (by omega), nI_NN]
  · have w' : ¬ nI (runS p n s 0 1) = (0 : Int32) := nI_ne (b := 0) (by omega) (by decide) w
    rw [if_neg w']
    congr 2
    by_cases w0 : s 0 1 = 0
    · obtain ⟨-, v2⟩ := runS_seen hp hI w0 n (by omega)
      have v3 := v2 w
      rw [untS, if_neg (by omega), if_pos w, pk_sub (by omega), imax, if_pos (n0_lt (by omega) (by omega))]
    · have := runS_stuck (p := p) (s := s) (i := 0) w0 n
      rw [Nat.zero_add] at this
      have v3 := hI.2.2.2.2 w0
      rw [untS, if_pos w0, this, u3_i (by decide)]
      show imax 0 (nI (s 0 2) - nI (s 0 0)) = nI 0
      unfold imax
      by_cases v4 : s 0 2 = s 0 0
      · rw [v4, pk_sub (Nat.le_refl _), Nat.sub_self, if_neg (by decide)]; rfl
      · rw [if_neg (Int32.lt_asymm (pk_sneg (by omega) (by omega)))]; rfl
theorem c_inAll {p s : AS} {m : Mm} {S Q F : Nat} (hS : isSt S) (hQ : isPl Q) (hp : PW p) (hP : PC p m Q) (hR : RC p s m S) (hF : 100 < F) : ∃ m', f_X7_waterInAll F m S Q = some (nI (sumN (s 1) (p 0 0)), m') ∧ RC p s m' S ∧ FC S m m' := by
  obtain ⟨e1, g1, g2⟩ := c_weighS (F := F) hS hQ hp hP hR hF
  refine ⟨_, ?_, g1, g2⟩
  unfold f_X7_waterInAll
  rw [e1, Option.bind_some, scl_0]

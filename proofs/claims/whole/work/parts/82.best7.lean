/-! best: what becomes of the orders, in numbers -/
def hwN (j t d : Nat) : Nat := if j ≤ t then 0 else if j ≤ t + d then 1 else 2
theorem ends_11 {s : AS} {i : Nat} : ∀ n, rep endS n s 11 i = if i < n ∧ s 11 i = 1 ∧ s 12 i = s 0 0 then 2 else s 11 i
  | 0 => by rw [if_neg (by omega)]; rfl
  | n + 1 => by
    simp only [rep]
    by_cases e : i = n
    · subst e
      have e1 : rep endS i s 11 i = s 11 i := ends_o i (Nat.le_refl _)
      have e2 : rep endS i s 12 = s 12 := ends_r (by omega) i
      have e0 : rep endS i s 0 = s 0 := ends_r (by omega) i
      generalize rep endS i s = t at e1 e2 e0
      unfold endS
      rw [e1, e2, e0]
      by_cases q : s 11 i = 1 ∧ s 12 i = s 0 0
      · rw [if_pos q, if_pos ⟨by omega, q⟩, u3_f (by decide), u3_same]
      · rw [if_neg q, if_neg (fun w => q w.2)]; exact e1
    · rw [endS_o e, ends_11 n]
      by_cases q : s 11 i = 1 ∧ s 12 i = s 0 0
      · by_cases w : i < n
        · rw [if_pos ⟨w, q⟩, if_pos ⟨by omega, q⟩]
        · rw [if_neg (fun x => w x.1), if_neg (fun x => by omega)]
      · rw [if_neg (fun x => q x.2), if_neg (fun x => q x.2)]
theorem endS_3 {s : AS} {n x : Nat} (h : ¬ (s 11 n = 1 ∧ s 8 n < 2 ∧ s 9 n = x)) : endS n s 3 x = s 3 x := by
  unfold endS
  split
  · rename_i q
    rw [u3_f (by decide), u3_f (by decide)]
    unfold plcS
    split
    · rw [u3_f (by decide), u3_i (by intro w; exact h ⟨q.1, by omega, w.symm⟩)]
    split
    · rw [u3_f (by decide), u3_i (by intro w; exact h ⟨q.1, by omega, w.symm⟩)]
    split
    · rw [u3_f (by decide), u3_f (by decide)]
    split
    · rw [u3_f (by decide)]
    · rw [u3_f (by decide)]
  · rfl
theorem endS_4 {s : AS} {n x : Nat} (h : ¬ (s 11 n = 1 ∧ s 8 n = 2 ∧ s 9 n = x)) : endS n s 4 x = s 4 x := by
  unfold endS
  split
  · rename_i q
    rw [u3_f (by decide), u3_f (by decide)]
    unfold plcS
    split
    · rw [u3_f (by decide), u3_f (by decide)]
    split
    · rw [u3_f (by decide), u3_f (by decide)]
    split
    · rw [u3_f (by decide), u3_i (by intro w; exact h ⟨q.1, by omega, w.symm⟩)]
    split
    · rw [u3_f (by decide)]
    · rw [u3_f (by decide)]
  · rfl
theorem ends_3 {s : AS} {x : Nat} : ∀ n, (∀ i, i < n → ¬ (s 11 i = 1 ∧ s 8 i < 2 ∧ s 9 i = x)) → rep endS n s 3 x = s 3 x
  | 0, _ => rfl
  | n + 1, h => by
    simp only [rep]
    rw [endS_3, ends_3 n (fun i hi => h i (by omega))]
    rw [ends_o n (Nat.le_refl _), ends_r (by omega), ends_r (by omega)]
    exact h n (by omega)
theorem ends_4 {s : AS} {x : Nat} : ∀ n, (∀ i, i < n → ¬ (s 11 i = 1 ∧ s 8 i = 2 ∧ s 9 i = x)) → rep endS n s 4 x = s 4 x
  | 0, _ => rfl
  | n + 1, h => by
    simp only [rep]
    rw [endS_4, ends_4 n (fun i hi => h i (by omega))]
    rw [ends_o n (Nat.le_refl _), ends_r (by omega), ends_r (by omega)]
    exact h n (by omega)
def TD (p : AS) (k : Nat) (c T D : Nat → Nat) : Prop := (∀ i, i < k → 1 ≤ D i ∧ D i = takN p (kdO (c i)) (wtO (c i)) ∧ ((c i < 20 ∧ c i < p 0 1) ∨ (20 ≤ c i ∧ c i - 20 < p 0 2))) ∧ (∀ i n, i < k → n < k → i ≠ n → c i ≠ c n) ∧ (∀ i n, i ≤ n → n < k → T i ≤ T n) ∧ (∀ n, n < k → sumN (fun i => if i < n ∧ T n < T i + D i then 1 else 0) k < p 16 0)
def IV (S k : Nat) (c T D : Nat → Nat) (j : Nat) (X : AS) : Prop := X 6 0 = k ∧ X 0 0 = S + j ∧ ∀ i, i < k → X 7 i = S + T i ∧ X 8 i = kdO (c i) ∧ X 9 i = wtO (c i) ∧ X 10 i = 0 ∧ X 11 i = hwN j (T i) (D i) ∧ X 12 i = (if T i < j then S + T i + D i else 4294967292) ∧ (j ≤ T i → (c i < 20 → X 3 (c i) = 1) ∧ (20 ≤ c i → X 4 (c i - 20) = 0))
theorem kd_eq {a b : Nat} (h1 : kdO a < 2) (h2 : wtO a = wtO b) (h3 : b < 20) : a = b := by
  unfold kdO at h1
  unfold wtO at h2
  rw [if_pos h3] at h2
  split at h1
  · rename_i q; rw [if_pos q] at h2; exact h2
  · omega
theorem kd_eq2 {a b : Nat} (h1 : kdO a = 2) (h2 : wtO a = wtO b) (h3 : 20 ≤ b) : a = b := by
  unfold kdO at h1
  unfold wtO at h2
  rw [if_neg (c := b < 20) (by omega)] at h2
  split at h1
  · omega
  · rename_i q; rw [if_neg q] at h2; omega
theorem begS_at {p s : AS} {k : Nat} (h : s 11 k = 0 ∧ s 7 k = s 0 0) (hb : canB p s k) : begS p k s 11 k = 1 ∧ begS p k s 12 k = s 0 0 + takN p (s 8 k) (s 9 k) := by
  unfold begS
  rw [if_pos h, if_pos hb]
  refine ⟨?_, ?_⟩
  · rw [u3_f (by decide), u3_f (by decide), u3_same]
  · rw [u3_f (by decide), u3_same]
theorem IV_min {p : AS} {M S k j : Nat} {c T D : Nat → Nat} {X : AS} (hp : PW p) (hM : M ≤ 2 ^ 20) (ht : TD p k c T D) (hI : SI p M X) (h : IV S k c T D j X) (h0 : X 0 1 = 0) : IV S k c T D (j + 1) (minS p X) := by
  obtain ⟨t1, t2, t3, t4⟩ := ht
  obtain ⟨i1, i2, i3⟩ := h
  obtain ⟨hw, ho, hy⟩ := id hI
  -- after the endings
  have hE : SK p M X (rep endS k X) := by
    rw [← i1]
    exact rep_inv (I := SK p M X) ⟨ho, rfl, rfl, rfl⟩ (fun i t hi ⟨ht, t0, t1, t6⟩ => ⟨endS_O (by rw [t6]; exact hi) ht, by rw [endS_r (by omega)]; exact t0, by rw [endS_r (by omega)]; exact t1, by rw [endS_r (by omega)]; exact t6⟩) _ (Nat.le_refl _)
  have e0 : rep endS k X 0 = X 0 := ends_r (by omega) k
  have e6 : rep endS k X 6 = X 6 := ends_r (by omega) k
  have e7 : rep endS k X 7 = X 7 := ends_r (by omega) k
  have e8 : rep endS k X 8 = X 8 := ends_r (by omega) k
  have e9 : rep endS k X 9 = X 9 := ends_r (by omega) k
  have e10 : rep endS k X 10 = X 10 := ends_r (by omega) k
  have e12 : rep endS k X 12 = X 12 := ends_r (by omega) k
  have e11 : ∀ i, i < k → rep endS k X 11 i = if j ≤ T i then 0 else if j < T i + D i then 1 else 2 := fun i hi => by
    obtain ⟨a7, a8, a9, a10, a11, a12, -⟩ := i3 i hi
    rw [ends_11, a11, a12, i2]
    unfold hwN
    by_cases q1 : j ≤ T i
    · rw [if_pos q1, if_pos q1, if_neg (by omega)]
    · rw [if_neg q1, if_neg q1, if_pos (show T i < j by omega)]
      by_cases q2 : j < T i + D i
      · rw [if_pos (show j ≤ T i + D i by omega), if_pos q2, if_neg (by omega)]
      · rw [if_neg q2]
        by_cases q3 : j ≤ T i + D i
        · rw [if_pos q3, if_pos ⟨hi, rfl, by omega⟩]
        · rw [if_neg q3, if_neg (by omega)]
  have e3 : ∀ i, i < k → j ≤ T i → c i < 20 → rep endS k X 3 (c i) = 1 := fun i hi hj hc => by
    rw [ends_3]
    · exact ((i3 i hi).2.2.2.2.2.2 hj).1 hc
    · rintro i' hi' ⟨w1, w2, w3⟩
      obtain ⟨a7, a8, a9, a10, a11, -⟩ := i3 i' hi'
      have hd : i' = i := Decidable.byContradiction fun q => t2 i' i hi' hi q (kd_eq (by rw [← a8]; exact w2) (by rw [← a9, w3]; unfold wtO; rw [if_pos hc]) hc)
      subst hd
      rw [a11] at w1
      unfold hwN at w1
      rw [if_pos hj] at w1
      exact absurd w1 (by decide)
  have e4 : ∀ i, i < k → j ≤ T i → 20 ≤ c i → rep endS k X 4 (c i - 20) = 0 := fun i hi hj hc => by
    rw [ends_4]
    · exact ((i3 i hi).2.2.2.2.2.2 hj).2 hc
    · rintro i' hi' ⟨w1, w2, w3⟩
      obtain ⟨a7, a8, a9, a10, a11, -⟩ := i3 i' hi'
      have hd : i' = i := Decidable.byContradiction fun q => t2 i' i hi' hi q (kd_eq2 (by rw [← a8]; exact w2) (by rw [← a9, w3]; unfold wtO; rw [if_neg (by omega)]) hc)
      subst hd
      rw [a11] at w1
      unfold hwN at w1
      rw [if_pos hj] at w1
      exact absurd w1 (by decide)
  generalize hEe : rep endS k X = E at hE e0 e6 e7 e8 e9 e10 e12 e11 e3 e4
  -- the beginnings
  have key : ∀ n, n ≤ k → SK p M X (rep (begS p) n E) ∧ ∀ i, i < n → rep (begS p) n E 11 i = hwN (j + 1) (T i) (D i) ∧ rep (begS p) n E 12 i = (if T i < j + 1 then S + T i + D i else 4294967292) := by
    intro n
    induction n with
    | zero => exact fun _ => ⟨hE, fun i hi => absurd hi (by omega)⟩
    | succ n ih =>
      intro hn
      obtain ⟨b1, b2⟩ := ih (by omega)
      have f0 : rep (begS p) n E 0 = X 0 := by rw [begs_r (by omega), e0]
      have f3 : rep (begS p) n E 3 = E 3 := begs_r (by omega) n
      have f4 : rep (begS p) n E 4 = E 4 := begs_r (by omega) n
      have f7 : rep (begS p) n E 7 = X 7 := by rw [begs_r (by omega), e7]
      have f8 : rep (begS p) n E 8 = X 8 := by rw [begs_r (by omega), e8]
      have f9 : rep (begS p) n E 9 = X 9 := by rw [begs_r (by omega), e9]
      have f11 : ∀ i, n ≤ i → rep (begS p) n E 11 i = E 11 i := fun i hi => begs_o (by omega) n hi
      have f12 : ∀ i, n ≤ i → rep (begS p) n E 12 i = E 12 i := fun i hi => begs_o (by omega) n hi
      show SK p M X (begS p n (rep (begS p) n E)) ∧ ∀ i, i < n + 1 → begS p n (rep (begS p) n E) 11 i = _ ∧ begS p n (rep (begS p) n E) 12 i = _
      generalize rep (begS p) n E = B at b1 b2 f0 f3 f4 f7 f8 f9 f11 f12
      obtain ⟨s1, s2, s3, s4⟩ := b1
      have hnk : n < k := by omega
      refine ⟨⟨begS_O hp hM (by rw [s4, i1]; exact hnk) s1, by rw [begS_r (by omega)]; exact s2, by rw [begS_r (by omega)]; exact s3, by rw [begS_r (by omega)]; exact s4⟩, fun i hi => ?_⟩
      by_cases hin : i = n
      · subst hin
        obtain ⟨a7, a8, a9, a10, a11, a12, a13⟩ := i3 i hnk
        obtain ⟨d1, d2, d3⟩ := t1 i hnk
        have g11 := f11 i (Nat.le_refl _)
        have g12 := f12 i (Nat.le_refl _)
        rw [e11 i hnk] at g11
        rw [e12, a12] at g12
        by_cases q : T i = j
        · rw [if_pos (show j ≤ T i by omega)] at g11
          have hb : canB p B i := by
            refine ⟨?_, fun w => ?_, fun w => ?_⟩
            · have h15 := s1.2.2.2.2.2.2.1
              rw [h15, s4, i1]
              refine Nat.lt_of_le_of_lt (Nat.le_of_eq (sumN_congr (fun i' hi' => ?_))) (t4 i hnk)
              unfold isW
              by_cases q1 : i' < i
              · have := (b2 i' q1).1
                rw [this]
                unfold hwN
                have hm := t3 i' i (by omega) hnk
                rw [if_neg (show ¬ j + 1 ≤ T i' by omega)]
                by_cases q2 : j + 1 ≤ T i' + D i'
                · rw [if_pos q2, if_pos rfl, if_pos ⟨q1, by omega⟩]
                · rw [if_neg q2, if_neg (by decide), if_neg (by omega)]
              · have hm := t3 i i' (by omega) hi'
                rw [f11 i' (by omega), e11 i' hi', if_pos (show j ≤ T i' by omega), if_neg (by decide), if_neg (fun w => q1 w.1)]
            · rw [f8, a8] at w
              have hc : c i < 20 := by
                unfold kdO at w
                split at w
                · assumption
                · omega
              have hk0 : kdO (c i) = 0 := if_pos hc
              have hw0 : wtO (c i) = c i := if_pos hc
              rw [f8, a8, f9, a9, hk0, hw0, f3, e3 i hnk (by omega) hc]
              refine ⟨rfl, ?_⟩
              rw [(s1.2.2.1 (c i) (by omega)).2.2, s4, i1]
              refine sumN_zero (fun i' hi' => ?_)
              unfold onD
              rw [if_neg]
              rintro ⟨w1, w2, w3⟩
              obtain ⟨v7, v8, v9, -⟩ := i3 i' hi'
              rw [f8, v8] at w2
              rw [f9, v9] at w3
              have hd : i' = i := Decidable.byContradiction fun q => t2 i' i hi' hnk q (kd_eq w2 (by rw [w3, hw0]) hc)
              subst hd
              omega
            · rw [f8, a8] at w
              have hc : 20 ≤ c i := by
                unfold kdO at w
                split at w
                · omega
                · omega
              have hw0 : wtO (c i) = c i - 20 := if_neg (by omega)
              rw [f9, a9, hw0, f4, e4 i hnk (by omega) hc]
              refine ⟨rfl, ?_⟩
              rw [(s1.2.2.2.1 (c i - 20) (by omega)).2.2, s4, i1]
              refine sumN_zero (fun i' hi' => ?_)
              unfold onH
              rw [if_neg]
              rintro ⟨w1, w2, w3⟩
              obtain ⟨v7, v8, v9, -⟩ := i3 i' hi'
              rw [f8, v8] at w2
              rw [f9, v9] at w3
              have hd : i' = i := Decidable.byContradiction fun q => t2 i' i hi' hnk q (kd_eq2 w2 (by rw [w3, hw0]) hc)
              subst hd
              omega
          obtain ⟨r1, r2⟩ := begS_at (p := p) (s := B) (k := i) ⟨g11, by rw [f7, f0, a7, i2, q]⟩ hb
          rw [r1, r2, f0, i2, f8, a8, f9, a9, ← d2]
          unfold hwN
          rw [if_neg (by omega), if_pos (by omega), if_pos (by omega)]
          exact ⟨rfl, by omega⟩
        · have hid : begS p i B = B := by
            rw [begS, if_neg]
            intro w
            have := w.2
            rw [f7, f0, a7, i2] at this
            omega
          rw [hid, g11, g12]
          unfold hwN
          by_cases q1 : j ≤ T i
          · rw [if_pos q1, if_pos (show j + 1 ≤ T i by omega), if_neg (by omega), if_neg (by omega)]
            exact ⟨rfl, rfl⟩
          · rw [if_neg q1, if_neg (show ¬ j + 1 ≤ T i by omega), if_pos (show T i < j by omega), if_pos (show T i < j + 1 by omega)]
            refine ⟨?_, rfl⟩
            by_cases q2 : j < T i + D i
            · rw [if_pos q2, if_pos (by omega)]
            · rw [if_neg q2, if_neg (by omega)]
      · rw [begS_o hin (by omega), begS_o hin (by omega)]
        exact b2 i (by omega)
  obtain ⟨k1, k2⟩ := key k (Nat.le_refl _)
  have hord : ordS p X = rep (begS p) k E := by unfold ordS; rw [i1, hEe]
  have hw1 : SW p (ordS p X) := by unfold SW; rw [hord, k1.2.2.1]; exact hw
  have w2 := (waterS_w hp hw1).2
  have hmin : ∀ a, 2 ≤ a → minS p X a = rep (begS p) k E a := fun a ha => by
    unfold minS seeS
    rw [if_pos h0, u3_r (by omega), u3_r (by omega), u3_r (by omega), w2 a (by omega), hord]
  refine ⟨?_, ?_, fun i hi => ?_⟩
  · rw [hmin 6 (by decide), k1.2.2.2, i1]
  · unfold minS seeS
    rw [if_pos h0, u3_i (by decide), u3_i (by decide), u3_same, i2]
    omega
  · obtain ⟨a7, a8, a9, a10, a11, a12, a13⟩ := i3 i hi
    obtain ⟨l1, l2⟩ := k2 i hi
    rw [hmin 7 (by decide), hmin 8 (by decide), hmin 9 (by decide), hmin 10 (by decide), hmin 11 (by decide), hmin 12 (by decide), hmin 3 (by decide), hmin 4 (by decide), begs_r (by omega), begs_r (by omega), begs_r (by omega), begs_r (by omega), l1, l2, begs_r (a := 3) (by omega), begs_r (a := 4) (by omega), e7, e8, e9, e10]
    exact ⟨a7, a8, a9, a10, rfl, rfl, fun hj => ⟨fun hc => e3 i hi (by omega) hc, fun hc => e4 i hi (by omega) hc⟩⟩

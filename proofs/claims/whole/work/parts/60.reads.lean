/-! calls that only read -/
theorem FI_end {p s : AS} {M k : Nat} (hk : k < s 6 0) (ho : SO p M s) (h : FI s) : FI (endS k s) := by
  by_cases hc : s 11 k = 1 ∧ s 12 k = s 0 0
  case neg => rw [endS, if_neg hc]; exact h
  have hE : endS k s = u3 (u3 (plcS k s) 11 k 2) 15 0 (s 15 0 - 1) := by rw [endS, if_pos hc]
  have e11 : ∀ b, b ≠ k → endS k s 11 b = s 11 b := fun b hb => by
    rw [hE, u3_f (by decide), u3_i hb, plcS_r (by decide) (by decide) (by decide) (by decide) (by decide) (by decide)]
  have e11k : endS k s 11 k = 2 := by rw [hE, u3_f (by decide), u3_same]
  have c3 := (sum_chg hk (endS_r (s := s) (k := k) (a := 8) (by omega)) (endS_r (s := s) (k := k) (a := 9) (by omega)) e11).2.2 3
  rw [isW, if_neg (by omega), isW, e11k, if_neg (by decide)] at c3
  unfold FI at h ⊢
  rw [endS_r (by omega), endS_r (a := 6) (by omega)]
  omega
theorem FI_beg {p s : AS} {M k : Nat} (hk : k < s 6 0) (ho : SO p M s) (h : FI s) : FI (begS p k s) := by
  by_cases hc : s 11 k = 0 ∧ s 7 k = s 0 0
  case neg => rw [begS, if_neg hc]; exact h
  have e8 := begS_r (p := p) (s := s) (k := k) (a := 8) (by omega)
  have e9 := begS_r (p := p) (s := s) (k := k) (a := 9) (by omega)
  have e6 := begS_r (p := p) (s := s) (k := k) (a := 6) (by omega)
  have y3 : isW 3 s k = 0 := by rw [isW, if_neg (by omega)]
  unfold FI at h ⊢
  by_cases hB : canB p s k
  · have hE : begS p k s = u3 (u3 (u3 (wayS k s) 11 k 1) 12 k (s 0 0 + takN p (s 8 k) (s 9 k))) 15 0 (s 15 0 + 1) := by rw [begS, if_pos hc, if_pos hB]
    have e11 : ∀ b, b ≠ k → begS p k s 11 b = s 11 b := fun b hb => by
      rw [hE, u3_f (by decide), u3_f (by decide), u3_i hb, wayS_r (by decide) (by decide)]
    have e11k : begS p k s 11 k = 1 := by rw [hE, u3_f (by decide), u3_f (by decide), u3_same]
    have c3 := (sum_chg hk e8 e9 e11).2.2 3
    have z3 : isW 3 (begS p k s) k = 0 := by rw [isW, e11k, if_neg (by decide)]
    have e16 : begS p k s 16 0 = s 16 0 := by rw [hE, u3_f (by decide), u3_f (by decide), u3_f (by decide), wayS_r (by decide) (by decide)]
    rw [e16, e6]
    omega
  · have hE : begS p k s = u3 (u3 s 11 k 3) 16 0 (s 16 0 + 1) := by rw [begS, if_pos hc, if_neg hB]
    have e11 : ∀ b, b ≠ k → begS p k s 11 b = s 11 b := fun b hb => by rw [hE, u3_f (by decide), u3_i hb]
    have e11k : begS p k s 11 k = 3 := by rw [hE, u3_f (by decide), u3_same]
    have c3 := (sum_chg hk e8 e9 e11).2.2 3
    have z3 : isW 3 (begS p k s) k = 1 := by rw [isW, e11k, if_pos rfl]
    have e16 : begS p k s 16 0 = s 16 0 + 1 := by rw [hE, u3_same]
    rw [e16, e6]
    omega
theorem FI_of {s t : AS} (h : FI s) (h6 : t 6 = s 6) (h11 : t 11 = s 11) (h16 : t 16 = s 16) : FI t := by
  have hW : isW 3 t = isW 3 s := by funext k; simp only [isW, h11]
  unfold FI at h ⊢
  rw [h6, h16, hW]
  exact h
theorem FI_min {p s : AS} {M : Nat} (hp : PW p) (hM : M ≤ 2 ^ 20) (hI : SI p M s) (h : FI s) : FI (minS p s) := by
  unfold minS
  split
  · have h1 : SK p M s (rep endS (s 6 0) s) ∧ FI (rep endS (s 6 0) s) := rep_inv (I := fun t => SK p M s t ∧ FI t) ⟨⟨hI.2.1, rfl, rfl, rfl⟩, h⟩ (fun i t hi ⟨⟨ht, t0, t1, t6⟩, hf⟩ => ⟨⟨endS_O (by rw [t6]; exact hi) ht, by rw [endS_r (by omega)]; exact t0, by rw [endS_r (by omega)]; exact t1, by rw [endS_r (by omega)]; exact t6⟩, FI_end (by rw [t6]; exact hi) ht hf⟩) _ (Nat.le_refl _)
    have h2 : SK p M s (ordS p s) ∧ FI (ordS p s) := rep_inv (I := fun t => SK p M s t ∧ FI t) h1 (fun i t hi ⟨⟨ht, t0, t1, t6⟩, hf⟩ => ⟨⟨begS_O hp hM (by rw [t6]; exact hi) ht, by rw [begS_r (by omega)]; exact t0, by rw [begS_r (by omega)]; exact t1, by rw [begS_r (by omega)]; exact t6⟩, FI_beg (by rw [t6]; exact hi) ht hf⟩) _ (Nat.le_refl _)
    have hw1 : SW p (ordS p s) := by unfold SW; rw [h2.1.2.2.1]; exact hI.1
    have hw := (waterS_w hp hw1).2
    refine FI_of h2.2 ?_ ?_ ?_
    · unfold seeS
      rw [u3_r (by decide), u3_r (by decide), u3_r (by decide), hw 6 (by decide)]
    · unfold seeS
      rw [u3_r (by decide), u3_r (by decide), u3_r (by decide), hw 11 (by decide)]
    · unfold seeS
      rw [u3_r (by decide), u3_r (by decide), u3_r (by decide), hw 16 (by decide)]
  · exact FI_of h (u3_r (by decide)) (u3_r (by decide)) (u3_r (by decide))
theorem FI_run {p s : AS} {M : Nat} (hp : PW p) (hI : SI p M s) (h : FI s) : ∀ n, M + n ≤ 2 ^ 20 → FI (runS p n s)
  | 0, _ => h
  | n + 1, hn => FI_min hp (by omega) (runS_I hp hI n (by omega)) (FI_run hp hI h n (by omega))
theorem in_i (x a b : Int32) : f_X9_in x.toInt64 a.toInt64 b.toInt64 = if x < a then some 0 else if b < x then some 0 else some 1 := by
  have e1 : ∀ x y : Int32, (lg_cmp x.toInt64 y.toInt64 < 0) = (x < y) := fun x y => by
    unfold lg_cmp
    by_cases h : x < y
    · have h1 : x.toInt64 < y.toInt64 := by rw [Int64.lt_iff_toInt_lt, Int32.toInt_toInt64, Int32.toInt_toInt64]; exact Int32.lt_iff_toInt_lt.mp h
      rw [if_neg (Int64.lt_asymm h1), if_neg (fun q => by rw [q] at h1; exact absurd h1 Int64.lt_irrefl)]
      exact propext ⟨fun _ => h, fun _ => by decide⟩
    · have h1 : ¬ x.toInt64 < y.toInt64 := by rw [Int64.lt_iff_toInt_lt, Int32.toInt_toInt64, Int32.toInt_toInt64]; exact fun q => h (Int32.lt_iff_toInt_lt.mpr q)
      refine propext ⟨fun q => ?_, fun q => absurd q h⟩
      by_cases h2 : x.toInt64 > y.toInt64
      · rw [if_pos h2] at q; exact absurd q (by decide)
      · rw [if_neg h2, if_pos (Int64.le_antisymm (Int64.not_lt.mp h2) (Int64.not_lt.mp h1))] at q
        exact absurd q (by decide)
  have e2 : ∀ x y : Int32, (0 < lg_cmp x.toInt64 y.toInt64) = (y < x) := fun x y => by
    unfold lg_cmp
    by_cases h : y < x
    · have h1 : x.toInt64 > y.toInt64 := by
        show y.toInt64 < x.toInt64
        rw [Int64.lt_iff_toInt_lt, Int32.toInt_toInt64, Int32.toInt_toInt64]; exact Int32.lt_iff_toInt_lt.mp h
      rw [if_pos h1]
      exact propext ⟨fun _ => h, fun _ => by decide⟩
    · have h1 : ¬ x.toInt64 > y.toInt64 := by
        show ¬ y.toInt64 < x.toInt64
        rw [Int64.lt_iff_toInt_lt, Int32.toInt_toInt64, Int32.toInt_toInt64]; exact fun q => h (Int32.lt_iff_toInt_lt.mpr q)
      refine propext ⟨fun q => ?_, fun q => absurd q h⟩
      rw [if_neg h1] at q
      split at q <;> exact absurd q (by decide)
  unfold f_X9_in
  simp only [e1, e2]
theorem in_N (x : Int32) (lo hi : Nat) {A B : Int64} (hA : A = (nI lo).toInt64) (hB : B = (nI hi).toInt64) (h1 : lo ≤ hi) (h2 : hi < 2 ^ 30) : (∃ j, lo ≤ j ∧ j ≤ hi ∧ x = nI j ∧ f_X9_in x.toInt64 A B = some 1) ∨ ((x < nI lo ∨ nI hi < x) ∧ f_X9_in x.toInt64 A B = some 0) := by
  rw [hA, hB, in_i]
  by_cases q : x < nI lo
  · exact Or.inr ⟨Or.inl q, if_pos q⟩
  by_cases q2 : nI hi < x
  · exact Or.inr ⟨Or.inr q2, by rw [if_neg q, if_pos q2]⟩
  · left
    rcases pk_ix x (n := hi + 1) (by omega) with w | w | ⟨j, hj, rfl⟩
    · exact absurd (Int32.lt_of_lt_of_le w (nI_pos' (by omega))) q
    · exact absurd (Int32.lt_of_lt_of_le (nI_lt (Nat.lt_succ_self hi) (by omega)) w) q2
    · refine ⟨j, ?_, by omega, rfl, by rw [if_neg q, if_neg q2]⟩
      apply Decidable.byContradiction
      intro w
      exact q (nI_lt (by omega) (by omega))
theorem in_cnt (x : Int32) (n : Nat) {A B : Int64} (hA : A = (0 : Int32).toInt64) (hB : B = (nI n - 1).toInt64) (hn : n < 2 ^ 20) : (∃ j, j < n ∧ x = nI j ∧ f_X9_in x.toInt64 A B = some 1) ∨ ((x < 0 ∨ nI n ≤ x) ∧ f_X9_in x.toInt64 A B = some 0) := by
  rw [hA, hB, in_i]
  by_cases q : x < 0
  · exact Or.inr ⟨Or.inl q, if_pos q⟩
  rcases pk_ix x (n := n) (by omega) with w | w | ⟨j, hj, rfl⟩
  · exact absurd w q
  · refine Or.inr ⟨Or.inr w, ?_⟩
    have hlt : nI n - 1 < nI n := by
      rw [Int32.lt_iff_toInt_lt, show (1 : Int32) = nI 1 from rfl, pk_sub_toInt (by omega) (by decide), nI_toInt (by omega)]
      omega
    rw [if_neg q, if_pos (Int32.lt_of_lt_of_le hlt w)]
  · left
    refine ⟨j, hj, rfl, ?_⟩
    have : ¬ nI n - 1 < nI j := by
      rw [show nI n - 1 = nI (n - 1) from pk_sub (b := 1) (by omega)]
      exact nI_nlt (by omega) (by omega)
    rw [if_neg q, if_neg this]
theorem bG_0 : bG 0 = some 0 := by unfold bG; rw [if_pos (Or.inl rfl)]
theorem bG_1 : bG 1 = some 1 := by unfold bG; rw [if_pos (Or.inr rfl)]
theorem n10 : ¬ (1 : Int32) = 0 := by decide
/-- whether a number is one of a thing: alike in both -/
theorem cls_c {x : Int32} {n : Nat} (hn : n < 2 ^ 20) : (∀ j, j < n → x = nI j → (if x < 0 then some (0 : Int32) else if nI n ≤ x then some 0 else some 1) = some 1) ∧ ((x < 0 ∨ nI n ≤ x) → (if x < 0 then some (0 : Int32) else if nI n ≤ x then some 0 else some 1) = some 0) := by
  refine ⟨?_, ?_⟩
  · rintro j hj rfl
    rw [if_neg (nI_pos (by omega)), if_neg (nI_ge hj (by omega))]
  · rintro (h | h)
    · rw [if_pos h]
    · split
      · rfl
      · first
        | rfl
        | rw [if_pos h]
theorem is_hold {p : AS} {m mr : Mm} {P : Nat} (hp : PL p) (pc : PC p m P) (pm : PM p mr) (x : Int32) : (∃ j, j < p 0 0 ∧ x = nI j ∧ f_X8_isHold m P x = some 1 ∧ f_X9_isHold mr x = some 1) ∨ ((x < 0 ∨ nI (p 0 0) ≤ x) ∧ f_X8_isHold m P x = some 0 ∧ f_X9_isHold mr x = some 0) := by
  have hn : p 0 0 < 2 ^ 20 := by have := hp.1; omega
  have c := cls_c (x := x) hn
  unfold f_X8_isHold f_X9_isHold
  rw [PC_0 pc, pm_1 pm]
  rcases in_cnt x (p 0 0) (A := 0) (B := (nI (p 0 0) - 1).toInt64) (by decide) rfl hn with ⟨j, hj, h1, h2⟩ | ⟨h1, h2⟩
  · exact Or.inl ⟨j, hj, h1, c.1 j hj h1, by rw [h2]; exact bG_1⟩
  · exact Or.inr ⟨h1, c.2 h1, by rw [h2]; exact bG_0⟩
theorem is_door {p : AS} {m mr : Mm} {P : Nat} (hp : PL p) (pc : PC p m P) (pm : PM p mr) (x : Int32) : (∃ j, j < p 0 1 ∧ x = nI j ∧ f_X8_isDoor m P x = some 1 ∧ f_X9_isDoor mr x = some 1) ∨ ((x < 0 ∨ nI (p 0 1) ≤ x) ∧ f_X8_isDoor m P x = some 0 ∧ f_X9_isDoor mr x = some 0) := by
  have hn : p 0 1 < 2 ^ 20 := by have := hp.2.1; omega
  have c := cls_c (x := x) hn
  unfold f_X8_isDoor f_X9_isDoor
  rw [PC_1 pc, pm_2 pm]
  rcases in_cnt x (p 0 1) (A := 0) (B := (nI (p 0 1) - 1).toInt64) (by decide) rfl hn with ⟨j, hj, h1, h2⟩ | ⟨h1, h2⟩
  · exact Or.inl ⟨j, hj, h1, c.1 j hj h1, by rw [h2]; exact bG_1⟩
  · exact Or.inr ⟨h1, c.2 h1, by rw [h2]; exact bG_0⟩
theorem is_hole {p : AS} {m mr : Mm} {P : Nat} (hp : PL p) (pc : PC p m P) (pm : PM p mr) (x : Int32) : (∃ j, j < p 0 2 ∧ x = nI j ∧ f_X8_isHole m P x = some 1 ∧ f_X9_in x.toInt64 0 ((mr 113 6 - 1).toInt64) = some 1) ∨ ((x < 0 ∨ nI (p 0 2) ≤ x) ∧ f_X8_isHole m P x = some 0 ∧ f_X9_in x.toInt64 0 ((mr 113 6 - 1).toInt64) = some 0) := by
  have hn : p 0 2 < 2 ^ 20 := by have := hp.2.2.1; omega
  have c := cls_c (x := x) hn
  unfold f_X8_isHole
  rw [PC_2 pc, pm_3 pm]
  rcases in_cnt x (p 0 2) (A := 0) (B := (nI (p 0 2) - 1).toInt64) (by decide) rfl hn with ⟨j, hj, h1, h2⟩ | ⟨h1, h2⟩
  · exact Or.inl ⟨j, hj, h1, c.1 j hj h1, h2⟩
  · exact Or.inr ⟨h1, c.2 h1, h2⟩
theorem is_pump {p : AS} {m mr : Mm} {P : Nat} (hp : PL p) (pc : PC p m P) (pm : PM p mr) (x : Int32) : (∃ j, j < p 0 3 ∧ x = nI j ∧ f_X8_isPump m P x = some 1 ∧ f_X9_in x.toInt64 0 ((mr 113 8 - 1).toInt64) = some 1) ∨ ((x < 0 ∨ nI (p 0 3) ≤ x) ∧ f_X8_isPump m P x = some 0 ∧ f_X9_in x.toInt64 0 ((mr 113 8 - 1).toInt64) = some 0) := by
  have hn : p 0 3 < 2 ^ 20 := by have := hp.2.2.2; omega
  have c := cls_c (x := x) hn
  unfold f_X8_isPump
  rw [PC_3 pc, pm_4 pm]
  rcases in_cnt x (p 0 3) (A := 0) (B := (nI (p 0 3) - 1).toInt64) (by decide) rfl hn with ⟨j, hj, h1, h2⟩ | ⟨h1, h2⟩
  · exact Or.inl ⟨j, hj, h1, c.1 j hj h1, h2⟩
  · exact Or.inr ⟨h1, c.2 h1, h2⟩
theorem ne_out {x : Int32} {lo hi : Nat} (h : x < nI lo ∨ nI hi < x) (hh : hi < 2 ^ 30) (k : Nat) (h1 : lo ≤ k) (h2 : k ≤ hi) : (x = nI k) = False := by
  refine eq_false ?_
  rintro rfl
  rcases h with h | h
  · exact nI_nlt h1 (by omega) h
  · exact nI_nlt h2 (by omega) h

theorem sq_0_0 : (nI 0 = (0 : Int32)) = True := eq_true rfl
theorem sq_0_1 : (nI 0 = (1 : Int32)) = False := eq_false (by decide)
theorem sq_0_2 : (nI 0 = (2 : Int32)) = False := eq_false (by decide)
theorem sq_0_3 : (nI 0 = (3 : Int32)) = False := eq_false (by decide)
theorem sq_0_4 : (nI 0 = (4 : Int32)) = False := eq_false (by decide)
theorem sq_0_5 : (nI 0 = (5 : Int32)) = False := eq_false (by decide)
theorem sq_0_6 : (nI 0 = (6 : Int32)) = False := eq_false (by decide)
theorem sq_0_7 : (nI 0 = (7 : Int32)) = False := eq_false (by decide)
theorem sq_0_8 : (nI 0 = (8 : Int32)) = False := eq_false (by decide)
theorem sq_0_9 : (nI 0 = (9 : Int32)) = False := eq_false (by decide)
theorem sq_1_0 : (nI 1 = (0 : Int32)) = False := eq_false (by decide)
theorem sq_1_1 : (nI 1 = (1 : Int32)) = True := eq_true rfl
theorem sq_1_2 : (nI 1 = (2 : Int32)) = False := eq_false (by decide)
theorem sq_1_3 : (nI 1 = (3 : Int32)) = False := eq_false (by decide)
theorem sq_1_4 : (nI 1 = (4 : Int32)) = False := eq_false (by decide)
theorem sq_1_5 : (nI 1 = (5 : Int32)) = False := eq_false (by decide)
theorem sq_1_6 : (nI 1 = (6 : Int32)) = False := eq_false (by decide)
theorem sq_1_7 : (nI 1 = (7 : Int32)) = False := eq_false (by decide)
theorem sq_1_8 : (nI 1 = (8 : Int32)) = False := eq_false (by decide)
theorem sq_1_9 : (nI 1 = (9 : Int32)) = False := eq_false (by decide)
theorem sq_2_0 : (nI 2 = (0 : Int32)) = False := eq_false (by decide)
theorem sq_2_1 : (nI 2 = (1 : Int32)) = False := eq_false (by decide)
theorem sq_2_2 : (nI 2 = (2 : Int32)) = True := eq_true rfl
theorem sq_2_3 : (nI 2 = (3 : Int32)) = False := eq_false (by decide)
theorem sq_2_4 : (nI 2 = (4 : Int32)) = False := eq_false (by decide)
theorem sq_2_5 : (nI 2 = (5 : Int32)) = False := eq_false (by decide)
theorem sq_2_6 : (nI 2 = (6 : Int32)) = False := eq_false (by decide)
theorem sq_2_7 : (nI 2 = (7 : Int32)) = False := eq_false (by decide)
theorem sq_2_8 : (nI 2 = (8 : Int32)) = False := eq_false (by decide)
theorem sq_2_9 : (nI 2 = (9 : Int32)) = False := eq_false (by decide)
theorem sq_3_0 : (nI 3 = (0 : Int32)) = False := eq_false (by decide)
theorem sq_3_1 : (nI 3 = (1 : Int32)) = False := eq_false (by decide)
theorem sq_3_2 : (nI 3 = (2 : Int32)) = False := eq_false (by decide)
theorem sq_3_3 : (nI 3 = (3 : Int32)) = True := eq_true rfl
theorem sq_3_4 : (nI 3 = (4 : Int32)) = False := eq_false (by decide)
theorem sq_3_5 : (nI 3 = (5 : Int32)) = False := eq_false (by decide)
theorem sq_3_6 : (nI 3 = (6 : Int32)) = False := eq_false (by decide)
theorem sq_3_7 : (nI 3 = (7 : Int32)) = False := eq_false (by decide)
theorem sq_3_8 : (nI 3 = (8 : Int32)) = False := eq_false (by decide)
theorem sq_3_9 : (nI 3 = (9 : Int32)) = False := eq_false (by decide)
theorem sq_4_0 : (nI 4 = (0 : Int32)) = False := eq_false (by decide)
theorem sq_4_1 : (nI 4 = (1 : Int32)) = False := eq_false (by decide)
theorem sq_4_2 : (nI 4 = (2 : Int32)) = False := eq_false (by decide)
theorem sq_4_3 : (nI 4 = (3 : Int32)) = False := eq_false (by decide)
theorem sq_4_4 : (nI 4 = (4 : Int32)) = True := eq_true rfl
theorem sq_4_5 : (nI 4 = (5 : Int32)) = False := eq_false (by decide)
theorem sq_4_6 : (nI 4 = (6 : Int32)) = False := eq_false (by decide)
theorem sq_4_7 : (nI 4 = (7 : Int32)) = False := eq_false (by decide)
theorem sq_4_8 : (nI 4 = (8 : Int32)) = False := eq_false (by decide)
theorem sq_4_9 : (nI 4 = (9 : Int32)) = False := eq_false (by decide)
theorem sq_5_0 : (nI 5 = (0 : Int32)) = False := eq_false (by decide)
theorem sq_5_1 : (nI 5 = (1 : Int32)) = False := eq_false (by decide)
theorem sq_5_2 : (nI 5 = (2 : Int32)) = False := eq_false (by decide)
theorem sq_5_3 : (nI 5 = (3 : Int32)) = False := eq_false (by decide)
theorem sq_5_4 : (nI 5 = (4 : Int32)) = False := eq_false (by decide)
theorem sq_5_5 : (nI 5 = (5 : Int32)) = True := eq_true rfl
theorem sq_5_6 : (nI 5 = (6 : Int32)) = False := eq_false (by decide)
theorem sq_5_7 : (nI 5 = (7 : Int32)) = False := eq_false (by decide)
theorem sq_5_8 : (nI 5 = (8 : Int32)) = False := eq_false (by decide)
theorem sq_5_9 : (nI 5 = (9 : Int32)) = False := eq_false (by decide)
theorem sq_6_0 : (nI 6 = (0 : Int32)) = False := eq_false (by decide)
theorem sq_6_1 : (nI 6 = (1 : Int32)) = False := eq_false (by decide)
theorem sq_6_2 : (nI 6 = (2 : Int32)) = False := eq_false (by decide)
theorem sq_6_3 : (nI 6 = (3 : Int32)) = False := eq_false (by decide)
theorem sq_6_4 : (nI 6 = (4 : Int32)) = False := eq_false (by decide)
theorem sq_6_5 : (nI 6 = (5 : Int32)) = False := eq_false (by decide)
theorem sq_6_6 : (nI 6 = (6 : Int32)) = True := eq_true rfl
theorem sq_6_7 : (nI 6 = (7 : Int32)) = False := eq_false (by decide)
theorem sq_6_8 : (nI 6 = (8 : Int32)) = False := eq_false (by decide)
theorem sq_6_9 : (nI 6 = (9 : Int32)) = False := eq_false (by decide)
theorem sq_7_0 : (nI 7 = (0 : Int32)) = False := eq_false (by decide)
theorem sq_7_1 : (nI 7 = (1 : Int32)) = False := eq_false (by decide)
theorem sq_7_2 : (nI 7 = (2 : Int32)) = False := eq_false (by decide)
theorem sq_7_3 : (nI 7 = (3 : Int32)) = False := eq_false (by decide)
theorem sq_7_4 : (nI 7 = (4 : Int32)) = False := eq_false (by decide)
theorem sq_7_5 : (nI 7 = (5 : Int32)) = False := eq_false (by decide)
theorem sq_7_6 : (nI 7 = (6 : Int32)) = False := eq_false (by decide)
theorem sq_7_7 : (nI 7 = (7 : Int32)) = True := eq_true rfl
theorem sq_7_8 : (nI 7 = (8 : Int32)) = False := eq_false (by decide)
theorem sq_7_9 : (nI 7 = (9 : Int32)) = False := eq_false (by decide)
theorem sq_8_0 : (nI 8 = (0 : Int32)) = False := eq_false (by decide)
theorem sq_8_1 : (nI 8 = (1 : Int32)) = False := eq_false (by decide)
theorem sq_8_2 : (nI 8 = (2 : Int32)) = False := eq_false (by decide)
theorem sq_8_3 : (nI 8 = (3 : Int32)) = False := eq_false (by decide)
theorem sq_8_4 : (nI 8 = (4 : Int32)) = False := eq_false (by decide)
theorem sq_8_5 : (nI 8 = (5 : Int32)) = False := eq_false (by decide)
theorem sq_8_6 : (nI 8 = (6 : Int32)) = False := eq_false (by decide)
theorem sq_8_7 : (nI 8 = (7 : Int32)) = False := eq_false (by decide)
theorem sq_8_8 : (nI 8 = (8 : Int32)) = True := eq_true rfl
theorem sq_8_9 : (nI 8 = (9 : Int32)) = False := eq_false (by decide)
theorem sq_9_0 : (nI 9 = (0 : Int32)) = False := eq_false (by decide)
theorem sq_9_1 : (nI 9 = (1 : Int32)) = False := eq_false (by decide)
theorem sq_9_2 : (nI 9 = (2 : Int32)) = False := eq_false (by decide)
theorem sq_9_3 : (nI 9 = (3 : Int32)) = False := eq_false (by decide)
theorem sq_9_4 : (nI 9 = (4 : Int32)) = False := eq_false (by decide)
theorem sq_9_5 : (nI 9 = (5 : Int32)) = False := eq_false (by decide)
theorem sq_9_6 : (nI 9 = (6 : Int32)) = False := eq_false (by decide)
theorem sq_9_7 : (nI 9 = (7 : Int32)) = False := eq_false (by decide)
theorem sq_9_8 : (nI 9 = (8 : Int32)) = False := eq_false (by decide)
theorem sq_9_9 : (nI 9 = (9 : Int32)) = True := eq_true rfl
theorem sl_1_0 : ((1 : Int32) ≤ nI 0) = False := eq_false (by decide)
theorem sl_2_0 : ((2 : Int32) ≤ nI 0) = False := eq_false (by decide)
theorem sl_3_0 : ((3 : Int32) ≤ nI 0) = False := eq_false (by decide)
theorem sl_4_0 : ((4 : Int32) ≤ nI 0) = False := eq_false (by decide)
theorem sl_5_0 : ((5 : Int32) ≤ nI 0) = False := eq_false (by decide)
theorem sl_6_0 : ((6 : Int32) ≤ nI 0) = False := eq_false (by decide)
theorem sl_7_0 : ((7 : Int32) ≤ nI 0) = False := eq_false (by decide)
theorem sl_1_1 : ((1 : Int32) ≤ nI 1) = True := eq_true (by decide)
theorem sl_2_1 : ((2 : Int32) ≤ nI 1) = False := eq_false (by decide)
theorem sl_3_1 : ((3 : Int32) ≤ nI 1) = False := eq_false (by decide)
theorem sl_4_1 : ((4 : Int32) ≤ nI 1) = False := eq_false (by decide)
theorem sl_5_1 : ((5 : Int32) ≤ nI 1) = False := eq_false (by decide)
theorem sl_6_1 : ((6 : Int32) ≤ nI 1) = False := eq_false (by decide)
theorem sl_7_1 : ((7 : Int32) ≤ nI 1) = False := eq_false (by decide)
theorem sl_1_2 : ((1 : Int32) ≤ nI 2) = True := eq_true (by decide)
theorem sl_2_2 : ((2 : Int32) ≤ nI 2) = True := eq_true (by decide)
theorem sl_3_2 : ((3 : Int32) ≤ nI 2) = False := eq_false (by decide)
theorem sl_4_2 : ((4 : Int32) ≤ nI 2) = False := eq_false (by decide)
theorem sl_5_2 : ((5 : Int32) ≤ nI 2) = False := eq_false (by decide)
theorem sl_6_2 : ((6 : Int32) ≤ nI 2) = False := eq_false (by decide)
theorem sl_7_2 : ((7 : Int32) ≤ nI 2) = False := eq_false (by decide)
theorem sl_1_3 : ((1 : Int32) ≤ nI 3) = True := eq_true (by decide)
theorem sl_2_3 : ((2 : Int32) ≤ nI 3) = True := eq_true (by decide)
theorem sl_3_3 : ((3 : Int32) ≤ nI 3) = True := eq_true (by decide)
theorem sl_4_3 : ((4 : Int32) ≤ nI 3) = False := eq_false (by decide)
theorem sl_5_3 : ((5 : Int32) ≤ nI 3) = False := eq_false (by decide)
theorem sl_6_3 : ((6 : Int32) ≤ nI 3) = False := eq_false (by decide)
theorem sl_7_3 : ((7 : Int32) ≤ nI 3) = False := eq_false (by decide)
theorem sl_1_4 : ((1 : Int32) ≤ nI 4) = True := eq_true (by decide)
theorem sl_2_4 : ((2 : Int32) ≤ nI 4) = True := eq_true (by decide)
theorem sl_3_4 : ((3 : Int32) ≤ nI 4) = True := eq_true (by decide)
theorem sl_4_4 : ((4 : Int32) ≤ nI 4) = True := eq_true (by decide)
theorem sl_5_4 : ((5 : Int32) ≤ nI 4) = False := eq_false (by decide)
theorem sl_6_4 : ((6 : Int32) ≤ nI 4) = False := eq_false (by decide)
theorem sl_7_4 : ((7 : Int32) ≤ nI 4) = False := eq_false (by decide)
theorem sl_1_5 : ((1 : Int32) ≤ nI 5) = True := eq_true (by decide)
theorem sl_2_5 : ((2 : Int32) ≤ nI 5) = True := eq_true (by decide)
theorem sl_3_5 : ((3 : Int32) ≤ nI 5) = True := eq_true (by decide)
theorem sl_4_5 : ((4 : Int32) ≤ nI 5) = True := eq_true (by decide)
theorem sl_5_5 : ((5 : Int32) ≤ nI 5) = True := eq_true (by decide)
theorem sl_6_5 : ((6 : Int32) ≤ nI 5) = False := eq_false (by decide)
theorem sl_7_5 : ((7 : Int32) ≤ nI 5) = False := eq_false (by decide)
theorem sl_1_6 : ((1 : Int32) ≤ nI 6) = True := eq_true (by decide)
theorem sl_2_6 : ((2 : Int32) ≤ nI 6) = True := eq_true (by decide)
theorem sl_3_6 : ((3 : Int32) ≤ nI 6) = True := eq_true (by decide)
theorem sl_4_6 : ((4 : Int32) ≤ nI 6) = True := eq_true (by decide)
theorem sl_5_6 : ((5 : Int32) ≤ nI 6) = True := eq_true (by decide)
theorem sl_6_6 : ((6 : Int32) ≤ nI 6) = True := eq_true (by decide)
theorem sl_7_6 : ((7 : Int32) ≤ nI 6) = False := eq_false (by decide)
theorem sl_1_7 : ((1 : Int32) ≤ nI 7) = True := eq_true (by decide)
theorem sl_2_7 : ((2 : Int32) ≤ nI 7) = True := eq_true (by decide)
theorem sl_3_7 : ((3 : Int32) ≤ nI 7) = True := eq_true (by decide)
theorem sl_4_7 : ((4 : Int32) ≤ nI 7) = True := eq_true (by decide)
theorem sl_5_7 : ((5 : Int32) ≤ nI 7) = True := eq_true (by decide)
theorem sl_6_7 : ((6 : Int32) ≤ nI 7) = True := eq_true (by decide)
theorem sl_7_7 : ((7 : Int32) ≤ nI 7) = True := eq_true (by decide)
theorem sl_1_8 : ((1 : Int32) ≤ nI 8) = True := eq_true (by decide)
theorem sl_2_8 : ((2 : Int32) ≤ nI 8) = True := eq_true (by decide)
theorem sl_3_8 : ((3 : Int32) ≤ nI 8) = True := eq_true (by decide)
theorem sl_4_8 : ((4 : Int32) ≤ nI 8) = True := eq_true (by decide)
theorem sl_5_8 : ((5 : Int32) ≤ nI 8) = True := eq_true (by decide)
theorem sl_6_8 : ((6 : Int32) ≤ nI 8) = True := eq_true (by decide)
theorem sl_7_8 : ((7 : Int32) ≤ nI 8) = True := eq_true (by decide)
theorem sl_1_9 : ((1 : Int32) ≤ nI 9) = True := eq_true (by decide)
theorem sl_2_9 : ((2 : Int32) ≤ nI 9) = True := eq_true (by decide)
theorem sl_3_9 : ((3 : Int32) ≤ nI 9) = True := eq_true (by decide)
theorem sl_4_9 : ((4 : Int32) ≤ nI 9) = True := eq_true (by decide)
theorem sl_5_9 : ((5 : Int32) ≤ nI 9) = True := eq_true (by decide)
theorem sl_6_9 : ((6 : Int32) ≤ nI 9) = True := eq_true (by decide)
theorem sl_7_9 : ((7 : Int32) ≤ nI 9) = True := eq_true (by decide)
theorem op_hold {F c : Nat} (hF : 5000 ≤ F) : OP_hold F (G c) (G (c + 1)) := by
  intro m P D T hG a1 a2
  have hG' := G_mono hG (Nat.le_succ c)
  obtain ⟨hP, hD, hPD, p, s, hp, hI, hFI, ⟨pc, pm, rc, rm⟩, gi, gr, gt, gs, go, gk⟩ := hG
  obtain ⟨⟨l1, l2, l3, l4⟩, ph, pd, pl, pp, pr⟩ := id hp
  obtain ⟨hw, ho, hy⟩ := id hI
  have hz := ho.1
  rcases is_hold hp.1 pc pm a1 with ⟨j, hj, rfl, h8, h9⟩ | ⟨hx, h8, h9⟩
  case inr =>
    exact ⟨-1, by unfold f_X8_hold; rw [h8]; rfl, by unfold f_X9_hold; rw [h9]; rfl, hG'⟩
  have hwj := hw j hj
  have htj := ph j hj
  have c0 : ald m (P + 1) 8 (nI j) = some (nI (p 1 j)) := P_ld pc 1 j hj (by omega) (by decide)
  have r0 : ald m 116 32 (4 * nI j + nI 0) = some (nI (p 1 j)) := pm_h hp.1 pm j 0 hj (by decide) (ixm1 4 j 0)
  have c1 : ald m (P + 2) 8 (nI j) = some (nI (p 2 j)) := P_ld pc 2 j hj (by omega) (by decide)
  have r1 : ald m 116 32 (4 * nI j + nI 1) = some (nI (p 2 j)) := pm_h hp.1 pm j 1 hj (by decide) (ixm1 4 j 1)
  have c2 : ald m (P + 3) 8 (nI j) = some (nI (p 3 j)) := P_ld pc 3 j hj (by omega) (by decide)
  have r2 : ald m 116 32 (4 * nI j + nI 2) = some (nI (p 3 j)) := pm_h hp.1 pm j 2 hj (by decide) (ixm1 4 j 2)
  have c3 : ald m 5 8 (nI j) = some (nI (s 1 j)) := C_ld rc 1 j hj (by omega) (by decide)
  have r3 : ald m 114 512 (0 + nI j) = some (nI (s 1 j)) := M_ld rm hp.1 hz (by decide) 1 j hj (ix1 0 j)
  have c4 : f_X8_heightIn (nI (p 1 j)) (nI (s 1 j)) = some (nI (hgt p s j)) := c_height (by omega) (by omega) (by omega)
  have r4 : f_X9_heightOf m 0 (nI j) = some (nI (hgt p s j)) := m_height (B := 0) hp (by decide) pm hz rm hw hj
  have c5 : ald m 6 8 (nI j) = some (nI (s 2 j)) := C_ld rc 2 j hj (by omega) (by decide)
  have r5 : ald m 114 512 (8 + nI j) = some (nI (s 2 j)) := M_ld rm hp.1 hz (by decide) 2 j hj (ix1 8 j)
  rcases in_N a2 0 5 (A := 0) (B := 5) (by decide) (by decide) (by decide) (by decide) with ⟨i, -, hi, rfl, h⟩ | ⟨hx, h⟩
  case inr =>
    have k0 : (a2 = (0 : Int32)) = False := ne_out hx (by decide) 0 (by decide) (by decide)
    have k1 : (a2 = (1 : Int32)) = False := ne_out hx (by decide) 1 (by decide) (by decide)
    have k2 : (a2 = (2 : Int32)) = False := ne_out hx (by decide) 2 (by decide) (by decide)
    have k3 : (a2 = (3 : Int32)) = False := ne_out hx (by decide) 3 (by decide) (by decide)
    have k4 : (a2 = (4 : Int32)) = False := ne_out hx (by decide) 4 (by decide) (by decide)
    have k5 : (a2 = (5 : Int32)) = False := ne_out hx (by decide) 5 (by decide) (by decide)
    exact ⟨-1, by simp only [f_X8_hold, h8, n10, k0, k1, k2, k3, k4, k5, Option.bind_some, ↓reduceIte], by simp only [f_X9_hold, h9, n10, h, Option.bind_some, ↓reduceIte], hG'⟩
  have hq : i = 0 ∨ i = 1 ∨ i = 2 ∨ i = 3 ∨ i = 4 ∨ i = 5 := by omega
  rcases hq with rfl | rfl | rfl | rfl | rfl | rfl
  · skip
    exact ⟨nI (p 1 j), by simp only [f_X8_hold, h8, n10, sq_0_0, sq_0_1, sq_0_2, sq_0_3, sq_0_4, sq_0_5, c0, Option.bind_some, ↓reduceIte], by simp only [f_X9_hold, h9, n10, h, sq_0_0, sq_0_1, sq_0_2, sq_0_3, sq_0_4, sq_0_5, sl_1_0, sl_2_0, sl_3_0, sl_4_0, sl_5_0, sl_6_0, sl_7_0, r0, Option.bind_some, ↓reduceIte], hG'⟩
  · skip
    exact ⟨nI (p 2 j), by simp only [f_X8_hold, h8, n10, sq_1_0, sq_1_1, sq_1_2, sq_1_3, sq_1_4, sq_1_5, c1, Option.bind_some, ↓reduceIte], by simp only [f_X9_hold, h9, n10, h, sq_1_0, sq_1_1, sq_1_2, sq_1_3, sq_1_4, sq_1_5, sl_1_1, sl_2_1, sl_3_1, sl_4_1, sl_5_1, sl_6_1, sl_7_1, r1, Option.bind_some, ↓reduceIte], hG'⟩
  · skip
    exact ⟨nI (p 3 j), by simp only [f_X8_hold, h8, n10, sq_2_0, sq_2_1, sq_2_2, sq_2_3, sq_2_4, sq_2_5, c2, Option.bind_some, ↓reduceIte], by simp only [f_X9_hold, h9, n10, h, sq_2_0, sq_2_1, sq_2_2, sq_2_3, sq_2_4, sq_2_5, sl_1_2, sl_2_2, sl_3_2, sl_4_2, sl_5_2, sl_6_2, sl_7_2, r2, Option.bind_some, ↓reduceIte], hG'⟩
  · skip
    exact ⟨nI (s 1 j), by simp only [f_X8_hold, h8, n10, sq_3_0, sq_3_1, sq_3_2, sq_3_3, sq_3_4, sq_3_5, c3, Option.bind_some, ↓reduceIte], by simp only [f_X9_hold, h9, n10, h, sq_3_0, sq_3_1, sq_3_2, sq_3_3, sq_3_4, sq_3_5, sl_1_3, sl_2_3, sl_3_3, sl_4_3, sl_5_3, sl_6_3, sl_7_3, r3, Option.bind_some, ↓reduceIte], hG'⟩
  · skip
    exact ⟨nI (hgt p s j), by simp only [f_X8_hold, h8, n10, sq_4_0, sq_4_1, sq_4_2, sq_4_3, sq_4_4, sq_4_5, c0, c3, c4, Option.bind_some, ↓reduceIte], by simp only [f_X9_hold, h9, n10, h, sq_4_0, sq_4_1, sq_4_2, sq_4_3, sq_4_4, sq_4_5, sl_1_4, sl_2_4, sl_3_4, sl_4_4, sl_5_4, sl_6_4, sl_7_4, r4, Option.bind_some, ↓reduceIte], hG'⟩
  · skip
    exact ⟨nI (s 2 j), by simp only [f_X8_hold, h8, n10, sq_5_0, sq_5_1, sq_5_2, sq_5_3, sq_5_4, sq_5_5, c5, Option.bind_some, ↓reduceIte], by simp only [f_X9_hold, h9, n10, h, sq_5_0, sq_5_1, sq_5_2, sq_5_3, sq_5_4, sq_5_5, sl_1_5, sl_2_5, sl_3_5, sl_4_5, sl_5_5, sl_6_5, sl_7_5, r5, Option.bind_some, ↓reduceIte], hG'⟩
theorem op_door {F c : Nat} (hF : 5000 ≤ F) : OP_door F (G c) (G (c + 1)) := by
  intro m P D T hG a1 a2
  have hG' := G_mono hG (Nat.le_succ c)
  obtain ⟨hP, hD, hPD, p, s, hp, hI, hFI, ⟨pc, pm, rc, rm⟩, gi, gr, gt, gs, go, gk⟩ := hG
  obtain ⟨⟨l1, l2, l3, l4⟩, ph, pd, pl, pp, pr⟩ := id hp
  obtain ⟨hw, ho, hy⟩ := id hI
  have hz := ho.1
  rcases is_door hp.1 pc pm a1 with ⟨j, hj, rfl, h8, h9⟩ | ⟨hx, h8, h9⟩
  case inr =>
    exact ⟨-1, by unfold f_X8_door; rw [h8]; rfl, by unfold f_X9_door; rw [h9]; rfl, hG'⟩
  have c0 : ald m (P + 5) 10 (nI j) = some (nI (p 5 j)) := P_ld pc 5 j hj (by omega) (by decide)
  have r0 : ald m 117 60 (6 * nI j + nI 0) = some (nI (p 5 j)) := pm_d hp.1 pm j 0 hj (by decide) (ixm1 6 j 0)
  have c1 : ald m (P + 6) 10 (nI j) = some (nI (p 6 j)) := P_ld pc 6 j hj (by omega) (by decide)
  have r1 : ald m 117 60 (6 * nI j + nI 1) = some (nI (p 6 j)) := pm_d hp.1 pm j 1 hj (by decide) (ixm1 6 j 1)
  have c2 : ald m (P + 7) 10 (nI j) = some (nI (p 7 j)) := P_ld pc 7 j hj (by omega) (by decide)
  have r2 : ald m 117 60 (6 * nI j + nI 2) = some (nI (p 7 j)) := pm_d hp.1 pm j 2 hj (by decide) (ixm1 6 j 2)
  have c3 : ald m (P + 8) 10 (nI j) = some (nI (p 8 j)) := P_ld pc 8 j hj (by omega) (by decide)
  have r3 : ald m 117 60 (6 * nI j + nI 3) = some (nI (p 8 j)) := pm_d hp.1 pm j 3 hj (by decide) (ixm1 6 j 3)
  have c4 : ald m (P + 9) 10 (nI j) = some (nI (p 9 j)) := P_ld pc 9 j hj (by omega) (by decide)
  have r4 : ald m 117 60 (6 * nI j + nI 4) = some (nI (p 9 j)) := pm_d hp.1 pm j 4 hj (by decide) (ixm1 6 j 4)
  have c5 : ald m 7 10 (nI j) = some (nI (s 3 j)) := C_ld rc 3 j hj (by omega) (by decide)
  have r5 : ald m 114 512 (16 + nI j) = some (nI (s 3 j)) := M_ld rm hp.1 hz (by decide) 3 j hj (ix1 16 j)
  obtain ⟨d1, d2, d3⟩ := ho.2.2.1 j hj
  have c6 : f_X0_isOnDoor F m 10 (nI j) = some (nI (if s 13 j = 0 then 0 else 1)) := by rw [d3]; exact c_onDoor (S := 4) hp rc ho (by omega) (by omega)
  have r6 : ald m 114 512 (26 + nI j) = some (nI (s 13 j)) := M_ld rm hp.1 hz (by decide) 13 j hj (ix1 26 j)
  have c7 : (if nI (if s 13 j = 0 then 0 else 1) = (0 : Int32) then some (0 : Int32) else some 1) = some (nI (s 13 j)) := by
    have : s 13 j = 0 ∨ s 13 j = 1 := by omega
    rcases this with q | q <;> rw [q] <;> decide
  rcases in_N a2 0 6 (A := 0) (B := 6) (by decide) (by decide) (by decide) (by decide) with ⟨i, -, hi, rfl, h⟩ | ⟨hx, h⟩
  case inr =>
    have k0 : (a2 = (0 : Int32)) = False := ne_out hx (by decide) 0 (by decide) (by decide)
    have k1 : (a2 = (1 : Int32)) = False := ne_out hx (by decide) 1 (by decide) (by decide)
    have k2 : (a2 = (2 : Int32)) = False := ne_out hx (by decide) 2 (by decide) (by decide)
    have k3 : (a2 = (3 : Int32)) = False := ne_out hx (by decide) 3 (by decide) (by decide)
    have k4 : (a2 = (4 : Int32)) = False := ne_out hx (by decide) 4 (by decide) (by decide)
    have k5 : (a2 = (5 : Int32)) = False := ne_out hx (by decide) 5 (by decide) (by decide)
    have k6 : (a2 = (6 : Int32)) = False := ne_out hx (by decide) 6 (by decide) (by decide)
    exact ⟨-1, by simp only [f_X8_door, h8, n10, k0, k1, k2, k3, k4, k5, k6, Option.bind_some, ↓reduceIte], by simp only [f_X9_door, h9, n10, h, Option.bind_some, ↓reduceIte], hG'⟩
  have hq : i = 0 ∨ i = 1 ∨ i = 2 ∨ i = 3 ∨ i = 4 ∨ i = 5 ∨ i = 6 := by omega
  rcases hq with rfl | rfl | rfl | rfl | rfl | rfl | rfl
  · skip
    exact ⟨nI (p 5 j), by simp only [f_X8_door, h8, n10, sq_0_0, sq_0_1, sq_0_2, sq_0_3, sq_0_4, sq_0_5, sq_0_6, c0, Option.bind_some, ↓reduceIte], by simp only [f_X9_door, h9, n10, h, sq_0_0, sq_0_1, sq_0_2, sq_0_3, sq_0_4, sq_0_5, sq_0_6, sl_1_0, sl_2_0, sl_3_0, sl_4_0, sl_5_0, sl_6_0, sl_7_0, r0, Option.bind_some, ↓reduceIte], hG'⟩
  · skip
    exact ⟨nI (p 6 j), by simp only [f_X8_door, h8, n10, sq_1_0, sq_1_1, sq_1_2, sq_1_3, sq_1_4, sq_1_5, sq_1_6, c1, Option.bind_some, ↓reduceIte], by simp only [f_X9_door, h9, n10, h, sq_1_0, sq_1_1, sq_1_2, sq_1_3, sq_1_4, sq_1_5, sq_1_6, sl_1_1, sl_2_1, sl_3_1, sl_4_1, sl_5_1, sl_6_1, sl_7_1, r1, Option.bind_some, ↓reduceIte], hG'⟩
  · skip
    exact ⟨nI (p 7 j), by simp only [f_X8_door, h8, n10, sq_2_0, sq_2_1, sq_2_2, sq_2_3, sq_2_4, sq_2_5, sq_2_6, c2, Option.bind_some, ↓reduceIte], by simp only [f_X9_door, h9, n10, h, sq_2_0, sq_2_1, sq_2_2, sq_2_3, sq_2_4, sq_2_5, sq_2_6, sl_1_2, sl_2_2, sl_3_2, sl_4_2, sl_5_2, sl_6_2, sl_7_2, r2, Option.bind_some, ↓reduceIte], hG'⟩
  · skip
    exact ⟨nI (p 8 j), by simp only [f_X8_door, h8, n10, sq_3_0, sq_3_1, sq_3_2, sq_3_3, sq_3_4, sq_3_5, sq_3_6, c3, Option.bind_some, ↓reduceIte], by simp only [f_X9_door, h9, n10, h, sq_3_0, sq_3_1, sq_3_2, sq_3_3, sq_3_4, sq_3_5, sq_3_6, sl_1_3, sl_2_3, sl_3_3, sl_4_3, sl_5_3, sl_6_3, sl_7_3, r3, Option.bind_some, ↓reduceIte], hG'⟩
  · skip
    exact ⟨nI (p 9 j), by simp only [f_X8_door, h8, n10, sq_4_0, sq_4_1, sq_4_2, sq_4_3, sq_4_4, sq_4_5, sq_4_6, c4, Option.bind_some, ↓reduceIte], by simp only [f_X9_door, h9, n10, h, sq_4_0, sq_4_1, sq_4_2, sq_4_3, sq_4_4, sq_4_5, sq_4_6, sl_1_4, sl_2_4, sl_3_4, sl_4_4, sl_5_4, sl_6_4, sl_7_4, r4, Option.bind_some, ↓reduceIte], hG'⟩
  · skip
    exact ⟨nI (s 3 j), by simp only [f_X8_door, h8, n10, sq_5_0, sq_5_1, sq_5_2, sq_5_3, sq_5_4, sq_5_5, sq_5_6, c5, Option.bind_some, ↓reduceIte], by simp only [f_X9_door, h9, n10, h, sq_5_0, sq_5_1, sq_5_2, sq_5_3, sq_5_4, sq_5_5, sq_5_6, sl_1_5, sl_2_5, sl_3_5, sl_4_5, sl_5_5, sl_6_5, sl_7_5, r5, Option.bind_some, ↓reduceIte], hG'⟩
  · skip
    exact ⟨nI (s 13 j), by simp only [f_X8_door, h8, n10, sq_6_0, sq_6_1, sq_6_2, sq_6_3, sq_6_4, sq_6_5, sq_6_6, c6, c7, Option.bind_some, ↓reduceIte], by simp only [f_X9_door, h9, n10, h, sq_6_0, sq_6_1, sq_6_2, sq_6_3, sq_6_4, sq_6_5, sq_6_6, sl_1_6, sl_2_6, sl_3_6, sl_4_6, sl_5_6, sl_6_6, sl_7_6, r6, Option.bind_some, ↓reduceIte], hG'⟩
theorem op_hole {F c : Nat} (hF : 5000 ≤ F) : OP_hole F (G c) (G (c + 1)) := by
  intro m P D T hG a1 a2
  have hG' := G_mono hG (Nat.le_succ c)
  obtain ⟨hP, hD, hPD, p, s, hp, hI, hFI, ⟨pc, pm, rc, rm⟩, gi, gr, gt, gs, go, gk⟩ := hG
  obtain ⟨⟨l1, l2, l3, l4⟩, ph, pd, pl, pp, pr⟩ := id hp
  obtain ⟨hw, ho, hy⟩ := id hI
  have hz := ho.1
  rcases is_hole hp.1 pc pm a1 with ⟨j, hj, rfl, h8, h9⟩ | ⟨hx, h8, h9⟩
  case inr =>
    exact ⟨-1, by unfold f_X8_hole; rw [h8]; rfl, by unfold f_X9_hole; rw [h9]; rfl, hG'⟩
  have c0 : ald m (P + 11) 4 (nI j) = some (nI (p 11 j)) := P_ld pc 11 j hj (by omega) (by decide)
  have r0 : ald m 118 12 (3 * nI j + nI 0) = some (nI (p 11 j)) := pm_l hp.1 pm j 0 hj (by decide) (ixm1 3 j 0)
  have c1 : ald m (P + 12) 4 (nI j) = some (nI (p 12 j)) := P_ld pc 12 j hj (by omega) (by decide)
  have r1 : ald m 118 12 (3 * nI j + nI 1) = some (nI (p 12 j)) := pm_l hp.1 pm j 1 hj (by decide) (ixm1 3 j 1)
  have c2 : ald m (P + 13) 4 (nI j) = some (nI (p 13 j)) := P_ld pc 13 j hj (by omega) (by decide)
  have r2 : ald m 118 12 (3 * nI j + nI 2) = some (nI (p 13 j)) := pm_l hp.1 pm j 2 hj (by decide) (ixm1 3 j 2)
  have c3 : ald m 8 4 (nI j) = some (nI (s 4 j)) := C_ld rc 4 j hj (by omega) (by decide)
  have r3 : ald m 114 512 (36 + nI j) = some (nI (s 4 j)) := M_ld rm hp.1 hz (by decide) 4 j hj (ix1 36 j)
  have c4 : f_X7_tonsThrough m 4 P (nI j) = some (nI (come p s j)) := c_thru hp pc rc hw (ho.2.2.2.1 j hj).1 hj
  have r4 : f_X9_comesIn m 0 (nI j) = some (nI (come p s j)) := m_comes (B := 0) hp (by decide) pm hz rm hw (ho.2.2.2.1 j hj).1 hj
  rcases in_N a2 0 4 (A := 0) (B := 4) (by decide) (by decide) (by decide) (by decide) with ⟨i, -, hi, rfl, h⟩ | ⟨hx, h⟩
  case inr =>
    have k0 : (a2 = (0 : Int32)) = False := ne_out hx (by decide) 0 (by decide) (by decide)
    have k1 : (a2 = (1 : Int32)) = False := ne_out hx (by decide) 1 (by decide) (by decide)
    have k2 : (a2 = (2 : Int32)) = False := ne_out hx (by decide) 2 (by decide) (by decide)
    have k3 : (a2 = (3 : Int32)) = False := ne_out hx (by decide) 3 (by decide) (by decide)
    have k4 : (a2 = (4 : Int32)) = False := ne_out hx (by decide) 4 (by decide) (by decide)
    exact ⟨-1, by simp only [f_X8_hole, h8, n10, k0, k1, k2, k3, k4, Option.bind_some, ↓reduceIte], by simp only [f_X9_hole, h9, n10, h, Option.bind_some, ↓reduceIte], hG'⟩
  have hq : i = 0 ∨ i = 1 ∨ i = 2 ∨ i = 3 ∨ i = 4 := by omega
  rcases hq with rfl | rfl | rfl | rfl | rfl
  · skip
    exact ⟨nI (p 11 j), by simp only [f_X8_hole, h8, n10, sq_0_0, sq_0_1, sq_0_2, sq_0_3, sq_0_4, c0, Option.bind_some, ↓reduceIte], by simp only [f_X9_hole, h9, n10, h, sq_0_0, sq_0_1, sq_0_2, sq_0_3, sq_0_4, sl_1_0, sl_2_0, sl_3_0, sl_4_0, sl_5_0, sl_6_0, sl_7_0, r0, Option.bind_some, ↓reduceIte], hG'⟩
  · skip
    exact ⟨nI (p 12 j), by simp only [f_X8_hole, h8, n10, sq_1_0, sq_1_1, sq_1_2, sq_1_3, sq_1_4, c1, Option.bind_some, ↓reduceIte], by simp only [f_X9_hole, h9, n10, h, sq_1_0, sq_1_1, sq_1_2, sq_1_3, sq_1_4, sl_1_1, sl_2_1, sl_3_1, sl_4_1, sl_5_1, sl_6_1, sl_7_1, r1, Option.bind_some, ↓reduceIte], hG'⟩
  · skip
    exact ⟨nI (p 13 j), by simp only [f_X8_hole, h8, n10, sq_2_0, sq_2_1, sq_2_2, sq_2_3, sq_2_4, c2, Option.bind_some, ↓reduceIte], by simp only [f_X9_hole, h9, n10, h, sq_2_0, sq_2_1, sq_2_2, sq_2_3, sq_2_4, sl_1_2, sl_2_2, sl_3_2, sl_4_2, sl_5_2, sl_6_2, sl_7_2, r2, Option.bind_some, ↓reduceIte], hG'⟩
  · skip
    exact ⟨nI (s 4 j), by simp only [f_X8_hole, h8, n10, sq_3_0, sq_3_1, sq_3_2, sq_3_3, sq_3_4, c3, Option.bind_some, ↓reduceIte], by simp only [f_X9_hole, h9, n10, h, sq_3_0, sq_3_1, sq_3_2, sq_3_3, sq_3_4, sl_1_3, sl_2_3, sl_3_3, sl_4_3, sl_5_3, sl_6_3, sl_7_3, r3, Option.bind_some, ↓reduceIte], hG'⟩
  · skip
    exact ⟨nI (come p s j), by simp only [f_X8_hole, h8, n10, sq_4_0, sq_4_1, sq_4_2, sq_4_3, sq_4_4, c4, Option.bind_some, ↓reduceIte], by simp only [f_X9_hole, h9, n10, h, sq_4_0, sq_4_1, sq_4_2, sq_4_3, sq_4_4, sl_1_4, sl_2_4, sl_3_4, sl_4_4, sl_5_4, sl_6_4, sl_7_4, r4, Option.bind_some, ↓reduceIte], hG'⟩
theorem op_pump {F c : Nat} (hF : 5000 ≤ F) : OP_pump F (G c) (G (c + 1)) := by
  intro m P D T hG a1 a2
  have hG' := G_mono hG (Nat.le_succ c)
  obtain ⟨hP, hD, hPD, p, s, hp, hI, hFI, ⟨pc, pm, rc, rm⟩, gi, gr, gt, gs, go, gk⟩ := hG
  obtain ⟨⟨l1, l2, l3, l4⟩, ph, pd, pl, pp, pr⟩ := id hp
  obtain ⟨hw, ho, hy⟩ := id hI
  have hz := ho.1
  rcases is_pump hp.1 pc pm a1 with ⟨j, hj, rfl, h8, h9⟩ | ⟨hx, h8, h9⟩
  case inr =>
    exact ⟨-1, by unfold f_X8_pump; rw [h8]; rfl, by unfold f_X9_pump; rw [h9]; rfl, hG'⟩
  have c0 : ald m (P + 14) 3 (nI j) = some (nI (p 14 j)) := P_ld pc 14 j hj (by omega) (by decide)
  have r0 : ald m 119 6 (2 * nI j) = some (nI (p 14 j)) := pm_p hp.1 pm j 0 hj (by decide) (ixm 2 j)
  have c1 : ald m 9 3 (nI j) = some (nI (s 5 j)) := C_ld rc 5 j hj (by omega) (by decide)
  have r1 : ald m 114 512 (44 + nI j) = some (nI (s 5 j)) := M_ld rm hp.1 hz (by decide) 5 j hj (ix1 44 j)
  rcases in_N a2 0 1 (A := 0) (B := 1) (by decide) (by decide) (by decide) (by decide) with ⟨i, -, hi, rfl, h⟩ | ⟨hx, h⟩
  case inr =>
    have k0 : (a2 = (0 : Int32)) = False := ne_out hx (by decide) 0 (by decide) (by decide)
    have k1 : (a2 = (1 : Int32)) = False := ne_out hx (by decide) 1 (by decide) (by decide)
    exact ⟨-1, by simp only [f_X8_pump, h8, n10, k0, k1, Option.bind_some, ↓reduceIte], by simp only [f_X9_pump, h9, n10, h, Option.bind_some, ↓reduceIte], hG'⟩
  have hq : i = 0 ∨ i = 1 := by omega
  rcases hq with rfl | rfl
  · skip
    exact ⟨nI (p 14 j), by simp only [f_X8_pump, h8, n10, sq_0_0, sq_0_1, c0, Option.bind_some, ↓reduceIte], by simp only [f_X9_pump, h9, n10, h, sq_0_0, sq_0_1, sl_1_0, sl_2_0, sl_3_0, sl_4_0, sl_5_0, sl_6_0, sl_7_0, r0, Option.bind_some, ↓reduceIte], hG'⟩
  · skip
    exact ⟨nI (s 5 j), by simp only [f_X8_pump, h8, n10, sq_1_0, sq_1_1, c1, Option.bind_some, ↓reduceIte], by simp only [f_X9_pump, h9, n10, h, sq_1_0, sq_1_1, sl_1_1, sl_2_1, sl_3_1, sl_4_1, sl_5_1, sl_6_1, sl_7_1, r1, Option.bind_some, ↓reduceIte], hG'⟩
theorem op_fault {F c : Nat} : OP_fault F (G c) (G (c + 1)) := by
  intro m P D T hG
  have hG' := G_mono hG (Nat.le_succ c)
  obtain ⟨hP, hD, hPD, p, s, hp, hI, hFI, -, gi, gr, gt, gs, go, gk⟩ := hG
  exact ⟨m 0 11, rfl, by unfold f_X9_fault; rw [gr.2], hG'⟩
theorem op_torn {F c : Nat} : OP_torn F (G c) (G (c + 1)) := by
  intro m P D T hG
  have hG' := G_mono hG (Nat.le_succ c)
  obtain ⟨hP, hD, hPD, p, s, hp, hI, hFI, -, gi, gr, gt, gs, go, gk⟩ := hG
  exact ⟨m 0 12, rfl, by unfold f_X9_torn; rw [gt], hG'⟩
theorem op_rule {F c : Nat} : OP_rule F (G c) (G (c + 1)) := by
  intro m P D T hG a1
  have hG' := G_mono hG (Nat.le_succ c)
  obtain ⟨hP, hD, hPD, p, s, hp, hI, hFI, ⟨pc, pm, rc, rm⟩, gi, gr, gt, gs, go, gk⟩ := hG
  rcases in_N a1 0 4 (A := 0) (B := 4) (by decide) (by decide) (by decide) (by decide) with ⟨i, -, hi, rfl, h⟩ | ⟨hx, h⟩
  · have e1 : ald m (P + 16) 5 (nI i) = some (nI (p 16 i)) := P_ld pc 16 i (by show i < 5; omega) (by omega) (by decide)
    have e2 : ald m 120 5 (nI i) = some (nI (p 16 i)) := pm_r pm i (by omega) rfl
    have k1 : ¬ nI i < (0 : Int32) := nI_pos (by omega)
    have k2 : nI i < (5 : Int32) := nI_lt (b := 5) (by omega) (by decide)
    refine ⟨nI (p 16 i), ?_, ?_, hG'⟩
    · unfold f_X8_rule
      rw [if_neg k1, if_pos k2, e1]
      rfl
    · unfold f_X9_rule
      rw [h, Option.bind_some, if_neg n10, e2]
      rfl
  · refine ⟨-1, ?_, ?_, hG'⟩
    · unfold f_X8_rule
      rcases hx with q | q
      · rw [if_pos (show a1 < (0 : Int32) from q)]
      · have k2 : ¬ a1 < (5 : Int32) := by
          intro w
          rcases pk_ix a1 (n := 5) (by decide) with v | v | ⟨j, hj, rfl⟩
          · exact absurd (Int32.lt_trans q v) (by decide)
          · exact absurd w (Int32.not_lt.mpr v)
          · exact nI_nlt (by omega) (by omega) q
        rw [if_neg k2]
        split <;> rfl
    · unfold f_X9_rule
      rw [h]
      rfl
theorem op_given {F c : Nat} : OP_given F (G c) (G (c + 1)) := by
  intro m P D T hG a1 a2
  have hG' := G_mono hG (Nat.le_succ c)
  obtain ⟨hP, hD, hPD, p, s, hp, hI, hFI, ⟨pc, pm, rc, rm⟩, gi, gr, gt, gs, go, gk⟩ := hG
  obtain ⟨hw, ho, hy⟩ := id hI
  have hz := ho.1
  have e0 : ald m 114 512 76 = some (nI (s 6 0)) := M_ld rm hp.1 hz (by decide) 6 0 (by show 0 < 1; decide) rfl
  have e1 : m 10 0 = nI (s 6 0) := RC_size (S := 4) rc
  rcases in_cnt a1 (s 6 0) (A := 0) (B := (nI (s 6 0) - 1).toInt64) (by decide) rfl (by omega) with ⟨j, hj, rfl, h⟩ | ⟨hx, h⟩
  · have k1 : ¬ nI j < (0 : Int32) := nI_pos (by omega)
    have k2 : nI j < nI (s 6 0) := nI_lt hj (by omega)
    have c0 : ald m 11 12 (nI j) = some (nI (s 7 j)) := C_ld rc 7 j hj (by omega) (by decide)
    have c1 : ald m 12 12 (nI j) = some (nI (s 8 j)) := C_ld rc 8 j hj (by omega) (by decide)
    have c2 : ald m 13 12 (nI j) = some (nI (s 9 j)) := C_ld rc 9 j hj (by omega) (by decide)
    have c3 : ald m 14 12 (nI j) = some (nI (s 10 j)) := C_ld rc 10 j hj (by omega) (by decide)
    have c4 : ald m 15 12 (nI j) = some (nI (s 11 j)) := C_ld rc 11 j hj (by omega) (by decide)
    have c5 : ald m 16 12 (nI j) = some (nI (s 12 j)) := C_ld rc 12 j hj (by omega) (by decide)
    have r0 : ald m 114 512 (77 + nI j) = some (nI (s 7 j)) := M_ld rm hp.1 hz (by decide) 7 j hj (ix1 77 j)
    have r1 : ald m 114 512 (89 + nI j) = some (nI (s 8 j)) := M_ld rm hp.1 hz (by decide) 8 j hj (ix1 89 j)
    have r2 : ald m 114 512 (101 + nI j) = some (nI (s 9 j)) := M_ld rm hp.1 hz (by decide) 9 j hj (ix1 101 j)
    have r3 : ald m 114 512 (113 + nI j) = some (nI (s 10 j)) := M_ld rm hp.1 hz (by decide) 10 j hj (ix1 113 j)
    have r4 : ald m 114 512 (47 + nI j) = some (nI (s 11 j)) := M_ld rm hp.1 hz (by decide) 11 j hj (ix1 47 j)
    have r5 : ald m 114 512 (59 + nI j) = some (nI (s 12 j)) := M_ld rm hp.1 hz (by decide) 12 j hj (ix1 59 j)
    unfold f_X8_given f_X9_given
    rw [if_neg k1, e1, if_pos k2, e0, Option.bind_some, h, Option.bind_some, if_neg n10, c0, c1, c2, c3, c4, c5, r0, r1, r2, r3, r4, r5]
    simp only [Option.bind_some]
    by_cases q0 : a2 = 0
    · exact ⟨_, if_pos q0, if_pos q0, hG'⟩
    simp only [if_neg q0]
    by_cases q1 : a2 = 1
    · exact ⟨_, if_pos q1, if_pos q1, hG'⟩
    simp only [if_neg q1]
    by_cases q2 : a2 = 2
    · exact ⟨_, if_pos q2, if_pos q2, hG'⟩
    simp only [if_neg q2]
    by_cases q3 : a2 = 3
    · exact ⟨_, if_pos q3, if_pos q3, hG'⟩
    simp only [if_neg q3]
    by_cases q4 : a2 = 4
    · exact ⟨_, if_pos q4, if_pos q4, hG'⟩
    simp only [if_neg q4]
    by_cases q5 : a2 = 5
    · exact ⟨_, if_pos q5, if_pos q5, hG'⟩
    simp only [if_neg q5]
    exact ⟨_, rfl, rfl, hG'⟩
  · refine ⟨-1, ?_, ?_, hG'⟩
    · unfold f_X8_given
      rw [e1]
      rcases hx with q | q
      · rw [if_pos q]
      · rw [if_neg (c := a1 < nI (s 6 0)) (Int32.not_lt.mpr q)]
        split <;> rfl
    · unfold f_X9_given
      rw [e0, Option.bind_some, h]
      rfl
theorem op_count {F c : Nat} : OP_count F (G c) (G (c + 1)) := by
  intro m P D T hG a1
  have hG' := G_mono hG (Nat.le_succ c)
  obtain ⟨hP, hD, hPD, p, s, hp, hI, hFI, ⟨pc, pm, rc, rm⟩, gi, gr, gt, gs, go, gk⟩ := hG
  have hz := hI.2.1.1
  have e4 : ald m 114 512 76 = some (nI (s 6 0)) := M_ld rm hp.1 hz (by decide) 6 0 (by show 0 < 1; decide) rfl
  have e4' : m 10 0 = nI (s 6 0) := RC_size (S := 4) rc
  obtain ⟨⟨n, hn, g1, g2, -⟩, -⟩ := gr
  obtain ⟨z, v, hz8, o1, o2, -⟩ := go
  have s0 : shtOf 0 = some 105 := by decide +kernel
  have f0 : ∀ i, i < 2 → ald m 115 2 (nI i) = some (m 33 i) := fun i hi => by rw [ald_n hi (by decide), (gi i hi).1]
  have f1 : ald m 33 2 0 = some (m 33 0) := ald_n (i := 0) (by decide) (by decide)
  have f2 : ald m 33 2 1 = some (m 33 1) := ald_n (i := 1) (by decide) (by decide)
  have f3 : ald m 115 2 0 = some (m 33 0) := f0 0 (by decide)
  have f4 : ald m 115 2 1 = some (m 33 1) := f0 1 (by decide)
  have f5 : ald m 132 4 0 = some (m 132 0) := ald_n (i := 0) (by decide) (by decide)
  have f6 : ald m 133 4 0 = some (m 133 0) := ald_n (i := 0) (by decide) (by decide)
  have h8 : (shtOf 0).bind (fun b5 => some (m b5 1)) = (if m 132 0 = (-4 : Int32) then some (-4) else (some (m 133 0)).bind fun x9 => some x9) := by
    rw [s0, Option.bind_some]
    rcases gs 0 (by decide) with ⟨q1, q2⟩ | ⟨l, k, hl, hk, q1, q2, q3, q4, -⟩
    · rw [if_pos q2]
      exact congrArg some q1
    · have : ¬ m 132 0 = (-4 : Int32) := by
        rw [q2, ← nI_NN]
        exact nI_ne (by omega) (by decide) (by omega)
      rw [if_neg this, q4]
      exact congrArg some q3
  unfold f_X8_count f_X9_count f_X9_flag
  rw [PC_0 pc, PC_1 pc, PC_2 pc, PC_3 pc, pm_1 pm, pm_2 pm, pm_3 pm, pm_4 pm, e4, e4', f1, f2, f3, f4, f5, f6, o1, o2, g1, g2, h8]
  simp only [Option.bind_some]
  by_cases q0 : a1 = 0
  · exact ⟨_, if_pos q0, if_pos q0, hG'⟩
  simp only [if_neg q0]
  by_cases q1 : a1 = 1
  · exact ⟨_, if_pos q1, if_pos q1, hG'⟩
  simp only [if_neg q1]
  by_cases q2 : a1 = 2
  · exact ⟨_, if_pos q2, if_pos q2, hG'⟩
  simp only [if_neg q2]
  by_cases q3 : a1 = 3
  · exact ⟨_, if_pos q3, if_pos q3, hG'⟩
  simp only [if_neg q3]
  by_cases q4 : a1 = 4
  · exact ⟨_, if_pos q4, if_pos q4, hG'⟩
  simp only [if_neg q4]
  by_cases q5 : a1 = 5
  · simp only [if_pos q5]
    by_cases w0 : m 33 0 = 0
    · simp only [if_pos w0]
      by_cases w1 : m 33 1 = 0
      · simp only [if_pos w1]
        exact ⟨_, rfl, rfl, hG'⟩
      · simp only [if_neg w1]
        exact ⟨_, rfl, rfl, hG'⟩
    · simp only [if_neg w0]
      by_cases w1 : m 33 1 = 0
      · simp only [if_pos w1]
        exact ⟨_, rfl, rfl, hG'⟩
      · simp only [if_neg w1]
        exact ⟨_, rfl, rfl, hG'⟩
  simp only [if_neg q5]
  by_cases q6 : a1 = 6
  · exact ⟨_, if_pos q6, if_pos q6, hG'⟩
  simp only [if_neg q6]
  by_cases q7 : a1 = 7
  · exact ⟨_, if_pos q7, if_pos q7, hG'⟩
  simp only [if_neg q7]
  by_cases q8 : a1 = 8
  · simp only [if_pos q8]
    by_cases w : m 132 0 = (-4 : Int32)
    · simp only [if_pos w]
      exact ⟨_, rfl, rfl, hG'⟩
    · simp only [if_neg w]
      exact ⟨_, rfl, rfl, hG'⟩
  simp only [if_neg q8]
  exact ⟨_, rfl, rfl, hG'⟩

/-! a plan and a state told in numbers, as they lie in the class and in the reference -/
abbrev AS : Type := Nat → Nat → Nat
def u3 (s : AS) (j i v : Nat) : AS := fun a b => if a = j ∧ b = i then v else s a b
theorem u3_same {s : AS} {j i v : Nat} : u3 s j i v j i = v := by simp [u3]
theorem u3_ne {s : AS} {j i v a b : Nat} (h : ¬ (a = j ∧ b = i)) : u3 s j i v a b = s a b := if_neg h
theorem u3_f {s : AS} {j i v a b : Nat} (h : a ≠ j) : u3 s j i v a b = s a b := if_neg (fun q => h q.1)
theorem u3_i {s : AS} {j i v b : Nat} (h : b ≠ i) : u3 s j i v j b = s j b := if_neg (fun q => h q.2)
theorem u3_id {s : AS} {j i v : Nat} (h : s j i = v) : u3 s j i v = s := by
  funext a b
  simp only [u3]
  split
  · rename_i q; rw [q.1, q.2, h]
  · rfl
theorem u3_comm {s : AS} {j i v a b w : Nat} (h : ¬ (a = j ∧ b = i)) : u3 (u3 s j i v) a b w = u3 (u3 s a b w) j i v := by
  funext x y
  unfold u3
  by_cases h1 : x = a ∧ y = b
  · have h2 : ¬ (x = j ∧ y = i) := fun q => h ⟨h1.1.symm.trans q.1, h1.2.symm.trans q.2⟩
    simp only [if_pos h1, if_neg h2]
  · by_cases h2 : x = j ∧ y = i
    · simp only [if_neg h1, if_pos h2]
    · simp only [if_neg h1, if_neg h2]
def cnS (p : AS) (z j : Nat) : Nat := [3, p 0 0, p 0 0, p 0 1, p 0 2, p 0 3, 1, z, z, z, z, z, z].getD j 0
def cnM (p : AS) (z j : Nat) : Nat := [3, p 0 0, p 0 0, p 0 1, p 0 2, p 0 3, 1, z, z, z, z, z, z, p 0 1, p 0 2, 1, 1].getD j 0
def cnP (p : AS) (j : Nat) : Nat := [4, p 0 0, p 0 0, p 0 0, p 0 0, p 0 1, p 0 1, p 0 1, p 0 1, p 0 1, p 0 1, p 0 2, p 0 2, p 0 2, p 0 3, p 0 3, 5].getD j 0
def ofM (j : Nat) : Nat := [71, 0, 8, 16, 36, 44, 76, 77, 89, 101, 113, 47, 59, 26, 40, 74, 75].getD j 0
def lenM (j : Nat) : Nat := [3, 8, 8, 10, 4, 3, 1, 12, 12, 12, 12, 12, 12, 10, 4, 1, 1].getD j 0
def PL (p : AS) : Prop := p 0 0 ≤ 8 ∧ p 0 1 ≤ 10 ∧ p 0 2 ≤ 4 ∧ p 0 3 ≤ 3
def PW (p : AS) : Prop := PL p ∧ (∀ h, h < p 0 0 → 1 ≤ p 1 h ∧ p 1 h ≤ 99 ∧ p 2 h ≤ 2 ∧ p 3 h ≤ 18 ∧ p 4 h ≤ p 1 h) ∧ (∀ d, d < p 0 1 → p 5 d < p 0 0 ∧ p 6 d < p 0 0 ∧ p 5 d ≠ p 6 d ∧ p 7 d ≤ 12 ∧ 1 ≤ p 8 d ∧ p 8 d ≤ 9 ∧ 1 ≤ p 9 d ∧ p 9 d ≤ 9 ∧ p 10 d ≤ 1) ∧ (∀ i, i < p 0 2 → p 11 i < p 0 0 ∧ 1 ≤ p 12 i ∧ p 12 i ≤ 20 ∧ 1 ≤ p 13 i ∧ p 13 i ≤ 20) ∧ (∀ k, k < p 0 3 → 1 ≤ p 14 k ∧ p 14 k ≤ 9 ∧ p 15 k < p 0 0) ∧ (1 ≤ p 16 0 ∧ p 16 0 ≤ 3 ∧ p 16 1 ≤ 800 ∧ p 16 2 ≤ 99 ∧ p 16 3 ≤ 99 ∧ p 16 4 ≤ 7)
def RC (p s : AS) (m : Mm) (S : Nat) : Prop := ∀ j i, i < cnS p (s 6 0) j → m (S + j) i = nI (s j i)
def PC (p : AS) (m : Mm) (P : Nat) : Prop := ∀ j i, i < cnP p j → m (P + j) i = nI (p j i)
def RM (p s : AS) (m : Mm) (B : Nat) : Prop := ∀ j i, i < cnM p (s 6 0) j → m 114 (B + ofM j + i) = nI (s j i)
def PM (p : AS) (m : Mm) : Prop := m 113 2 = nI (p 0 0) ∧ m 113 4 = nI (p 0 1) ∧ m 113 6 = nI (p 0 2) ∧ m 113 8 = nI (p 0 3) ∧ (∀ h, h < p 0 0 → ∀ k, k < 4 → m 116 (4 * h + k) = nI (p (1 + k) h)) ∧ (∀ d, d < p 0 1 → ∀ k, k < 6 → m 117 (6 * d + k) = nI (p (5 + k) d)) ∧ (∀ i, i < p 0 2 → ∀ k, k < 3 → m 118 (3 * i + k) = nI (p (11 + k) i)) ∧ (∀ i, i < p 0 3 → ∀ k, k < 2 → m 119 (2 * i + k) = nI (p (14 + k) i)) ∧ (∀ k, k < 5 → m 120 k = nI (p 16 k))
def FG (S : Nat) (m m' : Mm) : Prop := ∀ b, b < S ∨ S + 13 < b → m' b = m b
def FC (S : Nat) (m m' : Mm) : Prop := FG S m m' ∧ m' S 3 = m S 3
def FM (B : Nat) (m m' : Mm) : Prop := (∀ b, b ≠ 114 → m' b = m b) ∧ ∀ i, i < B ∨ B + 128 ≤ i → m' 114 i = m 114 i
theorem FG.rf {S : Nat} {m : Mm} : FG S m m := fun _ _ => rfl
theorem FG.tr {S : Nat} {m m1 m2 : Mm} (h1 : FG S m m1) (h2 : FG S m1 m2) : FG S m m2 := fun b hb => (h2 b hb).trans (h1 b hb)
theorem FC.rf {S : Nat} {m : Mm} : FC S m m := ⟨FG.rf, rfl⟩
theorem FC.tr {S : Nat} {m m1 m2 : Mm} (h1 : FC S m m1) (h2 : FC S m1 m2) : FC S m m2 := ⟨h1.1.tr h2.1, h2.2.trans h1.2⟩
theorem FM.rf {B : Nat} {m : Mm} : FM B m m := ⟨fun _ _ => rfl, fun _ _ => rfl⟩
theorem FM.tr {B : Nat} {m m1 m2 : Mm} (h1 : FM B m m1) (h2 : FM B m1 m2) : FM B m m2 := ⟨fun b hb => (h2.1 b hb).trans (h1.1 b hb), fun i hi => (h2.2 i hi).trans (h1.2 i hi)⟩
theorem getD_lt {l : List Nat} {j i : Nat} (h : i < l.getD j 0) : j < l.length := by
  apply Decidable.byContradiction
  intro hj
  rw [List.getD_eq_getElem?_getD, List.getElem?_eq_none (by omega)] at h
  exact absurd h (by simp)
theorem cnP_lt {p : AS} {j i : Nat} (h : i < cnP p j) : j < 17 := getD_lt h
theorem cnS_lt {p : AS} {z j i : Nat} (h : i < cnS p z j) : j < 13 := getD_lt h
theorem cnM_lt {p : AS} {z j i : Nat} (h : i < cnM p z j) : j < 17 := getD_lt h
theorem cnM_len {p : AS} (hp : PL p) {z j i : Nat} (hz : z ≤ 12) (h : i < cnM p z j) : i < lenM j := by
  have hj := cnM_lt h
  obtain ⟨h1, h2, h3, h4⟩ := hp
  have : j = 0 ∨ j = 1 ∨ j = 2 ∨ j = 3 ∨ j = 4 ∨ j = 5 ∨ j = 6 ∨ j = 7 ∨ j = 8 ∨ j = 9 ∨ j = 10 ∨ j = 11 ∨ j = 12 ∨ j = 13 ∨ j = 14 ∨ j = 15 ∨ j = 16 := by omega
  rcases this with rfl | rfl | rfl | rfl | rfl | rfl | rfl | rfl | rfl | rfl | rfl | rfl | rfl | rfl | rfl | rfl | rfl <;> simp [cnM, lenM] at h ⊢ <;> omega
def jof (c : Nat) : Nat := ((List.range 17).filter (fun j => decide (ofM j ≤ c) && decide (c < ofM j + lenM j))).headD 0
theorem jof_all : ∀ j, j < 17 → ∀ i, i < lenM j → jof (ofM j + i) = j := by decide +kernel
theorem ofM_inj : ∀ j, j < 17 → ∀ i, i < lenM j → ∀ a, a < 17 → ∀ b, b < lenM a → ofM j + i = ofM a + b → j = a ∧ i = b := by
  intro j hj i hi a ha b hb h
  have h1 := jof_all j hj i hi
  rw [h, jof_all a ha b hb] at h1
  subst h1
  exact ⟨rfl, by omega⟩
theorem ofM_lt : ∀ j, j < 17 → ∀ i, i < lenM j → ofM j + i < 125 := by decide +kernel
theorem isSt_le {S : Nat} (h : isSt S) : S + 13 ≤ 104 := by rcases h with rfl | rfl | rfl | rfl <;> decide
theorem isPl_le {P : Nat} (h : isPl P) : P + 16 ≤ 76 := by rcases h with rfl | rfl <;> decide
theorem stpl {S P j : Nat} (hS : isSt S) (hP : isPl P) (hj : j < 17) : P + j < S ∨ S + 13 < P + j := by
  rcases hS with rfl | rfl | rfl | rfl <;> rcases hP with rfl | rfl <;> omega
theorem PC_fr {p : AS} {m m' : Mm} {P : Nat} (h : PC p m P) (hf : ∀ j, j < 17 → m' (P + j) = m (P + j)) : PC p m' P := fun j i hi => by
  rw [hf j (cnP_lt hi)]; exact h j i hi
theorem PC_FG {p : AS} {m m' : Mm} {P S : Nat} (h : PC p m P) (hS : isSt S) (hP : isPl P) (hf : FG S m m') : PC p m' P := PC_fr h (fun j hj => hf _ (stpl hS hP hj))
theorem PC_FC {p : AS} {m m' : Mm} {P S : Nat} (h : PC p m P) (hS : isSt S) (hP : isPl P) (hf : FC S m m') : PC p m' P := PC_FG h hS hP hf.1
theorem RC_fr {p s : AS} {m m' : Mm} {S : Nat} (h : RC p s m S) (hf : ∀ j, j < 13 → ∀ i, (j = 0 → i < 3) → m' (S + j) i = m (S + j) i) : RC p s m' S := fun j i hi => by
  rw [hf j (cnS_lt hi) i (fun q => by subst q; exact hi)]; exact h j i hi
theorem PM_FM {p : AS} {m m' : Mm} {B : Nat} (h : PM p m) (hf : ∀ b, b ≠ 114 → m' b = m b) : PM p m' := by
  unfold PM
  rw [hf 113 (by decide), hf 116 (by decide), hf 117 (by decide), hf 118 (by decide), hf 119 (by decide), hf 120 (by decide)]
  exact h
theorem RM_fr {p s : AS} (hp : PL p) {m m' : Mm} {B : Nat} (hz : s 6 0 ≤ 12) (h : RM p s m B) (hf : ∀ i, B ≤ i → i < B + 125 → m' 114 i = m 114 i) : RM p s m' B := fun j i hi => by
  have h1 := ofM_lt j (cnM_lt hi) i (cnM_len hp hz hi)
  rw [hf (B + ofM j + i) (by omega) (by omega)]
  exact h j i hi
/-- rows of the class -/
theorem C_ld {p s : AS} {m : Mm} {S N : Nat} (hR : RC p s m S) (j i : Nat) (hi : i < cnS p (s 6 0) j) (hN : i < N) (hN2 : N < 2 ^ 31) : ald m (S + j) N (nI i) = some (nI (s j i)) := by
  rw [ald_n hN hN2, hR j i hi]
theorem P_ld {p : AS} {m : Mm} {P N : Nat} (hR : PC p m P) (j i : Nat) (hi : i < cnP p j) (hN : i < N) (hN2 : N < 2 ^ 31) : ald m (P + j) N (nI i) = some (nI (p j i)) := by
  rw [ald_n hN hN2, hR j i hi]
theorem C_put {p s : AS} {m : Mm} {S : Nat} (hR : RC p s m S) (j i w : Nat) (hj : j < 13) (h6 : j ≠ 6) (h0 : j ≠ 0 ∨ i < 3 := by omega) : RC p (u3 s j i w) (up2 m (S + j) i (nI w)) S ∧ FC S m (up2 m (S + j) i (nI w)) := by
  refine ⟨fun a b hb => ?_, fun b hb => ?_, ?_⟩
  · rw [u3_f (Ne.symm h6)] at hb
    by_cases h : a = j ∧ b = i
    · rw [h.1, h.2, up2_same, u3_same]
    · rw [u3_ne h, ← hR a b hb, up2_at, if_neg]
      intro q
      exact h ⟨by omega, q.2⟩
  · exact up2_ne (by omega)
  · rw [up2_at, if_neg (by omega)]
theorem C_st {p s : AS} {m : Mm} {S N : Nat} (hR : RC p s m S) (j i w : Nat) (hj : j < 13) (h6 : j ≠ 6) (hN : i < N) (hN2 : N < 2 ^ 31) (h0 : j ≠ 0 ∨ i < 3 := by omega) : ∃ m', ast m (S + j) N (nI i) (nI w) = some m' ∧ RC p (u3 s j i w) m' S ∧ FC S m m' := ⟨_, ast_n hN hN2, C_put hR j i w hj h6 h0⟩
theorem C_13 {p s : AS} {m : Mm} {S : Nat} (hR : RC p s m S) (i : Nat) (v : Int32) : RC p s (up2 m (S + 13) i v) S ∧ FC S m (up2 m (S + 13) i v) :=
  ⟨RC_fr hR (fun j hj i _ => up2_cell (by omega)), fun b hb => up2_ne (by omega), up2_cell (by omega)⟩
theorem C_gl {p s : AS} {m : Mm} {S : Nat} (hR : RC p s m S) (v : Int32) : RC p s (up2 m S 3 v) S ∧ FG S m (up2 m S 3 v) :=
  ⟨RC_fr hR (fun j hj i hi => by
    rw [up2_at, if_neg]
    intro q
    have := hi (by omega)
    omega), fun b hb => up2_ne (by omega)⟩
/-- rows of the reference -/
theorem M_ld {p s : AS} {m : Mm} {B : Nat} (hR : RM p s m B) (hp : PL p) (hz : s 6 0 ≤ 12) (hB : B ≤ 384) (j i : Nat) (hi : i < cnM p (s 6 0) j) {x : Int32} (hx : x = nI (B + ofM j + i)) : ald m 114 512 x = some (nI (s j i)) := by
  have h1 := ofM_lt j (cnM_lt hi) i (cnM_len hp hz hi)
  rw [ald_x hx (by omega) (by decide), hR j i hi]
theorem M_put {p s : AS} {m : Mm} {B : Nat} (hR : RM p s m B) (hp : PL p) (hz : s 6 0 ≤ 12) (j i w : Nat) (hj : j < 17) (hi : i < lenM j) (h6 : j ≠ 6) : RM p (u3 s j i w) (up2 m 114 (B + ofM j + i) (nI w)) B ∧ FM B m (up2 m 114 (B + ofM j + i) (nI w)) := by
  have h1 := ofM_lt j hj i hi
  refine ⟨fun a b hb => ?_, fun b hb => up2_ne hb, fun b hb => up2_slot (by omega)⟩
  rw [u3_f (Ne.symm h6)] at hb
  by_cases h : a = j ∧ b = i
  · rw [h.1, h.2, up2_same, u3_same]
  · rw [u3_ne h, ← hR a b hb, up2_slot]
    intro q
    exact h (ofM_inj a (cnM_lt hb) b (cnM_len hp hz hb) j hj i hi (by omega))
theorem M_st {p s : AS} {m : Mm} {B : Nat} (hR : RM p s m B) (hp : PL p) (hz : s 6 0 ≤ 12) (hB : B ≤ 384) (j i w : Nat) (hj : j < 17) (hi : i < lenM j) (h6 : j ≠ 6) {x v : Int32} (hx : x = nI (B + ofM j + i)) (hv : v = nI w) : ∃ m', ast m 114 512 x v = some m' ∧ RM p (u3 s j i w) m' B ∧ FM B m m' := by
  have h1 := ofM_lt j hj i hi
  rw [hv]
  exact ⟨_, ast_x hx (by omega) (by decide), M_put hR hp hz j i w hj hi h6⟩
theorem pm_h {p : AS} {m : Mm} (hp : PL p) (h : PM p m) (i k : Nat) (hi : i < p 0 0) (hk : k < 4) {x : Int32} (hx : x = nI (4 * i + k)) : ald m 116 32 x = some (nI (p (1 + k) i)) := by
  have := hp.1
  rw [ald_x hx (by omega) (by decide), h.2.2.2.2.1 i hi k hk]
theorem pm_d {p : AS} {m : Mm} (hp : PL p) (h : PM p m) (i k : Nat) (hi : i < p 0 1) (hk : k < 6) {x : Int32} (hx : x = nI (6 * i + k)) : ald m 117 60 x = some (nI (p (5 + k) i)) := by
  have := hp.2.1
  rw [ald_x hx (by omega) (by decide), h.2.2.2.2.2.1 i hi k hk]
theorem pm_l {p : AS} {m : Mm} (hp : PL p) (h : PM p m) (i k : Nat) (hi : i < p 0 2) (hk : k < 3) {x : Int32} (hx : x = nI (3 * i + k)) : ald m 118 12 x = some (nI (p (11 + k) i)) := by
  have := hp.2.2.1
  rw [ald_x hx (by omega) (by decide), h.2.2.2.2.2.2.1 i hi k hk]
theorem pm_p {p : AS} {m : Mm} (hp : PL p) (h : PM p m) (i k : Nat) (hi : i < p 0 3) (hk : k < 2) {x : Int32} (hx : x = nI (2 * i + k)) : ald m 119 6 x = some (nI (p (14 + k) i)) := by
  have := hp.2.2.2
  rw [ald_x hx (by omega) (by decide), h.2.2.2.2.2.2.2.1 i hi k hk]
theorem pm_r {p : AS} {m : Mm} (h : PM p m) (k : Nat) (hk : k < 5) {x : Int32} (hx : x = nI k) : ald m 120 5 x = some (nI (p 16 k)) := by
  rw [ald_x hx hk (by decide), h.2.2.2.2.2.2.2.2 k hk]
theorem pm_1 {p : AS} {m : Mm} (h : PM p m) : m 113 2 = nI (p 0 0) := h.1
theorem pm_2 {p : AS} {m : Mm} (h : PM p m) : m 113 4 = nI (p 0 1) := h.2.1
theorem pm_3 {p : AS} {m : Mm} (h : PM p m) : m 113 6 = nI (p 0 2) := h.2.2.1
theorem pm_4 {p : AS} {m : Mm} (h : PM p m) : m 113 8 = nI (p 0 3) := h.2.2.2.1

/-! best: orders told at their minute, against orders told at once -/
def Rg (g : Nat) (X Y : AS) : Prop := ∀ a i, (a < 6 ∨ a = 13 ∨ a = 14 ∨ a = 15 ∨ (7 ≤ a ∧ a ≤ 12 ∧ i < g)) → X a i = Y a i
theorem Rg_u3 {g a i v : Nat} {X Y : AS} (h : Rg g X Y) : Rg g (u3 X a i v) (u3 Y a i v) := fun b j hb => by
  unfold u3
  split
  · rfl
  · exact h b j hb
theorem Rg_16 {g i v w : Nat} {X Y : AS} (h : Rg g X Y) : Rg g (u3 X 16 i v) (u3 Y 16 i w) := fun b j hb => by
  rw [u3_f (by omega), u3_f (by omega)]
  exact h b j hb
theorem Rg_rep {g : Nat} {X Y : AS} {f f' : Nat → AS → AS} (h : Rg g X Y) (hs : ∀ i X Y, Rg g X Y → Rg g (f i X) (f' i Y)) : ∀ n, Rg g (rep f n X) (rep f' n Y)
  | 0 => h
  | n + 1 => hs n _ _ (Rg_rep h hs n)
theorem Rg_repn {g : Nat} {X Y : AS} {f f' : Nat → AS → AS} (h : Rg g X Y) (hs : ∀ i X Y, i < g → Rg g X Y → Rg g (f i X) (f' i Y)) : ∀ n, n ≤ g → Rg g (rep f n X) (rep f' n Y)
  | 0, _ => h
  | n + 1, hn => hs n _ _ (by omega) (Rg_repn h hs n (by omega))
theorem Rg_hole {p : AS} {g : Nat} (i : Nat) (X Y : AS) (h : Rg g X Y) : Rg g (holeS p i X) (holeS p i Y) := by
  have e1 : ∀ j, X 1 j = Y 1 j := fun j => h 1 j (by omega)
  have e4 : ∀ j, X 4 j = Y 4 j := fun j => h 4 j (by omega)
  unfold holeS come rat hgt
  simp only [e1, e4]
  exact Rg_u3 h
theorem Rg_valv {p : AS} {g : Nat} (i : Nat) (X Y : AS) (h : Rg g X Y) : Rg g (valvS p i X) (valvS p i Y) := by
  have e1 : ∀ j, X 1 j = Y 1 j := fun j => h 1 j (by omega)
  have e2 : ∀ j, X 2 j = Y 2 j := fun j => h 2 j (by omega)
  unfold valvS
  simp only [e1, e2]
  split
  · exact Rg_u3 h
  · exact h
theorem Rg_ton {p : AS} {g d : Nat} (X Y : AS) (h : Rg g X Y) : Rg g (tonS p d X) (tonS p d Y) := by
  have e1 : ∀ j, X 1 j = Y 1 j := fun j => h 1 j (by omega)
  unfold tonS hgt
  simp only [e1]
  split
  · exact h
  split
  · exact h
  split
  · have := Rg_u3 (a := 1) (i := p 5 d) (v := Y 1 (p 5 d) - 1) h
    exact Rg_u3 this
  · have := Rg_u3 (a := 1) (i := p 6 d) (v := Y 1 (p 6 d) - 1) h
    exact Rg_u3 this
theorem Rg_door {p : AS} {g : Nat} (d : Nat) (X Y : AS) (h : Rg g X Y) : Rg g (doorS p d X) (doorS p d Y) := by
  have e3 : X 3 d = Y 3 d := h 3 d (by omega)
  unfold doorS
  rw [e3]
  split
  · exact Rg_rep h (fun _ => Rg_ton) _
  · exact h
theorem Rg_pump {p : AS} {g : Nat} (k : Nat) (X Y : AS) (h : Rg g X Y) : Rg g (pumpS p k X) (pumpS p k Y) := by
  have e1 : ∀ j, X 1 j = Y 1 j := fun j => h 1 j (by omega)
  have e5 : ∀ j, X 5 j = Y 5 j := fun j => h 5 j (by omega)
  unfold pumpS
  simp only [e1, e5]
  split
  · exact Rg_u3 h
  · exact h
theorem Rg_water {p : AS} {g : Nat} {X Y : AS} (h : Rg g X Y) : Rg g (waterS p X) (waterS p Y) :=
  Rg_rep (Rg_rep (Rg_rep (Rg_rep h Rg_hole _) Rg_valv _) Rg_door _) Rg_pump _
theorem Rg_see {p : AS} {g : Nat} {X Y : AS} (h : Rg g X Y) : Rg g (seeS p X) (seeS p Y) := by
  have e1 : X 1 = Y 1 := funext fun j => h 1 j (by omega)
  have e0 : X 0 0 = Y 0 0 := h 0 0 (by omega)
  unfold seeS
  rw [e1, e0]
  exact Rg_u3 (Rg_u3 h)
theorem Rg_plc {g k : Nat} {X Y : AS} (hk : k < g) (h : Rg g X Y) : Rg g (plcS k X) (plcS k Y) := by
  unfold plcS
  rw [h 8 k (by omega), h 9 k (by omega), h 10 k (by omega)]
  split
  · exact Rg_u3 (Rg_u3 h)
  split
  · exact Rg_u3 (Rg_u3 h)
  split
  · exact Rg_u3 (Rg_u3 h)
  split
  · exact Rg_u3 h
  · exact Rg_u3 h
theorem Rg_end {g : Nat} (k : Nat) (X Y : AS) (hk : k < g) (h : Rg g X Y) : Rg g (endS k X) (endS k Y) := by
  unfold endS
  rw [h 11 k (by omega), h 12 k (by omega), h 0 0 (by omega), h 15 0 (by omega)]
  split
  · exact Rg_u3 (Rg_u3 (Rg_plc hk h))
  · exact h
theorem Rg_way {g k : Nat} {X Y : AS} (hk : k < g) (h : Rg g X Y) : Rg g (wayS k X) (wayS k Y) := by
  unfold wayS
  rw [h 8 k (by omega), h 9 k (by omega)]
  split
  · exact Rg_u3 h
  split
  · exact Rg_u3 h
  · exact h
theorem Rg_beg {p : AS} {g : Nat} (k : Nat) (X Y : AS) (hk : k < g) (h : Rg g X Y) : Rg g (begS p k X) (begS p k Y) := by
  unfold begS canB
  rw [h 11 k (by omega), h 7 k (by omega), h 0 0 (by omega), h 15 0 (by omega), h 8 k (by omega), h 9 k (by omega), h 3 _ (by omega), h 4 _ (by omega), h 13 _ (by omega), h 14 _ (by omega)]
  split
  · split
    · exact Rg_u3 (Rg_u3 (Rg_u3 (Rg_way hk h)))
    · exact Rg_16 (Rg_u3 h)
  · exact h
theorem endS_o {s : AS} {k i : Nat} (h : i ≠ k) : endS k s 11 i = s 11 i := by
  unfold endS
  split
  · rw [u3_f (by decide), u3_i h, plcS_r (by decide) (by decide) (by decide) (by decide) (by decide) (by decide)]
  · rfl
theorem begS_o {p s : AS} {k i a : Nat} (h : i ≠ k) (ha : a = 11 ∨ a = 12) : begS p k s a i = s a i := by
  unfold begS
  split
  · split
    · rw [u3_f (show a ≠ 15 by omega)]
      rcases ha with rfl | rfl
      · rw [u3_f (by decide), u3_i h, wayS_r (by decide) (by decide)]
      · rw [u3_i h, u3_f (by decide), wayS_r (by decide) (by decide)]
    · rw [u3_f (show a ≠ 16 by omega)]
      rcases ha with rfl | rfl
      · rw [u3_i h]
      · rw [u3_f (by decide)]
  · rfl
theorem ends_r {s : AS} {a : Nat} (h : a = 0 ∨ a = 1 ∨ a = 6 ∨ a = 7 ∨ a = 8 ∨ a = 9 ∨ a = 10 ∨ a = 12 ∨ a = 16) : ∀ n, rep endS n s a = s a
  | 0 => rfl
  | n + 1 => by simp only [rep]; rw [endS_r h, ends_r h n]
theorem begs_r {p s : AS} {a : Nat} (h : a = 0 ∨ a = 1 ∨ a = 2 ∨ a = 3 ∨ a = 4 ∨ a = 5 ∨ a = 6 ∨ a = 7 ∨ a = 8 ∨ a = 9 ∨ a = 10) : ∀ n, rep (begS p) n s a = s a
  | 0 => rfl
  | n + 1 => by simp only [rep]; rw [begS_r h, begs_r h n]
theorem ends_o {s : AS} {i : Nat} : ∀ n, n ≤ i → rep endS n s 11 i = s 11 i
  | 0, _ => rfl
  | n + 1, h => by simp only [rep]; rw [endS_o (by omega), ends_o n (by omega)]
theorem begs_o {p s : AS} {i a : Nat} (ha : a = 11 ∨ a = 12) : ∀ n, n ≤ i → rep (begS p) n s a i = s a i
  | 0, _ => rfl
  | n + 1, h => by simp only [rep]; rw [begS_o (by omega) ha, begs_o ha n (by omega)]
/-- orders behind g do nothing -/
theorem Rg_ends {g k : Nat} {X Y : AS} (h : Rg g X Y) (hx : ∀ i, g ≤ i → i < k → X 11 i = 0) : ∀ n, g + n ≤ k → Rg g (rep endS (g + n) X) (rep endS g Y)
  | 0, _ => Rg_repn h Rg_end g (Nat.le_refl _)
  | n + 1, hn => by
    show Rg g (endS (g + n) (rep endS (g + n) X)) _
    have e : rep endS (g + n) X 11 (g + n) = 0 := by rw [ends_o _ (Nat.le_refl _)]; exact hx _ (by omega) (by omega)
    rw [endS, if_neg (by omega)]
    exact Rg_ends h hx n (by omega)
theorem Rg_begs {p : AS} {g k : Nat} {X Y : AS} (h : Rg g X Y) (hx : ∀ i, g ≤ i → i < k → X 7 i ≠ X 0 0) : ∀ n, g + n ≤ k → Rg g (rep (begS p) (g + n) X) (rep (begS p) g Y)
  | 0, _ => Rg_repn h Rg_beg g (Nat.le_refl _)
  | n + 1, hn => by
    show Rg g (begS p (g + n) (rep (begS p) (g + n) X)) _
    have e : rep (begS p) (g + n) X 7 (g + n) ≠ rep (begS p) (g + n) X 0 0 := by rw [begs_r (by omega), begs_r (by omega)]; exact hx _ (by omega) (by omega)
    rw [begS, if_neg (fun q => e q.2)]
    exact Rg_begs h hx n (by omega)
theorem Rg_min {p : AS} {g k : Nat} {X Y : AS} (h : Rg g X Y) (hk : X 6 0 = k) (hg : Y 6 0 = g) (hgk : g ≤ k) (hx : X 0 1 = 0 → ∀ i, g ≤ i → i < k → X 11 i = 0 ∧ X 7 i ≠ X 0 0) : Rg g (minS p X) (minS p Y) := by
  have e0 : X 0 = Y 0 := funext fun i => h 0 i (by omega)
  unfold minS
  rw [e0]
  split
  · rename_i q
    have hx' := hx (by rw [e0]; exact q)
    have h1 : Rg g (ordS p X) (ordS p Y) := by
      unfold ordS
      rw [hk, hg, show k = g + (k - g) by omega]
      refine Rg_begs (k := k) (Rg_ends (k := k) h (fun i q1 q2 => (hx' i q1 q2).1) _ (by omega)) (fun i q1 q2 => ?_) _ (by omega)
      rw [ends_r (by omega), ends_r (by omega)]
      exact (hx' i q1 q2).2
    exact Rg_see (Rg_u3 (Rg_water h1))
  · exact Rg_u3 h

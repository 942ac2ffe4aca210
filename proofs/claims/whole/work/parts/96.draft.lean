/-! text: the draft, line by line -/
theorem FRc.cg {m m' : Mm} {a i : Nat} {v : Int32} (h : FRc m m') (ha : a ≠ 1) : FRc (up2 m a i v) (up2 m' a i v) := ⟨fun b hb => by
  funext j
  by_cases w : b = a ∧ j = i
  · obtain ⟨rfl, rfl⟩ := w
    rw [up2_same, up2_same]
  · rw [up2_o w, up2_o w, h.1 b hb], fun i hi => by rw [up2_ne (Ne.symm ha), up2_ne (Ne.symm ha), h.2 i hi]⟩
theorem FRm.cg {m m' : Mm} {a i : Nat} {v : Int32} (h : FRm m m') : FRm (up2 m a i v) (up2 m' a i v) := ⟨fun b hb => by
  funext j
  by_cases w : b = a ∧ j = i
  · obtain ⟨rfl, rfl⟩ := w
    rw [up2_same, up2_same]
  · rw [up2_o w, up2_o w, h.1 b hb], fun j hj => by
  by_cases w : 113 = a ∧ j = i
  · obtain ⟨rfl, rfl⟩ := w
    rw [up2_same, up2_same]
  · rw [up2_o w, up2_o w, h.2 j hj]⟩
/-- what a line may touch -/
def FZc (D : Nat) (m m' : Mm) : Prop := (∀ b, b ≠ 1 → b ≠ 3 → (b < D ∨ D + 16 < b) → m' b = m b) ∧ ∀ i, i < 3 → m' 1 i = m 1 i
def FZm (m m' : Mm) : Prop := (∀ b, b ≠ 113 → (b < 121 ∨ 126 < b) → m' b = m b) ∧ ∀ i, i ≠ 11 → i ≠ 13 → i ≠ 15 → i ≠ 17 → (i < 23 ∨ 28 < i) → m' 113 i = m 113 i
theorem FZc.rf {D : Nat} {m : Mm} : FZc D m m := ⟨fun _ _ _ _ => rfl, fun _ _ => rfl⟩
theorem FZm.rf {m : Mm} : FZm m m := ⟨fun _ _ _ => rfl, fun _ _ _ _ _ _ => rfl⟩
theorem FZc.fr {D : Nat} {m m1 m2 : Mm} (h : FZc D m m1) (h2 : FRc m1 m2) : FZc D m m2 := ⟨fun b q1 q2 q3 => by rw [h2.1 b q1, h.1 b q1 q2 q3], fun i hi => by rw [h2.2 i (by omega), h.2 i hi]⟩
theorem FZm.fr {m m1 m2 : Mm} (h : FZm m m1) (h2 : FRm m1 m2) : FZm m m2 := ⟨fun b q1 q2 => by rw [h2.1 b q1, h.1 b q1 q2], fun i q1 q2 q3 q4 q5 => by rw [h2.2 i q5, h.2 i q1 q2 q3 q4 q5]⟩
theorem FZc.up {D : Nat} {m m1 : Mm} {a i : Nat} {v : Int32} (h : FZc D m m1) (ha : a = 3 ∨ (D ≤ a ∧ a ≤ D + 16)) (hD : isPl D) : FZc D m (up2 m1 a i v) := by
  have : 43 ≤ D := by rcases hD with rfl | rfl <;> decide
  exact ⟨fun b q1 q2 q3 => by rw [up2_ne (by omega), h.1 b q1 q2 q3], fun j hj => by rw [up2_ne (by omega), h.2 j hj]⟩
theorem FZm.up {m m1 : Mm} {a i : Nat} {v : Int32} (h : FZm m m1) (ha : 121 ≤ a ∧ a ≤ 126) : FZm m (up2 m1 a i v) := ⟨fun b q1 q2 => by rw [up2_ne (by omega), h.1 b q1 q2], fun j q1 q2 q3 q4 q5 => by rw [up2_ne (by omega), h.2 j q1 q2 q3 q4 q5]⟩
theorem FZm.up1 {m m1 : Mm} {i : Nat} {v : Int32} (h : FZm m m1) (ha : i = 11 ∨ i = 13 ∨ i = 15 ∨ i = 17) : FZm m (up2 m1 113 i v) := ⟨fun b q1 q2 => by rw [up2_ne q1, h.1 b q1 q2], fun j q1 q2 q3 q4 q5 => by rw [up2_slot (by omega), h.2 j q1 q2 q3 q4 q5]⟩
theorem FZc.tr {D : Nat} {m m1 m2 : Mm} (h : FZc D m m1) (h2 : FZc D m1 m2) : FZc D m m2 := ⟨fun b q1 q2 q3 => by rw [h2.1 b q1 q2 q3, h.1 b q1 q2 q3], fun i hi => by rw [h2.2 i hi, h.2 i hi]⟩
theorem FZm.tr {m m1 m2 : Mm} (h : FZm m m1) (h2 : FZm m1 m2) : FZm m m2 := ⟨fun b q1 q2 => by rw [h2.1 b q1 q2, h.1 b q1 q2], fun i q1 q2 q3 q4 q5 => by rw [h2.2 i q1 q2 q3 q4 q5, h.2 i q1 q2 q3 q4 q5]⟩
theorem SS_upc {n : Nat} {bs : Nat → Nat} {q : Nat} {mc mr : Mm} {a i : Nat} {v : Int32} (h : SSt n bs q mc mr) (ha : 2 < a) : SSt n bs q (up2 mc a i v) mr := SS_fr h (Nat.le_refl _) (fun i _ => by rw [up2_ne (by omega)]) (up2_ne (by omega)) (fun _ _ _ => rfl) rfl
theorem FA_upc {n : Nat} {bs : Nat → Nat} {mc mr : Mm} {a i : Nat} {v : Int32} (h : FAt n bs mc mr) (ha : 2 < a) : FAt n bs (up2 mc a i v) mr := FA_fr h (fun i _ => by rw [up2_ne (by omega)]) (up2_ne (by omega)) (fun _ _ _ => rfl)
theorem AT_upc {n : Nat} {bs : Nat → Nat} {q f k e : Nat} {mc mr : Mm} {a i : Nat} {v : Int32} (h : ATt n bs q f k e mc mr) (ha : 2 < a) : ATt n bs q f k e (up2 mc a i v) mr := AT_fr h (fun i _ => by rw [up2_ne (by omega)]) (up2_ne (by omega)) (fun _ _ _ => rfl) rfl
/-- the plan in draft, in both -/
def DRt (D : Nat) (p : AS) (mc mr : Mm) : Prop := PW p ∧ PC p mc D ∧ DM p mr ∧ ∀ r, r < 5 → mc 3 r = mr 126 r
theorem PC_set {p : AS} {m : Mm} {D j i v : Nat} (h : PC p m D) (hj : j ≠ 0) : PC (u3 p j i v) (up2 m (D + j) i (nI v)) D := fun a b hb => by
  have hc : cnP (u3 p j i v) a = cnP p a := by
    unfold cnP
    rw [u3_f (Ne.symm hj), u3_f (Ne.symm hj), u3_f (Ne.symm hj), u3_f (Ne.symm hj)]
  rw [hc] at hb
  by_cases w : a = j ∧ b = i
  · obtain ⟨rfl, rfl⟩ := w
    rw [up2_same, u3_same]
  · rw [u3_ne w, up2_o (by omega)]
    exact h a b hb
theorem PC_grow {p : AS} {m : Mm} {D c w : Nat} (h : PC p m D) (hn : ∀ j i, i < cnP (u3 p 0 c w) j → ¬ i < cnP p j → m (D + j) i = nI (p j i)) : PC (u3 p 0 c w) (up2 m D c (nI w)) D := fun a b hb => by
  by_cases e : a = 0 ∧ b = c
  · obtain ⟨rfl, rfl⟩ := e
    rw [u3_same]
    exact up2_same
  · rw [u3_ne e, up2_o (by omega)]
    by_cases q : b < cnP p a
    · exact h a b q
    · exact hn a b hb q
theorem cnP_new {p : AS} {c j i : Nat} (hc : c < 4) (h : i < cnP (u3 p 0 c (p 0 c + 1)) j) (h2 : ¬ i < cnP p j) : i = p 0 c ∧ ((c = 0 ∧ 1 ≤ j ∧ j ≤ 4) ∨ (c = 1 ∧ 5 ≤ j ∧ j ≤ 10) ∨ (c = 2 ∧ 11 ≤ j ∧ j ≤ 13) ∨ (c = 3 ∧ 14 ≤ j ∧ j ≤ 15)) := by
  have hj := cnP_lt h
  have hc' : c = 0 ∨ c = 1 ∨ c = 2 ∨ c = 3 := by omega
  have e0 : u3 p 0 c (p 0 c + 1) 0 0 = if c = 0 then p 0 0 + 1 else p 0 0 := by rcases hc' with rfl | rfl | rfl | rfl <;> rfl
  have e1 : u3 p 0 c (p 0 c + 1) 0 1 = if c = 1 then p 0 1 + 1 else p 0 1 := by rcases hc' with rfl | rfl | rfl | rfl <;> rfl
  have e2 : u3 p 0 c (p 0 c + 1) 0 2 = if c = 2 then p 0 2 + 1 else p 0 2 := by rcases hc' with rfl | rfl | rfl | rfl <;> rfl
  have e3 : u3 p 0 c (p 0 c + 1) 0 3 = if c = 3 then p 0 3 + 1 else p 0 3 := by rcases hc' with rfl | rfl | rfl | rfl <;> rfl
  unfold cnP at h h2
  rw [e0, e1, e2, e3] at h
  have : j = 0 ∨ j = 1 ∨ j = 2 ∨ j = 3 ∨ j = 4 ∨ j = 5 ∨ j = 6 ∨ j = 7 ∨ j = 8 ∨ j = 9 ∨ j = 10 ∨ j = 11 ∨ j = 12 ∨ j = 13 ∨ j = 14 ∨ j = 15 ∨ j = 16 := by omega
  rcases hc' with rfl | rfl | rfl | rfl <;> rcases this with rfl | rfl | rfl | rfl | rfl | rfl | rfl | rfl | rfl | rfl | rfl | rfl | rfl | rfl | rfl | rfl | rfl <;> simp at h h2 ⊢ <;> omega
theorem PC_FRc {p : AS} {m m' : Mm} {D : Nat} (h : PC p m D) (hD : isPl D) (hf : FRc m m') : PC p m' D := PC_fr h (fun j hj => hf.1 _ (by rcases hD with rfl | rfl <;> omega))
theorem DM_FRm {p : AS} {m m' : Mm} (h : DM p m) (hf : FRm m m') : DM p m' := by
  unfold DM at h ⊢
  rw [hf.2 11 (by omega), hf.2 13 (by omega), hf.2 15 (by omega), hf.2 17 (by omega), hf.1 121 (by decide), hf.1 122 (by decide), hf.1 123 (by decide), hf.1 124 (by decide), hf.1 125 (by decide)]
  exact h
/-- a new hold -/
def adH (p : AS) (v1 v2 v3 v4 : Nat) : AS := u3 (u3 (u3 (u3 (u3 p 1 (p 0 0) v1) 2 (p 0 0) v2) 3 (p 0 0) v3) 4 (p 0 0) v4) 0 0 ((p 0 0) + 1)
theorem adH_o {p : AS} {v1 v2 v3 v4 j i : Nat} (h : ¬ (j = 0 ∧ i = 0)) (h2 : (1 ≤ j ∧ j ≤ 4) → i ≠ p 0 0) : adH p v1 v2 v3 v4 j i = p j i := by
  unfold adH
  rw [u3_ne h, u3_ne (by omega), u3_ne (by omega), u3_ne (by omega), u3_ne (by omega)]
theorem adH_1 {p : AS} {v1 v2 v3 v4 : Nat} : adH p v1 v2 v3 v4 1 (p 0 0) = v1 := by unfold adH; rw [u3_f (by decide), u3_f (by decide), u3_f (by decide), u3_f (by decide), u3_same]
theorem adH_2 {p : AS} {v1 v2 v3 v4 : Nat} : adH p v1 v2 v3 v4 2 (p 0 0) = v2 := by unfold adH; rw [u3_f (by decide), u3_f (by decide), u3_f (by decide), u3_same]
theorem adH_3 {p : AS} {v1 v2 v3 v4 : Nat} : adH p v1 v2 v3 v4 3 (p 0 0) = v3 := by unfold adH; rw [u3_f (by decide), u3_f (by decide), u3_same]
theorem adH_4 {p : AS} {v1 v2 v3 v4 : Nat} : adH p v1 v2 v3 v4 4 (p 0 0) = v4 := by unfold adH; rw [u3_f (by decide), u3_same]
theorem adH_C {p : AS} {m : Mm} {D v1 v2 v3 v4 : Nat} (h : PC p m D) : PC (adH p v1 v2 v3 v4) (up2 (up2 (up2 (up2 (up2 m (D + 1) (p 0 0) (nI v1)) (D + 2) (p 0 0) (nI v2)) (D + 3) (p 0 0) (nI v3)) (D + 4) (p 0 0) (nI v4)) D 0 (nI ((p 0 0) + 1))) D := by
  unfold adH
  refine PC_grow (PC_set (PC_set (PC_set (PC_set h (by decide)) (by decide)) (by decide)) (by decide)) (fun j i hi h2 => ?_)
  have e0 : (u3 (u3 (u3 (u3 p 1 (p 0 0) v1) 2 (p 0 0) v2) 3 (p 0 0) v3) 4 (p 0 0) v4) 0 0 = p 0 0 := by rw [u3_f (by decide), u3_f (by decide), u3_f (by decide), u3_f (by decide)]
  have h3 := cnP_new (p := (u3 (u3 (u3 (u3 p 1 (p 0 0) v1) 2 (p 0 0) v2) 3 (p 0 0) v3) 4 (p 0 0) v4)) (c := 0) (by decide) (by rw [e0]; exact hi) h2
  rw [e0] at h3
  obtain ⟨rfl, h3⟩ := h3
  have hj : j = 1 ∨ j = 2 ∨ j = 3 ∨ j = 4 := by omega
  rcases hj with rfl | rfl | rfl | rfl
  · rw [up2_ne (by omega), up2_ne (by omega), up2_ne (by omega), up2_same, u3_f (by decide), u3_f (by decide), u3_f (by decide), u3_same]
  · rw [up2_ne (by omega), up2_ne (by omega), up2_same, u3_f (by decide), u3_f (by decide), u3_same]
  · rw [up2_ne (by omega), up2_same, u3_f (by decide), u3_same]
  · rw [up2_same, u3_same]
theorem adH_M {p : AS} {m : Mm} {v1 v2 v3 v4 : Nat} (h : DM p m) : DM (adH p v1 v2 v3 v4) (up2 (up2 (up2 (up2 (up2 m 121 (4 * (p 0 0)) (nI v1)) 121 (4 * (p 0 0) + 1) (nI v2)) 121 (4 * (p 0 0) + 2) (nI v3)) 121 (4 * (p 0 0) + 3) (nI v4)) 113 11 (nI ((p 0 0) + 1))) := by
  obtain ⟨d1, d2, d3, d4, d5, d6, d7, d8, d9⟩ := h
  have c0 : adH p v1 v2 v3 v4 0 0 = p 0 0 + 1 := u3_same
  have cc : ∀ i, i ≠ 0 → adH p v1 v2 v3 v4 0 i = p 0 i := fun i hi => adH_o (by omega) (by omega)
  have ho : ∀ j i, 1 ≤ j → (j < 1 ∨ 4 < j) → adH p v1 v2 v3 v4 j i = p j i := fun j i hj q => adH_o (by omega) (by omega)
  generalize hm5 : up2 (up2 (up2 (up2 (up2 m 121 (4 * (p 0 0)) (nI v1)) 121 (4 * (p 0 0) + 1) (nI v2)) 121 (4 * (p 0 0) + 2) (nI v3)) 121 (4 * (p 0 0) + 3) (nI v4)) 113 11 (nI ((p 0 0) + 1)) = m5
  have g : ∀ b, b ≠ 113 → b ≠ 121 → m5 b = m b := fun b q1 q2 => by rw [← hm5, up2_ne q1, up2_ne q2, up2_ne q2, up2_ne q2, up2_ne q2]
  have g1 : ∀ i, i ≠ 11 → m5 113 i = m 113 i := fun i q => by rw [← hm5, up2_slot q, up2_ne (by decide), up2_ne (by decide), up2_ne (by decide), up2_ne (by decide)]
  refine ⟨by rw [c0, ← hm5, up2_same], by rw [cc 1 (by decide), g1 13 (by decide), d2], by rw [cc 2 (by decide), g1 15 (by decide), d3], by rw [cc 3 (by decide), g1 17 (by decide), d4], fun h hh k hk => ?_, fun h hh k hk => ?_, fun h hh k hk => ?_, fun h hh k hk => ?_, fun k hk => ?_⟩
  · rw [c0] at hh
    rw [← hm5, up2_ne (by decide)]
    by_cases e : h = p 0 0
    · subst e
      have hkc : k = 0 ∨ k = 1 ∨ k = 2 ∨ k = 3 := by omega
      rcases hkc with rfl | rfl | rfl | rfl
      · rw [show 1 + 0 = 1 from rfl, adH_1, up2_slot (by omega), up2_slot (by omega), up2_slot (by omega), show 4 * p 0 0 + 0 = 4 * p 0 0 from rfl, up2_same]
      · rw [show 1 + 1 = 2 from rfl, adH_2, up2_slot (by omega), up2_slot (by omega), up2_same]
      · rw [show 1 + 2 = 3 from rfl, adH_3, up2_slot (by omega), up2_same]
      · rw [show 1 + 3 = 4 from rfl, adH_4, up2_same]
    · rw [up2_slot (by omega), up2_slot (by omega), up2_slot (by omega), up2_slot (by omega), adH_o (by omega) (fun _ => e)]
      exact d5 h (by omega) k hk
  · rw [cc 1 (by decide)] at hh
    rw [ho _ _ (by omega) (by omega), g 122 (by decide) (by decide)]
    exact d6 h hh k hk
  · rw [cc 2 (by decide)] at hh
    rw [ho _ _ (by omega) (by omega), g 123 (by decide) (by decide)]
    exact d7 h hh k hk
  · rw [cc 3 (by decide)] at hh
    rw [ho _ _ (by omega) (by omega), g 124 (by decide) (by decide)]
    exact d8 h hh k hk
  · rw [ho _ _ (by omega) (by omega), g 125 (by decide) (by decide)]
    exact d9 k hk
theorem adH_W {p : AS} {v1 v2 v3 v4 : Nat} (hp : PW p) (hh : p 0 0 < 8) (b1 : 1 ≤ v1 ∧ v1 < 100) (b2 : v2 < 3) (b3 : v3 < 19) (b4 : v4 < v1 + 1) : PW (adH p v1 v2 v3 v4) := by
  obtain ⟨⟨l1, l2, l3, l4⟩, w1, w2, w3, w4, w5⟩ := hp
  have c0 : adH p v1 v2 v3 v4 0 0 = p 0 0 + 1 := u3_same
  have cc : ∀ i, i ≠ 0 → adH p v1 v2 v3 v4 0 i = p 0 i := fun i hi => adH_o (by omega) (by omega)
  have ho : ∀ j i, 1 ≤ j → (j < 1 ∨ 4 < j) → adH p v1 v2 v3 v4 j i = p j i := fun j i hj q => adH_o (by omega) (by omega)
  refine ⟨⟨by rw [c0]; omega, by rw [cc 1 (by decide)]; omega, by rw [cc 2 (by decide)]; omega, by rw [cc 3 (by decide)]; omega⟩, fun h hh2 => ?_, fun h hh2 => ?_, fun h hh2 => ?_, fun h hh2 => ?_, ?_⟩
  · rw [c0] at hh2
    by_cases e : h = p 0 0
    · subst e
      rw [adH_1, adH_2, adH_3, adH_4]
      omega
    · rw [adH_o (j := 1) (by omega) (fun _ => e), adH_o (j := 2) (by omega) (fun _ => e), adH_o (j := 3) (by omega) (fun _ => e), adH_o (j := 4) (by omega) (fun _ => e)]
      exact w1 h (by omega)
  · rw [cc 1 (by decide)] at hh2
    rw [c0, ho 5 h (by decide) (by decide), ho 6 h (by decide) (by decide), ho 7 h (by decide) (by decide), ho 8 h (by decide) (by decide), ho 9 h (by decide) (by decide), ho 10 h (by decide) (by decide)]
    have := w2 h hh2
    omega
  · rw [cc 2 (by decide)] at hh2
    rw [c0, ho 11 h (by decide) (by decide), ho 12 h (by decide) (by decide), ho 13 h (by decide) (by decide)]
    have := w3 h hh2
    omega
  · rw [cc 3 (by decide)] at hh2
    rw [c0, ho 14 h (by decide) (by decide), ho 15 h (by decide) (by decide)]
    have := w4 h hh2
    omega
  · rw [ho 16 0 (by decide) (by decide), ho 16 1 (by decide) (by decide), ho 16 2 (by decide) (by decide), ho 16 3 (by decide) (by decide), ho 16 4 (by decide) (by decide)]
    exact w5
def adD (p : AS) (v1 v2 v3 v4 v5 v6 : Nat) : AS := u3 (u3 (u3 (u3 (u3 (u3 (u3 p 5 (p 0 1) v1) 6 (p 0 1) v2) 7 (p 0 1) v3) 8 (p 0 1) v4) 9 (p 0 1) v5) 10 (p 0 1) v6) 0 1 ((p 0 1) + 1)
theorem adD_o {p : AS} {v1 v2 v3 v4 v5 v6 j i : Nat} (h : ¬ (j = 0 ∧ i = 1)) (h2 : (5 ≤ j ∧ j ≤ 10) → i ≠ p 0 1) : adD p v1 v2 v3 v4 v5 v6 j i = p j i := by
  unfold adD
  rw [u3_ne h, u3_ne (by omega), u3_ne (by omega), u3_ne (by omega), u3_ne (by omega), u3_ne (by omega), u3_ne (by omega)]
theorem adD_1 {p : AS} {v1 v2 v3 v4 v5 v6 : Nat} : adD p v1 v2 v3 v4 v5 v6 5 (p 0 1) = v1 := by unfold adD; rw [u3_f (by decide), u3_f (by decide), u3_f (by decide), u3_f (by decide), u3_f (by decide), u3_f (by decide), u3_same]
theorem adD_2 {p : AS} {v1 v2 v3 v4 v5 v6 : Nat} : adD p v1 v2 v3 v4 v5 v6 6 (p 0 1) = v2 := by unfold adD; rw [u3_f (by decide), u3_f (by decide), u3_f (by decide), u3_f (by decide), u3_f (by decide), u3_same]
theorem adD_3 {p : AS} {v1 v2 v3 v4 v5 v6 : Nat} : adD p v1 v2 v3 v4 v5 v6 7 (p 0 1) = v3 := by unfold adD; rw [u3_f (by decide), u3_f (by decide), u3_f (by decide), u3_f (by decide), u3_same]
theorem adD_4 {p : AS} {v1 v2 v3 v4 v5 v6 : Nat} : adD p v1 v2 v3 v4 v5 v6 8 (p 0 1) = v4 := by unfold adD; rw [u3_f (by decide), u3_f (by decide), u3_f (by decide), u3_same]
theorem adD_5 {p : AS} {v1 v2 v3 v4 v5 v6 : Nat} : adD p v1 v2 v3 v4 v5 v6 9 (p 0 1) = v5 := by unfold adD; rw [u3_f (by decide), u3_f (by decide), u3_same]
theorem adD_6 {p : AS} {v1 v2 v3 v4 v5 v6 : Nat} : adD p v1 v2 v3 v4 v5 v6 10 (p 0 1) = v6 := by unfold adD; rw [u3_f (by decide), u3_same]
theorem adD_C {p : AS} {m : Mm} {D v1 v2 v3 v4 v5 v6 : Nat} (h : PC p m D) : PC (adD p v1 v2 v3 v4 v5 v6) (up2 (up2 (up2 (up2 (up2 (up2 (up2 m (D + 5) (p 0 1) (nI v1)) (D + 6) (p 0 1) (nI v2)) (D + 7) (p 0 1) (nI v3)) (D + 8) (p 0 1) (nI v4)) (D + 9) (p 0 1) (nI v5)) (D + 10) (p 0 1) (nI v6)) D 1 (nI ((p 0 1) + 1))) D := by
  unfold adD
  refine PC_grow (PC_set (PC_set (PC_set (PC_set (PC_set (PC_set h (by decide)) (by decide)) (by decide)) (by decide)) (by decide)) (by decide)) (fun j i hi h2 => ?_)
  have e0 : (u3 (u3 (u3 (u3 (u3 (u3 p 5 (p 0 1) v1) 6 (p 0 1) v2) 7 (p 0 1) v3) 8 (p 0 1) v4) 9 (p 0 1) v5) 10 (p 0 1) v6) 0 1 = p 0 1 := by rw [u3_f (by decide), u3_f (by decide), u3_f (by decide), u3_f (by decide), u3_f (by decide), u3_f (by decide)]
  have h3 := cnP_new (p := (u3 (u3 (u3 (u3 (u3 (u3 p 5 (p 0 1) v1) 6 (p 0 1) v2) 7 (p 0 1) v3) 8 (p 0 1) v4) 9 (p 0 1) v5) 10 (p 0 1) v6)) (c := 1) (by decide) (by rw [e0]; exact hi) h2
  rw [e0] at h3
  obtain ⟨rfl, h3⟩ := h3
  have hj : j = 5 ∨ j = 6 ∨ j = 7 ∨ j = 8 ∨ j = 9 ∨ j = 10 := by omega
  rcases hj with rfl | rfl | rfl | rfl | rfl | rfl
  · rw [up2_ne (by omega), up2_ne (by omega), up2_ne (by omega), up2_ne (by omega), up2_ne (by omega), up2_same, u3_f (by decide), u3_f (by decide), u3_f (by decide), u3_f (by decide), u3_f (by decide), u3_same]
  · rw [up2_ne (by omega), up2_ne (by omega), up2_ne (by omega), up2_ne (by omega), up2_same, u3_f (by decide), u3_f (by decide), u3_f (by decide), u3_f (by decide), u3_same]
  · rw [up2_ne (by omega), up2_ne (by omega), up2_ne (by omega), up2_same, u3_f (by decide), u3_f (by decide), u3_f (by decide), u3_same]
  · rw [up2_ne (by omega), up2_ne (by omega), up2_same, u3_f (by decide), u3_f (by decide), u3_same]
  · rw [up2_ne (by omega), up2_same, u3_f (by decide), u3_same]
  · rw [up2_same, u3_same]
theorem adD_M {p : AS} {m : Mm} {v1 v2 v3 v4 v5 v6 : Nat} (h : DM p m) : DM (adD p v1 v2 v3 v4 v5 v6) (up2 (up2 (up2 (up2 (up2 (up2 (up2 m 122 (6 * (p 0 1)) (nI v1)) 122 (6 * (p 0 1) + 1) (nI v2)) 122 (6 * (p 0 1) + 2) (nI v3)) 122 (6 * (p 0 1) + 3) (nI v4)) 122 (6 * (p 0 1) + 4) (nI v5)) 122 (6 * (p 0 1) + 5) (nI v6)) 113 13 (nI ((p 0 1) + 1))) := by
  obtain ⟨d1, d2, d3, d4, d5, d6, d7, d8, d9⟩ := h
  have c0 : adD p v1 v2 v3 v4 v5 v6 0 1 = p 0 1 + 1 := u3_same
  have cc : ∀ i, i ≠ 1 → adD p v1 v2 v3 v4 v5 v6 0 i = p 0 i := fun i hi => adD_o (by omega) (by omega)
  have ho : ∀ j i, 1 ≤ j → (j < 5 ∨ 10 < j) → adD p v1 v2 v3 v4 v5 v6 j i = p j i := fun j i hj q => adD_o (by omega) (by omega)
  generalize hm5 : up2 (up2 (up2 (up2 (up2 (up2 (up2 m 122 (6 * (p 0 1)) (nI v1)) 122 (6 * (p 0 1) + 1) (nI v2)) 122 (6 * (p 0 1) + 2) (nI v3)) 122 (6 * (p 0 1) + 3) (nI v4)) 122 (6 * (p 0 1) + 4) (nI v5)) 122 (6 * (p 0 1) + 5) (nI v6)) 113 13 (nI ((p 0 1) + 1)) = m5
  have g : ∀ b, b ≠ 113 → b ≠ 122 → m5 b = m b := fun b q1 q2 => by rw [← hm5, up2_ne q1, up2_ne q2, up2_ne q2, up2_ne q2, up2_ne q2, up2_ne q2, up2_ne q2]
  have g1 : ∀ i, i ≠ 13 → m5 113 i = m 113 i := fun i q => by rw [← hm5, up2_slot q, up2_ne (by decide), up2_ne (by decide), up2_ne (by decide), up2_ne (by decide), up2_ne (by decide), up2_ne (by decide)]
  refine ⟨by rw [cc 0 (by decide), g1 11 (by decide), d1], by rw [c0, ← hm5, up2_same], by rw [cc 2 (by decide), g1 15 (by decide), d3], by rw [cc 3 (by decide), g1 17 (by decide), d4], fun h hh k hk => ?_, fun h hh k hk => ?_, fun h hh k hk => ?_, fun h hh k hk => ?_, fun k hk => ?_⟩
  · rw [cc 0 (by decide)] at hh
    rw [ho _ _ (by omega) (by omega), g 121 (by decide) (by decide)]
    exact d5 h hh k hk
  · rw [c0] at hh
    rw [← hm5, up2_ne (by decide)]
    by_cases e : h = p 0 1
    · subst e
      have hkc : k = 0 ∨ k = 1 ∨ k = 2 ∨ k = 3 ∨ k = 4 ∨ k = 5 := by omega
      rcases hkc with rfl | rfl | rfl | rfl | rfl | rfl
      · rw [show 5 + 0 = 5 from rfl, adD_1, up2_slot (by omega), up2_slot (by omega), up2_slot (by omega), up2_slot (by omega), up2_slot (by omega), show 6 * p 0 1 + 0 = 6 * p 0 1 from rfl, up2_same]
      · rw [show 5 + 1 = 6 from rfl, adD_2, up2_slot (by omega), up2_slot (by omega), up2_slot (by omega), up2_slot (by omega), up2_same]
      · rw [show 5 + 2 = 7 from rfl, adD_3, up2_slot (by omega), up2_slot (by omega), up2_slot (by omega), up2_same]
      · rw [show 5 + 3 = 8 from rfl, adD_4, up2_slot (by omega), up2_slot (by omega), up2_same]
      · rw [show 5 + 4 = 9 from rfl, adD_5, up2_slot (by omega), up2_same]
      · rw [show 5 + 5 = 10 from rfl, adD_6, up2_same]
    · rw [up2_slot (by omega), up2_slot (by omega), up2_slot (by omega), up2_slot (by omega), up2_slot (by omega), up2_slot (by omega), adD_o (by omega) (fun _ => e)]
      exact d6 h (by omega) k hk
  · rw [cc 2 (by decide)] at hh
    rw [ho _ _ (by omega) (by omega), g 123 (by decide) (by decide)]
    exact d7 h hh k hk
  · rw [cc 3 (by decide)] at hh
    rw [ho _ _ (by omega) (by omega), g 124 (by decide) (by decide)]
    exact d8 h hh k hk
  · rw [ho _ _ (by omega) (by omega), g 125 (by decide) (by decide)]
    exact d9 k hk
theorem adD_W {p : AS} {v1 v2 v3 v4 v5 v6 : Nat} (hp : PW p) (hh : p 0 1 < 10) (b1 : v1 < p 0 0) (b2 : v2 < p 0 0) (b0 : v1 ≠ v2) (b3 : v3 < 13) (b4 : 1 ≤ v4 ∧ v4 < 10) (b5 : 1 ≤ v5 ∧ v5 < 10) (b6 : v6 < 2) : PW (adD p v1 v2 v3 v4 v5 v6) := by
  obtain ⟨⟨l1, l2, l3, l4⟩, w1, w2, w3, w4, w5⟩ := hp
  have c0 : adD p v1 v2 v3 v4 v5 v6 0 1 = p 0 1 + 1 := u3_same
  have cc : ∀ i, i ≠ 1 → adD p v1 v2 v3 v4 v5 v6 0 i = p 0 i := fun i hi => adD_o (by omega) (by omega)
  have ho : ∀ j i, 1 ≤ j → (j < 5 ∨ 10 < j) → adD p v1 v2 v3 v4 v5 v6 j i = p j i := fun j i hj q => adD_o (by omega) (by omega)
  refine ⟨⟨by rw [cc 0 (by decide)]; omega, by rw [c0]; omega, by rw [cc 2 (by decide)]; omega, by rw [cc 3 (by decide)]; omega⟩, fun h hh2 => ?_, fun h hh2 => ?_, fun h hh2 => ?_, fun h hh2 => ?_, ?_⟩
  · rw [cc 0 (by decide)] at hh2
    rw [ho 1 h (by decide) (by decide), ho 2 h (by decide) (by decide), ho 3 h (by decide) (by decide), ho 4 h (by decide) (by decide)]
    have := w1 h hh2
    omega
  · rw [c0] at hh2
    by_cases e : h = p 0 1
    · subst e
      rw [cc 0 (by decide), adD_1, adD_2, adD_3, adD_4, adD_5, adD_6]
      omega
    · rw [cc 0 (by decide), adD_o (j := 5) (by omega) (fun _ => e), adD_o (j := 6) (by omega) (fun _ => e), adD_o (j := 7) (by omega) (fun _ => e), adD_o (j := 8) (by omega) (fun _ => e), adD_o (j := 9) (by omega) (fun _ => e), adD_o (j := 10) (by omega) (fun _ => e)]
      exact w2 h (by omega)
  · rw [cc 2 (by decide)] at hh2
    rw [cc 0 (by decide), ho 11 h (by decide) (by decide), ho 12 h (by decide) (by decide), ho 13 h (by decide) (by decide)]
    have := w3 h hh2
    omega
  · rw [cc 3 (by decide)] at hh2
    rw [cc 0 (by decide), ho 14 h (by decide) (by decide), ho 15 h (by decide) (by decide)]
    have := w4 h hh2
    omega
  · rw [ho 16 0 (by decide) (by decide), ho 16 1 (by decide) (by decide), ho 16 2 (by decide) (by decide), ho 16 3 (by decide) (by decide), ho 16 4 (by decide) (by decide)]
    exact w5
def adL (p : AS) (v1 v2 v3 : Nat) : AS := u3 (u3 (u3 (u3 p 11 (p 0 2) v1) 12 (p 0 2) v2) 13 (p 0 2) v3) 0 2 ((p 0 2) + 1)
theorem adL_o {p : AS} {v1 v2 v3 j i : Nat} (h : ¬ (j = 0 ∧ i = 2)) (h2 : (11 ≤ j ∧ j ≤ 13) → i ≠ p 0 2) : adL p v1 v2 v3 j i = p j i := by
  unfold adL
  rw [u3_ne h, u3_ne (by omega), u3_ne (by omega), u3_ne (by omega)]
theorem adL_1 {p : AS} {v1 v2 v3 : Nat} : adL p v1 v2 v3 11 (p 0 2) = v1 := by unfold adL; rw [u3_f (by decide), u3_f (by decide), u3_f (by decide), u3_same]
theorem adL_2 {p : AS} {v1 v2 v3 : Nat} : adL p v1 v2 v3 12 (p 0 2) = v2 := by unfold adL; rw [u3_f (by decide), u3_f (by decide), u3_same]
theorem adL_3 {p : AS} {v1 v2 v3 : Nat} : adL p v1 v2 v3 13 (p 0 2) = v3 := by unfold adL; rw [u3_f (by decide), u3_same]
theorem adL_C {p : AS} {m : Mm} {D v1 v2 v3 : Nat} (h : PC p m D) : PC (adL p v1 v2 v3) (up2 (up2 (up2 (up2 m (D + 11) (p 0 2) (nI v1)) (D + 12) (p 0 2) (nI v2)) (D + 13) (p 0 2) (nI v3)) D 2 (nI ((p 0 2) + 1))) D := by
  unfold adL
  refine PC_grow (PC_set (PC_set (PC_set h (by decide)) (by decide)) (by decide)) (fun j i hi h2 => ?_)
  have e0 : (u3 (u3 (u3 p 11 (p 0 2) v1) 12 (p 0 2) v2) 13 (p 0 2) v3) 0 2 = p 0 2 := by rw [u3_f (by decide), u3_f (by decide), u3_f (by decide)]
  have h3 := cnP_new (p := (u3 (u3 (u3 p 11 (p 0 2) v1) 12 (p 0 2) v2) 13 (p 0 2) v3)) (c := 2) (by decide) (by rw [e0]; exact hi) h2
  rw [e0] at h3
  obtain ⟨rfl, h3⟩ := h3
  have hj : j = 11 ∨ j = 12 ∨ j = 13 := by omega
  rcases hj with rfl | rfl | rfl
  · rw [up2_ne (by omega), up2_ne (by omega), up2_same, u3_f (by decide), u3_f (by decide), u3_same]
  · rw [up2_ne (by omega), up2_same, u3_f (by decide), u3_same]
  · rw [up2_same, u3_same]
theorem adL_M {p : AS} {m : Mm} {v1 v2 v3 : Nat} (h : DM p m) : DM (adL p v1 v2 v3) (up2 (up2 (up2 (up2 m 123 (3 * (p 0 2)) (nI v1)) 123 (3 * (p 0 2) + 1) (nI v2)) 123 (3 * (p 0 2) + 2) (nI v3)) 113 15 (nI ((p 0 2) + 1))) := by
  obtain ⟨d1, d2, d3, d4, d5, d6, d7, d8, d9⟩ := h
  have c0 : adL p v1 v2 v3 0 2 = p 0 2 + 1 := u3_same
  have cc : ∀ i, i ≠ 2 → adL p v1 v2 v3 0 i = p 0 i := fun i hi => adL_o (by omega) (by omega)
  have ho : ∀ j i, 1 ≤ j → (j < 11 ∨ 13 < j) → adL p v1 v2 v3 j i = p j i := fun j i hj q => adL_o (by omega) (by omega)
  generalize hm5 : up2 (up2 (up2 (up2 m 123 (3 * (p 0 2)) (nI v1)) 123 (3 * (p 0 2) + 1) (nI v2)) 123 (3 * (p 0 2) + 2) (nI v3)) 113 15 (nI ((p 0 2) + 1)) = m5
  have g : ∀ b, b ≠ 113 → b ≠ 123 → m5 b = m b := fun b q1 q2 => by rw [← hm5, up2_ne q1, up2_ne q2, up2_ne q2, up2_ne q2]
  have g1 : ∀ i, i ≠ 15 → m5 113 i = m 113 i := fun i q => by rw [← hm5, up2_slot q, up2_ne (by decide), up2_ne (by decide), up2_ne (by decide)]
  refine ⟨by rw [cc 0 (by decide), g1 11 (by decide), d1], by rw [cc 1 (by decide), g1 13 (by decide), d2], by rw [c0, ← hm5, up2_same], by rw [cc 3 (by decide), g1 17 (by decide), d4], fun h hh k hk => ?_, fun h hh k hk => ?_, fun h hh k hk => ?_, fun h hh k hk => ?_, fun k hk => ?_⟩
  · rw [cc 0 (by decide)] at hh
    rw [ho _ _ (by omega) (by omega), g 121 (by decide) (by decide)]
    exact d5 h hh k hk
  · rw [cc 1 (by decide)] at hh
    rw [ho _ _ (by omega) (by omega), g 122 (by decide) (by decide)]
    exact d6 h hh k hk
  · rw [c0] at hh
    rw [← hm5, up2_ne (by decide)]
    by_cases e : h = p 0 2
    · subst e
      have hkc : k = 0 ∨ k = 1 ∨ k = 2 := by omega
      rcases hkc with rfl | rfl | rfl
      · rw [show 11 + 0 = 11 from rfl, adL_1, up2_slot (by omega), up2_slot (by omega), show 3 * p 0 2 + 0 = 3 * p 0 2 from rfl, up2_same]
      · rw [show 11 + 1 = 12 from rfl, adL_2, up2_slot (by omega), up2_same]
      · rw [show 11 + 2 = 13 from rfl, adL_3, up2_same]
    · rw [up2_slot (by omega), up2_slot (by omega), up2_slot (by omega), adL_o (by omega) (fun _ => e)]
      exact d7 h (by omega) k hk
  · rw [cc 3 (by decide)] at hh
    rw [ho _ _ (by omega) (by omega), g 124 (by decide) (by decide)]
    exact d8 h hh k hk
  · rw [ho _ _ (by omega) (by omega), g 125 (by decide) (by decide)]
    exact d9 k hk
theorem adL_W {p : AS} {v1 v2 v3 : Nat} (hp : PW p) (hh : p 0 2 < 4) (b1 : v1 < p 0 0) (b2 : 1 ≤ v2 ∧ v2 < 21) (b3 : 1 ≤ v3 ∧ v3 < 21) : PW (adL p v1 v2 v3) := by
  obtain ⟨⟨l1, l2, l3, l4⟩, w1, w2, w3, w4, w5⟩ := hp
  have c0 : adL p v1 v2 v3 0 2 = p 0 2 + 1 := u3_same
  have cc : ∀ i, i ≠ 2 → adL p v1 v2 v3 0 i = p 0 i := fun i hi => adL_o (by omega) (by omega)
  have ho : ∀ j i, 1 ≤ j → (j < 11 ∨ 13 < j) → adL p v1 v2 v3 j i = p j i := fun j i hj q => adL_o (by omega) (by omega)
  refine ⟨⟨by rw [cc 0 (by decide)]; omega, by rw [cc 1 (by decide)]; omega, by rw [c0]; omega, by rw [cc 3 (by decide)]; omega⟩, fun h hh2 => ?_, fun h hh2 => ?_, fun h hh2 => ?_, fun h hh2 => ?_, ?_⟩
  · rw [cc 0 (by decide)] at hh2
    rw [ho 1 h (by decide) (by decide), ho 2 h (by decide) (by decide), ho 3 h (by decide) (by decide), ho 4 h (by decide) (by decide)]
    have := w1 h hh2
    omega
  · rw [cc 1 (by decide)] at hh2
    rw [cc 0 (by decide), ho 5 h (by decide) (by decide), ho 6 h (by decide) (by decide), ho 7 h (by decide) (by decide), ho 8 h (by decide) (by decide), ho 9 h (by decide) (by decide), ho 10 h (by decide) (by decide)]
    have := w2 h hh2
    omega
  · rw [c0] at hh2
    by_cases e : h = p 0 2
    · subst e
      rw [cc 0 (by decide), adL_1, adL_2, adL_3]
      omega
    · rw [cc 0 (by decide), adL_o (j := 11) (by omega) (fun _ => e), adL_o (j := 12) (by omega) (fun _ => e), adL_o (j := 13) (by omega) (fun _ => e)]
      exact w3 h (by omega)
  · rw [cc 3 (by decide)] at hh2
    rw [cc 0 (by decide), ho 14 h (by decide) (by decide), ho 15 h (by decide) (by decide)]
    have := w4 h hh2
    omega
  · rw [ho 16 0 (by decide) (by decide), ho 16 1 (by decide) (by decide), ho 16 2 (by decide) (by decide), ho 16 3 (by decide) (by decide), ho 16 4 (by decide) (by decide)]
    exact w5
def adP (p : AS) (v1 v2 : Nat) : AS := u3 (u3 (u3 p 14 (p 0 3) v1) 15 (p 0 3) v2) 0 3 ((p 0 3) + 1)
theorem adP_o {p : AS} {v1 v2 j i : Nat} (h : ¬ (j = 0 ∧ i = 3)) (h2 : (14 ≤ j ∧ j ≤ 15) → i ≠ p 0 3) : adP p v1 v2 j i = p j i := by
  unfold adP
  rw [u3_ne h, u3_ne (by omega), u3_ne (by omega)]
theorem adP_1 {p : AS} {v1 v2 : Nat} : adP p v1 v2 14 (p 0 3) = v1 := by unfold adP; rw [u3_f (by decide), u3_f (by decide), u3_same]
theorem adP_2 {p : AS} {v1 v2 : Nat} : adP p v1 v2 15 (p 0 3) = v2 := by unfold adP; rw [u3_f (by decide), u3_same]
theorem adP_C {p : AS} {m : Mm} {D v1 v2 : Nat} (h : PC p m D) : PC (adP p v1 v2) (up2 (up2 (up2 m (D + 14) (p 0 3) (nI v1)) (D + 15) (p 0 3) (nI v2)) D 3 (nI ((p 0 3) + 1))) D := by
  unfold adP
  refine PC_grow (PC_set (PC_set h (by decide)) (by decide)) (fun j i hi h2 => ?_)
  have e0 : (u3 (u3 p 14 (p 0 3) v1) 15 (p 0 3) v2) 0 3 = p 0 3 := by rw [u3_f (by decide), u3_f (by decide)]
  have h3 := cnP_new (p := (u3 (u3 p 14 (p 0 3) v1) 15 (p 0 3) v2)) (c := 3) (by decide) (by rw [e0]; exact hi) h2
  rw [e0] at h3
  obtain ⟨rfl, h3⟩ := h3
  have hj : j = 14 ∨ j = 15 := by omega
  rcases hj with rfl | rfl
  · rw [up2_ne (by omega), up2_same, u3_f (by decide), u3_same]
  · rw [up2_same, u3_same]
theorem adP_M {p : AS} {m : Mm} {v1 v2 : Nat} (h : DM p m) : DM (adP p v1 v2) (up2 (up2 (up2 m 124 (2 * (p 0 3)) (nI v1)) 124 (2 * (p 0 3) + 1) (nI v2)) 113 17 (nI ((p 0 3) + 1))) := by
  obtain ⟨d1, d2, d3, d4, d5, d6, d7, d8, d9⟩ := h
  have c0 : adP p v1 v2 0 3 = p 0 3 + 1 := u3_same
  have cc : ∀ i, i ≠ 3 → adP p v1 v2 0 i = p 0 i := fun i hi => adP_o (by omega) (by omega)
  have ho : ∀ j i, 1 ≤ j → (j < 14 ∨ 15 < j) → adP p v1 v2 j i = p j i := fun j i hj q => adP_o (by omega) (by omega)
  generalize hm5 : up2 (up2 (up2 m 124 (2 * (p 0 3)) (nI v1)) 124 (2 * (p 0 3) + 1) (nI v2)) 113 17 (nI ((p 0 3) + 1)) = m5
  have g : ∀ b, b ≠ 113 → b ≠ 124 → m5 b = m b := fun b q1 q2 => by rw [← hm5, up2_ne q1, up2_ne q2, up2_ne q2]
  have g1 : ∀ i, i ≠ 17 → m5 113 i = m 113 i := fun i q => by rw [← hm5, up2_slot q, up2_ne (by decide), up2_ne (by decide)]
  refine ⟨by rw [cc 0 (by decide), g1 11 (by decide), d1], by rw [cc 1 (by decide), g1 13 (by decide), d2], by rw [cc 2 (by decide), g1 15 (by decide), d3], by rw [c0, ← hm5, up2_same], fun h hh k hk => ?_, fun h hh k hk => ?_, fun h hh k hk => ?_, fun h hh k hk => ?_, fun k hk => ?_⟩
  · rw [cc 0 (by decide)] at hh
    rw [ho _ _ (by omega) (by omega), g 121 (by decide) (by decide)]
    exact d5 h hh k hk
  · rw [cc 1 (by decide)] at hh
    rw [ho _ _ (by omega) (by omega), g 122 (by decide) (by decide)]
    exact d6 h hh k hk
  · rw [cc 2 (by decide)] at hh
    rw [ho _ _ (by omega) (by omega), g 123 (by decide) (by decide)]
    exact d7 h hh k hk
  · rw [c0] at hh
    rw [← hm5, up2_ne (by decide)]
    by_cases e : h = p 0 3
    · subst e
      have hkc : k = 0 ∨ k = 1 := by omega
      rcases hkc with rfl | rfl
      · rw [show 14 + 0 = 14 from rfl, adP_1, up2_slot (by omega), show 2 * p 0 3 + 0 = 2 * p 0 3 from rfl, up2_same]
      · rw [show 14 + 1 = 15 from rfl, adP_2, up2_same]
    · rw [up2_slot (by omega), up2_slot (by omega), adP_o (by omega) (fun _ => e)]
      exact d8 h (by omega) k hk
  · rw [ho _ _ (by omega) (by omega), g 125 (by decide) (by decide)]
    exact d9 k hk
theorem adP_W {p : AS} {v1 v2 : Nat} (hp : PW p) (hh : p 0 3 < 3) (b1 : 1 ≤ v1 ∧ v1 < 10) (b2 : v2 < p 0 0) : PW (adP p v1 v2) := by
  obtain ⟨⟨l1, l2, l3, l4⟩, w1, w2, w3, w4, w5⟩ := hp
  have c0 : adP p v1 v2 0 3 = p 0 3 + 1 := u3_same
  have cc : ∀ i, i ≠ 3 → adP p v1 v2 0 i = p 0 i := fun i hi => adP_o (by omega) (by omega)
  have ho : ∀ j i, 1 ≤ j → (j < 14 ∨ 15 < j) → adP p v1 v2 j i = p j i := fun j i hj q => adP_o (by omega) (by omega)
  refine ⟨⟨by rw [cc 0 (by decide)]; omega, by rw [cc 1 (by decide)]; omega, by rw [cc 2 (by decide)]; omega, by rw [c0]; omega⟩, fun h hh2 => ?_, fun h hh2 => ?_, fun h hh2 => ?_, fun h hh2 => ?_, ?_⟩
  · rw [cc 0 (by decide)] at hh2
    rw [ho 1 h (by decide) (by decide), ho 2 h (by decide) (by decide), ho 3 h (by decide) (by decide), ho 4 h (by decide) (by decide)]
    have := w1 h hh2
    omega
  · rw [cc 1 (by decide)] at hh2
    rw [cc 0 (by decide), ho 5 h (by decide) (by decide), ho 6 h (by decide) (by decide), ho 7 h (by decide) (by decide), ho 8 h (by decide) (by decide), ho 9 h (by decide) (by decide), ho 10 h (by decide) (by decide)]
    have := w2 h hh2
    omega
  · rw [cc 2 (by decide)] at hh2
    rw [cc 0 (by decide), ho 11 h (by decide) (by decide), ho 12 h (by decide) (by decide), ho 13 h (by decide) (by decide)]
    have := w3 h hh2
    omega
  · rw [c0] at hh2
    by_cases e : h = p 0 3
    · subst e
      rw [cc 0 (by decide), adP_1, adP_2]
      omega
    · rw [cc 0 (by decide), adP_o (j := 14) (by omega) (fun _ => e), adP_o (j := 15) (by omega) (fun _ => e)]
      exact w4 h (by omega)
  · rw [ho 16 0 (by decide) (by decide), ho 16 1 (by decide) (by decide), ho 16 2 (by decide) (by decide), ho 16 3 (by decide) (by decide), ho 16 4 (by decide) (by decide)]
    exact w5

/-! what best is to answer, told in numbers; the invariant -/
def bas (s : AS) : AS := fun j i => if j < 6 then s j i else 0
def chL (p s : AS) : List Nat := ((List.range (p 0 1)).filter (fun d => decide (s 3 d = 1))) ++ ((List.range (p 0 2)).filter (fun i => decide (s 4 i = 0))).map (fun i => 20 + i)
def dig (c k r i : Nat) : Nat := r / c ^ (k - 1 - i) % c
def cod (p s : AS) (k r i : Nat) : Nat := (chL p s).getD (dig (chL p s).length k r i) 0
def kdO (c : Nat) : Nat := if c < 20 then 0 else 2
def wtO (c : Nat) : Nat := if c < 20 then c else c - 20
def durO (p : AS) (c : Nat) : Nat := takN p (kdO c) (wtO c)
def tmO (w d0 d1 i : Nat) : Nat := if i = 0 then 0 else if i = 1 then (if w = 1 then d0 else 0) else (if w = 1 then d0 + d1 else if w = 2 then min d0 d1 else 0)
def rowT (p s : AS) (k r i : Nat) : Nat := tmO (p 16 0) (durO p (cod p s k r 0)) (durO p (cod p s k r 1)) i
def rowO (p s : AS) (k r : Nat) : AS := rep (fun i t => appS t (s 0 0 + rowT p s k r i) (kdO (cod p s k r i)) (wtO (cod p s k r i)) 0) k (bas s)
def unl (p s : AS) (k r : Nat) : Bool := (List.range k).all (fun i => (List.range i).all (fun j => decide (cod p s k r i ≠ cod p s k r j)))
def rowM (p s : AS) (k n r : Nat) : Nat := untS s (runS p n (rowO p s k r))
def rowA (p s : AS) (k n r : Nat) : Nat := sumN (runS p n (rowO p s k r) 1) (p 0 0)
def ltr (a b : Nat) : Bool := decide (b ≠ 4294967292) && (decide (a = 4294967292) || decide (b < a))
def stepB (p s : AS) (k n r : Nat) (acc : Option (Nat × Nat × Nat)) : Option (Nat × Nat × Nat) :=
  if unl p s k r then
    (match acc with
     | none => some (rowM p s k n r, rowA p s k n r, r)
     | some q => if ltr (rowM p s k n r) q.1 || (decide (rowM p s k n r = q.1) && decide (rowA p s k n r < q.2.1)) then some (rowM p s k n r, rowA p s k n r, r) else acc)
  else acc
def bestF (p s : AS) (k n : Nat) : Option (Nat × Nat × Nat) := rep (stepB p s k n) ((chL p s).length ^ k) none
def BR (p s : AS) (k n : Nat) (a w : Int32) (row : Nat → Int32) : Prop := ∃ q, bestF p s k n = some q ∧ a = nI q.1 ∧ w = nI q.2.1 ∧ ∀ i, i < k → row i = nI (cod p s k q.2.2 i)
theorem bas_eq {s t : AS} (h : ∀ j, j < 6 → s j = t j) : bas s = bas t := by
  funext j i
  unfold bas
  split
  · rename_i q; rw [h j q]
  · rfl
theorem chL_eq {p s t : AS} (h : ∀ j, j < 6 → s j = t j) : chL p s = chL p t := by
  unfold chL
  rw [h 3 (by decide), h 4 (by decide)]
theorem BR_eq {p s t : AS} {k n : Nat} {a w : Int32} {row : Nat → Int32} (h : ∀ j, j < 6 → s j = t j) (b : BR p s k n a w row) : BR p t k n a w row := by
  have hc : cod p s = cod p t := by funext k r i; unfold cod; rw [chL_eq h]
  have h0 : s 0 = t 0 := h 0 (by decide)
  have hu : unl p s = unl p t := by funext k r; unfold unl; rw [hc]
  have ho : rowO p s = rowO p t := by funext k r; unfold rowO rowT; rw [hc, h0, bas_eq h]
  have hun : ∀ u, untS s u = untS t u := fun u => by unfold untS; rw [h0]
  have hm : rowM p s = rowM p t := by funext k n r; unfold rowM; rw [ho, hun]
  have ha : rowA p s = rowA p t := by funext k n r; unfold rowA; rw [ho]
  have hs : stepB p s = stepB p t := by funext k n r acc; unfold stepB; rw [hu, hm, ha]
  unfold BR bestF at b ⊢
  rw [← hs, ← hc, ← chL_eq h]
  exact b
def FI (s : AS) : Prop := s 16 0 = sumN (isW 3 s) (s 6 0)
def GI (p : AS) (M : Nat) (m : Mm) : Prop := ∀ i, i < 2 → m 33 i = m 115 i ∧ (m 33 i = 0 ∨ (m 33 i = 1 ∧ ∃ t, SI p M t ∧ FI t ∧ RC p t m (77 + 14 * i) ∧ RM p t m (128 + 128 * i)))
def GR (m : Mm) : Prop := (∃ n, n ≤ 400 ∧ m 1 1 = nI n ∧ m 113 22 = nI n ∧ ∀ i, i < n → ∃ b, b < 256 ∧ m 127 i = nI b ∧ m 2 i = (nI b).toInt8.toInt32) ∧ m 0 11 = m 113 27
def GT (m : Mm) : Prop := m 0 12 = m 113 41
def GS (m : Mm) : Prop := ∀ k, k < 4 → (m (105 + 2 * k) 1 = -4 ∧ m 132 k = -4) ∨ (∃ l n, l ≤ 2 ∧ n ≤ 40 ∧ m (105 + 2 * k) 0 = nI l ∧ m 132 k = nI l ∧ m (105 + 2 * k) 1 = nI n ∧ m 133 k = nI n ∧ ∀ i, i < 40 → m (105 + 2 * k + 1) i = m 134 (40 * k + i))
def GO (m : Mm) : Prop := ∃ z, ∃ v : Nat → Nat, z ≤ 8 ∧ m 40 0 = nI z ∧ m 113 36 = nI z ∧ ∀ i, i < z → m 41 i = nI (v i) ∧ m 131 i = nI (v i) ∧ v i ≤ 99
def GK (p s : AS) (m : Mm) : Prop := m 34 7 = -4 ∨ ∃ k n, k ≤ 3 ∧ n ≤ 60 ∧ k ≤ (chL p s).length ∧ m 34 7 = nI k ∧ m 34 8 = nI n ∧ BR p s k n (m 34 0) (m 34 1) (m 37)
def G (c : Nat) (m : Mm) (P D : Nat) (_ : Option Nat) : Prop := isPl P ∧ isPl D ∧ P ≠ D ∧ ∃ p s, PW p ∧ SI p (120 * c) s ∧ FI s ∧ (PC p m P ∧ PM p m ∧ RC p s m 4 ∧ RM p s m 0) ∧ GI p (120 * c) m ∧ GR m ∧ GT m ∧ GS m ∧ GO m ∧ GK p s m
theorem SO_mono {p s : AS} {M N : Nat} (h : SO p M s) (hMN : M ≤ N) : SO p N s := ⟨h.1, h.2.1, h.2.2.1, h.2.2.2.1, h.2.2.2.2.1, h.2.2.2.2.2.1, h.2.2.2.2.2.2.1, Nat.le_trans h.2.2.2.2.2.2.2 hMN⟩
theorem SI_mono {p s : AS} {M N : Nat} (h : SI p M s) (hMN : M ≤ N) : SI p N s := ⟨h.1, SO_mono h.2.1 hMN, h.2.2⟩
theorem GI_mono {p : AS} {M N : Nat} {m : Mm} (h : GI p M m) (hMN : M ≤ N) : GI p N m := fun i hi => by
  obtain ⟨h1, h2⟩ := h i hi
  refine ⟨h1, h2.imp id ?_⟩
  rintro ⟨h3, t, h4, h5⟩
  exact ⟨h3, t, SI_mono h4 hMN, h5⟩
theorem G_mono {c d : Nat} {m : Mm} {P D : Nat} {T : Option Nat} (h : G c m P D T) (hcd : c ≤ d) : G d m P D T := by
  obtain ⟨h1, h2, h3, p, s, h4, h5, h6, h7, h8, h9⟩ := h
  exact ⟨h1, h2, h3, p, s, h4, SI_mono h5 (by omega), h6, h7, GI_mono h8 (by omega), h9⟩
theorem GI_fr {p : AS} {M : Nat} {m m2 : Mm} (hp : PL p) (h : GI p M m) (e1 : m2 33 = m 33) (e2 : m2 115 = m 115) (e3 : ∀ b, 77 ≤ b → b < 105 → m2 b = m b) (e4 : ∀ i, 128 ≤ i → i < 384 → m2 114 i = m 114 i) : GI p M m2 := fun i hi => by
  obtain ⟨h1, h2⟩ := h i hi
  rw [e1, e2]
  refine ⟨h1, h2.imp id ?_⟩
  rintro ⟨h3, t, h4, h5, h6, h7⟩
  refine ⟨h3, t, h4, h5, fun j k hk => ?_, RM_fr hp h4.2.1.1 h7 (fun k q1 q2 => e4 k (by omega) (by omega))⟩
  rw [e3 _ (by omega) (by have := cnS_lt hk; omega)]
  exact h6 j k hk
theorem GR_fr {m m2 : Mm} (h : GR m) (e1 : m2 1 1 = m 1 1) (e2 : m2 2 = m 2) (e3 : m2 127 = m 127) (e4 : m2 113 22 = m 113 22) (e5 : m2 113 27 = m 113 27) (e6 : m2 0 11 = m 0 11) : GR m2 := by
  unfold GR
  rw [e1, e2, e3, e4, e5, e6]
  exact h
theorem GS_fr {m m2 : Mm} (h : GS m) (e1 : ∀ b, 105 ≤ b → b < 113 → m2 b = m b) (e2 : m2 132 = m 132) (e3 : m2 133 = m 133) (e4 : m2 134 = m 134) : GS m2 := fun k hk => by
  have := h k hk
  rw [e2, e3, e4, e1 _ (by omega) (by omega), e1 _ (by omega) (by omega)]
  exact this
theorem GO_fr {m m2 : Mm} (h : GO m) (e1 : m2 40 = m 40) (e2 : m2 41 = m 41) (e3 : m2 131 = m 131) (e4 : m2 113 36 = m 113 36) : GO m2 := by
  unfold GO
  rw [e1, e2, e3, e4]
  exact h
theorem GK_fr {p s t : AS} {m m2 : Mm} (h : GK p s m) (e : ∀ j, j < 6 → s j = t j) (e0 : m2 34 0 = m 34 0) (e1 : m2 34 1 = m 34 1) (e7 : m2 34 7 = m 34 7) (e8 : m2 34 8 = m 34 8) (e37 : m2 37 = m 37) : GK p t m2 := by
  unfold GK at h ⊢
  rw [e0, e1, e7, e8, e37, ← chL_eq e]
  refine h.imp id ?_
  rintro ⟨k, n, h1, h2, h3, h4, h5, h6⟩
  exact ⟨k, n, h1, h2, h3, h4, h5, BR_eq e h6⟩
/-- a step that changes the state of the present alone, and what is only scribbled on -/
theorem G_upd {c d : Nat} {m m2 : Mm} {P D : Nat} {T : Option Nat} {p t : AS} (hP : isPl P) (hD : isPl D) (hPD : P ≠ D) (hp : PW p) (hPC : PC p m P) (hPM : PM p m) (hcd : c ≤ d) (gi : GI p (120 * c) m) (gr : GR m) (gt : GT m) (gs : GS m) (go : GO m) (hI : SI p (120 * d) t) (hF : FI t) (hRC : RC p t m2 4) (hRM : RM p t m2 0) (gk : GK p t m2) (h1 : ∀ b, (b < 4 ∨ 39 < b ∨ b = 32 ∨ b = 33) → b ≠ 113 → b ≠ 114 → b ≠ 128 → b ≠ 129 → b ≠ 130 → m2 b = m b) (h2 : ∀ i, i ≠ 29 → i ≠ 30 → i ≠ 34 → i ≠ 35 → m2 113 i = m 113 i) (h3 : ∀ i, 128 ≤ i → i < 384 → m2 114 i = m 114 i) : G d m2 P D T := by
  have e : ∀ b, (b < 4 ∨ 39 < b ∨ b = 32 ∨ b = 33) → b ≠ 113 → b ≠ 114 → b ≠ 128 → b ≠ 129 → b ≠ 130 → m2 b = m b := h1
  refine ⟨hP, hD, hPD, p, t, hp, hI, hF, ⟨PC_fr hPC (fun j hj => ?_), ?_, hRC, hRM⟩, GI_mono (GI_fr hp.1 gi (e 33 (by omega) (by decide) (by decide) (by decide) (by decide) (by decide)) (e 115 (by omega) (by decide) (by decide) (by decide) (by decide) (by decide)) (fun b q1 q2 => e b (by omega) (by omega) (by omega) (by omega) (by omega) (by omega)) h3) (by omega), GR_fr gr ?_ (e 2 (by omega) (by decide) (by decide) (by decide) (by decide) (by decide)) (e 127 (by omega) (by decide) (by decide) (by decide) (by decide) (by decide)) (h2 22 (by decide) (by decide) (by decide) (by decide)) (h2 27 (by decide) (by decide) (by decide) (by decide)) ?_, ?_, GS_fr gs (fun b q1 q2 => e b (by omega) (by omega) (by omega) (by omega) (by omega) (by omega)) (e 132 (by omega) (by decide) (by decide) (by decide) (by decide) (by decide)) (e 133 (by omega) (by decide) (by decide) (by decide) (by decide) (by decide)) (e 134 (by omega) (by decide) (by decide) (by decide) (by decide) (by decide)), GO_fr go (e 40 (by omega) (by decide) (by decide) (by decide) (by decide) (by decide)) (e 41 (by omega) (by decide) (by decide) (by decide) (by decide) (by decide)) (e 131 (by omega) (by decide) (by decide) (by decide) (by decide) (by decide)) (h2 36 (by decide) (by decide) (by decide) (by decide)), gk⟩
  · have := isPl_le hP
    have : 43 ≤ P := by rcases hP with rfl | rfl <;> decide
    exact e _ (by omega) (by omega) (by omega) (by omega) (by omega) (by omega)
  · unfold PM
    rw [h2 2 (by decide) (by decide) (by decide) (by decide), h2 4 (by decide) (by decide) (by decide) (by decide), h2 6 (by decide) (by decide) (by decide) (by decide), h2 8 (by decide) (by decide) (by decide) (by decide), e 116 (by omega) (by decide) (by decide) (by decide) (by decide) (by decide), e 117 (by omega) (by decide) (by decide) (by decide) (by decide) (by decide), e 118 (by omega) (by decide) (by decide) (by decide) (by decide) (by decide), e 119 (by omega) (by decide) (by decide) (by decide) (by decide) (by decide), e 120 (by omega) (by decide) (by decide) (by decide) (by decide) (by decide)]
    exact hPM
  · rw [e 1 (by omega) (by decide) (by decide) (by decide) (by decide) (by decide)]
  · rw [e 0 (by omega) (by decide) (by decide) (by decide) (by decide) (by decide)]
  · unfold GT
    rw [e 0 (by omega) (by decide) (by decide) (by decide) (by decide) (by decide), h2 41 (by decide) (by decide) (by decide) (by decide)]
    exact gt
/-- where only things are scribbled on -/
def Sm (m m2 : Mm) : Prop := (∀ b, (b < 18 ∨ 31 < b) → b ≠ 34 → b ≠ 35 → b ≠ 36 → b ≠ 38 → b ≠ 39 → b ≠ 113 → b ≠ 114 → b ≠ 128 → b ≠ 129 → b ≠ 130 → m2 b = m b) ∧ (∀ i, i = 0 ∨ i = 1 ∨ i = 7 ∨ i = 8 → m2 34 i = m 34 i) ∧ (∀ i, i < 384 → m2 114 i = m 114 i) ∧ (∀ i, i ≠ 29 → i ≠ 30 → i ≠ 34 → i ≠ 35 → m2 113 i = m 113 i)
theorem G_Sm {c d : Nat} {m m2 : Mm} {P D : Nat} {T : Option Nat} (h : G c m P D T) (hcd : c ≤ d) (hs : Sm m m2) : G d m2 P D T := by
  obtain ⟨h1, h2, h3, p, s, h4, h5, h6, ⟨h7, h8, h9, h10⟩, gi, gr, gt, gs, go, gk⟩ := h
  obtain ⟨e1, e2, e3, e4⟩ := hs
  refine G_upd h1 h2 h3 h4 h7 h8 hcd gi gr gt gs go (SI_mono h5 (by omega)) h6 (RC_fr h9 (fun j hj i _ => ?_)) (RM_fr h4.1 h5.2.1.1 h10 (fun i _ q => e3 i (by omega))) (GK_fr gk (fun _ _ => rfl) (e2 0 (by omega)) (e2 1 (by omega)) (e2 7 (by omega)) (e2 8 (by omega)) (e1 37 (by omega) (by decide) (by decide) (by decide) (by decide) (by decide) (by decide) (by decide) (by decide) (by decide) (by decide))) (fun b q1 q2 q3 q4 q5 q6 => e1 b (by omega) (by omega) (by omega) (by omega) (by omega) (by omega) q2 q3 q4 q5 q6) e4 (fun i q1 q2 => e3 i q2)
  rw [e1 (4 + j) (by omega) (by omega) (by omega) (by omega) (by omega) (by omega) (by omega) (by omega) (by omega) (by omega) (by omega)]

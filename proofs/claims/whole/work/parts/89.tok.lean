/-! text: tokens -/
def sxB (b : Nat) : Int32 := (nI b).toInt8.toInt32
def kdB (b : Nat) : Nat := if b = 32 then 1 else if 97 ≤ b ∧ b ≤ 122 then 2 else if 48 ≤ b ∧ b ≤ 57 then 3 else if b = 59 then 4 else 5
theorem kd_b : ∀ b, b < 256 → f_X2_kindOf (sxB b) = some (nI (kdB b)) := by decide +kernel
theorem in_L : ∀ b, b < 256 → f_X9_in (nI b).toInt64 97 122 = some (if kdB b = 2 then 1 else 0) := by decide +kernel
theorem in_D : ∀ b, b < 256 → f_X9_in (nI b).toInt64 48 57 = some (if kdB b = 3 then 1 else 0) := by decide +kernel
theorem kdB_le : ∀ b, b < 256 → 1 ≤ kdB b ∧ kdB b ≤ 5 ∧ (kdB b = 1 ↔ nI b = (32 : Int32)) ∧ (kdB b = 4 ↔ nI b = (59 : Int32)) ∧ (kdB b = 3 → sxB b = nI b ∧ 48 ≤ b ∧ b ≤ 57) ∧ (kdB b = 2 → sxB b = nI b) := by decide +kernel
theorem run_ex {P : Nat → Prop} {n : Nat} : ∀ k pos, pos ≤ n → n - pos ≤ k → ∃ e, pos ≤ e ∧ e ≤ n ∧ (∀ i, pos ≤ i → i < e → P i) ∧ (e < n → ¬ P e)
  | 0, pos, h, hk => ⟨pos, Nat.le_refl _, h, fun i h1 h2 => absurd h1 (by omega), fun q => absurd q (by omega)⟩
  | k + 1, pos, h, hk => by
    by_cases q : pos < n ∧ P pos
    · obtain ⟨e, h1, h2, h3, h4⟩ := run_ex (P := P) (n := n) k (pos + 1) (by omega) (by omega)
      refine ⟨e, by omega, h2, fun i q1 q2 => ?_, h4⟩
      by_cases w : i = pos
      · subst w; exact q.2
      · exact h3 i (by omega) q2
    · exact ⟨pos, Nat.le_refl _, h, fun i h1 h2 => absurd h1 (by omega), fun w1 w2 => q ⟨w1, w2⟩⟩
def CB (n : Nat) (bs : Nat → Nat) (m : Mm) : Prop := m 1 1 = nI n ∧ ∀ i, i < n → m 2 i = sxB (bs i)
def MBy (n : Nat) (bs : Nat → Nat) (m : Mm) : Prop := m 113 22 = nI n ∧ ∀ i, i < n → m 127 i = nI (bs i)
def TK (n : Nat) (bs : Nat → Nat) (pos f k e : Nat) : Prop := pos ≤ f ∧ f ≤ n ∧ (∀ i, pos ≤ i → i < f → kdB (bs i) = 1) ∧ ((f = n ∧ k = 0 ∧ e = f + 1) ∨ (f < n ∧ k = kdB (bs f) ∧ k ≠ 1 ∧ (((k = 2 ∨ k = 3) ∧ f < e ∧ e ≤ n ∧ (∀ i, f ≤ i → i < e → kdB (bs i) = k) ∧ (e < n → kdB (bs e) ≠ k)) ∨ ((k = 4 ∨ k = 5) ∧ e = f + 1))))
theorem TK_ex {n : Nat} {bs : Nat → Nat} (hb : ∀ i, i < n → bs i < 256) {pos : Nat} (hp : pos ≤ n) : ∃ f k e, TK n bs pos f k e := by
  obtain ⟨f, h1, h2, h3, h4⟩ := run_ex (P := fun i => kdB (bs i) = 1) (n := n) n pos hp (by omega)
  by_cases q : f = n
  · exact ⟨f, 0, f + 1, h1, h2, h3, Or.inl ⟨q, rfl, rfl⟩⟩
  · have hf : f < n := by omega
    have hk := kdB_le _ (hb f hf)
    have h4' := h4 hf
    by_cases w : kdB (bs f) = 2 ∨ kdB (bs f) = 3
    · obtain ⟨e, e1, e2, e3, e4⟩ := run_ex (P := fun i => kdB (bs i) = kdB (bs f)) (n := n) n f (by omega) (by omega)
      have he : f < e := by
        rcases Nat.lt_or_ge f e with x | x
        · exact x
        · have : e = f := by omega
          subst this
          exact absurd rfl (e4 hf)
      exact ⟨f, kdB (bs f), e, h1, h2, h3, Or.inr ⟨hf, rfl, h4', Or.inl ⟨w, he, e2, e3, e4⟩⟩⟩
    · exact ⟨f, kdB (bs f), f + 1, h1, h2, h3, Or.inr ⟨hf, rfl, h4', Or.inr ⟨by omega, rfl⟩⟩⟩
abbrev badT (k f e : Nat) : Prop := k = 5 ∨ (k = 3 ∧ 3 < e - f)
theorem c_eor {n : Nat} {bs : Nat → Nat} {m : Mm} {F pos e k : Nat} (hF : 5000 ≤ F) (hn : n ≤ 400) (hb : ∀ i, i < n → bs i < 256) (hB : CB n bs m) (hk : k ≤ 5) (h1 : pos ≤ e) (h2 : e ≤ n) (h3 : ∀ i, pos ≤ i → i < e → kdB (bs i) = k) (h4 : e < n → kdB (bs e) ≠ k) : f_X2_endOfRun F m (nI pos) (nI k) = some (nI e) := by
  have h := iter_n (b := b_X2_endOfRun_2 m (nI k)) (F := F) (fun i => nI (pos + i)) (e - pos) (nI e) (by omega) (fun i hi => by
    have hc : ¬ m 1 1 ≤ nI (pos + i) := by rw [hB.1]; exact nI_ge (by omega) (by omega)
    have e1 : ald m 2 400 (nI (pos + i)) = some (sxB (bs (pos + i))) := by rw [ald_n (by omega) (by decide), hB.2 _ (by omega)]
    unfold b_X2_endOfRun_2
    rw [if_neg hc, e1, Option.bind_some, kd_b _ (hb _ (by omega)), Option.bind_some, if_pos (by rw [h3 _ (by omega) (by omega)]), nI_1]
    rfl) (by
    show b_X2_endOfRun_2 m (nI k) (nI (pos + (e - pos))) = _
    rw [show pos + (e - pos) = e by omega]
    unfold b_X2_endOfRun_2
    by_cases q : e = n
    · have hc : m 1 1 ≤ nI e := by rw [hB.1, q]; exact Int32.le_refl _
      rw [if_pos hc]
    · have hc : ¬ m 1 1 ≤ nI e := by rw [hB.1]; exact nI_ge (by omega) (by omega)
      have e1 : ald m 2 400 (nI e) = some (sxB (bs e)) := by rw [ald_n (by omega) (by decide), hB.2 _ (by omega)]
      have hkk := (kdB_le _ (hb e (by omega))).2.1
      have n1 : ¬ nI (kdB (bs e)) = nI k := by rw [nq (by omega) (by omega)]; exact h4 (by omega)
      rw [if_neg hc, e1, Option.bind_some, kd_b _ (hb _ (by omega)), Option.bind_some, if_neg n1])
  unfold f_X2_endOfRun
  rw [show nI (pos + 0) = nI pos from rfl] at h
  rw [h]
  rfl
theorem up2_o {m : Mm} {a j b i : Nat} {v : Int32} (h : ¬ (b = a ∧ i = j)) : up2 m a j v b i = m b i := by
  by_cases q : b = a
  · subst q
    exact up2_slot (fun w => h ⟨rfl, w⟩)
  · rw [up2_ne q]
def tkC (m : Mm) (f k e : Nat) : Mm := up2 (up2 (up2 m 1 7 (nI f)) 1 9 (nI k)) 1 8 (nI e)
theorem c_tok {n : Nat} {bs : Nat → Nat} {m : Mm} {F pos f k e : Nat} (hF : 5000 ≤ F) (hn : n ≤ 400) (hb : ∀ i, i < n → bs i < 256) (hB : CB n bs m) (h0 : m 1 3 = 0) (h8 : m 1 8 = nI pos) (ht : TK n bs pos f k e) : f_X2_nextToken F m = some (if badT k f e then up2 (up2 (tkC m f k e) 1 3 1) 1 4 (nI f) else tkC m f k e) := by
  obtain ⟨t1, t2, t3, t4⟩ := ht
  have x1 : f_X2_endOfRun F m (m 1 8) 1 = some (nI f) := by
    rw [h8]
    exact c_eor (k := 1) hF hn hb hB (by decide) t1 t2 t3 (fun q => by
      rcases t4 with ⟨w, -⟩ | ⟨-, w, w2, -⟩
      · omega
      · rw [← w]; exact w2)
  generalize hm3 : up2 m 1 7 (nI f) = m3
  have g3 : ∀ b i, ¬ (b = 1 ∧ i = 7) → m3 b i = m b i := fun b i h => by rw [← hm3, up2_o h]
  have B3 : CB n bs m3 := ⟨by rw [g3 1 1 (by omega)]; exact hB.1, fun i hi => by rw [g3 2 i (by omega)]; exact hB.2 i hi⟩
  have g37 : m3 1 7 = nI f := by rw [← hm3, up2_same]
  have y4 : (if (m3 1 1) ≤ (m3 1 7) then (some 0) else ((ald m3 2 400 (m3 1 7)).bind fun x5 => (f_X2_kindOf x5).bind fun x6 => some x6) : Option (Int32)) = some (nI k) := by
    rw [g37, B3.1]
    rcases t4 with ⟨w, w2, -⟩ | ⟨w, w2, -⟩
    · subst w w2
      rw [if_pos (Int32.le_refl _)]; rfl
    · rw [if_neg (nI_ge w (by omega)), ald_n (by omega) (by decide), B3.2 f w, Option.bind_some, kd_b _ (hb f w), Option.bind_some, w2]
  have hk5 : k ≤ 5 := by
    rcases t4 with ⟨w, w2, -⟩ | ⟨w, w2, -⟩
    · omega
    · rw [w2]; exact (kdB_le _ (hb f w)).2.1
  generalize hm8 : up2 m3 1 9 (nI k) = m8
  have g8 : ∀ b i, ¬ (b = 1 ∧ i = 9) → m8 b i = m3 b i := fun b i h => by rw [← hm8, up2_o h]
  have B8 : CB n bs m8 := ⟨by rw [g8 1 1 (by omega)]; exact B3.1, fun i hi => by rw [g8 2 i (by omega)]; exact B3.2 i hi⟩
  have g87 : m8 1 7 = nI f := by rw [g8 1 7 (by omega), g37]
  have g89 : m8 1 9 = nI k := by rw [← hm8, up2_same]
  have ck : ∀ c : Nat, c ≤ 9 → (nI k = nI c) = (k = c) := fun c hc => nq (by omega) (by omega)
  have k2 : (nI k = (2 : Int32)) = (k = 2) := ck 2 (by decide)
  have k3 : (nI k = (3 : Int32)) = (k = 3) := ck 3 (by decide)
  have k5 : (nI k = (5 : Int32)) = (k = 5) := ck 5 (by decide)
  have y9 : (if (m8 1 9) = (2 : Int32) then ((f_X2_endOfRun F m8 (m8 1 7) (m8 1 9)).bind fun x10 => some x10) else (if (m8 1 9) = (3 : Int32) then ((f_X2_endOfRun F m8 (m8 1 7) (m8 1 9)).bind fun x12 => some x12) else (some ((m8 1 7) + (1 : Int32)))) : Option (Int32)) = some (nI e) := by
    rw [g89, g87]
    simp only [k2, k3]
    rcases t4 with ⟨w, w2, w3⟩ | ⟨w, w2, w3, ⟨w4, w5, w6, w7, w8⟩ | ⟨w4, w5⟩⟩
    · rw [if_neg (by omega), if_neg (by omega), nI_1, w3]
    · have r := c_eor (m := m8) (k := k) hF hn hb B8 hk5 (Nat.le_of_lt w5) w6 w7 w8
      rcases w4 with q | q
      · rw [if_pos q, r]; rfl
      · rw [if_neg (by omega), if_pos q, r]; rfl
    · rw [if_neg (by omega), if_neg (by omega), nI_1, w5]
  have hmT : up2 m8 1 8 (nI e) = tkC m f k e := by unfold tkC; rw [hm3, hm8]
  have r7 : tkC m f k e 1 7 = nI f := by unfold tkC; rw [up2_slot (by decide), up2_slot (by decide), up2_same]
  have r8 : tkC m f k e 1 8 = nI e := by unfold tkC; rw [up2_same]
  have r9 : tkC m f k e 1 9 = nI k := by unfold tkC; rw [up2_slot (by decide), up2_same]
  have r3 : tkC m f k e 1 3 = 0 := by unfold tkC; rw [up2_slot (by decide), up2_slot (by decide), up2_slot (by decide), h0]
  have hfe : f ≤ e ∧ e ≤ 401 := by
    rcases t4 with ⟨w, w2, w3⟩ | ⟨w, w2, w3, ⟨w4, w5, w6, w7, w8⟩ | ⟨w4, w5⟩⟩ <;> omega
  have rr : f_X2_refuse (tkC m f k e) 1 = some (up2 (up2 (tkC m f k e) 1 3 1) 1 4 (nI f)) := by
    unfold f_X2_refuse
    rw [if_pos r3, letv_eq, letv_eq, up2_slot (by decide), r7]
  have hd : (tkC m f k e 1 8 - tkC m f k e 1 7 ≤ (3 : Int32)) = (e - f ≤ 3) := by
    rw [r7, r8, pk_sub hfe.1]
    exact propext (nI_leI (b := 3) (by omega) (by decide))
  unfold f_X2_nextToken
  rw [if_pos h0, x1, Option.bind_some, letv_eq, hm3, y4, Option.bind_some, letv_eq, hm8, y9, Option.bind_some, letv_eq, hmT]
  simp only [r9, k5, k3, hd, rr, Option.bind_some]
  by_cases q5 : k = 5
  · rw [if_pos q5, if_pos (Or.inl q5)]
  · rw [if_neg q5]
    by_cases q3 : k = 3
    · rw [if_pos q3]
      by_cases q : e - f ≤ 3
      · rw [if_pos q, if_neg (by omega)]
      · rw [if_neg q, if_pos (by omega)]
    · rw [if_neg q3, if_neg (by omega)]

/-! text: the reference's tokens -/
theorem up2_tw {m : Mm} {a i : Nat} {v w : Int32} : up2 (up2 m a i v) a i w = up2 m a i w := by
  funext b j
  by_cases h : b = a ∧ j = i
  · obtain ⟨rfl, rfl⟩ := h; rw [up2_same, up2_same]
  · rw [up2_o h, up2_o h, up2_o h]
theorem up2_is {m : Mm} {a i : Nat} {v : Int32} (h : m a i = v) : up2 m a i v = m := by
  funext b j
  by_cases q : b = a ∧ j = i
  · obtain ⟨rfl, rfl⟩ := q; rw [up2_same, h]
  · rw [up2_o q]
def krN (k : Nat) : Nat := if k = 0 then 0 else if k = 2 then 1 else if k = 3 then 2 else 3
def vD (bs : Nat → Nat) (f : Nat) : Nat → Nat
  | 0 => 0
  | i + 1 => 10 * vD bs f i + (bs (f + i) - 48)
theorem MBy_up {n : Nat} {bs : Nat → Nat} {m : Mm} {i : Nat} {v : Int32} (h : MBy n bs m) (hi : i ≠ 22) : MBy n bs (up2 m 113 i v) := ⟨by rw [up2_slot (Ne.symm hi)]; exact h.1, fun j hj => by rw [up2_ne (by decide)]; exact h.2 j hj⟩
theorem m_look {n : Nat} {bs : Nat → Nat} {m : Mm} {t : Nat} (h : MBy n bs m) (hn : n ≤ 400) (ht : t < n) : f_X9_look m (nI t) = some (nI (bs t)) := by
  have hc : ¬ m 113 22 ≤ nI t := by rw [h.1]; exact nI_ge ht (by omega)
  unfold f_X9_look
  rw [if_neg hc, ald_n (by omega) (by decide), h.2 t ht]
  rfl
theorem m_look0 {n : Nat} {bs : Nat → Nat} {m : Mm} {t : Nat} (h : MBy n bs m) (ht : n ≤ t) (ht2 : t < 2 ^ 31) : f_X9_look m (nI t) = some (-1) := by
  have hc : m 113 22 ≤ nI t := by rw [h.1]; exact nI_le ht ht2
  unfold f_X9_look
  rw [if_pos hc]
theorem m_skip {n : Nat} {bs : Nat → Nat} {m : Mm} {F pos f : Nat} (hF : 5000 ≤ F) (hn : n ≤ 400) (hb : ∀ i, i < n → bs i < 256) (hB : MBy n bs m) (h23 : m 113 23 = nI pos) (h1 : pos ≤ f) (h2 : f ≤ n) (h3 : ∀ i, pos ≤ i → i < f → kdB (bs i) = 1) (h4 : f < n → kdB (bs f) ≠ 1) : iter F b_X9_next_8 (m : Mm) = some (up2 m 113 23 (nI f)) := by
  have h := iter_n (b := b_X9_next_8) (F := F) (fun i => up2 m 113 23 (nI (pos + i))) (f - pos) (up2 m 113 23 (nI f)) (by omega) (fun i hi => by
    have e1 := m_look (t := pos + i) (MBy_up (i := 23) (v := nI (pos + i)) hB (by decide)) hn (by omega)
    have k1 := (kdB_le _ (hb (pos + i) (by omega))).2.2.1.mp (h3 _ (by omega) (by omega))
    unfold b_X9_next_8
    rw [up2_same, e1, Option.bind_some, if_pos k1, letv_eq, up2_tw, nI_1]
    rfl) (by
    show b_X9_next_8 (up2 m 113 23 (nI (pos + (f - pos)))) = _
    rw [show pos + (f - pos) = f by omega]
    unfold b_X9_next_8
    rw [up2_same]
    by_cases q : f = n
    · rw [m_look0 (MBy_up hB (by decide)) (by omega) (by omega), Option.bind_some, if_neg (by decide)]
    · have k1 : ¬ nI (bs f) = (32 : Int32) := fun w => h4 (by omega) ((kdB_le _ (hb f (by omega))).2.2.1.mpr w)
      rw [m_look (MBy_up hB (by decide)) hn (by omega), Option.bind_some, if_neg k1])
  rw [show up2 m 113 23 (nI (pos + 0)) = m from up2_is (by rw [h23]; rfl)] at h
  exact h
theorem m_letters {n : Nat} {bs : Nat → Nat} {m : Mm} {F f e : Nat} (hF : 5000 ≤ F) (hn : n ≤ 400) (hb : ∀ i, i < n → bs i < 256) (hB : MBy n bs m) (h23 : m 113 23 = nI f) (h1 : f ≤ e) (h2 : e ≤ n) (h3 : ∀ i, f ≤ i → i < e → kdB (bs i) = 2) (h4 : e < n → kdB (bs e) ≠ 2) : iter F b_X9_next_82 (m : Mm) = some (up2 m 113 23 (nI e)) := by
  have h := iter_n (b := b_X9_next_82) (F := F) (fun i => up2 m 113 23 (nI (f + i))) (e - f) (up2 m 113 23 (nI e)) (by omega) (fun i hi => by
    have e1 := m_look (t := f + i) (MBy_up (i := 23) (v := nI (f + i)) hB (by decide)) hn (by omega)
    have k1 := in_L _ (hb (f + i) (by omega))
    rw [if_pos (h3 _ (by omega) (by omega))] at k1
    unfold b_X9_next_82
    rw [up2_same, e1, Option.bind_some, k1, Option.bind_some, if_neg n10, letv_eq, up2_tw, nI_1]
    rfl) (by
    show b_X9_next_82 (up2 m 113 23 (nI (f + (e - f)))) = _
    rw [show f + (e - f) = e by omega]
    unfold b_X9_next_82
    rw [up2_same]
    by_cases q : e = n
    · rw [m_look0 (MBy_up hB (by decide)) (by omega) (by omega), Option.bind_some, show f_X9_in (-1 : Int32).toInt64 97 122 = some 0 by decide, Option.bind_some, if_pos rfl]
    · have k1 := in_L _ (hb e (by omega))
      rw [if_neg (h4 (by omega))] at k1
      rw [m_look (MBy_up hB (by decide)) hn (by omega), Option.bind_some, k1, Option.bind_some, if_pos rfl])
  rw [show up2 m 113 23 (nI (f + 0)) = m from up2_is (by rw [h23]; rfl)] at h
  exact h
theorem m_digs {n : Nat} {bs : Nat → Nat} {m : Mm} {F f e : Nat} (hF : 5000 ≤ F) (hn : n ≤ 400) (hb : ∀ i, i < n → bs i < 256) (hB : MBy n bs m) (h23 : m 113 23 = nI f) (h24 : m 113 24 = nI f) (h26 : m 113 26 = 0) (h1 : f ≤ e) (h2 : e ≤ n) (h3 : ∀ i, f ≤ i → i < e → kdB (bs i) = 3) (h4 : e < n → kdB (bs e) ≠ 3) : iter F b_X9_next_140 (m : Mm) = some (up2 (up2 m 113 26 (nI (vD bs f (min 3 (e - f))))) 113 23 (nI e)) := by
  have hBS : ∀ v w, MBy n bs (up2 (up2 m 113 26 v) 113 23 w) := fun v w => MBy_up (MBy_up hB (by decide)) (by decide)
  have h := iter_n (b := b_X9_next_140) (F := F) (fun i => up2 (up2 m 113 26 (nI (vD bs f (min 3 i)))) 113 23 (nI (f + i))) (e - f) (up2 (up2 m 113 26 (nI (vD bs f (min 3 (e - f))))) 113 23 (nI e)) (by omega) (fun i hi => by
    have e1 := m_look (t := f + i) (hBS (nI (vD bs f (min 3 i))) (nI (f + i))) hn (by omega)
    have hb1 := hb (f + i) (by omega)
    have hk := h3 (f + i) (by omega) (by omega)
    have k1 := in_D _ hb1
    rw [if_pos hk] at k1
    have hd := (kdB_le _ hb1).2.2.2.2.1 hk
    generalize hS : up2 (up2 m 113 26 (nI (vD bs f (min 3 i)))) 113 23 (nI (f + i)) = S at e1
    have s23 : S 113 23 = nI (f + i) := by rw [← hS, up2_same]
    have s24 : S 113 24 = nI f := by rw [← hS, up2_slot (by decide), up2_slot (by decide), h24]
    have s26 : S 113 26 = nI (vD bs f (min 3 i)) := by rw [← hS, up2_slot (by decide), up2_same]
    have hsub : nI (f + i) - nI f = nI i := by rw [pk_sub (by omega), show f + i - f = i by omega]
    have y : (if (3 : Int32) ≤ ((S 113 23) - (S 113 24)) then (some (S 113 26)) else ((f_X9_look S (S 113 23)).bind fun x27 => some ((((10 : Int32) * (S 113 26)) + x27) - (48 : Int32))) : Option (Int32)) = some (nI (vD bs f (min 3 (i + 1)))) := by
      rw [s23, s24, s26, hsub]
      by_cases q : 3 ≤ i
      · have c3 : (3 : Int32) ≤ nI i := nI_le (a := 3) q (by omega)
        rw [if_pos c3, show min 3 i = 3 by omega, show min 3 (i + 1) = 3 by omega]
      · have c3 : ¬ (3 : Int32) ≤ nI i := nI_ge (b := 3) (by omega) (by decide)
        rw [if_neg c3, e1, Option.bind_some, show min 3 i = i by omega, show min 3 (i + 1) = i + 1 by omega, show (10 : Int32) = nI 10 from rfl, pk_mul, nI_add, show (48 : Int32) = nI 48 from rfl, pk_sub (by omega)]
        have : 10 * vD bs f i + bs (f + i) - 48 = vD bs f (i + 1) := by
          show _ = 10 * vD bs f i + (bs (f + i) - 48)
          omega
        rw [this]
    unfold b_X9_next_140
    rw [s23, e1] at y
    rw [s23, e1, Option.bind_some, k1, Option.bind_some, if_neg n10, y, Option.bind_some, letv_eq, letv_eq, up2_slot (show (23 : Nat) ≠ 26 by decide), s23, nI_1]
    refine congrArg some (congrArg Sum.inl ?_)
    rw [← hS]
    funext b j
    by_cases w : b = 113 ∧ j = 23
    · obtain ⟨rfl, rfl⟩ := w
      rw [up2_same, up2_same]; rfl
    · rw [up2_o w, up2_o w]
      by_cases w2 : b = 113 ∧ j = 26
      · obtain ⟨rfl, rfl⟩ := w2
        rw [up2_same, up2_same]
      · rw [up2_o w2, up2_o w2, up2_o w, up2_o w2]) (by
    show b_X9_next_140 (up2 (up2 m 113 26 (nI (vD bs f (min 3 (e - f))))) 113 23 (nI (f + (e - f)))) = _
    rw [show f + (e - f) = e by omega]
    unfold b_X9_next_140
    rw [up2_same]
    by_cases q : e = n
    · rw [m_look0 (hBS _ _) (by omega) (by omega), Option.bind_some, show f_X9_in (-1 : Int32).toInt64 48 57 = some 0 by decide, Option.bind_some, if_pos rfl]
    · have k1 := in_D _ (hb e (by omega))
      rw [if_neg (h4 (by omega))] at k1
      rw [m_look (hBS _ _) hn (by omega), Option.bind_some, k1, Option.bind_some, if_pos rfl])
  have hid : up2 (up2 m 113 26 (nI (vD bs f (min 3 0)))) 113 23 (nI (f + 0)) = m := by
    rw [up2_is (m := m) (i := 26) (by rw [h26]; rfl), up2_is (by rw [h23]; rfl)]
  rw [hid] at h
  exact h
theorem m_need {m : Mm} {a v : Int32} (h : m 113 27 = 0) : f_X9_needs m a v = some (if a = 0 then up2 (up2 m 113 27 v) 113 28 (m 113 24) else m) := by
  unfold f_X9_needs
  by_cases q : a = 0
  · rw [if_pos q, if_pos h, letv_eq, letv_eq, if_pos q, up2_slot (show (24 : Nat) ≠ 27 by decide)]
  · rw [if_neg q, if_neg q]
/-- what stands behind next -/
def NX (bs : Nat → Nat) (f k e : Nat) (m m' : Mm) : Prop := (∀ b, b ≠ 113 → m' b = m b) ∧ (∀ i, i < 23 ∨ 28 < i → m' 113 i = m 113 i) ∧ m' 113 24 = nI f ∧ m' 113 25 = nI (krN k) ∧ (k ≠ 0 → m' 113 23 = nI e) ∧ (k = 3 → m' 113 26 = nI (vD bs f (min 3 (e - f)))) ∧ (badT k f e → m' 113 27 = 1 ∧ m' 113 28 = nI f) ∧ (¬ badT k f e → m' 113 27 = 0)
theorem m_tok {n : Nat} {bs : Nat → Nat} {m : Mm} {F pos f k e : Nat} (hF : 5000 ≤ F) (hn : n ≤ 400) (hb : ∀ i, i < n → bs i < 256) (hB : MBy n bs m) (h0 : m 113 27 = 0) (h23 : m 113 23 = nI pos) (ht : TK n bs pos f k e) : ∃ m', f_X9_next F m = some m' ∧ NX bs f k e m m' := by
  obtain ⟨t1, t2, t3, t4⟩ := ht
  have x1 := m_skip (F := F) hF hn hb hB h23 t1 t2 t3 (fun q => by
    rcases t4 with ⟨w, -⟩ | ⟨-, w, w2, -⟩
    · omega
    · rw [← w]; exact w2)
  have hc : m 113 27 ≤ 0 := by rw [h0]; exact Int32.le_refl _
  generalize hm2 : up2 m 113 23 (nI f) = m2 at x1
  have s2 : m2 113 23 = nI f := by rw [← hm2, up2_same]
  generalize hm6 : up2 m2 113 24 (m2 113 23) = m6
  have B6 : MBy n bs m6 := by rw [← hm6, ← hm2]; exact MBy_up (MBy_up hB (by decide)) (by decide)
  have g6 : ∀ b i, ¬ (b = 113 ∧ (i = 23 ∨ i = 24)) → m6 b i = m b i := fun b i h => by
    rw [← hm6, up2_o (fun w => h ⟨w.1, Or.inr w.2⟩), ← hm2, up2_o (fun w => h ⟨w.1, Or.inl w.2⟩)]
  have g23 : m6 113 23 = nI f := by rw [← hm6, up2_slot (by decide), s2]
  have g24 : m6 113 24 = nI f := by rw [← hm6, up2_same, s2]
  have g27 : m6 113 27 = 0 := by rw [g6 113 27 (by omega), h0]
  have hin : ∀ m' : Mm, (∀ b i, ¬ (b = 113 ∧ 23 ≤ i ∧ i ≤ 28) → m' b i = m6 b i) → (∀ b, b ≠ 113 → m' b = m b) ∧ (∀ i, i < 23 ∨ 28 < i → m' 113 i = m 113 i) := fun m' h => ⟨fun b hb1 => funext fun i => by rw [h b i (by omega), g6 b i (by omega)], fun i hi => by rw [h 113 i (by omega), g6 113 i (by omega)]⟩
  rcases t4 with ⟨w, w2, w3⟩ | ⟨w, w2, w3, w4⟩
  · subst w w2
    refine ⟨up2 m6 113 25 0, ?_, (hin _ (fun b i h => up2_o (by omega))).1, (hin _ (fun b i h => up2_o (by omega))).2, by rw [up2_slot (by decide), g24], up2_same, fun q => absurd rfl q, fun q => absurd q (by decide), fun q => by omega, fun _ => by rw [up2_slot (by decide), g27]⟩
    unfold f_X9_next
    rw [if_pos hc, x1, Option.bind_some, letv_eq, hm6, g23, m_look0 B6 (Nat.le_refl _) (by omega), Option.bind_some, if_neg (by decide), letv_eq]
  · have hbf := hb f w
    have hk := kdB_le _ hbf
    have h0x : (0 : Int32) ≤ nI (bs f) := nI_le (a := 0) (by omega) (by omega)
    have kl := in_L _ hbf
    have kd := in_D _ hbf
    rcases w4 with ⟨w5, w6, w7, w8, w9⟩ | ⟨w5, w6⟩
    · rcases w5 with q | q
      · -- a word
        subst q
        rw [if_pos w2.symm] at kl
        have r := m_letters (m := up2 m6 113 25 1) (F := F) hF hn hb (MBy_up B6 (by decide)) (by rw [up2_slot (by decide), g23]) (Nat.le_of_lt w6) w7 w8 w9
        refine ⟨up2 (up2 m6 113 25 1) 113 23 (nI e), ?_, (hin _ (fun b i h => by rw [up2_o (by omega), up2_o (by omega)])).1, (hin _ (fun b i h => by rw [up2_o (by omega), up2_o (by omega)])).2, by rw [up2_slot (by decide), up2_slot (by decide), g24], by rw [up2_slot (by decide), up2_same]; rfl, fun _ => up2_same, fun q => absurd q (by decide), fun q => by omega, fun _ => by rw [up2_slot (by decide), up2_slot (by decide), g27]⟩
        unfold f_X9_next
        rw [if_pos hc, x1, Option.bind_some, letv_eq, hm6, g23, m_look B6 hn w, Option.bind_some, if_pos h0x, kl, Option.bind_some, if_neg n10, letv_eq, r]
        rfl
      · -- a number
        subst q
        rw [if_neg (by omega)] at kl
        rw [if_pos w2.symm] at kd
        have r := m_digs (m := up2 (up2 m6 113 25 2) 113 26 0) (F := F) hF hn hb (MBy_up (MBy_up B6 (by decide)) (by decide)) (by rw [up2_slot (by decide), up2_slot (by decide), g23]) (by rw [up2_slot (by decide), up2_slot (by decide), g24]) up2_same (Nat.le_of_lt w6) w7 w8 w9
        rw [up2_tw] at r
        generalize hm7 : up2 (up2 (up2 m6 113 25 2) 113 26 (nI (vD bs f (min 3 (e - f))))) 113 23 (nI e) = m7 at r
        have g7 : ∀ b i, ¬ (b = 113 ∧ 23 ≤ i ∧ i ≤ 26) → m7 b i = m6 b i := fun b i h => by rw [← hm7, up2_o (by omega), up2_o (by omega), up2_o (by omega)]
        have u23 : m7 113 23 = nI e := by rw [← hm7, up2_same]
        have u24 : m7 113 24 = nI f := by rw [← hm7, up2_slot (by decide), up2_slot (by decide), up2_slot (by decide), g24]
        have u25 : m7 113 25 = 2 := by rw [← hm7, up2_slot (by decide), up2_slot (by decide), up2_same]
        have u26 : m7 113 26 = nI (vD bs f (min 3 (e - f))) := by rw [← hm7, up2_slot (by decide), up2_same]
        have u27 : m7 113 27 = 0 := by rw [g7 113 27 (by omega), g27]
        have y : (if (3 : Int32) < ((m7 113 23) - (m7 113 24)) then (some 0) else (some 1) : Option (Int32)) = some (if 3 < e - f then 0 else 1) := by
          rw [u23, u24, pk_sub (Nat.le_of_lt w6)]
          by_cases q : 3 < e - f
          · have c3 : (3 : Int32) < nI (e - f) := nI_lt (a := 3) q (by omega)
            rw [if_pos c3, if_pos q]
          · have c3 : ¬ (3 : Int32) < nI (e - f) := nI_nlt (a := 3) (by omega) (by decide)
            rw [if_neg c3, if_neg q]
        have nd := m_need (m := m7) (a := if 3 < e - f then 0 else 1) (v := 1) u27
        refine ⟨_, by unfold f_X9_next; rw [if_pos hc, x1, Option.bind_some, letv_eq, hm6, g23, m_look B6 hn w, Option.bind_some, if_pos h0x, kl, Option.bind_some, if_pos rfl, kd, Option.bind_some, if_neg n10, letv_eq, letv_eq, r, Option.bind_some, y, Option.bind_some, nd]; rfl, ?_⟩
        by_cases q : 3 < e - f
        · rw [if_pos q, if_pos rfl]
          have hh : ∀ b i, ¬ (b = 113 ∧ 23 ≤ i ∧ i ≤ 28) → up2 (up2 m7 113 27 1) 113 28 (m7 113 24) b i = m6 b i := fun b i h => by rw [up2_o (by omega), up2_o (by omega), g7 b i (by omega)]
          exact ⟨(hin _ hh).1, (hin _ hh).2, by rw [up2_slot (by decide), up2_slot (by decide), u24], by rw [up2_slot (by decide), up2_slot (by decide), u25]; rfl, fun _ => by rw [up2_slot (by decide), up2_slot (by decide), u23], fun _ => by rw [up2_slot (by decide), up2_slot (by decide), u26], fun _ => ⟨by rw [up2_slot (by decide), up2_same], by rw [up2_same, u24]⟩, fun q2 => absurd (Or.inr ⟨rfl, q⟩) q2⟩
        · rw [if_neg q, if_neg n10]
          exact ⟨(hin _ (fun b i h => g7 b i (by omega))).1, (hin _ (fun b i h => g7 b i (by omega))).2, u24, by rw [u25]; rfl, fun _ => u23, fun _ => u26, fun q2 => by omega, fun _ => u27⟩
    · -- a sign or another
      rw [if_neg (by omega)] at kl
      rw [if_neg (by omega)] at kd
      have y : (if nI (bs f) = (59 : Int32) then (some 1) else (some 0) : Option (Int32)) = some (if k = 4 then 1 else 0) := by
        by_cases q : k = 4
        · rw [if_pos q, if_pos (hk.2.2.2.1.mp (by omega))]
        · rw [if_neg q, if_neg (fun x => q (by rw [w2]; exact hk.2.2.2.1.mpr x))]
      have u27 : up2 m6 113 25 3 113 27 = 0 := by rw [up2_slot (by decide), g27]
      have nd := m_need (m := up2 m6 113 25 3) (a := if k = 4 then 1 else 0) (v := 1) u27
      have hkr : krN k = 3 := by unfold krN; rw [if_neg (by omega), if_neg (by omega), if_neg (by omega)]
      by_cases q : k = 4
      · rw [if_pos q, if_neg n10] at nd
        rw [if_pos q] at y
        refine ⟨up2 (up2 m6 113 25 3) 113 23 (nI e), ?_, (hin _ (fun b i h => by rw [up2_o (by omega), up2_o (by omega)])).1, (hin _ (fun b i h => by rw [up2_o (by omega), up2_o (by omega)])).2, by rw [up2_slot (by decide), up2_slot (by decide), g24], by rw [up2_slot (by decide), up2_same, hkr]; rfl, fun _ => up2_same, fun q => by omega, fun q => by omega, fun _ => by rw [up2_slot (by decide), u27]⟩
        unfold f_X9_next
        rw [if_pos hc, x1, Option.bind_some, letv_eq, hm6, g23, m_look B6 hn w, Option.bind_some, if_pos h0x, kl, Option.bind_some, if_pos rfl, kd, Option.bind_some, if_pos rfl, letv_eq, y, Option.bind_some, nd, Option.bind_some, letv_eq, up2_slot (show (23 : Nat) ≠ 25 by decide), g23, nI_1, w6]
      · rw [if_neg q, if_pos rfl] at nd
        rw [if_neg q] at y
        have hh : ∀ b i, ¬ (b = 113 ∧ 23 ≤ i ∧ i ≤ 28) → up2 (up2 (up2 (up2 m6 113 25 3) 113 27 1) 113 28 (up2 m6 113 25 3 113 24)) 113 23 (nI e) b i = m6 b i := fun b i h => by rw [up2_o (by omega), up2_o (by omega), up2_o (by omega), up2_o (by omega)]
        refine ⟨up2 (up2 (up2 (up2 m6 113 25 3) 113 27 1) 113 28 (up2 m6 113 25 3 113 24)) 113 23 (nI e), ?_, (hin _ hh).1, (hin _ hh).2, by rw [up2_slot (by decide), up2_slot (by decide), up2_slot (by decide), up2_slot (by decide), g24], by rw [up2_slot (by decide), up2_slot (by decide), up2_slot (by decide), up2_same, hkr]; rfl, fun _ => up2_same, fun q => by omega, fun _ => ⟨by rw [up2_slot (by decide), up2_slot (by decide), up2_same], by rw [up2_slot (by decide), up2_same, up2_slot (by decide), g24]⟩, fun q2 => absurd (Or.inl (by omega)) q2⟩
        unfold f_X9_next
        rw [if_pos hc, x1, Option.bind_some, letv_eq, hm6, g23, m_look B6 hn w, Option.bind_some, if_pos h0x, kl, Option.bind_some, if_pos rfl, kd, Option.bind_some, if_pos rfl, letv_eq, y, Option.bind_some, nd, Option.bind_some, letv_eq, up2_slot (show (23 : Nat) ≠ 28 by decide), up2_slot (show (23 : Nat) ≠ 27 by decide), up2_slot (show (23 : Nat) ≠ 25 by decide), g23, nI_1, w6]

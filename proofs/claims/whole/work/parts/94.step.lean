/-! text: both sides in step, token by token -/
def FRc (m m' : Mm) : Prop := (∀ b, b ≠ 1 → m' b = m b) ∧ ∀ i, (i < 3 ∨ (4 < i ∧ i < 7) ∨ 9 < i) → m' 1 i = m 1 i
def FRm (m m' : Mm) : Prop := (∀ b, b ≠ 113 → m' b = m b) ∧ ∀ i, (i < 23 ∨ 28 < i) → m' 113 i = m 113 i
theorem FRc.rf {m : Mm} : FRc m m := ⟨fun _ _ => rfl, fun _ _ => rfl⟩
theorem FRm.rf {m : Mm} : FRm m m := ⟨fun _ _ => rfl, fun _ _ => rfl⟩
theorem FRc.tr {m m1 m2 : Mm} (h1 : FRc m m1) (h2 : FRc m1 m2) : FRc m m2 := ⟨fun b hb => (h2.1 b hb).trans (h1.1 b hb), fun i hi => (h2.2 i hi).trans (h1.2 i hi)⟩
theorem FRm.tr {m m1 m2 : Mm} (h1 : FRm m m1) (h2 : FRm m1 m2) : FRm m m2 := ⟨fun b hb => (h2.1 b hb).trans (h1.1 b hb), fun i hi => (h2.2 i hi).trans (h1.2 i hi)⟩
theorem FRc.up {m m1 : Mm} {i : Nat} {v : Int32} (h : FRc m m1) (hi : i = 3 ∨ i = 4 ∨ i = 7 ∨ i = 8 ∨ i = 9) : FRc m (up2 m1 1 i v) := ⟨fun b hb => by rw [up2_ne hb, h.1 b hb], fun j hj => by rw [up2_slot (by omega), h.2 j hj]⟩
theorem FRm.up {m m1 : Mm} {i : Nat} {v : Int32} (h : FRm m m1) (hi : 23 ≤ i ∧ i ≤ 28) : FRm m (up2 m1 113 i v) := ⟨fun b hb => by rw [up2_ne hb, h.1 b hb], fun j hj => by rw [up2_slot (by omega), h.2 j hj]⟩
def MAt (n : Nat) (bs : Nat → Nat) (f k e : Nat) (m : Mm) : Prop := MBy n bs m ∧ m 113 24 = nI f ∧ m 113 25 = nI (krN k) ∧ (k ≠ 0 → m 113 23 = nI e) ∧ (k = 3 → m 113 26 = nI (vD bs f (min 3 (e - f)))) ∧ (badT k f e → m 113 27 = 1 ∧ m 113 28 = nI f) ∧ (¬ badT k f e → m 113 27 = 0)
def CAt (n : Nat) (bs : Nat → Nat) (pos f k e : Nat) (m : Mm) : Prop := CB n bs m ∧ TK n bs pos f k e ∧ m 1 7 = nI f ∧ m 1 8 = nI e ∧ m 1 9 = nI k
/-- between two tokens: the reference has read the next one ahead -/
def SSt (n : Nat) (bs : Nat → Nat) (q : Nat) (mc mr : Mm) : Prop := ∃ pos f k e, q ≤ pos ∧ pos ≤ n ∧ TK n bs pos f k e ∧ CB n bs mc ∧ mc 1 3 = 0 ∧ mc 1 8 = nI pos ∧ MAt n bs f k e mr
/-- at a token: both have read it -/
def ATt (n : Nat) (bs : Nat → Nat) (q f k e : Nat) (mc mr : Mm) : Prop := (∃ pos, q ≤ pos ∧ CAt n bs pos f k e mc) ∧ mc 1 3 = 0 ∧ ¬ badT k f e ∧ MAt n bs f k e mr
/-- behind a fault -/
def FAt (n : Nat) (bs : Nat → Nat) (mc mr : Mm) : Prop := (∃ pos f k e, CAt n bs pos f k e mc) ∧ ∃ v a, 0 < v ∧ v < 6 ∧ mc 1 3 = nI v ∧ mc 1 4 = nI a ∧ mr 113 27 = nI v ∧ mr 113 28 = nI a
theorem CB_fr {n : Nat} {bs : Nat → Nat} {m m' : Mm} (h : CB n bs m) (h1 : m' 1 1 = m 1 1) (h2 : m' 2 = m 2) : CB n bs m' := ⟨by rw [h1]; exact h.1, fun i hi => by rw [h2]; exact h.2 i hi⟩
theorem MB_fr {n : Nat} {bs : Nat → Nat} {m m' : Mm} (h : MBy n bs m) (h1 : m' 113 22 = m 113 22) (h2 : m' 127 = m 127) : MBy n bs m' := ⟨by rw [h1]; exact h.1, fun i hi => by rw [h2]; exact h.2 i hi⟩
theorem CA_fr {n : Nat} {bs : Nat → Nat} {pos f k e : Nat} {m m' : Mm} (h : CAt n bs pos f k e m) (h1 : ∀ i, i = 1 ∨ 2 < i → m' 1 i = m 1 i) (h2 : m' 2 = m 2) : CAt n bs pos f k e m' := ⟨CB_fr h.1 (h1 1 (by omega)) h2, h.2.1, by rw [h1 7 (by omega)]; exact h.2.2.1, by rw [h1 8 (by omega)]; exact h.2.2.2.1, by rw [h1 9 (by omega)]; exact h.2.2.2.2⟩
theorem MA_fr {n : Nat} {bs : Nat → Nat} {f k e : Nat} {m m' : Mm} (h : MAt n bs f k e m) (h1 : ∀ i, 22 ≤ i → i ≤ 28 → m' 113 i = m 113 i) (h2 : m' 127 = m 127) : MAt n bs f k e m' := ⟨MB_fr h.1 (h1 22 (by omega) (by omega)) h2, by rw [h1 24 (by omega) (by omega)]; exact h.2.1, by rw [h1 25 (by omega) (by omega)]; exact h.2.2.1, by rw [h1 23 (by omega) (by omega)]; exact h.2.2.2.1, by rw [h1 26 (by omega) (by omega)]; exact h.2.2.2.2.1, by rw [h1 27 (by omega) (by omega), h1 28 (by omega) (by omega)]; exact h.2.2.2.2.2.1, by rw [h1 27 (by omega) (by omega)]; exact h.2.2.2.2.2.2⟩
theorem SS_fr {n : Nat} {bs : Nat → Nat} {q q' : Nat} {mc mr mc' mr' : Mm} (h : SSt n bs q mc mr) (hq : q' ≤ q) (c1 : ∀ i, i = 1 ∨ 2 < i → mc' 1 i = mc 1 i) (c2 : mc' 2 = mc 2) (r1 : ∀ i, 22 ≤ i → i ≤ 28 → mr' 113 i = mr 113 i) (r2 : mr' 127 = mr 127) : SSt n bs q' mc' mr' := by
  obtain ⟨pos, f, k, e, h1, h2, h3, h4, h5, h6, h7⟩ := h
  exact ⟨pos, f, k, e, by omega, h2, h3, CB_fr h4 (c1 1 (by omega)) c2, by rw [c1 3 (by omega)]; exact h5, by rw [c1 8 (by omega)]; exact h6, MA_fr h7 r1 r2⟩
theorem AT_fr {n : Nat} {bs : Nat → Nat} {q f k e : Nat} {mc mr mc' mr' : Mm} (h : ATt n bs q f k e mc mr) (c1 : ∀ i, i = 1 ∨ 2 < i → mc' 1 i = mc 1 i) (c2 : mc' 2 = mc 2) (r1 : ∀ i, 22 ≤ i → i ≤ 28 → mr' 113 i = mr 113 i) (r2 : mr' 127 = mr 127) : ATt n bs q f k e mc' mr' := by
  obtain ⟨⟨pos, h1, h2⟩, h3, h4, h5⟩ := h
  exact ⟨⟨pos, h1, CA_fr h2 c1 c2⟩, by rw [c1 3 (by omega)]; exact h3, h4, MA_fr h5 r1 r2⟩
theorem FA_fr {n : Nat} {bs : Nat → Nat} {mc mr mc' mr' : Mm} (h : FAt n bs mc mr) (c1 : ∀ i, i = 1 ∨ 2 < i → mc' 1 i = mc 1 i) (c2 : mc' 2 = mc 2) (r1 : ∀ i, 22 ≤ i → i ≤ 28 → mr' 113 i = mr 113 i) : FAt n bs mc' mr' := by
  obtain ⟨⟨pos, f, k, e, h1⟩, v, a, h2, h3, h4, h5, h6, h7⟩ := h
  exact ⟨⟨pos, f, k, e, CA_fr h1 c1 c2⟩, v, a, h2, h3, by rw [c1 3 (by omega)]; exact h4, by rw [c1 4 (by omega)]; exact h5, by rw [r1 27 (by omega) (by omega)]; exact h6, by rw [r1 28 (by omega) (by omega)]; exact h7⟩
theorem FA_mk {n : Nat} {bs : Nat → Nat} {pos f k e v : Nat} {mc mr : Mm} (h : CAt n bs pos f k e mc) (h0 : 0 < v) (h1 : v < 6) (h2 : mr 113 27 = nI v) (h3 : mr 113 28 = nI f) : FAt n bs (up2 (up2 mc 1 3 (nI v)) 1 4 (mc 1 7)) mr := by
  refine ⟨⟨pos, f, k, e, CB_fr h.1 (by rw [up2_slot (by decide), up2_slot (by decide)]) (by rw [up2_ne (by decide), up2_ne (by decide)]), h.2.1, ?_, ?_, ?_⟩, v, f, h0, h1, ?_, ?_, h2, h3⟩
  · rw [up2_slot (by decide), up2_slot (by decide)]; exact h.2.2.1
  · rw [up2_slot (by decide), up2_slot (by decide)]; exact h.2.2.2.1
  · rw [up2_slot (by decide), up2_slot (by decide)]; exact h.2.2.2.2
  · rw [up2_slot (by decide), up2_same]
  · rw [up2_same]; exact h.2.2.1
theorem FA_c {n : Nat} {bs : Nat → Nat} {mc mr : Mm} (h : FAt n bs mc mr) : ¬ mc 1 3 = 0 := by
  obtain ⟨-, v, a, h2, h3, h4, -⟩ := h
  rw [h4]; exact nI_ne0 h2 (by omega)
theorem FA_m {n : Nat} {bs : Nat → Nat} {mc mr : Mm} (h : FAt n bs mc mr) : ¬ mr 113 27 = 0 ∧ ¬ mr 113 27 ≤ 0 := by
  obtain ⟨-, v, a, h2, h3, -, -, h4, -⟩ := h
  rw [h4]; exact ⟨nI_ne0 h2 (by omega), nI_nle h2 (by omega)⟩
theorem AT_m {n : Nat} {bs : Nat → Nat} {q f k e : Nat} {mc mr : Mm} (h : ATt n bs q f k e mc mr) : mr 113 27 = 0 := h.2.2.2.2.2.2.2.2.2 h.2.2.1
/-- behind a fault nothing is read any more -/
theorem c_nxF {m : Mm} {F : Nat} (h : ¬ m 1 3 = 0) : f_X2_nextToken F m = some m := by unfold f_X2_nextToken; rw [if_neg h]
theorem m_nxF {m : Mm} {F : Nat} (h : ¬ m 113 27 ≤ 0) : f_X9_next F m = some m := by unfold f_X9_next; rw [if_neg h]
theorem c_rfF {m : Mm} {v : Int32} (h : ¬ m 1 3 = 0) : f_X2_refuse m v = some m := by rw [c_refuse, if_neg h]
theorem m_ndF {m : Mm} {a v : Int32} (h : ¬ m 113 27 = 0) : f_X9_needs m a v = some m := by
  unfold f_X9_needs
  by_cases q : a = 0
  · rw [if_pos q, if_neg h]
  · rw [if_neg q]
theorem c_tnF {m : Mm} {F : Nat} {a b : Int32} (h : ¬ m 1 3 = 0) : f_X2_takeNumber F m a b = some (0, m) := by unfold f_X2_takeNumber; rw [c_nxF h, Option.bind_some, if_neg h]
theorem m_inF {m : Mm} {a b : Int32} (h : ¬ m 113 27 = 0) : f_X9_isNumber m a b = some m := by unfold f_X9_isNumber; rw [if_neg h, Option.bind_some, if_neg h]
theorem m_rnF {m : Mm} {F : Nat} {a b : Int32} (h : ¬ m 113 27 = 0) (h2 : ¬ m 113 27 ≤ 0) : f_X9_readNumber F m a b = some (m 113 26, m) := by unfold f_X9_readNumber; rw [m_inF h, Option.bind_some, letv_eq, m_nxF h2, Option.bind_some]
/-- a token is read -/
theorem zt_peek {n : Nat} {bs : Nat → Nat} {mc mr : Mm} {F q : Nat} (hF : 5000 ≤ F) (hn : n ≤ 400) (hb : ∀ i, i < n → bs i < 256) (h : SSt n bs q mc mr) : ∃ mc', f_X2_nextToken F mc = some mc' ∧ FRc mc mc' ∧ ((∃ f k e, ATt n bs q f k e mc' mr) ∨ FAt n bs mc' mr) := by
  obtain ⟨pos, f, k, e, h1, h2, ht, hB, h0, h8, hM⟩ := h
  have hc := c_tok (F := F) hF hn hb hB h0 h8 ht
  have fr : FRc mc (tkC mc f k e) := by
    unfold tkC
    exact ((FRc.rf.up (by omega)).up (by omega)).up (by omega)
  have r7 : tkC mc f k e 1 7 = nI f := by unfold tkC; rw [up2_slot (by decide), up2_slot (by decide), up2_same]
  have r8 : tkC mc f k e 1 8 = nI e := by unfold tkC; rw [up2_same]
  have r9 : tkC mc f k e 1 9 = nI k := by unfold tkC; rw [up2_slot (by decide), up2_same]
  have r3 : tkC mc f k e 1 3 = 0 := by unfold tkC; rw [up2_slot (by decide), up2_slot (by decide), up2_slot (by decide), h0]
  have hA : CAt n bs pos f k e (tkC mc f k e) := ⟨CB_fr hB (fr.2 1 (by omega)) (fr.1 2 (by decide)), ht, r7, r8, r9⟩
  by_cases w : badT k f e
  · rw [if_pos w] at hc
    have hx := FA_mk (v := 1) (mr := mr) hA (by decide) (by decide) (hM.2.2.2.2.2.1 w).1 (hM.2.2.2.2.2.1 w).2
    rw [r7] at hx
    exact ⟨_, hc, (fr.up (by omega)).up (by omega), Or.inr hx⟩
  · rw [if_neg w] at hc
    exact ⟨_, hc, fr, Or.inl ⟨f, k, e, ⟨pos, h1, hA⟩, r3, w, hM⟩⟩
theorem TK_lt {n : Nat} {bs : Nat → Nat} {pos f k e : Nat} (h : TK n bs pos f k e) (hk : k ≠ 0) : f < n ∧ pos ≤ f ∧ f < e ∧ e ≤ n := by
  obtain ⟨t1, t2, t3, t4⟩ := h
  rcases t4 with ⟨w, w2, w3⟩ | ⟨w, w2, w3, ⟨w4, w5, w6, w7, w8⟩ | ⟨w4, w5⟩⟩
  · exact absurd w2 hk
  · exact ⟨w, t1, w5, w6⟩
  · exact ⟨w, t1, by omega, by omega⟩
theorem TK_k {n : Nat} {bs : Nat → Nat} {pos f k e : Nat} (h : TK n bs pos f k e) : k = 0 ∨ ((k = 2 ∨ k = 3) ∧ f < e ∧ e ≤ n ∧ ∀ i, f ≤ i → i < e → kdB (bs i) = k) ∨ k = 4 ∨ k = 5 := by
  obtain ⟨t1, t2, t3, t4⟩ := h
  rcases t4 with ⟨w, w2, w3⟩ | ⟨w, w2, w3, ⟨w4, w5, w6, w7, w8⟩ | ⟨w4, w5⟩⟩
  · exact Or.inl w2
  · exact Or.inr (Or.inl ⟨w4, w5, w6, w7⟩)
  · exact Or.inr (Or.inr w4)
/-- the reference reads the next token ahead -/
theorem zt_adv {n : Nat} {bs : Nat → Nat} {mc mr : Mm} {F q f k e : Nat} (hF : 5000 ≤ F) (hn : n ≤ 400) (hb : ∀ i, i < n → bs i < 256) (h : ATt n bs q f k e mc mr) (hk : k ≠ 0) : ∃ mr', f_X9_next F mr = some mr' ∧ FRm mr mr' ∧ SSt n bs (q + 1) mc mr' := by
  obtain ⟨⟨pos, h1, hB, ht, r7, r8, r9⟩, h0, hw, M1, M2, M3, M4, M5, M6, M7⟩ := h
  obtain ⟨g1, g2, g3, g4⟩ := TK_lt ht hk
  obtain ⟨f2, k2, e2, ht2⟩ := TK_ex (n := n) (bs := bs) hb (pos := e) g4
  obtain ⟨mr', h3, N1, N2, N3, N4, N5, N6, N7, N8⟩ := m_tok (F := F) hF hn hb M1 (M7 hw) (M4 hk) ht2
  exact ⟨mr', h3, ⟨N1, N2⟩, e, f2, k2, e2, by omega, g4, ht2, hB, h0, r8, MB_fr M1 (N2 22 (by omega)) (N1 127 (by decide)), N3, N4, N5, N6, N7, N8⟩
theorem lt_u {v u : Nat} (hv : v < 2 ^ 20) (hu : u < 2 ^ 20) : (nI u - 1 < nI v) = (u ≤ v) := propext (by
  rw [Int32.lt_iff_toInt_lt, show (1 : Int32) = nI 1 from rfl, pk_sub_toInt (by omega) (by decide), nI_toInt (by omega)]
  omega)
theorem le_u {v u : Nat} (hv : v < 2 ^ 20) (hu : u < 2 ^ 20) : (nI v ≤ nI u - 1) = (v < u) := propext (by
  rw [Int32.le_iff_toInt_le, show (1 : Int32) = nI 1 from rfl, pk_sub_toInt (by omega) (by decide), nI_toInt (by omega)]
  omega)
theorem krN_c {k : Nat} (hk : k = 0 ∨ k = 2 ∨ k = 3 ∨ k = 4 ∨ k = 5) : ((nI (krN k) = (1 : Int32)) = (k = 2)) ∧ ((nI (krN k) = (2 : Int32)) = (k = 3)) ∧ ((nI (krN k) = (3 : Int32)) = (k = 4 ∨ k = 5)) ∧ ((nI (krN k) = (0 : Int32)) = (k = 0)) := by
  rcases hk with rfl | rfl | rfl | rfl | rfl <;> decide
theorem TK_k5 {n : Nat} {bs : Nat → Nat} {pos f k e : Nat} (h : TK n bs pos f k e) : k = 0 ∨ k = 2 ∨ k = 3 ∨ k = 4 ∨ k = 5 := by
  have := TK_k h
  omega
/-- a number, ahead of the next token -/
theorem zt_num1 {n : Nat} {bs : Nat → Nat} {mc mr : Mm} {F q : Nat} (hF : 5000 ≤ F) (hn : n ≤ 400) (hb : ∀ i, i < n → bs i < 256) (h : SSt n bs q mc mr) (lo u : Nat) (hlo : lo < 2 ^ 20) (hu : u < 2 ^ 20) : ∃ x mc' mr', f_X2_takeNumber F mc (nI lo) (nI u - 1) = some (x, mc') ∧ f_X9_isNumber mr (nI lo) (nI u - 1) = some mr' ∧ FRc mc mc' ∧ FRm mr mr' ∧ ((∃ f e, mr 113 27 = 0 ∧ ATt n bs q f 3 e mc' mr' ∧ ∃ v, lo ≤ v ∧ v < u ∧ x = nI v ∧ mr' 113 26 = nI v) ∨ FAt n bs mc' mr') := by
  obtain ⟨m2, a1, a2, a3 | a3⟩ := zt_peek (F := F) hF hn hb h
  · obtain ⟨f, k, e, hA⟩ := a3
    obtain ⟨⟨pos, h1, hC⟩, h0, hw, hM⟩ := id hA
    obtain ⟨hB, ht, r7, r8, r9⟩ := id hC
    obtain ⟨M1, M2, M3, M4, M5, M6, M7⟩ := id hM
    have hk5 := TK_k5 ht
    have z27 := M7 hw
    have k3 : (nI k = (3 : Int32)) = (k = 3) := nq (c := 3) (by omega) (by decide)
    by_cases q3 : k = 3
    · subst q3
      obtain ⟨g1, g2, g3, g4⟩ := TK_lt ht (by decide)
      have gd : ∀ i, f ≤ i → i < e → kdB (bs i) = 3 := by
        rcases TK_k ht with w | ⟨-, -, -, w⟩ | w | w
        · omega
        · exact w
        · omega
        · omega
      have hl : e - f ≤ 3 := by omega
      have hv := c_val (F := F) (f := f) hF hn hb hB r8 (by omega) g4 gd
      have h26 := M5 rfl
      rw [show min 3 (e - f) = e - f by omega] at h26
      have hvl : vD bs f (e - f) < 10 ^ (e - f) := vD_lt _ (fun j hj => by
        have := (kdB_le _ (hb (f + j) (by omega))).2.2.2.2.1 (gd _ (by omega) (by omega))
        omega)
      have hv1000 : vD bs f (e - f) < 1000 := by
        have : (10 : Nat) ^ (e - f) ≤ 10 ^ 3 := Nat.pow_le_pow_right (by decide) hl
        omega
      generalize hvv : vD bs f (e - f) = v at hv h26 hv1000
      have t1 : f_X2_takeNumber F mc (nI lo) (nI u - 1) = if v < lo then (f_X2_refuse m2 3).bind fun m9 => some (0, m9) else if v < u then some (nI v, m2) else (f_X2_refuse m2 3).bind fun m9 => some (0, m9) := by
        unfold f_X2_takeNumber
        rw [a1, Option.bind_some, if_pos h0, r9, if_pos (show nI 3 = (3 : Int32) from rfl), letv_eq, r7, hv, Option.bind_some]
        simp only [le_u (show v < 2 ^ 20 by omega) hu, nI_ltI (show v < 2 ^ 31 by omega) (show lo < 2 ^ 31 by omega)]
      have t2 : f_X9_isNumber mr (nI lo) (nI u - 1) = if v < lo then f_X9_needs mr 0 3 else if u ≤ v then f_X9_needs mr 0 3 else f_X9_needs mr 1 3 := by
        unfold f_X9_isNumber
        have y : (if mr 113 25 = (2 : Int32) then (some 1) else (some 0) : Option Int32) = some 1 := by rw [M3]; exact if_pos rfl
        have nd := m_need (m := mr) (a := 1) (v := 2) z27
        rw [if_neg n10] at nd
        rw [if_pos z27, y, Option.bind_some, nd, Option.bind_some, Option.bind_some, if_pos z27, h26, in_i]
        simp only [lt_u (show v < 2 ^ 20 by omega) hu, nI_ltI (show v < 2 ^ 31 by omega) (show lo < 2 ^ 31 by omega)]
        by_cases w : v < lo
        · rw [if_pos w, if_pos w, Option.bind_some]; cases f_X9_needs mr 0 3 <;> rfl
        · rw [if_neg w, if_neg w]
          by_cases w2 : u ≤ v
          · rw [if_pos w2, if_pos w2, Option.bind_some]; cases f_X9_needs mr 0 3 <;> rfl
          · rw [if_neg w2, if_neg w2, Option.bind_some]; cases f_X9_needs mr 1 3 <;> rfl
      have n0 := m_need (m := mr) (a := 0) (v := 3) z27
      have n1 := m_need (m := mr) (a := 1) (v := 3) z27
      rw [if_pos rfl] at n0
      rw [if_neg n10] at n1
      have rf := c_refuse (m := m2) (v := 3)
      rw [if_pos h0] at rf
      have bad : ∃ x mc' mr', (f_X2_refuse m2 3).bind (fun m9 => some ((0 : Int32), m9)) = some (x, mc') ∧ f_X9_needs mr 0 3 = some mr' ∧ FRc mc mc' ∧ FRm mr mr' ∧ ((∃ f e, mr 113 27 = 0 ∧ ATt n bs q f 3 e mc' mr' ∧ ∃ v, lo ≤ v ∧ v < u ∧ x = nI v ∧ mr' 113 26 = nI v) ∨ FAt n bs mc' mr') := by
        rw [rf, Option.bind_some, n0]
        exact ⟨0, _, _, rfl, rfl, (a2.up (by omega)).up (by omega), (FRm.rf.up (by omega)).up (by omega), Or.inr (FA_mk (v := 3) hC (by decide) (by decide) (by rw [up2_slot (by decide), up2_same]; rfl) (by rw [up2_same]; exact M2))⟩
      by_cases w : v < lo
      · rw [t1, t2, if_pos w, if_pos w]; exact bad
      · by_cases w2 : v < u
        · rw [t1, t2, if_neg w, if_neg w, if_pos w2, if_neg (by omega), n1]
          exact ⟨_, _, _, rfl, rfl, a2, FRm.rf, Or.inl ⟨f, e, z27, hA, v, by omega, w2, rfl, h26⟩⟩
        · rw [t1, t2, if_neg w, if_neg w, if_neg w2, if_pos (by omega)]; exact bad
    · have t1 : f_X2_takeNumber F mc (nI lo) (nI u - 1) = some (0, up2 (up2 m2 1 3 2) 1 4 (m2 1 7)) := by
        unfold f_X2_takeNumber
        have n3 : ¬ m2 1 9 = (3 : Int32) := by rw [r9, k3]; exact q3
        rw [a1, Option.bind_some, if_pos h0, if_neg n3, c_refuse, if_pos h0, Option.bind_some]
      have t2 : f_X9_isNumber mr (nI lo) (nI u - 1) = some (up2 (up2 mr 113 27 2) 113 28 (mr 113 24)) := by
        unfold f_X9_isNumber
        have y : (if mr 113 25 = (2 : Int32) then (some 1) else (some 0) : Option Int32) = some 0 := by
          have n2 : ¬ mr 113 25 = (2 : Int32) := by rw [M3, (krN_c hk5).2.1]; exact q3
          exact if_neg n2
        have nd := m_need (m := mr) (a := 0) (v := 2) z27
        rw [if_pos rfl] at nd
        have n27 : ¬ up2 (up2 mr 113 27 2) 113 28 (mr 113 24) 113 27 = 0 := by rw [up2_slot (by decide), up2_same]; decide
        rw [if_pos z27, y, Option.bind_some, nd, Option.bind_some, Option.bind_some, if_neg n27]
      exact ⟨_, _, _, t1, t2, (a2.up (by omega)).up (by omega), (FRm.rf.up (by omega)).up (by omega), Or.inr (FA_mk (v := 2) hC (by decide) (by decide) (by rw [up2_slot (by decide), up2_same]; rfl) (by rw [up2_same]; exact M2))⟩
  · have t1 : f_X2_takeNumber F mc (nI lo) (nI u - 1) = some (0, m2) := by
      unfold f_X2_takeNumber
      rw [a1, Option.bind_some, if_neg (FA_c a3)]
    exact ⟨_, _, _, t1, m_inF (FA_m a3).1, a2, FRm.rf, Or.inr a3⟩
theorem zt_numE {n : Nat} {bs : Nat → Nat} {mc mr : Mm} {F q : Nat} {E : Prop} (hF : 5000 ≤ F) (hn : n ≤ 400) (hb : ∀ i, i < n → bs i < 256) {a1 a2 c1 c2 : Int32} {lo u : Nat} (h : (SSt n bs q mc mr ∧ E ∧ a1 = nI lo ∧ c1 = nI lo ∧ a2 = nI u - 1 ∧ c2 = nI u - 1 ∧ lo < 2 ^ 20 ∧ u < 2 ^ 20) ∨ FAt n bs mc mr) : ∃ x mc' mr', f_X2_takeNumber F mc a1 a2 = some (x, mc') ∧ f_X9_isNumber mr c1 c2 = some mr' ∧ FRc mc mc' ∧ FRm mr mr' ∧ ((mr 113 27 = 0 ∧ (∃ f e, ATt n bs q f 3 e mc' mr') ∧ E ∧ mr' 113 26 = x ∧ lo ≤ co x ∧ co x < u) ∨ FAt n bs mc' mr') := by
  rcases h with ⟨hs, hE, e1, e2, e3, e4, hlo, hu⟩ | hf
  · subst e1 e2 e3 e4
    obtain ⟨x, m2, m3, b1, b2, b3, b4, b5 | b5⟩ := zt_num1 (F := F) hF hn hb hs lo u hlo hu
    · obtain ⟨f, e, z27, hA, v, v1, v2, v3, v4⟩ := b5
      refine ⟨x, m2, m3, b1, b2, b3, b4, Or.inl ⟨z27, ⟨f, e, hA⟩, hE, by rw [v3, v4], ?_⟩⟩
      rw [v3, co_nI (by omega)]
      exact ⟨v1, v2⟩
    · exact ⟨x, m2, m3, b1, b2, b3, b4, Or.inr b5⟩
  · exact ⟨_, _, _, c_tnF (FA_c hf), m_inF (FA_m hf).1, FRc.rf, FRm.rf, Or.inr hf⟩
theorem zt_num {n : Nat} {bs : Nat → Nat} {mc mr : Mm} {F q : Nat} {E : Prop} (hF : 5000 ≤ F) (hn : n ≤ 400) (hb : ∀ i, i < n → bs i < 256) {a1 a2 c1 c2 : Int32} {lo u : Nat} (h : (SSt n bs q mc mr ∧ E ∧ a1 = nI lo ∧ c1 = nI lo ∧ a2 = nI u - 1 ∧ c2 = nI u - 1 ∧ lo < 2 ^ 20 ∧ u < 2 ^ 20) ∨ FAt n bs mc mr) : ∃ x mc' y mr', f_X2_takeNumber F mc a1 a2 = some (x, mc') ∧ f_X9_readNumber F mr c1 c2 = some (y, mr') ∧ FRc mc mc' ∧ FRm mr mr' ∧ ((mr 113 27 = 0 ∧ SSt n bs (q + 1) mc' mr' ∧ E ∧ y = x ∧ lo ≤ co x ∧ co x < u) ∨ FAt n bs mc' mr') := by
  obtain ⟨x, m2, m3, b1, b2, b3, b4, b5 | b5⟩ := zt_numE (F := F) hF hn hb h
  · obtain ⟨z27, ⟨f, e, hA⟩, hE, v3, v4⟩ := b5
    obtain ⟨mr', d1, d2, d3⟩ := zt_adv (F := F) hF hn hb hA (by decide)
    refine ⟨x, m2, m3 113 26, mr', b1, ?_, b3, b4.tr d2, Or.inl ⟨z27, d3, hE, v3, v4⟩⟩
    unfold f_X9_readNumber
    rw [b2, Option.bind_some, letv_eq, d1, Option.bind_some]
  · refine ⟨x, m2, m3 113 26, m3, b1, ?_, b3, b4, Or.inr b5⟩
    unfold f_X9_readNumber
    rw [b2, Option.bind_some, letv_eq, m_nxF (FA_m b5).2, Option.bind_some]
/-- the sign that ends a line -/
def sgC (m : Mm) : Option Mm := if (m 1 9) = (4 : Int32) then (some m) else ((f_X2_refuse m 2).bind fun m4 => some m4)
def sgM (F : Nat) (m : Mm) : Option Mm := (if (m 113 27) = 0 then ((if (m 113 25) = (3 : Int32) then (some 1) else (some 0) : Option (Int32)).bind fun y48 => (f_X9_needs m y48 2).bind fun m50 => some m50) else (some m) : Option (Mm)).bind fun y47 => (f_X9_next F y47).bind fun m52 => some m52
theorem sgC_F {m : Mm} (h : ¬ m 1 3 = 0) : sgC m = some m := by
  unfold sgC
  by_cases q : m 1 9 = (4 : Int32)
  · rw [if_pos q]
  · rw [if_neg q, c_rfF h, Option.bind_some]
theorem sgM_F {m : Mm} {F : Nat} (h : ¬ m 113 27 = 0) (h2 : ¬ m 113 27 ≤ 0) : sgM F m = some m := by
  unfold sgM
  rw [if_neg h, Option.bind_some, m_nxF h2, Option.bind_some]
theorem zt_sgnA {n : Nat} {bs : Nat → Nat} {mc mr : Mm} {F q : Nat} (hF : 5000 ≤ F) (hn : n ≤ 400) (hb : ∀ i, i < n → bs i < 256) (h : (∃ f k e, ATt n bs q f k e mc mr) ∨ FAt n bs mc mr) : ∃ mc' mr', sgC mc = some mc' ∧ sgM F mr = some mr' ∧ FRc mc mc' ∧ FRm mr mr' ∧ ((mr 113 27 = 0 ∧ SSt n bs (q + 1) mc' mr') ∨ FAt n bs mc' mr') := by
  rcases h with ⟨f, k, e, hA⟩ | hf
  · obtain ⟨⟨pos, h1, hC⟩, h0, hw, hM⟩ := id hA
    obtain ⟨hB, ht, r7, r8, r9⟩ := id hC
    obtain ⟨M1, M2, M3, M4, M5, M6, M7⟩ := id hM
    have hk5 := TK_k5 ht
    have z27 := M7 hw
    have k4 : (nI k = (4 : Int32)) = (k = 4) := nq (c := 4) (by omega) (by decide)
    by_cases q4 : k = 4
    · obtain ⟨mr', d1, d2, d3⟩ := zt_adv (F := F) hF hn hb hA (by omega)
      refine ⟨mc, mr', ?_, ?_, FRc.rf, d2, Or.inl ⟨z27, d3⟩⟩
      · unfold sgC
        rw [if_pos (by rw [r9, k4]; exact q4)]
      · unfold sgM
        have y : (if mr 113 25 = (3 : Int32) then (some 1) else (some 0) : Option Int32) = some 1 := if_pos (by rw [M3, (krN_c hk5).2.2.1]; exact Or.inl q4)
        have nd := m_need (m := mr) (a := 1) (v := 2) z27
        rw [if_neg n10] at nd
        rw [if_pos z27, y, Option.bind_some, nd, Option.bind_some, Option.bind_some, d1, Option.bind_some]
    · have n27 : ¬ up2 (up2 mr 113 27 2) 113 28 (mr 113 24) 113 27 ≤ 0 := by rw [up2_slot (by decide), up2_same]; decide
      refine ⟨up2 (up2 mc 1 3 2) 1 4 (mc 1 7), up2 (up2 mr 113 27 2) 113 28 (mr 113 24), ?_, ?_, (FRc.rf.up (by omega)).up (by omega), (FRm.rf.up (by omega)).up (by omega), Or.inr (FA_mk (v := 2) hC (by decide) (by decide) (by rw [up2_slot (by decide), up2_same]; rfl) (by rw [up2_same]; exact M2))⟩
      · unfold sgC
        have n4 : ¬ mc 1 9 = (4 : Int32) := by rw [r9, k4]; exact q4
        rw [if_neg n4, c_refuse, if_pos h0, Option.bind_some]
      · unfold sgM
        have n3 : ¬ mr 113 25 = (3 : Int32) := by
          rw [M3, (krN_c hk5).2.2.1]
          intro w
          exact hw (Or.inl (by omega))
        have y : (if mr 113 25 = (3 : Int32) then (some 1) else (some 0) : Option Int32) = some 0 := if_neg n3
        have nd := m_need (m := mr) (a := 0) (v := 2) z27
        rw [if_pos rfl] at nd
        rw [if_pos z27, y, Option.bind_some, nd, Option.bind_some, Option.bind_some, m_nxF n27, Option.bind_some]
  · exact ⟨_, _, sgC_F (FA_c hf), sgM_F (FA_m hf).1 (FA_m hf).2, FRc.rf, FRm.rf, Or.inr hf⟩
theorem zt_sgn {n : Nat} {bs : Nat → Nat} {mc mr : Mm} {F q : Nat} (hF : 5000 ≤ F) (hn : n ≤ 400) (hb : ∀ i, i < n → bs i < 256) (h : SSt n bs q mc mr ∨ FAt n bs mc mr) : ∃ mc' mr', f_X2_takeSign F mc = some mc' ∧ sgM F mr = some mr' ∧ FRc mc mc' ∧ FRm mr mr' ∧ ((mr 113 27 = 0 ∧ SSt n bs (q + 1) mc' mr') ∨ FAt n bs mc' mr') := by
  have e : ∀ m2, f_X2_nextToken F mc = some m2 → f_X2_takeSign F mc = sgC m2 := fun m2 h => by
    unfold f_X2_takeSign
    rw [h, Option.bind_some]
    rfl
  rcases h with hs | hf
  · obtain ⟨m2, a1, a2, a3⟩ := zt_peek (F := F) hF hn hb hs
    obtain ⟨mc', mr', b1, b2, b3, b4, b5⟩ := zt_sgnA (F := F) hF hn hb a3
    exact ⟨mc', mr', (e _ a1).trans b1, b2, a2.tr b3, b4, b5⟩
  · exact ⟨_, _, (e _ (c_nxF (FA_c hf))).trans (sgC_F (FA_c hf)), sgM_F (FA_m hf).1 (FA_m hf).2, FRc.rf, FRm.rf, Or.inr hf⟩

/-! orders: what is told of them stays so -/
theorem nq {a c : Nat} (ha : a < 2 ^ 32) (hc : c < 2 ^ 32) : (nI a = nI c) = (a = c) := propext (nI_inj ha hc)
theorem u3_r {s : AS} {j i v a : Nat} (h : a ≠ j) : u3 s j i v a = s a := funext fun b => u3_f h
theorem u3_cf {s : AS} {j i v a b w : Nat} (h : a ≠ j) : u3 (u3 s j i v) a b w = u3 (u3 s a b w) j i v := u3_comm (fun q => h q.1)
theorem sum_chg {s t : AS} {k n : Nat} (hk : k < n) (r8 : t 8 = s 8) (r9 : t 9 = s 9) (r11 : ∀ b, b ≠ k → t 11 b = s 11 b) : (∀ d, sumN (onD t d) n + onD s d k = sumN (onD s d) n + onD t d k) ∧ (∀ d, sumN (onH t d) n + onH s d k = sumN (onH s d) n + onH t d k) ∧ (∀ v, sumN (isW v t) n + isW v s k = sumN (isW v s) n + isW v t k) := by
  refine ⟨fun d => sumN_upd hk (fun i _ hik => ?_), fun d => sumN_upd hk (fun i _ hik => ?_), fun v => sumN_upd hk (fun i _ hik => ?_)⟩
  · simp only [onD, r8, r9, r11 i hik]
  · simp only [onH, r8, r9, r11 i hik]
  · simp only [isW, r11 i hik]
theorem plcS_r {s : AS} {k a : Nat} (h2 : a ≠ 2) (h3 : a ≠ 3) (h4 : a ≠ 4) (h5 : a ≠ 5) (h13 : a ≠ 13) (h14 : a ≠ 14) : plcS k s a = s a := by
  unfold plcS
  split
  · rw [u3_r h13, u3_r h3]
  split
  · rw [u3_r h13, u3_r h3]
  split
  · rw [u3_r h14, u3_r h4]
  split
  · rw [u3_r h5]
  · rw [u3_r h2]
theorem endS_r {s : AS} {k a : Nat} (h : a = 0 ∨ a = 1 ∨ a = 6 ∨ a = 7 ∨ a = 8 ∨ a = 9 ∨ a = 10 ∨ a = 12 ∨ a = 16) : endS k s a = s a := by
  unfold endS
  split
  · rw [u3_r (by omega), u3_r (by omega), plcS_r (by omega) (by omega) (by omega) (by omega) (by omega) (by omega)]
  · rfl
theorem okO_of {p s t : AS} {k : Nat} (h : okO p s k) (r8 : t 8 k = s 8 k) (r9 : t 9 k = s 9 k) (r10 : t 10 k = s 10 k) (r7 : t 7 k = s 7 k) (r12 : t 12 k < 2 ^ 30 ∨ t 12 k = 4294967292) (r11 : t 11 k ≤ 3) : okO p t k := by
  unfold okO
  rw [r8, r9, r10, r7]
  exact ⟨h.1, h.2.1, h.2.2.1, h.2.2.2.1, h.2.2.2.2.1, r11, h.2.2.2.2.2.2.1, r12⟩
theorem endS_O {p s : AS} {M k : Nat} (hk : k < s 6 0) (h : SO p M s) : SO p M (endS k s) := by
  by_cases hc : s 11 k = 1 ∧ s 12 k = s 0 0
  case neg => rw [endS, if_neg hc]; exact h
  obtain ⟨h1, h2, h3, h4, h5, h6, h7, h8⟩ := id h
  have hO := h6 k hk
  obtain ⟨o1, o2, o3, o4, o5, o6, o7, o8⟩ := id hO
  have e8 := endS_r (s := s) (k := k) (a := 8) (by omega)
  have e9 := endS_r (s := s) (k := k) (a := 9) (by omega)
  have e10 := endS_r (s := s) (k := k) (a := 10) (by omega)
  have e7 := endS_r (s := s) (k := k) (a := 7) (by omega)
  have e12 := endS_r (s := s) (k := k) (a := 12) (by omega)
  have e6 := endS_r (s := s) (k := k) (a := 6) (by omega)
  have e0 := endS_r (s := s) (k := k) (a := 0) (by omega)
  have hE : endS k s = u3 (u3 (plcS k s) 11 k 2) 15 0 (s 15 0 - 1) := by rw [endS, if_pos hc]
  have e11 : ∀ b, b ≠ k → endS k s 11 b = s 11 b := fun b hb => by
    rw [hE, u3_f (by decide), u3_i hb, plcS_r (by decide) (by decide) (by decide) (by decide) (by decide) (by decide)]
  have e11k : endS k s 11 k = 2 := by rw [hE, u3_f (by decide), u3_same]
  have e15 : endS k s 15 0 = s 15 0 - 1 := by rw [hE, u3_same]
  obtain ⟨c1, c2, c3⟩ := sum_chg hk e8 e9 e11
  have z1 : ∀ d, onD (endS k s) d k = 0 := fun d => by rw [onD, e11k, if_neg (by omega)]
  have z2 : ∀ d, onH (endS k s) d k = 0 := fun d => by rw [onH, e11k, if_neg (by omega)]
  have z3 : isW 1 (endS k s) k = 0 := by rw [isW, e11k, if_neg (by omega)]
  have y3 : isW 1 s k = 1 := by rw [isW, if_pos hc.1]
  have w3 := c3 1
  rw [z3, y3] at w3
  have hz0 : endS k s 6 0 = s 6 0 := by rw [e6]
  have rest : ((∀ h, h < p 0 0 → endS k s 2 h ≤ 1) ∧ (∀ d, d < p 0 1 → endS k s 3 d ≤ 1 ∧ endS k s 13 d ≤ 1 ∧ endS k s 13 d + onD s d k = s 13 d) ∧ (∀ i, i < p 0 2 → endS k s 4 i ≤ 1 ∧ endS k s 14 i ≤ 1 ∧ endS k s 14 i + onH s i k = s 14 i) ∧ (∀ k1, k1 < p 0 3 → endS k s 5 k1 < p 0 0 ∨ endS k s 5 k1 = 4294967292)) := by
    have hq : s 8 k = 0 ∨ s 8 k = 1 ∨ s 8 k = 2 ∨ s 8 k = 3 ∨ s 8 k = 4 := by omega
    have gD : ∀ d, d < p 0 1 → onD s d k ≤ s 13 d := fun d hd => by
      rw [(h3 d hd).2.2]; exact sumN_ge hk
    have gH : ∀ d, d < p 0 2 → onH s d k ≤ s 14 d := fun d hd => by
      rw [(h4 d hd).2.2]; exact sumN_ge hk
    have fD : ∀ d, onD s d k = if s 8 k < 2 ∧ s 9 k = d then 1 else 0 := fun d => by
      unfold onD
      simp [hc.1]
    have fH : ∀ d, onH s d k = if s 8 k = 2 ∧ s 9 k = d then 1 else 0 := fun d => by
      unfold onH
      simp [hc.1]
    refine ⟨fun h hh => ?_, fun d hd => ?_, fun i hi => ?_, fun k1 hk1 => ?_⟩
    · have q2 := h2 h hh
      rcases hq with q | q | q | q | q <;> simp [hE, plcS, u3, q]
      · exact q2
      · exact q2
      · exact q2
      · exact q2
      · split
        · exact (o5 q).2
        · exact q2
    · obtain ⟨q1, q2, q3⟩ := h3 d hd
      have g := gD d hd
      rw [fD] at g ⊢
      by_cases e : d = s 9 k
      · subst e
        rcases hq with q | q | q | q | q <;> simp [hE, plcS, u3, q] at g ⊢ <;> omega
      · have e' : ¬ s 9 k = d := fun q => e q.symm
        rcases hq with q | q | q | q | q <;> simp [hE, plcS, u3, q, e, e'] at g ⊢ <;> omega
    · obtain ⟨q1, q2, q3⟩ := h4 i hi
      have g := gH i hi
      rw [fH] at g ⊢
      by_cases e : i = s 9 k
      · subst e
        rcases hq with q | q | q | q | q <;> simp [hE, plcS, u3, q] at g ⊢ <;> omega
      · have e' : ¬ s 9 k = i := fun q => e q.symm
        rcases hq with q | q | q | q | q <;> simp [hE, plcS, u3, q, e, e'] at g ⊢ <;> omega
    · have q2 := h5 k1 hk1
      rcases hq with q | q | q | q | q <;> simp [hE, plcS, u3, q]
      · exact q2
      · exact q2
      · exact q2
      · split
        · exact (o4 q).2
        · exact q2
      · exact q2
  obtain ⟨r1, r2, r3, r4⟩ := rest
  refine ⟨by omega, r1, fun d hd => ⟨(r2 d hd).1, (r2 d hd).2.1, ?_⟩, fun i hi => ⟨(r3 i hi).1, (r3 i hi).2.1, ?_⟩, r4, fun j hj => ?_, ?_, ?_⟩
  · have a1 := c1 d
    have a2 := (r2 d hd).2.2
    have a3 := (h3 d hd).2.2
    rw [z1] at a1
    rw [hz0]; omega
  · have a1 := c2 i
    have a2 := (r3 i hi).2.2
    have a3 := (h4 i hi).2.2
    rw [z2] at a1
    rw [hz0]; omega
  · rw [hz0] at hj
    refine okO_of (h6 j hj) (by rw [e8]) (by rw [e9]) (by rw [e10]) (by rw [e7]) (by rw [e12]; exact (h6 j hj).2.2.2.2.2.2.2) ?_
    by_cases e : j = k
    · rw [e, e11k]; omega
    · rw [e11 j e]; exact (h6 j hj).2.2.2.2.2.1
  · rw [e15, hz0]; omega
  · rw [e0]; exact h8
theorem wayS_r {s : AS} {k a : Nat} (h13 : a ≠ 13) (h14 : a ≠ 14) : wayS k s a = s a := by
  unfold wayS
  split
  · rw [u3_r h13]
  split
  · rw [u3_r h14]
  · rfl
theorem begS_r {p s : AS} {k a : Nat} (h : a = 0 ∨ a = 1 ∨ a = 2 ∨ a = 3 ∨ a = 4 ∨ a = 5 ∨ a = 6 ∨ a = 7 ∨ a = 8 ∨ a = 9 ∨ a = 10) : begS p k s a = s a := by
  unfold begS
  split
  · split
    · rw [u3_r (by omega), u3_r (by omega), u3_r (by omega), wayS_r (by omega) (by omega)]
    · rw [u3_r (by omega), u3_r (by omega)]
  · rfl
theorem takN_le {p : AS} {kd w : Nat} (hp : PW p) (h1 : kd < 2 → w < p 0 1) (h2 : kd = 2 → w < p 0 2) : 1 ≤ takN p kd w ∧ takN p kd w ≤ 20 := by
  obtain ⟨⟨l1, l2, l3, l4⟩, ph, pd, pl, pp, pr⟩ := id hp
  unfold takN
  split
  · rename_i h
    have := pd w (h1 h)
    omega
  split
  · rename_i h
    have := pl w (h2 h)
    omega
  · omega
theorem begS_O {p s : AS} {M k : Nat} (hp : PW p) (hM : M ≤ 2 ^ 20) (hk : k < s 6 0) (h : SO p M s) : SO p M (begS p k s) := by
  by_cases hc : s 11 k = 0 ∧ s 7 k = s 0 0
  case neg => rw [begS, if_neg hc]; exact h
  obtain ⟨h1, h2, h3, h4, h5, h6, h7, h8⟩ := id h
  have hO := h6 k hk
  obtain ⟨o1, o2, o3, o4, o5, o6, o7, o8⟩ := id hO
  have e8 := begS_r (p := p) (s := s) (k := k) (a := 8) (by omega)
  have e9 := begS_r (p := p) (s := s) (k := k) (a := 9) (by omega)
  have e10 := begS_r (p := p) (s := s) (k := k) (a := 10) (by omega)
  have e7 := begS_r (p := p) (s := s) (k := k) (a := 7) (by omega)
  have e6 := begS_r (p := p) (s := s) (k := k) (a := 6) (by omega)
  have e0 := begS_r (p := p) (s := s) (k := k) (a := 0) (by omega)
  have e2 := begS_r (p := p) (s := s) (k := k) (a := 2) (by omega)
  have e3 := begS_r (p := p) (s := s) (k := k) (a := 3) (by omega)
  have e4 := begS_r (p := p) (s := s) (k := k) (a := 4) (by omega)
  have e5 := begS_r (p := p) (s := s) (k := k) (a := 5) (by omega)
  have hz0 : begS p k s 6 0 = s 6 0 := by rw [e6]
  have y1 : ∀ d, onD s d k = 0 := fun d => by rw [onD, if_neg (by omega)]
  have y2 : ∀ d, onH s d k = 0 := fun d => by rw [onH, if_neg (by omega)]
  have y3 : isW 1 s k = 0 := by rw [isW, if_neg (by omega)]
  have tk := takN_le hp o2 o3
  by_cases hB : canB p s k
  · have hE : begS p k s = u3 (u3 (u3 (wayS k s) 11 k 1) 12 k (s 0 0 + takN p (s 8 k) (s 9 k))) 15 0 (s 15 0 + 1) := by rw [begS, if_pos hc, if_pos hB]
    have e11 : ∀ b, b ≠ k → begS p k s 11 b = s 11 b := fun b hb => by
      rw [hE, u3_f (by decide), u3_f (by decide), u3_i hb, wayS_r (by decide) (by decide)]
    have e11k : begS p k s 11 k = 1 := by rw [hE, u3_f (by decide), u3_f (by decide), u3_same]
    have e12 : ∀ b, b ≠ k → begS p k s 12 b = s 12 b := fun b hb => by
      rw [hE, u3_f (by decide), u3_i hb, u3_f (by decide), wayS_r (by decide) (by decide)]
    have e12k : begS p k s 12 k = s 0 0 + takN p (s 8 k) (s 9 k) := by rw [hE, u3_f (by decide), u3_same]
    have e15 : begS p k s 15 0 = s 15 0 + 1 := by rw [hE, u3_same]
    have e13 : ∀ d, begS p k s 13 d = wayS k s 13 d := fun d => by rw [hE, u3_f (by decide), u3_f (by decide), u3_f (by decide)]
    have e14 : ∀ d, begS p k s 14 d = wayS k s 14 d := fun d => by rw [hE, u3_f (by decide), u3_f (by decide), u3_f (by decide)]
    obtain ⟨c1, c2, c3⟩ := sum_chg hk e8 e9 e11
    obtain ⟨b1, b2, b3⟩ := id hB
    have z1 : ∀ d, onD (begS p k s) d k = if s 8 k < 2 ∧ s 9 k = d then 1 else 0 := fun d => by rw [onD, e11k, e8, e9]; simp
    have z2 : ∀ d, onH (begS p k s) d k = if s 8 k = 2 ∧ s 9 k = d then 1 else 0 := fun d => by rw [onH, e11k, e8, e9]; simp
    have z3 : isW 1 (begS p k s) k = 1 := by rw [isW, e11k, if_pos rfl]
    refine ⟨by omega, by rw [e2]; exact h2, fun d hd => ?_, fun i hi => ?_, by rw [e5]; exact h5, fun j hj => ?_, ?_, by rw [e0]; exact h8⟩
    · have a1 := c1 d
      rw [z1, y1] at a1
      obtain ⟨q1, q2, q3⟩ := h3 d hd
      rw [hz0, e3, e13]
      unfold wayS
      by_cases g1 : s 8 k < 2
      · have b2' := b2 g1
        by_cases g2 : s 9 k = d
        · subst g2
          simp [g1] at a1
          rw [if_pos g1, u3_same]
          omega
        · simp [g2] at a1
          rw [if_pos g1, u3_i (Ne.symm g2)]
          omega
      · simp [g1] at a1
        rw [if_neg g1]
        split
        · rw [u3_f (by decide)]; omega
        · omega
    · have a1 := c2 i
      rw [z2, y2] at a1
      obtain ⟨q1, q2, q3⟩ := h4 i hi
      rw [hz0, e4, e14]
      unfold wayS
      by_cases g1 : s 8 k = 2
      · have b3' := b3 g1
        have g0 : ¬ s 8 k < 2 := by omega
        by_cases g2 : s 9 k = i
        · subst g2
          simp [g1] at a1
          rw [if_neg g0, if_pos g1, u3_same]
          omega
        · simp [g2] at a1
          rw [if_neg g0, if_pos g1, u3_i (Ne.symm g2)]
          omega
      · simp [g1] at a1
        split
        · rw [u3_f (by decide)]; omega
        · omega
    · rw [hz0] at hj
      by_cases e : j = k
      · subst e
        exact okO_of hO (by rw [e8]) (by rw [e9]) (by rw [e10]) (by rw [e7]) (by rw [e12k]; omega) (by rw [e11k]; omega)
      · exact okO_of (h6 j hj) (by rw [e8]) (by rw [e9]) (by rw [e10]) (by rw [e7]) (by rw [e12 j e]; exact (h6 j hj).2.2.2.2.2.2.2) (by rw [e11 j e]; exact (h6 j hj).2.2.2.2.2.1)
    · have a1 := c3 1
      rw [z3, y3] at a1
      rw [e15, hz0]; omega
  · have hE : begS p k s = u3 (u3 s 11 k 3) 16 0 (s 16 0 + 1) := by rw [begS, if_pos hc, if_neg hB]
    have e11 : ∀ b, b ≠ k → begS p k s 11 b = s 11 b := fun b hb => by rw [hE, u3_f (by decide), u3_i hb]
    have e11k : begS p k s 11 k = 3 := by rw [hE, u3_f (by decide), u3_same]
    have e12 : begS p k s 12 = s 12 := by rw [hE, u3_r (by decide), u3_r (by decide)]
    have e13 : begS p k s 13 = s 13 := by rw [hE, u3_r (by decide), u3_r (by decide)]
    have e14 : begS p k s 14 = s 14 := by rw [hE, u3_r (by decide), u3_r (by decide)]
    have e15 : begS p k s 15 = s 15 := by rw [hE, u3_r (by decide), u3_r (by decide)]
    obtain ⟨c1, c2, c3⟩ := sum_chg hk e8 e9 e11
    have z1 : ∀ d, onD (begS p k s) d k = 0 := fun d => by rw [onD, e11k, if_neg (by omega)]
    have z2 : ∀ d, onH (begS p k s) d k = 0 := fun d => by rw [onH, e11k, if_neg (by omega)]
    have z3 : isW 1 (begS p k s) k = 0 := by rw [isW, e11k, if_neg (by omega)]
    refine ⟨by omega, by rw [e2]; exact h2, fun d hd => ?_, fun i hi => ?_, by rw [e5]; exact h5, fun j hj => ?_, ?_, by rw [e0]; exact h8⟩
    · have a1 := c1 d
      rw [z1, y1] at a1
      rw [hz0, e3, e13]
      have := h3 d hd
      omega
    · have a1 := c2 i
      rw [z2, y2] at a1
      rw [hz0, e4, e14]
      have := h4 i hi
      omega
    · rw [hz0] at hj
      refine okO_of (h6 j hj) (by rw [e8]) (by rw [e9]) (by rw [e10]) (by rw [e7]) (by rw [e12]; exact (h6 j hj).2.2.2.2.2.2.2) ?_
      by_cases e : j = k
      · rw [e, e11k]; omega
      · rw [e11 j e]; exact (h6 j hj).2.2.2.2.2.1
    · have a1 := c3 1
      rw [z3, y3] at a1
      rw [e15, hz0]; omega

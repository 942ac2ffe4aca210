/-! best: the class gives a row's orders -/
def crw (w : Nat) (fr : Nat → Nat) : Nat := if w = 1 then 0 else if w = 2 then (if fr 1 < fr 0 then 1 else 0) else (if fr 2 < fr (if fr 1 < fr 0 then 1 else 0) then 2 else (if fr 1 < fr 0 then 1 else 0))
def frN (w : Nat) (du : Nat → Nat) : Nat → Nat → Nat
  | 0 => fun _ => 0
  | i + 1 => fun c => if c = crw w (frN w du i) then frN w du i c + du i else frN w du i c
theorem crw_lt {w : Nat} {fr : Nat → Nat} (h1 : 1 ≤ w) (h3 : w ≤ 3) : crw w fr < w := by
  have : w = 1 ∨ w = 2 ∨ w = 3 := by omega
  rcases this with rfl | rfl | rfl
  · unfold crw; simp
  · unfold crw; simp; split <;> omega
  · unfold crw
    by_cases q : fr 1 < fr 0
    · by_cases q2 : fr 2 < fr 1 <;> simp [q, q2]
    · by_cases q2 : fr 2 < fr 0 <;> simp [q, q2]
theorem tm_eq {w : Nat} {du : Nat → Nat} (h1 : 1 ≤ w) (h3 : w ≤ 3) (hd : ∀ i, i < 3 → 1 ≤ du i) : ∀ i, i < 3 → frN w du i (crw w (frN w du i)) = tmO w (du 0) (du 1) i := by
  have d0 := hd 0 (by decide)
  have d1 := hd 1 (by decide)
  have hw : w = 1 ∨ w = 2 ∨ w = 3 := by omega
  intro i hi
  have hi3 : i = 0 ∨ i = 1 ∨ i = 2 := by omega
  rcases hi3 with rfl | rfl | rfl
  · simp [frN, tmO]
  · rcases hw with rfl | rfl | rfl
    · simp [frN, crw, tmO]
    · have e : 0 < du 0 := by omega
      simp [frN, crw, tmO, e]
    · have e : 0 < du 0 := by omega
      simp [frN, crw, tmO, e]
  · rcases hw with rfl | rfl | rfl
    · simp [frN, crw, tmO]
    · have e : 0 < du 0 := by omega
      by_cases q : du 1 < du 0
      · simp [frN, crw, tmO, e, q]
        omega
      · simp [frN, crw, tmO, e, q]
        omega
    · have e : 0 < du 0 := by omega
      have e1 : 0 < du 1 := by omega
      by_cases q : du 1 < du 0
      · simp [frN, crw, tmO, e, e1, q]
      · simp [frN, crw, tmO, e, e1, q]
theorem frN_le {w : Nat} {du : Nat → Nat} (hd : ∀ i, du i ≤ 20) : ∀ i c, frN w du i c ≤ 20 * i
  | 0, _ => Nat.le_refl 0
  | i + 1, c => by
    have h := frN_le (w := w) hd i c
    have := hd i
    simp only [frN]
    split <;> omega
theorem c_crew {p : AS} {m1 : Mm} {P F : Nat} {fr : Nat → Nat} {i : Int32} (hF : 5000 ≤ F) (hp : PW p) (pc : PC p m1 P) (h38 : ∀ c, c < 3 → m1 38 c = nI (fr c)) (hfr : ∀ c, fr c < 2 ^ 20) : iter F (b_X4_giveRow_76 P (i, m1)) ((0, 1) : Int32 × Int32) = some (nI (crw (p 16 0) fr)) := by
  obtain ⟨-, -, -, -, -, w1, w3, -⟩ := id hp
  have e0 : ald m1 (P + 16) 5 0 = some (nI (p 16 0)) := P_ld pc 16 0 (by show 0 < 5; omega) (by omega) (by decide)
  have el : ∀ c, c < 3 → ald m1 38 3 (nI c) = some (nI (fr c)) := fun c hc => by rw [ald_n hc (by decide), h38 c hc]
  have stop : ∀ a c, p 16 0 ≤ c → c < 2 ^ 20 → b_X4_giveRow_76 P (i, m1) (nI a, nI c) = some (Sum.inr (nI a)) := fun a c hc hc2 => by
    unfold b_X4_giveRow_76
    dsimp only
    rw [e0, Option.bind_some, if_pos (nI_le hc (by omega))]
  have step : ∀ a c, c < p 16 0 → a < 3 → b_X4_giveRow_76 P (i, m1) (nI a, nI c) = some (Sum.inl (nI (if fr c < fr a then c else a), nI (c + 1))) := fun a c hc ha => by
    unfold b_X4_giveRow_76
    dsimp only
    rw [e0, Option.bind_some, if_neg (nI_ge hc (by omega)), el c (by omega), Option.bind_some, el a ha, Option.bind_some]
    have h1 := hfr c
    have h2 := hfr a
    by_cases q : fr c < fr a
    · rw [if_neg (nI_ge q (by omega)), if_pos q, Option.bind_some, nI_1]
    · rw [if_pos (nI_le (by omega) (by omega)), if_neg q, Option.bind_some, nI_1]
  obtain ⟨F1, rfl⟩ : ∃ F1, F = F1 + 3 := ⟨F - 3, by omega⟩
  generalize b_X4_giveRow_76 P (i, m1) = b at stop step
  have hw : p 16 0 = 1 ∨ p 16 0 = 2 ∨ p 16 0 = 3 := by omega
  have s0 : p 16 0 = 2 ∨ p 16 0 = 3 → b (nI 0, nI 1) = some (Sum.inl (nI (if fr 1 < fr 0 then 1 else 0), nI 2)) := fun q => step 0 1 (by omega) (by decide)
  have c2 : p 16 0 = 2 → crw (p 16 0) fr = (if fr 1 < fr 0 then 1 else 0) := fun q => by unfold crw; rw [q]; rfl
  have c3 : p 16 0 = 3 → crw (p 16 0) fr = (if fr 2 < fr (if fr 1 < fr 0 then 1 else 0) then 2 else (if fr 1 < fr 0 then 1 else 0)) := fun q => by unfold crw; rw [q]; rfl
  have ha3 : (if fr 1 < fr 0 then 1 else 0) < 3 := by split <;> omega
  generalize (if fr 1 < fr 0 then 1 else 0) = a at s0 c2 c3 ha3
  show iter (F1 + 3) b (nI 0, nI 1) = _
  rcases hw with q | q | q
  · rw [iter, stop 0 1 (by omega) (by decide)]
    unfold crw
    rw [if_pos q]
    rfl
  · rw [c2 q, iter, s0 (Or.inl q)]
    show iter (F1 + 2) b (nI a, nI 2) = _
    rw [iter, stop a 2 (by omega) (by decide)]
    rfl
  · have s2 : b (nI a, nI 2) = some (Sum.inl (nI (if fr 2 < fr a then 2 else a), nI 3)) := step a 2 (by omega) ha3
    rw [c3 q, iter, s0 (Or.inr q)]
    show iter (F1 + 2) b (nI a, nI 2) = _
    rw [iter, s2]
    generalize (if fr 2 < fr a then 2 else a) = a2
    show iter (F1 + 1) b (nI a2, nI 3) = _
    rw [iter, stop a2 3 (by omega) (by decide)]
    rfl
theorem bas_r {s : AS} {a : Nat} (h : a < 6) : bas s a = s a := by
  funext i
  unfold bas
  rw [if_pos h]
theorem bas_0 {s : AS} {a i : Nat} (h : ¬ a < 6) : bas s a i = 0 := if_neg h
theorem bas_I {p s : AS} {M : Nat} (h : SI p M s) : SI p M (bas s) := by
  obtain ⟨hw, ho, hy⟩ := h
  refine ⟨?_, ?_, ?_⟩
  · unfold SW
    rw [bas_r (by decide)]
    exact hw
  · obtain ⟨h1, h2, h3, h4, h5, h6, h7, h8⟩ := ho
    refine ⟨by rw [bas_0 (by decide)]; omega, by rw [bas_r (by decide)]; exact h2, fun d hd => ?_, fun i hi => ?_, by rw [bas_r (by decide)]; exact h5, fun k hk => ?_, ?_, ?_⟩
    · rw [bas_r (by decide), bas_0 (by decide), bas_0 (by decide)]
      exact ⟨(h3 d hd).1, by omega, rfl⟩
    · rw [bas_r (by decide), bas_0 (by decide), bas_0 (by decide)]
      exact ⟨(h4 i hi).1, by omega, rfl⟩
    · rw [bas_0 (by decide)] at hk
      omega
    · rw [bas_0 (by decide), bas_0 (by decide)]; rfl
    · rw [bas_r (by decide)]; exact h8
  · unfold SY
    rw [bas_r (by decide)]
    exact hy
theorem RC_bas {p s : AS} {m : Mm} {S : Nat} (h : RC p (frS s) m S) : RC p (bas s) m S := by
  unfold RC at h ⊢
  rw [frS_0 (by omega)] at h
  rw [bas_0 (by decide)]
  intro j i hi
  have hj := cnS_lt hi
  rw [h j i hi]
  have : j = 0 ∨ j = 1 ∨ j = 2 ∨ j = 3 ∨ j = 4 ∨ j = 5 ∨ j = 6 ∨ j = 7 ∨ j = 8 ∨ j = 9 ∨ j = 10 ∨ j = 11 ∨ j = 12 := by omega
  rcases this with rfl | rfl | rfl | rfl | rfl | rfl | rfl | rfl | rfl | rfl | rfl | rfl | rfl
  · rfl
  · rfl
  · rfl
  · rfl
  · rfl
  · rfl
  · rfl
  · exact absurd hi (Nat.not_lt_zero i)
  · exact absurd hi (Nat.not_lt_zero i)
  · exact absurd hi (Nat.not_lt_zero i)
  · exact absurd hi (Nat.not_lt_zero i)
  · exact absurd hi (Nat.not_lt_zero i)
  · exact absurd hi (Nat.not_lt_zero i)
def rowI (p s : AS) (k r n : Nat) : AS := rep (fun i t => appS t (s 0 0 + rowT p s k r i) (kdO (cod p s k r i)) (wtO (cod p s k r i)) 0) n (bas s)
theorem cod_go {p s : AS} {k r i : Nat} (hp : PW p) (hc : 0 < (chL p s).length) : goO p (kdO (cod p s k r i)) (wtO (cod p s k r i)) 0 := by
  unfold goO kdO wtO
  rcases cod_in (k := k) (r := r) (i := i) hp.1 hc with ⟨q1, q2, q3⟩ | ⟨q1, q2, q3⟩
  · rw [if_pos q1, if_pos q1]
    exact ⟨by omega, fun _ => q2, fun q => by omega, fun q => by omega, fun q => by omega⟩
  · rw [if_neg (by omega), if_neg (by omega)]
    exact ⟨by omega, fun q => by omega, fun _ => q2, fun q => by omega, fun q => by omega⟩
theorem dur_b {p s : AS} {k r i : Nat} (hp : PW p) (hc : 0 < (chL p s).length) : 1 ≤ durO p (cod p s k r i) ∧ durO p (cod p s k r i) ≤ 20 := by
  obtain ⟨g1, g2, g3, -⟩ := cod_go (k := k) (r := r) (i := i) hp hc
  exact takN_le hp g2 g3
theorem rowT_le {p s : AS} {k r i : Nat} (hp : PW p) (hc : 0 < (chL p s).length) : rowT p s k r i ≤ 40 := by
  have h0 := dur_b (k := k) (r := r) (i := 0) hp hc
  have h1 := dur_b (k := k) (r := r) (i := 1) hp hc
  unfold rowT tmO
  generalize durO p (cod p s k r 0) = d0 at h0
  generalize durO p (cod p s k r 1) = d1 at h1
  by_cases q0 : i = 0
  · simp [q0]
  · by_cases q1 : i = 1
    · by_cases w1 : p 16 0 = 1 <;> simp [q1, w1] <;> omega
    · by_cases w1 : p 16 0 = 1
      · simp [q0, q1, w1]; omega
      · by_cases w2 : p 16 0 = 2
        · simp [q0, q1, w2]; omega
        · simp [q0, q1, w1, w2]
theorem rowI_I {p s : AS} {M k r : Nat} (hp : PW p) (hI : SI p M s) (hM : M ≤ 2 ^ 20) (hc : 0 < (chL p s).length) : ∀ n, n ≤ 3 → SI p M (rowI p s k r n) ∧ rowI p s k r n 6 0 = n ∧ ∀ a, a < 6 → rowI p s k r n a = s a
  | 0, _ => ⟨bas_I hI, show bas s 6 0 = 0 from bas_0 (by decide), fun a ha => bas_r ha⟩
  | n + 1, hn => by
    obtain ⟨h1, h2, h3⟩ := rowI_I (k := k) (r := r) hp hI hM hc n (by omega)
    have e : rowI p s k r (n + 1) = appS (rowI p s k r n) (s 0 0 + rowT p s k r n) (kdO (cod p s k r n)) (wtO (cod p s k r n)) 0 := rfl
    have hm := hI.2.1.2.2.2.2.2.2.2
    have hT := rowT_le (k := k) (r := r) (i := n) hp hc
    rw [e]
    exact ⟨appS_I h1 (by omega) (by omega) (cod_go hp hc), by rw [appS_6, h2], fun a ha => by rw [appS_r (by omega), h3 a ha]⟩
theorem row0 {p s : AS} {r : Nat} : rowO p s 0 r = bas s := rfl
theorem rowO_I {p s : AS} {M k r : Nat} (hp : PW p) (hI : SI p M s) (hM : M ≤ 2 ^ 20) (hk : k ≤ 3) (hkc : k ≤ (chL p s).length) : SI p M (rowO p s k r) ∧ rowO p s k r 6 0 = k ∧ ∀ a, a < 6 → rowO p s k r a = s a := by
  by_cases q : k = 0
  · subst q
    rw [row0]
    exact ⟨bas_I hI, bas_0 (by decide), fun a ha => bas_r ha⟩
  · exact rowI_I hp hI hM (by omega) k hk

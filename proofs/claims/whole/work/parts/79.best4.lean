/-! best: the class's search -/
def FB (m m' : Mm) : Prop := ∀ b, (b < 18 ∨ 31 < b) → b ≠ 34 → b ≠ 35 → b ≠ 36 → b ≠ 37 → b ≠ 38 → m' b = m b
theorem FB.rf {m : Mm} : FB m m := fun _ _ _ _ _ _ _ => rfl
theorem FB.tr {m m1 m2 : Mm} (h1 : FB m m1) (h2 : FB m1 m2) : FB m m2 := fun b q1 q2 q3 q4 q5 q6 => (h2 b q1 q2 q3 q4 q5 q6).trans (h1 b q1 q2 q3 q4 q5 q6)
theorem FLc.fb {m m1 : Mm} (h : FLc m m1) : FB m m1 := fun b _ q2 q3 _ _ _ => h.1 b q2 q3
theorem FG.fb {m m1 : Mm} (h : FG 18 m m1) : FB m m1 := fun b q1 _ _ _ _ _ => h b q1
theorem PC_FB {p : AS} {m m1 : Mm} {P : Nat} (hP : isPl P) (h : PC p m P) (hf : FB m m1) : PC p m1 P := PC_fr h (fun j hj => by
  have := isPl_le hP
  have : 43 ≤ P := by rcases hP with rfl | rfl <;> decide
  exact hf _ (by omega) (by omega) (by omega) (by omega) (by omega) (by omega))
theorem RC_FB {p s : AS} {m m1 : Mm} (h : RC p s m 4) (hf : FB m m1) : RC p s m1 4 := RC_fr h (fun j hj i _ => by rw [hf (4 + j) (by omega) (by omega) (by omega) (by omega) (by omega) (by omega)])
theorem kd_c {c : Nat} (hc : c < 2 ^ 20) : (if (20 : Int32) ≤ nI c then (some (2 : Int32)) else some 0) = some (nI (kdO c)) := by
  unfold kdO
  by_cases q : c < 20
  · have k1 : ¬ (20 : Int32) ≤ nI c := nI_ge (b := 20) q (by decide)
    rw [if_pos q, if_neg k1]; rfl
  · have k2 : (20 : Int32) ≤ nI c := nI_le (a := 20) (by omega) (by omega)
    rw [if_neg q, if_pos k2]; rfl
theorem cod_b {p s : AS} {k r i : Nat} (hp : PL p) (hc : 0 < (chL p s).length) : cod p s k r i < 2 ^ 20 := by
  rcases cod_in (k := k) (r := r) (i := i) (s := s) hp hc with ⟨w, -⟩ | ⟨-, w, -⟩
  · omega
  · have := hp.2.2.1; omega
theorem c_give {p s : AS} {m : Mm} {P F M k r : Nat} (hF : 5000 ≤ F) (hP : isPl P) (hp : PW p) (pc : PC p m P) (hI : SI p M s) (hM : M ≤ 2 ^ 20) (hk : k ≤ 3) (hkc : k ≤ (chL p s).length) (h36 : ∀ i, i < k → m 36 i = nI (cod p s k r i)) (rc : RC p (bas s) m 18) : ∃ m', f_X4_giveRow F m P 18 (nI k) = some m' ∧ RC p (rowO p s k r) m' 18 ∧ (∀ b, (b < 18 ∨ 31 < b) → b ≠ 38 → m' b = m b) := by
  obtain ⟨-, -, -, -, -, w1, w3, -⟩ := id hp
  have hm := hI.2.1.2.2.2.2.2.2.2
  have pcf : ∀ m1 : Mm, (∀ b, (b < 18 ∨ 31 < b) → b ≠ 38 → m1 b = m b) → PC p m1 P := fun m1 h => PC_fr pc (fun j hj => by
    have := isPl_le hP
    have : 43 ≤ P := by rcases hP with rfl | rfl <;> decide
    exact h _ (by omega) (by omega))
  obtain ⟨m1, a1, a2, a3⟩ := iter_P (b := b_X4_giveRow_11 F P 18 (nI k)) (F := F) k (fun i x => ∃ m1, x = (nI i, m1) ∧ RC p (rowI p s k r i) m1 18 ∧ (∀ c, c < 3 → m1 38 c = nI (frN (p 16 0) (fun i => durO p (cod p s k r i)) i c)) ∧ ∀ b, (b < 18 ∨ 31 < b) → b ≠ 38 → m1 b = m b) (fun x => RC p (rowI p s k r k) x 18 ∧ ∀ b, (b < 18 ∨ 31 < b) → b ≠ 38 → x b = m b) (by omega) (by
    rintro i x hi ⟨m1, rfl, q1, q2, q3⟩
    have hcp : 0 < (chL p s).length := by omega
    have hdu : ∀ i, 1 ≤ durO p (cod p s k r i) ∧ durO p (cod p s k r i) ≤ 20 := fun i => dur_b hp hcp
    generalize hdd : (fun i => durO p (cod p s k r i)) = du at q2
    have hdd1 : ∀ i, du i = durO p (cod p s k r i) := fun i => by rw [← hdd]
    have hfl : ∀ c, frN (p 16 0) du i c ≤ 20 * i := frN_le (fun i => by rw [hdd1]; exact (hdu i).2) i
    have hcr := crw_lt (w := p 16 0) (fr := frN (p 16 0) du i) w1 w3
    have htm : frN (p 16 0) du i (crw (p 16 0) (frN (p 16 0) du i)) = rowT p s k r i := by
      rw [tm_eq w1 w3 (fun i _ => by rw [hdd1]; exact (hdu i).1) i (by omega), hdd1, hdd1]
      rfl
    have hc : ¬ nI k ≤ nI i := nI_ge hi (by omega)
    have pc1 := pcf m1 q3
    have hcb := cod_b (s := s) (k := k) (r := r) (i := i) hp.1 hcp
    have e1 : ald m1 36 3 (nI i) = some (nI (cod p s k r i)) := by rw [ald_n (by omega) (by decide), q3 36 (by omega) (by decide), h36 i hi]
    have e2 := kd_c hcb
    have e3 : (if (20 : Int32) ≤ nI (cod p s k r i) then ((some (nI (cod p s k r i))).bind fun x9 => some (x9 - (20 : Int32))) else ((some (nI (cod p s k r i))).bind fun x10 => some x10) : Option (Int32)) = some (nI (wtO (cod p s k r i))) := by
      unfold wtO
      by_cases q : cod p s k r i < 20
      · have k1 : ¬ (20 : Int32) ≤ nI (cod p s k r i) := nI_ge (b := 20) q (by decide)
        rw [if_pos q, if_neg k1]; rfl
      · have k2 : (20 : Int32) ≤ nI (cod p s k r i) := nI_le (a := 20) (by omega) (by omega)
        rw [if_neg q, if_pos k2, Option.bind_some, show nI (cod p s k r i) - (20 : Int32) = nI (cod p s k r i - 20) from pk_sub (b := 20) (by omega)]
    have e4 := c_crew (i := nI i) hF hp pc1 q2 (fun c => by have := hfl c; omega)
    obtain ⟨j1, j2, j3⟩ := rowI_I (k := k) (r := r) hp hI hM hcp i (by omega)
    have e5 : ald m1 38 3 (nI (crw (p 16 0) (frN (p 16 0) du i))) = some (nI (rowT p s k r i)) := by
      rw [ald_n (by omega) (by decide), q2 _ (by omega), htm]
    have e6 : m1 18 0 + nI (rowT p s k r i) = nI (s 0 0 + rowT p s k r i) := by rw [RC_0 q1, j3 0 (by decide), nI_add]
    obtain ⟨m2, b1, b2, b3⟩ := c_append (S := 18) (a := s 0 0 + rowT p s k r i) (b := kdO (cod p s k r i)) (c := wtO (cod p s k r i)) (d := 0) q1 (by rw [j2]; omega)
    have b1' : f_X0_append m1 (18 + 6) (nI (s 0 0 + rowT p s k r i)) (nI (kdO (cod p s k r i))) (nI (wtO (cod p s k r i))) 0 = some (nI (rowI p s k r i 6 0), m2) := b1
    have pc2 := PC_FC pc1 isSt18 hP b3
    have e7 : ald m2 38 3 (nI (crw (p 16 0) (frN (p 16 0) du i))) = some (nI (rowT p s k r i)) := by
      rw [ald_n (by omega) (by decide), b3.1 38 (by omega), q2 _ (by omega), htm]
    obtain ⟨g1, g2, g3, -⟩ := cod_go (k := k) (r := r) (i := i) hp hcp
    have e8 : f_X8_minutesFor m2 P (nI (kdO (cod p s k r i))) (nI (wtO (cod p s k r i))) = some (nI (du i)) := by
      rw [hdd1]
      exact c_mfor hp pc2 g1 g2 g3
    have e9 : ast m2 38 3 (nI (crw (p 16 0) (frN (p 16 0) du i))) (nI (rowT p s k r i) + nI (du i)) = some (up2 m2 38 (crw (p 16 0) (frN (p 16 0) du i)) (nI (rowT p s k r i + du i))) := by
      rw [nI_add]
      exact ast_n (by omega) (by decide)
    refine ⟨_, ?_, up2 m2 38 (crw (p 16 0) (frN (p 16 0) du i)) (nI (rowT p s k r i + du i)), rfl, RC_fr b2 (fun j hj i' _ => up2_cell (by omega)), fun c hc3 => ?_, fun b hb h38 => by rw [up2_ne h38, b3.1 b (by omega), q3 b hb h38]⟩
    · unfold b_X4_giveRow_11
      dsimp only
      rw [if_neg hc, e1, Option.bind_some, e2, Option.bind_some, Option.bind_some, e3, Option.bind_some, e4, Option.bind_some, e5, Option.bind_some, e6, b1', bind2_some, e7, Option.bind_some, e8, Option.bind_some, e9, Option.bind_some, nI_1]
    · simp only [frN]
      by_cases e : c = crw (p 16 0) (frN (p 16 0) du i)
      · rw [if_pos e, e, up2_same, htm]
      · rw [if_neg e, up2_slot e, b3.1 38 (by omega), q2 c hc3]) (by
    rintro x ⟨m1, rfl, q1, q2, q3⟩
    refine ⟨m1, ?_, q1, q3⟩
    unfold b_X4_giveRow_11
    exact if_pos (Int32.le_refl _)) (x := (0, upA m 38 (fun i => if i < 3 then 0 else m 38 i))) ⟨_, rfl, RC_fr rc (fun j hj i _ => by rw [upA_ne (by omega)]), fun c hc => by rw [upA_self]; exact if_pos hc, fun b _ h38 => upA_ne h38⟩
  refine ⟨m1, ?_, a2, a3⟩
  unfold f_X4_giveRow
  rw [fill_n, Option.bind_some, a1]
  rfl
/-- what the class keeps of the rows seen, against what is told -/
def KB (p s : AS) (k : Nat) (m : Mm) (a : Option (Nat × Nat × Nat)) : Prop := match a with
  | none => m 34 9 = 0
  | some q => m 34 9 = 1 ∧ m 34 0 = nI q.1 ∧ m 34 1 = nI q.2.1 ∧ (q.1 = 4294967292 ∨ q.1 ≤ 120) ∧ q.2.1 < 2 ^ 20 ∧ ∀ i, i < k → m 37 i = nI (cod p s k q.2.2 i)
theorem c_keep {p s : AS} {m : Mm} {k r mi wa : Nat} {a : Option (Nat × Nat × Nat)} (hk : k ≤ 3) (hm : mi = 4294967292 ∨ mi ≤ 120) (hw : wa < 2 ^ 20) (ha : KB p s k m a) (h36 : ∀ i, i < k → m 36 i = nI (cod p s k r i)) : ∃ m', f_X4_keepIfBetter m (nI mi) (nI wa) = some m' ∧ KB p s k m' (match a with | none => some (mi, wa, r) | some q => if ltr mi q.1 || (decide (mi = q.1) && decide (wa < q.2.1)) then some (mi, wa, r) else a) ∧ (∀ b, b ≠ 34 → b ≠ 37 → m' b = m b) ∧ ∀ i, i ≠ 0 → i ≠ 1 → i ≠ 9 → m' 34 i = m 34 i := by
  have take : ∃ m', (letv (up2 m 34 9 1) fun m6 => letv (up2 m6 34 0 (nI mi)) fun m7 => letv (up2 m7 34 1 (nI wa)) fun m8 => (acopy m8 36 3 0 37 3 0 3).bind fun m9 => some m9) = some m' ∧ KB p s k m' (some (mi, wa, r)) ∧ (∀ b, b ≠ 34 → b ≠ 37 → m' b = m b) ∧ ∀ i, i ≠ 0 → i ≠ 1 → i ≠ 9 → m' 34 i = m 34 i := by
    refine ⟨_, by rw [letv_eq, letv_eq, letv_eq, show (3 : Int32) = nI 3 from rfl, acopy_n (by decide) (by decide) (by decide)]; rfl, ⟨?_, ?_, ?_, hm, hw, fun i hi => ?_⟩, fun b h1 h2 => by rw [upA_ne h2, up2_ne h1, up2_ne h1, up2_ne h1], fun i h1 h2 h3 => by rw [upA_ne (by decide), up2_slot h2, up2_slot h1, up2_slot h3]⟩
    · rw [upA_ne (by decide), up2_slot (by decide), up2_slot (by decide), up2_same]
    · rw [upA_ne (by decide), up2_slot (by decide), up2_same]
    · rw [upA_ne (by decide), up2_same]
    · rw [upA_self]
      show (if i < 3 then _ else _) = _
      rw [if_pos (by omega), up2_cell (by decide), up2_cell (by decide), up2_cell (by decide)]
      exact h36 i hi
  have hmi32 : mi < 2 ^ 32 := by omega
  obtain ⟨m', t1, t2, t3⟩ := take
  cases a with
  | none =>
    obtain ⟨x, hx⟩ : ∃ x, f_X8_isLater (nI mi) (m 34 0) = some x := by
      unfold f_X8_isLater
      split
      · exact ⟨_, rfl⟩
      split
      · exact ⟨_, rfl⟩
      split <;> exact ⟨_, rfl⟩
    obtain ⟨y, hy⟩ : ∃ y : Int32, (if x = 0 then (if nI mi = (m 34 0) then (if (m 34 1) ≤ nI wa then (some 0) else (some 1)) else (some 0)) else (some 1) : Option Int32) = some y := by
      split
      · split
        · split <;> exact ⟨_, rfl⟩
        · exact ⟨_, rfl⟩
      · exact ⟨_, rfl⟩
    refine ⟨m', ?_, t2, t3⟩
    have h9 : m 34 9 = 0 := ha
    unfold f_X4_keepIfBetter
    rw [hx, Option.bind_some, hy, Option.bind_some, letv_eq, if_pos h9]
    exact t1
  | some q =>
    obtain ⟨h9, h0, h1, hq1, hq2, h37⟩ := ha
    have h9' : ¬ m 34 9 = 0 := by rw [h9]; decide
    have e1 := later_c hm hq1
    have e2 : (nI mi = nI q.1) = (mi = q.1) := nq hmi32 (by omega)
    have e3 : ∃ y : Int32, (if (if ltr mi q.1 then (1 : Int32) else 0) = 0 then (if nI mi = nI q.1 then (if nI q.2.1 ≤ nI wa then (some 0) else (some 1)) else (some 0)) else (some 1) : Option Int32) = some y ∧ (y = 0 ↔ ¬ (ltr mi q.1 || (decide (mi = q.1) && decide (wa < q.2.1))) = true) := by
      cases hl : ltr mi q.1 with
      | true => exact ⟨1, by rw [if_neg (by decide)], by simp⟩
      | false =>
        rw [show (if false = true then (1 : Int32) else 0) = 0 from rfl, if_pos rfl]
        by_cases w1 : mi = q.1
        · rw [if_pos (by rw [w1])]
          by_cases w2 : q.2.1 ≤ wa
          · exact ⟨0, by rw [if_pos (nI_le w2 (by omega))], by simp [w1, Nat.not_lt.mpr w2]⟩
          · exact ⟨1, by rw [if_neg (nI_ge (by omega) (by omega))], by simp [w1, Nat.not_le.mp w2]⟩
        · have w1' : ¬ nI mi = nI q.1 := by rw [e2]; exact w1
          exact ⟨0, by rw [if_neg w1'], by simp [w1]⟩
    obtain ⟨y, e4, e5⟩ := e3
    by_cases w : (ltr mi q.1 || (decide (mi = q.1) && decide (wa < q.2.1))) = true
    · have hy : ¬ y = 0 := fun h => (e5.mp h) w
      refine ⟨m', ?_, ?_, t3⟩
      · unfold f_X4_keepIfBetter
        rw [h0, h1, e1, Option.bind_some, e4, Option.bind_some, letv_eq, if_neg h9', if_neg hy]
        exact t1
      · show KB p s k m' (if _ then _ else _)
        rw [if_pos w]
        exact t2
    · have hy : y = 0 := e5.mpr w
      refine ⟨m, ?_, ?_, fun _ _ _ => rfl, fun _ _ _ _ => rfl⟩
      · unfold f_X4_keepIfBetter
        rw [h0, h1, e1, Option.bind_some, e4, Option.bind_some, letv_eq, if_neg h9', if_pos hy]
      · show KB p s k m (if _ then _ else _)
        rw [if_neg w]
        exact ⟨h9, h0, h1, hq1, hq2, h37⟩

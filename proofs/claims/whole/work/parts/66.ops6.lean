/-! most, upright -/
def popN (x : Nat) : Nat := sumN (fun j => x / 2 ^ j % 2) 10
theorem pop_c : ∀ x, x < 1024 → bitc (nI x) = nI (popN x) := by decide +kernel
theorem bit_r : ∀ k, k < 10 → ∀ x, x < 1024 → (nI x >>> (nI k &&& 31)) &&& (1 : Int32) = nI (x / 2 ^ k % 2) := by decide +kernel
theorem popN_le (x : Nat) : popN x ≤ 10 := by
  have := sumN_le (f := fun j => x / 2 ^ j % 2) (c := 1) (n := 10) (fun i _ => by show x / 2 ^ i % 2 ≤ 1; omega)
  unfold popN
  omega
theorem m_count {F x : Nat} (hF : 5000 ≤ F) (hx : x < 1024) : f_X9_countOf F (nI x) = some (nI (popN x)) := by
  have h1 := iter_n (b := b_X9_countOf_4 (nI x)) (F := F) (fun i => (nI (sumN (fun j => x / 2 ^ j % 2) i), nI i)) 10 (nI (popN x)) (by omega) (by
    intro i hi
    have hc : ¬ (10 : Int32) ≤ nI i := nI_ge (b := 10) hi (by decide)
    unfold b_X9_countOf_4
    dsimp only
    rw [if_neg hc, letv_eq, bit_r i hi x hx, nI_add, nI_1]
    rfl) (by
    unfold b_X9_countOf_4
    dsimp only
    rw [if_pos (show (10 : Int32) ≤ nI 10 from by decide)]
    rfl)
  unfold f_X9_countOf
  rw [show ((0, 0) : Int32 × Int32) = (fun i => (nI (sumN (fun j => x / 2 ^ j % 2) i), nI i)) 0 from rfl, h1]
  rfl
def mstS (p s : AS) (x : Nat) (a : Option Nat) : Option Nat := match a with
  | none => if flo p s (nI x) then some x else none
  | some b => if popN b < popN x then (if flo p s (nI x) then some x else some b) else some b
theorem mstS_lt {p s : AS} : ∀ n b, rep (mstS p s) n none = some b → b < n
  | 0, b, h => by cases h
  | n + 1, b, h => by
    have ih := mstS_lt (p := p) (s := s) n
    change mstS p s n (rep (mstS p s) n none) = some b at h
    generalize rep (mstS p s) n none = a at h ih
    cases a with
    | none =>
      simp only [mstS] at h
      split at h
      · cases h; omega
      · cases h
    | some b2 =>
      have := ih b2 rfl
      simp only [mstS] at h
      split at h
      · split at h
        · cases h; omega
        · cases h; omega
      · cases h; omega
def opB (a : Option Nat) : Int32 := match a with | none => -4 | some b => nI b
def opP (a : Option Nat) : Int32 := match a with | none => -4 | some b => nI (popN b)
theorem op_most {F c : Nat} (hF : 5000 ≤ F) : OP_most F (G c) (G (c + 1)) := by
  intro m P D T hG a1
  have hG' := G_mono hG (Nat.le_succ c)
  obtain ⟨hP, hD, hPD, p, s, hp, hI, hFI, ⟨pc, pm, rc, rm⟩, gi, gr, gt, gs, go, gk⟩ := G_alt hG
  obtain ⟨l1, l2, l3, l4⟩ := hp.1
  have hz := hI.2.1.1
  have hpw : 2 ^ p 0 0 ≤ 256 := (Nat.pow_le_pow_right (by decide) l1 : 2 ^ p 0 0 ≤ 2 ^ 8)
  unfold f_X8_most f_X9_most
  rcases in_N a1 0 1 (A := 0) (B := 1) (by decide) (by decide) (by decide) (by decide) with ⟨w, -, hw, rfl, h⟩ | ⟨hx, h⟩
  case inr =>
    refine ⟨-1, m, m, ?_, by rw [h]; rfl, hG'⟩
    rcases hx with q | q
    · rw [if_pos (show a1 < (0 : Int32) from q)]
    · rw [if_neg (c := a1 ≤ (1 : Int32)) (Int32.not_le.mpr q)]
      split <;> rfl
  have k3 : ¬ nI w < (0 : Int32) := nI_pos (by omega)
  have k4 : nI w ≤ (1 : Int32) := nI_le (b := 1) hw (by decide)
  rw [if_neg k3, if_pos k4]
  obtain ⟨r, b1, b2, b3, b4⟩ := iter_P (b := b_X8_most_20 F P) (F := F) (2 ^ p 0 0) (fun i x => ∃ m1, x = (opB (rep (mstS p s) i none), opP (rep (mstS p s) i none), nI i, m1) ∧ Sm m m1) (fun r => r.1 = opB (rep (mstS p s) (2 ^ p 0 0) none) ∧ r.2.1 = opP (rep (mstS p s) (2 ^ p 0 0) none) ∧ Sm m r.2.2) (by omega) (by
    rintro i x hi ⟨m1, rfl, q1⟩
    have hc' : ¬ ((1 : Int32) <<< (m1 P 0 &&& 31)) ≤ nI i := by rw [PC_0 (PC_Sm hP pc q1), shl1 _ (by omega)]; exact nI_ge hi (by omega)
    have hlt := mstS_lt (p := p) (s := s) i
    have e : rep (mstS p s) (i + 1) none = mstS p s i (rep (mstS p s) i none) := rfl
    rw [e]
    generalize rep (mstS p s) i none = a at hlt
    have v1 := c_float hF hP hp (PC_Sm hP pc q1) (RC_Sm rc q1) (nI i)
    have hpi := popN_le i
    have hcount : f_J6_bitCount (nI i) = some (nI (popN i)) := by unfold f_J6_bitCount; rw [pop_c i (by omega)]
    have hif : ∀ m1' : Mm, (if nI (popN i) ≤ opP a then True else True) := fun _ => by split <;> trivial
    cases a with
    | none =>
      have hk : ¬ nI (popN i) ≤ opP none := by
        show ¬ nI (popN i) ≤ (-4 : Int32)
        intro q
        exact absurd (Int32.le_trans (nI_pos' (n := popN i) (by omega)) q) (by decide)
      by_cases w2 : flo p s (nI i)
      · rw [w2, if_pos rfl] at v1
        refine ⟨_, ?_, scl m1 39 p (wS p s (nI i)), rfl, q1.tr sm_scl⟩
        unfold b_X8_most_20
        dsimp only
        rw [if_neg hc', hcount, Option.bind_some, if_neg hk, v1, bind2_some, if_neg n10, Option.bind_some, Option.bind_some, nI_1]
        simp only [mstS, if_pos w2]
        rfl
      · rw [if_neg w2] at v1
        refine ⟨_, ?_, scl m1 39 p (wS p s (nI i)), rfl, q1.tr sm_scl⟩
        unfold b_X8_most_20
        dsimp only
        rw [if_neg hc', hcount, Option.bind_some, if_neg hk, v1, bind2_some, if_pos rfl, Option.bind_some, nI_1]
        simp only [mstS, if_neg w2]
    | some b =>
      have hpb := popN_le b
      by_cases hlt2 : popN b < popN i
      · have hk : ¬ nI (popN i) ≤ opP (some b) := nI_ge hlt2 (by omega)
        by_cases w2 : flo p s (nI i)
        · rw [w2, if_pos rfl] at v1
          refine ⟨_, ?_, scl m1 39 p (wS p s (nI i)), rfl, q1.tr sm_scl⟩
          unfold b_X8_most_20
          dsimp only
          rw [if_neg hc', hcount, Option.bind_some, if_neg hk, v1, bind2_some, if_neg n10, Option.bind_some, Option.bind_some, nI_1]
          simp only [mstS, if_pos w2, if_pos hlt2]
          rfl
        · rw [if_neg w2] at v1
          refine ⟨_, ?_, scl m1 39 p (wS p s (nI i)), rfl, q1.tr sm_scl⟩
          unfold b_X8_most_20
          dsimp only
          rw [if_neg hc', hcount, Option.bind_some, if_neg hk, v1, bind2_some, if_pos rfl, Option.bind_some, nI_1]
          simp only [mstS, if_neg w2, if_pos hlt2]
      · have hk : nI (popN i) ≤ opP (some b) := nI_le (by omega) (by omega)
        refine ⟨_, ?_, m1, rfl, q1⟩
        unfold b_X8_most_20
        dsimp only
        rw [if_neg hc', hcount, Option.bind_some, if_pos hk, Option.bind_some, nI_1]
        simp only [mstS, if_neg hlt2]) (by
    rintro x ⟨m1, rfl, q1⟩
    have hc' : ((1 : Int32) <<< (m1 P 0 &&& 31)) ≤ nI (2 ^ p 0 0) := by rw [PC_0 (PC_Sm hP pc q1), shl1 _ (by omega)]; exact Int32.le_refl _
    refine ⟨(opB (rep (mstS p s) (2 ^ p 0 0) none), opP (rep (mstS p s) (2 ^ p 0 0) none), m1), ?_, rfl, rfl, q1⟩
    unfold b_X8_most_20
    exact if_pos hc') (x := (-4, -4, 0, m)) ⟨m, rfl, Sm.rf⟩
  obtain ⟨r2, d1, d2, d3⟩ := iter_P (b := b_X9_most_17 F) (F := F) (2 ^ p 0 0) (fun i x => ∃ m1, x = (opB (rep (mstS p s) i none), nI i, m1) ∧ Sm m m1) (fun r => r.1 = opB (rep (mstS p s) (2 ^ p 0 0) none) ∧ Sm m r.2) (by omega) (by
    rintro i x hi ⟨m1, rfl, q1⟩
    have hc' : ¬ ((1 : Int32) <<< (m1 113 2 &&& 31)) ≤ nI i := by rw [pm_1 (PM_Sm pm q1), shl1 _ (by omega)]; exact nI_ge hi (by omega)
    have hlt := mstS_lt (p := p) (s := s) i
    have e : rep (mstS p s) (i + 1) none = mstS p s i (rep (mstS p s) i none) := rfl
    rw [e]
    generalize rep (mstS p s) i none = a at hlt
    obtain ⟨m2, v1, v2, -⟩ := m_float hF hp (PM_Sm pm q1) (RM_Sm hp hz rm q1) hz (nI i)
    have hpi := popN_le i
    cases a with
    | none =>
      have hk : opB none = (-4 : Int32) := rfl
      by_cases w2 : flo p s (nI i)
      · rw [w2, if_pos rfl] at v1
        refine ⟨_, ?_, m2, rfl, q1.tr v2.sm⟩
        unfold b_X9_most_17
        dsimp only
        rw [if_neg hc', if_pos hk, v1, bind2_some, if_neg n10, Option.bind_some]
        dsimp only
        rw [if_neg n10, Option.bind_some, nI_1]
        simp only [mstS, if_pos w2]
        rfl
      · rw [if_neg w2] at v1
        refine ⟨_, ?_, m2, rfl, q1.tr v2.sm⟩
        unfold b_X9_most_17
        dsimp only
        rw [if_neg hc', if_pos hk, v1, bind2_some, if_pos rfl, Option.bind_some]
        dsimp only
        rw [if_pos rfl, Option.bind_some, nI_1]
        simp only [mstS, if_neg w2]
    | some b =>
      have hb := hlt b rfl
      have hk : ¬ opB (some b) = (-4 : Int32) := by
        rw [← nI_NN]
        exact nI_ne (by omega) (by decide) (by omega)
      have hpb := popN_le b
      have c1 : f_X9_countOf F (nI i) = some (nI (popN i)) := m_count hF (by omega)
      have c2 : f_X9_countOf F (opB (some b)) = some (nI (popN b)) := m_count hF (by omega)
      by_cases hlt2 : popN b < popN i
      · have hk2 : ¬ nI (popN i) ≤ nI (popN b) := nI_ge hlt2 (by omega)
        by_cases w2 : flo p s (nI i)
        · rw [w2, if_pos rfl] at v1
          refine ⟨_, ?_, m2, rfl, q1.tr v2.sm⟩
          unfold b_X9_most_17
          dsimp only
          rw [if_neg hc', if_neg hk, c1, Option.bind_some, c2, Option.bind_some, if_neg hk2, v1, bind2_some, if_neg n10, Option.bind_some]
          dsimp only
          rw [if_neg n10, Option.bind_some, nI_1]
          simp only [mstS, if_pos w2, if_pos hlt2]
          rfl
        · rw [if_neg w2] at v1
          refine ⟨_, ?_, m2, rfl, q1.tr v2.sm⟩
          unfold b_X9_most_17
          dsimp only
          rw [if_neg hc', if_neg hk, c1, Option.bind_some, c2, Option.bind_some, if_neg hk2, v1, bind2_some, if_pos rfl, Option.bind_some]
          dsimp only
          rw [if_pos rfl, Option.bind_some, nI_1]
          simp only [mstS, if_neg w2, if_pos hlt2]
      · have hk2 : nI (popN i) ≤ nI (popN b) := nI_le (by omega) (by omega)
        refine ⟨_, ?_, m1, rfl, q1⟩
        unfold b_X9_most_17
        dsimp only
        rw [if_neg hc', if_neg hk, c1, Option.bind_some, c2, Option.bind_some, if_pos hk2, Option.bind_some]
        dsimp only
        rw [if_pos rfl, Option.bind_some, nI_1]
        simp only [mstS, if_neg hlt2]) (by
    rintro x ⟨m1, rfl, q1⟩
    have hc' : ((1 : Int32) <<< (m1 113 2 &&& 31)) ≤ nI (2 ^ p 0 0) := by rw [pm_1 (PM_Sm pm q1), shl1 _ (by omega)]; exact Int32.le_refl _
    refine ⟨(opB (rep (mstS p s) (2 ^ p 0 0) none), m1), ?_, rfl, q1⟩
    unfold b_X9_most_17
    exact if_pos hc') (x := (-4, 0, r.2.2)) ⟨r.2.2, rfl, b4⟩
  have hlt := mstS_lt (p := p) (s := s) (2 ^ p 0 0)
  generalize rep (mstS p s) (2 ^ p 0 0) none = a at hlt b2 b3 d2
  refine ⟨if nI w = (0 : Int32) then opP a else opB a, r.2.2, r2.2, ?_, ?_, G_Sm hG (Nat.le_succ c) d3⟩
  · rw [b1, Option.bind_some, b2, b3]
    split <;> rfl
  · rw [h, Option.bind_some, if_neg n10, d1, Option.bind_some, d2]
    cases a with
    | none =>
      rw [if_pos (show opB none = (-4 : Int32) from rfl)]
      show _ = some ((if nI w = (0 : Int32) then (-4 : Int32) else -4), r2.2)
      split <;> rfl
    | some b =>
      have hb := hlt b rfl
      have hk : ¬ opB (some b) = (-4 : Int32) := by
        rw [← nI_NN]
        exact nI_ne (by omega) (by decide) (by omega)
      have c2 : f_X9_countOf F (opB (some b)) = some (nI (popN b)) := m_count hF (by omega)
      rw [if_neg hk, c2]
      by_cases q : nI w = (0 : Int32)
      · rw [if_pos q, if_pos q]
        rfl
      · rw [if_neg q, if_neg q]
theorem sum_ab {f : Nat → Int32} {c1 c2 : Nat} : ∀ n, (∀ i, i < n → ∃ a b, a ≤ c1 ∧ b ≤ c2 ∧ f i = nI a - nI b) → ∃ a b, a ≤ n * c1 ∧ b ≤ n * c2 ∧ sumTo f n = nI a - nI b
  | 0, _ => ⟨0, 0, by omega, by omega, show (0 : Int32) = nI 0 - nI 0 from by decide⟩
  | n + 1, h => by
    obtain ⟨a, b, h1, h2, h3⟩ := sum_ab (f := f) (c1 := c1) (c2 := c2) n (fun i hi => h i (by omega))
    obtain ⟨a2, b2, h4, h5, h6⟩ := h n (by omega)
    refine ⟨a + a2, b + b2, by rw [Nat.add_mul]; omega, by rw [Nat.add_mul]; omega, ?_⟩
    rw [sumTo, h3, h6, ← nI_add, ← nI_add]
    grind
theorem abs_ab {a b : Nat} (ha : a < 2 ^ 28) (hb : b < 2 ^ 28) : ∃ k, k ≤ a + b ∧ iabs (nI a - nI b) = nI k := by
  by_cases q : b ≤ a
  · refine ⟨a - b, by omega, ?_⟩
    rw [pk_sub q, iabs, if_pos (nI_pos' (by omega))]
  · refine ⟨b - a, by omega, ?_⟩
    have h1 := pk_sneg (a := a) (b := b) (by omega) (by omega)
    rw [iabs, if_neg (Int32.not_le.mpr h1), ← pk_sub (by omega : a ≤ b)]
    grind
theorem lst_n {p : AS} {w : Nat → Nat} (hp : PW p) (hw : ∀ h, h < p 0 0 → w h ≤ 99) : ∃ k, k < 2 ^ 20 ∧ lst p w = nI k := by
  obtain ⟨⟨l1, l2, l3, l4⟩, ph, -⟩ := id hp
  obtain ⟨a, b, h1, h2, h3⟩ := sum_ab (f := fun h => nI (w h) * (nI (p 2 h) - 1)) (c1 := 198) (c2 := 99) (p 0 0) (fun i hi => by
    have h1 := hw i hi
    have h2 := (ph i hi).2.2.1
    refine ⟨w i * p 2 i, w i, ?_, h1, ?_⟩
    · exact Nat.mul_le_mul h1 h2
    · rw [← pk_mul]
      grind)
  have e1 : p 0 0 * 198 ≤ 8 * 198 := Nat.mul_le_mul_right _ l1
  have e2 : p 0 0 * 99 ≤ 8 * 99 := Nat.mul_le_mul_right _ l1
  obtain ⟨k, h4, h5⟩ := abs_ab (a := a) (b := b) (by omega) (by omega)
  refine ⟨k / 2, by omega, ?_⟩
  unfold lst
  rw [h3, h5, show (2 : Int32) = nI 2 from rfl, pk_div (by omega) (by decide) (by decide)]
theorem trm_n {p : AS} {w : Nat → Nat} (hp : PW p) (hw : ∀ h, h < p 0 0 → w h ≤ 99) : ∃ k, k < 2 ^ 20 ∧ trm p w = nI k := by
  obtain ⟨⟨l1, l2, l3, l4⟩, ph, -⟩ := id hp
  obtain ⟨a, b, h1, h2, h3⟩ := sum_ab (f := fun h => nI (w h) * (nI (p 3 h) - 9)) (c1 := 1782) (c2 := 891) (p 0 0) (fun i hi => by
    have h1 := hw i hi
    have h2 := (ph i hi).2.2.2.1
    refine ⟨w i * p 3 i, w i * 9, ?_, by omega, ?_⟩
    · exact Nat.mul_le_mul h1 h2
    · rw [← pk_mul, ← pk_mul, show nI 9 = (9 : Int32) from rfl]
      grind)
  have e1 : p 0 0 * 1782 ≤ 8 * 1782 := Nat.mul_le_mul_right _ l1
  have e2 : p 0 0 * 891 ≤ 8 * 891 := Nat.mul_le_mul_right _ l1
  obtain ⟨k, h4, h5⟩ := abs_ab (a := a) (b := b) (by omega) (by omega)
  refine ⟨k / 10, by omega, ?_⟩
  unfold trm
  rw [h3, h5, show (10 : Int32) = nI 10 from rfl, pk_div (by omega) (by decide) (by decide)]

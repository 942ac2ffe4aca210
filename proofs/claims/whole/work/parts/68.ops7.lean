/-! men, dry -/
def foS (s : AS) (d : Nat) : Bool := decide (s 3 d = 1)
theorem c_open {p s : AS} {m : Mm} {P F M : Nat} (hF : 5000 ≤ F) (hp : PW p) (pc : PC p m P) (rc : RC p s m 4) (ho : SO p M s) : f_X8_openDoors F m P = some (bitsS (foS s) (p 0 1)) := by
  have l2 := hp.1.2.1
  have h1 := iter_n (b := b_X8_openDoors_4 m P) (F := F) (fun i => (bitsS (foS s) i, nI i)) (p 0 1) (bitsS (foS s) (p 0 1)) (by omega) (by
    intro i hi
    have hc : ¬ m P 1 ≤ nI i := by rw [PC_1 pc]; exact nI_ge hi (by omega)
    have e1 : ald m 7 10 (nI i) = some (nI (s 3 i)) := C_ld (S := 4) rc 3 i hi (by omega) (by decide)
    have h3 := (ho.2.2.1 i hi).1
    unfold b_X8_openDoors_4
    dsimp only
    rw [if_neg hc, e1, Option.bind_some, letv_eq, nI_1, bitsS]
    have : s 3 i = 0 ∨ s 3 i = 1 := by omega
    rcases this with q | q
    · have hf : ¬ foS s i = true := by simp [foS, q]
      rw [if_neg hf, q, nIl0, Int32.zero_shiftLeft, Int32.or_zero]
    · have hf : foS s i = true := by simp [foS, q]
      rw [if_pos hf, q, nIl1]) (by
    have hc : m P 1 ≤ nI (p 0 1) := by rw [PC_1 pc]; exact Int32.le_refl _
    unfold b_X8_openDoors_4
    exact if_pos hc)
  unfold f_X8_openDoors
  rw [show ((0, 0) : Int32 × Int32) = (fun i => (bitsS (foS s) i, nI i)) 0 from rfl, h1]
  rfl
theorem m_open {p s : AS} {m : Mm} {F M : Nat} (hF : 5000 ≤ F) (hp : PW p) (pm : PM p m) (rm : RM p s m 0) (ho : SO p M s) : f_X9_openDoors F m = some (bitsS (foS s) (p 0 1)) := by
  have l2 := hp.1.2.1
  have h1 := iter_n (b := b_X9_openDoors_4 m) (F := F) (fun i => (bitsS (foS s) i, nI i)) (p 0 1) (bitsS (foS s) (p 0 1)) (by omega) (by
    intro i hi
    have hc : ¬ m 113 4 ≤ nI i := by rw [pm_2 pm]; exact nI_ge hi (by omega)
    have e1 : ald m 114 512 (16 + nI i) = some (nI (s 3 i)) := M_ld rm hp.1 ho.1 (by decide) 3 i hi (ix1 16 i)
    have h3 := (ho.2.2.1 i hi).1
    unfold b_X9_openDoors_4
    dsimp only
    rw [if_neg hc, e1, Option.bind_some, nI_1, bitsS]
    by_cases q : s 3 i = 1
    · have hf : foS s i = true := by simp [foS, q]
      have k1 : nI (s 3 i) = (1 : Int32) := by rw [q]; rfl
      rw [if_pos hf, if_pos k1]
      rfl
    · have hf : ¬ foS s i = true := by simp [foS, q]
      have k1 : ¬ nI (s 3 i) = (1 : Int32) := nI_ne (b := 1) (by omega) (by decide) q
      rw [if_neg hf, if_neg k1, Option.bind_some, letv_eq, Int32.or_zero]) (by
    have hc : m 113 4 ≤ nI (p 0 1) := by rw [pm_2 pm]; exact Int32.le_refl _
    unfold b_X9_openDoors_4
    exact if_pos hc)
  unfold f_X9_openDoors
  rw [show ((0, 0) : Int32 × Int32) = (fun i => (bitsS (foS s) i, nI i)) 0 from rfl, h1]
  rfl
def holS (p : AS) : Nat → Int32
  | 0 => 0
  | i + 1 => holS p i ||| ((1 : Int32) <<< (nI (p 11 i) &&& 31))
theorem c_holed {p : AS} {m : Mm} {P F : Nat} (hF : 5000 ≤ F) (hp : PW p) (pc : PC p m P) : f_X8_holdsWithHoles F m P = some (holS p (p 0 2)) := by
  have l3 := hp.1.2.2.1
  have h1 := iter_n (b := b_X8_holdsWithHoles_4 m P) (F := F) (fun i => (holS p i, nI i)) (p 0 2) (holS p (p 0 2)) (by omega) (by
    intro i hi
    have hc : ¬ m P 2 ≤ nI i := by rw [PC_2 pc]; exact nI_ge hi (by omega)
    have e1 : ald m (P + 11) 4 (nI i) = some (nI (p 11 i)) := P_ld pc 11 i hi (by omega) (by decide)
    unfold b_X8_holdsWithHoles_4
    dsimp only
    rw [if_neg hc, e1, Option.bind_some, letv_eq, nI_1, holS]) (by
    have hc : m P 2 ≤ nI (p 0 2) := by rw [PC_2 pc]; exact Int32.le_refl _
    unfold b_X8_holdsWithHoles_4
    exact if_pos hc)
  unfold f_X8_holdsWithHoles
  rw [show ((0, 0) : Int32 × Int32) = (fun i => (holS p i, nI i)) 0 from rfl, h1]
  rfl
theorem m_holed {p : AS} {m : Mm} {F : Nat} (hF : 5000 ≤ F) (hp : PW p) (pm : PM p m) : f_X9_holed F m = some (holS p (p 0 2)) := by
  have l3 := hp.1.2.2.1
  have h1 := iter_n (b := b_X9_holed_4 m) (F := F) (fun i => (holS p i, nI i)) (p 0 2) (holS p (p 0 2)) (by omega) (by
    intro i hi
    have hc : ¬ m 113 6 ≤ nI i := by rw [pm_3 pm]; exact nI_ge hi (by omega)
    have e1 : ald m 118 12 (3 * nI i) = some (nI (p 11 i)) := pm_l hp.1 pm i 0 hi (by decide) (ixm 3 i)
    unfold b_X9_holed_4
    dsimp only
    rw [if_neg hc, e1, Option.bind_some, letv_eq, nI_1, holS]) (by
    have hc : m 113 6 ≤ nI (p 0 2) := by rw [pm_3 pm]; exact Int32.le_refl _
    unfold b_X9_holed_4
    exact if_pos hc)
  unfold f_X9_holed
  rw [show ((0, 0) : Int32 × Int32) = (fun i => (holS p i, nI i)) 0 from rfl, h1]
  rfl
def twoS (p : AS) (d : Nat) : Int32 := ((1 : Int32) <<< (nI (p 5 d) &&& 31)) ||| ((1 : Int32) <<< (nI (p 6 d) &&& 31))
def rcD (p : AS) (v : Int32) (d : Nat) (x : Int32) : Int32 := if ((v >>> (nI d &&& 31)) &&& (1 : Int32)) = (1 : Int32) then (if (x &&& twoS p d) = 0 then x else x ||| twoS p d) else x
def rcA (p : AS) (v x : Int32) : Int32 := rep (fun _ => rep (rcD p v) (p 0 1)) (p 0 0) x
theorem c_reach {p : AS} {m : Mm} {P F : Nat} (hF : 5000 ≤ F) (hp : PW p) (pc : PC p m P) (x v : Int32) : f_X8_reachedFrom F m P x v = some (rcA p v x) := by
  obtain ⟨l1, l2, l3, l4⟩ := hp.1
  have inn : ∀ y, iter F (b_X8_reachedFrom_20 m P v) ((y, 0) : Int32 × Int32) = some (rep (rcD p v) (p 0 1) y) := by
    intro y
    have h1 := iter_n (b := b_X8_reachedFrom_20 m P v) (F := F) (fun i => (rep (rcD p v) i y, nI i)) (p 0 1) (rep (rcD p v) (p 0 1) y) (by omega) (by
      intro i hi
      have hc : ¬ m P 1 ≤ nI i := by rw [PC_1 pc]; exact nI_ge hi (by omega)
      have e1 : ald m (P + 5) 10 (nI i) = some (nI (p 5 i)) := P_ld pc 5 i hi (by omega) (by decide)
      have e2 : ald m (P + 6) 10 (nI i) = some (nI (p 6 i)) := P_ld pc 6 i hi (by omega) (by decide)
      have e3 : (if ((v >>> (nI i &&& 31)) &&& (1 : Int32)) = (1 : Int32) then (if (rep (rcD p v) i y &&& twoS p i) = 0 then (some (rep (rcD p v) i y)) else (letv (rep (rcD p v) i y ||| twoS p i) fun x9 => some x9)) else (some (rep (rcD p v) i y)) : Option (Int32)) = some (rep (rcD p v) (i + 1) y) := by
        show _ = some (rcD p v i (rep (rcD p v) i y))
        unfold rcD
        split
        · split <;> rfl
        · rfl
      unfold b_X8_reachedFrom_20
      dsimp only
      rw [if_neg hc, e1, Option.bind_some, e2, Option.bind_some, letv_eq, show ((1 : Int32) <<< (nI (p 5 i) &&& 31)) ||| ((1 : Int32) <<< (nI (p 6 i) &&& 31)) = twoS p i from rfl, e3, Option.bind_some, nI_1]) (by
      have hc : m P 1 ≤ nI (p 0 1) := by rw [PC_1 pc]; exact Int32.le_refl _
      unfold b_X8_reachedFrom_20
      exact if_pos hc)
    exact h1
  have h1 := iter_n (b := b_X8_reachedFrom_5 F m P v) (F := F) (fun i => (rep (fun _ => rep (rcD p v) (p 0 1)) i x, nI i)) (p 0 0) (rcA p v x) (by omega) (by
    intro i hi
    have hc : ¬ m P 0 ≤ nI i := by rw [PC_0 pc]; exact nI_ge hi (by omega)
    unfold b_X8_reachedFrom_5
    dsimp only
    rw [if_neg hc, inn, Option.bind_some, nI_1]
    rfl) (by
    have hc : m P 0 ≤ nI (p 0 0) := by rw [PC_0 pc]; exact Int32.le_refl _
    unfold b_X8_reachedFrom_5
    exact if_pos hc)
  unfold f_X8_reachedFrom
  rw [show ((x, 0) : Int32 × Int32) = (fun i => (rep (fun _ => rep (rcD p v) (p 0 1)) i x, nI i)) 0 from rfl, h1]
  rfl
theorem m_reach {p : AS} {m : Mm} {F : Nat} (hF : 5000 ≤ F) (hp : PW p) (pm : PM p m) (x v : Int32) : f_X9_reach F m x v = some (rcA p v x) := by
  obtain ⟨l1, l2, l3, l4⟩ := hp.1
  have inn : ∀ y, iter F (b_X9_reach_17 m v) ((y, 0) : Int32 × Int32) = some (rep (rcD p v) (p 0 1) y) := by
    intro y
    have h1 := iter_n (b := b_X9_reach_17 m v) (F := F) (fun i => (rep (rcD p v) i y, nI i)) (p 0 1) (rep (rcD p v) (p 0 1) y) (by omega) (by
      intro i hi
      have hc : ¬ m 113 4 ≤ nI i := by rw [pm_2 pm]; exact nI_ge hi (by omega)
      have e1 : ald m 117 60 (6 * nI i) = some (nI (p 5 i)) := pm_d hp.1 pm i 0 hi (by decide) (ixm 6 i)
      have e2 : ald m 117 60 (6 * nI i + 1) = some (nI (p 6 i)) := pm_d hp.1 pm i 1 hi (by decide) (ixm1 6 i 1)
      have e3 : ∀ t : Int32, ∃ z, (if ((v >>> (nI i &&& 31)) &&& (1 : Int32)) = (1 : Int32) then (if (t &&& twoS p i) = 0 then (some 0) else (some (twoS p i))) else (some 0) : Option (Int32)) = some z ∧ t ||| z = rcD p v i t := by
        intro t
        unfold rcD
        by_cases q1 : ((v >>> (nI i &&& 31)) &&& (1 : Int32)) = (1 : Int32)
        · by_cases q2 : (t &&& twoS p i) = 0
          · exact ⟨0, by rw [if_pos q1, if_pos q2], by rw [if_pos q1, if_pos q2, Int32.or_zero]⟩
          · exact ⟨twoS p i, by rw [if_pos q1, if_neg q2], by rw [if_pos q1, if_neg q2]⟩
        · exact ⟨0, by rw [if_neg q1], by rw [if_neg q1, Int32.or_zero]⟩
      obtain ⟨z, e4, e5⟩ := e3 (rep (rcD p v) i y)
      unfold b_X9_reach_17
      dsimp only
      rw [if_neg hc, e1, Option.bind_some, e2, Option.bind_some, letv_eq, show ((1 : Int32) <<< (nI (p 5 i) &&& 31)) ||| ((1 : Int32) <<< (nI (p 6 i) &&& 31)) = twoS p i from rfl, e4, Option.bind_some, letv_eq, e5, nI_1]
      rfl) (by
      have hc : m 113 4 ≤ nI (p 0 1) := by rw [pm_2 pm]; exact Int32.le_refl _
      unfold b_X9_reach_17
      exact if_pos hc)
    exact h1
  have h1 := iter_n (b := b_X9_reach_5 F m v) (F := F) (fun i => (rep (fun _ => rep (rcD p v) (p 0 1)) i x, nI i)) (p 0 0) (rcA p v x) (by omega) (by
    intro i hi
    have hc : ¬ m 113 2 ≤ nI i := by rw [pm_1 pm]; exact nI_ge hi (by omega)
    unfold b_X9_reach_5
    dsimp only
    rw [if_neg hc, inn, Option.bind_some, nI_1]
    rfl) (by
    have hc : m 113 2 ≤ nI (p 0 0) := by rw [pm_1 pm]; exact Int32.le_refl _
    unfold b_X9_reach_5
    exact if_pos hc)
  unfold f_X9_reach
  rw [show ((x, 0) : Int32 × Int32) = (fun i => (rep (fun _ => rep (rcD p v) (p 0 1)) i x, nI i)) 0 from rfl, h1]
  rfl
theorem op_men {F c : Nat} (hF : 5000 ≤ F) : OP_men F (G c) (G (c + 1)) := by
  intro m P D T hG a1
  have hG' := G_mono hG (Nat.le_succ c)
  obtain ⟨hP, hD, hPD, p, s, hp, hI, hFI, ⟨pc, pm, rc, rm⟩, gi, gr, gt, gs, go, gk⟩ := G_alt hG
  obtain ⟨l1, l2, l3, l4⟩ := hp.1
  have ho := hI.2.1
  have hpw := pow_le (k := p 0 1) (by omega)
  have e1 : ald m (P + 16) 5 4 = some (nI (p 16 4)) := P_ld pc 16 4 (by show 4 < 5; omega) (by omega) (by decide)
  have e2 : ald m 120 5 4 = some (nI (p 16 4)) := pm_r pm 4 (by decide) rfl
  unfold f_X8_men f_X9_men f_X9_areDoors
  rw [PC_1 pc, PC_0 pc, pm_1 pm, pm_2 pm, shl1 _ (by omega), e1, e2]
  rcases in_cnt a1 (2 ^ p 0 1) (A := 0) (B := (nI (2 ^ p 0 1) - 1).toInt64) (by decide) rfl (by omega) with ⟨j, hj, rfl, h⟩ | ⟨hx, h⟩
  · have k1 : ¬ nI j < (0 : Int32) := nI_pos (by omega)
    have k2 : nI j < nI (2 ^ p 0 1) := nI_lt hj (by omega)
    refine ⟨(((1 : Int32) <<< (nI (p 0 0) &&& 31)) - 1) &&& (rcA p (bitsS (foS s) (p 0 1) &&& (nI j ^^^ -1)) ((1 : Int32) <<< (nI (p 16 4) &&& 31)) ^^^ -1), ?_, ?_, hG'⟩
    · rw [if_neg k1, if_pos k2, letv_eq, Option.bind_some, c_open hF hp pc rc ho, Option.bind_some, c_reach hF hp pc, Option.bind_some]
    · rw [h, Option.bind_some, bG_1, Option.bind_some, if_neg n10, Option.bind_some, m_open hF hp pm rm ho, Option.bind_some, m_reach hF hp pm, Option.bind_some]
  · refine ⟨-1, ?_, by rw [h]; rfl, hG'⟩
    rcases hx with q | q
    · rw [if_pos q]
    · rw [if_neg (c := a1 < nI (2 ^ p 0 1)) (Int32.not_lt.mpr q)]
      split <;> rfl
theorem sub_bits {x o : Nat} (h : nI x &&& (nI o ^^^ -1) = 0) (j : Nat) (hj : j < 10) : x / 2 ^ j % 2 ≤ o / 2 ^ j % 2 := by
  have h1 := congrArg (fun v : Int32 => v.toBitVec.getLsbD j) h
  have hj2 : j < 32 := by omega
  have ex : (nI x).toBitVec.getLsbD j = decide (x / 2 ^ j % 2 = 1) := by
    show (BitVec.ofNat 32 x).getLsbD j = _
    rw [BitVec.getLsbD_ofNat, Nat.testBit_eq_decide_div_mod_eq]
    simp [hj2]
  have eo : (nI o).toBitVec.getLsbD j = decide (o / 2 ^ j % 2 = 1) := by
    show (BitVec.ofNat 32 o).getLsbD j = _
    rw [BitVec.getLsbD_ofNat, Nat.testBit_eq_decide_div_mod_eq]
    simp [hj2]
  have e1 : (-1 : Int32).toBitVec.getLsbD j = true := by
    have : ∀ j, j < 10 → (-1 : Int32).toBitVec.getLsbD j = true := by decide +kernel
    exact this j hj
  have e0 : (0 : Int32).toBitVec.getLsbD j = false := by
    have : ∀ j, j < 10 → (0 : Int32).toBitVec.getLsbD j = false := by decide +kernel
    exact this j hj
  simp only [Int32.toBitVec_and, Int32.toBitVec_xor, BitVec.getLsbD_and, BitVec.getLsbD_xor, ex, eo, e1, e0] at h1
  have hx : x / 2 ^ j % 2 < 2 := Nat.mod_lt _ (by decide)
  have ho : o / 2 ^ j % 2 < 2 := Nat.mod_lt _ (by decide)
  by_cases q1 : x / 2 ^ j % 2 = 1 <;> by_cases q2 : o / 2 ^ j % 2 = 1 <;> simp [q1, q2] at h1 <;> omega
theorem rebuild : ∀ x, x < 1024 → sumN (fun j => x / 2 ^ j % 2 * 2 ^ j) 10 = x := by decide +kernel
theorem sumN_eq_of_le {f g : Nat → Nat} : ∀ {n : Nat}, (∀ i, i < n → f i ≤ g i) → sumN g n ≤ sumN f n → ∀ i, i < n → f i = g i
  | 0, _, _, i, hi => absurd hi (by omega)
  | n + 1, h, hs, i, hi => by
    have hle : ∀ k, k ≤ n → sumN f k ≤ sumN g k := by
      intro k
      induction k with
      | zero => intro _; exact Nat.le_refl _
      | succ k ih =>
        intro hk
        have := ih (by omega)
        have := h k (by omega)
        rw [sumN, sumN]; omega
    have h1 := hle n (Nat.le_refl n)
    have h2 := h n (by omega)
    rw [sumN, sumN] at hs
    by_cases e : i = n
    · subst e; omega
    · exact sumN_eq_of_le (n := n) (fun i hi => h i (by omega)) (by omega) i (by omega)
theorem sub_eq {x o : Nat} (hx : x < 1024) (ho : o < 1024) (h : nI x &&& (nI o ^^^ -1) = 0) (hc : popN o ≤ popN x) : x = o := by
  have h1 := sumN_eq_of_le (f := fun j => x / 2 ^ j % 2) (g := fun j => o / 2 ^ j % 2) (n := 10) (fun j hj => sub_bits h j hj) hc
  exact (rebuild x hx).symm.trans ((sumN_congr (fun j hj => congrArg (fun y => y * 2 ^ j) (h1 j hj))).trans (rebuild o ho))
theorem and_not (x : Int32) : x &&& (x ^^^ -1) = 0 := by
  apply Int32.toBitVec_inj.mp
  rw [Int32.toBitVec_and, Int32.toBitVec_xor]
  apply BitVec.eq_of_getLsbD_eq
  intro i hi
  have e1 : (-1 : Int32).toBitVec = BitVec.allOnes 32 := by decide
  have e0 : (0 : Int32).toBitVec = 0#32 := by decide
  rw [e1, e0, BitVec.getLsbD_and, BitVec.getLsbD_xor, BitVec.getLsbD_allOnes]
  cases x.toBitVec.getLsbD i <;> simp [hi]
theorem bit01 (x : Int32) : x &&& 1 = 0 ∨ x &&& 1 = 1 := by
  obtain ⟨j, hj, h⟩ := pk_andE x (m := 1) 1 (by decide)
  have : j = 0 ∨ j = 1 := by omega
  rcases this with rfl | rfl
  · exact Or.inl h
  · exact Or.inr h
theorem bit0d : ∀ d, d < 10 → ¬ (((0 : Int32) >>> (nI d &&& 31)) &&& (1 : Int32)) = (1 : Int32) := by decide +kernel
theorem rcA_0 {p : AS} (hp : PL p) (x : Int32) : rcA p 0 x = x := by
  have h1 : ∀ y, rep (rcD p 0) (p 0 1) y = y := fun y => by
    refine rep_inv (f := rcD p 0) (I := fun z => z = y) rfl (fun i t hi ht => ?_) _ (Nat.le_refl _)
    subst ht
    unfold rcD
    rw [if_neg (bit0d i (by have := hp.2.1; omega))]
  unfold rcA
  refine rep_inv (f := fun _ => rep (rcD p 0) (p 0 1)) (I := fun z => z = x) rfl (fun i t hi ht => ?_) _ (Nat.le_refl _)
  subst ht
  exact h1 t

/-! best -/
theorem PM_FB {p : AS} {m m' : Mm} (h : PM p m) (hf : FB m m') : PM p m' := by
  unfold PM
  rw [hf 113 (by omega) (by decide) (by decide) (by decide) (by decide) (by decide), hf 116 (by omega) (by decide) (by decide) (by decide) (by decide) (by decide), hf 117 (by omega) (by decide) (by decide) (by decide) (by decide) (by decide), hf 118 (by omega) (by decide) (by decide) (by decide) (by decide) (by decide), hf 119 (by omega) (by decide) (by decide) (by decide) (by decide) (by decide), hf 120 (by omega) (by decide) (by decide) (by decide) (by decide) (by decide)]
  exact h
theorem c_findBest {p s : AS} {m m2 : Mm} {P F M k n : Nat} (hF : 5000 ≤ F) (hP : isPl P) (hp : PW p) (pc : PC p m P) (rc : RC p s m 4) (hI : SI p M s) (hM : M + 120 ≤ 2 ^ 20) (hk : k ≤ 3) (hkc : k ≤ (chL p s).length) (hn : n ≤ 60) (gk : GK p s m) (a1 : f_X4_listChoices F m P 4 = some m2) (a2 : m2 34 6 = nI (chL p s).length) (a3 : LC m2 35 (chL p s)) (a4 : FLc m m2) : ∃ m5, f_X4_findBest F m P 4 18 (nI k) (nI n) = some (1, m5) ∧ FB m m5 ∧ m5 34 7 = nI k ∧ m5 34 8 = nI n ∧ BR p s k n (m5 34 0) (m5 34 1) (m5 37) := by
  have hl14 := chL_len (s := s) hp.1
  have hc : nI k ≤ m2 34 6 := by rw [a2]; exact nI_le hkc (by omega)
  have t : ∃ m5, (letv (up2 m2 34 9 0) fun m5 => (iter F (b_X4_findBest_48 (nI k) m5) ((1, 0) : Int32 × Int32)).bind (fun e7 : Int32 => (iter F (b_X4_findBest_73 F P 4 18 (nI k) (nI n) e7) ((0, m5) : Int32 × Mm)).bind (fun e10 : Mm => letv (up2 e10 34 7 (nI k)) fun m24 => letv (up2 m24 34 8 (nI n)) fun m25 => some (1, m25)))) = some ((1, m5) : Int32 × Mm) ∧ FB m m5 ∧ m5 34 7 = nI k ∧ m5 34 8 = nI n ∧ BR p s k n (m5 34 0) (m5 34 1) (m5 37) := by
    have f2 : FB m (up2 m2 34 9 0) := a4.fb.tr (fun b _ q _ _ _ _ => up2_ne q)
    have h6 : up2 m2 34 9 0 34 6 = nI (chL p s).length := by rw [up2_slot (by decide)]; exact a2
    have e1 := c_prod (F := F) (k := k) hF hk h6
    obtain ⟨m3, b1, b2, b3, b4⟩ := c_bests (F := F) (n := n) hF hP hp (PC_FB hP pc f2) hI hM hk hkc hn ⟨h6, fun i hi => by rw [up2_ne (by decide)]; exact a3 i hi, RC_FB rc f2⟩ up2_same
    obtain ⟨q, hq⟩ := bestF_ex (n := n) (s := s) hp.1 hk hkc
    rw [hq] at b2
    obtain ⟨g1, g2, g3, g4, g5, g6⟩ := b2
    refine ⟨_, by rw [letv_eq, e1, Option.bind_some, b1, Option.bind_some, letv_eq, letv_eq], f2.tr (b4.tr (fun b _ q _ _ _ _ => by rw [up2_ne q, up2_ne q])), ?_, up2_same, q, hq, ?_, ?_, fun i hi => ?_⟩
    · rw [up2_slot (by decide), up2_same]
    · rw [up2_slot (by decide), up2_slot (by decide)]; exact g2
    · rw [up2_slot (by decide), up2_slot (by decide)]; exact g3
    · rw [up2_ne (by decide), up2_ne (by decide)]; exact g6 i hi
  obtain ⟨m5, t1, t2⟩ := t
  by_cases q : nI k = m2 34 7 ∧ nI n = m2 34 8
  · refine ⟨m2, ?_, a4.fb, q.1.symm, q.2.symm, ?_⟩
    · unfold f_X4_findBest
      rw [a1, Option.bind_some, if_pos hc, letv_eq, if_pos q.1, if_pos q.2]
    · rw [a4.2 7 (by decide), a4.2 8 (by decide)] at q
      rw [a4.2 0 (by decide), a4.2 1 (by decide), a4.1 37 (by decide) (by decide)]
      rcases gk with g | ⟨k', n', h1, h2, h3, h4, h5, h6⟩
      · exfalso
        have := q.1
        rw [g, ← nI_NN] at this
        have := (nI_inj (a := k) (b := 4294967292) (by omega) (by decide)).mp this
        omega
      · rw [h4, h5] at q
        have e1 : k = k' := (nI_inj (by omega) (by omega)).mp q.1
        have e2 : n = n' := (nI_inj (by omega) (by omega)).mp q.2
        subst e1 e2
        exact h6
  · refine ⟨m5, ?_, t2⟩
    unfold f_X4_findBest
    rw [a1, Option.bind_some, if_pos hc, letv_eq]
    by_cases q1 : nI k = m2 34 7
    · rw [if_pos q1, if_neg (fun w => q ⟨q1, w⟩)]
      exact t1
    · rw [if_neg q1]
      exact t1
/-- what both answer, of the three questions -/
theorem best_core {m : Mm} {P D F c k n : Nat} {T : Option Nat} {x : Int32} (hF : 5000 ≤ F) (hc : c ≤ 512) (hG : G c m P D T) (hk : k ≤ 3) (hn : n ≤ 60) (hx : x = 0 ∨ x = 1 ∨ ∃ i, i < k ∧ x = nI (10 + i)) : ∃ z m1 m2, (bind2 (f_X4_findBest F m P 4 18 (nI k) (nI n)) fun x4 m5 => if x4 = 0 then (some ((-2), m5)) else (if (if x < (10 : Int32) then (0 : Int32) else if nI k ≤ (x - (10 : Int32)) then 0 else 1) = 0 then (if x = 0 then (some (m5 34 0, m5)) else (some (m5 34 1, m5))) else ((f_X4_bestCode m5 (x - (10 : Int32))).bind fun x6 => some (x6, m5)))) = some ((z, m1) : Int32 × Mm) ∧ ((f_X9_findChoices F m1).bind fun m12 => if nI k ≤ (m12 113 30) then ((f_X9_findBest F m12 (nI k) (nI n)).bind fun m14 => if x = 0 then (if (m14 113 34) = (100000 : Int32) then (some ((-4), m14)) else (some (m14 113 34, m14))) else (if x = (1 : Int32) then (some (m14 113 35, m14)) else ((ald m14 130 3 (x - (10 : Int32))).bind fun x15 => some (x15, m14)))) else (some ((-2), m12))) = some ((z, m2) : Int32 × Mm) ∧ G (c + 1) m2 P D T := by
  obtain ⟨hP, hD, hPD, p, s, hp, hI, hFI, ⟨pc, pm, rc, rm⟩, gi, gr, gt, gs, go, gk⟩ := G_alt hG
  have hz := hI.2.1.1
  have hl14 := chL_len (s := s) hp.1
  obtain ⟨mc, a1, a2, a3, a4⟩ := c_choices (F := F) hF hP hp pc rc hI.2.1
  -- what the reference does behind the class
  have tail : ∀ m1, FB m m1 → GK p s m1 → ∃ m12, f_X9_findChoices F m1 = some m12 ∧ m12 113 30 = nI (chL p s).length ∧ FQ m1 m12 ∧ LR p s m12 ∧ PM p m12 ∧ RM p s m12 0 ∧ ∀ m2, FQ m12 m2 → G (c + 1) m2 P D T := fun m1 hf hg => by
    have pm1 := PM_FB pm hf
    have h114 : m1 114 = m 114 := hf 114 (by omega) (by decide) (by decide) (by decide) (by decide) (by decide)
    have h113 : m1 113 = m 113 := hf 113 (by omega) (by decide) (by decide) (by decide) (by decide) (by decide)
    have rm1 : RM p s m1 0 := RM_cell rm h114
    obtain ⟨m12, b1, b2, b3, b4⟩ := m_choices (F := F) hF hp pm1 rm1 hI.2.1
    refine ⟨m12, b1, b2, b4, ⟨b2, b3⟩, PM_FQ pm1 b4, RM_fr hp.1 hz rm1 (fun i _ hi => b4.2.1 i (by omega)), fun m2 h2 => ?_⟩
    have fq : FQ m1 m2 := b4.tr h2
    refine G_upd hP hD hPD hp pc pm (Nat.le_succ c) gi gr gt gs go (SI_mono hI (by omega)) hFI ?_ ?_ ?_ (fun b q1 q2 q3 q4 q5 q6 => ?_) (fun i q1 q2 q3 q4 => ?_) (fun i q1 q2 => ?_)
    · refine RC_fr (RC_FB rc hf) (fun j hj i _ => ?_)
      rw [fq.1 _ (by omega) (by omega) (by omega) (by omega) (by omega)]
    · exact RM_fr hp.1 hz rm1 (fun i _ hi => fq.2.1 i (by omega))
    · have e34 : m2 34 = m1 34 := fq.1 34 (by decide) (by decide) (by decide) (by decide) (by decide)
      exact GK_fr hg (fun _ _ => rfl) (by rw [e34]) (by rw [e34]) (by rw [e34]) (by rw [e34]) (fq.1 37 (by decide) (by decide) (by decide) (by decide) (by decide))
    · rw [fq.1 b q2 q3 q4 q5 q6, hf b (by omega) (by omega) (by omega) (by omega) (by omega) (by omega)]
    · rw [fq.2.2 i q1 q2 q3 q4, h113]
    · rw [fq.2.1 i q2, h114]
  by_cases hkc : k ≤ (chL p s).length
  case neg =>
    have hc1 : ¬ nI k ≤ mc 34 6 := by rw [a2]; exact nI_ge (by omega) (by omega)
    have gk1 : GK p s mc := GK_fr gk (fun _ _ => rfl) (a4.2 0 (by decide)) (a4.2 1 (by decide)) (a4.2 7 (by decide)) (a4.2 8 (by decide)) (a4.1 37 (by decide) (by decide))
    obtain ⟨m12, b1, b2, b3, -, -, -, b4⟩ := tail mc a4.fb gk1
    refine ⟨-2, mc, m12, ?_, ?_, b4 m12 FQ.rf⟩
    · have e : f_X4_findBest F m P 4 18 (nI k) (nI n) = some (0, mc) := by
        unfold f_X4_findBest
        rw [a1, Option.bind_some, if_neg hc1]
      rw [e, bind2_some, if_pos rfl]
    · rw [b1, Option.bind_some, if_neg]
      rw [b2]
      exact nI_ge (by omega) (by omega)
  obtain ⟨m5, c1, c2, c3, c4, c5⟩ := c_findBest (F := F) (n := n) hF hP hp pc rc hI (by omega) hk hkc hn gk a1 a2 a3 a4
  have gk5 : GK p s m5 := Or.inr ⟨k, n, hk, hn, hkc, c3, c4, c5⟩
  obtain ⟨m12, b1, b2, b3, b4, b5, b6, b7⟩ := tail m5 c2 gk5
  obtain ⟨m14, d1, d2, d3⟩ := m_best (F := F) (n := n) hF hp b5 hI b6 (by omega) hk hkc hn b4
  obtain ⟨q, hq, r1, r2, r3⟩ := c5
  rw [hq] at d2
  obtain ⟨k1, k2, k3, k4, k5⟩ := d2
  have hle : nI k ≤ m12 113 30 := by rw [b2]; exact nI_le hkc (by omega)
  have hGn := b7 m14 d3
  rcases hx with rfl | rfl | ⟨i, hi, rfl⟩
  · refine ⟨nI q.1, m5, m14, ?_, ?_, hGn⟩
    · rw [c1, bind2_some, if_neg (show ¬ (1 : Int32) = 0 by decide), if_pos (show (if (0 : Int32) < (10 : Int32) then (0 : Int32) else if nI k ≤ ((0 : Int32) - (10 : Int32)) then 0 else 1) = 0 from if_pos (by decide)), if_pos rfl, r1]
    · rw [b1, Option.bind_some, if_pos hle, d1, Option.bind_some, if_pos rfl, k1]
      unfold lgN
      by_cases w : q.1 = 4294967292
      · rw [if_pos w, if_pos (by decide), w, nI_NN]
      · rw [if_neg w, if_neg]
        exact nI_ne (b := 100000) (by omega) (by decide) (by omega)
  · refine ⟨nI q.2.1, m5, m14, ?_, ?_, hGn⟩
    · rw [c1, bind2_some, if_neg (show ¬ (1 : Int32) = 0 by decide), if_pos (show (if (1 : Int32) < (10 : Int32) then (0 : Int32) else if nI k ≤ ((1 : Int32) - (10 : Int32)) then 0 else 1) = 0 from if_pos (by decide)), if_neg (by decide), r2]
    · rw [b1, Option.bind_some, if_pos hle, d1, Option.bind_some, if_neg (by decide), if_pos rfl, k2]
  · have e10 : nI (10 + i) - (10 : Int32) = nI i := by
      rw [show (10 : Int32) = nI 10 from rfl, pk_sub (a := 10 + i) (b := 10) (by omega), show 10 + i - 10 = i by omega]
    have n10' : ¬ nI (10 + i) < (10 : Int32) := nI_nlt (b := 10) (by omega) (by omega)
    have n11 : ¬ nI k ≤ nI i := nI_ge hi (by omega)
    have n0 : ¬ nI (10 + i) = (0 : Int32) := nI_ne (b := 0) (by omega) (by decide) (by omega)
    have n1 : ¬ nI (10 + i) = (1 : Int32) := nI_ne (b := 1) (by omega) (by decide) (by omega)
    rw [e10]
    refine ⟨nI (cod p s k q.2.2 i), m5, m14, ?_, ?_, hGn⟩
    · have n3 : ¬ nI i < (0 : Int32) := nI_pos (by omega)
      have n4 : ¬ (3 : Int32) ≤ nI i := nI_ge (b := 3) (by omega) (by decide)
      rw [c1, bind2_some, if_neg (show ¬ (1 : Int32) = 0 by decide), if_neg n10', if_neg n11, if_neg (by decide)]
      unfold f_X4_bestCode
      rw [if_neg n3, if_neg n4, ald_n (by omega) (by decide), r3 i hi]
      rfl
    · rw [b1, Option.bind_some, if_pos hle, d1, Option.bind_some, if_neg n0, if_neg n1, ald_n (by omega) (by decide), k5 i hi]
      rfl
theorem op_best {F c : Nat} (hF : 5000 ≤ F) (hc : c ≤ 512) : OP_best F (G c) (G (c + 1)) := by
  intro m P D T hG a1 a2 a3
  have hG' := G_mono hG (Nat.le_succ c)
  unfold f_X8_best f_X9_best
  rcases in_N a1 0 3 (A := 0) (B := 3) (by decide) (by decide) (by decide) (by decide) with ⟨k, -, hk, rfl, h⟩ | ⟨hx, h⟩
  case inr =>
    refine ⟨-1, m, m, ?_, by rw [h]; rfl, hG'⟩
    rcases hx with q | q
    · rw [if_pos (show a1 < (0 : Int32) from q)]
    · rw [if_pos (show (3 : Int32) < a1 from q)]
      split <;> rfl
  have k1 : ¬ nI k < (0 : Int32) := nI_pos (by omega)
  have k2 : ¬ (3 : Int32) < nI k := nI_nlt (a := 3) hk (by decide)
  rcases in_N a2 1 60 (A := 1) (B := 60) (by decide) (by decide) (by decide) (by decide) with ⟨n, hn1, hn, rfl, h2⟩ | ⟨hx, h2⟩
  case inr =>
    refine ⟨-1, m, m, ?_, by rw [h, Option.bind_some, if_neg n10, h2]; rfl, hG'⟩
    rcases hx with q | q
    · rw [if_neg k1, if_neg k2, if_pos (show a2 < (1 : Int32) from q)]
    · rw [if_neg k1, if_neg k2, if_neg (c := a2 ≤ (60 : Int32)) (Int32.not_le.mpr q)]
      split <;> rfl
  have k3 : ¬ nI n < (1 : Int32) := nI_nlt (b := 1) hn1 (by omega)
  have k4 : nI n ≤ (60 : Int32) := nI_le (b := 60) hn (by decide)
  have hy : (if a3 < (10 : Int32) then (some (0 : Int32)) else (if nI k ≤ (a3 - (10 : Int32)) then (some 0) else (some 1))) = some (if a3 < (10 : Int32) then (0 : Int32) else if nI k ≤ (a3 - (10 : Int32)) then 0 else 1) := by
    split
    · rfl
    · split <;> rfl
  have i9 : f_X9_in a3.toInt64 10 (((9 : Int32) + nI k).toInt64) = if a3 < 10 then some 0 else if nI (9 + k) < a3 then some 0 else some 1 := by
    rw [show (10 : Int64) = (10 : Int32).toInt64 from by decide, show (9 : Int32) + nI k = nI (9 + k) from ix1 9 k, in_i]
  have i0 : f_X9_in a3.toInt64 0 1 = if a3 < 0 then some 0 else if (1 : Int32) < a3 then some 0 else some 1 := in_i a3 0 1
  rcases pk_ix a3 (n := 10 + k) (by omega) with w | w | ⟨j, hj, rfl⟩
  · -- below naught
    have w10 : a3 < (10 : Int32) := Int32.lt_trans w (by decide)
    have w0 : ¬ a3 = 0 := fun e => by rw [e] at w; exact absurd w (by decide)
    have w1 : ¬ a3 = 1 := fun e => by rw [e] at w; exact absurd w (by decide)
    refine ⟨-1, m, m, ?_, ?_, hG'⟩
    · rw [if_neg k1, if_neg k2, if_neg k3, if_pos k4, hy, Option.bind_some, letv_eq, if_neg w0, if_neg w1, if_pos w10, if_pos rfl]
    · rw [h, Option.bind_some, if_neg n10, h2, Option.bind_some, if_neg n10, i0, if_pos w, Option.bind_some, letv_eq, if_pos rfl, i9, if_pos w10]
      rfl
  · -- above all
    have hj : 10 + k ≤ a3.toInt := by
      have := Int32.le_iff_toInt_le.mp w
      rw [nI_toInt (by omega)] at this
      omega
    have hlt : ∀ b : Nat, b < 10 + k → nI b < a3 := fun b hb => by
      rw [Int32.lt_iff_toInt_lt, nI_toInt (by omega)]
      omega
    have w10 : ¬ a3 < (10 : Int32) := fun e => by
      have := Int32.lt_iff_toInt_lt.mp e
      rw [show (10 : Int32).toInt = 10 from rfl] at this
      omega
    have w0 : ¬ a3 = 0 := fun e => by rw [e] at hj; exact absurd hj (by rw [show (0 : Int32).toInt = 0 from rfl]; omega)
    have w1 : ¬ a3 = 1 := fun e => by rw [e] at hj; exact absurd hj (by rw [show (1 : Int32).toInt = 1 from rfl]; omega)
    have wk : nI k ≤ a3 - (10 : Int32) := by
      rw [Int32.le_iff_toInt_le, nI_toInt (by omega), Int32.toInt_sub, show (10 : Int32).toInt = 10 from rfl]
      have hb := Int32.toInt_lt a3
      rw [Int.bmod_eq_of_le (by omega) (by omega)]
      omega
    have z0 : ¬ a3 < (0 : Int32) := Int32.not_lt.mpr (Int32.le_of_lt (hlt 0 (by omega)))
    have z1 : (1 : Int32) < a3 := hlt 1 (by omega)
    refine ⟨-1, m, m, ?_, ?_, hG'⟩
    · rw [if_neg k1, if_neg k2, if_neg k3, if_pos k4, hy, Option.bind_some, letv_eq, if_neg w0, if_neg w1, if_neg w10, if_pos wk, if_pos rfl]
    · rw [h, Option.bind_some, if_neg n10, h2, Option.bind_some, if_neg n10, i0, if_neg z0, if_pos z1, Option.bind_some, letv_eq, if_pos rfl, i9, if_neg w10, if_pos (hlt (9 + k) (by omega))]
      rfl
  · by_cases q0 : j = 0
    · subst q0
      have e0 : nI 0 = (0 : Int32) := rfl
      obtain ⟨z, m1, m2, b1, b2, b3⟩ := best_core (x := 0) hF hc hG hk hn (Or.inl rfl)
      refine ⟨z, m1, m2, ?_, ?_, b3⟩
      · rw [if_neg k1, if_neg k2, if_neg k3, if_pos k4, hy, Option.bind_some, letv_eq, if_pos e0]; exact b1
      · rw [h, Option.bind_some, if_neg n10, h2, Option.bind_some, if_neg n10, i0, if_neg (by rw [e0]; decide), if_neg (by rw [e0]; decide), Option.bind_some, letv_eq, if_neg (by decide)]
        exact b2
    by_cases q1 : j = 1
    · subst q1
      have e1 : nI 1 = (1 : Int32) := rfl
      have e0 : ¬ nI 1 = (0 : Int32) := by rw [e1]; decide
      obtain ⟨z, m1, m2, b1, b2, b3⟩ := best_core (x := 1) hF hc hG hk hn (Or.inr (Or.inl rfl))
      refine ⟨z, m1, m2, ?_, ?_, b3⟩
      · rw [if_neg k1, if_neg k2, if_neg k3, if_pos k4, hy, Option.bind_some, letv_eq, if_neg e0, if_pos e1]; exact b1
      · rw [h, Option.bind_some, if_neg n10, h2, Option.bind_some, if_neg n10, i0, if_neg (by rw [e1]; decide), if_neg (by rw [e1]; decide), Option.bind_some, letv_eq, if_neg (by decide)]
        exact b2
    have n0 : ¬ nI j = (0 : Int32) := nI_ne (b := 0) (by omega) (by decide) q0
    have n1 : ¬ nI j = (1 : Int32) := nI_ne (b := 1) (by omega) (by decide) q1
    have p0 : ¬ nI j < (0 : Int32) := nI_pos (by omega)
    have p1 : (1 : Int32) < nI j := nI_lt (a := 1) (by omega) (by omega)
    by_cases q2 : j < 10
    · have w10 : nI j < (10 : Int32) := nI_lt (b := 10) q2 (by decide)
      refine ⟨-1, m, m, ?_, ?_, hG'⟩
      · rw [if_neg k1, if_neg k2, if_neg k3, if_pos k4, hy, Option.bind_some, letv_eq, if_neg n0, if_neg n1, if_pos w10, if_pos rfl]
      · rw [h, Option.bind_some, if_neg n10, h2, Option.bind_some, if_neg n10, i0, if_neg p0, if_pos p1, Option.bind_some, letv_eq, if_pos rfl, i9, if_pos w10]
        rfl
    · have w10 : ¬ nI j < (10 : Int32) := nI_nlt (b := 10) (by omega) (by omega)
      have w9 : ¬ nI (9 + k) < nI j := nI_nlt (by omega) (by omega)
      obtain ⟨z, m1, m2, b1, b2, b3⟩ := best_core (x := nI j) hF hc hG hk hn (Or.inr (Or.inr ⟨j - 10, by omega, by rw [show 10 + (j - 10) = j by omega]⟩))
      have e10 : nI j - (10 : Int32) = nI (j - 10) := pk_sub (b := 10) (by omega)
      have n11 : ¬ nI k ≤ nI (j - 10) := nI_ge (by omega) (by omega)
      refine ⟨z, m1, m2, ?_, ?_, b3⟩
      · rw [if_neg k1, if_neg k2, if_neg k3, if_pos k4, hy, Option.bind_some, letv_eq, if_neg n0, if_neg n1, if_neg (by rw [if_neg w10, e10, if_neg n11]; decide)]
        exact b1
      · rw [h, Option.bind_some, if_neg n10, h2, Option.bind_some, if_neg n10, i0, if_neg p0, if_pos p1, Option.bind_some, letv_eq, if_pos rfl, i9, if_neg w10, if_neg w9, Option.bind_some, if_neg (by decide)]
        exact b2

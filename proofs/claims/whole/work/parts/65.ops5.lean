/-! what floats: together, beside -/
def wS (p s : AS) (v : Int32) (h : Nat) : Nat := if ((v >>> (nI h &&& 31)) &&& (1 : Int32)) = (1 : Int32) then p 1 h else s 1 h
def flo (p s : AS) (v : Int32) : Bool := decide (whyN p (wS p s v) = 0)
theorem lst_congr {p : AS} {w v : Nat → Nat} (h : ∀ i, i < p 0 0 → w i = v i) : lst p w = lst p v := by
  unfold lst
  rw [sumTo_congr (fun i hi => by rw [h i hi])]
theorem trm_congr {p : AS} {w v : Nat → Nat} (h : ∀ i, i < p 0 0 → w i = v i) : trm p w = trm p v := by
  unfold trm
  rw [sumTo_congr (fun i hi => by rw [h i hi])]
theorem whyN_congr {p : AS} {w v : Nat → Nat} (h : ∀ i, i < p 0 0 → w i = v i) : whyN p w = whyN p v := by
  unfold whyN
  rw [lst_congr h, trm_congr h, sumN_congr h]
theorem c_float {p s : AS} {m : Mm} {P F : Nat} (hF : 5000 ≤ F) (hP : isPl P) (hp : PW p) (pc : PC p m P) (rc : RC p s m 4) (v : Int32) : f_X8_floatsWithFull F m P v = some (if flo p s v then 1 else 0, scl m 39 p (wS p s v)) := by
  have e1 : f_X3_weigh F m 39 P 5 v = some (scl m 39 p (wS p s v)) := c_weigh hp.1 pc (plne hP (by decide)) (by decide) (fun h hh => by
    unfold wS
    split
    · rfl
    · exact rc 1 h hh) (by omega)
  have e2 := c_why (w := wS p s v) (C := 39) pc (plne hP (by decide))
  have hle := whyN_le (p := p) (w := wS p s v)
  unfold f_X8_floatsWithFull flo
  rw [e1, Option.bind_some, e2, Option.bind_some]
  by_cases q : whyN p (wS p s v) = 0
  · rw [q, if_pos nIl0]
    rfl
  · have k : ¬ nI (whyN p (wS p s v)) = (0 : Int32) := nI_ne (b := 0) (by omega) (by decide) q
    rw [if_neg k]
    simp [q]
def sS (p s : AS) (v : Int32) (n : Nat) : AS := rep (fun h t => u3 t 1 h (wS p s v h)) n s
theorem sS_r {p s : AS} {v : Int32} {a : Nat} (h : a ≠ 1) : ∀ n, sS p s v n a = s a
  | 0 => rfl
  | n + 1 => by
    show u3 (sS p s v n) 1 n _ a = s a
    rw [u3_r h, sS_r h n]
theorem sS_1 {p s : AS} {v : Int32} : ∀ n h, h < n → sS p s v n 1 h = wS p s v h
  | 0, h, hh => absurd hh (by omega)
  | n + 1, h, hh => by
    show u3 (sS p s v n) 1 n _ 1 h = _
    by_cases e : h = n
    · subst e; rw [u3_same]
    · rw [u3_i e]; exact sS_1 n h (by omega)
theorem m_float {p s : AS} {m : Mm} {F : Nat} (hF : 5000 ≤ F) (hp : PW p) (pm : PM p m) (rm : RM p s m 0) (hz : s 6 0 ≤ 12) (v : Int32) : ∃ m2, f_X9_floatsWith F m v = some (if flo p s v then 1 else 0, m2) ∧ FQ m m2 ∧ f_X9_listOf F m2 384 = some (lst p (wS p s v)) ∧ f_X9_trimOf F m2 384 = some (trm p (wS p s v)) := by
  obtain ⟨l1, l2, l3, l4⟩ := hp.1
  obtain ⟨m1, a1, a2, a3⟩ := m_copy (A := 0) (B := 384) (F := F) hp hz rm (by decide) (by decide) (by decide) (by omega)
  have a1' : f_X9_copies F m 384 0 = some m1 := a1
  obtain ⟨m2, b1, b2, b3⟩ := iter_P (b := b_X9_floatsWith_10 v) (F := F) (p 0 0) (fun i x => ∃ m2, x = (nI i, m2) ∧ RM p (sS p s v i) m2 384 ∧ FM 384 m m2) (fun r => RM p (sS p s v (p 0 0)) r 384 ∧ FM 384 m r) (by omega) (by
    rintro i x hi ⟨m2, rfl, q1, q2⟩
    have pm2 := PM_FM (B := 384) pm q2.1
    have hc : ¬ m2 113 2 ≤ nI i := by rw [pm_1 pm2]; exact nI_ge hi (by omega)
    have rm2 : RM p s m2 0 := RM_fr hp.1 hz rm (fun k _ hk => q2.2 k (by omega))
    have e1 : ald m2 116 32 (4 * nI i) = some (nI (p 1 i)) := pm_h hp.1 pm2 i 0 hi (by decide) (ixm 4 i)
    have e2 : ald m2 114 512 (0 + nI i) = some (nI (s 1 i)) := M_ld rm2 hp.1 hz (by decide) 1 i hi (ix1 0 i)
    have e3 : (if ((v >>> (nI i &&& 31)) &&& (1 : Int32)) = (1 : Int32) then ((some (nI (p 1 i))).bind fun x7 => some x7) else ((some (nI (s 1 i))).bind fun x6 => some x6) : Option (Int32)) = some (nI (wS p s v i)) := by
      unfold wS
      split <;> rfl
    obtain ⟨m3, g1, g2, g3⟩ := M_st q1 hp.1 (by rw [sS_r (by decide)]; exact hz) (by decide) 1 i (wS p s v i) (by decide) (by show i < 8; omega) (by decide) (x := 384 + nI i) (ix1 384 i) rfl
    refine ⟨_, ?_, m3, rfl, g2, q2.tr g3⟩
    unfold b_X9_floatsWith_10
    dsimp only
    rw [if_neg hc, e1, e2, e3, Option.bind_some, g1, Option.bind_some, nI_1]) (by
    rintro x ⟨m2, rfl, q1, q2⟩
    have pm2 := PM_FM (B := 384) pm q2.1
    have hc : m2 113 2 ≤ nI (p 0 0) := by rw [pm_1 pm2]; exact Int32.le_refl _
    refine ⟨m2, ?_, q1, q2⟩
    unfold b_X9_floatsWith_10
    dsimp only
    rw [if_pos hc]) (x := (0, m1)) ⟨m1, rfl, a2, a3⟩
  have pm2 := PM_FM (B := 384) pm b3.1
  have hz2 : sS p s v (p 0 0) 6 0 ≤ 12 := by rw [sS_r (by decide)]; exact hz
  have hw : ∀ i, i < p 0 0 → sS p s v (p 0 0) 1 i = wS p s v i := fun i hi => sS_1 _ i hi
  have c1 : f_X9_whySinks F m2 384 = some (nI (whyN p (wS p s v))) := by
    rw [← whyN_congr hw]
    exact m_why (B := 384) hp (by decide) pm2 hz2 b2 (by omega)
  have hle := whyN_le (p := p) (w := wS p s v)
  refine ⟨m2, ?_, b3.fq, ?_, ?_⟩
  · unfold f_X9_floatsWith flo
    rw [a1', Option.bind_some, b1, Option.bind_some, c1, Option.bind_some]
    by_cases q : whyN p (wS p s v) = 0
    · rw [q, if_pos nIl0]
      rfl
    · have k : ¬ nI (whyN p (wS p s v)) = (0 : Int32) := nI_ne (b := 0) (by omega) (by decide) q
      rw [if_neg k]
      simp [q]
  · rw [← lst_congr hw]
    exact m_lst (B := 384) hp (by decide) pm2 hz2 b2 (by omega)
  · rw [← trm_congr hw]
    exact m_trm (B := 384) hp (by decide) pm2 hz2 b2 (by omega)
theorem shl1 : ∀ k, k ≤ 10 → (1 : Int32) <<< (nI k &&& 31) = nI (2 ^ k) := by decide +kernel
theorem pow_le {k : Nat} (h : k ≤ 10) : 2 ^ k ≤ 1024 := Nat.pow_le_pow_right (by decide) h
theorem op_together {F c : Nat} (hF : 5000 ≤ F) : OP_together F (G c) (G (c + 1)) := by
  intro m P D T hG a1
  have hG' := G_mono hG (Nat.le_succ c)
  obtain ⟨hP, hD, hPD, p, s, hp, hI, hFI, ⟨pc, pm, rc, rm⟩, gi, gr, gt, gs, go, gk⟩ := G_alt hG
  obtain ⟨l1, l2, l3, l4⟩ := hp.1
  have hz := hI.2.1.1
  have hpw := pow_le (k := p 0 0) (by omega)
  have hin := in_cnt a1 (2 ^ p 0 0) (A := 0) (B := (nI (2 ^ p 0 0) - 1).toInt64) (by decide) rfl (by omega)
  have r8 : f_X8_together F m P a1 = if a1 < 0 then (some ((-1), m)) else (if a1 < nI (2 ^ p 0 0) then (bind2 (f_X8_floatsWithFull F m P a1) fun x1 m2 => if x1 = 0 then (some (0, m2)) else (some (1, m2))) else (some ((-1), m))) := by
    unfold f_X8_together
    rw [PC_0 pc, shl1 _ (by omega)]
  have r9 : ∀ mr, PM p mr → f_X9_together F mr a1 = ((f_X9_in a1.toInt64 0 ((nI (2 ^ p 0 0) - 1).toInt64)).bind fun x1 => bG x1).bind fun x1 => if x1 = 0 then (some ((-1), mr)) else (bind2 (f_X9_floatsWith F mr a1) fun x3 m4 => (f_X9_flag x3).bind fun x5 => some (x5, m4)) := by
    intro mr h
    unfold f_X9_together f_X9_areHolds
    rw [pm_1 h, shl1 _ (by omega)]
  rcases hin with ⟨j, hj, rfl, h⟩ | ⟨hx, h⟩
  · have k1 : ¬ nI j < (0 : Int32) := nI_pos (by omega)
    have k2 : nI j < nI (2 ^ p 0 0) := nI_lt hj (by omega)
    have e1 := c_float hF hP hp pc rc (nI j)
    have sm : Sm m (scl m 39 p (wS p s (nI j))) := sm_scl
    obtain ⟨m2, f1, f2, -⟩ := m_float hF hp (PM_Sm pm sm) (RM_Sm hp hz rm sm) hz (nI j)
    refine ⟨if flo p s (nI j) then 1 else 0, scl m 39 p (wS p s (nI j)), m2, ?_, ?_, G_Sm hG (Nat.le_succ c) (sm.tr f2.sm)⟩
    · rw [r8, if_neg k1, if_pos k2, e1, bind2_some]
      cases flo p s (nI j) <;> rfl
    · rw [r9 _ (PM_Sm pm sm), h, Option.bind_some, bG_1, Option.bind_some, if_neg n10, f1, bind2_some]
      cases flo p s (nI j) <;> rfl
  · refine ⟨-1, m, m, ?_, by rw [r9 _ pm, h]; rfl, hG'⟩
    rw [r8]
    rcases hx with q | q
    · rw [if_pos q]
    · rw [if_neg (c := a1 < nI (2 ^ p 0 0)) (Int32.not_lt.mpr q)]
      split <;> rfl
def bitsN (f : Nat → Bool) : Nat → Nat
  | 0 => 0
  | n + 1 => bitsN f n + if f n then 2 ^ n else 0
theorem bitsN_lt {f : Nat → Bool} : ∀ n, bitsN f n < 2 ^ n
  | 0 => Nat.one_pos
  | n + 1 => by
    have := bitsN_lt (f := f) n
    rw [bitsN, Nat.pow_succ]
    split <;> omega
theorem or_bit : ∀ n, n < 10 → ∀ x, x < 2 ^ n → nI x ||| ((1 : Int32) <<< (nI n &&& 31)) = nI (x + 2 ^ n) := by decide +kernel
theorem bitsS_N {f : Nat → Bool} : ∀ n, n ≤ 10 → bitsS f n = nI (bitsN f n)
  | 0, _ => rfl
  | n + 1, h => by
    rw [bitsS, bitsN, bitsS_N n (by omega)]
    split
    · rw [or_bit n (by omega) _ (bitsN_lt n)]
    · rfl
theorem bitsN_inj {f g : Nat → Bool} : ∀ n, bitsN f n = bitsN g n → ∀ i, i < n → f i = g i
  | 0, _, i, hi => absurd hi (by omega)
  | n + 1, h, i, hi => by
    have h1 := bitsN_lt (f := f) n
    have h2 := bitsN_lt (f := g) n
    rw [bitsN, bitsN] at h
    by_cases e1 : f n <;> by_cases e2 : g n
    · rw [if_pos e1, if_pos e2] at h
      by_cases e : i = n
      · rw [e, e1, e2]
      · exact bitsN_inj n (by omega) i (by omega)
    · rw [if_pos e1, if_neg e2] at h
      omega
    · rw [if_neg e1, if_pos e2] at h
      omega
    · rw [if_neg e1, if_neg e2] at h
      by_cases e : i = n
      · rw [e]
        simp only [Bool.not_eq_true] at e1 e2
        rw [e1, e2]
      · exact bitsN_inj n (by omega) i (by omega)
theorem bitsN_congr {f g : Nat → Bool} : ∀ n, (∀ i, i < n → f i = g i) → bitsN f n = bitsN g n
  | 0, _ => rfl
  | n + 1, h => by rw [bitsN, bitsN, bitsN_congr n (fun i hi => h i (by omega)), h n (by omega)]
theorem all_but : ∀ n, n ≤ 8 → ∀ g, g < n → (((1 : Int32) <<< (nI n &&& 31)) - 1) &&& (((1 : Int32) <<< (nI g &&& 31)) ^^^ (-1)) = nI (bitsN (fun x => decide (x ≠ g)) n) := by decide +kernel
def fl2 (p s : AS) (a b : Nat) : Bool := flo p s (((1 : Int32) <<< (nI a &&& 31)) ||| ((1 : Int32) <<< (nI b &&& 31)))
theorem fl2_comm {p s : AS} {a b : Nat} : fl2 p s a b = fl2 p s b a := by
  unfold fl2
  rw [Int32.or_comm]
def prt (p s : AS) (g x : Nat) : Bool := decide (x ≠ g) && fl2 p s x g
theorem c_partners {p s : AS} {m m1 : Mm} {P F g : Nat} (hF : 5000 ≤ F) (hP : isPl P) (hp : PW p) (pc : PC p m P) (rc : RC p s m 4) (hs : Sm m m1) (hg : g < 2 ^ 20) : ∃ m2, f_X8_partnersOf F m1 P (nI g) = some (bitsS (prt p s g) (p 0 0), m2) ∧ Sm m m2 := by
  obtain ⟨l1, l2, l3, l4⟩ := hp.1
  obtain ⟨r, g1, g2, g3⟩ := iter_P (b := b_X8_partnersOf_4 F P (nI g)) (F := F) (p 0 0) (fun i x => ∃ m2, x = (bitsS (prt p s g) i, nI i, m2) ∧ Sm m m2) (fun r => r.1 = bitsS (prt p s g) (p 0 0) ∧ Sm m r.2) (by omega) (by
    rintro i x hi ⟨m2, rfl, q1⟩
    have hc' : ¬ m2 P 0 ≤ nI i := by rw [PC_0 (PC_Sm hP pc q1)]; exact nI_ge hi (by omega)
    by_cases e : i = g
    · have k1 : nI i = nI g := by rw [e]
      have hf : ¬ prt p s g i = true := by unfold prt; simp [e]
      refine ⟨_, ?_, m2, rfl, q1⟩
      unfold b_X8_partnersOf_4
      dsimp only
      rw [if_neg hc', if_pos k1, Option.bind_some, nI_1, bitsS, if_neg hf]
    · have k1 : ¬ nI i = nI g := nI_ne (by omega) (by omega) e
      have v1 := c_float hF hP hp (PC_Sm hP pc q1) (RC_Sm rc q1) (((1 : Int32) <<< (nI i &&& 31)) ||| ((1 : Int32) <<< (nI g &&& 31)))
      by_cases w : fl2 p s i g
      · have hf : prt p s g i = true := by unfold prt; simp [e, w]
        have w' : flo p s (((1 : Int32) <<< (nI i &&& 31)) ||| ((1 : Int32) <<< (nI g &&& 31))) = true := w
        rw [w', if_pos rfl] at v1
        refine ⟨_, ?_, scl m2 39 p (wS p s (((1 : Int32) <<< (nI i &&& 31)) ||| ((1 : Int32) <<< (nI g &&& 31)))), rfl, q1.tr sm_scl⟩
        unfold b_X8_partnersOf_4
        dsimp only
        rw [if_neg hc', if_neg k1, v1, bind2_some, if_neg n10, letv_eq, Option.bind_some, nI_1, bitsS, if_pos hf]
      · have hf : ¬ prt p s g i = true := by unfold prt; simp [w]
        have w' : flo p s (((1 : Int32) <<< (nI i &&& 31)) ||| ((1 : Int32) <<< (nI g &&& 31))) = false := eq_false_of_ne_true w
        rw [w', if_neg (by decide)] at v1
        refine ⟨_, ?_, scl m2 39 p (wS p s (((1 : Int32) <<< (nI i &&& 31)) ||| ((1 : Int32) <<< (nI g &&& 31)))), rfl, q1.tr sm_scl⟩
        unfold b_X8_partnersOf_4
        dsimp only
        rw [if_neg hc', if_neg k1, v1, bind2_some, if_pos rfl, Option.bind_some, nI_1, bitsS, if_neg hf]) (by
    rintro x ⟨m2, rfl, q1⟩
    have hc' : m2 P 0 ≤ nI (p 0 0) := by rw [PC_0 (PC_Sm hP pc q1)]; exact Int32.le_refl _
    refine ⟨(bitsS (prt p s g) (p 0 0), m2), ?_, rfl, q1⟩
    unfold b_X8_partnersOf_4
    dsimp only
    rw [if_pos hc']) (x := (0, 0, m1)) ⟨m1, rfl, hs⟩
  refine ⟨r.2, ?_, g3⟩
  unfold f_X8_partnersOf
  rw [g1, Option.bind_some, g2]
theorem op_beside {F c : Nat} (hF : 5000 ≤ F) : OP_beside F (G c) (G (c + 1)) := by
  intro m P D T hG a1 a2
  have hG' := G_mono hG (Nat.le_succ c)
  obtain ⟨hP, hD, hPD, p, s, hp, hI, hFI, ⟨pc, pm, rc, rm⟩, gi, gr, gt, gs, go, gk⟩ := G_alt hG
  obtain ⟨l1, l2, l3, l4⟩ := hp.1
  have hz := hI.2.1.1
  unfold f_X8_beside f_X9_beside
  rcases is_hold hp.1 pc pm a1 with ⟨j, hj, rfl, h8, h9⟩ | ⟨hx, h8, h9⟩
  case inr => exact ⟨-1, m, m, by rw [h8]; rfl, by rw [h9]; rfl, hG'⟩
  rw [h8, Option.bind_some, if_neg n10]
  rcases in_N a2 0 1 (A := 0) (B := 1) (by decide) (by decide) (by decide) (by decide) with ⟨w, -, hw, rfl, h⟩ | ⟨hx, h⟩
  case inr =>
    refine ⟨-1, m, m, ?_, by rw [h9, Option.bind_some, if_neg n10, h]; rfl, hG'⟩
    rcases hx with q | q
    · rw [if_pos (show a2 < (0 : Int32) from q)]
    · rw [if_neg (c := a2 ≤ (1 : Int32)) (Int32.not_le.mpr q)]
      split <;> rfl
  have k3 : ¬ nI w < (0 : Int32) := nI_pos (by omega)
  have k4 : nI w ≤ (1 : Int32) := nI_le (b := 1) hw (by decide)
  rw [if_neg k3, if_pos k4]
  -- the reference
  have ref : ∀ m1, Sm m m1 → ∃ ok : Bool, ∃ m2, iter F (b_X9_beside_28 F (nI j)) ((0, 1, 0, m1) : Int32 × Int32 × Int32 × Mm) = some (bitsS (prt p s j) (p 0 0), (if ok then 1 else 0), m2) ∧ Sm m m2 ∧ (ok = true ↔ ∀ a, a < p 0 0 → ∀ b, b < a → fl2 p s a b = true) := by
    intro m1 hs1
    obtain ⟨r, g1, g2, ok, g3, g4, g5⟩ := iter_P (b := b_X9_beside_28 F (nI j)) (F := F) (p 0 0) (fun i x => ∃ ok : Bool, ∃ m2, x = (bitsS (prt p s j) i, (if ok then 1 else 0), nI i, m2) ∧ Sm m m2 ∧ (ok = true ↔ ∀ a, a < i → ∀ b, b < a → fl2 p s a b = true)) (fun r => r.1 = bitsS (prt p s j) (p 0 0) ∧ ∃ ok : Bool, r.2.1 = (if ok then 1 else 0) ∧ Sm m r.2.2 ∧ (ok = true ↔ ∀ a, a < p 0 0 → ∀ b, b < a → fl2 p s a b = true)) (by omega) (by
      rintro i x hi ⟨ok, m2, rfl, q1, q2⟩
      have hc' : ¬ m2 113 2 ≤ nI i := by rw [pm_1 (PM_Sm pm q1)]; exact nI_ge hi (by omega)
      -- the first look
      obtain ⟨y, m3, v1, v2, v3⟩ : ∃ y m3, (if nI i = nI j then (some ((0 : Int32), m2)) else (bind2 (f_X9_floatsWith F m2 (((1 : Int32) <<< (nI i &&& 31)) ||| ((1 : Int32) <<< (nI j &&& 31)))) fun x8 m9 => if x8 = 0 then (some (0, m9)) else (some ((1 : Int32) <<< (nI i &&& 31), m9))) : Option (Int32 × Mm)) = some (y, m3) ∧ Sm m m3 ∧ bitsS (prt p s j) i ||| y = bitsS (prt p s j) (i + 1) := by
        by_cases e : i = j
        · have k1 : nI i = nI j := by rw [e]
          have hf : ¬ prt p s j i = true := by unfold prt; simp [e]
          exact ⟨0, m2, by rw [if_pos k1], q1, by rw [bitsS, if_neg hf, Int32.or_zero]⟩
        · have k1 : ¬ nI i = nI j := nI_ne (by omega) (by omega) e
          obtain ⟨m3, f1, f2, -⟩ := m_float hF hp (PM_Sm pm q1) (RM_Sm hp hz rm q1) hz (((1 : Int32) <<< (nI i &&& 31)) ||| ((1 : Int32) <<< (nI j &&& 31)))
          by_cases w : fl2 p s i j
          · have hf : prt p s j i = true := by unfold prt; simp [e, w]
            have w' : flo p s (((1 : Int32) <<< (nI i &&& 31)) ||| ((1 : Int32) <<< (nI j &&& 31))) = true := w
            rw [w', if_pos rfl] at f1
            exact ⟨_, m3, by rw [if_neg k1, f1, bind2_some, if_neg n10], q1.tr f2.sm, by rw [bitsS, if_pos hf]⟩
          · have hf : ¬ prt p s j i = true := by unfold prt; simp [w]
            have w' : flo p s (((1 : Int32) <<< (nI i &&& 31)) ||| ((1 : Int32) <<< (nI j &&& 31))) = false := eq_false_of_ne_true w
            rw [w', if_neg (by decide)] at f1
            exact ⟨0, m3, by rw [if_neg k1, f1, bind2_some, if_pos rfl], q1.tr f2.sm, by rw [bitsS, if_neg hf, Int32.or_zero]⟩
      -- the inner loop
      obtain ⟨ri, u1, ok2, u2, u3, u4⟩ := iter_P (b := b_X9_beside_72 F (bitsS (prt p s j) i, (if ok then 1 else 0), nI i, m2)) (F := F) i (fun k x => ∃ ok2 : Bool, ∃ m4, x = ((if ok2 then 1 else 0), nI k, m4) ∧ Sm m m4 ∧ (ok2 = true ↔ ok = true ∧ ∀ b, b < k → fl2 p s i b = true)) (fun r => ∃ ok2 : Bool, r.1 = (if ok2 then 1 else 0) ∧ Sm m r.2 ∧ (ok2 = true ↔ ok = true ∧ ∀ b, b < i → fl2 p s i b = true)) (by omega) (by
        rintro k x hk ⟨ok2, m4, rfl, t1, t2⟩
        have hck : ¬ nI i ≤ nI k := nI_ge hk (by omega)
        cases ok2 with
        | false =>
          refine ⟨_, ?_, false, m4, rfl, t1, ?_⟩
          · unfold b_X9_beside_72
            dsimp only
            rw [if_neg hck, if_pos (by decide), Option.bind_some, nI_1]
            rfl
          · constructor
            · intro q; exact absurd q (by decide)
            · intro q
              exact t2.mpr ⟨q.1, fun b hb => q.2 b (by omega)⟩
        | true =>
          obtain ⟨m5, f1, f2, -⟩ := m_float hF hp (PM_Sm pm t1) (RM_Sm hp hz rm t1) hz (((1 : Int32) <<< (nI i &&& 31)) ||| ((1 : Int32) <<< (nI k &&& 31)))
          have t3 := t2.mp rfl
          by_cases w : fl2 p s i k
          · have w' : flo p s (((1 : Int32) <<< (nI i &&& 31)) ||| ((1 : Int32) <<< (nI k &&& 31))) = true := w
            rw [w', if_pos rfl] at f1
            refine ⟨_, ?_, true, m5, rfl, t1.tr f2.sm, ?_⟩
            · unfold b_X9_beside_72
              dsimp only
              rw [if_neg hck, if_neg (by decide), f1, bind2_some, if_neg n10, Option.bind_some, nI_1]
              rfl
            · refine ⟨fun _ => ⟨t3.1, fun b hb => ?_⟩, fun _ => rfl⟩
              by_cases e : b = k
              · rw [e]; exact w
              · exact t3.2 b (by omega)
          · have w' : flo p s (((1 : Int32) <<< (nI i &&& 31)) ||| ((1 : Int32) <<< (nI k &&& 31))) = false := eq_false_of_ne_true w
            rw [w', if_neg (by decide)] at f1
            refine ⟨_, ?_, false, m5, rfl, t1.tr f2.sm, ?_⟩
            · unfold b_X9_beside_72
              dsimp only
              rw [if_neg hck, if_neg (by decide), f1, bind2_some, if_pos rfl, Option.bind_some, nI_1]
              rfl
            · constructor
              · intro q; exact absurd q (by decide)
              · intro q
                exact absurd (q.2 k (by omega)) w) (by
        rintro x ⟨ok2, m4, rfl, t1, t2⟩
        refine ⟨((if ok2 then 1 else 0), m4), ?_, ok2, rfl, t1, t2⟩
        unfold b_X9_beside_72
        dsimp only
        rw [if_pos (Int32.le_refl _)]) (x := ((if ok then 1 else 0), 0, m3)) ⟨ok, m3, rfl, v2, ⟨fun q => ⟨q, fun b hb => absurd hb (by omega)⟩, fun q => q.1⟩⟩
      refine ⟨_, ?_, ok2, ri.2, rfl, u3, ?_⟩
      · unfold b_X9_beside_28
        dsimp only
        rw [if_neg hc', v1, Option.bind_some, letv_eq]
        dsimp only
        rw [u1, Option.bind_some, v3, u2, nI_1]
      · rw [u4, q2]
        constructor
        · rintro ⟨q3, q4⟩ a ha b hb
          by_cases e : a = i
          · subst e; exact q4 b hb
          · exact q3 a (by omega) b hb
        · intro q3
          exact ⟨fun a ha b hb => q3 a (by omega) b hb, fun b hb => q3 i (by omega) b hb⟩) (by
      rintro x ⟨ok, m2, rfl, q1, q2⟩
      have hc' : m2 113 2 ≤ nI (p 0 0) := by rw [pm_1 (PM_Sm pm q1)]; exact Int32.le_refl _
      refine ⟨(bitsS (prt p s j) (p 0 0), (if ok then 1 else 0), m2), ?_, rfl, ok, rfl, q1, q2⟩
      unfold b_X9_beside_28
      dsimp only
      rw [if_pos hc']) (x := (0, 1, 0, m1)) ⟨true, m1, rfl, hs1, ⟨fun _ a ha => absurd ha (by omega), fun _ => rfl⟩⟩
    refine ⟨ok, r.2.2, ?_, g4, g5⟩
    rw [g1, ← g2, ← g3]
  have tail : ∀ m1 z, Sm m m1 → (∀ ok : Bool, (ok = true ↔ ∀ a, a < p 0 0 → ∀ b, b < a → fl2 p s a b = true) → z = (if nI w = (0 : Int32) then bitsS (prt p s j) (p 0 0) else if ok then 1 else 0)) → ∃ m2, ((f_X9_isHold m1 (nI j)).bind fun x1 => if x1 = 0 then (some ((-1), m1)) else ((f_X9_in (nI w).toInt64 0 1).bind fun x3 => if x3 = 0 then (some ((-1), m1)) else ((iter F (b_X9_beside_28 F (nI j)) ((0, 1, 0, m1) : Int32 × Int32 × Int32 × Mm)).bind (fun e6 : Int32 × Int32 × Mm => if nI w = 0 then (some (e6.1, e6.2.2)) else ((f_X9_flag e6.2.1).bind fun x16 => some (x16, e6.2.2)))))) = some (z, m2) ∧ G (c + 1) m2 P D T := by
    intro m1 z hs1 hz1
    obtain ⟨ok, m2, g1, g2, g3⟩ := ref m1 hs1
    have h9' : f_X9_isHold m1 (nI j) = some 1 := by
      unfold f_X9_isHold at h9 ⊢
      rw [pm_1 (PM_Sm pm hs1), ← pm_1 pm]
      exact h9
    refine ⟨m2, ?_, G_Sm hG (Nat.le_succ c) g2⟩
    rw [hz1 ok g3, h9', Option.bind_some, if_neg n10, h, Option.bind_some, if_neg n10, g1, Option.bind_some]
    by_cases q : nI w = (0 : Int32)
    · rw [if_pos q, if_pos q]
    · rw [if_neg q, if_neg q]
      cases ok <;> rfl
  by_cases q : nI w = (0 : Int32)
  · obtain ⟨m1, b1, b2⟩ := c_partners (g := j) hF hP hp pc rc Sm.rf (by omega)
    obtain ⟨m2, t1, t2⟩ := tail m1 (bitsS (prt p s j) (p 0 0)) b2 (fun ok _ => by rw [if_pos q])
    refine ⟨bitsS (prt p s j) (p 0 0), m1, m2, ?_, t1, t2⟩
    rw [if_pos q, b1, bind2_some]
  · obtain ⟨r, b1, b2⟩ := iter_Q (b := b_X8_beside_44 F P (((1 : Int32) <<< (nI (p 0 0) &&& 31)) - 1)) (F := F) (p 0 0) (fun i x => ∃ m1, x = (nI i, m1) ∧ Sm m m1 ∧ ∀ g, g < i → ∀ x, x < p 0 0 → x ≠ g → fl2 p s x g = true) (fun r => (∃ m1, r = Sum.inl m1 ∧ Sm m m1 ∧ ¬ ∀ g, g < p 0 0 → ∀ x, x < p 0 0 → x ≠ g → fl2 p s x g = true) ∨ (∃ m1, r = Sum.inr m1 ∧ Sm m m1 ∧ ∀ g, g < p 0 0 → ∀ x, x < p 0 0 → x ≠ g → fl2 p s x g = true)) (by omega) (by
      rintro i x hi ⟨m1, rfl, q1, q2⟩
      have hc' : ¬ m1 P 0 ≤ nI i := by rw [PC_0 (PC_Sm hP pc q1)]; exact nI_ge hi (by omega)
      obtain ⟨m2, v1, v2⟩ := c_partners (g := i) hF hP hp pc rc q1 (by omega)
      have hN1 := bitsN_lt (f := prt p s i) (p 0 0)
      have hN2 := bitsN_lt (f := fun x => decide (x ≠ i)) (p 0 0)
      have hpw := pow_le (k := p 0 0) (by omega)
      have keq : (bitsS (prt p s i) (p 0 0) = (((1 : Int32) <<< (nI (p 0 0) &&& 31)) - 1) &&& (((1 : Int32) <<< (nI i &&& 31)) ^^^ (-1))) ↔ ∀ x, x < p 0 0 → x ≠ i → fl2 p s x i = true := by
        rw [all_but (p 0 0) l1 i hi, bitsS_N _ (by omega), nI_inj (by omega) (by omega)]
        constructor
        · intro e x hx hne
          have := bitsN_inj _ e x hx
          unfold prt at this
          simpa [hne] using this
        · intro e
          refine bitsN_congr _ (fun x hx => ?_)
          unfold prt
          by_cases hne : x = i
          · simp [hne]
          · simp [hne, e x hx hne]
      by_cases w : bitsS (prt p s i) (p 0 0) = (((1 : Int32) <<< (nI (p 0 0) &&& 31)) - 1) &&& (((1 : Int32) <<< (nI i &&& 31)) ^^^ (-1))
      · refine Or.inl ⟨_, ?_, m2, rfl, v2, fun g hg x hx hne => ?_⟩
        · unfold b_X8_beside_44
          dsimp only
          rw [if_neg hc', v1, bind2_some, if_pos w, nI_1]
        · by_cases e : g = i
          · subst e; exact keq.mp w x hx hne
          · exact q2 g (by omega) x hx hne
      · refine Or.inr ⟨Sum.inl m2, ?_, Or.inl ⟨m2, rfl, v2, fun hall => w (keq.mpr (hall i hi))⟩⟩
        unfold b_X8_beside_44
        dsimp only
        rw [if_neg hc', v1, bind2_some, if_neg w]) (by
      rintro x ⟨m1, rfl, q1, q2⟩
      have hc' : m1 P 0 ≤ nI (p 0 0) := by rw [PC_0 (PC_Sm hP pc q1)]; exact Int32.le_refl _
      refine ⟨Sum.inr m1, ?_, Or.inr ⟨m1, rfl, q1, q2⟩⟩
      unfold b_X8_beside_44
      dsimp only
      rw [if_pos hc']) (x := (0, m)) ⟨m, rfl, Sm.rf, fun g hg => absurd hg (by omega)⟩
    have kall : (∀ g, g < p 0 0 → ∀ x, x < p 0 0 → x ≠ g → fl2 p s x g = true) ↔ ∀ a, a < p 0 0 → ∀ b, b < a → fl2 p s a b = true := by
      constructor
      · intro e a ha b hb
        exact e b (by omega) a ha (by omega)
      · intro e g hg x hx hne
        rcases Nat.lt_or_gt_of_ne hne with w | w
        · rw [fl2_comm]; exact e g hg x w
        · exact e x hx g w
    rcases b2 with ⟨m1, rfl, hs1, hno⟩ | ⟨m1, rfl, hs1, hyes⟩
    · obtain ⟨m2, t1, t2⟩ := tail m1 0 hs1 (fun ok hok => by
        rw [if_neg q]
        have : ¬ ok = true := fun w => hno (kall.mpr (hok.mp w))
        rw [if_neg this])
      refine ⟨0, m1, m2, ?_, t1, t2⟩
      rw [if_neg q, letv_eq, PC_0 pc, b1]
      rfl
    · obtain ⟨m2, t1, t2⟩ := tail m1 1 hs1 (fun ok hok => by
        rw [if_neg q]
        rw [if_pos (hok.mpr (kall.mp hyes))])
      refine ⟨1, m1, m2, ?_, t1, t2⟩
      rw [if_neg q, letv_eq, PC_0 pc, b1]
      rfl

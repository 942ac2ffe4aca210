/-! best: the reference's tries -/
theorem fr_le : ∀ w, w ≤ 3 → ∀ b, b ≤ 3 → ((nI w - nI b ≤ 0) ↔ w ≤ b) := by decide +kernel
theorem i_sub_add (a b c : Int32) : a - b - c = a - (b + c) := by grind
theorem i_sub_1 (a b : Int32) : a - b + (-1) = a - (b + 1) := by grind
def bsI (Y : AS) (i : Nat) : Int32 := if nI (Y 11 i) = 1 then (if nI (Y 12 i) ≤ nI (Y 0 0) then 0 else 1) else 0
theorem m_busyN {p Y : AS} {m : Mm} {F g : Nat} {a : Int32} (hF : 5000 ≤ F) (hp : PW p) (rm : RM p Y m 384) (hz : Y 6 0 ≤ 12) (hg : Y 6 0 = g) : iter F (b_X9_tries_26 ((nI g, a, m) : Int32 × Int32 × Mm)) ((nI (p 16 0), 0) : Int32 × Int32) = some (nI (p 16 0) - sumTo (bsI Y) g) := by
  have h := iter_n (b := b_X9_tries_26 ((nI g, a, m) : Int32 × Int32 × Mm)) (F := F) (fun i => ((nI (p 16 0) - sumTo (bsI Y) i, nI i) : Int32 × Int32)) g (nI (p 16 0) - sumTo (bsI Y) g) (by omega) (fun i hi => by
    have hc : ¬ nI g ≤ nI i := nI_ge hi (by omega)
    have e1 : ald m 114 512 ((431 : Int32) + nI i) = some (nI (Y 11 i)) := M_ld rm hp.1 hz (by decide) 11 i (by show i < Y 6 0; omega) (ix1 431 i)
    have e2 : ald m 114 512 ((443 : Int32) + nI i) = some (nI (Y 12 i)) := M_ld rm hp.1 hz (by decide) 12 i (by show i < Y 6 0; omega) (ix1 443 i)
    have e3 : ald m 114 512 455 = some (nI (Y 0 0)) := M_ld rm hp.1 hz (by decide) 0 0 (by show 0 < 3; decide) rfl
    have e4 : (if nI (Y 11 i) = (1 : Int32) then ((some (nI (Y 12 i))).bind fun x10 => (some (nI (Y 0 0))).bind fun x11 => if x10 ≤ x11 then (some 0) else (some 1)) else (some 0) : Option (Int32)) = some (bsI Y i) := by
      unfold bsI
      by_cases q : nI (Y 11 i) = 1
      · rw [if_pos q, if_pos q, Option.bind_some, Option.bind_some]
        by_cases q2 : nI (Y 12 i) ≤ nI (Y 0 0)
        · rw [if_pos q2, if_pos q2]
        · rw [if_neg q2, if_neg q2]
      · rw [if_neg q, if_neg q]
    have e5 : f_X9_flag (bsI Y i) = some (bsI Y i) := by
      unfold f_X9_flag bsI
      by_cases q : nI (Y 11 i) = 1
      · by_cases q2 : nI (Y 12 i) ≤ nI (Y 0 0)
        · rw [if_pos q, if_pos q2]; rfl
        · rw [if_pos q, if_neg q2]; rfl
      · rw [if_neg q]; rfl
    unfold b_X9_tries_26
    dsimp only
    rw [if_neg hc, e1, Option.bind_some, e2, e3, e4, Option.bind_some, e5, Option.bind_some, letv_eq, nI_1, i_sub_add]
    rfl) (by
    unfold b_X9_tries_26
    exact if_pos (Int32.le_refl _))
  have e0 : nI (p 16 0) - sumTo (bsI Y) 0 = nI (p 16 0) := by
    show nI (p 16 0) - 0 = _
    grind
  rw [e0] at h
  exact h
def bzN (T D : Nat → Nat) (j g : Nat) : Nat := sumN (fun i => if j < T i + D i then 1 else 0) g
theorem bz_le {T D : Nat → Nat} {j : Nat} : ∀ g, bzN T D j g ≤ g
  | 0 => Nat.le_refl _
  | g + 1 => by
    have := bz_le (T := T) (D := D) (j := j) g
    unfold bzN at this ⊢
    simp only [sumN]
    split <;> omega
theorem bsI_sum {Y : AS} {T D : Nat → Nat} {j S : Nat} : ∀ g, (∀ i, i < g → Y 11 i = hwN j (T i) (D i) ∧ Y 12 i = S + T i + D i ∧ T i < j) → Y 0 0 = S + j → S + j < 2 ^ 30 → (∀ i, i < g → D i ≤ 20) → sumTo (bsI Y) g = nI (bzN T D j g)
  | 0, _, _, _, _ => rfl
  | g + 1, h, h0, hS, hD => by
    have ih := bsI_sum g (fun i hi => h i (by omega)) h0 hS (fun i hi => hD i (by omega))
    obtain ⟨q1, q2, q3⟩ := h g (by omega)
    have hd := hD g (by omega)
    have e : bsI Y g = nI (if j < T g + D g then 1 else 0) := by
      unfold bsI
      unfold hwN at q1
      rw [q1, q2, h0, if_neg (show ¬ j ≤ T g by omega)]
      by_cases w1 : j ≤ T g + D g
      · rw [if_pos w1, if_pos (show nI 1 = (1 : Int32) from rfl)]
        by_cases w2 : j < T g + D g
        · rw [if_pos w2, if_neg (nI_ge (by omega) (by omega))]; rfl
        · rw [if_neg w2, if_pos (nI_le (by omega) (by omega))]; rfl
      · rw [if_neg w1, if_neg (by decide), if_neg (show ¬ j < T g + D g by omega)]; rfl
    unfold bzN at ih ⊢
    simp only [sumTo, sumN]
    rw [ih, e, nI_add]
theorem TJ_TM {p s Y : AS} {k r j g : Nat} (h : TJ p s k r j g Y) : TM p s k r j g Y := ⟨h.1, h.2.1, h.2.2.1, fun q => by
  obtain ⟨h1, h2, h3⟩ := h.2.2.2 q
  exact ⟨h1, fun i hi => Nat.le_of_lt (h2 i hi), h3⟩⟩
/-- the telling of minute j -/
theorem m_tell {p s Y : AS} {m m1 : Mm} {F M k r j g : Nat} {e7 : Int32} (hF : 5000 ≤ F) (hp : PW p) (hM : M + j ≤ 2 ^ 20) (hk : k ≤ 3) (hkc : k ≤ (chL p s).length) (hu : unl p s k r = true) (hY : SI p (M + j) Y) (rm : RM p Y m1 384) (fm : FM 384 m m1) (h : TJ p s k r j g Y) (hdig : ∀ i, i < k → m 129 i = nI (dig (chL p s).length k r i)) (hch : LC m 128 (chL p s)) (he : runS p j (rowO p s k r) 0 1 = 0 → e7 = nI (p 16 0) - nI (bzN (rowT p s k r) (fun i => durO p (cod p s k r i)) j g)) : ∃ g' Y' m2, iter F (b_X9_tries_88 (nI k)) ((nI g, e7, m1) : Int32 × Int32 × Mm) = some (nI g', m2) ∧ RM p Y' m2 384 ∧ FM 384 m m2 ∧ SI p (M + j) Y' ∧ TM p s k r j g' Y' ∧ (runS p j (rowO p s k r) 0 1 = 0 → ∀ i, g' ≤ i → i < k → j < rowT p s k r i) := by
  obtain ⟨-, -, -, -, -, w1, w3, -⟩ := id hp
  have hgk := h.1
  have hX0 : Y 0 1 = runS p j (rowO p s k r) 0 1 := (h.2.2.1 0 1 (by omega)).symm
  by_cases q0 : runS p j (rowO p s k r) 0 1 = 0
  case neg =>
    refine ⟨g, Y, m1, ?_, rm, fm, hY, TJ_TM h, fun q => absurd q q0⟩
    have e456 : ald m1 114 512 456 = some (nI (Y 0 1)) := M_ld rm hp.1 hY.2.1.1 (by decide) 0 1 (by show 1 < 3; decide) rfl
    have n456 : ¬ nI (Y 0 1) = (0 : Int32) := nI_ne (b := 0) (by have := hY.2.2.1; omega) (by decide) (by rw [hX0]; exact q0)
    have hb : b_X9_tries_88 (nI k) ((nI g, e7, m1) : Int32 × Int32 × Mm) = some (Sum.inr (nI g, m1)) := by
      unfold b_X9_tries_88
      dsimp only
      by_cases a1 : nI k ≤ nI g
      · rw [if_pos a1]
      · rw [if_neg a1]
        by_cases a2 : e7 ≤ 0
        · rw [if_pos a2]
        · rw [if_neg a2, e456, Option.bind_some, if_neg n456]
    exact iter_n (b := b_X9_tries_88 (nI k)) (F := F) (fun _ => ((nI g, e7, m1) : Int32 × Int32 × Mm)) 0 _ (by omega) (fun i hi => absurd hi (by omega)) hb
  have he' := he q0
  subst he'
  generalize hD : (fun i => durO p (cod p s k r i)) = D
  have hDi : ∀ i, D i = durO p (cod p s k r i) := fun i => by rw [← hD]
  have hTi : ∀ i, rowT p s k r i = tmO (p 16 0) (D 0) (D 1) i := fun i => by rw [hDi, hDi]; rfl
  obtain ⟨r0, c1, c2⟩ := iter_Q (b := b_X9_tries_88 (nI k)) (F := F) (k - g) (fun t x => ∃ Y' m2, x = (nI (g + t), nI (p 16 0) - nI (bzN (rowT p s k r) D j (g + t)), m2) ∧ RM p Y' m2 384 ∧ FM 384 m m2 ∧ SI p (M + j) Y' ∧ TM p s k r j (g + t) Y') (fun x => ∃ g' Y' m2, x = (nI g', m2) ∧ RM p Y' m2 384 ∧ FM 384 m m2 ∧ SI p (M + j) Y' ∧ TM p s k r j g' Y' ∧ ∀ i, g' ≤ i → i < k → j < rowT p s k r i) (by omega) (by
    rintro t x ht ⟨Y1, m2, rfl, q1, q2, q3, q4⟩
    have hgt : g + t < k := by omega
    have hc0 : 0 < (chL p s).length := by omega
    have hz1 := q3.2.1.1
    obtain ⟨u1, u2, u3, u4⟩ := id q4
    obtain ⟨v1, v2, v3⟩ := u4 q0
    have hbz : bzN (rowT p s k r) D j (g + t) ≤ 3 := Nat.le_trans (bz_le _) (by omega)
    have hc : ¬ nI k ≤ nI (g + t) := nI_ge hgt (by omega)
    by_cases w : rowT p s k r (g + t) = j
    · left
      have hbusy : bzN (rowT p s k r) D j (g + t) < p 16 0 := by
        have := tm_busy (w := p 16 0) (D := D) w1 w3 (fun i => by rw [hDi]; exact (dur_b hp hc0).1) (n := g + t) (by omega)
        unfold bzN
        simp only [hTi] at w ⊢
        rw [w] at this
        exact this
      have hf : ¬ nI (p 16 0) - nI (bzN (rowT p s k r) D j (g + t)) ≤ 0 := fun a => by
        have := (fr_le _ w3 _ hbz).mp a
        omega
      have hY01 : Y1 0 1 = 0 := by rw [← u3 0 1 (by omega)]; exact q0
      have e456 : ald m2 114 512 456 = some 0 := by
        rw [M_ld q1 hp.1 hz1 (by decide) 0 1 (x := 456) (by show 1 < 3; decide) rfl, hY01]; rfl
      have e455 : ald m2 114 512 455 = some (nI (Y1 0 0)) := M_ld q1 hp.1 hz1 (by decide) 0 0 (by show 0 < 3; decide) rfl
      have hdl : dig (chL p s).length k r (g + t) < (chL p s).length := dig_lt hc0
      have hl14 := chL_len (s := s) hp.1
      have e129 : ald m2 129 3 (nI (g + t)) = some (nI (dig (chL p s).length k r (g + t))) := by
        rw [ald_n (by omega) (by decide), q2.1 129 (by decide), hdig _ hgt]
      have e128 : ald m2 128 14 (nI (dig (chL p s).length k r (g + t))) = some (nI (cod p s k r (g + t))) := by
        rw [ald_n (by omega) (by decide), q2.1 128 (by decide), hch _ hdl]; rfl
      have hcb := cod_b (s := s) (k := k) (r := r) (i := g + t) hp.1 hc0
      have e2 := kd_c hcb
      have e3 : (if (20 : Int32) ≤ nI (cod p s k r (g + t)) then (some (nI (cod p s k r (g + t)) - (20 : Int32))) else (some (nI (cod p s k r (g + t)))) : Option (Int32)) = some (nI (wtO (cod p s k r (g + t)))) := by
        unfold wtO
        by_cases q : cod p s k r (g + t) < 20
        · have k1 : ¬ (20 : Int32) ≤ nI (cod p s k r (g + t)) := nI_ge (b := 20) q (by decide)
          rw [if_pos q, if_neg k1]
        · have k2 : (20 : Int32) ≤ nI (cod p s k r (g + t)) := nI_le (a := 20) (by omega) (by omega)
          rw [if_neg q, if_pos k2, show nI (cod p s k r (g + t)) - (20 : Int32) = nI (cod p s k r (g + t) - 20) from pk_sub (b := 20) (by omega)]
      obtain ⟨m3, d1, d2, d3⟩ := m_tells (B := 384) (a := Y1 0 0) (b := kdO (cod p s k r (g + t))) (c := wtO (cod p s k r (g + t))) (d := 0) hp (by decide) q1 (by omega)
      have d1' : f_X9_tells m2 384 (nI (Y1 0 0)) (nI (kdO (cod p s k r (g + t)))) (nI (wtO (cod p s k r (g + t)))) 0 = some m3 := d1
      have hY00 := q3.2.1.2.2.2.2.2.2.2
      have hbz1 : bzN (rowT p s k r) D j (g + t + 1) = bzN (rowT p s k r) D j (g + t) + 1 := by
        unfold bzN
        simp only [sumN]
        have := (dur_b (k := k) (r := r) (i := g + t) hp hc0).1
        rw [if_pos (by rw [w, hDi]; omega)]
      refine ⟨_, ?_, appS Y1 (Y1 0 0) (kdO (cod p s k r (g + t))) (wtO (cod p s k r (g + t))) 0, m3, rfl, d2, q2.tr d3, appS_I q3 (by omega) (by omega) (cod_go hp hc0), TM_app (g := g + t) hgt q4 q0 w (fun i hi1 hi2 => v3 i (Nat.le_of_lt hi1) hi2)⟩
      unfold b_X9_tries_88
      dsimp only
      rw [if_neg hc, if_neg hf, e456, Option.bind_some, if_pos rfl, e129, Option.bind_some, e128, Option.bind_some, e455, Option.bind_some, e2, Option.bind_some, e3, Option.bind_some, d1', Option.bind_some, nI_1, i_sub_1, nI_1, ← hbz1]
      rfl
    · right
      have hT := v3 (g + t) (Nat.le_refl _) hgt
      have hfull : p 16 0 ≤ bzN (rowT p s k r) D j (g + t) := by
        have := tm_full (w := p 16 0) (j := j) (D := D) w1 w3 (n := g + t) (by omega) (fun i hi => by rw [← hTi]; exact v2 i hi) (by rw [← hTi]; omega)
        unfold bzN
        simp only [hTi]
        exact this
      have hf : nI (p 16 0) - nI (bzN (rowT p s k r) D j (g + t)) ≤ 0 := (fr_le _ w3 _ hbz).mpr hfull
      refine ⟨_, ?_, g + t, Y1, m2, rfl, q1, q2, q3, q4, fun i hi1 hi2 => ?_⟩
      · unfold b_X9_tries_88
        dsimp only
        rw [if_neg hc, if_pos hf]
      · have : rowT p s k r (g + t) ≤ rowT p s k r i := tm_mono hi1 (by omega)
        omega) (by
    rintro x ⟨Y1, m2, rfl, q1, q2, q3, q4⟩
    refine ⟨_, ?_, g + (k - g), Y1, m2, rfl, q1, q2, q3, q4, fun i hi1 hi2 => absurd hi1 (by omega)⟩
    unfold b_X9_tries_88
    dsimp only
    rw [if_pos (by rw [show g + (k - g) = k by omega]; exact Int32.le_refl _)]) (x := (nI g, nI (p 16 0) - nI (bzN (rowT p s k r) D j g), m1)) ⟨Y, m1, rfl, rm, fm, hY, TJ_TM h⟩
  obtain ⟨g', Y', m2, rfl, c3, c4, c5, c6, c7⟩ := c2
  exact ⟨g', Y', m2, c1, c3, c4, c5, c6, fun _ => c7⟩
theorem row_Rg0 {p s : AS} {k r : Nat} (h6 : ∀ a, a < 6 → rowO p s k r a = s a) : Rg 0 (rowO p s k r) (frS s) := fun a i hi => by
  have hR : rowO p s k r = rowI p s k r k := rfl
  by_cases q : a < 6
  · rw [h6 a q, frS_r (by omega) (by omega) (by omega) (by omega)]
  · have hc : a = 13 ∨ a = 14 ∨ a = 15 := by omega
    rw [hR, row_13 hc]
    unfold frS
    rw [if_pos (by omega)]
/-- the reference tries a row: what comes is what comes of orders told at once -/
theorem m_tries {p s : AS} {m : Mm} {F M k r n : Nat} (hF : 5000 ≤ F) (hp : PW p) (hM : M + 120 ≤ 2 ^ 20) (hk : k ≤ 3) (hkc : k ≤ (chL p s).length) (hn : n ≤ 60) (hu : unl p s k r = true) (pm : PM p m) (hI : SI p M s) (rm : RM p s m 0) (hdig : ∀ i, i < k → m 129 i = nI (dig (chL p s).length k r i)) (hch : LC m 128 (chL p s)) : ∃ Y m', f_X9_tries F m (nI k) (nI n) = some m' ∧ RM p Y m' 384 ∧ FM 384 m m' ∧ SI p (M + n) Y ∧ ∀ a i, a < 6 → Y a i = runS p n (rowO p s k r) a i := by
  have hz := hI.2.1.1
  obtain ⟨j1, j2, j3⟩ := rowO_I (k := k) (r := r) hp hI (by omega) hk hkc
  obtain ⟨m1, a1, a2, a3⟩ := m_frees (F := F) hp hz rm (by omega)
  obtain ⟨m', c1, c2⟩ := iter_P (b := b_X9_tries_9 F (nI k) (nI n)) (F := F) n (fun j x => ∃ g Y m2, x = (nI g, nI j, m2) ∧ RM p Y m2 384 ∧ FM 384 m m2 ∧ SI p (M + j) Y ∧ TJ p s k r j g Y) (fun m' => ∃ Y, RM p Y m' 384 ∧ FM 384 m m' ∧ SI p (M + n) Y ∧ ∀ a i, a < 6 → Y a i = runS p n (rowO p s k r) a i) (by omega) (by
    rintro j x hj ⟨g, Y, m2, rfl, q1, q2, q3, q4⟩
    have hc : ¬ nI n ≤ nI j := nI_ge hj (by omega)
    have hz1 := q3.2.1.1
    have pm2 : PM p m2 := PM_FM (B := 384) pm q2.1
    have e0 : ald m2 120 5 0 = some (nI (p 16 0)) := by
      obtain ⟨-, -, -, -, -, -, -, -, u⟩ := id pm2
      have := u 0 (by decide)
      rw [show (0 : Int32) = nI 0 from rfl, ald_n (by decide) (by decide)]
      exact congrArg some this
    have e1 := m_busyN (F := F) (g := g) (a := nI j) hF hp q1 hz1 q4.2.1
    obtain ⟨g', Y', m3, d1, d2, d3, d4, d5, d6⟩ := m_tell (F := F) (e7 := nI (p 16 0) - sumTo (bsI Y) g) hF hp (M := M) (j := j) (by omega) hk hkc hu q3 q1 q2 q4 hdig hch (fun q0 => by
      obtain ⟨⟨i1, i2, i3⟩, i4, i5⟩ := q4.2.2.2 q0
      have hY0 : Y 0 0 = s 0 0 + j := by rw [← q4.2.2.1 0 0 (by omega), i2]
      have hs0 := hI.2.1.2.2.2.2.2.2.2
      rw [bsI_sum (T := rowT p s k r) (D := fun i => durO p (cod p s k r i)) (S := s 0 0) g (fun i hi => by
        have hik : i < k := by have := q4.1; omega
        obtain ⟨b7, b8, b9, b10, b11, b12, -⟩ := i3 i hik
        rw [← q4.2.2.1 11 i (by omega), ← q4.2.2.1 12 i (by omega), b11, b12, if_pos (i4 i hi)]
        exact ⟨rfl, rfl, i4 i hi⟩) hY0 (by omega) (fun i hi => by
        have hik : i < k := by have := q4.1; omega
        exact (dur_b hp (by omega)).2)])
    have pm3 : PM p m3 := PM_FM (B := 384) pm d3.1
    obtain ⟨m4, f1, f2, f3⟩ := m_minute (B := 384) (F := F) (M := M + j) hp (by omega) (by decide) pm3 d4 d2 (by omega)
    have f1' : f_X9_aMinute F m3 384 = some m4 := f1
    refine ⟨_, ?_, g', minS p Y', m4, rfl, f2, d3.tr f3, minS_I (M := M + j) hp (by omega) d4, TJ_min (M := M) hp (by omega) hk hkc hu j1 d4 d5 d6⟩
    unfold b_X9_tries_9
    dsimp only
    rw [if_neg hc, e0, Option.bind_some, e1, Option.bind_some, d1, Option.bind_some, f1', Option.bind_some, nI_1]) (by
    rintro x ⟨g, Y, m2, rfl, q1, q2, q3, q4⟩
    refine ⟨m2, ?_, Y, q1, q2, q3, fun a i ha => (q4.2.2.1 a i (by omega)).symm⟩
    unfold b_X9_tries_9
    exact if_pos (Int32.le_refl _)) (x := (0, 0, m1)) ⟨0, frS s, m1, rfl, a2, a3, frS_I hI, ⟨by omega, (by show frS s 6 0 = 0; unfold frS; rw [if_pos (by omega)]), row_Rg0 j3, fun _ => ⟨row_IV hp.1 hk hkc j3, fun i hi => absurd hi (by omega), fun i _ _ => Nat.zero_le _⟩⟩⟩
  obtain ⟨Y, c3, c4, c5, c6⟩ := c2
  refine ⟨Y, m', ?_, c3, c4, c5, c6⟩
  unfold f_X9_tries
  rw [a1, Option.bind_some, c1]
  rfl

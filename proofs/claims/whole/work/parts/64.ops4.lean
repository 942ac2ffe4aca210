/-! latest, helps -/
def shS (s : AS) (d a : Nat) : AS := appS (frS s) (s 0 0 + a) 0 d 0
def uT (p s : AS) (d a n : Nat) : Nat := untS s (runS p n (shS s d a))
theorem shS_I {p s : AS} {M d a : Nat} (h : SI p M s) (hM : M ≤ 2 ^ 20) (ha : a ≤ 60) (hd : d < p 0 1) : SI p M (shS s d a) := by
  have := h.2.1.2.2.2.2.2.2.2
  exact appS_I (frS_I h) (by rw [frS_0 (by omega)]; omega) (by omega) ⟨by omega, fun _ => hd, fun q => by omega, fun q => by omega, fun q => by omega⟩
theorem shS_0 {s : AS} {d a : Nat} : shS s d a 0 = s 0 := by
  unfold shS
  rw [appS_r (by omega), frS_r (by decide) (by decide) (by decide) (by decide)]
theorem untS_0 {s t u : AS} (h : t 0 = s 0) : untS t u = untS s u := by
  unfold untS
  rw [h]
theorem c_shut {p s : AS} {m : Mm} {P F M d a n : Nat} (hF : 5000 ≤ F) (hP : isPl P) (hM : M + 120 ≤ 2 ^ 20) (hn : n ≤ 60) (ha : a ≤ 60) (hd : d < p 0 1) (hp : PW p) (pc : PC p m P) (rc : RC p s m 4) (hI : SI p M s) : ∃ m2, f_X8_minutesIfShut F m P (nI d) (nI a) (nI n) = some (nI (uT p s d a n), m2) ∧ Sm m m2 := by
  obtain ⟨m1, a1, a2, a3⟩ := c_copyW isSt18 (Or.inl rfl) (by decide) hp.1 rc
  have e0 : m1 4 0 + nI a = nI (s 0 0 + a) := by rw [a3.1 4 (by omega), RC_0 rc, nI_add]
  obtain ⟨m2, b1, b2, b3⟩ := c_append (S := 18) (a := s 0 0 + a) (b := 0) (c := d) (d := 0) a2 (by rw [frS_0 (by omega)]; omega)
  have b1' : f_X0_append m1 24 (nI (s 0 0 + a)) 0 (nI d) 0 = some (nI (frS s 6 0), m2) := b1
  obtain ⟨m3, q, d1, d2, d3, -⟩ := c_go hF hP (M := M) (n := n) (by omega) (by omega) hp pc (a3.1.tr b3.1) (t := shS s d a) b2 (shS_I hI (by omega) ha hd)
  refine ⟨m3, ?_, d3.sm⟩
  unfold f_X8_minutesIfShut
  rw [a1, Option.bind_some, e0, b1', bind2_some, d1, bind2_some, untS_0 shS_0]
  rfl
theorem m_shut {p s : AS} {m : Mm} {F M d a n : Nat} (hF : 5000 ≤ F) (hM : M + 120 ≤ 2 ^ 20) (hn : n ≤ 60) (ha : a ≤ 60) (hd : d < p 0 1) (hp : PW p) (pm : PM p m) (rm : RM p s m 0) (hI : SI p M s) : ∃ m2, f_X9_untilWith F m (nI d) (nI a) (nI n) = some (nI (uT p s d a n), m2) ∧ FQ m m2 := by
  have hz := hI.2.1.1
  obtain ⟨m1, a1, a2, a3⟩ := m_frees (F := F) hp hz rm (by omega)
  have rm1 : RM p s m1 0 := RM_fr hp.1 hz rm (fun i _ hi => a3.2 i (by omega))
  obtain ⟨u1, -⟩ := m_under hp hz rm1
  obtain ⟨m2, b1, b2, b3⟩ := m_tells (B := 384) (a := s 0 0 + a) (b := 0) (c := d) (d := 0) hp (by decide) a2 (by rw [frS_0 (by omega)]; omega)
  have b1' : f_X9_tells m1 384 (nI (s 0 0 + a)) 0 (nI d) 0 = some m2 := b1
  have hIt := shS_I (d := d) (a := a) hI (by omega) ha hd
  obtain ⟨m3, d1, d2, d3, -⟩ := m_runs (F := F) (n := n) (M := M) hp (by omega) (by omega) (PM_FM (B := 384) pm (a3.tr b3).1) hIt (s := shS s d a) b2 (by omega)
  have fq : FQ m m3 := (a3.tr b3).fq.tr d3
  have rm3 : RM p s m3 0 := RM_fr hp.1 hz rm (fun i _ hi => fq.2.1 i (by omega))
  have hIn := runS_I hp hIt n (by omega)
  have r0 : f_X9_untilSunk m3 = some (nI (uT p s d a n)) := m_until hp rm3 d2 hz hIn.2.1.1 hI.2.2.1 hIn.2.2.1 (fun q1 q2 => by
    have := (runS_seen hp hIt (by rw [shS_0]; exact q1) n (by omega)).2 q2
    rw [shS_0] at this
    omega)
  refine ⟨m3, ?_, fq⟩
  unfold f_X9_untilWith
  rw [a1, Option.bind_some, u1, Option.bind_some, nI_add, b1', Option.bind_some, d1, Option.bind_some, r0]
  rfl
theorem untS_le {p s t : AS} {M n : Nat} (hp : PW p) (hI : SI p M t) (h0 : t 0 = s 0) (hn : n ≤ 120) (hM : M + n ≤ 2 ^ 20) : untS s (runS p n t) = 4294967292 ∨ untS s (runS p n t) ≤ n := by
  unfold untS
  split
  · right; omega
  split
  · rename_i q1 q2
    right
    have := (runS_seen hp hI (by rw [h0]; omega) n (by omega)).2 q2
    rw [h0] at this
    omega
  · exact Or.inl rfl
/-- whether a door may be shut: alike in both -/
theorem is_idle {p s : AS} {m mr : Mm} {F M d : Nat} (hF : 5000 ≤ F) (hp : PW p) (rc : RC p s m 4) (rm : RM p s mr 0) (hI : SI p M s) (hd : d < p 0 1) : (f_X8_isOpenAndIdle F m (nI d) = some 1 ∧ f_X9_canShut mr (nI d) = some 1) ∨ (f_X8_isOpenAndIdle F m (nI d) = some 0 ∧ f_X9_canShut mr (nI d) = some 0) := by
  obtain ⟨hw, ho, hy⟩ := id hI
  have l2 := hp.1.2.1
  obtain ⟨d1, d2, d3⟩ := ho.2.2.1 d hd
  have e1 : ald m 7 10 (nI d) = some (nI (s 3 d)) := C_ld (S := 4) rc 3 d hd (by omega) (by decide)
  have e2 : f_X0_isOnDoor F m 10 (nI d) = some (nI (if s 13 d = 0 then 0 else 1)) := by rw [d3]; exact c_onDoor (S := 4) hp rc ho (by omega) (by omega)
  have r1 : ald mr 114 512 (16 + nI d) = some (nI (s 3 d)) := M_ld rm hp.1 ho.1 (by decide) 3 d hd (ix1 16 d)
  have r2 : ald mr 114 512 (26 + nI d) = some (nI (s 13 d)) := M_ld rm hp.1 ho.1 (by decide) 13 d hd (ix1 26 d)
  unfold f_X8_isOpenAndIdle f_X9_canShut
  rw [e1, e2, r1, r2]
  simp only [Option.bind_some]
  by_cases q : s 3 d = 1
  · have k1 : nI (s 3 d) = (1 : Int32) := by rw [q]; rfl
    rw [if_pos k1, if_pos k1]
    by_cases q2 : s 13 d = 0
    · rw [q2, if_pos rfl]
      exact Or.inl ⟨rfl, rfl⟩
    · have : s 13 d = 1 := by omega
      rw [this, if_neg (by decide)]
      exact Or.inr ⟨by decide, by decide⟩
  · have k1 : ¬ nI (s 3 d) = (1 : Int32) := nI_ne (b := 1) (by omega) (by decide) q
    rw [if_neg k1, if_neg k1]
    exact Or.inr ⟨rfl, rfl⟩
def cvD (n i : Nat) : Int32 := if i ≤ n then nI (n - i) else -1
theorem cvD_step {n i : Nat} (hi : i < n + 1) : cvD n i + (-1) = cvD n (i + 1) := by
  unfold cvD
  rw [if_pos (by omega)]
  by_cases q : i + 1 ≤ n
  · rw [if_pos q]
    have := pk_m1 (n - (i + 1))
    rw [show n - (i + 1) + 1 = n - i from by omega] at this
    exact this
  · rw [if_neg q, show n - i = 0 from by omega]
    decide
theorem op_latest {F c : Nat} (hF : 5000 ≤ F) (hc : c ≤ 512) : OP_latest F (G c) (G (c + 1)) := by
  intro m P D T hG a1 a2
  have hG' := G_mono hG (Nat.le_succ c)
  obtain ⟨hP, hD, hPD, p, s, hp, hI, hFI, ⟨pc, pm, rc, rm⟩, gi, gr, gt, gs, go, gk⟩ := G_alt hG
  obtain ⟨⟨l1, l2, l3, l4⟩, -⟩ := id hp
  have hz := hI.2.1.1
  unfold f_X8_latest f_X9_latest
  rcases is_door hp.1 pc pm a1 with ⟨d, hd, rfl, h8, h9⟩ | ⟨hx, h8, h9⟩
  case inr => exact ⟨-1, m, m, by rw [h8]; rfl, by rw [h9]; rfl, hG'⟩
  rw [h8, Option.bind_some, if_neg n10]
  rcases in_N a2 1 60 (A := 1) (B := 60) (by decide) (by decide) (by decide) (by decide) with ⟨n, hn1, hn, rfl, h⟩ | ⟨hx, h⟩
  case inr =>
    refine ⟨-1, m, m, ?_, by rw [h9, Option.bind_some, if_neg n10, h]; rfl, hG'⟩
    rcases hx with q | q
    · rw [if_pos (show a2 < (1 : Int32) from q)]
    · rw [if_neg (c := a2 ≤ (60 : Int32)) (Int32.not_le.mpr q)]
      split <;> rfl
  have k1 : ¬ nI n < (1 : Int32) := nI_nlt (b := 1) hn1 (by omega)
  have k2 : nI n ≤ (60 : Int32) := nI_le (b := 60) hn (by decide)
  rw [if_neg k1, if_pos k2]
  rcases is_idle hF hp rc rm hI hd with ⟨i8, i9⟩ | ⟨i8, i9⟩
  case inr =>
    refine ⟨-2, m, m, by rw [i8]; rfl, ?_, hG'⟩
    rw [h9, Option.bind_some, if_neg n10, h, Option.bind_some, if_neg n10, i9]
    rfl
  rw [i8, Option.bind_some, if_neg n10]
  have hu : ∀ a, a ≤ n → (uT p s d a n = 4294967292 ∨ uT p s d a n ≤ 120) := fun a ha => by
    rcases untS_le hp (shS_I (d := d) (a := a) hI (by omega) (by omega) hd) shS_0 (n := n) (by omega) (by omega) with w | w
    · exact Or.inl w
    · exact Or.inr (by unfold uT; omega)
  have k4 : ∀ a, a ≤ n → uT p s d a n ≠ 4294967292 → ¬ nI (uT p s d a n) = (-4 : Int32) := fun a ha hne => by
    rw [← nI_NN]
    exact nI_ne (by have := hu a ha; omega) (by omega) hne
  obtain ⟨r, b1, b2⟩ := iter_Q (b := b_X8_latest_34 F P (nI d) (nI n)) (F := F) (n + 1) (fun i x => ∃ m1, x = (cvD n i, m1) ∧ Sm m m1 ∧ ∀ a, a ≤ n → n < a + i → uT p s d a n ≠ 4294967292) (fun r => (∃ a m1, a ≤ n ∧ r = Sum.inl (nI a, m1) ∧ Sm m m1 ∧ uT p s d a n = 4294967292 ∧ ∀ b, b ≤ n → a < b → uT p s d b n ≠ 4294967292) ∨ (∃ m1, r = Sum.inr m1 ∧ Sm m m1 ∧ ∀ b, b ≤ n → uT p s d b n ≠ 4294967292)) (by omega) (by
    rintro i x hi ⟨m1, rfl, q1, q2⟩
    have hcv : cvD n i = nI (n - i) := if_pos (by omega)
    obtain ⟨m2, g1, g2⟩ := c_shut (d := d) (a := n - i) (n := n) (F := F) (M := 120 * c) hF hP (by omega) (by omega) (by omega) hd hp (PC_Sm hP pc q1) (RC_Sm rc q1) hI
    have kp : ¬ cvD n i < (0 : Int32) := by rw [hcv]; exact nI_pos (by omega)
    by_cases q : uT p s d (n - i) n = 4294967292
    · refine Or.inr ⟨Sum.inl (nI (n - i), m2), ?_, Or.inl ⟨n - i, m2, by omega, rfl, q1.tr g2, q, fun b hb hab => q2 b hb (by omega)⟩⟩
      unfold b_X8_latest_34
      dsimp only
      rw [if_neg kp, hcv, g1, bind2_some, q, if_pos nI_NN]
    · refine Or.inl ⟨_, ?_, m2, rfl, q1.tr g2, fun a ha hai => ?_⟩
      · unfold b_X8_latest_34
        dsimp only
        rw [if_neg kp, cvD_step hi, hcv, g1, bind2_some, if_neg (k4 (n - i) (by omega) q)]
      · by_cases e : a = n - i
        · rw [e]; exact q
        · exact q2 a ha (by omega)) (by
    rintro x ⟨m1, rfl, q1, q2⟩
    refine ⟨Sum.inr m1, ?_, Or.inr ⟨m1, rfl, q1, fun b hb => q2 b hb (by omega)⟩⟩
    unfold b_X8_latest_34
    dsimp only
    rw [if_pos (show cvD n (n + 1) < (0 : Int32) from by rw [cvD, if_neg (by omega)]; decide)]) (x := (nI n, m)) ⟨m, by rw [cvD, if_pos (Nat.zero_le n)]; rfl, Sm.rf, fun a ha hai => by omega⟩
  have ref : ∀ m1, Sm m m1 → ∃ r2, ∃ m2, iter F (b_X9_latest_35 F (nI d) (nI n)) ((nI n, m1) : Int32 × Mm) = some (r2, m2) ∧ Sm m m2 ∧ ((∃ a, a ≤ n ∧ r2 = nI a ∧ uT p s d a n = 4294967292 ∧ ∀ b, b ≤ n → a < b → uT p s d b n ≠ 4294967292) ∨ (r2 = -1 ∧ ∀ b, b ≤ n → uT p s d b n ≠ 4294967292)) := by
    intro m1 hs1
    obtain ⟨r, g1, g2, g3⟩ := iter_Q (b := b_X9_latest_35 F (nI d) (nI n)) (F := F) (n + 1) (fun i x => ∃ m2, x = (cvD n i, m2) ∧ Sm m m2 ∧ ∀ a, a ≤ n → n < a + i → uT p s d a n ≠ 4294967292) (fun r => Sm m r.2 ∧ ((∃ a, a ≤ n ∧ r.1 = nI a ∧ uT p s d a n = 4294967292 ∧ ∀ b, b ≤ n → a < b → uT p s d b n ≠ 4294967292) ∨ (r.1 = -1 ∧ ∀ b, b ≤ n → uT p s d b n ≠ 4294967292))) (by omega) (by
      rintro i x hi ⟨m1, rfl, q1, q2⟩
      have hcv : cvD n i = nI (n - i) := if_pos (by omega)
      obtain ⟨m2, g1, g2⟩ := m_shut (d := d) (a := n - i) (n := n) (F := F) (M := 120 * c) hF (by omega) (by omega) (by omega) hd hp (PM_Sm pm q1) (RM_Sm hp hz rm q1) hI
      have kp : ¬ cvD n i < (0 : Int32) := by rw [hcv]; exact nI_pos (by omega)
      by_cases q : uT p s d (n - i) n = 4294967292
      · refine Or.inr ⟨(cvD n i, m2), ?_, q1.tr g2.sm, Or.inl ⟨n - i, by omega, hcv, q, fun b hb hab => q2 b hb (by omega)⟩⟩
        unfold b_X9_latest_35
        dsimp only
        rw [if_neg kp, hcv, g1, bind2_some, q, if_pos nI_NN]
      · refine Or.inl ⟨_, ?_, m2, rfl, q1.tr g2.sm, fun a ha hai => ?_⟩
        · unfold b_X9_latest_35
          dsimp only
          rw [if_neg kp, cvD_step hi, hcv, g1, bind2_some, if_neg (k4 (n - i) (by omega) q)]
        · by_cases e : a = n - i
          · rw [e]; exact q
          · exact q2 a ha (by omega)) (by
      rintro x ⟨m1, rfl, q1, q2⟩
      refine ⟨(cvD n (n + 1), m1), ?_, q1, Or.inr ⟨by rw [cvD, if_neg (by omega)], fun b hb => q2 b hb (by omega)⟩⟩
      unfold b_X9_latest_35
      dsimp only
      rw [if_pos (show cvD n (n + 1) < (0 : Int32) from by rw [cvD, if_neg (by omega)]; decide)]) (x := (nI n, m1)) ⟨m1, by rw [cvD, if_pos (Nat.zero_le n)]; rfl, hs1, fun a ha hai => by omega⟩
    exact ⟨r.1, r.2, g1, g2, g3⟩
  have tail : ∀ m1 z, Sm m m1 → ((∃ a, a ≤ n ∧ z = nI a ∧ uT p s d a n = 4294967292 ∧ ∀ b, b ≤ n → a < b → uT p s d b n ≠ 4294967292) ∨ (z = -4 ∧ ∀ b, b ≤ n → uT p s d b n ≠ 4294967292)) → ∃ m2, ((f_X9_isDoor m1 (nI d)).bind fun x1 => if x1 = 0 then (some ((-1), m1)) else ((f_X9_in (nI n).toInt64 1 60).bind fun x3 => if x3 = 0 then (some ((-1), m1)) else ((f_X9_canShut m1 (nI d)).bind fun x5 => if x5 = 0 then (some ((-2), m1)) else ((iter F (b_X9_latest_35 F (nI d) (nI n)) ((nI n, m1) : Int32 × Mm)).bind (fun e8 : Int32 × Mm => if 0 ≤ e8.1 then (some (e8.1, e8.2)) else (some ((-4), e8.2))))))) = some (z, m2) ∧ G (c + 1) m2 P D T := by
    intro m1 z hs1 hz1
    obtain ⟨r2, m2, g1, g2, g3⟩ := ref m1 hs1
    have h9' : f_X9_isDoor m1 (nI d) = some 1 := by
      unfold f_X9_isDoor at h9 ⊢
      rw [pm_2 (PM_Sm pm hs1), ← pm_2 pm]
      exact h9
    have i9' : f_X9_canShut m1 (nI d) = some 1 := by
      rcases is_idle hF hp rc (RM_Sm hp hz rm hs1) hI hd with ⟨-, w⟩ | ⟨w, -⟩
      · exact w
      · rw [i8] at w; exact absurd w (by decide)
    refine ⟨m2, ?_, G_Sm hG (Nat.le_succ c) g2⟩
    rw [h9', Option.bind_some, if_neg n10, h, Option.bind_some, if_neg n10, i9', Option.bind_some, if_neg n10, g1, Option.bind_some]
    rcases g3 with ⟨a, ha, rfl, ha1, ha2⟩ | ⟨rfl, ha2⟩
    · rw [if_pos (nI_pos' (by omega))]
      rcases hz1 with ⟨b, hb, rfl, hb1, hb2⟩ | ⟨-, hb2⟩
      · have : a = b := by
          apply Decidable.byContradiction
          intro hne
          rcases Nat.lt_or_gt_of_ne hne with w | w
          · exact ha2 b hb w hb1
          · exact hb2 a ha w ha1
        rw [this]
      · exact absurd ha1 (hb2 a ha)
    · rw [if_neg (show ¬ (0 : Int32) ≤ -1 from by decide)]
      rcases hz1 with ⟨b, hb, rfl, hb1, hb2⟩ | ⟨rfl, -⟩
      · exact absurd hb1 (ha2 b hb)
      · rfl
  rcases b2 with ⟨a, m1, ha, rfl, hs1, ha1, ha2⟩ | ⟨m1, rfl, hs1, ha2⟩
  · obtain ⟨m2, g1, g2⟩ := tail m1 (nI a) hs1 (Or.inl ⟨a, ha, rfl, ha1, ha2⟩)
    exact ⟨nI a, m1, m2, by rw [b1]; rfl, g1, g2⟩
  · obtain ⟨m2, g1, g2⟩ := tail m1 (-4) hs1 (Or.inr ⟨rfl, ha2⟩)
    exact ⟨-4, m1, m2, by rw [b1]; rfl, g1, g2⟩
theorem later_c {a b : Nat} (ha : a = 4294967292 ∨ a ≤ 120) (hb : b = 4294967292 ∨ b ≤ 120) : f_X8_isLater (nI a) (nI b) = some (if ltr a b then 1 else 0) := by
  have k : ∀ x, (x = 4294967292 ∨ x ≤ 120) → (nI x = (-4 : Int32)) = (x = 4294967292) := fun x hx => by
    rw [← nI_NN]
    exact nq (by omega) (by omega)
  unfold f_X8_isLater ltr
  simp only [k b hb, k a ha]
  by_cases qb : b = 4294967292
  · simp [qb]
  · by_cases qa : a = 4294967292
    · simp [qa, qb]
    · have h1 : (nI a ≤ nI b) = (a ≤ b) := propext (nI_leI (by omega) (by omega))
      simp only [h1]
      by_cases q : a ≤ b
      · simp [qa, qb, q, Nat.not_lt.mpr q]
      · simp [qa, qb, q, Nat.not_le.mp q]
def lgN (a : Nat) : Nat := if a = 4294967292 then 100000 else a
theorem longer_n {a : Nat} (ha : a = 4294967292 ∨ a ≤ 120) : f_X9_longer (nI a) = some (nI (lgN a)) := by
  have k : (nI a = (-4 : Int32)) = (a = 4294967292) := by
    rw [← nI_NN]
    exact nq (by omega) (by omega)
  unfold f_X9_longer lgN
  simp only [k]
  by_cases q : a = 4294967292
  · rw [if_pos q, if_pos q]; rfl
  · rw [if_neg q, if_neg q]
theorem ltr_lg {a b : Nat} (ha : a = 4294967292 ∨ a ≤ 120) (hb : b = 4294967292 ∨ b ≤ 120) : (nI (lgN a) ≤ nI (lgN b)) = (ltr a b = false) := by
  have h1 : lgN a < 2 ^ 31 := by unfold lgN; split <;> omega
  have h2 : lgN b < 2 ^ 31 := by unfold lgN; split <;> omega
  rw [show (nI (lgN a) ≤ nI (lgN b)) = (lgN a ≤ lgN b) from propext (nI_leI h1 h2)]
  unfold ltr lgN
  by_cases qa : a = 4294967292 <;> by_cases qb : b = 4294967292 <;> simp [qa, qb] <;> omega
def bitsS (f : Nat → Bool) : Nat → Int32
  | 0 => 0
  | i + 1 => if f i then bitsS f i ||| ((1 : Int32) <<< (nI i &&& 31)) else bitsS f i
theorem op_helps {F c : Nat} (hF : 5000 ≤ F) (hc : c ≤ 512) : OP_helps F (G c) (G (c + 1)) := by
  intro m P D T hG a1
  have hG' := G_mono hG (Nat.le_succ c)
  obtain ⟨hP, hD, hPD, p, s, hp, hI, hFI, ⟨pc, pm, rc, rm⟩, gi, gr, gt, gs, go, gk⟩ := G_alt hG
  obtain ⟨⟨l1, l2, l3, l4⟩, -⟩ := id hp
  have hz := hI.2.1.1
  unfold f_X8_helps f_X9_helps
  rcases in_N a1 1 60 (A := 1) (B := 60) (by decide) (by decide) (by decide) (by decide) with ⟨n, hn1, hn, rfl, h⟩ | ⟨hx, h⟩
  case inr =>
    refine ⟨-1, m, m, ?_, by rw [h]; rfl, hG'⟩
    rcases hx with q | q
    · rw [if_pos (show a1 < (1 : Int32) from q)]
    · rw [if_neg (c := a1 ≤ (60 : Int32)) (Int32.not_le.mpr q)]
      split <;> rfl
  have k1 : ¬ nI n < (1 : Int32) := nI_nlt (b := 1) hn1 (by omega)
  have k2 : nI n ≤ (60 : Int32) := nI_le (b := 60) hn (by decide)
  rw [if_neg k1, if_pos k2]
  have hIf := frS_I hI
  have hU : untS s (runS p n (frS s)) = 4294967292 ∨ untS s (runS p n (frS s)) ≤ 120 := by
    rcases untS_le (s := s) hp hIf (frS_r (by decide) (by decide) (by decide) (by decide)) (n := n) (by omega) (by omega) with w | w
    · exact Or.inl w
    · exact Or.inr (by omega)
  have hV : ∀ d, d < p 0 1 → (uT p s d 0 n = 4294967292 ∨ uT p s d 0 n ≤ 120) := fun d hd => by
    rcases untS_le hp (shS_I (d := d) (a := 0) hI (by omega) (by omega) hd) shS_0 (n := n) (by omega) (by omega) with w | w
    · exact Or.inl w
    · exact Or.inr (by unfold uT; omega)
  obtain ⟨m1, a1', a2', a3'⟩ := c_copyW isSt18 (Or.inl rfl) (by decide) hp.1 rc
  obtain ⟨m2, q, b1, b2, b3, b4⟩ := c_go hF hP (M := 120 * c) (n := n) (by omega) (by omega) hp pc a3'.1 a2' hIf
  rw [untS_fr] at b1
  generalize hUe : untS s (runS p n (frS s)) = U at b1 hU
  have idl : ∀ d, d < p 0 1 → ∃ g : Bool, ∀ m', Sm m m' → f_X8_isOpenAndIdle F m' (nI d) = some (if g then 1 else 0) ∧ f_X9_canShut m' (nI d) = some (if g then 1 else 0) := by
    intro d hd
    rcases is_idle hF hp rc rm hI hd with ⟨i8, i9⟩ | ⟨i8, i9⟩
    · refine ⟨true, fun m' hs => ?_⟩
      rcases is_idle hF hp rc (RM_Sm hp hz rm hs) hI hd with ⟨-, w9⟩ | ⟨w8, -⟩
      · rcases is_idle hF hp (RC_Sm rc hs) rm hI hd with ⟨v8, -⟩ | ⟨-, v9⟩
        · exact ⟨v8, w9⟩
        · rw [i9] at v9; exact absurd v9 (by decide)
      · rw [i8] at w8; exact absurd w8 (by decide)
    · refine ⟨false, fun m' hs => ?_⟩
      rcases is_idle hF hp rc (RM_Sm hp hz rm hs) hI hd with ⟨w8, -⟩ | ⟨-, w9⟩
      · rw [i8] at w8; exact absurd w8 (by decide)
      · rcases is_idle hF hp (RC_Sm rc hs) rm hI hd with ⟨-, v9⟩ | ⟨v8, -⟩
        · rw [i9] at v9; exact absurd v9 (by decide)
        · exact ⟨v8, w9⟩
  have hg : ∃ g : Nat → Bool, ∀ d, d < p 0 1 → ∀ m', Sm m m' → f_X8_isOpenAndIdle F m' (nI d) = some (if g d then 1 else 0) ∧ f_X9_canShut m' (nI d) = some (if g d then 1 else 0) := by
    refine ⟨fun d => if hd : d < p 0 1 then (idl d hd).choose else false, fun d hd => ?_⟩
    simp only [dif_pos hd]
    exact (idl d hd).choose_spec
  obtain ⟨g, hg⟩ := hg
  generalize hf : (fun d => g d && ltr (uT p s d 0 n) U) = f
  have hfd : ∀ d, f d = (g d && ltr (uT p s d 0 n) U) := fun d => by rw [← hf]
  obtain ⟨m3, c1, c2⟩ : ∃ m3, iter F (b_X8_helps_42 F P (nI n) (nI U)) ((0, 0, m2) : Int32 × Int32 × Mm) = some (bitsS f (p 0 1), m3) ∧ Sm m m3 := by
    obtain ⟨r, g1, g2, g3⟩ := iter_P (b := b_X8_helps_42 F P (nI n) (nI U)) (F := F) (p 0 1) (fun i x => ∃ m1, x = (bitsS f i, nI i, m1) ∧ Sm m m1) (fun r => r.1 = bitsS f (p 0 1) ∧ Sm m r.2) (by omega) (by
      rintro i x hi ⟨m1, rfl, q1⟩
      have hc' : ¬ m1 P 1 ≤ nI i := by rw [PC_1 (PC_Sm hP pc q1)]; exact nI_ge hi (by omega)
      have e1 := (hg i hi m1 q1).1
      by_cases w : g i
      · obtain ⟨m2, v1, v2⟩ := c_shut (d := i) (a := 0) (n := n) (F := F) (M := 120 * c) hF hP (by omega) (by omega) (by omega) hi hp (PC_Sm hP pc q1) (RC_Sm rc q1) hI
        have v1' : f_X8_minutesIfShut F m1 P (nI i) 0 (nI n) = some (nI (uT p s i 0 n), m2) := v1
        have v3 := later_c (hV i hi) hU
        rw [if_pos w] at e1
        by_cases w2 : ltr (uT p s i 0 n) U
        · have hfi : f i = true := by rw [hfd, w, w2]; rfl
          rw [if_pos w2] at v3
          refine ⟨_, ?_, m2, rfl, q1.tr v2⟩
          unfold b_X8_helps_42
          dsimp only
          rw [if_neg hc', e1, Option.bind_some, if_neg n10, v1', bind2_some, v3, Option.bind_some, if_neg n10, letv_eq, Option.bind_some, nI_1, bitsS, if_pos hfi]
        · have hfi : ¬ f i = true := by rw [hfd, w]; simpa using w2
          rw [if_neg w2] at v3
          refine ⟨_, ?_, m2, rfl, q1.tr v2⟩
          unfold b_X8_helps_42
          dsimp only
          rw [if_neg hc', e1, Option.bind_some, if_neg n10, v1', bind2_some, v3, Option.bind_some, if_pos rfl, Option.bind_some, nI_1, bitsS, if_neg hfi]
      · have hfi : ¬ f i = true := by rw [hfd]; simp [w]
        rw [if_neg w] at e1
        refine ⟨_, ?_, m1, rfl, q1⟩
        unfold b_X8_helps_42
        dsimp only
        rw [if_neg hc', e1, Option.bind_some, if_pos rfl, Option.bind_some, nI_1, bitsS, if_neg hfi]) (by
      rintro x ⟨m1, rfl, q1⟩
      have hc' : m1 P 1 ≤ nI (p 0 1) := by rw [PC_1 (PC_Sm hP pc q1)]; exact Int32.le_refl _
      refine ⟨(bitsS f (p 0 1), m1), ?_, rfl, q1⟩
      unfold b_X8_helps_42
      dsimp only
      rw [if_pos hc']) (x := (0, 0, m2)) ⟨m2, rfl, b3.sm⟩
    exact ⟨r.2, by rw [g1, ← g2], g3⟩
  have free : ∀ m1, Sm m m1 → ∃ m2, f_X9_freeFor F m1 (nI n) = some (nI U, m2) ∧ Sm m m2 := by
    intro m1 hs1
    have pm1 := PM_Sm pm hs1
    have rm1 := RM_Sm hp hz rm hs1
    obtain ⟨m7, d1, d2, d3⟩ := m_frees (F := F) hp hz rm1 (by omega)
    obtain ⟨m8, f1, f2, f3, f4⟩ := m_runs (F := F) (n := n) hp (by omega) (by omega) (PM_FM (B := 384) pm1 d3.1) hIf d2 (by omega)
    have fq : FQ m1 m8 := d3.fq.tr f3
    have hIn := runS_I hp hIf n (by omega)
    have rm8 : RM p s m8 0 := RM_fr hp.1 hz rm1 (fun i _ hi => fq.2.1 i (by omega))
    have r0 : f_X9_untilSunk m8 = some (nI (untS s (runS p n (frS s)))) := m_until hp rm8 f2 hz hIn.2.1.1 hI.2.2.1 hIn.2.2.1 (fun q1 q2 => by
      have := (runS_seen hp hIf (by rw [frS_r (by decide) (by decide) (by decide) (by decide)]; exact q1) n (by omega)).2 q2
      rw [frS_r (a := 0) (by decide) (by decide) (by decide) (by decide)] at this
      omega)
    refine ⟨m8, ?_, hs1.tr fq.sm⟩
    unfold f_X9_freeFor
    rw [d1, Option.bind_some, f1, Option.bind_some, r0, hUe]
    rfl
  obtain ⟨m4, d1, d2⟩ : ∃ m4, iter F (b_X9_helps_18 F (nI n)) ((0, 0, m3) : Int32 × Int32 × Mm) = some (bitsS f (p 0 1), m4) ∧ Sm m m4 := by
    obtain ⟨r, g1, g2, g3⟩ := iter_P (b := b_X9_helps_18 F (nI n)) (F := F) (p 0 1) (fun i x => ∃ m1, x = (bitsS f i, nI i, m1) ∧ Sm m m1) (fun r => r.1 = bitsS f (p 0 1) ∧ Sm m r.2) (by omega) (by
      rintro i x hi ⟨m1, rfl, q1⟩
      have hc' : ¬ m1 113 4 ≤ nI i := by rw [pm_2 (PM_Sm pm q1)]; exact nI_ge hi (by omega)
      have e1 := (hg i hi m1 q1).2
      by_cases w : g i
      · obtain ⟨m2, v1, v2⟩ := m_shut (d := i) (a := 0) (n := n) (F := F) (M := 120 * c) hF (by omega) (by omega) (by omega) hi hp (PM_Sm pm q1) (RM_Sm hp hz rm q1) hI
        have v1' : f_X9_untilWith F m1 (nI i) 0 (nI n) = some (nI (uT p s i 0 n), m2) := v1
        obtain ⟨m3, v4, v5⟩ := free m2 (q1.tr v2.sm)
        have v3 := ltr_lg (hV i hi) hU
        rw [if_pos w] at e1
        by_cases w2 : ltr (uT p s i 0 n) U
        · have hfi : f i = true := by rw [hfd, w, w2]; rfl
          have v6 : ¬ nI (lgN (uT p s i 0 n)) ≤ nI (lgN U) := by rw [v3, w2]; decide
          refine ⟨_, ?_, m3, rfl, v5⟩
          unfold b_X9_helps_18
          dsimp only
          rw [if_neg hc', e1, Option.bind_some, if_neg n10, v1', bind2_some, longer_n (hV i hi), Option.bind_some, v4, bind2_some, longer_n hU, Option.bind_some, if_neg v6, Option.bind_some, letv_eq, nI_1, bitsS, if_pos hfi]
        · have hfi : ¬ f i = true := by rw [hfd, w]; simpa using w2
          have v6 : nI (lgN (uT p s i 0 n)) ≤ nI (lgN U) := by rw [v3]; simpa using w2
          refine ⟨_, ?_, m3, rfl, v5⟩
          unfold b_X9_helps_18
          dsimp only
          rw [if_neg hc', e1, Option.bind_some, if_neg n10, v1', bind2_some, longer_n (hV i hi), Option.bind_some, v4, bind2_some, longer_n hU, Option.bind_some, if_pos v6, Option.bind_some, letv_eq, nI_1, bitsS, if_neg hfi, Int32.or_zero]
      · have hfi : ¬ f i = true := by rw [hfd]; simp [w]
        rw [if_neg w] at e1
        refine ⟨_, ?_, m1, rfl, q1⟩
        unfold b_X9_helps_18
        dsimp only
        rw [if_neg hc', e1, Option.bind_some, if_pos rfl, Option.bind_some, letv_eq, nI_1, bitsS, if_neg hfi, Int32.or_zero]) (by
      rintro x ⟨m1, rfl, q1⟩
      have hc' : m1 113 4 ≤ nI (p 0 1) := by rw [pm_2 (PM_Sm pm q1)]; exact Int32.le_refl _
      refine ⟨(bitsS f (p 0 1), m1), ?_, rfl, q1⟩
      unfold b_X9_helps_18
      dsimp only
      rw [if_pos hc']) (x := (0, 0, m3)) ⟨m3, rfl, c2⟩
    exact ⟨r.2, by rw [g1, ← g2], g3⟩
  refine ⟨bitsS f (p 0 1), m3, m4, ?_, ?_, G_Sm hG (Nat.le_succ c) d2⟩
  · rw [a1', Option.bind_some, b1, bind2_some, c1]
    rfl
  · rw [h, Option.bind_some, if_neg n10, d1]
    rfl

/-! recall, run, water, free -/
def recK (k : Nat) (t : AS) : AS := if t 11 k = 0 then u3 t 11 k 3 else t
theorem bind2_some {σ : Type} {a : Int32} {b : Mm} {f : Int32 → Mm → Option σ} : bind2 (some (a, b)) f = f a b := rfl
theorem recK_r {k a : Nat} {t : AS} (h : a ≠ 11) : recK k t a = t a := by
  unfold recK
  split
  · rw [u3_r h]
  · rfl
theorem recK_I {p s : AS} {M : Nat} (ho : SO p M s) : ∀ i, i ≤ s 6 0 → SO p M (rep recK i s) ∧ (∀ a, a ≠ 11 → rep recK i s a = s a) ∧ (∀ k, i ≤ k → rep recK i s 11 k = s 11 k) ∧ sumN (isW 3 (rep recK i s)) (s 6 0) = sumN (isW 3 s) (s 6 0) + sumN (isW 0 s) i
  | 0, _ => ⟨ho, fun _ _ => rfl, fun _ _ => rfl, rfl⟩
  | i + 1, hi => by
    obtain ⟨h1, h2, h3, h4⟩ := recK_I ho i (by omega)
    have e : rep recK (i + 1) s = recK i (rep recK i s) := rfl
    rw [e]
    generalize rep recK i s = t at h1 h2 h3 h4
    have hi2 : i < s 6 0 := by omega
    have r : ∀ a, a ≠ 11 → recK i t a = s a := fun a ha => by rw [recK_r ha, h2 a ha]
    have t6 : t 6 0 = s 6 0 := by rw [h2 6 (by decide)]
    by_cases q : t 11 i = 0
    · have hE : recK i t = u3 t 11 i 3 := by rw [recK, if_pos q]
      have hs0 : s 11 i = 0 := by rw [← h3 i (Nat.le_refl i)]; exact q
      have e11 : ∀ b, b ≠ i → recK i t 11 b = t 11 b := fun b hb => by rw [hE, u3_i hb]
      have e11k : recK i t 11 i = 3 := by rw [hE, u3_same]
      obtain ⟨c1, c2, c3⟩ := sum_chg (s := t) (t := recK i t) hi2 (by rw [recK_r (by decide)]) (by rw [recK_r (by decide)]) e11
      refine ⟨?_, r, fun k hk => by rw [e11 k (by omega)]; exact h3 k (by omega), ?_⟩
      · obtain ⟨g1, g2, g3, g4, g5, g6, g7, g8⟩ := h1
        rw [t6] at g1 g6 g7
        refine ⟨?_, ?_, fun d hd => ?_, fun d hd => ?_, ?_, fun k hk => ?_, ?_, ?_⟩
        · rw [recK_r (by decide), t6]; exact g1
        · rw [recK_r (by decide)]; exact g2
        · rw [recK_r (a := 3) (by decide), recK_r (a := 13) (by decide), recK_r (a := 6) (by decide), t6]
          obtain ⟨w1, w2, w3⟩ := g3 d hd
          refine ⟨w1, w2, ?_⟩
          have z1 : onD t d i = 0 := by rw [onD, if_neg (by omega)]
          have z2 : onD (recK i t) d i = 0 := by rw [onD, e11k, if_neg (by omega)]
          have := c1 d
          rw [t6] at w3
          omega
        · rw [recK_r (a := 4) (by decide), recK_r (a := 14) (by decide), recK_r (a := 6) (by decide), t6]
          obtain ⟨w1, w2, w3⟩ := g4 d hd
          refine ⟨w1, w2, ?_⟩
          have z1 : onH t d i = 0 := by rw [onH, if_neg (by omega)]
          have z2 : onH (recK i t) d i = 0 := by rw [onH, e11k, if_neg (by omega)]
          have := c2 d
          rw [t6] at w3
          omega
        · rw [recK_r (by decide)]; exact g5
        · rw [recK_r (by decide), t6] at hk
          refine okO_of (g6 k hk) (by rw [recK_r (by decide)]) (by rw [recK_r (by decide)]) (by rw [recK_r (by decide)]) (by rw [recK_r (by decide)]) (by rw [recK_r (by decide)]; exact (g6 k hk).2.2.2.2.2.2.2) ?_
          by_cases e : k = i
          · rw [e, e11k]; omega
          · rw [e11 k e]; exact (g6 k hk).2.2.2.2.2.1
        · rw [recK_r (a := 15) (by decide), recK_r (a := 6) (by decide), t6, g7]
          have := c3 1
          have z1 : isW 1 t i = 0 := by rw [isW, if_neg (by omega)]
          have z2 : isW 1 (recK i t) i = 0 := by rw [isW, e11k, if_neg (by omega)]
          omega
        · rw [recK_r (by decide)]; exact g8
      · have := c3 3
        have z1 : isW 3 t i = 0 := by rw [isW, if_neg (by omega)]
        have z2 : isW 3 (recK i t) i = 1 := by rw [isW, e11k, if_pos rfl]
        have z3 : isW 0 s i = 1 := by rw [isW, if_pos hs0]
        rw [sumN]
        omega
    · have hE : recK i t = t := by rw [recK, if_neg q]
      have hs0 : ¬ s 11 i = 0 := by rw [← h3 i (Nat.le_refl i)]; exact q
      rw [hE]
      have z3 : isW 0 s i = 0 := by rw [isW, if_neg hs0]
      exact ⟨h1, h2, fun k hk => h3 k (by omega), by rw [sumN]; omega⟩
theorem op_recall {F c : Nat} (hF : 5000 ≤ F) : OP_recall F (G c) (G (c + 1)) := by
  intro m P D T hG
  obtain ⟨hP, hD, hPD, p, s, hp, hI, hFI, ⟨pc, pm, rc, rm⟩, gi, gr, gt, gs, go, gk⟩ := G_alt hG
  obtain ⟨hw, ho, hy⟩ := id hI
  have hz := ho.1
  have hn0 : sumN (isW 0 s) (s 6 0) ≤ s 6 0 * 1 := sumN_le (fun i _ => by unfold isW; split <;> omega)
  have t0 : f_X0_tally F m 10 0 = some (nI (sumN (isW 0 s) (s 6 0))) := c_tally (S := 4) rc hz (fun k hk => (ho.2.2.2.2.2.1 k hk).2.2.2.2.2.1) (v := 0) (by omega) (by omega)
  obtain ⟨m1, a1, a2, a3⟩ := iter_P (b := b_X0_failThoseToCome_8 10) (F := F) (s 6 0) (fun i x => ∃ m1, x = (nI i, m1) ∧ RC p (rep recK i s) m1 4 ∧ FC 4 m m1) (fun r => RC p (rep recK (s 6 0) s) r 4 ∧ FC 4 m r) (by omega) (by
    rintro i x hi ⟨m1, rfl, q1, q2⟩
    obtain ⟨h1, h2, h3, h4⟩ := recK_I ho i (by omega)
    have e : rep recK (i + 1) s = recK i (rep recK i s) := rfl
    rw [e]
    generalize rep recK i s = t at h1 h2 h3 h4 q1
    have t6 : t 6 0 = s 6 0 := by rw [h2 6 (by decide)]
    have hi' : i < t 6 0 := by omega
    have hsz : m1 10 0 = nI (s 6 0) := by rw [← t6]; exact RC_size (S := 4) q1
    have hc : ¬ m1 10 0 ≤ nI i := by rw [hsz]; exact nI_ge hi (by omega)
    have e1 : ald m1 (10 + 5) 12 (nI i) = some (nI (t 11 i)) := C_ld (S := 4) q1 11 i hi' (by omega) (by decide)
    have hh := (h1.2.2.2.2.2.1 i hi').2.2.2.2.2.1
    by_cases q : t 11 i = 0
    · obtain ⟨m2, g1, g2, g3⟩ := C_st (S := 4) q1 (N := 12) 11 i 3 (by decide) (by decide) (by omega) (by decide)
      have g1' : ast m1 (10 + 5) 12 (nI i) 3 = some m2 := g1
      have k0 : nI (t 11 i) = (0 : Int32) := by rw [q]; rfl
      refine ⟨_, ?_, m2, rfl, by rw [recK, if_pos q]; exact g2, q2.tr g3⟩
      unfold b_X0_failThoseToCome_8
      dsimp only
      rw [if_neg hc, e1, Option.bind_some, if_pos k0, g1', Option.bind_some, Option.bind_some, nI_1]
    · have k0 : ¬ nI (t 11 i) = (0 : Int32) := nI_ne (b := 0) (by omega) (by decide) q
      refine ⟨_, ?_, m1, rfl, by rw [recK, if_neg q]; exact q1, q2⟩
      unfold b_X0_failThoseToCome_8
      dsimp only
      rw [if_neg hc, e1, Option.bind_some, if_neg k0, Option.bind_some, nI_1]) (by
    rintro x ⟨m1, rfl, q1, q2⟩
    obtain ⟨h1, h2, h3, h4⟩ := recK_I ho (s 6 0) (by omega)
    have hsz : m1 10 0 = nI (s 6 0) := by rw [RC_size (S := 4) q1, h2 6 (by decide)]
    refine ⟨m1, ?_, q1, q2⟩
    unfold b_X0_failThoseToCome_8
    dsimp only
    rw [if_pos (by rw [hsz]; exact Int32.le_refl _)]) (x := (0, m)) ⟨m, rfl, rc, FC.rf⟩
  have hm1 : ∀ b, b < 4 ∨ 17 < b → b ≠ 34 → m1 b = m b := fun b hb _ => a3.1 b hb
  have rm1 : RM p s m1 0 := RM_cell rm (hm1 114 (by omega) (by decide))
  obtain ⟨r, b1, b2, b3, b4⟩ := iter_P (b := b_X9_recall_4) (F := F) (s 6 0) (fun i x => ∃ m2, x = (nI (sumN (isW 0 s) i), nI i, m2) ∧ RM p (rep recK i s) m2 0 ∧ FM 0 m1 m2) (fun r => r.1 = nI (sumN (isW 0 s) (s 6 0)) ∧ RM p (rep recK (s 6 0) s) r.2 0 ∧ FM 0 m1 r.2) (by omega) (by
    rintro i x hi ⟨m2, rfl, q1, q2⟩
    obtain ⟨h1, h2, h3, h4⟩ := recK_I ho i (by omega)
    have e : rep recK (i + 1) s = recK i (rep recK i s) := rfl
    rw [e]
    generalize rep recK i s = t at h1 h2 h3 h4 q1
    have t6 : t 6 0 = s 6 0 := by rw [h2 6 (by decide)]
    have hi' : i < t 6 0 := by omega
    have hz2 : t 6 0 ≤ 12 := by omega
    have e0 : ald m2 114 512 76 = some (nI (s 6 0)) := (M_ld q1 hp.1 hz2 (by decide) 6 0 (by show 0 < 1; decide) rfl).trans (by rw [t6])
    have e1 : ald m2 114 512 (47 + nI i) = some (nI (t 11 i)) := M_ld q1 hp.1 hz2 (by decide) 11 i hi' (ix1 47 i)
    have hc : ¬ nI (s 6 0) ≤ nI i := nI_ge hi (by omega)
    have hh := (h1.2.2.2.2.2.1 i hi').2.2.2.2.2.1
    have h3i := h3 i (Nat.le_refl i)
    by_cases q : t 11 i = 0
    · obtain ⟨m3, g1, g2, g3⟩ := M_st q1 hp.1 hz2 (by decide) 11 i 3 (by decide) (by show i < 12; omega) (by decide) (x := 47 + nI i) (v := 3) (ix1 47 i) rfl
      have k0 : nI (t 11 i) = (0 : Int32) := by rw [q]; rfl
      have w0 : isW 0 s i = 1 := by rw [isW, if_pos (by omega)]
      refine ⟨_, ?_, m3, rfl, by rw [recK, if_pos q]; exact g2, q2.tr g3⟩
      unfold b_X9_recall_4
      dsimp only
      rw [e0, Option.bind_some, if_neg hc, e1, Option.bind_some, if_pos k0, g1, Option.bind_some, Option.bind_some, nI_1, nI_1, sumN, w0]
    · have k0 : ¬ nI (t 11 i) = (0 : Int32) := nI_ne (b := 0) (by omega) (by decide) q
      have w0 : isW 0 s i = 0 := by rw [isW, if_neg (by omega)]
      refine ⟨_, ?_, m2, rfl, by rw [recK, if_neg q]; exact q1, q2⟩
      unfold b_X9_recall_4
      dsimp only
      rw [e0, Option.bind_some, if_neg hc, e1, Option.bind_some, if_neg k0, Option.bind_some, nI_1, sumN, w0]
      rfl) (by
    rintro x ⟨m2, rfl, q1, q2⟩
    obtain ⟨h1, h2, h3, h4⟩ := recK_I ho (s 6 0) (by omega)
    have t6 : rep recK (s 6 0) s 6 0 = s 6 0 := by rw [h2 6 (by decide)]
    have e0 : ald m2 114 512 76 = some (nI (s 6 0)) := (M_ld q1 hp.1 (by omega) (by decide) 6 0 (by show 0 < 1; decide) rfl).trans (by rw [t6])
    refine ⟨(nI (sumN (isW 0 s) (s 6 0)), m2), ?_, rfl, q1, q2⟩
    unfold b_X9_recall_4
    dsimp only
    rw [e0, Option.bind_some, if_pos (Int32.le_refl _)]) (x := (0, 0, m1)) ⟨m1, rfl, rm1, FM.rf⟩
  obtain ⟨h1, h2, h3, h4⟩ := recK_I ho (s 6 0) (by omega)
  have hz3 : rep recK (s 6 0) s 6 0 ≤ 12 := by rw [h2 6 (by decide)]; exact hz
  have e5 : ald r.2 114 512 75 = some (nI (s 16 0)) := (M_ld b3 hp.1 hz3 (by decide) 16 0 (by show 0 < 1; decide) rfl).trans (by rw [h2 16 (by decide)])
  obtain ⟨m3, d1, d2, d3⟩ := M_st b3 hp.1 hz3 (by decide) 16 0 (s 16 0 + sumN (isW 0 s) (s 6 0)) (by decide) (by decide) (by decide) (x := 75) (v := nI (s 16 0) + nI (sumN (isW 0 s) (s 6 0))) rfl (nI_add _ _)
  have fin : ∀ a, a ≠ 11 → a ≠ 16 → u3 (rep recK (s 6 0) s) 16 0 (s 16 0 + sumN (isW 0 s) (s 6 0)) a = s a := fun a q1 q2 => by rw [u3_r q2, h2 a q1]
  refine ⟨nI (sumN (isW 0 s) (s 6 0)), m1, m3, ?_, ?_, G_two hP hD hPD hp pc pm (Nat.le_succ c) gi gr gt gs go (t := u3 (rep recK (s 6 0) s) 16 0 (s 16 0 + sumN (isW 0 s) (s 6 0))) ⟨?_, ?_, ?_⟩ ?_ (RC_z a2 (fun a ha => (u3_r (by omega)).symm)) d2 (GK_fr gk (fun j hj => (fin j (by omega) (by omega)).symm) ?_ ?_ ?_ ?_ (hm1 37 (by omega) (by decide))) hm1 (b4.tr d3) (s := s)⟩
  · unfold f_X8_recall f_X0_failThoseToCome bind2
    rw [t0, Option.bind_some, a1]
    rfl
  · unfold f_X9_recall
    rw [b1, Option.bind_some, e5, Option.bind_some, b2, d1]
    rfl
  · unfold SW
    rw [fin 1 (by decide) (by decide)]
    exact hw
  · refine SO_mono (M := 120 * c) ?_ (by omega)
    obtain ⟨g1, g2, g3, g4, g5, g6, g7, g8⟩ := h1
    refine ⟨?_, ?_, fun d hd => ?_, fun d hd => ?_, ?_, fun k hk => ?_, ?_, ?_⟩
    · rw [u3_f (by decide)]; exact g1
    · rw [u3_r (by decide)]; exact g2
    · have e : onD (u3 (rep recK (s 6 0) s) 16 0 (s 16 0 + sumN (isW 0 s) (s 6 0))) d = onD (rep recK (s 6 0) s) d := by
        funext k
        simp only [onD, u3_f (show (11 : Nat) ≠ 16 by decide), u3_f (show (8 : Nat) ≠ 16 by decide), u3_f (show (9 : Nat) ≠ 16 by decide)]
      rw [e, u3_f (by decide), u3_f (by decide), u3_f (by decide)]
      exact g3 d hd
    · have e : onH (u3 (rep recK (s 6 0) s) 16 0 (s 16 0 + sumN (isW 0 s) (s 6 0))) d = onH (rep recK (s 6 0) s) d := by
        funext k
        simp only [onH, u3_f (show (11 : Nat) ≠ 16 by decide), u3_f (show (8 : Nat) ≠ 16 by decide), u3_f (show (9 : Nat) ≠ 16 by decide)]
      rw [e, u3_f (by decide), u3_f (by decide), u3_f (by decide)]
      exact g4 d hd
    · rw [u3_r (by decide)]; exact g5
    · rw [u3_f (by decide)] at hk
      unfold okO
      rw [u3_f (by decide), u3_f (by decide), u3_f (by decide), u3_f (by decide), u3_f (by decide), u3_f (by decide)]
      exact g6 k hk
    · have e : isW 1 (u3 (rep recK (s 6 0) s) 16 0 (s 16 0 + sumN (isW 0 s) (s 6 0))) = isW 1 (rep recK (s 6 0) s) := by
        funext k
        simp only [isW, u3_f (show (11 : Nat) ≠ 16 by decide)]
      rw [e, u3_f (by decide), u3_f (by decide)]
      exact g7
    · rw [u3_f (by decide)]; exact g8
  · unfold SY
    rw [fin 0 (by decide) (by decide)]
    exact hy
  · unfold FI
    have e : isW 3 (u3 (rep recK (s 6 0) s) 16 0 (s 16 0 + sumN (isW 0 s) (s 6 0))) = isW 3 (rep recK (s 6 0) s) := by
      funext k
      simp only [isW, u3_f (show (11 : Nat) ≠ 16 by decide)]
    rw [e, u3_same, u3_f (by decide), h2 6 (by decide), h4, hFI]
  · rw [a3.1 34 (by omega)]
  · rw [a3.1 34 (by omega)]
  · rw [a3.1 34 (by omega)]
  · rw [a3.1 34 (by omega)]
theorem isSt18 : isSt 18 := Or.inr (Or.inl rfl)
theorem fr_scl {m m2 : Mm} {p : AS} {w : Nat → Nat} (h : FG 18 m m2) : Sm m (scl m2 39 p w) := (FG.sm h).tr sm_scl
/-- both let a state go n minutes, on what is scribbled on -/
theorem c_go {p t : AS} {m m1 : Mm} {P F M n : Nat} (hF : 5000 ≤ F) (hP : isPl P) (hM : M + n ≤ 2 ^ 20) (hn : n ≤ 120) (hp : PW p) (pc : PC p m P) (hf : FG 18 m m1) (ht : RC p t m1 18) (hI : SI p M t) : ∃ m2 q, f_X7_minutesAfloat F m1 18 P (nI n) = some (nI (untS t (runS p n t)), m2) ∧ RC p (u3 (runS p n t) 0 0 q) m2 18 ∧ FG 18 m m2 ∧ m2 18 3 = mosL p n t := by
  obtain ⟨m2, q, h1, h2, h3, h4⟩ := c_afloat (F := F) isSt18 hP hM hn hp (PC_FG pc isSt18 hP hf) ht hI (by omega)
  exact ⟨m2, q, h1, h2, hf.tr h3, h4⟩
theorem op_run {F c : Nat} (hF : 5000 ≤ F) (hc : c ≤ 512) : OP_run F (G c) (G (c + 1)) := by
  intro m P D T hG a1 a2
  have hG' := G_mono hG (Nat.le_succ c)
  obtain ⟨hP, hD, hPD, p, s, hp, hI, hFI, ⟨pc, pm, rc, rm⟩, gi, gr, gt, gs, go, gk⟩ := G_alt hG
  obtain ⟨⟨l1, l2, l3, l4⟩, -⟩ := id hp
  obtain ⟨hw, ho, hy⟩ := id hI
  have hz := ho.1
  have hS4 : isSt 4 := Or.inl rfl
  unfold f_X8_run f_X9_run
  rcases in_N a1 1 120 (A := 1) (B := 120) (by decide) (by decide) (by decide) (by decide) with ⟨n, hn1, hn, rfl, h⟩ | ⟨hx, h⟩
  case inr =>
    refine ⟨-1, m, m, ?_, by rw [h]; rfl, hG'⟩
    rcases hx with q | q
    · rw [if_pos (show a1 < (1 : Int32) from q)]
    · rw [if_pos (show (120 : Int32) < a1 from q)]
      split <;> rfl
  have k1 : ¬ nI n < (1 : Int32) := nI_nlt (b := 1) hn1 (by omega)
  have k2 : ¬ (120 : Int32) < nI n := nI_nlt (a := 120) hn (by decide)
  rcases in_N a2 0 6 (A := 0) (B := 6) (by decide) (by decide) (by decide) (by decide) with ⟨w, -, hw6, rfl, h2⟩ | ⟨hx, h2⟩
  case inr =>
    refine ⟨-1, m, m, ?_, by rw [h, Option.bind_some, if_neg n10, h2]; rfl, hG'⟩
    rw [if_neg k1, if_neg k2]
    rcases hx with q | q
    · rw [if_pos (show a2 < (0 : Int32) from q)]
    · rw [if_neg (c := a2 ≤ (6 : Int32)) (Int32.not_le.mpr q)]
      split <;> rfl
  have k3 : ¬ nI w < (0 : Int32) := nI_pos (by omega)
  have k4 : nI w ≤ (6 : Int32) := nI_le (b := 6) hw6 (by decide)
  obtain ⟨m1, a1', a2', a3'⟩ := c_copyF isSt18 hS4 (by decide) hp.1 hz rc
  obtain ⟨m2, q, b1, b2, b3, b4⟩ := c_go hF hP (M := 120 * c) (n := n) (by omega) hn hp pc a3'.1 a2' hI
  have hIn := runS_I hp hI n (by omega)
  have hFn := FI_run hp hI hFI n (by omega)
  have w0 : f_X3_weigh F m2 39 P 19 0 = some (scl m2 39 p (runS p n s 1)) := c_weigh hp.1 (PC_FG pc isSt18 hP b3) (plne hP (by decide)) (by decide) (fun h hh => by
    rw [if_neg (bit0 h (by omega))]
    have := b2 1 h hh
    rw [u3_f (by decide)] at this
    exact this) (by omega)
  have sm : Sm m (scl m2 39 p (runS p n s 1)) := fr_scl b3
  generalize hm6 : scl m2 39 p (runS p n s 1) = m6 at w0 sm
  have c0 : m6 39 0 = nI (sumN (runS p n s 1) (p 0 0)) := by rw [← hm6, scl_0]
  have c1 : m6 39 1 = lst p (runS p n s 1) := by rw [← hm6, scl_1]
  have c2 : m6 39 2 = trm p (runS p n s 1) := by rw [← hm6, scl_2]
  have c3 : m6 18 1 = nI (runS p n s 0 1) := by rw [← hm6, scl_o (by decide), RC_1 b2, u3_i (by decide)]
  have c4 : m6 18 3 = mosL p n s := by rw [← hm6, scl_o (by decide), b4]
  have rc6 : RC p (u3 (runS p n s) 0 0 q) m6 18 := RC_fr b2 (fun j hj i _ => by rw [← hm6, scl_o (by omega)])
  have c5 : f_X0_tally F m6 24 3 = some (nI (runS p n s 16 0)) := by
    have e := c_tally (S := 18) (F := F) (v := 3) rc6 (by rw [u3_f (by decide)]; exact hIn.2.1.1) (fun k hk => by rw [u3_f (by decide)] at hk; rw [u3_f (by decide)]; exact (hIn.2.1.2.2.2.2.2.1 k hk).2.2.2.2.2.1) (by omega) (by omega)
    have e2 : isW 3 (u3 (runS p n s) 0 0 q) = isW 3 (runS p n s) := by
      funext k
      simp only [isW, u3_f (show (11 : Nat) ≠ 0 by decide)]
    rw [e2, u3_f (by decide)] at e
    rw [hFn]
    exact e
  have c6 : f_X0_tally F m6 10 3 = some (nI (s 16 0)) := by
    rw [hFI]
    exact c_tally (S := 4) (F := F) (v := 3) (RC_Sm rc sm) hz (fun k hk => (ho.2.2.2.2.2.1 k hk).2.2.2.2.2.1) (by omega) (by omega)
  -- the reference
  have pm6 := PM_Sm pm sm
  have rm6 := RM_Sm hp hz rm sm
  obtain ⟨m7, d1, d2, d3⟩ := m_copy (A := 0) (B := 384) (F := F) hp hz rm6 (by decide) (by decide) (by decide) (by omega)
  have d1' : f_X9_copies F m6 384 0 = some m7 := d1
  obtain ⟨m8, f1, f2, f3, f4⟩ := m_runs (F := F) (n := n) hp (by omega) hn (PM_FM (B := 384) pm6 d3.1) hI d2 (by omega)
  have fq : FQ m6 m8 := d3.fq.tr f3
  have pm8 := PM_FQ pm6 fq
  have rm8 : RM p s m8 0 := RM_fr hp.1 hz rm6 (fun i _ hi => fq.2.1 i (by omega))
  have r0 : f_X9_untilSunk m8 = some (nI (untS s (runS p n s))) := m_until hp rm8 f2 hz hIn.2.1.1 hy.1 hIn.2.2.1 (fun q1 q2 => by have := (runS_seen hp hI q1 n (by omega)).2 q2; omega)
  have r1 : ald m8 114 512 456 = some (nI (runS p n s 0 1)) := M_ld f2 hp.1 hIn.2.1.1 (by decide) 0 1 (by show 1 < 3; decide) rfl
  have r2 : f_X9_allOf F m8 384 = some (nI (sumN (runS p n s 1) (p 0 0))) := m_all (s := runS p n s) (B := 384) hp (by decide) pm8 hIn.2.1.1 f2 (by omega)
  have r3 : f_X9_listOf F m8 384 = some (lst p (runS p n s 1)) := m_lst (s := runS p n s) (B := 384) hp (by decide) pm8 hIn.2.1.1 f2 (by omega)
  have r4 : f_X9_trimOf F m8 384 = some (trm p (runS p n s 1)) := m_trm (s := runS p n s) (B := 384) hp (by decide) pm8 hIn.2.1.1 f2 (by omega)
  have r5 : ald m8 114 512 459 = some (nI (runS p n s 16 0)) := M_ld f2 hp.1 hIn.2.1.1 (by decide) 16 0 (by show 0 < 1; decide) rfl
  have r6 : ald m8 114 512 75 = some (nI (s 16 0)) := (m_under hp hz rm8).2.2.2.2.1
  have hG8 : G (c + 1) m8 P D T := G_Sm hG (Nat.le_succ c) (sm.tr fq.sm)
  have X8 : ∀ z, (if nI w = (0 : Int32) then some (nI (untS s (runS p n s)), m6) else (if nI w = (1 : Int32) then (some (m6 18 1, m6)) else (if nI w = (2 : Int32) then (some (m6 39 0, m6)) else (if nI w = (3 : Int32) then (some (m6 39 1, m6)) else (if nI w = (4 : Int32) then (some (m6 39 2, m6)) else (if nI w = (5 : Int32) then ((f_X0_tally F m6 24 3).bind fun x7 => (f_X0_tally F m6 10 3).bind fun x9 => some (x7 - x9, m6)) else (some (m6 18 3, m6)))))))) = some z → (if nI w < (0 : Int32) then (some ((-1 : Int32), m)) else (if nI w ≤ (6 : Int32) then ((f_X7_copyFrom m 18 4).bind fun m2 => bind2 (f_X7_minutesAfloat F m2 18 P (nI n)) fun x3 m4 => (f_X3_weigh F m4 39 P 19 0).bind fun m6 => if nI w = 0 then (some (x3, m6)) else (if nI w = 1 then (some (m6 18 1, m6)) else (if nI w = 2 then (some (m6 39 0, m6)) else (if nI w = 3 then (some (m6 39 1, m6)) else (if nI w = 4 then (some (m6 39 2, m6)) else (if nI w = 5 then ((f_X0_tally F m6 24 3).bind fun x7 => (f_X0_tally F m6 10 3).bind fun x9 => some (x7 - x9, m6)) else (some (m6 18 3, m6)))))))) else (some ((-1), m)))) = some z := by
    intro z hz
    rw [if_neg k3, if_pos k4, a1', Option.bind_some, b1, bind2_some, w0, Option.bind_some]
    exact hz
  have X9 : ∀ z, (if nI w = (0 : Int32) then some (nI (untS s (runS p n s)), m8) else (if nI w = (1 : Int32) then some (nI (runS p n s 0 1), m8) else (if nI w = (2 : Int32) then some (nI (sumN (runS p n s 1) (p 0 0)), m8) else (if nI w = (3 : Int32) then some (lst p (runS p n s 1), m8) else (if nI w = (4 : Int32) then some (trm p (runS p n s 1), m8) else (if nI w = (5 : Int32) then some (nI (runS p n s 16 0) - nI (s 16 0), m8) else (some (m8 113 29, m8)))))))) = some z → ((f_X9_copies F m6 384 0).bind fun m6 => (f_X9_runs F m6 (nI n)).bind fun m8 => if nI w = 0 then ((f_X9_untilSunk m8).bind fun x9 => some (x9, m8)) else (if nI w = 1 then ((ald m8 114 512 456).bind fun x11 => some (x11, m8)) else (if nI w = 2 then ((f_X9_allOf F m8 384).bind fun x12 => some (x12, m8)) else (if nI w = 3 then ((f_X9_listOf F m8 384).bind fun x14 => some (x14, m8)) else (if nI w = 4 then ((f_X9_trimOf F m8 384).bind fun x16 => some (x16, m8)) else (if nI w = 5 then ((ald m8 114 512 459).bind fun x18 => (ald m8 114 512 75).bind fun x19 => some (x18 - x19, m8)) else (some (m8 113 29, m8)))))))) = some z := by
    intro z hz
    rw [d1', Option.bind_some, f1, Option.bind_some, r0, r1, r2, r3, r4, r5, r6]
    exact hz
  rw [c0, c1, c2, c3, c4, c5, c6] at X8
  rw [f4] at X9
  have fin : ∀ z, _ → ∃ z m1 m2, (if nI n < (1 : Int32) then (some ((-1 : Int32), m)) else (if (120 : Int32) < nI n then (some ((-1), m)) else (if nI w < (0 : Int32) then (some ((-1 : Int32), m)) else (if nI w ≤ (6 : Int32) then ((f_X7_copyFrom m 18 4).bind fun m2 => bind2 (f_X7_minutesAfloat F m2 18 P (nI n)) fun x3 m4 => (f_X3_weigh F m4 39 P 19 0).bind fun m6 => if nI w = 0 then (some (x3, m6)) else (if nI w = 1 then (some (m6 18 1, m6)) else (if nI w = 2 then (some (m6 39 0, m6)) else (if nI w = 3 then (some (m6 39 1, m6)) else (if nI w = 4 then (some (m6 39 2, m6)) else (if nI w = 5 then ((f_X0_tally F m6 24 3).bind fun x7 => (f_X0_tally F m6 10 3).bind fun x9 => some (x7 - x9, m6)) else (some (m6 18 3, m6)))))))) else (some ((-1), m)))))) = some (z, m1) ∧ ((f_X9_in (nI n).toInt64 1 120).bind fun x1 => if x1 = 0 then (some ((-1), m1)) else ((f_X9_in (nI w).toInt64 0 6).bind fun x3 => if x3 = 0 then (some ((-1), m1)) else ((f_X9_copies F m1 384 0).bind fun m6 => (f_X9_runs F m6 (nI n)).bind fun m8 => if nI w = 0 then ((f_X9_untilSunk m8).bind fun x9 => some (x9, m8)) else (if nI w = 1 then ((ald m8 114 512 456).bind fun x11 => some (x11, m8)) else (if nI w = 2 then ((f_X9_allOf F m8 384).bind fun x12 => some (x12, m8)) else (if nI w = 3 then ((f_X9_listOf F m8 384).bind fun x14 => some (x14, m8)) else (if nI w = 4 then ((f_X9_trimOf F m8 384).bind fun x16 => some (x16, m8)) else (if nI w = 5 then ((ald m8 114 512 459).bind fun x18 => (ald m8 114 512 75).bind fun x19 => some (x18 - x19, m8)) else (some (m8 113 29, m8)))))))))) = some (z, m2) ∧ G (c + 1) m2 P D T := fun z (hz : (((if nI w = (0 : Int32) then some (nI (untS s (runS p n s)), m6) else (if nI w = (1 : Int32) then (some (nI (runS p n s 0 1), m6)) else (if nI w = (2 : Int32) then (some (nI (sumN (runS p n s 1) (p 0 0)), m6)) else (if nI w = (3 : Int32) then (some (lst p (runS p n s 1), m6)) else (if nI w = (4 : Int32) then (some (trm p (runS p n s 1), m6)) else (if nI w = (5 : Int32) then ((some (nI (runS p n s 16 0))).bind fun x7 => (some (nI (s 16 0))).bind fun x9 => some (x7 - x9, m6)) else (some (mosL p n s, m6)))))))) : Option (Int32 × Mm)) = some (z, m6)) ∧ (((if nI w = (0 : Int32) then some (nI (untS s (runS p n s)), m8) else (if nI w = (1 : Int32) then some (nI (runS p n s 0 1), m8) else (if nI w = (2 : Int32) then some (nI (sumN (runS p n s 1) (p 0 0)), m8) else (if nI w = (3 : Int32) then some (lst p (runS p n s 1), m8) else (if nI w = (4 : Int32) then some (trm p (runS p n s 1), m8) else (if nI w = (5 : Int32) then some (nI (runS p n s 16 0) - nI (s 16 0), m8) else (some (mosL p n s, m8)))))))) : Option (Int32 × Mm)) = some (z, m8))) => ⟨z, m6, m8, by rw [if_neg k1, if_neg k2]; exact X8 _ hz.1, by rw [h, Option.bind_some, if_neg n10, h2, Option.bind_some, if_neg n10]; exact X9 _ hz.2, hG8⟩
  by_cases q0 : nI w = (0 : Int32)
  · exact fin (nI (untS s (runS p n s))) ⟨by simp only [if_pos q0], by simp only [if_pos q0]⟩
  by_cases q1 : nI w = (1 : Int32)
  · exact fin (nI (runS p n s 0 1)) ⟨by simp only [if_neg q0, if_pos q1], by simp only [if_neg q0, if_pos q1]⟩
  by_cases q2 : nI w = (2 : Int32)
  · exact fin (nI (sumN (runS p n s 1) (p 0 0))) ⟨by simp only [if_neg q0, if_neg q1, if_pos q2], by simp only [if_neg q0, if_neg q1, if_pos q2]⟩
  by_cases q3 : nI w = (3 : Int32)
  · exact fin (lst p (runS p n s 1)) ⟨by simp only [if_neg q0, if_neg q1, if_neg q2, if_pos q3], by simp only [if_neg q0, if_neg q1, if_neg q2, if_pos q3]⟩
  by_cases q4 : nI w = (4 : Int32)
  · exact fin (trm p (runS p n s 1)) ⟨by simp only [if_neg q0, if_neg q1, if_neg q2, if_neg q3, if_pos q4], by simp only [if_neg q0, if_neg q1, if_neg q2, if_neg q3, if_pos q4]⟩
  by_cases q5 : nI w = (5 : Int32)
  · exact fin (nI (runS p n s 16 0) - nI (s 16 0)) ⟨by simp only [if_neg q0, if_neg q1, if_neg q2, if_neg q3, if_neg q4, if_pos q5, Option.bind_some], by simp only [if_neg q0, if_neg q1, if_neg q2, if_neg q3, if_neg q4, if_pos q5]⟩
  · exact fin (mosL p n s) ⟨by simp only [if_neg q0, if_neg q1, if_neg q2, if_neg q3, if_neg q4, if_neg q5], by simp only [if_neg q0, if_neg q1, if_neg q2, if_neg q3, if_neg q4, if_neg q5]⟩
theorem op_water {F c : Nat} (hF : 5000 ≤ F) (hc : c ≤ 512) : OP_water F (G c) (G (c + 1)) := by
  intro m P D T hG a1 a2
  have hG' := G_mono hG (Nat.le_succ c)
  obtain ⟨hP, hD, hPD, p, s, hp, hI, hFI, ⟨pc, pm, rc, rm⟩, gi, gr, gt, gs, go, gk⟩ := G_alt hG
  obtain ⟨⟨l1, l2, l3, l4⟩, -⟩ := id hp
  have hz := hI.2.1.1
  have hS4 : isSt 4 := Or.inl rfl
  unfold f_X8_water f_X9_water
  rcases in_N a1 1 120 (A := 1) (B := 120) (by decide) (by decide) (by decide) (by decide) with ⟨n, hn1, hn, rfl, h⟩ | ⟨hx, h⟩
  case inr =>
    refine ⟨-1, m, m, ?_, by rw [h]; rfl, hG'⟩
    rcases hx with q | q
    · rw [if_pos (show a1 < (1 : Int32) from q)]
    · rw [if_pos (show (120 : Int32) < a1 from q)]
      split <;> rfl
  have k1 : ¬ nI n < (1 : Int32) := nI_nlt (b := 1) hn1 (by omega)
  have k2 : ¬ (120 : Int32) < nI n := nI_nlt (a := 120) hn (by decide)
  rcases is_hold hp.1 pc pm a2 with ⟨j, hj, rfl, h8, h9⟩ | ⟨hx, h8, h9⟩
  case inr => exact ⟨-1, m, m, by rw [if_neg k1, if_neg k2, h8]; rfl, by rw [h, Option.bind_some, if_neg n10, h9]; rfl, hG'⟩
  obtain ⟨m1, a1', a2', a3'⟩ := c_copyF isSt18 hS4 (by decide) hp.1 hz rc
  obtain ⟨m2, q, b1, b2, b3, b4⟩ := c_go hF hP (M := 120 * c) (n := n) (by omega) hn hp pc a3'.1 a2' hI
  have hIn := runS_I hp hI n (by omega)
  have sm : Sm m m2 := b3.sm
  have c1 : ald m2 19 8 (nI j) = some (nI (runS p n s 1 j)) := by
    have := C_ld (S := 18) b2 (N := 8) 1 j hj (by omega) (by decide)
    rw [u3_f (by decide)] at this
    exact this
  have pm6 := PM_Sm pm sm
  have rm6 := RM_Sm hp hz rm sm
  obtain ⟨m7, d1, d2, d3⟩ := m_copy (A := 0) (B := 384) (F := F) hp hz rm6 (by decide) (by decide) (by decide) (by omega)
  have d1' : f_X9_copies F m2 384 0 = some m7 := d1
  obtain ⟨m8, f1, f2, f3, f4⟩ := m_runs (F := F) (n := n) hp (by omega) hn (PM_FM (B := 384) pm6 d3.1) hI d2 (by omega)
  have fq : FQ m2 m8 := d3.fq.tr f3
  have r1 : ald m8 114 512 (384 + nI j) = some (nI (runS p n s 1 j)) := M_ld f2 hp.1 hIn.2.1.1 (by decide) 1 j hj (ix1 384 j)
  have h9' : f_X9_isHold m2 (nI j) = some 1 := by
    unfold f_X9_isHold at h9 ⊢
    rw [pm_1 pm6, ← pm_1 pm]
    exact h9
  refine ⟨nI (runS p n s 1 j), m2, m8, ?_, ?_, G_Sm hG (Nat.le_succ c) (sm.tr fq.sm)⟩
  · rw [if_neg k1, if_neg k2, h8, Option.bind_some, if_neg n10, a1', Option.bind_some, b1, bind2_some, c1]
    rfl
  · rw [h, Option.bind_some, if_neg n10, h9', Option.bind_some, if_neg n10, d1', Option.bind_some, f1, Option.bind_some, r1]
    rfl
theorem untS_fr {s t : AS} : untS (frS s) t = untS s t := by
  unfold untS
  rw [frS_r (by decide) (by decide) (by decide) (by decide)]
theorem op_free {F c : Nat} (hF : 5000 ≤ F) (hc : c ≤ 512) : OP_free F (G c) (G (c + 1)) := by
  intro m P D T hG a1
  have hG' := G_mono hG (Nat.le_succ c)
  obtain ⟨hP, hD, hPD, p, s, hp, hI, hFI, ⟨pc, pm, rc, rm⟩, gi, gr, gt, gs, go, gk⟩ := G_alt hG
  have hz := hI.2.1.1
  have hS4 : isSt 4 := Or.inl rfl
  unfold f_X8_free f_X9_free
  rcases in_N a1 1 120 (A := 1) (B := 120) (by decide) (by decide) (by decide) (by decide) with ⟨n, hn1, hn, rfl, h⟩ | ⟨hx, h⟩
  case inr =>
    refine ⟨-1, m, m, ?_, by rw [h]; rfl, hG'⟩
    rcases hx with q | q
    · rw [if_pos (show a1 < (1 : Int32) from q)]
    · rw [if_neg (c := a1 ≤ (120 : Int32)) (Int32.not_le.mpr q)]
      split <;> rfl
  have k1 : ¬ nI n < (1 : Int32) := nI_nlt (b := 1) hn1 (by omega)
  have k2 : nI n ≤ (120 : Int32) := nI_le (b := 120) hn (by decide)
  have hIf := frS_I hI
  obtain ⟨m1, a1', a2', a3'⟩ := c_copyW isSt18 hS4 (by decide) hp.1 rc
  obtain ⟨m2, q, b1, b2, b3, b4⟩ := c_go hF hP (M := 120 * c) (n := n) (by omega) hn hp pc a3'.1 a2' hIf
  have hIn := runS_I hp hIf n (by omega)
  have sm : Sm m m2 := b3.sm
  have pm6 := PM_Sm pm sm
  have rm6 := RM_Sm hp hz rm sm
  obtain ⟨m7, d1, d2, d3⟩ := m_frees (F := F) hp hz rm6 (by omega)
  obtain ⟨m8, f1, f2, f3, f4⟩ := m_runs (F := F) (n := n) hp (by omega) hn (PM_FM (B := 384) pm6 d3.1) hIf d2 (by omega)
  have fq : FQ m2 m8 := d3.fq.tr f3
  have rm8 : RM p s m8 0 := RM_fr hp.1 hz rm6 (fun i _ hi => fq.2.1 i (by omega))
  have r0 : f_X9_untilSunk m8 = some (nI (untS s (runS p n (frS s)))) := m_until hp rm8 f2 hz hIn.2.1.1 hI.2.2.1 hIn.2.2.1 (fun q1 q2 => by
    have := (runS_seen hp hIf (by rw [frS_r (by decide) (by decide) (by decide) (by decide)]; exact q1) n (by omega)).2 q2
    rw [frS_r (a := 0) (by decide) (by decide) (by decide) (by decide)] at this
    omega)
  rw [untS_fr] at b1
  refine ⟨nI (untS s (runS p n (frS s))), m2, m8, ?_, ?_, G_Sm hG (Nat.le_succ c) (sm.tr fq.sm)⟩
  · unfold bind2
    rw [if_neg k1, if_pos k2, a1', Option.bind_some, b1]
    rfl
  · unfold bind2 f_X9_freeFor
    rw [h, Option.bind_some, if_neg n10, d1, Option.bind_some, f1, Option.bind_some, r0]
    rfl

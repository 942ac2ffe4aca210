theorem iter_skip {σ ρ : Type} {b : σ → Option (σ ⊕ ρ)} {S : Nat → σ} : ∀ (w F : Nat), (∀ i, i < w → b (S i) = some (Sum.inl (S (i + 1)))) → iter (F + w) b (S 0) = iter F b (S w)
  | 0, _, _ => rfl
  | w + 1, F, h => by
    rw [show F + (w + 1) = (F + 1) + w from by omega, iter_skip w (F + 1) (fun i hi => h i (by omega)), iter, h w (by omega)]
    rfl
theorem rOrd_PM {p : AS} {m mr : Mm} (h1 : PM p m) (h2 : PM p mr) (a b c : Int32) : rOrd mr a b c = rOrd m a b c := by
  unfold rOrd f_X9_isDoor f_X9_isHold
  rw [pm_1 h1, pm_1 h2, pm_2 h1, pm_2 h2, pm_3 h1, pm_3 h2, pm_4 h1, pm_4 h2]
/-- the orders told by a sheet's records -/
def reK (M : Int32) (cl : Nat → Nat → Int32) (i : Nat) (t : AS) : AS := appS t (co (M + cl i 0)) (co (cl i 1)) (co (cl i 2)) (co (cl i 3))
def goR (p s : AS) (cl : Nat → Nat → Int32) (i : Nat) : Prop := ¬ nI (s 0 0) + cl i 0 < nI (s 0 0) ∧ ¬ (999 : Int32) < nI (s 0 0) + cl i 0 ∧ goO p (co (cl i 1)) (co (cl i 2)) (co (cl i 3)) ∧ s 6 0 + i < 12
theorem reK_I {p s : AS} {M : Nat} {cl : Nat → Nat → Int32} (hI : SI p M s) (hM : M ≤ 2 ^ 20) (hF : FI s) : ∀ w, (∀ j, j < w → goR p s cl j) → SI p M (rep (reK (nI (s 0 0)) cl) w s) ∧ FI (rep (reK (nI (s 0 0)) cl) w s) ∧ rep (reK (nI (s 0 0)) cl) w s 6 0 = s 6 0 + w ∧ (∀ j, j < 6 ∨ 12 < j → rep (reK (nI (s 0 0)) cl) w s j = s j) ∧ (∀ j k, j ≠ 6 → k < s 6 0 → rep (reK (nI (s 0 0)) cl) w s j k = s j k)
  | 0, _ => ⟨hI, hF, rfl, fun _ _ => rfl, fun _ _ _ _ => rfl⟩
  | w + 1, h => by
    obtain ⟨h1, h2, h3, h4, h5⟩ := reK_I hI hM hF w (fun j hj => h j (by omega))
    obtain ⟨g1, g2, g3, g4⟩ := h w (by omega)
    have e : rep (reK (nI (s 0 0)) cl) (w + 1) s = reK (nI (s 0 0)) cl w (rep (reK (nI (s 0 0)) cl) w s) := rfl
    rw [e]
    generalize rep (reK (nI (s 0 0)) cl) w s = t at h1 h2 h3 h4 h5
    have hm := hI.2.1.2.2.2.2.2.2.2
    have hco : co (nI (s 0 0) + cl w 0) < 2 ^ 31 := by
      rcases minute_cases (x := nI (s 0 0) + cl w 0) (M := s 0 0) (by omega) with ⟨v, q1, q2, q3⟩ | q | q
      · rw [q3, co_nI (by omega)]; omega
      · exact absurd q g1
      · exact absurd q g2
    unfold reK
    refine ⟨appS_I h1 (by omega) hco g3, FI_app h2, by rw [appS_6]; omega, fun j hj => by rw [appS_r hj, h4 j hj], fun j k hj hk => by rw [appS_o hj (by omega), h5 j k hj hk]⟩
theorem c_tell {p s t : AS} {m : Mm} {P w : Nat} {cl : Nat → Nat → Int32} (hp : PW p) (pc : PC p m P) (rc : RC p t m 4) (h0 : t 0 0 = s 0 0) (hz : t 6 0 = s 6 0 + w) (hg : goR p s cl w) (ho : f_X8_isOrder m P (cl w 1) (cl w 2) (cl w 3) = some 1) : ∃ m', f_X8_tell m P (nI (s 0 0) + cl w 0) (cl w 1) (cl w 2) (cl w 3) = some (nI (s 6 0 + w), m') ∧ RC p (reK (nI (s 0 0)) cl w t) m' 4 ∧ FC 4 m m' := by
  obtain ⟨g1, g2, g3, g4⟩ := hg
  obtain ⟨m1, a1, a2, a3⟩ := c_append (S := 4) (a := co (nI (s 0 0) + cl w 0)) (b := co (cl w 1)) (c := co (cl w 2)) (d := co (cl w 3)) rc (by omega)
  rw [nI_co, nI_co, nI_co, nI_co, hz] at a1
  have a1' : f_X0_append m 10 (nI (s 0 0) + cl w 0) (cl w 1) (cl w 2) (cl w 3) = some (nI (s 6 0 + w), m1) := a1
  refine ⟨m1, ?_, a2, a3⟩
  unfold f_X8_tell
  rw [RC_0 rc, h0, if_neg g1, if_neg g2, ho, Option.bind_some, if_neg n10, a1', bind2_some]
theorem op_read {F c : Nat} (hF : 5000 ≤ F) (hc : c ≤ 512) : OP_read F (G c) (G (c + 1)) := by
  intro m P D T hG a1 a2 a3 a4
  have hG' := G_mono hG (Nat.le_succ c)
  obtain ⟨hP, hD, hPD, p, s, hp, hI, hFI, ⟨pc, pm, rc, rm⟩, gi, gr, gt, gs, go, gk⟩ := G_alt hG
  have hz := hI.2.1.1
  have hmin := hI.2.1.2.2.2.2.2.2.2
  unfold f_X8_read f_X9_read
  rcases is_sheet a1 a2 with ⟨k, la, hk, hla, rfl, rfl, h⟩ | ⟨hx, h⟩
  case inr =>
    refine ⟨-1, m, m, ?_, by rw [h]; rfl, hG'⟩
    by_cases q1 : a1 < 0
    · rw [if_pos q1]
    rw [if_neg q1]
    by_cases q2 : (4 : Int32) ≤ a1
    · rw [if_pos q2]
    rw [if_neg q2]
    by_cases q3 : a2 < 0
    · rw [if_pos q3]
    rw [if_neg q3]
    by_cases q4 : (3 : Int32) ≤ a2
    · rw [if_pos q4]
    rcases hx with q | q | q | q
    · exact absurd q q1
    · exact absurd q q2
    · exact absurd q q3
    · exact absurd q q4
  have k1 : ¬ nI k < (0 : Int32) := nI_pos (by omega)
  have k2 : ¬ (4 : Int32) ≤ nI k := nI_ge (b := 4) hk (by decide)
  have k3 : ¬ nI la < (0 : Int32) := nI_pos (by omega)
  have k4 : ¬ (3 : Int32) ≤ nI la := nI_ge (b := 3) hla (by decide)
  rw [if_neg k1, if_neg k2, if_neg k3, if_neg k4]
  rcases in_N a4 0 10 (A := 0) (B := 10) (by decide) (by decide) (by decide) (by decide) with ⟨n, -, hn, rfl, h2⟩ | ⟨hx, h2⟩
  case inr =>
    refine ⟨-1, m, m, ?_, by rw [h, Option.bind_some, if_neg n10, h2]; rfl, hG'⟩
    rcases hx with q | q
    · rw [if_pos (show a4 < (0 : Int32) from q)]
    · rw [if_neg (c := a4 ≤ (10 : Int32)) (Int32.not_le.mpr q)]
      split <;> rfl
  have k5 : ¬ nI n < (0 : Int32) := nI_pos (by omega)
  have k6 : nI n ≤ (10 : Int32) := nI_le (b := 10) hn (by decide)
  rw [if_neg k5, if_pos k6, shtN k hk, Option.bind_some, letv_eq, RC_size (S := 4) rc]
  -- what a run that reads w records and then finds τ leaves
  have finA : ∀ (w τ : Nat) (cl : Nat → Nat → Int32) (m1 : Mm), RC p (rep (reK (nI (s 0 0)) cl) w s) m1 4 → FC 4 m m1 → w ≤ 10 → (∀ j, j < w → goR p s cl j) → (∀ mr : Mm, (∀ b, b < 4 ∨ 17 < b → b ≠ 0 → mr b = m b) → iter F (b_X9_read_32 F mr (nI k) (nI la) a3 (nI n)) ((0, 0, 0) : Int32 × Int32 × Int32) = some (Sum.inr (Sum.inr (nI τ, nI w)))) → (∀ i, i < w → ∀ mr : Mm, mr 134 = m 134 → (letv ((((40 : Int32) * nI k) + a3) + ((4 : Int32) * nI i)) fun x => (ald mr 134 160 x)) = some (cl i 0) ∧ (letv ((((40 : Int32) * nI k) + a3) + ((4 : Int32) * nI i)) fun x => (ald mr 134 160 (x + 1))) = some (cl i 1) ∧ (letv ((((40 : Int32) * nI k) + a3) + ((4 : Int32) * nI i)) fun x => (ald mr 134 160 (x + 2))) = some (cl i 2) ∧ (letv ((((40 : Int32) * nI k) + a3) + ((4 : Int32) * nI i)) fun x => (ald mr 134 160 (x + 3))) = some (cl i 3)) → ∃ m2, ((f_X9_isSheet (nI k) (nI la)).bind fun x1 => if x1 = 0 then (some ((-1), up2 m1 0 12 (nI τ))) else ((f_X9_in (nI n).toInt64 0 10).bind fun x3 => if x3 = 0 then (some ((-1), up2 m1 0 12 (nI τ))) else ((iter F (b_X9_read_32 F (up2 m1 0 12 (nI τ)) (nI k) (nI la) a3 (nI n)) ((0, 0, 0) : Int32 × Int32 × Int32)).bind (Sum.elim (fun e6 : Int32 => some (((-20) : Int32) - e6, up2 m1 0 12 (nI τ))) (Sum.elim (fun e7 : Unit => some ((-3), up2 m1 0 12 (nI τ))) (fun e8 : Int32 × Int32 => letv (up2 (up2 m1 0 12 (nI τ)) 113 41 e8.1) fun m25 => (iter F (b_X9_read_245 (nI k) a3 e8) ((0, m25) : Int32 × Mm)).bind (fun e27 : Mm => some (e8.2, e27)))))))) = some (nI w, m2) ∧ G (c + 1) m2 P D T := by
    intro w τ cl m1 hrc hfc hw hgo hit hcl
    obtain ⟨i1, i2, i3, i4, i5⟩ := reK_I hI (by omega) hFI w hgo
    have hu : ∀ b, b < 4 ∨ 17 < b → b ≠ 0 → up2 m1 0 12 (nI τ) b = m b := fun b hb h0 => by rw [up2_ne h0, hfc.1 b hb]
    have rmx : RM p s (up2 (up2 m1 0 12 (nI τ)) 113 41 (nI τ)) 0 := RM_cell rm (by rw [up2_ne (by decide), hu 114 (by omega) (by decide)])
    obtain ⟨m2, d1, d2, d3⟩ := iter_P (b := b_X9_read_245 (nI k) a3 (nI τ, nI w)) (F := F) w (fun i x => ∃ m2, x = (nI i, m2) ∧ RM p (rep (reK (nI (s 0 0)) cl) i s) m2 0 ∧ FM 0 (up2 (up2 m1 0 12 (nI τ)) 113 41 (nI τ)) m2) (fun r => RM p (rep (reK (nI (s 0 0)) cl) w s) r 0 ∧ FM 0 (up2 (up2 m1 0 12 (nI τ)) 113 41 (nI τ)) r) (by omega) (by
      rintro i x hi ⟨m2, rfl, q1, q2⟩
      obtain ⟨j1, j2, j3, j4, j5⟩ := reK_I hI (by omega) hFI i (fun j hj => hgo j (by omega))
      have e : rep (reK (nI (s 0 0)) cl) (i + 1) s = reK (nI (s 0 0)) cl i (rep (reK (nI (s 0 0)) cl) i s) := rfl
      rw [e]
      have hg := hgo i hi
      have hck : ¬ nI w ≤ nI i := nI_ge hi (by omega)
      obtain ⟨u1, -⟩ := m_under hp j1.2.1.1 q1
      rw [j4 0 (by omega)] at u1
      obtain ⟨v1, v2, v3, v4⟩ := hcl i hi m2 (by rw [q2.1 134 (by decide), up2_ne (by decide), hu 134 (by omega) (by decide)])
      rw [letv_eq] at v1 v2 v3 v4
      obtain ⟨m3, t1, t2, t3⟩ := m_tells (B := 0) (a := co (nI (s 0 0) + cl i 0)) (b := co (cl i 1)) (c := co (cl i 2)) (d := co (cl i 3)) hp (by decide) q1 (by rw [j3]; exact hg.2.2.2)
      rw [nI_co, nI_co, nI_co, nI_co] at t1
      have t1' : f_X9_tells m2 0 (nI (s 0 0) + cl i 0) (cl i 1) (cl i 2) (cl i 3) = some m3 := t1
      refine ⟨_, ?_, m3, rfl, t2, q2.tr t3⟩
      unfold b_X9_read_245
      dsimp only
      rw [if_neg hck, letv_eq, u1, Option.bind_some, v1, Option.bind_some, v2, Option.bind_some, v3, Option.bind_some, v4, Option.bind_some, t1', Option.bind_some, nI_1]) (by
      rintro x ⟨m2, rfl, q1, q2⟩
      refine ⟨m2, ?_, q1, q2⟩
      unfold b_X9_read_245
      exact if_pos (Int32.le_refl _)) (x := (0, up2 (up2 m1 0 12 (nI τ)) 113 41 (nI τ))) ⟨_, rfl, rmx, FM.rf⟩
    refine ⟨m2, ?_, ?_⟩
    · rw [h, Option.bind_some, if_neg n10, h2, Option.bind_some, if_neg n10, hit _ hu]
      show (iter F (b_X9_read_245 (nI k) a3 (nI τ, nI w)) ((0, up2 (up2 m1 0 12 (nI τ)) 113 41 (nI τ)) : Int32 × Mm)).bind _ = _
      rw [d1]
      rfl
    · have f114 : ∀ i, 128 ≤ i → m2 114 i = m1 114 i := fun i hi => by rw [d3.2 i (by omega), up2_cell (by decide), up2_cell (by decide)]
      have hB : G (c + 1) (fun b => if b = 114 then m2 114 else m1 b) P D T := by
        refine G_two hP hD hPD hp pc pm (Nat.le_succ c) gi gr gt gs go (SI_mono i1 (by omega)) i2 hrc (RM_cell d2 (if_pos rfl)) (GK_fr gk (fun j hj => (i4 j (by omega)).symm) (by rw [hfc.1 34 (by omega)]) (by rw [hfc.1 34 (by omega)]) (by rw [hfc.1 34 (by omega)]) (by rw [hfc.1 34 (by omega)]) (hfc.1 37 (by omega))) (fun b hb _ => hfc.1 b hb) ⟨fun b hb => if_neg hb, fun i hi => ?_⟩ (s := s)
        show (if (114 : Nat) = 114 then m2 114 else m1 114) i = m1 114 i
        rw [if_pos rfl]
        exact f114 i (by omega)
      have fb : ∀ b, b ≠ 0 → b ≠ 113 → m2 b = (fun b => if b = 114 then m2 114 else m1 b) b := fun b h0 h113 => by
        show m2 b = if b = 114 then m2 114 else m1 b
        by_cases e : b = 114
        · rw [if_pos e, e]
        · rw [if_neg e, d3.1 b e, up2_ne h113, up2_ne h0]
      have f113 : ∀ i, i ≠ 41 → m2 113 i = (fun b => if b = 114 then m2 114 else m1 b) 113 i := fun i hi => by
        show m2 113 i = (if (113 : Nat) = 114 then m2 114 else m1 113) i
        rw [if_neg (by decide), d3.1 113 (by decide), up2_slot hi, up2_cell (by decide)]
      have f0 : ∀ i, i ≠ 12 → m2 0 i = (fun b => if b = 114 then m2 114 else m1 b) 0 i := fun i hi => by
        show m2 0 i = (if (0 : Nat) = 114 then m2 114 else m1 0) i
        rw [if_neg (by decide), d3.1 0 (by decide), up2_cell (by decide), up2_slot hi]
      obtain ⟨-, -, -, p2, s2, -, -, -, -, -, gr2, gt2, gs2, go2, -⟩ := G_alt hB
      refine G_chg hB (Nat.le_refl _) (fun b hb => fb b (by omega) (by omega)) (fun i hi => f113 i (by omega)) (GR_fr gr2 (by rw [fb 1 (by decide) (by decide)]) (fb 2 (by decide) (by decide)) (fb 127 (by decide) (by decide)) (f113 22 (by decide)) (f113 27 (by decide)) (f0 11 (by decide))) ?_ (GS_fr gs2 (fun b q1 q2 => fb b (by omega) (by omega)) (fb 132 (by decide) (by decide)) (fb 133 (by decide) (by decide)) (fb 134 (by decide) (by decide))) (GO_fr go2 (fb 40 (by decide) (by decide)) (fb 41 (by decide) (by decide)) (fb 131 (by decide) (by decide)) (f113 36 (by decide)))
      unfold GT
      rw [d3.1 0 (by decide), d3.1 113 (by decide), up2_same, up2_cell (by decide), up2_same]
  -- no record asked for
  have nothing : n = 0 → ∃ z m1 m2, (iter F (b_X8_read_58 P (nI la) a3 (nI n) (105 + 2 * k)) ((0, 0, m) : Int32 × Int32 × Mm)).bind (Sum.elim (fun e4 : Int32 × Int32 × Mm => letv (up2 e4.2.2 0 12 e4.1) fun m11 => some (e4.2.1, m11)) (Sum.elim (fun e5 : Int32 × Int32 × Mm => letv (up2 e5.2.2 10 0 (nI (s 6 0))) fun m12 => if e5.2.1 = ((-1) : Int32) then (some (((-20) : Int32) - e5.1, m12)) else (some (e5.2.1, m12))) (fun e6 : Int32 × Int32 × Mm => letv (up2 e6.2.2 0 12 e6.1) fun m13 => some (e6.2.1, m13)))) = some (z, m1) ∧ ((f_X9_isSheet (nI k) (nI la)).bind fun x1 => if x1 = 0 then (some ((-1), m1)) else ((f_X9_in (nI n).toInt64 0 10).bind fun x3 => if x3 = 0 then (some ((-1), m1)) else ((iter F (b_X9_read_32 F m1 (nI k) (nI la) a3 (nI n)) ((0, 0, 0) : Int32 × Int32 × Int32)).bind (Sum.elim (fun e6 : Int32 => some (((-20) : Int32) - e6, m1)) (Sum.elim (fun e7 : Unit => some ((-3), m1)) (fun e8 : Int32 × Int32 => letv (up2 m1 113 41 e8.1) fun m25 => (iter F (b_X9_read_245 (nI k) a3 e8) ((0, m25) : Int32 × Mm)).bind (fun e27 : Mm => some (e8.2, e27)))))))) = some (z, m2) ∧ G (c + 1) m2 P D T := by
    intro hn0
    have hle : nI n ≤ (0 : Int32) := by rw [hn0]; decide
    obtain ⟨F1, rfl⟩ : ∃ F1, F = F1 + 1 := ⟨F - 1, by omega⟩
    have c1 : iter (F1 + 1) (b_X8_read_58 P (nI la) a3 (nI n) (105 + 2 * k)) ((0, 0, m) : Int32 × Int32 × Mm) = some (Sum.inr (Sum.inr (0, 0, m))) := by
      rw [iter]
      unfold b_X8_read_58
      dsimp only
      rw [if_pos hle]
      rfl
    obtain ⟨m2, t1, t2⟩ := finA 0 0 (fun _ _ => 0) m rc FC.rf (by omega) (fun j hj => absurd hj (by omega)) (fun mr _ => by
      rw [iter]
      unfold b_X9_read_32
      dsimp only
      rw [if_pos hle]
      rfl) (fun i hi => absurd hi (by omega))
    refine ⟨0, up2 m 0 12 0, m2, ?_, t1, t2⟩
    rw [c1]
    rfl
  -- the first record is torn
  have first : ∀ τ, τ ≠ 0 → τ < 4 → 1 ≤ n → f_X5_tearAt m (105 + 2 * k) (nI la) (a3 + 4 * 0) 4 = some (nI τ) → (∀ mr : Mm, mr 132 = m 132 → mr 133 = m 133 → iter F (b_X9_read_47 mr (nI k) (nI la) a3 (0, 0, 0)) ((0, 0) : Int32 × Int32) = some (nI τ)) → ∃ z m1 m2, (iter F (b_X8_read_58 P (nI la) a3 (nI n) (105 + 2 * k)) ((0, 0, m) : Int32 × Int32 × Mm)).bind (Sum.elim (fun e4 : Int32 × Int32 × Mm => letv (up2 e4.2.2 0 12 e4.1) fun m11 => some (e4.2.1, m11)) (Sum.elim (fun e5 : Int32 × Int32 × Mm => letv (up2 e5.2.2 10 0 (nI (s 6 0))) fun m12 => if e5.2.1 = ((-1) : Int32) then (some (((-20) : Int32) - e5.1, m12)) else (some (e5.2.1, m12))) (fun e6 : Int32 × Int32 × Mm => letv (up2 e6.2.2 0 12 e6.1) fun m13 => some (e6.2.1, m13)))) = some (z, m1) ∧ ((f_X9_isSheet (nI k) (nI la)).bind fun x1 => if x1 = 0 then (some ((-1), m1)) else ((f_X9_in (nI n).toInt64 0 10).bind fun x3 => if x3 = 0 then (some ((-1), m1)) else ((iter F (b_X9_read_32 F m1 (nI k) (nI la) a3 (nI n)) ((0, 0, 0) : Int32 × Int32 × Int32)).bind (Sum.elim (fun e6 : Int32 => some (((-20) : Int32) - e6, m1)) (Sum.elim (fun e7 : Unit => some ((-3), m1)) (fun e8 : Int32 × Int32 => letv (up2 m1 113 41 e8.1) fun m25 => (iter F (b_X9_read_245 (nI k) a3 e8) ((0, m25) : Int32 × Mm)).bind (fun e27 : Mm => some (e8.2, e27)))))))) = some (z, m2) ∧ G (c + 1) m2 P D T := by
    intro τ hτ hτ4 hn1 ht8 ht9
    have hne : ¬ nI τ = (0 : Int32) := nI_ne (b := 0) (by omega) (by decide) hτ
    have hle : ¬ nI n ≤ (0 : Int32) := nI_nle (by omega) (by omega)
    obtain ⟨F2, hF2⟩ : ∃ F2, F = F2 + 2 := ⟨F - 2, by omega⟩
    have c1 : iter F (b_X8_read_58 P (nI la) a3 (nI n) (105 + 2 * k)) ((0, 0, m) : Int32 × Int32 × Mm) = some (Sum.inl (nI τ, 0, m)) := by
      rw [hF2, iter]
      unfold b_X8_read_58
      dsimp only
      rw [if_neg hle, ht8, Option.bind_some, if_neg hne]
      rfl
    obtain ⟨m2, t1, t2⟩ := finA 0 τ (fun _ _ => 0) m rc FC.rf (by omega) (fun j hj => absurd hj (by omega)) (fun mr hmr => by
      have e1 : b_X9_read_32 F mr (nI k) (nI la) a3 (nI n) (0, 0, 0) = some (Sum.inl (nI τ, 0, 0 + 1)) := by
        unfold b_X9_read_32
        dsimp only
        rw [if_neg hle, if_pos rfl, ht9 mr (hmr 132 (by omega) (by decide)) (hmr 133 (by omega) (by decide)), Option.bind_some, if_neg hne]
      have e2 : b_X9_read_32 F mr (nI k) (nI la) a3 (nI n) (nI τ, 0, 0 + 1) = some (Sum.inr (Sum.inr (Sum.inr (nI τ, 0)))) := by
        unfold b_X9_read_32
        dsimp only
        rw [if_neg hne]
        split <;> rfl
      generalize b_X9_read_32 F mr (nI k) (nI la) a3 (nI n) = b at e1 e2
      rw [hF2, iter, e1]
      show iter (F2 + 1) b _ = _
      rw [iter, e2]
      rfl) (fun i hi => absurd hi (by omega))
    refine ⟨0, up2 m 0 12 (nI τ), m2, ?_, t1, t2⟩
    rw [c1]
    rfl
  by_cases hn0 : n = 0
  · exact nothing hn0
  rcases gs k hk with ⟨g1, g2⟩ | ⟨l, sz, hl, hsz, g1, g2, g3, g4, g5⟩
  · refine first 1 (by decide) (by decide) (by omega) (c_tear0 g1) (fun mr h132 _ => ?_)
    exact m_tear0 (i := 0) hF hk (by rw [h132]; exact g2)
  by_cases hneg : a3 < 0
  · have e0 : a3 + 4 * 0 = a3 := by simp
    have ht : f_X5_tearAt m (105 + 2 * k) (nI la) (a3 + 4 * 0) 4 = some (if nI la = nI l then 2 else 3) := by
      rw [e0]
      exact c_tearn g1 g3 hsz hneg
    have hr : ∀ mr : Mm, mr 132 = m 132 → mr 133 = m 133 → iter F (b_X9_read_47 mr (nI k) (nI la) a3 (0, 0, 0)) ((0, 0) : Int32 × Int32) = some (if nI la = nI l then 2 else 3) := fun mr h132 _ => m_tearn hF hk hl (by rw [h132]; exact g2) hneg
    by_cases q : nI la = nI l
    · rw [if_pos q] at ht
      exact first 2 (by decide) (by decide) (by omega) ht (fun mr w1 w2 => by rw [hr mr w1 w2, if_pos q]; rfl)
    · rw [if_neg q] at ht
      exact first 3 (by decide) (by decide) (by omega) ht (fun mr w1 w2 => by rw [hr mr w1 w2, if_neg q]; rfl)
  obtain ⟨f, hf, rfl⟩ := nI_of hneg
  generalize hcl : (fun i j : Nat => m (105 + 2 * k + 1) (f + 4 * i + j)) = cl
  have hcle : ∀ i j, cl i j = m (105 + 2 * k + 1) (f + 4 * i + j) := fun i j => by rw [← hcl]
  have htc : ∀ i, tcN (nI la) l sz f i = 0 → f + 4 * i + 4 ≤ sz := fun i hi => by
    unfold tcN at hi
    split at hi
    · split at hi
      · assumption
      · exact absurd hi (by decide)
    · exact absurd hi (by decide)
  have htc4 : ∀ i, tcN (nI la) l sz f i < 4 := fun i => by
    unfold tcN
    split
    · split <;> omega
    · omega
  have gcell : ∀ i j, f + 4 * i + j < 40 → m 134 (40 * k + f + 4 * i + j) = cl i j := fun i j hq => by
    rw [hcle, g5 _ hq]
    congr 1
    omega
  obtain ⟨r, b1, b2⟩ := iter_Q (b := b_X8_read_58 P (nI la) (nI f) (nI n) (105 + 2 * k)) (F := F) n (fun i x => ∃ m1, x = (0, nI i, m1) ∧ RC p (rep (reK (nI (s 0 0)) cl) i s) m1 4 ∧ FC 4 m m1 ∧ ∀ j, j < i → tcN (nI la) l sz f j = 0 ∧ goR p s cl j ∧ rOrd m (cl j 1) (cl j 2) (cl j 3) = some 1) (fun r => ∃ w m1, RC p (rep (reK (nI (s 0 0)) cl) w s) m1 4 ∧ FC 4 m m1 ∧ (∀ j, j < w → tcN (nI la) l sz f j = 0 ∧ goR p s cl j ∧ rOrd m (cl j 1) (cl j 2) (cl j 3) = some 1) ∧ ((r = Sum.inr (Sum.inr (0, nI w, m1)) ∧ w = n) ∨ (w < n ∧ ((r = Sum.inl (nI (tcN (nI la) l sz f w), nI w, m1) ∧ tcN (nI la) l sz f w ≠ 0) ∨ (tcN (nI la) l sz f w = 0 ∧ ((r = Sum.inr (Sum.inl (nI w, -1, m1)) ∧ (nI (s 0 0) + cl w 0 < nI (s 0 0) ∨ (999 : Int32) < nI (s 0 0) + cl w 0 ∨ rOrd m (cl w 1) (cl w 2) (cl w 3) = some 0)) ∨ (r = Sum.inr (Sum.inl (nI w, -3, m1)) ∧ ¬ nI (s 0 0) + cl w 0 < nI (s 0 0) ∧ ¬ (999 : Int32) < nI (s 0 0) + cl w 0 ∧ rOrd m (cl w 1) (cl w 2) (cl w 3) = some 1 ∧ s 6 0 + w = 12))))))) (by omega) (by
    rintro i x hi ⟨m1, rfl, q1, q2, q3⟩
    obtain ⟨i1, i2, i3, i4, i5⟩ := reK_I hI (by omega) hFI i (fun j hj => (q3 j hj).2.1)
    have hfi : f + 4 * i < 2 ^ 31 := by
      cases i with
      | zero => omega
      | succ i => have := htc i (q3 i (by omega)).1; omega
    have hck : ¬ nI n ≤ nI i := nI_ge hi (by omega)
    have e1 : f_X5_tearAt m1 (105 + 2 * k) (nI la) (nI f + 4 * nI i) 4 = some (nI (tcN (nI la) l sz f i)) := c_tear (by rw [q2.1 _ (by omega)]; exact g1) (by rw [q2.1 _ (by omega)]; exact g3) hsz hfi
    by_cases ht : tcN (nI la) l sz f i = 0
    · have hq := htc i ht
      have ei : nI f + (4 : Int32) * nI i = nI (f + 4 * i) := by rw [show (4 : Int32) = nI 4 from rfl, pk_mul, nI_add]
      have hcell : ∀ j, j < 4 → ald m1 (105 + 2 * k + 1) 40 (nI (f + 4 * i + j)) = some (cl i j) := fun j hj => by
        rw [ald_n (by omega) (by decide), q2.1 _ (by omega), hcle]
      have v0 : ald m1 (105 + 2 * k + 1) 40 (nI (f + 4 * i)) = some (cl i 0) := hcell 0 (by decide)
      have v1 : ald m1 (105 + 2 * k + 1) 40 (nI (f + 4 * i) + 1) = some (cl i 1) := by rw [nI_1]; exact hcell 1 (by decide)
      have v2 : ald m1 (105 + 2 * k + 1) 40 (nI (f + 4 * i) + 2) = some (cl i 2) := by rw [show nI (f + 4 * i) + (2 : Int32) = nI (f + 4 * i + 2) from nI_add _ 2]; exact hcell 2 (by decide)
      have v3 : ald m1 (105 + 2 * k + 1) 40 (nI (f + 4 * i) + 3) = some (cl i 3) := by rw [show nI (f + 4 * i) + (3 : Int32) = nI (f + 4 * i + 3) from nI_add _ 3]; exact hcell 3 (by decide)
      have m40 : m1 4 0 = nI (s 0 0) := by rw [RC_0 q1, i4 0 (by omega)]
      have hpc1 := PC_FC pc (Or.inl rfl) hP q2
      have tf : f_X8_tellFrom m1 P (105 + 2 * k) (nI f + 4 * nI i) = bind2 (f_X8_tell m1 P (nI (s 0 0) + cl i 0) (cl i 1) (cl i 2) (cl i 3)) (fun x6 m7 => some (x6, m7)) := by
        unfold f_X8_tellFrom
        rw [ei, v0, Option.bind_some, letv_eq, v1, Option.bind_some, v2, Option.bind_some, v3, Option.bind_some, m40]
      have stop : ∀ ans : Int32, ¬ 0 ≤ ans → f_X8_tell m1 P (nI (s 0 0) + cl i 0) (cl i 1) (cl i 2) (cl i 3) = some (ans, m1) → b_X8_read_58 P (nI la) (nI f) (nI n) (105 + 2 * k) (0, nI i, m1) = some (Sum.inr (Sum.inr (Sum.inl (nI i, ans, m1)))) := by
        intro ans hans hte
        unfold b_X8_read_58
        dsimp only
        rw [if_neg hck, e1, Option.bind_some, ht, if_pos nIl0, tf, hte, bind2_some, bind2_some, if_neg hans]
      have m40' : ∀ x, f_X8_tell m1 P (nI (s 0 0) + cl i 0) (cl i 1) (cl i 2) (cl i 3) = x ↔ (if nI (s 0 0) + cl i 0 < nI (s 0 0) then (some ((-1), m1)) else (if (999 : Int32) < nI (s 0 0) + cl i 0 then (some ((-1), m1)) else ((f_X8_isOrder m1 P (cl i 1) (cl i 2) (cl i 3)).bind fun x1 => if x1 = 0 then (some ((-1), m1)) else (bind2 (f_X0_append m1 10 (nI (s 0 0) + cl i 0) (cl i 1) (cl i 2) (cl i 3)) fun x3 m4 => some (x3, m4))))) = x := fun x => by
        unfold f_X8_tell
        rw [m40]
      by_cases w1 : nI (s 0 0) + cl i 0 < nI (s 0 0)
      · exact Or.inr ⟨_, stop (-1) (by decide) ((m40' _).mpr (if_pos w1)), i, m1, q1, q2, q3, Or.inr ⟨hi, Or.inr ⟨ht, Or.inl ⟨rfl, Or.inl w1⟩⟩⟩⟩
      by_cases w2 : (999 : Int32) < nI (s 0 0) + cl i 0
      · exact Or.inr ⟨_, stop (-1) (by decide) ((m40' _).mpr (by rw [if_neg w1, if_pos w2])), i, m1, q1, q2, q3, Or.inr ⟨hi, Or.inr ⟨ht, Or.inl ⟨rfl, Or.inr (Or.inl w2)⟩⟩⟩⟩
      rcases is_order2 hp.1 hpc1 pm (cl i 1) (cl i 2) (cl i 3) with ⟨o8, o9⟩ | ⟨o8, o9, og⟩
      · exact Or.inr ⟨_, stop (-1) (by decide) ((m40' _).mpr (by rw [if_neg w1, if_neg w2, o8]; rfl)), i, m1, q1, q2, q3, Or.inr ⟨hi, Or.inr ⟨ht, Or.inl ⟨rfl, Or.inr (Or.inr o9)⟩⟩⟩⟩
      by_cases wz : s 6 0 + i = 12
      · have e5 : f_X0_append m1 10 (nI (s 0 0) + cl i 0) (cl i 1) (cl i 2) (cl i 3) = some (-3, m1) := c_full (S := 4) q1 (by rw [i3]; exact wz)
        exact Or.inr ⟨_, stop (-3) (by decide) ((m40' _).mpr (by rw [if_neg w1, if_neg w2, o8, Option.bind_some, if_neg n10, e5]; rfl)), i, m1, q1, q2, q3, Or.inr ⟨hi, Or.inr ⟨ht, Or.inr ⟨rfl, w1, w2, o9, wz⟩⟩⟩⟩
      have hlt : s 6 0 + i < 12 := by have := i1.2.1.1; omega
      have hgo : goR p s cl i := ⟨w1, w2, og, hlt⟩
      obtain ⟨m2, t1, t2, t3⟩ := c_tell hp hpc1 q1 (by rw [i4 0 (by omega)]) i3 hgo o8
      refine Or.inl ⟨(0, nI (i + 1), m2), ?_, m2, rfl, t2, q2.tr t3, fun j hj => ?_⟩
      · unfold b_X8_read_58
        dsimp only
        rw [if_neg hck, e1, Option.bind_some, ht, if_pos nIl0, tf, t1, bind2_some, bind2_some, if_pos (nI_pos' (by omega)), nI_1]
        rfl
      · by_cases e : j = i
        · rw [e]; exact ⟨ht, hgo, o9⟩
        · exact q3 j (by omega)
    · have hne : ¬ nI (tcN (nI la) l sz f i) = (0 : Int32) := nI_ne (b := 0) (by have := htc4 i; omega) (by decide) ht
      refine Or.inr ⟨_, ?_, i, m1, q1, q2, q3, Or.inr ⟨hi, Or.inl ⟨rfl, ht⟩⟩⟩
      unfold b_X8_read_58
      dsimp only
      rw [if_neg hck, e1, Option.bind_some, if_neg hne]) (by
    rintro x ⟨m1, rfl, q1, q2, q3⟩
    refine ⟨_, ?_, n, m1, q1, q2, q3, Or.inl ⟨rfl, rfl⟩⟩
    unfold b_X8_read_58
    exact if_pos (Int32.le_refl _)) (x := (0, 0, m)) ⟨m, rfl, rc, FC.rf, fun j hj => absurd hj (by omega)⟩
  obtain ⟨w, m1, c1, c2, c3, c4⟩ := b2
  have hwn : w ≤ n := by rcases c4 with ⟨-, q⟩ | ⟨q, -⟩ <;> omega
  -- the reference's loop, as far as the records are good
  have rstep : ∀ mr : Mm, (∀ b, b < 4 ∨ 17 < b → b ≠ 0 → mr b = m b) → ∀ i, i < n → tcN (nI la) l sz f i = 0 → ∃ q4, b_X9_read_32 F mr (nI k) (nI la) (nI f) (nI n) (0, nI i, nI i) = q4 ∧ (¬ nI (s 0 0) + cl i 0 < nI (s 0 0) → ¬ (999 : Int32) < nI (s 0 0) + cl i 0 → rOrd m (cl i 1) (cl i 2) (cl i 3) = some 1 → (s 6 0 + i < 12 → q4 = some (Sum.inl (0, nI (i + 1), nI (i + 1)))) ∧ (s 6 0 + i = 12 → q4 = some (Sum.inr (Sum.inr (Sum.inl ()))))) ∧ ((nI (s 0 0) + cl i 0 < nI (s 0 0) ∨ (999 : Int32) < nI (s 0 0) + cl i 0 ∨ rOrd m (cl i 1) (cl i 2) (cl i 3) = some 0) → q4 = some (Sum.inr (Sum.inl (nI i)))) := by
    intro mr hmr i hi ht
    have hq := htc i ht
    have hck : ¬ nI n ≤ nI i := nI_ge hi (by omega)
    have h132 : mr 132 = m 132 := hmr 132 (by omega) (by decide)
    have h133 : mr 133 = m 133 := hmr 133 (by omega) (by decide)
    have pmr : PM p mr := by
      unfold PM
      rw [hmr 113 (by omega) (by decide), hmr 116 (by omega) (by decide), hmr 117 (by omega) (by decide), hmr 118 (by omega) (by decide), hmr 119 (by omega) (by decide), hmr 120 (by omega) (by decide)]
      exact pm
    have rmr : RM p s mr 0 := RM_cell rm (hmr 114 (by omega) (by decide))
    obtain ⟨u1, -, -, -, -, u6⟩ := m_under hp hz rmr
    have e1 := m_tear (m := mr) (w := nI i) (a2 := nI la) (f := f) (i := i) hF hk hl hsz (by rw [h132]; exact g2) (by rw [h133]; exact g4) hf (by omega)
    rw [ht] at e1
    have ep : ((40 : Int32) * nI k + nI f) + (4 : Int32) * nI i = nI (40 * k + f + 4 * i) := by rw [show (40 : Int32) = nI 40 from rfl, show (4 : Int32) = nI 4 from rfl, pk_mul, pk_mul, nI_add, nI_add]
    have hcell : ∀ j, j < 4 → ald mr 134 160 (nI (40 * k + f + 4 * i + j)) = some (cl i j) := fun j hj => by
      rw [ald_n (by omega) (by decide), hmr 134 (by omega) (by decide), gcell i j (by omega)]
    have v0 : ald mr 134 160 (nI (40 * k + f + 4 * i)) = some (cl i 0) := hcell 0 (by decide)
    have v1 : ald mr 134 160 (nI (40 * k + f + 4 * i) + 1) = some (cl i 1) := by rw [nI_1]; exact hcell 1 (by decide)
    have v2 : ald mr 134 160 (nI (40 * k + f + 4 * i) + 2) = some (cl i 2) := by rw [show nI (40 * k + f + 4 * i) + (2 : Int32) = nI (40 * k + f + 4 * i + 2) from nI_add _ 2]; exact hcell 2 (by decide)
    have v3 : ald mr 134 160 (nI (40 * k + f + 4 * i) + 3) = some (cl i 3) := by rw [show nI (40 * k + f + 4 * i) + (3 : Int32) = nI (40 * k + f + 4 * i + 3) from nI_add _ 3]; exact hcell 3 (by decide)
    refine ⟨_, rfl, ?_, ?_⟩
    · intro w1 w2 w3
      have ho : f_X9_isOrder mr ((nI (s 0 0)).toInt64 + (cl i 0).toInt64) (cl i 1) (cl i 2) (cl i 3) = some 1 := by
        rw [rOrd_eq, u1, Option.bind_some, in_min _ (by omega), if_neg w1, if_neg w2, Option.bind_some, if_neg n10, rOrd_PM pm pmr]
        exact w3
      have esum : nI (s 6 0) + nI i = nI (s 6 0 + i) := nI_add _ _
      refine ⟨fun q => ?_, fun q => ?_⟩
      · have hne : ¬ nI (s 6 0 + i) = (12 : Int32) := nI_ne (b := 12) (by omega) (by decide) (by omega)
        unfold b_X9_read_32
        dsimp only
        rw [if_neg hck, if_pos rfl, e1, Option.bind_some, if_pos nIl0, letv_eq, ep, u1, Option.bind_some, v0, Option.bind_some, v1, Option.bind_some, v2, Option.bind_some, v3, Option.bind_some, ho, Option.bind_some, if_neg n10, u6, Option.bind_some, esum, if_neg hne, nI_1]
        rfl
      · have hne : nI (s 6 0 + i) = (12 : Int32) := by rw [q]; rfl
        unfold b_X9_read_32
        dsimp only
        rw [if_neg hck, if_pos rfl, e1, Option.bind_some, if_pos nIl0, letv_eq, ep, u1, Option.bind_some, v0, Option.bind_some, v1, Option.bind_some, v2, Option.bind_some, v3, Option.bind_some, ho, Option.bind_some, if_neg n10, u6, Option.bind_some, esum, if_pos hne]
    · intro w1
      have ho : f_X9_isOrder mr ((nI (s 0 0)).toInt64 + (cl i 0).toInt64) (cl i 1) (cl i 2) (cl i 3) = some 0 := by
        rw [rOrd_eq, u1, Option.bind_some, in_min _ (by omega)]
        by_cases z1 : nI (s 0 0) + cl i 0 < nI (s 0 0)
        · rw [if_pos z1]; rfl
        · rw [if_neg z1]
          by_cases z2 : (999 : Int32) < nI (s 0 0) + cl i 0
          · rw [if_pos z2]; rfl
          · rw [if_neg z2, Option.bind_some, if_neg n10, rOrd_PM pm pmr]
            rcases w1 with w | w | w
            · exact absurd w z1
            · exact absurd w z2
            · exact w
      unfold b_X9_read_32
      dsimp only
      rw [if_neg hck, if_pos rfl, e1, Option.bind_some, if_pos nIl0, letv_eq, ep, u1, Option.bind_some, v0, Option.bind_some, v1, Option.bind_some, v2, Option.bind_some, v3, Option.bind_some, ho, Option.bind_some, if_pos rfl]
  have rgood : ∀ mr : Mm, (∀ b, b < 4 ∨ 17 < b → b ≠ 0 → mr b = m b) → ∀ F2, iter (F2 + w) (b_X9_read_32 F mr (nI k) (nI la) (nI f) (nI n)) ((0, 0, 0) : Int32 × Int32 × Int32) = iter F2 (b_X9_read_32 F mr (nI k) (nI la) (nI f) (nI n)) (0, nI w, nI w) := fun mr hmr F2 =>
    iter_skip (S := fun i => ((0 : Int32), nI i, nI i)) w F2 (fun i hi => by
      obtain ⟨ht, ⟨z1, z2, z3, z4⟩, z5⟩ := c3 i hi
      obtain ⟨q4, e4, e5, -⟩ := rstep mr hmr i (by omega) ht
      rw [e4]
      exact (e5 z1 z2 z5).1 z4)
  have hcl3 : ∀ i, i < w → ∀ mr : Mm, mr 134 = m 134 → (letv ((((40 : Int32) * nI k) + nI f) + ((4 : Int32) * nI i)) fun x => (ald mr 134 160 x)) = some (cl i 0) ∧ (letv ((((40 : Int32) * nI k) + nI f) + ((4 : Int32) * nI i)) fun x => (ald mr 134 160 (x + 1))) = some (cl i 1) ∧ (letv ((((40 : Int32) * nI k) + nI f) + ((4 : Int32) * nI i)) fun x => (ald mr 134 160 (x + 2))) = some (cl i 2) ∧ (letv ((((40 : Int32) * nI k) + nI f) + ((4 : Int32) * nI i)) fun x => (ald mr 134 160 (x + 3))) = some (cl i 3) := by
    intro i hi mr hmr
    have hq := htc i (c3 i hi).1
    have ep : ((40 : Int32) * nI k + nI f) + (4 : Int32) * nI i = nI (40 * k + f + 4 * i) := by rw [show (40 : Int32) = nI 40 from rfl, show (4 : Int32) = nI 4 from rfl, pk_mul, pk_mul, nI_add, nI_add]
    have hcell : ∀ j, j < 4 → ald mr 134 160 (nI (40 * k + f + 4 * i + j)) = some (cl i j) := fun j hj => by
      rw [ald_n (by omega) (by decide), hmr, gcell i j (by omega)]
    rw [letv_eq, letv_eq, letv_eq, letv_eq, ep, nI_1, show nI (40 * k + f + 4 * i) + (2 : Int32) = nI (40 * k + f + 4 * i + 2) from nI_add _ 2, show nI (40 * k + f + 4 * i) + (3 : Int32) = nI (40 * k + f + 4 * i + 3) from nI_add _ 3]
    exact ⟨hcell 0 (by decide), hcell 1 (by decide), hcell 2 (by decide), hcell 3 (by decide)⟩
  obtain ⟨F2, hF2⟩ : ∃ F2, F = (F2 + 2) + w := ⟨F - 2 - w, by omega⟩
  have hun : ∀ b, b < 4 ∨ 17 < b → b ≠ 0 → m1 b = m b := fun b hb _ => c2.1 b hb
  rcases c4 with ⟨rfl, hw⟩ | ⟨hlt, ⟨rfl, hne⟩ | ⟨ht, ⟨rfl, hbad⟩ | ⟨rfl, w1, w2, w3, wz⟩⟩⟩
  · obtain ⟨m2, t1, t2⟩ := finA w 0 cl m1 c1 c2 (by omega) (fun j hj => (c3 j hj).2.1) (fun mr hmr => by
      have e := rgood mr hmr (F2 + 2)
      rw [← hF2] at e
      rw [e, iter]
      have e1 : b_X9_read_32 F mr (nI k) (nI la) (nI f) (nI n) (0, nI w, nI w) = some (Sum.inr (Sum.inr (Sum.inr (0, nI w)))) := by
        unfold b_X9_read_32
        dsimp only
        rw [hw, if_pos (Int32.le_refl _)]
      rw [e1]
      rfl) hcl3
    refine ⟨nI w, up2 m1 0 12 0, m2, ?_, t1, t2⟩
    rw [b1]
    rfl
  · have hτne : ¬ nI (tcN (nI la) l sz f w) = (0 : Int32) := nI_ne (b := 0) (by have := htc4 w; omega) (by decide) hne
    obtain ⟨m2, t1, t2⟩ := finA w (tcN (nI la) l sz f w) cl m1 c1 c2 (by omega) (fun j hj => (c3 j hj).2.1) (fun mr hmr => by
      have e := rgood mr hmr (F2 + 2)
      rw [← hF2] at e
      have hck : ¬ nI n ≤ nI w := nI_ge hlt (by omega)
      have h132 : mr 132 = m 132 := hmr 132 (by omega) (by decide)
      have h133 : mr 133 = m 133 := hmr 133 (by omega) (by decide)
      have e0 := m_tear (m := mr) (w := nI w) (a2 := nI la) (f := f) (i := w) hF hk hl hsz (by rw [h132]; exact g2) (by rw [h133]; exact g4) hf (by omega)
      have e1 : b_X9_read_32 F mr (nI k) (nI la) (nI f) (nI n) (0, nI w, nI w) = some (Sum.inl (nI (tcN (nI la) l sz f w), nI w, nI w + 1)) := by
        unfold b_X9_read_32
        dsimp only
        rw [if_neg hck, if_pos rfl, e0, Option.bind_some, if_neg hτne]
      have e2 : b_X9_read_32 F mr (nI k) (nI la) (nI f) (nI n) (nI (tcN (nI la) l sz f w), nI w, nI w + 1) = some (Sum.inr (Sum.inr (Sum.inr (nI (tcN (nI la) l sz f w), nI w)))) := by
        unfold b_X9_read_32
        dsimp only
        rw [if_neg hτne]
        split <;> rfl
      generalize b_X9_read_32 F mr (nI k) (nI la) (nI f) (nI n) = b at e e1 e2
      rw [e, iter, e1]
      show iter (F2 + 1) b _ = _
      rw [iter, e2]
      rfl) hcl3
    refine ⟨nI w, up2 m1 0 12 (nI (tcN (nI la) l sz f w)), m2, ?_, t1, t2⟩
    rw [b1]
    rfl
  · obtain ⟨i1, i2, i3, i4, i5⟩ := reK_I hI (by omega) hFI w (fun j hj => (c3 j hj).2.1)
    have hmx : ∀ b, b < 4 ∨ 17 < b → b ≠ 0 → up2 m1 10 0 (nI (s 6 0)) b = m b := fun b hb h0 => by rw [up2_ne (by omega), c2.1 b hb]
    refine ⟨-20 - nI w, up2 m1 10 0 (nI (s 6 0)), up2 m1 10 0 (nI (s 6 0)), ?_, ?_, ?_⟩
    · rw [b1]
      rfl
    · have e := rgood _ hmx (F2 + 2)
      rw [← hF2] at e
      obtain ⟨q4, e4, -, e6⟩ := rstep _ hmx w hlt ht
      rw [h, Option.bind_some, if_neg n10, h2, Option.bind_some, if_neg n10, e, iter, e4, e6 hbad]
      rfl
    · refine G_two hP hD hPD hp pc pm (Nat.le_succ c) gi gr gt gs go (SI_mono hI (by omega)) hFI (t := s) (fun j i hi => ?_) (RM_cell rm (hmx 114 (by omega) (by decide))) (GK_fr gk (fun _ _ => rfl) (by rw [hmx 34 (by omega) (by decide)]) (by rw [hmx 34 (by omega) (by decide)]) (by rw [hmx 34 (by omega) (by decide)]) (by rw [hmx 34 (by omega) (by decide)]) (hmx 37 (by omega) (by decide))) (m1 := up2 m1 10 0 (nI (s 6 0))) (fun b hb _ => by rw [up2_ne (by omega), c2.1 b hb]) FM.rf (s := s)
      have hj := cnS_lt hi
      by_cases e : j = 6
      · subst e
        have hi0 : i = 0 := by
          have : i < 1 := hi
          omega
        subst hi0
        rw [up2_same]
      · rw [up2_cell (by omega)]
        by_cases hj7 : j < 6
        · have hi2 : i < cnS p (rep (reK (nI (s 0 0)) cl) w s 6 0) j := by
            have : j = 0 ∨ j = 1 ∨ j = 2 ∨ j = 3 ∨ j = 4 ∨ j = 5 := by omega
            rcases this with rfl | rfl | rfl | rfl | rfl | rfl <;> exact hi
          rw [c1 j i hi2, i4 j (by omega)]
        · have hz6 : i < s 6 0 := by
            have : j = 7 ∨ j = 8 ∨ j = 9 ∨ j = 10 ∨ j = 11 ∨ j = 12 := by omega
            rcases this with rfl | rfl | rfl | rfl | rfl | rfl <;> exact hi
          have hi2 : i < cnS p (rep (reK (nI (s 0 0)) cl) w s 6 0) j := by
            have h9 : i < rep (reK (nI (s 0 0)) cl) w s 6 0 := by rw [i3]; omega
            have : j = 7 ∨ j = 8 ∨ j = 9 ∨ j = 10 ∨ j = 11 ∨ j = 12 := by omega
            rcases this with rfl | rfl | rfl | rfl | rfl | rfl <;> exact h9
          rw [c1 j i hi2, i5 j i e hz6]
  · obtain ⟨i1, i2, i3, i4, i5⟩ := reK_I hI (by omega) hFI w (fun j hj => (c3 j hj).2.1)
    have hmx : ∀ b, b < 4 ∨ 17 < b → b ≠ 0 → up2 m1 10 0 (nI (s 6 0)) b = m b := fun b hb h0 => by rw [up2_ne (by omega), c2.1 b hb]
    refine ⟨-3, up2 m1 10 0 (nI (s 6 0)), up2 m1 10 0 (nI (s 6 0)), ?_, ?_, ?_⟩
    · rw [b1]
      rfl
    · have e := rgood _ hmx (F2 + 2)
      rw [← hF2] at e
      obtain ⟨q4, e4, e5, -⟩ := rstep _ hmx w hlt ht
      rw [h, Option.bind_some, if_neg n10, h2, Option.bind_some, if_neg n10, e, iter, e4, (e5 w1 w2 w3).2 wz]
      rfl
    · refine G_two hP hD hPD hp pc pm (Nat.le_succ c) gi gr gt gs go (SI_mono hI (by omega)) hFI (t := s) (fun j i hi => ?_) (RM_cell rm (hmx 114 (by omega) (by decide))) (GK_fr gk (fun _ _ => rfl) (by rw [hmx 34 (by omega) (by decide)]) (by rw [hmx 34 (by omega) (by decide)]) (by rw [hmx 34 (by omega) (by decide)]) (by rw [hmx 34 (by omega) (by decide)]) (hmx 37 (by omega) (by decide))) (m1 := up2 m1 10 0 (nI (s 6 0))) (fun b hb _ => by rw [up2_ne (by omega), c2.1 b hb]) FM.rf (s := s)
      have hj := cnS_lt hi
      by_cases e : j = 6
      · subst e
        have hi0 : i = 0 := by
          have : i < 1 := hi
          omega
        subst hi0
        rw [up2_same]
      · rw [up2_cell (by omega)]
        by_cases hj7 : j < 6
        · have hi2 : i < cnS p (rep (reK (nI (s 0 0)) cl) w s 6 0) j := by
            have : j = 0 ∨ j = 1 ∨ j = 2 ∨ j = 3 ∨ j = 4 ∨ j = 5 := by omega
            rcases this with rfl | rfl | rfl | rfl | rfl | rfl <;> exact hi
          rw [c1 j i hi2, i4 j (by omega)]
        · have hz6 : i < s 6 0 := by
            have : j = 7 ∨ j = 8 ∨ j = 9 ∨ j = 10 ∨ j = 11 ∨ j = 12 := by omega
            rcases this with rfl | rfl | rfl | rfl | rfl | rfl <;> exact hi
          have hi2 : i < cnS p (rep (reK (nI (s 0 0)) cl) w s 6 0) j := by
            have h9 : i < rep (reK (nI (s 0 0)) cl) w s 6 0 := by rw [i3]; omega
            have : j = 7 ∨ j = 8 ∨ j = 9 ∨ j = 10 ∨ j = 11 ∨ j = 12 := by omega
            rcases this with rfl | rfl | rfl | rfl | rfl | rfl <;> exact h9
          rw [c1 j i hi2, i5 j i e hz6]

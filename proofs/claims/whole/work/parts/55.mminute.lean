/-! the reference's water and minute -/
theorem m_holes {p s : AS} {m : Mm} {B F : Nat} (hp : PW p) (hB : B ≤ 384) (hP : PM p m) (hR : RM p s m B) (hw : SW p s) (hf : SF p s) (hF : 100 < F) : ∃ m', iter F (b_X9_waterGoes_2 (nI B)) ((0, m) : Int32 × Mm) = some m' ∧ RM p (rep (holeS p) (p 0 2) s) m' B ∧ FM B m m' ∧ (SW p (rep (holeS p) (p 0 2) s) ∧ Wo s (rep (holeS p) (p 0 2) s)) := by
  obtain ⟨⟨l1, l2, l3, l4⟩, ph, pd, pl, pp, pr⟩ := id hp
  exact m_loop (F := F) (n := p 0 2) (f := holeS p) (I := fun t => SW p t ∧ Wo s t) (b := b_X9_waterGoes_2 (nI B)) (g := fun m => m) (by omega) hP hR ⟨hw, Wo.rf⟩ (by
    intro i t m1 hi ⟨ht, ht2⟩ hP1 hR1
    have hft := SF_Wo hf ht2
    have hz := hft.1
    have a1 := (pl i hi).1
    have hc : ¬ nI (p 0 2) ≤ nI i := nI_ge hi (by omega)
    have hc' : ¬ m1 113 6 ≤ nI i := by rw [pm_3 hP1]; exact hc
    have e1 : ald m1 118 12 (3 * nI i) = some (nI (p 11 i)) := pm_l hp.1 hP1 i 0 hi (by decide) (ixm 3 i)
    have e2 : ald m1 114 512 (nI B + 0 + nI (p 11 i)) = some (nI (t 1 (p 11 i))) := M_ld hR1 hp.1 hz hB 1 _ a1 (ix2 B 0 _)
    have e3 := m_comes hp hB hP1 hz hR1 ht (hft.2.2.2.1 i hi) hi
    obtain ⟨m2, g1, g2, g3⟩ := M_st hR1 hp.1 hz hB 1 (p 11 i) (t 1 (p 11 i) + come p t i) (by decide) (by show p 11 i < 8; omega) (by decide) (x := nI B + 0 + nI (p 11 i)) (v := nI (t 1 (p 11 i)) + nI (come p t i)) (ix2 B 0 _) (nI_add _ _)
    refine ⟨m2, ?_, g2, g3, (holeS_w ht a1).1, ht2.tr (holeS_w ht a1).2⟩
    unfold b_X9_waterGoes_2
    dsimp only
    rw [if_neg hc', e1, Option.bind_some, e2, Option.bind_some, e3, Option.bind_some, g1, Option.bind_some, nI_1]) (by
    intro t m1 _ hP1 hR1
    have hc' : m1 113 6 ≤ nI (p 0 2) := by rw [pm_3 hP1]; exact Int32.le_refl _
    unfold b_X9_waterGoes_2
    dsimp only
    rw [if_pos hc'])
theorem m_valves {p s : AS} {m : Mm} {B F : Nat} (hp : PW p) (hB : B ≤ 384) (hP : PM p m) (hR : RM p s m B) (hw : SW p s) (hf : SF p s) (hF : 100 < F) : ∃ m', iter F (b_X9_waterGoes_44 (nI B)) ((0, m) : Int32 × Mm) = some m' ∧ RM p (rep (valvS p) (p 0 0) s) m' B ∧ FM B m m' ∧ (SW p (rep (valvS p) (p 0 0) s) ∧ Wo s (rep (valvS p) (p 0 0) s)) := by
  obtain ⟨⟨l1, l2, l3, l4⟩, ph, pd, pl, pp, pr⟩ := id hp
  exact m_loop (F := F) (n := p 0 0) (f := valvS p) (I := fun t => SW p t ∧ Wo s t) (b := b_X9_waterGoes_44 (nI B)) (g := fun m => m) (by omega) hP hR ⟨hw, Wo.rf⟩ (by
    intro i t m1 hi ⟨ht, ht2⟩ hP1 hR1
    have hft := SF_Wo hf ht2
    have hz := hft.1
    have hv := hft.2.1 i hi
    have hwi := ht i hi
    have hti := ph i hi
    have hc' : ¬ m1 113 2 ≤ nI i := by rw [pm_1 hP1]; exact nI_ge hi (by omega)
    have e1 : ald m1 114 512 (nI B + 8 + nI i) = some (nI (t 2 i)) := M_ld hR1 hp.1 hz hB 2 i hi (ix2 B 8 i)
    have e2 : ald m1 114 512 (nI B + 0 + nI i) = some (nI (t 1 i)) := M_ld hR1 hp.1 hz hB 1 i hi (ix2 B 0 i)
    have e3 := m_room hp hB hP1 hz hR1 ht hi
    have hw2 := valvS_w ht hi
    have key : ∀ y w : Nat, (if nI (p 1 i - t 1 i) ≤ nI y then (some (nI (p 1 i - t 1 i)) : Option Int32) else some (nI y)) = some (nI w) → ∃ m2, (ast m1 114 512 (nI B + 0 + nI i) (nI (t 1 i) + nI w)) = some m2 ∧ RM p (u3 t 1 i (t 1 i + w)) m2 B ∧ FM B m1 m2 := fun y w _ => M_st hR1 hp.1 hz hB 1 i (t 1 i + w) (by decide) (by show i < 8; omega) (by decide) (x := nI B + 0 + nI i) (v := nI (t 1 i) + nI w) (ix2 B 0 _) (nI_add _ _)
    have run : ∀ y w : Nat, (if nI (t 2 i) = (1 : Int32) then (some 5 : Option Int32) else some 0) = some (nI y) → (if nI (p 1 i - t 1 i) ≤ nI y then (some (nI (p 1 i - t 1 i)) : Option Int32) else some (nI y)) = some (nI w) → u3 t 1 i (t 1 i + w) = valvS p i t → ∃ m2, b_X9_waterGoes_44 (nI B) (nI i, m1) = some (Sum.inl (nI (i + 1), m2)) ∧ RM p (valvS p i t) m2 B ∧ FM B m1 m2 ∧ (SW p (valvS p i t) ∧ Wo s (valvS p i t)) := by
      intro y w hy hyw hv3
      obtain ⟨m2, g1, g2, g3⟩ := key y w hyw
      refine ⟨m2, ?_, by rw [← hv3]; exact g2, g3, hw2.1, ht2.tr hw2.2⟩
      have hyw' : (if nI (p 1 i - t 1 i) ≤ nI y then ((some (nI (p 1 i - t 1 i))).bind fun x16 => some x16) else (some (nI y)) : Option (Int32)) = some (nI w) := hyw
      unfold b_X9_waterGoes_44
      dsimp only
      rw [if_neg hc', e1, Option.bind_some, hy, Option.bind_some, e2, Option.bind_some, e3, Option.bind_some, hyw', Option.bind_some, g1, Option.bind_some, nI_1]
    by_cases q : t 2 i = 1
    · have k1 : nI (t 2 i) = (1 : Int32) := by rw [q]; rfl
      by_cases q2 : p 1 i - t 1 i ≤ 5
      · refine run 5 (p 1 i - t 1 i) (by rw [if_pos k1]; rfl) (by rw [if_pos (nI_le q2 (by omega))]) ?_
        rw [valvS, if_pos q, if_pos q2, Nat.add_sub_cancel' hwi]
      · refine run 5 5 (by rw [if_pos k1]; rfl) (by rw [if_neg (nI_ge (by omega) (by omega))]) ?_
        rw [valvS, if_pos q, if_neg q2]
    · have k1 : ¬ nI (t 2 i) = (1 : Int32) := nI_ne (b := 1) (by omega) (by decide) q
      refine run 0 0 (by rw [if_neg k1]; rfl) ?_ ?_
      · by_cases q2 : p 1 i - t 1 i = 0
        · rw [q2, if_pos (nI_le (Nat.le_refl _) (by omega))]
        · rw [if_neg (nI_ge (by omega) (by omega))]
      · rw [valvS, if_neg q, u3_id (by omega)]) (by
    intro t m1 _ hP1 hR1
    have hc' : m1 113 2 ≤ nI (p 0 0) := by rw [pm_1 hP1]; exact Int32.le_refl _
    unfold b_X9_waterGoes_44
    dsimp only
    rw [if_pos hc'])
theorem m_doors {p s : AS} {m : Mm} {B F : Nat} (hp : PW p) (hB : B ≤ 384) (hP : PM p m) (hR : RM p s m B) (hw : SW p s) (hf : SF p s) (hF : 100 < F) : ∃ m', iter F (b_X9_waterGoes_114 F (nI B)) ((0, m) : Int32 × Mm) = some m' ∧ RM p (rep (doorS p) (p 0 1) s) m' B ∧ FM B m m' ∧ (SW p (rep (doorS p) (p 0 1) s) ∧ Wo s (rep (doorS p) (p 0 1) s)) := by
  obtain ⟨⟨l1, l2, l3, l4⟩, ph, pd, pl, pp, pr⟩ := id hp
  exact m_loop (F := F) (n := p 0 1) (f := doorS p) (I := fun t => SW p t ∧ Wo s t) (b := b_X9_waterGoes_114 F (nI B)) (g := fun m => m) (by omega) hP hR ⟨hw, Wo.rf⟩ (by
    intro d t m1 hd ⟨ht, ht2⟩ hP1 hR1
    have hft := SF_Wo hf ht2
    have hz := hft.1
    obtain ⟨a1, a2, a3, a4, a5, a6, a7, a8, a9⟩ := pd d hd
    have ho := hft.2.2.1 d hd
    have hw2 := doorS_w hp hd ht
    have hc' : ¬ m1 113 4 ≤ nI d := by rw [pm_2 hP1]; exact nI_ge hd (by omega)
    obtain ⟨m2, h1, h2, h3⟩ : ∃ m2, iter F (b_X9_waterGoes_124 (nI B) (nI d, m1)) ((0, m1) : Int32 × Mm) = some m2 ∧ RM p (doorS p d t) m2 B ∧ FM B m1 m2 := by
      have rate : ∀ m3, PM p m3 → ald m3 117 60 (6 * nI d + 3) = some (nI (p 8 d)) := fun m3 h3 => pm_d hp.1 h3 d 3 hd (by decide) (ixm1 6 d 3)
      have op : ∀ u m3, u 6 0 ≤ 12 → RM p u m3 B → ald m3 114 512 (nI B + 16 + nI d) = some (nI (u 3 d)) := fun u m3 hz3 h3 => M_ld h3 hp.1 hz3 hB 3 d hd (ix2 B 16 d)
      by_cases q : t 3 d = 1
      · have hst : doorS p d t = rep (fun _ => tonS p d) (p 8 d) t := by rw [doorS, if_pos q]
        rw [hst]
        obtain ⟨m2, g1, g2, g3, g4⟩ := m_loop (F := F) (n := p 8 d) (f := fun _ => tonS p d) (I := fun u => SW p u ∧ Wo t u) (b := b_X9_waterGoes_124 (nI B) (nI d, m1)) (g := fun m => m) (by omega) hP1 hR1 ⟨ht, Wo.rf⟩ (by
          intro i u m3 hi ⟨hu, hu2⟩ hP3 hR3
          have hz3 : u 6 0 ≤ 12 := by rw [hu2 6 (by decide)]; exact hz
          obtain ⟨m4, g1, g2, g3⟩ := m_ton hp hB hP3 hz3 hR3 hu hd
          have hw4 := tonS_w hp hd hu
          refine ⟨m4, ?_, g2, g3, hw4.1, hu2.tr hw4.2⟩
          have k1 : nI (u 3 d) = (1 : Int32) := by rw [hu2 3 (by decide), q]; rfl
          have k2 : ¬ nI (p 8 d) ≤ nI i := nI_ge hi (by omega)
          unfold b_X9_waterGoes_124
          dsimp only
          rw [rate m3 hP3, Option.bind_some, if_neg k2, op u m3 hz3 hR3, Option.bind_some, if_pos k1, g1, Option.bind_some, nI_1]) (by
          intro u m3 ⟨hu, hu2⟩ hP3 hR3
          unfold b_X9_waterGoes_124
          dsimp only
          rw [rate m3 hP3, Option.bind_some, if_pos (Int32.le_refl _)])
        exact ⟨m2, g1, g2, g3⟩
      · have hst : doorS p d t = t := by rw [doorS, if_neg q]
        rw [hst]
        refine ⟨m1, ?_, hR1, FM.rf⟩
        have k1 : ¬ nI (t 3 d) = (1 : Int32) := nI_ne (b := 1) (by omega) (by decide) q
        have k2 : ¬ nI (p 8 d) ≤ (0 : Int32) := nI_nle (by omega) (by omega)
        cases F with
        | zero => omega
        | succ F =>
          rw [iter]
          have : b_X9_waterGoes_124 (nI B) (nI d, m1) (0, m1) = some (Sum.inr m1) := by
            unfold b_X9_waterGoes_124
            dsimp only
            rw [rate m1 hP1, Option.bind_some, if_neg k2, op t m1 hz hR1, Option.bind_some, if_neg k1]
          rw [this]
          rfl
    refine ⟨m2, ?_, h2, h3, hw2.1, ht2.tr hw2.2⟩
    unfold b_X9_waterGoes_114
    dsimp only
    rw [if_neg hc', h1, Option.bind_some, nI_1]) (by
    intro t m1 _ hP1 hR1
    have hc' : m1 113 4 ≤ nI (p 0 1) := by rw [pm_2 hP1]; exact Int32.le_refl _
    unfold b_X9_waterGoes_114
    dsimp only
    rw [if_pos hc'])
theorem m_pumps {p s : AS} {m : Mm} {B F : Nat} (hp : PW p) (hB : B ≤ 384) (hP : PM p m) (hR : RM p s m B) (hw : SW p s) (hf : SF p s) (hF : 100 < F) : ∃ m', iter F (b_X9_waterGoes_174 (nI B)) ((0, m) : Int32 × Mm) = some m' ∧ RM p (rep (pumpS p) (p 0 3) s) m' B ∧ FM B m m' ∧ (SW p (rep (pumpS p) (p 0 3) s) ∧ Wo s (rep (pumpS p) (p 0 3) s)) := by
  obtain ⟨⟨l1, l2, l3, l4⟩, ph, pd, pl, pp, pr⟩ := id hp
  exact m_loop (F := F) (n := p 0 3) (f := pumpS p) (I := fun t => SW p t ∧ Wo s t) (b := b_X9_waterGoes_174 (nI B)) (g := fun m => m) (by omega) hP hR ⟨hw, Wo.rf⟩ (by
    intro i t m1 hi ⟨ht, ht2⟩ hP1 hR1
    have hft := SF_Wo hf ht2
    have hz := hft.1
    have hv := hft.2.2.2.2 i hi
    have hw2 := pumpS_w (k := i) ht
    obtain ⟨q1, q2, q3⟩ := pp i hi
    have hc' : ¬ m1 113 8 ≤ nI i := by rw [pm_4 hP1]; exact nI_ge hi (by omega)
    have e1 : ald m1 114 512 (nI B + 44 + nI i) = some (nI (t 5 i)) := M_ld hR1 hp.1 hz hB 5 i hi (ix2 B 44 i)
    have e2 : ald m1 119 6 (2 * nI i) = some (nI (p 14 i)) := pm_p hp.1 hP1 i 0 hi (by decide) (ixm 2 i)
    by_cases hv1 : t 5 i < p 0 0
    · have hwi := ht _ hv1
      have hti := ph _ hv1
      have e3 : ald m1 114 512 (nI B + 0 + nI (t 5 i)) = some (nI (t 1 (t 5 i))) := M_ld hR1 hp.1 hz hB 1 _ hv1 (ix2 B 0 _)
      obtain ⟨m2, g1, g2, g3⟩ := M_st hR1 hp.1 hz hB 1 (t 5 i) (t 1 (t 5 i) - p 14 i) (by decide) (by show t 5 i < 8; omega) (by decide) (x := nI B + 0 + nI (t 5 i)) (ix2 B 0 _) rfl
      have hv2 : pumpS p i t = u3 t 1 (t 5 i) (t 1 (t 5 i) - p 14 i) := by rw [pumpS, if_pos hv1]
      rw [hv2] at hw2 ⊢
      refine ⟨m2, ?_, g2, g3, hw2.1, ht2.tr hw2.2⟩
      have e5 : (if (0 : Int32) ≤ nI (t 1 (t 5 i)) - nI (p 14 i) then some (nI (t 1 (t 5 i)) - nI (p 14 i)) else some 0) = some (nI (t 1 (t 5 i) - p 14 i)) := by
        by_cases q : p 14 i ≤ t 1 (t 5 i)
        · rw [pk_sub q, if_pos (nI_pos' (by omega))]
        · have h0 : t 1 (t 5 i) - p 14 i = 0 := by omega
          have := pk_sneg (a := t 1 (t 5 i)) (b := p 14 i) (by omega) (by omega)
          rw [if_neg (Int32.not_le.mpr this), h0]; rfl
      have k1 : ¬ nI (t 5 i) = (-4 : Int32) := by
        rw [← nI_NN]
        exact nI_ne (by omega) (by omega) (by omega)
      unfold b_X9_waterGoes_174
      dsimp only
      rw [if_neg hc', e1, Option.bind_some, if_neg k1, e3, Option.bind_some, e2, Option.bind_some, letv_eq, e5, Option.bind_some, g1, Option.bind_some, Option.bind_some, nI_1]
    · have hv2 : pumpS p i t = t := by rw [pumpS, if_neg hv1]
      rw [hv2]
      refine ⟨m1, ?_, hR1, FM.rf, ht, ht2⟩
      have k1 : nI (t 5 i) = (-4 : Int32) := by
        rcases hv with q | q
        · exact absurd q hv1
        · rw [q, nI_NN]
      unfold b_X9_waterGoes_174
      dsimp only
      rw [if_neg hc', e1, Option.bind_some, if_pos k1, Option.bind_some, nI_1]) (by
    intro t m1 _ hP1 hR1
    have hc' : m1 113 8 ≤ nI (p 0 3) := by rw [pm_4 hP1]; exact Int32.le_refl _
    unfold b_X9_waterGoes_174
    dsimp only
    rw [if_pos hc'])
theorem m_water {p s : AS} {m : Mm} {B F : Nat} (hp : PW p) (hB : B ≤ 384) (hP : PM p m) (hR : RM p s m B) (hw : SW p s) (hf : SF p s) (hF : 100 < F) : ∃ m', f_X9_waterGoes F m (nI B) = some m' ∧ RM p (waterS p s) m' B ∧ FM B m m' := by
  obtain ⟨m1, a1, a2, a3, a4, a5⟩ := m_holes hp hB hP hR hw hf hF
  obtain ⟨m2, b1, b2, b3, b4, b5⟩ := m_valves hp hB (PM_FM (B := B) hP a3.1) a2 a4 (SF_Wo hf a5) hF
  obtain ⟨m3, c1, c2, c3, c4, c5⟩ := m_doors hp hB (PM_FM (B := B) hP (a3.tr b3).1) b2 b4 (SF_Wo hf (a5.tr b5)) hF
  obtain ⟨m4, d1, d2, d3, d4, d5⟩ := m_pumps hp hB (PM_FM (B := B) hP (a3.tr (b3.tr c3)).1) c2 c4 (SF_Wo hf (a5.tr (b5.tr c5))) hF
  refine ⟨m4, ?_, d2, a3.tr (b3.tr (c3.tr d3))⟩
  unfold f_X9_waterGoes
  rw [a1, Option.bind_some, b1, Option.bind_some, c1, Option.bind_some, d1]
  rfl
theorem m_minute {p s : AS} {m : Mm} {B F M : Nat} (hp : PW p) (hM : M ≤ 2 ^ 20) (hB : B ≤ 384) (hP : PM p m) (hI : SI p M s) (hR : RM p s m B) (hF : 100 < F) : ∃ m', f_X9_aMinute F m (nI B) = some m' ∧ RM p (minS p s) m' B ∧ FM B m m' := by
  obtain ⟨hw, ho, hy⟩ := id hI
  have hz := ho.1
  have h01 := hy.1
  have e1 : ald m 114 512 (nI B + 72) = some (nI (s 0 1)) := M_ld hR hp.1 hz hB 0 1 (by show 1 < 3; decide) (ix1 B 72)
  by_cases q : s 0 1 = 0
  · obtain ⟨m1, a1, a2, a3, k1, k2, k3, k4⟩ := m_orders hp hM hB hP ho hR hF
    have hw1 : SW p (ordS p s) := by unfold SW; rw [k3]; exact hw
    obtain ⟨m2, b1, b2, b3⟩ := m_water hp hB (PM_FM (B := B) hP a3.1) a2 hw1 (SF_SO k1) hF
    obtain ⟨w1, w2⟩ := waterS_w hp hw1
    have hz2 : waterS p (ordS p s) 6 0 ≤ 12 := by rw [w2 6 (by decide)]; exact k1.1
    have e2 : ald m2 114 512 (nI B + 71) = some (nI (s 0 0)) := (M_ld b2 hp.1 hz2 hB 0 0 (by show 0 < 3; decide) (ix1 B 71)).trans (by rw [w2 0 (by decide), k2])
    obtain ⟨m3, c1, c2, c3⟩ := M_st b2 hp.1 hz2 hB 0 0 (s 0 0 + 1) (by decide) (by decide) (by decide) (x := nI B + 71) (v := nI (s 0 0) + 1) (ix1 B 71) (nI_1 _)
    have ho3 : SO p (M + 1) (u3 (waterS p (ordS p s)) 0 0 (s 0 0 + 1)) := SO_of k1 (fun a ha => by rw [u3_r (by omega), w2 a (by omega)]) (by rw [u3_same]; have := ho.2.2.2.2.2.2.2; omega)
    have h03 : u3 (waterS p (ordS p s)) 0 0 (s 0 0 + 1) 0 1 = 0 := by rw [u3_i (by decide), w2 0 (by decide), k2]; exact q
    obtain ⟨m4, d1, d2, d3⟩ := m_sees hp hB (PM_FM (B := B) hP (a3.tr (b3.tr c3)).1) ho3 c2 hF h03
    refine ⟨m4, ?_, by rw [minS, if_pos q]; exact d2, a3.tr (b3.tr (c3.tr d3))⟩
    have k0 : nI (s 0 1) ≤ (0 : Int32) := by rw [q]; decide
    unfold f_X9_aMinute
    rw [e1, Option.bind_some, if_pos k0, a1, Option.bind_some, b1, Option.bind_some, e2, Option.bind_some, c1, Option.bind_some, d1]
    rfl
  · have e2 : ald m 114 512 (nI B + 71) = some (nI (s 0 0)) := M_ld hR hp.1 hz hB 0 0 (by show 0 < 3; decide) (ix1 B 71)
    obtain ⟨m3, c1, c2, c3⟩ := M_st hR hp.1 hz hB 0 0 (s 0 0 + 1) (by decide) (by decide) (by decide) (x := nI B + 71) (v := nI (s 0 0) + 1) (ix1 B 71) (nI_1 _)
    refine ⟨m3, ?_, by rw [minS, if_neg q]; exact c2, c3⟩
    have k0 := nI_le0 (a := s 0 1) (by omega) q
    unfold f_X9_aMinute
    rw [e1, Option.bind_some, if_neg k0, e2, Option.bind_some, c1]
    rfl

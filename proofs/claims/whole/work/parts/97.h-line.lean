/-! text: a line, in both -/
theorem SS_mono {n : Nat} {bs : Nat → Nat} {q q' : Nat} {mc mr : Mm} (h : SSt n bs q mc mr) (hq : q' ≤ q) : SSt n bs q' mc mr := SS_fr h hq (fun _ _ => rfl) rfl (fun _ _ _ => rfl) rfl
theorem rl_flt {F : Nat} {y1 : Int32} {m : Mm} (h : ¬ m 113 27 = 0) (h2 : ¬ m 113 27 ≤ 0) : rlB y1 m (fun y23 => (f_X9_next F y23).bind (rlT F y1)) = some m := by
  rw [rlB_F h, m_nxF h2, Option.bind_some, rlT_F h2]
theorem DR_m {D : Nat} {p : AS} {mc mr mr' : Mm} (h : DRt D p mc mr) (hf : FRm mr mr') : DRt D p mc mr' := ⟨h.1, h.2.1, DM_FRm h.2.2.1 hf, fun r hr => by rw [hf.1 126 (by decide)]; exact h.2.2.2 r hr⟩
theorem aHold_F {F : Nat} {m : Mm} (h : ¬ m 113 27 = 0) (h2 : ¬ m 113 27 ≤ 0) : (f_X9_aHold F m).bind (sgM F) = some m := by
  unfold f_X9_aHold
  rw [letv_eq, m_rnF h h2, bind2_some, m_rnF h h2, bind2_some, m_rnF h h2, bind2_some, m_rnF h h2, bind2_some, if_neg h, Option.bind_some, sgM_F h h2]
theorem aHole_F {F : Nat} {m : Mm} (h : ¬ m 113 27 = 0) (h2 : ¬ m 113 27 ≤ 0) : (f_X9_aHole F m).bind (sgM F) = some m := by
  unfold f_X9_aHole
  rw [rdH_eq, m_rnF h h2, bind2_some, m_rnF h h2, bind2_some, m_rnF h h2, bind2_some, if_neg h, Option.bind_some, sgM_F h h2]
theorem aPump_F {F : Nat} {m : Mm} (h : ¬ m 113 27 = 0) (h2 : ¬ m 113 27 ≤ 0) : (f_X9_aPump F m).bind (sgM F) = some m := by
  unfold f_X9_aPump
  rw [m_rnF h h2, bind2_some, rdH_eq, m_rnF h h2, bind2_some, if_neg h, Option.bind_some, sgM_F h h2]
theorem aDoor_F {F : Nat} {m : Mm} (h : ¬ m 113 27 = 0) (h2 : ¬ m 113 27 ≤ 0) : (f_X9_aDoor F m).bind (sgM F) = some m := by
  unfold f_X9_aDoor
  rw [letv_eq, rdH_eq, m_rnF h h2, bind2_some, m_inF h, Option.bind_some, letv_eq, if_neg h, Option.bind_some, m_nxF h2, Option.bind_some, m_rnF h h2, bind2_some, m_rnF h h2, bind2_some, m_rnF h h2, bind2_some, if_neg h, Option.bind_some, if_pos rfl, Option.bind_some, if_neg h, Option.bind_some, sgM_F h h2]
theorem zl_hold {n : Nat} {bs : Nat → Nat} {mc mr : Mm} {F q D f e : Nat} {p : AS} (hF : 5000 ≤ F) (hn : n ≤ 400) (hb : ∀ i, i < n → bs i < 256) (hD : isPl D) (hA : ATt n bs q f 2 e mc mr) (dr : DRt D p mc mr) (hnm : f_X9_nameNow mr = some 10) : ∃ mc' mr', f_X2_takeHold F mc D = some mc' ∧ f_X9_readLine F mr = some mr' ∧ FZc D mc mc' ∧ FZm mr mr' ∧ ((SSt n bs (q + 1) mc' mr' ∧ ∃ p', DRt D p' mc' mr') ∨ FAt n bs mc' mr') := by
  obtain ⟨⟨l1, l2, l3, l4⟩, -⟩ := id dr.1
  have z27 := AT_m hA
  obtain ⟨⟨pos, h1, hC⟩, h0, hw, hM⟩ := id hA
  have h25 : mr 113 25 = (1 : Int32) := hM.2.2.1
  have k0 : mc D 0 = nI (p 0 0) := dr.2.1 0 0 (show 0 < 4 by decide)
  have r0 : mr 113 11 = nI (p 0 0) := dr.2.2.1.1
  have hl : f_X9_readLine F mr = rlA 10 mr fun m22 => rlB 10 m22 fun y23 => (f_X9_next F y23).bind (rlT F 10) := by
    rw [rl_eq, if_pos h25, hnm, Option.bind_some, Option.bind_some]
  by_cases q0 : p 0 0 < 8
  · have g8 : ¬ (8 : Int32) ≤ mr 113 11 := by rw [r0]; exact nI_ge (b := 8) q0 (by decide)
    obtain ⟨m30, d1, d2, d3⟩ := zt_adv (F := F) hF hn hb hA (by decide)
    rw [rlA_10, if_neg g8, rlB_x (by decide), d1, Option.bind_some, rlT_10] at hl
    obtain ⟨mc', mr', j1, j2, j3, j4, j5⟩ := zt_hold (F := F) hF hn hb hD d3 (DR_m dr d2) q0
    rcases SS_m d3 with z | ⟨z, z2⟩
    · have z2 : m30 113 27 ≤ 0 := by rw [z]; exact Int32.le_refl _
      rw [if_pos z2, j2] at hl
      exact ⟨mc', mr', j1, hl, j3, (FZm.rf.fr d2).tr j4, j5.imp (fun w => ⟨SS_mono w.2.1 (by omega), w.2.2⟩) id⟩
    · rw [if_neg z2] at hl
      rw [aHold_F z z2] at j2
      obtain rfl := Option.some.inj j2
      exact ⟨mc', _, j1, hl, j3, FZm.rf.fr d2, j5.imp (fun w => absurd w.1 z) id⟩
  · have g8 : (8 : Int32) ≤ mr 113 11 := by rw [r0]; exact nI_le (a := 8) (by omega) (by omega)
    have nd := m_need (m := mr) (a := 0) (v := 5) z27
    rw [if_pos rfl] at nd
    have u27 : up2 (up2 mr 113 27 5) 113 28 (mr 113 24) 113 27 = 5 := by rw [up2_slot (by decide), up2_same]
    rw [rlA_10, if_pos g8, nd, Option.bind_some, rl_flt (by rw [u27]; decide) (by rw [u27]; decide)] at hl
    refine ⟨up2 (up2 mc 1 3 5) 1 4 (mc 1 7), _, ?_, hl, FZc.rf.fr ((FRc.rf.up (by omega)).up (by omega)), FZm.rf.fr ((FRm.rf.up (by omega)).up (by omega)), Or.inr (FA_mk (v := 5) hC (by decide) (by decide) u27 (by rw [up2_same]; exact hM.2.1))⟩
    have n8 : ¬ nI (p 0 0) < (8 : Int32) := nI_nlt (b := 8) (by omega) (by omega)
    unfold f_X2_takeHold
    rw [letv_eq, k0, if_neg n8, c_refuse, if_pos h0, Option.bind_some]
theorem zl_door {n : Nat} {bs : Nat → Nat} {mc mr : Mm} {F q D f e : Nat} {p : AS} (hF : 5000 ≤ F) (hn : n ≤ 400) (hb : ∀ i, i < n → bs i < 256) (hD : isPl D) (hA : ATt n bs q f 2 e mc mr) (dr : DRt D p mc mr) (hnm : f_X9_nameNow mr = some 11) : ∃ mc' mr', f_X2_takeDoor F mc D = some mc' ∧ f_X9_readLine F mr = some mr' ∧ FZc D mc mc' ∧ FZm mr mr' ∧ ((SSt n bs (q + 1) mc' mr' ∧ ∃ p', DRt D p' mc' mr') ∨ FAt n bs mc' mr') := by
  obtain ⟨⟨l1, l2, l3, l4⟩, -⟩ := id dr.1
  have z27 := AT_m hA
  obtain ⟨⟨pos, h1, hC⟩, h0, hw, hM⟩ := id hA
  have h25 : mr 113 25 = (1 : Int32) := hM.2.2.1
  have k0 : mc D 1 = nI (p 0 1) := dr.2.1 0 1 (show 1 < 4 by decide)
  have r0 : mr 113 13 = nI (p 0 1) := dr.2.2.1.2.1
  have hl : f_X9_readLine F mr = rlA 11 mr fun m22 => rlB 11 m22 fun y23 => (f_X9_next F y23).bind (rlT F 11) := by
    rw [rl_eq, if_pos h25, hnm, Option.bind_some, Option.bind_some]
  by_cases q0 : p 0 1 < 10
  · have g8 : ¬ (10 : Int32) ≤ mr 113 13 := by rw [r0]; exact nI_ge (b := 10) q0 (by decide)
    obtain ⟨m30, d1, d2, d3⟩ := zt_adv (F := F) hF hn hb hA (by decide)
    rw [rlA_11, if_neg g8, rlB_x (by decide), d1, Option.bind_some, rlT_11] at hl
    obtain ⟨mc', mr', j1, j2, j3, j4, j5⟩ := zt_door (F := F) hF hn hb hD d3 (DR_m dr d2) q0
    rcases SS_m d3 with z | ⟨z, z2⟩
    · have z2 : m30 113 27 ≤ 0 := by rw [z]; exact Int32.le_refl _
      rw [if_pos z2, j2] at hl
      exact ⟨mc', mr', j1, hl, j3, (FZm.rf.fr d2).tr j4, j5.imp (fun w => ⟨SS_mono w.2.1 (by omega), w.2.2⟩) id⟩
    · rw [if_neg z2] at hl
      rw [aDoor_F z z2] at j2
      obtain rfl := Option.some.inj j2
      exact ⟨mc', _, j1, hl, j3, FZm.rf.fr d2, j5.imp (fun w => absurd w.1 z) id⟩
  · have g8 : (10 : Int32) ≤ mr 113 13 := by rw [r0]; exact nI_le (a := 10) (by omega) (by omega)
    have nd := m_need (m := mr) (a := 0) (v := 5) z27
    rw [if_pos rfl] at nd
    have u27 : up2 (up2 mr 113 27 5) 113 28 (mr 113 24) 113 27 = 5 := by rw [up2_slot (by decide), up2_same]
    rw [rlA_11, if_pos g8, nd, Option.bind_some, rl_flt (by rw [u27]; decide) (by rw [u27]; decide)] at hl
    refine ⟨up2 (up2 mc 1 3 5) 1 4 (mc 1 7), _, ?_, hl, FZc.rf.fr ((FRc.rf.up (by omega)).up (by omega)), FZm.rf.fr ((FRm.rf.up (by omega)).up (by omega)), Or.inr (FA_mk (v := 5) hC (by decide) (by decide) u27 (by rw [up2_same]; exact hM.2.1))⟩
    have n8 : ¬ nI (p 0 1) < (10 : Int32) := nI_nlt (b := 10) (by omega) (by omega)
    unfold f_X2_takeDoor
    rw [letv_eq, k0, if_neg n8, c_refuse, if_pos h0, Option.bind_some]
theorem zl_hole {n : Nat} {bs : Nat → Nat} {mc mr : Mm} {F q D f e : Nat} {p : AS} (hF : 5000 ≤ F) (hn : n ≤ 400) (hb : ∀ i, i < n → bs i < 256) (hD : isPl D) (hA : ATt n bs q f 2 e mc mr) (dr : DRt D p mc mr) (hnm : f_X9_nameNow mr = some 12) : ∃ mc' mr', f_X2_takeHole F mc D = some mc' ∧ f_X9_readLine F mr = some mr' ∧ FZc D mc mc' ∧ FZm mr mr' ∧ ((SSt n bs (q + 1) mc' mr' ∧ ∃ p', DRt D p' mc' mr') ∨ FAt n bs mc' mr') := by
  obtain ⟨⟨l1, l2, l3, l4⟩, -⟩ := id dr.1
  have z27 := AT_m hA
  obtain ⟨⟨pos, h1, hC⟩, h0, hw, hM⟩ := id hA
  have h25 : mr 113 25 = (1 : Int32) := hM.2.2.1
  have k0 : mc D 2 = nI (p 0 2) := dr.2.1 0 2 (show 2 < 4 by decide)
  have r0 : mr 113 15 = nI (p 0 2) := dr.2.2.1.2.2.1
  have hl : f_X9_readLine F mr = rlA 12 mr fun m22 => rlB 12 m22 fun y23 => (f_X9_next F y23).bind (rlT F 12) := by
    rw [rl_eq, if_pos h25, hnm, Option.bind_some, Option.bind_some]
  by_cases q0 : p 0 2 < 4
  · have g8 : ¬ (4 : Int32) ≤ mr 113 15 := by rw [r0]; exact nI_ge (b := 4) q0 (by decide)
    obtain ⟨m30, d1, d2, d3⟩ := zt_adv (F := F) hF hn hb hA (by decide)
    rw [rlA_12, if_neg g8, rlB_x (by decide), d1, Option.bind_some, rlT_12] at hl
    obtain ⟨mc', mr', j1, j2, j3, j4, j5⟩ := zt_hole (F := F) hF hn hb hD d3 (DR_m dr d2) q0
    rcases SS_m d3 with z | ⟨z, z2⟩
    · have z2 : m30 113 27 ≤ 0 := by rw [z]; exact Int32.le_refl _
      rw [if_pos z2, j2] at hl
      exact ⟨mc', mr', j1, hl, j3, (FZm.rf.fr d2).tr j4, j5.imp (fun w => ⟨SS_mono w.2.1 (by omega), w.2.2⟩) id⟩
    · rw [if_neg z2] at hl
      rw [aHole_F z z2] at j2
      obtain rfl := Option.some.inj j2
      exact ⟨mc', _, j1, hl, j3, FZm.rf.fr d2, j5.imp (fun w => absurd w.1 z) id⟩
  · have g8 : (4 : Int32) ≤ mr 113 15 := by rw [r0]; exact nI_le (a := 4) (by omega) (by omega)
    have nd := m_need (m := mr) (a := 0) (v := 5) z27
    rw [if_pos rfl] at nd
    have u27 : up2 (up2 mr 113 27 5) 113 28 (mr 113 24) 113 27 = 5 := by rw [up2_slot (by decide), up2_same]
    rw [rlA_12, if_pos g8, nd, Option.bind_some, rl_flt (by rw [u27]; decide) (by rw [u27]; decide)] at hl
    refine ⟨up2 (up2 mc 1 3 5) 1 4 (mc 1 7), _, ?_, hl, FZc.rf.fr ((FRc.rf.up (by omega)).up (by omega)), FZm.rf.fr ((FRm.rf.up (by omega)).up (by omega)), Or.inr (FA_mk (v := 5) hC (by decide) (by decide) u27 (by rw [up2_same]; exact hM.2.1))⟩
    have n8 : ¬ nI (p 0 2) < (4 : Int32) := nI_nlt (b := 4) (by omega) (by omega)
    unfold f_X2_takeHole
    rw [letv_eq, k0, if_neg n8, c_refuse, if_pos h0, Option.bind_some]
theorem zl_pump {n : Nat} {bs : Nat → Nat} {mc mr : Mm} {F q D f e : Nat} {p : AS} (hF : 5000 ≤ F) (hn : n ≤ 400) (hb : ∀ i, i < n → bs i < 256) (hD : isPl D) (hA : ATt n bs q f 2 e mc mr) (dr : DRt D p mc mr) (hnm : f_X9_nameNow mr = some 13) : ∃ mc' mr', f_X2_takePump F mc D = some mc' ∧ f_X9_readLine F mr = some mr' ∧ FZc D mc mc' ∧ FZm mr mr' ∧ ((SSt n bs (q + 1) mc' mr' ∧ ∃ p', DRt D p' mc' mr') ∨ FAt n bs mc' mr') := by
  obtain ⟨⟨l1, l2, l3, l4⟩, -⟩ := id dr.1
  have z27 := AT_m hA
  obtain ⟨⟨pos, h1, hC⟩, h0, hw, hM⟩ := id hA
  have h25 : mr 113 25 = (1 : Int32) := hM.2.2.1
  have k0 : mc D 3 = nI (p 0 3) := dr.2.1 0 3 (show 3 < 4 by decide)
  have r0 : mr 113 17 = nI (p 0 3) := dr.2.2.1.2.2.2.1
  have hl : f_X9_readLine F mr = rlA 13 mr fun m22 => rlB 13 m22 fun y23 => (f_X9_next F y23).bind (rlT F 13) := by
    rw [rl_eq, if_pos h25, hnm, Option.bind_some, Option.bind_some]
  by_cases q0 : p 0 3 < 3
  · have g8 : ¬ (3 : Int32) ≤ mr 113 17 := by rw [r0]; exact nI_ge (b := 3) q0 (by decide)
    obtain ⟨m30, d1, d2, d3⟩ := zt_adv (F := F) hF hn hb hA (by decide)
    rw [rlA_13, if_neg g8, rlB_x (by decide), d1, Option.bind_some, rlT_13] at hl
    obtain ⟨mc', mr', j1, j2, j3, j4, j5⟩ := zt_pump (F := F) hF hn hb hD d3 (DR_m dr d2) q0
    rcases SS_m d3 with z | ⟨z, z2⟩
    · have z2 : m30 113 27 ≤ 0 := by rw [z]; exact Int32.le_refl _
      rw [if_pos z2, j2] at hl
      exact ⟨mc', mr', j1, hl, j3, (FZm.rf.fr d2).tr j4, j5.imp (fun w => ⟨SS_mono w.2.1 (by omega), w.2.2⟩) id⟩
    · rw [if_neg z2] at hl
      rw [aPump_F z z2] at j2
      obtain rfl := Option.some.inj j2
      exact ⟨mc', _, j1, hl, j3, FZm.rf.fr d2, j5.imp (fun w => absurd w.1 z) id⟩
  · have g8 : (3 : Int32) ≤ mr 113 17 := by rw [r0]; exact nI_le (a := 3) (by omega) (by omega)
    have nd := m_need (m := mr) (a := 0) (v := 5) z27
    rw [if_pos rfl] at nd
    have u27 : up2 (up2 mr 113 27 5) 113 28 (mr 113 24) 113 27 = 5 := by rw [up2_slot (by decide), up2_same]
    rw [rlA_13, if_pos g8, nd, Option.bind_some, rl_flt (by rw [u27]; decide) (by rw [u27]; decide)] at hl
    refine ⟨up2 (up2 mc 1 3 5) 1 4 (mc 1 7), _, ?_, hl, FZc.rf.fr ((FRc.rf.up (by omega)).up (by omega)), FZm.rf.fr ((FRm.rf.up (by omega)).up (by omega)), Or.inr (FA_mk (v := 5) hC (by decide) (by decide) u27 (by rw [up2_same]; exact hM.2.1))⟩
    have n8 : ¬ nI (p 0 3) < (3 : Int32) := nI_nlt (b := 3) (by omega) (by omega)
    unfold f_X2_takePump
    rw [letv_eq, k0, if_neg n8, c_refuse, if_pos h0, Option.bind_some]
theorem zl_rule {n : Nat} {bs : Nat → Nat} {mc mr : Mm} {F q D f e : Nat} {p : AS} (hF : 5000 ≤ F) (hn : n ≤ 400) (hb : ∀ i, i < n → bs i < 256) (hD : isPl D) (hA : ATt n bs q f 2 e mc mr) (dr : DRt D p mc mr) {r lo u : Nat} {y1 a1 a2 a3 : Int32} {C : Mm → Int32 × Int32} (hr : r < 5) (hy : y1 = nI r) (ha1 : a1 = nI r) (hnm : f_X9_nameNow mr = some y1) (hRA : ∀ k, rlA y1 mr k = k mr) (hT : ∀ m30, rlT F y1 m30 = if (m30 113 27) ≤ 0 then ((bind2 (f_X9_readNumber F m30 (C m30).1 (C m30).2) fun x33 m34 => (ast m34 125 5 (nI r) x33).bind fun m35 => some m35).bind (sgM F)) else some m30) (hlo : a2 = nI lo) (hu : a3 = nI u - 1) (hC1 : ∀ m30 : Mm, m30 113 11 = mr 113 11 → C m30 = (nI lo, nI u - 1)) (hl2 : lo < 2 ^ 20) (hu2 : u < 2 ^ 20) (hW : ∀ v, lo ≤ v → v < u → PW (u3 p 16 r v)) : ∃ mc' mr', f_X2_takeRule F mc D a1 a2 a3 = some mc' ∧ f_X9_readLine F mr = some mr' ∧ FZc D mc mc' ∧ FZm mr mr' ∧ ((SSt n bs (q + 1) mc' mr' ∧ ∃ p', DRt D p' mc' mr') ∨ FAt n bs mc' mr') := by
  subst hy ha1
  have hD3 : 40 < D := by rcases hD with rfl | rfl <;> decide
  obtain ⟨pw, pc, dm, tl⟩ := id dr
  have z27 := AT_m hA
  obtain ⟨⟨pos, h1, hC⟩, h0, hw, hM⟩ := id hA
  have h25 : mr 113 25 = (1 : Int32) := hM.2.2.1
  have n0 : vp_nar .boolean 1 = (1 : Int32) := by decide
  have hl : f_X9_readLine F mr = rlB (nI r) mr fun y23 => (f_X9_next F y23).bind (rlT F (nI r)) := by
    rw [rl_eq, if_pos h25, hnm, Option.bind_some, Option.bind_some, hRA]
  rw [rlB_r z27 hr] at hl
  have ht := tl r hr
  by_cases q0 : mr 126 r = 0
  · rw [if_pos q0] at hl
    have hA2 : ATt n bs q f 2 e (up2 mc 3 r 1) (up2 mr 126 r 1) := AT_fr hA (fun _ _ => by rw [up2_ne (by decide)]) (up2_ne (by decide)) (fun _ _ _ => by rw [up2_ne (by decide)]) (up2_ne (by decide))
    obtain ⟨m30, d1, d2, d3⟩ := zt_adv (F := F) hF hn hb hA2 (by decide)
    have dr2 : DRt D p (up2 mc 3 r 1) m30 := by
      refine ⟨pw, PC_fr pc (fun j hj => up2_ne (by omega)), DM_FRm ?_ d2, fun k hk => ?_⟩
      · unfold DM
        rw [up2_ne (by decide), up2_ne (by decide), up2_ne (by decide), up2_ne (by decide), up2_ne (by decide), up2_ne (by decide)]
        exact dm
      · rw [d2.1 126 (by decide)]
        by_cases w : k = r
        · subst w; rw [up2_same, up2_same]
        · rw [up2_slot w, up2_slot w]; exact tl k hk
    have hCm := hC1 m30 (by rw [d2.2 11 (by omega), up2_ne (by decide)])
    obtain ⟨mc', mr', j1, j2, j3, j4, j5⟩ := zt_rule (F := F) (a2 := a2) (a3 := a3) (c1 := (C m30).1) (c2 := (C m30).2) (lo := lo) (u := u) hF hn hb hD d3 dr2 hr hlo (by rw [hCm]) hu (by rw [hCm]) hl2 hu2 hW
    rw [d1, Option.bind_some, hT, j2] at hl
    refine ⟨mc', mr', ?_, hl, (FZc.rf.up (Or.inl rfl) hD).tr j3, ((FZm.rf.up ⟨by decide, by decide⟩).fr d2).tr j4, j5.imp (fun w => ⟨SS_mono w.1 (by omega), w.2⟩) id⟩
    unfold f_X2_takeRule
    rw [ald_n hr (by decide), Option.bind_some, ht, if_pos q0, ast_n hr (by decide), Option.bind_some, n0]
    exact j1
  · rw [if_neg q0] at hl
    have u27 : up2 (up2 (up2 mr 113 27 4) 113 28 (mr 113 24)) 126 r 1 113 27 = 4 := by rw [up2_ne (by decide), up2_slot (by decide), up2_same]
    rw [m_nxF (by rw [u27]; decide), Option.bind_some, rlT_F (by rw [u27]; decide)] at hl
    refine ⟨up2 (up2 mc 1 3 4) 1 4 (mc 1 7), _, ?_, hl, FZc.rf.fr ((FRc.rf.up (by omega)).up (by omega)), (FZm.rf.fr ((FRm.rf.up (by omega)).up (by omega))).up ⟨by decide, by decide⟩, Or.inr (FA_mk (v := 4) hC (by decide) (by decide) u27 (by rw [up2_ne (by decide), up2_same]; exact hM.2.1))⟩
    unfold f_X2_takeRule
    rw [ald_n hr (by decide), Option.bind_some, ht, if_neg q0, c_refuse, if_pos h0, Option.bind_some]
theorem zl_no {n : Nat} {bs : Nat → Nat} {mc mr : Mm} {F q D f k e : Nat} {y1 : Int32} (hA : ATt n bs q f k e mc mr) (hy : y1 = -4 ∨ y1 = 14) (hY : (if (mr 113 25) = (1 : Int32) then ((f_X9_nameNow mr).bind fun x2 => some x2) else (some (-4)) : Option (Int32)) = some y1) : ∃ mc' mr', f_X2_refuse mc 2 = some mc' ∧ f_X9_readLine F mr = some mr' ∧ FZc D mc mc' ∧ FZm mr mr' ∧ FAt n bs mc' mr' := by
  have z27 := AT_m hA
  obtain ⟨⟨pos, h1, hC⟩, h0, hw, hM⟩ := id hA
  have nd := m_need (m := mr) (a := 0) (v := 2) z27
  rw [if_pos rfl] at nd
  have u27 : up2 (up2 mr 113 27 2) 113 28 (mr 113 24) 113 27 = 2 := by rw [up2_slot (by decide), up2_same]
  refine ⟨up2 (up2 mc 1 3 2) 1 4 (mc 1 7), _, by rw [c_refuse, if_pos h0], by rw [rl_eq, hY, Option.bind_some, rlA_no hy, nd, Option.bind_some, rl_flt (by rw [u27]; decide) (by rw [u27]; decide)], FZc.rf.fr ((FRc.rf.up (by omega)).up (by omega)), FZm.rf.fr ((FRm.rf.up (by omega)).up (by omega)), FA_mk (v := 2) hC (by decide) (by decide) u27 (by rw [up2_same]; exact hM.2.1)⟩
theorem zt_line {n : Nat} {bs : Nat → Nat} {mc mr : Mm} {F q D f k e : Nat} {p : AS} (hF : 5000 ≤ F) (hn : n ≤ 400) (hb : ∀ i, i < n → bs i < 256) (hD : isPl D) (hA : ATt n bs q f k e mc mr) (hk : k ≠ 0) (dr : DRt D p mc mr) : ∃ x mc' mr', f_X2_lineBegun F mc = some x ∧ swC F D mc x = some mc' ∧ f_X9_readLine F mr = some mr' ∧ FZc D mc mc' ∧ FZm mr mr' ∧ ((SSt n bs (q + 1) mc' mr' ∧ ∃ p', DRt D p' mc' mr') ∨ FAt n bs mc' mr') := by
  obtain ⟨⟨l1, l2, l3, l4⟩, -⟩ := id dr.1
  have kh : mc D 0 = nI (p 0 0) := dr.2.1 0 0 (show 0 < 4 by decide)
  have rh : mr 113 11 = nI (p 0 0) := dr.2.2.1.1
  obtain ⟨⟨pos, h1, hC⟩, h0, hw, hM⟩ := id hA
  have hk5 := TK_k5 hC.2.1
  by_cases q2 : k = 2
  · subst q2
    have h25 : mr 113 25 = (1 : Int32) := hM.2.2.1
    obtain ⟨x, y, n1, n2, n3, -⟩ := zt_name (F := F) hF hn hb hC hM
    rcases n3 with ⟨rfl, rfl⟩ | ⟨rfl, rfl⟩ | ⟨rfl, rfl⟩ | ⟨rfl, rfl⟩ | ⟨rfl, rfl⟩ | ⟨rfl, rfl⟩ | ⟨rfl, rfl⟩ | ⟨rfl, rfl⟩ | ⟨rfl, rfl⟩ | ⟨rfl, n3⟩
    · obtain ⟨mc', mr', j1, j⟩ := zl_hold (F := F) hF hn hb hD hA dr n2
      exact ⟨5, mc', mr', n1, by rw [swC_5]; exact j1, j⟩
    · obtain ⟨mc', mr', j1, j⟩ := zl_door (F := F) hF hn hb hD hA dr n2
      exact ⟨6, mc', mr', n1, by rw [swC_6]; exact j1, j⟩
    · obtain ⟨mc', mr', j1, j⟩ := zl_hole (F := F) hF hn hb hD hA dr n2
      exact ⟨7, mc', mr', n1, by rw [swC_7]; exact j1, j⟩
    · obtain ⟨mc', mr', j1, j⟩ := zl_pump (F := F) hF hn hb hD hA dr n2
      exact ⟨8, mc', mr', n1, by rw [swC_8]; exact j1, j⟩
    · obtain ⟨mc', mr', j1, j⟩ := zl_rule (F := F) (r := 0) (lo := 1) (u := 4) (y1 := 0) (a1 := 0) (a2 := 1) (a3 := 3) (C := fun _ => (1, 3)) hF hn hb hD hA dr (by decide) rfl rfl n2 (fun k => rlA_0) (fun m30 => rlT_0) rfl (by decide) (fun _ _ => by decide) (by decide) (by decide) (fun v v1 v2 => PW_R dr.1 (Or.inl ⟨rfl, by omega, by omega⟩))
      exact ⟨0, mc', mr', n1, by rw [swC_0]; exact j1, j⟩
    · obtain ⟨mc', mr', j1, j⟩ := zl_rule (F := F) (r := 1) (lo := 1) (u := 801) (y1 := 1) (a1 := 1) (a2 := 1) (a3 := 800) (C := fun _ => (1, 800)) hF hn hb hD hA dr (by decide) rfl rfl n2 (fun k => rlA_1) (fun m30 => rlT_1) rfl (by decide) (fun _ _ => by decide) (by decide) (by decide) (fun v v1 v2 => PW_R dr.1 (Or.inr (Or.inl ⟨rfl, by omega⟩)))
      exact ⟨1, mc', mr', n1, by rw [swC_1]; exact j1, j⟩
    · obtain ⟨mc', mr', j1, j⟩ := zl_rule (F := F) (r := 2) (lo := 1) (u := 100) (y1 := 2) (a1 := 2) (a2 := 1) (a3 := 99) (C := fun _ => (1, 99)) hF hn hb hD hA dr (by decide) rfl rfl n2 (fun k => rlA_2) (fun m30 => rlT_2) rfl (by decide) (fun _ _ => by decide) (by decide) (by decide) (fun v v1 v2 => PW_R dr.1 (Or.inr (Or.inr (Or.inl ⟨rfl, by omega⟩))))
      exact ⟨2, mc', mr', n1, by rw [swC_2]; exact j1, j⟩
    · obtain ⟨mc', mr', j1, j⟩ := zl_rule (F := F) (r := 3) (lo := 1) (u := 100) (y1 := 3) (a1 := 3) (a2 := 1) (a3 := 99) (C := fun _ => (1, 99)) hF hn hb hD hA dr (by decide) rfl rfl n2 (fun k => rlA_3) (fun m30 => rlT_3) rfl (by decide) (fun _ _ => by decide) (by decide) (by decide) (fun v v1 v2 => PW_R dr.1 (Or.inr (Or.inr (Or.inr (Or.inl ⟨rfl, by omega⟩)))))
      exact ⟨3, mc', mr', n1, by rw [swC_3]; exact j1, j⟩
    · obtain ⟨mc', mr', j1, j⟩ := zl_rule (F := F) (r := 4) (lo := 0) (u := p 0 0) (y1 := 4) (a1 := 4) (a2 := 0) (a3 := mc D 0 - (1 : Int32)) (C := fun m30 => (0, m30 113 11 - (1 : Int32))) hF hn hb hD hA dr (by decide) rfl rfl n2 (fun k => rlA_4) (fun m30 => rlT_4) rfl (by rw [kh]) (fun m30 w => by rw [w, rh]; rfl) (by decide) (by omega) (fun v v1 v2 => PW_R dr.1 (Or.inr (Or.inr (Or.inr (Or.inr ⟨rfl, by omega⟩)))))
      exact ⟨4, mc', mr', n1, by rw [swC_4]; exact j1, j⟩
    · obtain ⟨mc', mr', j1, j2, j3, j4, j5⟩ := zl_no (F := F) (D := D) (y1 := y) hA n3 (by rw [if_pos h25, n2, Option.bind_some])
      exact ⟨-4, mc', mr', n1, by rw [swC_no]; exact j1, j2, j3, j4, Or.inr j5⟩
  · have h25 : ¬ mr 113 25 = (1 : Int32) := by rw [hM.2.2.1, (krN_c hk5).1]; exact q2
    obtain ⟨mc', mr', j1, j2, j3, j4, j5⟩ := zl_no (F := F) (D := D) (y1 := -4) hA (Or.inl rfl) (by rw [if_neg h25])
    refine ⟨-4, mc', mr', line_no ?_, by rw [swC_no]; exact j1, j2, j3, j4, Or.inr j5⟩
    rw [hC.2.2.2.2, show (2 : Int32) = nI 2 from rfl, nq (by omega) (by decide)]; exact q2

/-! text: a line of a hold, of a hole, of a pump -/
theorem rdH_eq (F : Nat) (m : Mm) : f_X9_readHold F m = f_X9_readNumber F m 0 (m 113 11 - (1 : Int32)) := by
  unfold f_X9_readHold
  cases f_X9_readNumber F m 0 (m 113 11 - (1 : Int32)) with
  | none => rfl
  | some v => rfl
set_option maxHeartbeats 4000000 in
theorem zt_hold {n : Nat} {bs : Nat → Nat} {mc mr : Mm} {F q D : Nat} {p : AS} (hF : 5000 ≤ F) (hn : n ≤ 400) (hb : ∀ i, i < n → bs i < 256) (hD : isPl D) (h : SSt n bs q mc mr) (dr : DRt D p mc mr) (hh : p 0 0 < 8) : ∃ mc' mr', f_X2_takeHold F mc D = some mc' ∧ (f_X9_aHold F mr).bind (sgM F) = some mr' ∧ FZc D mc mc' ∧ FZm mr mr' ∧ ((mr 113 27 = 0 ∧ SSt n bs (q + 1) mc' mr' ∧ ∃ p', DRt D p' mc' mr') ∨ FAt n bs mc' mr') := by
  obtain ⟨pw, pc, dm, tl⟩ := dr
  obtain ⟨⟨l1, l2, l3, l4⟩, -⟩ := id pw
  have hD3 : 40 < D := by rcases hD with rfl | rfl <;> decide
  have k0 : mc D 0 = nI (p 0 0) := pc 0 0 (show 0 < 4 by decide)
  have r0 : mr 113 11 = nI (p 0 0) := dm.1
  have gc : FRc mc mc := FRc.rf
  have gr : FRm mr mr := FRm.rf
  have lc : FZc D mc mc := FZc.rf
  obtain ⟨x1, d1, y1, e1, t1, rr1, g1, rv1, s1⟩ := zt_num (F := F) (q := q) (mc := mc) (mr := mr) (E := True) (a1 := 1) (a2 := 99) (c1 := 1) (c2 := 99) (lo := 1) (u := 100) hF hn hb (Or.inl ⟨h, trivial, rfl, rfl, by decide, by decide, by decide, by decide⟩)
  replace gc : FRc (up2 mc (D + 1) (p 0 0) x1) (up2 d1 (D + 1) (p 0 0) x1) := (gc.tr g1).cg (by omega)
  replace gr : FRm mr e1 := gr.tr rv1
  replace lc : FZc D mc (up2 d1 (D + 1) (p 0 0) x1) := (lc.fr g1).up (Or.inr ⟨by omega, by omega⟩) hD
  obtain ⟨x2, d2, y2, e2, t2, rr2, g2, rv2, s2⟩ := zt_num (F := F) (q := q + 1) (mc := (up2 d1 (D + 1) (p 0 0) x1)) (mr := e1) (E := mr 113 27 = 0 ∧ y1 = x1 ∧ 1 ≤ co x1 ∧ co x1 < 100) (a1 := 0) (a2 := 2) (c1 := 0) (c2 := 2) (lo := 0) (u := 3) hF hn hb (s1.imp (fun w => ⟨SS_upc w.2.1 (by omega), ⟨w.1, w.2.2.2.1, w.2.2.2.2⟩, rfl, rfl, by decide, by decide, by decide, by decide⟩) (fun w => FA_upc w (by omega)))
  replace gc : FRc (up2 (up2 mc (D + 1) (p 0 0) x1) (D + 2) (p 0 0) x2) (up2 d2 (D + 2) (p 0 0) x2) := (gc.tr g2).cg (by omega)
  replace gr : FRm mr e2 := gr.tr rv2
  replace lc : FZc D mc (up2 d2 (D + 2) (p 0 0) x2) := (lc.fr g2).up (Or.inr ⟨by omega, by omega⟩) hD
  obtain ⟨x3, d3, y3, e3, t3, rr3, g3, rv3, s3⟩ := zt_num (F := F) (q := q + 1 + 1) (mc := (up2 d2 (D + 2) (p 0 0) x2)) (mr := e2) (E := (mr 113 27 = 0 ∧ y1 = x1 ∧ 1 ≤ co x1 ∧ co x1 < 100) ∧ y2 = x2 ∧ 0 ≤ co x2 ∧ co x2 < 3) (a1 := 0) (a2 := 18) (c1 := 0) (c2 := 18) (lo := 0) (u := 19) hF hn hb (s2.imp (fun w => ⟨SS_upc w.2.1 (by omega), ⟨w.2.2.1, w.2.2.2.1, w.2.2.2.2⟩, rfl, rfl, by decide, by decide, by decide, by decide⟩) (fun w => FA_upc w (by omega)))
  replace gc : FRc (up2 (up2 (up2 mc (D + 1) (p 0 0) x1) (D + 2) (p 0 0) x2) (D + 3) (p 0 0) x3) (up2 d3 (D + 3) (p 0 0) x3) := (gc.tr g3).cg (by omega)
  replace gr : FRm mr e3 := gr.tr rv3
  replace lc : FZc D mc (up2 d3 (D + 3) (p 0 0) x3) := (lc.fr g3).up (Or.inr ⟨by omega, by omega⟩) hD
  obtain ⟨x4, d4, y4, e4, t4, rr4, g4, rv4, s4⟩ := zt_num (F := F) (q := q + 1 + 1 + 1) (mc := (up2 d3 (D + 3) (p 0 0) x3)) (mr := e3) (E := ((mr 113 27 = 0 ∧ y1 = x1 ∧ 1 ≤ co x1 ∧ co x1 < 100) ∧ y2 = x2 ∧ 0 ≤ co x2 ∧ co x2 < 3) ∧ y3 = x3 ∧ 0 ≤ co x3 ∧ co x3 < 19) (a1 := 0) (a2 := x1) (c1 := 0) (c2 := y1) (lo := 0) (u := (co x1 + 1)) hF hn hb (s3.imp (fun w => ⟨SS_upc w.2.1 (by omega), ⟨w.2.2.1, w.2.2.2.1, w.2.2.2.2⟩, rfl, rfl, by rw [nI_pred, nI_co], by rw [nI_pred, nI_co]; exact w.2.2.1.1.2.1, by decide, by have := w.2.2.1.1.2.2.2; omega⟩) (fun w => FA_upc w (by omega)))
  replace gc : FRc (up2 (up2 (up2 (up2 mc (D + 1) (p 0 0) x1) (D + 2) (p 0 0) x2) (D + 3) (p 0 0) x3) (D + 4) (p 0 0) x4) (up2 d4 (D + 4) (p 0 0) x4) := (gc.tr g4).cg (by omega)
  replace gr : FRm mr e4 := gr.tr rv4
  replace lc : FZc D mc (up2 d4 (D + 4) (p 0 0) x4) := (lc.fr g4).up (Or.inr ⟨by omega, by omega⟩) hD
  have hc : ∀ m16, f_X2_takeSign F (up2 d4 (D + 4) (p 0 0) x4) = some m16 → f_X2_takeHold F mc D = some (up2 m16 D 0 (m16 D 0 + 1)) := fun m16 h16 => by
    unfold f_X2_takeHold
    have e11 : up2 d3 (D + 3) (p 0 0) x3 (D + 1) (p 0 0) = x1 := by rw [up2_ne (by omega), g3.1 (D + 1) (by omega), up2_ne (by omega), g2.1 (D + 1) (by omega), up2_same]
    rw [letv_eq, k0, if_pos (show nI (p 0 0) < (8 : Int32) from nI_lt (b := 8) hh (by decide)), t1, bind2_some, ast_n (i := p 0 0) (by omega) (by decide), Option.bind_some, t2, bind2_some, ast_n (i := p 0 0) (by omega) (by decide), Option.bind_some, t3, bind2_some, ast_n (i := p 0 0) (by omega) (by decide), Option.bind_some, ald_n (i := p 0 0) (by omega) (by decide), Option.bind_some, e11, t4, bind2_some, ast_n (i := p 0 0) (by omega) (by decide), Option.bind_some, h16, Option.bind_some, letv_eq]
  have hcD : (up2 d4 (D + 4) (p 0 0) x4) D 0 = nI (p 0 0) := by rw [gc.1 D (by omega)]; rw [up2_ne (by omega), up2_ne (by omega), up2_ne (by omega), up2_ne (by omega)]; exact k0
  have hrD : e4 113 11 = nI (p 0 0) := by rw [gr.2 11 (by omega)]; exact r0
  have n1 : ∀ m16 : Mm, FRc (up2 d4 (D + 4) (p 0 0) x4) m16 → m16 D 0 + 1 = nI ((p 0 0) + 1) := fun m16 g16 => by rw [g16.1 D (by omega), hcD, nI_1]
  by_cases z : e4 113 27 = 0
  · rcases s4 with s4 | s4
    case inr => exact absurd z (FA_m s4).1
    have hW : f_X9_aHold F mr = some (up2 (up2 (up2 (up2 (up2 e4 121 (4 * (p 0 0)) y1) 121 (4 * (p 0 0) + 1) y2) 121 (4 * (p 0 0) + 2) y3) 121 (4 * (p 0 0) + 3) y4) 113 11 (nI ((p 0 0) + 1))) := by
      unfold f_X9_aHold
      rw [letv_eq, r0, show (4 : Int32) * nI (p 0 0) = nI (4 * (p 0 0)) from ixm 4 _, rr1, bind2_some, rr2, bind2_some, rr3, bind2_some, rr4, bind2_some, if_pos z, show nI (4 * (p 0 0)) + (1 : Int32) = nI (4 * (p 0 0) + 1) from nI_1 _, show nI (4 * (p 0 0)) + (2 : Int32) = nI (4 * (p 0 0) + 2) from nI_add _ 2, show nI (4 * (p 0 0)) + (3 : Int32) = nI (4 * (p 0 0) + 3) from nI_add _ 3, ast_n (i := 4 * p 0 0) (by omega) (by decide), Option.bind_some, ast_n (i := 4 * p 0 0 + 1) (by omega) (by decide), Option.bind_some, ast_n (i := 4 * p 0 0 + 2) (by omega) (by decide), Option.bind_some, ast_n (i := 4 * p 0 0 + 3) (by omega) (by decide), Option.bind_some, letv_eq, up2_ne (show (113 : Nat) ≠ 121 by decide), up2_ne (show (113 : Nat) ≠ 121 by decide), up2_ne (show (113 : Nat) ≠ 121 by decide), up2_ne (show (113 : Nat) ≠ 121 by decide), hrD, nI_1]
    have s14 : SSt n bs (q + 4) (up2 d4 (D + 4) (p 0 0) x4) (up2 (up2 (up2 (up2 (up2 e4 121 (4 * (p 0 0)) y1) 121 (4 * (p 0 0) + 1) y2) 121 (4 * (p 0 0) + 2) y3) 121 (4 * (p 0 0) + 3) y4) 113 11 (nI ((p 0 0) + 1))) := SS_fr s4.2.1 (by omega) (fun i _ => by rw [up2_ne (by omega)]) (up2_ne (by omega)) (fun i i1 i2 => by rw [up2_slot (by omega), up2_ne (by decide), up2_ne (by decide), up2_ne (by decide), up2_ne (by decide)]) (by rw [up2_ne (by decide), up2_ne (by decide), up2_ne (by decide), up2_ne (by decide), up2_ne (by decide)])
    obtain ⟨m16, r16, j1, j2, j3, j4, j5⟩ := zt_sgn (F := F) hF hn hb (Or.inl s14)
    have lr : FZm mr r16 := FZm.fr (FZm.up1 (FZm.up (FZm.up (FZm.up (FZm.up (FZm.fr FZm.rf gr) ⟨by decide, by decide⟩) ⟨by decide, by decide⟩) ⟨by decide, by decide⟩) ⟨by decide, by decide⟩) (by decide)) j4
    refine ⟨_, r16, hc m16 j1, by rw [hW, Option.bind_some, j2], (lc.fr j3).up (Or.inr ⟨by omega, by omega⟩) hD, lr, ?_⟩
    rw [n1 m16 j3]
    rcases j5 with j | j
    case inr => exact Or.inr (FA_upc j (by omega))
    left
    have f1 := s4.2.2.1.1.1.2
    have f2 := s4.2.2.1.1.2
    have f3 := s4.2.2.1.2
    have f4 := s4.2.2.2
    refine ⟨s4.2.2.1.1.1.1, SS_fr j.2 (by omega) (fun i _ => by rw [up2_ne (by omega)]) (up2_ne (by omega)) (fun _ _ _ => rfl) rfl, adH p (co x1) (co x2) (co x3) (co x4), adH_W pw hh ⟨f1.2.1, f1.2.2⟩ f2.2.2 f3.2.2 f4.2.2, ?_, ?_, fun r hr => ?_⟩
    · have y := adH_C (D := D) (v1 := co x1) (v2 := co x2) (v3 := co x3) (v4 := co x4) pc
      rw [nI_co x1, nI_co x2, nI_co x3, nI_co x4] at y
      exact PC_FRc y hD ((gc.tr j3).cg (by omega))
    · have y := adH_M (v1 := co x1) (v2 := co x2) (v3 := co x3) (v4 := co x4) (DM_FRm dm gr)
      rw [nI_co x1, nI_co x2, nI_co x3, nI_co x4, ← f1.1, ← f2.1, ← f3.1, ← f4.1] at y
      rw [← f1.1, ← f2.1, ← f3.1, ← f4.1]
      exact DM_FRm y j4
    · rw [up2_ne (by omega), (gc.tr j3).1 3 (by decide), up2_ne (by omega), up2_ne (by omega), up2_ne (by omega), up2_ne (by omega), j4.1 126 (by decide), up2_ne (by decide), up2_ne (by decide), up2_ne (by decide), up2_ne (by decide), up2_ne (by decide), gr.1 126 (by decide)]
      exact tl r hr
  · have hW : f_X9_aHold F mr = some e4 := by
      unfold f_X9_aHold
      rw [letv_eq, rr1, bind2_some, rr2, bind2_some, rr3, bind2_some, rr4, bind2_some, if_neg z]
    obtain ⟨m16, r16, j1, j2, j3, j4, j5⟩ := zt_sgn (F := F) (mc := (up2 d4 (D + 4) (p 0 0) x4)) (mr := e4) (q := q) hF hn hb (s4.imp (fun w => SS_fr w.2.1 (by omega) (fun i _ => by rw [up2_ne (by omega)]) (up2_ne (by omega)) (fun _ _ _ => rfl) rfl) (fun w => FA_upc w (by omega)))
    refine ⟨_, r16, hc m16 j1, by rw [hW, Option.bind_some, j2], (lc.fr j3).up (Or.inr ⟨by omega, by omega⟩) hD, (FZm.rf.fr gr).fr j4, ?_⟩
    rcases j5 with j | j
    · exact absurd j.1 z
    · exact Or.inr (FA_upc j (by omega))

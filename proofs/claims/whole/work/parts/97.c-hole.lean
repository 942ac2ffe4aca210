/-! text: lines of holes and pumps -/
set_option maxHeartbeats 4000000 in
theorem zt_hole {n : Nat} {bs : Nat → Nat} {mc mr : Mm} {F q D : Nat} {p : AS} (hF : 5000 ≤ F) (hn : n ≤ 400) (hb : ∀ i, i < n → bs i < 256) (hD : isPl D) (h : SSt n bs q mc mr) (dr : DRt D p mc mr) (hh : p 0 2 < 4) : ∃ mc' mr', f_X2_takeHole F mc D = some mc' ∧ (f_X9_aHole F mr).bind (sgM F) = some mr' ∧ FZc D mc mc' ∧ FZm mr mr' ∧ ((mr 113 27 = 0 ∧ SSt n bs (q + 1) mc' mr' ∧ ∃ p', DRt D p' mc' mr') ∨ FAt n bs mc' mr') := by
  obtain ⟨pw, pc, dm, tl⟩ := dr
  obtain ⟨⟨l1, l2, l3, l4⟩, -⟩ := id pw
  have hD3 : 40 < D := by rcases hD with rfl | rfl <;> decide
  have k0 : mc D 2 = nI (p 0 2) := pc 0 2 (show 2 < 4 by decide)
  have kh : mc D 0 = nI (p 0 0) := pc 0 0 (show 0 < 4 by decide)
  have r0 : mr 113 15 = nI (p 0 2) := dm.2.2.1
  have rh : mr 113 11 = nI (p 0 0) := dm.1
  have gc : FRc mc mc := FRc.rf
  have gr : FRm mr mr := FRm.rf
  have lc : FZc D mc mc := FZc.rf
  have eh1 : mc D 0 = nI (p 0 0) := by rw [gc.1 D (by omega)]; exact kh
  have fh1 : mr 113 11 = nI (p 0 0) := by rw [gr.2 11 (by omega)]; exact rh
  obtain ⟨x1, d1, y1, e1, t1, rr1, g1, rv1, s1⟩ := zt_num (F := F) (q := q) (mc := mc) (mr := mr) (E := True) (a1 := 0) (a2 := (mc D 0 - (1 : Int32))) (c1 := 0) (c2 := (mr 113 11 - (1 : Int32))) (lo := 0) (u := (p 0 0)) hF hn hb (Or.inl ⟨h, trivial, rfl, rfl, by rw [eh1], by rw [fh1], by decide, by omega⟩)
  replace gc : FRc (up2 mc (D + 11) (p 0 2) x1) (up2 d1 (D + 11) (p 0 2) x1) := (gc.tr g1).cg (by omega)
  replace gr : FRm mr e1 := gr.tr rv1
  replace lc : FZc D mc (up2 d1 (D + 11) (p 0 2) x1) := (lc.fr g1).up (Or.inr ⟨by omega, by omega⟩) hD
  obtain ⟨x2, d2, y2, e2, t2, rr2, g2, rv2, s2⟩ := zt_num (F := F) (q := q + 1) (mc := (up2 d1 (D + 11) (p 0 2) x1)) (mr := e1) (E := mr 113 27 = 0 ∧ y1 = x1 ∧ 0 ≤ co x1 ∧ co x1 < (p 0 0)) (a1 := 1) (a2 := 20) (c1 := 1) (c2 := 20) (lo := 1) (u := 21) hF hn hb (s1.imp (fun w => ⟨SS_upc w.2.1 (by omega), ⟨w.1, w.2.2.2.1, w.2.2.2.2⟩, rfl, rfl, by decide, by decide, by decide, by decide⟩) (fun w => FA_upc w (by omega)))
  replace gc : FRc (up2 (up2 mc (D + 11) (p 0 2) x1) (D + 12) (p 0 2) x2) (up2 d2 (D + 12) (p 0 2) x2) := (gc.tr g2).cg (by omega)
  replace gr : FRm mr e2 := gr.tr rv2
  replace lc : FZc D mc (up2 d2 (D + 12) (p 0 2) x2) := (lc.fr g2).up (Or.inr ⟨by omega, by omega⟩) hD
  obtain ⟨x3, d3, y3, e3, t3, rr3, g3, rv3, s3⟩ := zt_num (F := F) (q := q + 1 + 1) (mc := (up2 d2 (D + 12) (p 0 2) x2)) (mr := e2) (E := (mr 113 27 = 0 ∧ y1 = x1 ∧ 0 ≤ co x1 ∧ co x1 < (p 0 0)) ∧ y2 = x2 ∧ 1 ≤ co x2 ∧ co x2 < 21) (a1 := 1) (a2 := 20) (c1 := 1) (c2 := 20) (lo := 1) (u := 21) hF hn hb (s2.imp (fun w => ⟨SS_upc w.2.1 (by omega), ⟨w.2.2.1, w.2.2.2.1, w.2.2.2.2⟩, rfl, rfl, by decide, by decide, by decide, by decide⟩) (fun w => FA_upc w (by omega)))
  replace gc : FRc (up2 (up2 (up2 mc (D + 11) (p 0 2) x1) (D + 12) (p 0 2) x2) (D + 13) (p 0 2) x3) (up2 d3 (D + 13) (p 0 2) x3) := (gc.tr g3).cg (by omega)
  replace gr : FRm mr e3 := gr.tr rv3
  replace lc : FZc D mc (up2 d3 (D + 13) (p 0 2) x3) := (lc.fr g3).up (Or.inr ⟨by omega, by omega⟩) hD
  have hc : ∀ m16, f_X2_takeSign F (up2 d3 (D + 13) (p 0 2) x3) = some m16 → f_X2_takeHole F mc D = some (up2 m16 D 2 (m16 D 2 + 1)) := fun m16 h16 => by
    unfold f_X2_takeHole
    rw [letv_eq, k0, if_pos (show nI (p 0 2) < (4 : Int32) from nI_lt (b := 4) hh (by decide)), t1, bind2_some, ast_n (i := p 0 2) (by omega) (by decide), Option.bind_some, t2, bind2_some, ast_n (i := p 0 2) (by omega) (by decide), Option.bind_some, t3, bind2_some, ast_n (i := p 0 2) (by omega) (by decide), Option.bind_some, h16, Option.bind_some, letv_eq]
  have hcD : (up2 d3 (D + 13) (p 0 2) x3) D 2 = nI (p 0 2) := by rw [gc.1 D (by omega)]; rw [up2_ne (by omega), up2_ne (by omega), up2_ne (by omega)]; exact k0
  have hrD : e3 113 15 = nI (p 0 2) := by rw [gr.2 15 (by omega)]; exact r0
  have n1 : ∀ m16 : Mm, FRc (up2 d3 (D + 13) (p 0 2) x3) m16 → m16 D 2 + 1 = nI ((p 0 2) + 1) := fun m16 g16 => by rw [g16.1 D (by omega), hcD, nI_1]
  by_cases z : e3 113 27 = 0
  · rcases s3 with s3 | s3
    case inr => exact absurd z (FA_m s3).1
    have hW : f_X9_aHole F mr = some (up2 (up2 (up2 (up2 e3 123 (3 * (p 0 2)) y1) 123 (3 * (p 0 2) + 1) y2) 123 (3 * (p 0 2) + 2) y3) 113 15 (nI ((p 0 2) + 1))) := by
      unfold f_X9_aHole
      rw [rdH_eq, rr1, bind2_some, rr2, bind2_some, rr3, bind2_some, if_pos z]
      rw [hrD, show (3 : Int32) * nI (p 0 2) = nI (3 * (p 0 2)) from ixm 3 _, ast_n (i := 3 * p 0 2) (by omega) (by decide), Option.bind_some]
      rw [up2_ne (show (113 : Nat) ≠ 123 by decide), hrD, show (3 : Int32) * nI (p 0 2) = nI (3 * (p 0 2)) from ixm 3 _, show nI (3 * (p 0 2)) + (1 : Int32) = nI (3 * (p 0 2) + 1) from nI_1 _, ast_n (i := 3 * p 0 2 + 1) (by omega) (by decide), Option.bind_some]
      rw [up2_ne (show (113 : Nat) ≠ 123 by decide), up2_ne (show (113 : Nat) ≠ 123 by decide), hrD, show (3 : Int32) * nI (p 0 2) = nI (3 * (p 0 2)) from ixm 3 _, show nI (3 * (p 0 2)) + (2 : Int32) = nI (3 * (p 0 2) + 2) from nI_add _ 2, ast_n (i := 3 * p 0 2 + 2) (by omega) (by decide), Option.bind_some]
      rw [letv_eq, up2_ne (show (113 : Nat) ≠ 123 by decide), up2_ne (show (113 : Nat) ≠ 123 by decide), up2_ne (show (113 : Nat) ≠ 123 by decide), hrD, nI_1]
    have s14 : SSt n bs (q + 3) (up2 d3 (D + 13) (p 0 2) x3) (up2 (up2 (up2 (up2 e3 123 (3 * (p 0 2)) y1) 123 (3 * (p 0 2) + 1) y2) 123 (3 * (p 0 2) + 2) y3) 113 15 (nI ((p 0 2) + 1))) := SS_fr s3.2.1 (by omega) (fun i _ => by rw [up2_ne (by omega)]) (up2_ne (by omega)) (fun i i1 i2 => by rw [up2_slot (by omega), up2_ne (by decide), up2_ne (by decide), up2_ne (by decide)]) (by rw [up2_ne (by decide), up2_ne (by decide), up2_ne (by decide), up2_ne (by decide)])
    obtain ⟨m16, r16, j1, j2, j3, j4, j5⟩ := zt_sgn (F := F) hF hn hb (Or.inl s14)
    have lr : FZm mr r16 := FZm.fr (FZm.up1 (FZm.up (FZm.up (FZm.up (FZm.fr FZm.rf gr) ⟨by decide, by decide⟩) ⟨by decide, by decide⟩) ⟨by decide, by decide⟩) (by decide)) j4
    refine ⟨_, r16, hc m16 j1, by rw [hW, Option.bind_some, j2], (lc.fr j3).up (Or.inr ⟨by omega, by omega⟩) hD, lr, ?_⟩
    rw [n1 m16 j3]
    rcases j5 with j | j
    case inr => exact Or.inr (FA_upc j (by omega))
    left
    have f1 := s3.2.2.1.1.2
    have f2 := s3.2.2.1.2
    have f3 := s3.2.2.2
    refine ⟨s3.2.2.1.1.1, SS_fr j.2 (by omega) (fun i _ => by rw [up2_ne (by omega)]) (up2_ne (by omega)) (fun _ _ _ => rfl) rfl, adL p (co x1) (co x2) (co x3), adL_W pw hh f1.2.2 ⟨f2.2.1, f2.2.2⟩ ⟨f3.2.1, f3.2.2⟩, ?_, ?_, fun r hr => ?_⟩
    · have y := adL_C (D := D) (v1 := co x1) (v2 := co x2) (v3 := co x3) pc
      rw [nI_co x1, nI_co x2, nI_co x3] at y
      exact PC_FRc y hD ((gc.tr j3).cg (by omega))
    · have y := adL_M (v1 := co x1) (v2 := co x2) (v3 := co x3) (DM_FRm dm gr)
      rw [nI_co x1, nI_co x2, nI_co x3, ← f1.1, ← f2.1, ← f3.1] at y
      rw [← f1.1, ← f2.1, ← f3.1]
      exact DM_FRm y j4
    · rw [up2_ne (by omega), (gc.tr j3).1 3 (by decide), up2_ne (by omega), up2_ne (by omega), up2_ne (by omega), j4.1 126 (by decide), up2_ne (by decide), up2_ne (by decide), up2_ne (by decide), up2_ne (by decide), gr.1 126 (by decide)]
      exact tl r hr
  · have hW : f_X9_aHole F mr = some e3 := by
      unfold f_X9_aHole
      rw [rdH_eq, rr1, bind2_some, rr2, bind2_some, rr3, bind2_some, if_neg z]
    obtain ⟨m16, r16, j1, j2, j3, j4, j5⟩ := zt_sgn (F := F) (mc := (up2 d3 (D + 13) (p 0 2) x3)) (mr := e3) (q := q) hF hn hb (s3.imp (fun w => SS_fr w.2.1 (by omega) (fun i _ => by rw [up2_ne (by omega)]) (up2_ne (by omega)) (fun _ _ _ => rfl) rfl) (fun w => FA_upc w (by omega)))
    refine ⟨_, r16, hc m16 j1, by rw [hW, Option.bind_some, j2], (lc.fr j3).up (Or.inr ⟨by omega, by omega⟩) hD, (FZm.rf.fr gr).fr j4, ?_⟩
    rcases j5 with j | j
    · exact absurd j.1 z
    · exact Or.inr (FA_upc j (by omega))
set_option maxHeartbeats 4000000 in
theorem zt_pump {n : Nat} {bs : Nat → Nat} {mc mr : Mm} {F q D : Nat} {p : AS} (hF : 5000 ≤ F) (hn : n ≤ 400) (hb : ∀ i, i < n → bs i < 256) (hD : isPl D) (h : SSt n bs q mc mr) (dr : DRt D p mc mr) (hh : p 0 3 < 3) : ∃ mc' mr', f_X2_takePump F mc D = some mc' ∧ (f_X9_aPump F mr).bind (sgM F) = some mr' ∧ FZc D mc mc' ∧ FZm mr mr' ∧ ((mr 113 27 = 0 ∧ SSt n bs (q + 1) mc' mr' ∧ ∃ p', DRt D p' mc' mr') ∨ FAt n bs mc' mr') := by
  obtain ⟨pw, pc, dm, tl⟩ := dr
  obtain ⟨⟨l1, l2, l3, l4⟩, -⟩ := id pw
  have hD3 : 40 < D := by rcases hD with rfl | rfl <;> decide
  have k0 : mc D 3 = nI (p 0 3) := pc 0 3 (show 3 < 4 by decide)
  have kh : mc D 0 = nI (p 0 0) := pc 0 0 (show 0 < 4 by decide)
  have r0 : mr 113 17 = nI (p 0 3) := dm.2.2.2.1
  have rh : mr 113 11 = nI (p 0 0) := dm.1
  have gc : FRc mc mc := FRc.rf
  have gr : FRm mr mr := FRm.rf
  have lc : FZc D mc mc := FZc.rf
  obtain ⟨x1, d1, y1, e1, t1, rr1, g1, rv1, s1⟩ := zt_num (F := F) (q := q) (mc := mc) (mr := mr) (E := True) (a1 := 1) (a2 := 9) (c1 := 1) (c2 := 9) (lo := 1) (u := 10) hF hn hb (Or.inl ⟨h, trivial, rfl, rfl, by decide, by decide, by decide, by decide⟩)
  replace gc : FRc (up2 mc (D + 14) (p 0 3) x1) (up2 d1 (D + 14) (p 0 3) x1) := (gc.tr g1).cg (by omega)
  replace gr : FRm mr e1 := gr.tr rv1
  replace lc : FZc D mc (up2 d1 (D + 14) (p 0 3) x1) := (lc.fr g1).up (Or.inr ⟨by omega, by omega⟩) hD
  have eh2 : (up2 d1 (D + 14) (p 0 3) x1) D 0 = nI (p 0 0) := by rw [gc.1 D (by omega)]; rw [up2_ne (by omega)]; exact kh
  have fh2 : e1 113 11 = nI (p 0 0) := by rw [gr.2 11 (by omega)]; exact rh
  obtain ⟨x2, d2, y2, e2, t2, rr2, g2, rv2, s2⟩ := zt_num (F := F) (q := q + 1) (mc := (up2 d1 (D + 14) (p 0 3) x1)) (mr := e1) (E := mr 113 27 = 0 ∧ y1 = x1 ∧ 1 ≤ co x1 ∧ co x1 < 10) (a1 := 0) (a2 := ((up2 d1 (D + 14) (p 0 3) x1) D 0 - (1 : Int32))) (c1 := 0) (c2 := (e1 113 11 - (1 : Int32))) (lo := 0) (u := (p 0 0)) hF hn hb (s1.imp (fun w => ⟨SS_upc w.2.1 (by omega), ⟨w.1, w.2.2.2.1, w.2.2.2.2⟩, rfl, rfl, by rw [eh2], by rw [fh2], by decide, by omega⟩) (fun w => FA_upc w (by omega)))
  replace gc : FRc (up2 (up2 mc (D + 14) (p 0 3) x1) (D + 15) (p 0 3) x2) (up2 d2 (D + 15) (p 0 3) x2) := (gc.tr g2).cg (by omega)
  replace gr : FRm mr e2 := gr.tr rv2
  replace lc : FZc D mc (up2 d2 (D + 15) (p 0 3) x2) := (lc.fr g2).up (Or.inr ⟨by omega, by omega⟩) hD
  have hc : ∀ m16, f_X2_takeSign F (up2 d2 (D + 15) (p 0 3) x2) = some m16 → f_X2_takePump F mc D = some (up2 m16 D 3 (m16 D 3 + 1)) := fun m16 h16 => by
    unfold f_X2_takePump
    rw [letv_eq, k0, if_pos (show nI (p 0 3) < (3 : Int32) from nI_lt (b := 3) hh (by decide)), t1, bind2_some, ast_n (i := p 0 3) (by omega) (by decide), Option.bind_some, t2, bind2_some, ast_n (i := p 0 3) (by omega) (by decide), Option.bind_some, h16, Option.bind_some, letv_eq]
  have hcD : (up2 d2 (D + 15) (p 0 3) x2) D 3 = nI (p 0 3) := by rw [gc.1 D (by omega)]; rw [up2_ne (by omega), up2_ne (by omega)]; exact k0
  have hrD : e2 113 17 = nI (p 0 3) := by rw [gr.2 17 (by omega)]; exact r0
  have n1 : ∀ m16 : Mm, FRc (up2 d2 (D + 15) (p 0 3) x2) m16 → m16 D 3 + 1 = nI ((p 0 3) + 1) := fun m16 g16 => by rw [g16.1 D (by omega), hcD, nI_1]
  by_cases z : e2 113 27 = 0
  · rcases s2 with s2 | s2
    case inr => exact absurd z (FA_m s2).1
    have hW : f_X9_aPump F mr = some (up2 (up2 (up2 e2 124 (2 * (p 0 3)) y1) 124 (2 * (p 0 3) + 1) y2) 113 17 (nI ((p 0 3) + 1))) := by
      unfold f_X9_aPump
      rw [rr1, bind2_some, rdH_eq, rr2, bind2_some, if_pos z]
      rw [hrD, show (2 : Int32) * nI (p 0 3) = nI (2 * (p 0 3)) from ixm 2 _, ast_n (i := 2 * p 0 3) (by omega) (by decide), Option.bind_some]
      rw [up2_ne (show (113 : Nat) ≠ 124 by decide), hrD, show (2 : Int32) * nI (p 0 3) = nI (2 * (p 0 3)) from ixm 2 _, show nI (2 * (p 0 3)) + (1 : Int32) = nI (2 * (p 0 3) + 1) from nI_1 _, ast_n (i := 2 * p 0 3 + 1) (by omega) (by decide), Option.bind_some]
      rw [letv_eq, up2_ne (show (113 : Nat) ≠ 124 by decide), up2_ne (show (113 : Nat) ≠ 124 by decide), hrD, nI_1]
    have s14 : SSt n bs (q + 2) (up2 d2 (D + 15) (p 0 3) x2) (up2 (up2 (up2 e2 124 (2 * (p 0 3)) y1) 124 (2 * (p 0 3) + 1) y2) 113 17 (nI ((p 0 3) + 1))) := SS_fr s2.2.1 (by omega) (fun i _ => by rw [up2_ne (by omega)]) (up2_ne (by omega)) (fun i i1 i2 => by rw [up2_slot (by omega), up2_ne (by decide), up2_ne (by decide)]) (by rw [up2_ne (by decide), up2_ne (by decide), up2_ne (by decide)])
    obtain ⟨m16, r16, j1, j2, j3, j4, j5⟩ := zt_sgn (F := F) hF hn hb (Or.inl s14)
    have lr : FZm mr r16 := FZm.fr (FZm.up1 (FZm.up (FZm.up (FZm.fr FZm.rf gr) ⟨by decide, by decide⟩) ⟨by decide, by decide⟩) (by decide)) j4
    refine ⟨_, r16, hc m16 j1, by rw [hW, Option.bind_some, j2], (lc.fr j3).up (Or.inr ⟨by omega, by omega⟩) hD, lr, ?_⟩
    rw [n1 m16 j3]
    rcases j5 with j | j
    case inr => exact Or.inr (FA_upc j (by omega))
    left
    have f1 := s2.2.2.1.2
    have f2 := s2.2.2.2
    refine ⟨s2.2.2.1.1, SS_fr j.2 (by omega) (fun i _ => by rw [up2_ne (by omega)]) (up2_ne (by omega)) (fun _ _ _ => rfl) rfl, adP p (co x1) (co x2), adP_W pw hh ⟨f1.2.1, f1.2.2⟩ f2.2.2, ?_, ?_, fun r hr => ?_⟩
    · have y := adP_C (D := D) (v1 := co x1) (v2 := co x2) pc
      rw [nI_co x1, nI_co x2] at y
      exact PC_FRc y hD ((gc.tr j3).cg (by omega))
    · have y := adP_M (v1 := co x1) (v2 := co x2) (DM_FRm dm gr)
      rw [nI_co x1, nI_co x2, ← f1.1, ← f2.1] at y
      rw [← f1.1, ← f2.1]
      exact DM_FRm y j4
    · rw [up2_ne (by omega), (gc.tr j3).1 3 (by decide), up2_ne (by omega), up2_ne (by omega), j4.1 126 (by decide), up2_ne (by decide), up2_ne (by decide), up2_ne (by decide), gr.1 126 (by decide)]
      exact tl r hr
  · have hW : f_X9_aPump F mr = some e2 := by
      unfold f_X9_aPump
      rw [rr1, bind2_some, rdH_eq, rr2, bind2_some, if_neg z]
    obtain ⟨m16, r16, j1, j2, j3, j4, j5⟩ := zt_sgn (F := F) (mc := (up2 d2 (D + 15) (p 0 3) x2)) (mr := e2) (q := q) hF hn hb (s2.imp (fun w => SS_fr w.2.1 (by omega) (fun i _ => by rw [up2_ne (by omega)]) (up2_ne (by omega)) (fun _ _ _ => rfl) rfl) (fun w => FA_upc w (by omega)))
    refine ⟨_, r16, hc m16 j1, by rw [hW, Option.bind_some, j2], (lc.fr j3).up (Or.inr ⟨by omega, by omega⟩) hD, (FZm.rf.fr gr).fr j4, ?_⟩
    rcases j5 with j | j
    · exact absurd j.1 z
    · exact Or.inr (FA_upc j (by omega))

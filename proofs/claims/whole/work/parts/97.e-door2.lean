/-! text: a line of a door, all -/
set_option maxHeartbeats 4000000 in
theorem zt_door {n : Nat} {bs : Nat → Nat} {mc mr : Mm} {F q D : Nat} {p : AS} (hF : 5000 ≤ F) (hn : n ≤ 400) (hb : ∀ i, i < n → bs i < 256) (hD : isPl D) (h : SSt n bs q mc mr) (dr : DRt D p mc mr) (hh : p 0 1 < 10) : ∃ mc' mr', f_X2_takeDoor F mc D = some mc' ∧ (f_X9_aDoor F mr).bind (sgM F) = some mr' ∧ FZc D mc mc' ∧ FZm mr mr' ∧ ((mr 113 27 = 0 ∧ SSt n bs (q + 1) mc' mr' ∧ ∃ p', DRt D p' mc' mr') ∨ FAt n bs mc' mr') := by
  obtain ⟨pw, pc, dm, tl⟩ := dr
  obtain ⟨⟨l1, l2, l3, l4⟩, -⟩ := id pw
  have hD3 : 40 < D := by rcases hD with rfl | rfl <;> decide
  have k0 : mc D 1 = nI (p 0 1) := pc 0 1 (show 1 < 4 by decide)
  have kh : mc D 0 = nI (p 0 0) := pc 0 0 (show 0 < 4 by decide)
  have r0 : mr 113 13 = nI (p 0 1) := dm.2.1
  have rh : mr 113 11 = nI (p 0 0) := dm.1
  have gc : FRc mc mc := FRc.rf
  have gr : FRm mr mr := FRm.rf
  have lc : FZc D mc mc := FZc.rf
  obtain ⟨x1, d1, y1, e1, t1, rr1, g1, rv1, s1⟩ := zt_num (F := F) (q := q) (mc := mc) (mr := mr) (E := True) (a1 := 0) (a2 := (mc D 0 - (1 : Int32))) (c1 := 0) (c2 := (mr 113 11 - (1 : Int32))) (lo := 0) (u := (p 0 0)) hF hn hb (Or.inl ⟨h, trivial, rfl, rfl, by rw [kh], by rw [rh], by decide, by omega⟩)
  replace gc : FRc (up2 mc (D + 5) (p 0 1) x1) (up2 d1 (D + 5) (p 0 1) x1) := (gc.tr g1).cg (by omega)
  replace gr : FRm mr e1 := gr.tr rv1
  replace lc : FZc D mc (up2 d1 (D + 5) (p 0 1) x1) := (lc.fr g1).up (Or.inr ⟨by omega, by omega⟩) hD
  have eh2 : (up2 d1 (D + 5) (p 0 1) x1) D 0 = nI (p 0 0) := by rw [gc.1 D (by omega)]; rw [up2_ne (by omega)]; exact kh
  have fh2 : e1 113 11 = nI (p 0 0) := by rw [gr.2 11 (by omega)]; exact rh
  obtain ⟨x2, d2, e2, t2, rr2, g2, rv2, s2⟩ := zt_numE (F := F) (q := q + 1) (mc := (up2 d1 (D + 5) (p 0 1) x1)) (mr := e1) (E := mr 113 27 = 0 ∧ y1 = x1 ∧ 0 ≤ co x1 ∧ co x1 < p 0 0) (a1 := 0) (a2 := ((up2 d1 (D + 5) (p 0 1) x1) D 0 - (1 : Int32))) (c1 := 0) (c2 := (e1 113 11 - (1 : Int32))) (lo := 0) (u := (p 0 0)) hF hn hb (s1.imp (fun w => ⟨SS_upc w.2.1 (by omega), ⟨w.1, w.2.2.2.1, w.2.2.2.2⟩, rfl, rfl, by rw [eh2], by rw [fh2], by decide, by omega⟩) (fun w => FA_upc w (by omega)))
  replace gc : FRc (up2 (up2 mc (D + 5) (p 0 1) x1) (D + 6) (p 0 1) x2) (up2 d2 (D + 6) (p 0 1) x2) := (gc.tr g2).cg (by omega)
  replace gr : FRm mr e2 := gr.tr rv2
  replace lc : FZc D mc (up2 d2 (D + 6) (p 0 1) x2) := (lc.fr g2).up (Or.inr ⟨by omega, by omega⟩) hD
  have a8 : up2 d2 (D + 6) (p 0 1) x2 (D + 6) (p 0 1) = x2 := up2_same
  have a9 : up2 d2 (D + 6) (p 0 1) x2 (D + 5) (p 0 1) = x1 := by rw [up2_ne (by omega), g2.1 (D + 5) (by omega), up2_same]
  obtain ⟨c3, r7, r3, w1, w2, w3, w4, w5, s3⟩ := zt_unlike (F := F) (q := q + 1) (c := up2 d2 (D + 6) (p 0 1) x2) (r := e2) (x1 := x1) (x2 := x2) (y1 := y1) (E := (mr 113 27 = 0 ∧ y1 = x1 ∧ 0 ≤ co x1 ∧ co x1 < p 0 0) ∧ e2 113 26 = x2 ∧ 0 ≤ co x2 ∧ co x2 < p 0 0) hF hn hb (s2.imp (fun w => by
    obtain ⟨-, ⟨f, e, hA⟩, hE, hx⟩ := w
    exact ⟨⟨f, e, AT_upc hA (by omega)⟩, ⟨hE, hx⟩, hx.1, hE.2.1⟩) (fun w => FA_upc w (by omega)))
  replace gc : FRc (up2 (up2 mc (D + 5) (p 0 1) x1) (D + 6) (p 0 1) x2) c3 := gc.tr w4
  replace gr : FRm mr r3 := gr.tr w5
  replace lc : FZc D mc c3 := lc.fr w4
  obtain ⟨x3, d3, y3, e3, t3, rr3, g3, rv3, s4⟩ := zt_num (F := F) (q := q + 1 + 1) (mc := c3) (mr := r3) (E := ((mr 113 27 = 0 ∧ y1 = x1 ∧ 0 ≤ co x1 ∧ co x1 < p 0 0) ∧ e2 113 26 = x2 ∧ 0 ≤ co x2 ∧ co x2 < p 0 0) ∧ x1 ≠ x2) (a1 := 0) (a2 := 12) (c1 := 0) (c2 := 12) (lo := 0) (u := 13) hF hn hb (s3.imp (fun w => ⟨w.1, w.2, rfl, rfl, by decide, by decide, by decide, by decide⟩) id)
  replace gc : FRc (up2 (up2 (up2 mc (D + 5) (p 0 1) x1) (D + 6) (p 0 1) x2) (D + 7) (p 0 1) x3) (up2 d3 (D + 7) (p 0 1) x3) := (gc.tr g3).cg (by omega)
  replace gr : FRm mr e3 := gr.tr rv3
  replace lc : FZc D mc (up2 d3 (D + 7) (p 0 1) x3) := (lc.fr g3).up (Or.inr ⟨by omega, by omega⟩) hD
  obtain ⟨x4, d4, y4, e4, t4, rr4, g4, rv4, s5⟩ := zt_num (F := F) (q := q + 1 + 1 + 1) (mc := up2 d3 (D + 7) (p 0 1) x3) (mr := e3) (E := (((mr 113 27 = 0 ∧ y1 = x1 ∧ 0 ≤ co x1 ∧ co x1 < p 0 0) ∧ e2 113 26 = x2 ∧ 0 ≤ co x2 ∧ co x2 < p 0 0) ∧ x1 ≠ x2) ∧ y3 = x3 ∧ 0 ≤ co x3 ∧ co x3 < 13) (a1 := 1) (a2 := 9) (c1 := 1) (c2 := 9) (lo := 1) (u := 10) hF hn hb (s4.imp (fun w => ⟨SS_upc w.2.1 (by omega), ⟨w.2.2.1, w.2.2.2.1, w.2.2.2.2⟩, rfl, rfl, by decide, by decide, by decide, by decide⟩) (fun w => FA_upc w (by omega)))
  replace gc : FRc (up2 (up2 (up2 (up2 mc (D + 5) (p 0 1) x1) (D + 6) (p 0 1) x2) (D + 7) (p 0 1) x3) (D + 8) (p 0 1) x4) (up2 d4 (D + 8) (p 0 1) x4) := (gc.tr g4).cg (by omega)
  replace gr : FRm mr e4 := gr.tr rv4
  replace lc : FZc D mc (up2 d4 (D + 8) (p 0 1) x4) := (lc.fr g4).up (Or.inr ⟨by omega, by omega⟩) hD
  obtain ⟨x5, d5, y5, e5, t5, rr5, g5, rv5, s6⟩ := zt_num (F := F) (q := q + 1 + 1 + 1 + 1) (mc := up2 d4 (D + 8) (p 0 1) x4) (mr := e4) (E := ((((mr 113 27 = 0 ∧ y1 = x1 ∧ 0 ≤ co x1 ∧ co x1 < p 0 0) ∧ e2 113 26 = x2 ∧ 0 ≤ co x2 ∧ co x2 < p 0 0) ∧ x1 ≠ x2) ∧ y3 = x3 ∧ 0 ≤ co x3 ∧ co x3 < 13) ∧ y4 = x4 ∧ 1 ≤ co x4 ∧ co x4 < 10) (a1 := 1) (a2 := 9) (c1 := 1) (c2 := 9) (lo := 1) (u := 10) hF hn hb (s5.imp (fun w => ⟨SS_upc w.2.1 (by omega), ⟨w.2.2.1, w.2.2.2.1, w.2.2.2.2⟩, rfl, rfl, by decide, by decide, by decide, by decide⟩) (fun w => FA_upc w (by omega)))
  replace gc : FRc (up2 (up2 (up2 (up2 (up2 mc (D + 5) (p 0 1) x1) (D + 6) (p 0 1) x2) (D + 7) (p 0 1) x3) (D + 8) (p 0 1) x4) (D + 9) (p 0 1) x5) (up2 d5 (D + 9) (p 0 1) x5) := (gc.tr g5).cg (by omega)
  replace gr : FRm mr e5 := gr.tr rv5
  replace lc : FZc D mc (up2 d5 (D + 9) (p 0 1) x5) := (lc.fr g5).up (Or.inr ⟨by omega, by omega⟩) hD
  obtain ⟨m23, x24, c6, z, r6, b1, b2, b3, b4, b5, b6, b7, b8, b9, s7⟩ := zt_shut (F := F) (q := q) (c := up2 d5 (D + 9) (p 0 1) x5) (r := e5) (a := D + 10) (i := p 0 1) (E := (((((mr 113 27 = 0 ∧ y1 = x1 ∧ 0 ≤ co x1 ∧ co x1 < p 0 0) ∧ e2 113 26 = x2 ∧ 0 ≤ co x2 ∧ co x2 < p 0 0) ∧ x1 ≠ x2) ∧ y3 = x3 ∧ 0 ≤ co x3 ∧ co x3 < 13) ∧ y4 = x4 ∧ 1 ≤ co x4 ∧ co x4 < 10) ∧ y5 = x5 ∧ 1 ≤ co x5 ∧ co x5 < 10) hF hn hb (by omega) (s6.imp (fun w => ⟨SS_fr w.2.1 (by omega) (fun i _ => by rw [up2_ne (by omega)]) (up2_ne (by omega)) (fun _ _ _ => rfl) rfl, w.2.2.1, w.2.2.2.1, w.2.2.2.2⟩) (fun w => FA_upc w (by omega)))
  generalize hx6 : (if x24 = 0 then 1 else 0 : Int32) = x6 at b5 b6
  replace gc : FRc (up2 (up2 (up2 (up2 (up2 (up2 mc (D + 5) (p 0 1) x1) (D + 6) (p 0 1) x2) (D + 7) (p 0 1) x3) (D + 8) (p 0 1) x4) (D + 9) (p 0 1) x5) (D + 10) (p 0 1) x6) c6 := ((gc.tr b4).cg (by omega)).tr b6
  replace gr : FRm mr r6 := gr.tr b9
  replace lc : FZc D mc c6 := ((lc.fr b4).up (Or.inr ⟨by omega, by omega⟩) hD).fr b6
  have y26 : (if x24 = 0 then (some 1) else (some 0) : Option (Int32)) = some x6 := by
    rw [← hx6]
    rcases b3 with rfl | rfl
    · rw [if_pos rfl, if_pos rfl]
    · rw [if_neg n10, if_neg n10]
  have hc : ∀ m7, sgC c6 = some m7 → f_X2_takeDoor F mc D = some (up2 m7 D 1 (m7 D 1 + 1)) := fun m7 h7 => by
    unfold sgC at h7
    unfold f_X2_takeDoor
    rw [letv_eq, k0, if_pos (show nI (p 0 1) < (10 : Int32) from nI_lt (b := 10) hh (by decide)), t1, bind2_some, ast_n (i := p 0 1) (by omega) (by decide), Option.bind_some, t2, bind2_some, ast_n (i := p 0 1) (by omega) (by decide), Option.bind_some, ald_n (i := p 0 1) (by omega) (by decide), Option.bind_some, ald_n (i := p 0 1) (by omega) (by decide), Option.bind_some, a8, a9, w1, Option.bind_some, t3, bind2_some, ast_n (i := p 0 1) (by omega) (by decide), Option.bind_some, t4, bind2_some, ast_n (i := p 0 1) (by omega) (by decide), Option.bind_some, t5, bind2_some, ast_n (i := p 0 1) (by omega) (by decide), Option.bind_some, b1, Option.bind_some, b2, Option.bind_some, y26, Option.bind_some, ast_n (i := p 0 1) (by omega) (by decide), Option.bind_some, b5, Option.bind_some, h7, Option.bind_some, letv_eq]
  have hcD : c6 D 1 = nI (p 0 1) := by rw [gc.1 D (by omega)]; rw [up2_ne (by omega), up2_ne (by omega), up2_ne (by omega), up2_ne (by omega), up2_ne (by omega), up2_ne (by omega)]; exact k0
  have hrD : r6 113 13 = nI (p 0 1) := by rw [gr.2 13 (by omega)]; exact r0
  have n1 : ∀ m16 : Mm, FRc c6 m16 → m16 D 1 + 1 = nI ((p 0 1) + 1) := fun m16 g16 => by rw [g16.1 D (by omega), hcD, nI_1]
  have y30 : ((if z = 0 then (some 1) else (some 0) : Option (Int32)).bind fun y30 => f_X9_flag y30) = some (if z = 0 then 1 else 0) := by
    by_cases q : z = 0
    · rw [if_pos q, if_pos q, Option.bind_some]; rfl
    · rw [if_neg q, if_neg q, Option.bind_some]; rfl
  have hR : f_X9_aDoor F mr = if (r6 113 27) = 0 then some (up2 (up2 (up2 (up2 (up2 (up2 (up2 r6 122 (6 * p 0 1) y1) 122 (6 * p 0 1 + 1) (e2 113 26)) 122 (6 * p 0 1 + 2) y3) 122 (6 * p 0 1 + 3) y4) 122 (6 * p 0 1 + 4) y5) 122 (6 * p 0 1 + 5) (if z = 0 then 1 else 0)) 113 13 (nI (p 0 1 + 1))) else some r6 := by
    unfold f_X9_aDoor
    rw [letv_eq, r0, show (6 : Int32) * nI (p 0 1) = nI (6 * p 0 1) from ixm 6 _, rdH_eq, rr1, bind2_some, rr2, Option.bind_some, letv_eq, w2, Option.bind_some, w3, Option.bind_some, rr3, bind2_some, rr4, bind2_some, rr5, bind2_some, b7, Option.bind_some, b8, Option.bind_some]
    by_cases q : r6 113 27 = 0
    · rw [if_pos q, if_pos q, show nI (6 * p 0 1) + (1 : Int32) = nI (6 * p 0 1 + 1) from nI_1 _, show nI (6 * p 0 1) + (2 : Int32) = nI (6 * p 0 1 + 2) from nI_add _ 2, show nI (6 * p 0 1) + (3 : Int32) = nI (6 * p 0 1 + 3) from nI_add _ 3, show nI (6 * p 0 1) + (4 : Int32) = nI (6 * p 0 1 + 4) from nI_add _ 4, show nI (6 * p 0 1) + (5 : Int32) = nI (6 * p 0 1 + 5) from nI_add _ 5]
      rw [ast_n (i := 6 * p 0 1) (by omega) (by decide), Option.bind_some, ast_n (i := 6 * p 0 1 + 1) (by omega) (by decide), Option.bind_some, ast_n (i := 6 * p 0 1 + 2) (by omega) (by decide), Option.bind_some, ast_n (i := 6 * p 0 1 + 3) (by omega) (by decide), Option.bind_some, ast_n (i := 6 * p 0 1 + 4) (by omega) (by decide), Option.bind_some]
      rw [← Option.bind_assoc, y30, Option.bind_some, ast_n (i := 6 * p 0 1 + 5) (by omega) (by decide), Option.bind_some, letv_eq, up2_ne (show (113 : Nat) ≠ 122 by decide), up2_ne (show (113 : Nat) ≠ 122 by decide), up2_ne (show (113 : Nat) ≠ 122 by decide), up2_ne (show (113 : Nat) ≠ 122 by decide), up2_ne (show (113 : Nat) ≠ 122 by decide), up2_ne (show (113 : Nat) ≠ 122 by decide), hrD, nI_1]
    · rw [if_neg q, if_neg q]
  by_cases z0 : r6 113 27 = 0
  · rw [if_pos z0] at hR
    rcases s7 with s7 | s7
    case inr => exact absurd z0 (FA_m s7).1
    obtain ⟨⟨f, k, e, hA⟩, z27, hE, hz⟩ := s7
    have hx6' : (if z = 0 then 1 else 0 : Int32) = x6 := by rw [hz]; exact hx6
    rw [hx6'] at hR
    have s14 : ATt n bs q f k e c6 (up2 (up2 (up2 (up2 (up2 (up2 (up2 r6 122 (6 * p 0 1) y1) 122 (6 * p 0 1 + 1) (e2 113 26)) 122 (6 * p 0 1 + 2) y3) 122 (6 * p 0 1 + 3) y4) 122 (6 * p 0 1 + 4) y5) 122 (6 * p 0 1 + 5) x6) 113 13 (nI (p 0 1 + 1))) := AT_fr hA (fun _ _ => rfl) rfl (fun i i1 i2 => by rw [up2_slot (by omega), up2_ne (by decide), up2_ne (by decide), up2_ne (by decide), up2_ne (by decide), up2_ne (by decide), up2_ne (by decide)]) (by rw [up2_ne (by decide), up2_ne (by decide), up2_ne (by decide), up2_ne (by decide), up2_ne (by decide), up2_ne (by decide), up2_ne (by decide)])
    obtain ⟨m16, r16, j1, j2, j3, j4, j5⟩ := zt_sgnA (F := F) (q := q) hF hn hb (Or.inl ⟨f, k, e, s14⟩)
    have lr : FZm mr r16 := FZm.fr (FZm.up1 (FZm.up (FZm.up (FZm.up (FZm.up (FZm.up (FZm.up (FZm.fr FZm.rf gr) ⟨by decide, by decide⟩) ⟨by decide, by decide⟩) ⟨by decide, by decide⟩) ⟨by decide, by decide⟩) ⟨by decide, by decide⟩) ⟨by decide, by decide⟩) (by decide)) j4
    refine ⟨_, r16, hc m16 j1, by rw [hR, Option.bind_some, j2], (lc.fr j3).up (Or.inr ⟨by omega, by omega⟩) hD, lr, ?_⟩
    rw [n1 m16 j3]
    rcases j5 with j | j
    case inr => exact Or.inr (FA_upc j (by omega))
    left
    obtain ⟨⟨⟨⟨⟨⟨zz, f1⟩, f2⟩, fne⟩, f3⟩, f4⟩, f5⟩ := hE
    have f6 : co x6 < 2 := by
      rw [← hx6]
      rcases b3 with rfl | rfl
      · rw [if_pos rfl]; decide
      · rw [if_neg n10]; decide
    refine ⟨zz, SS_fr j.2 (by omega) (fun i _ => by rw [up2_ne (by omega)]) (up2_ne (by omega)) (fun _ _ _ => rfl) rfl, adD p (co x1) (co x2) (co x3) (co x4) (co x5) (co x6), adD_W pw hh f1.2.2 f2.2.2 (fun q => fne (by rw [← nI_co x1, q, nI_co])) f3.2.2 ⟨f4.2.1, f4.2.2⟩ ⟨f5.2.1, f5.2.2⟩ f6, ?_, ?_, fun r hr => ?_⟩
    · have y := adD_C (D := D) (v1 := co x1) (v2 := co x2) (v3 := co x3) (v4 := co x4) (v5 := co x5) (v6 := co x6) pc
      rw [nI_co x1, nI_co x2, nI_co x3, nI_co x4, nI_co x5, nI_co x6] at y
      exact PC_FRc y hD ((gc.tr j3).cg (by omega))
    · have y := adD_M (v1 := co x1) (v2 := co x2) (v3 := co x3) (v4 := co x4) (v5 := co x5) (v6 := co x6) (DM_FRm dm gr)
      rw [nI_co x1, nI_co x2, nI_co x3, nI_co x4, nI_co x5, nI_co x6] at y
      rw [f1.1, f2.1, f3.1, f4.1, f5.1] at j4
      exact DM_FRm y j4
    · rw [up2_ne (by omega), (gc.tr j3).1 3 (by decide), up2_ne (by omega), up2_ne (by omega), up2_ne (by omega), up2_ne (by omega), up2_ne (by omega), up2_ne (by omega), j4.1 126 (by decide), up2_ne (by decide), up2_ne (by decide), up2_ne (by decide), up2_ne (by decide), up2_ne (by decide), up2_ne (by decide), up2_ne (by decide), gr.1 126 (by decide)]
      exact tl r hr
  · rw [if_neg z0] at hR
    obtain ⟨m16, r16, j1, j2, j3, j4, j5⟩ := zt_sgnA (F := F) (mc := c6) (mr := r6) (q := q) hF hn hb (s7.imp (fun w => w.1) id)
    refine ⟨_, r16, hc m16 j1, by rw [hR, Option.bind_some, j2], (lc.fr j3).up (Or.inr ⟨by omega, by omega⟩) hD, (FZm.rf.fr gr).fr j4, ?_⟩
    rcases j5 with j | j
    · exact absurd j.1 z0
    · exact Or.inr (FA_upc j (by omega))

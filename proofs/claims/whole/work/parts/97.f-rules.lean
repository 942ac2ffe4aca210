/-! text: a line of a rule; the reference's line in pieces -/
theorem need1 {m : Mm} {v : Int32} : f_X9_needs m 1 v = some m := by unfold f_X9_needs; rw [if_neg n10]
theorem bind_id {o : Option Mm} : (o.bind fun m => some m) = o := by cases o <;> rfl
theorem PW_R {p : AS} {r v : Nat} (hp : PW p) (h : (r = 0 ∧ 1 ≤ v ∧ v ≤ 3) ∨ (r = 1 ∧ v ≤ 800) ∨ (r = 2 ∧ v ≤ 99) ∨ (r = 3 ∧ v ≤ 99) ∨ (r = 4 ∧ v ≤ 7)) : PW (u3 p 16 r v) := by
  have e : ∀ j, j ≠ 16 → u3 p 16 r v j = p j := fun j hj => u3_r hj
  obtain ⟨w0, w1, w2, w3, w4, w5⟩ := hp
  have e0 : ∀ i, u3 p 16 r v 16 i = if i = r then v else p 16 i := fun i => by
    by_cases q : i = r
    · rw [if_pos q, q, u3_same]
    · rw [if_neg q, u3_i q]
  refine ⟨?_, ?_, ?_, ?_, ?_, ?_⟩
  · unfold PL; rw [e 0 (by decide)]; exact w0
  · rw [e 0 (by decide), e 1 (by decide), e 2 (by decide), e 3 (by decide), e 4 (by decide)]; exact w1
  · rw [e 0 (by decide), e 5 (by decide), e 6 (by decide), e 7 (by decide), e 8 (by decide), e 9 (by decide), e 10 (by decide)]; exact w2
  · rw [e 0 (by decide), e 11 (by decide), e 12 (by decide), e 13 (by decide)]; exact w3
  · rw [e 0 (by decide), e 14 (by decide), e 15 (by decide)]; exact w4
  · rw [e0, e0, e0, e0, e0]
    rcases h with ⟨rfl, h⟩ | ⟨rfl, h⟩ | ⟨rfl, h⟩ | ⟨rfl, h⟩ | ⟨rfl, h⟩ <;> simp <;> omega
theorem DM_R {p : AS} {m : Mm} {r v : Nat} (h : DM p m) (hr : r < 5) : DM (u3 p 16 r v) (up2 m 125 r (nI v)) := by
  have e : ∀ j, j ≠ 16 → u3 p 16 r v j = p j := fun j hj => u3_r hj
  obtain ⟨d1, d2, d3, d4, d5, d6, d7, d8, d9⟩ := h
  refine ⟨?_, ?_, ?_, ?_, fun h hh k hk => ?_, fun h hh k hk => ?_, fun h hh k hk => ?_, fun h hh k hk => ?_, fun k hk => ?_⟩
  · rw [e 0 (by decide), up2_ne (by decide)]; exact d1
  · rw [e 0 (by decide), up2_ne (by decide)]; exact d2
  · rw [e 0 (by decide), up2_ne (by decide)]; exact d3
  · rw [e 0 (by decide), up2_ne (by decide)]; exact d4
  · rw [e 0 (by decide)] at hh; rw [e _ (by omega), up2_ne (by decide)]; exact d5 h hh k hk
  · rw [e 0 (by decide)] at hh; rw [e _ (by omega), up2_ne (by decide)]; exact d6 h hh k hk
  · rw [e 0 (by decide)] at hh; rw [e _ (by omega), up2_ne (by decide)]; exact d7 h hh k hk
  · rw [e 0 (by decide)] at hh; rw [e _ (by omega), up2_ne (by decide)]; exact d8 h hh k hk
  · by_cases q : k = r
    · subst q; rw [up2_same, u3_same]
    · rw [up2_slot q, u3_i q]; exact d9 k hk
theorem SS_m {n : Nat} {bs : Nat → Nat} {q : Nat} {mc mr : Mm} (h : SSt n bs q mc mr) : mr 113 27 = 0 ∨ (¬ mr 113 27 = 0 ∧ ¬ mr 113 27 ≤ 0) := by
  obtain ⟨pos, f, k, e, -, -, -, -, -, -, -, -, -, -, -, h6, h7⟩ := h
  by_cases w : badT k f e
  · right
    rw [(h6 w).1]
    decide
  · exact Or.inl (h7 w)
theorem zt_rule {n : Nat} {bs : Nat → Nat} {mc mr : Mm} {F q D r lo u : Nat} {p : AS} {a2 a3 c1 c2 : Int32} (hF : 5000 ≤ F) (hn : n ≤ 400) (hb : ∀ i, i < n → bs i < 256) (hD : isPl D) (h : SSt n bs q mc mr) (dr : DRt D p mc mr) (hr : r < 5) (e1 : a2 = nI lo) (e2 : c1 = nI lo) (e3 : a3 = nI u - 1) (e4 : c2 = nI u - 1) (hlo : lo < 2 ^ 20) (hu : u < 2 ^ 20) (hW : ∀ v, lo ≤ v → v < u → PW (u3 p 16 r v)) : ∃ mc' mr', (bind2 (f_X2_takeNumber F mc a2 a3) fun x3 m4 => (ast m4 (D + 16) 5 (nI r) x3).bind fun m5 => (f_X2_takeSign F m5).bind fun m7 => some m7) = some mc' ∧ (if (mr 113 27) ≤ 0 then ((bind2 (f_X9_readNumber F mr c1 c2) fun x33 m34 => (ast m34 125 5 (nI r) x33).bind fun m35 => some m35).bind (sgM F)) else some mr) = some mr' ∧ FZc D mc mc' ∧ FZm mr mr' ∧ ((SSt n bs (q + 1) mc' mr' ∧ ∃ p', DRt D p' mc' mr') ∨ FAt n bs mc' mr') := by
  obtain ⟨pw, pc, dm, tl⟩ := dr
  have hD3 : 40 < D := by rcases hD with rfl | rfl <;> decide
  obtain ⟨x, d1, y, e1', t1, rr1, g1, v1, s1⟩ := zt_num (F := F) (q := q) (mc := mc) (mr := mr) (E := True) (a1 := a2) (a2 := a3) (c1 := c1) (c2 := c2) (lo := lo) (u := u) hF hn hb (Or.inl ⟨h, trivial, e1, e2, e3, e4, hlo, hu⟩)
  have gc : FRc (up2 mc (D + 16) r x) (up2 d1 (D + 16) r x) := g1.cg (by omega)
  have lc : FZc D mc (up2 d1 (D + 16) r x) := (FZc.rf.fr g1).up (Or.inr ⟨by omega, by omega⟩) hD
  have hc : ∀ m7, f_X2_takeSign F (up2 d1 (D + 16) r x) = some m7 → (bind2 (f_X2_takeNumber F mc a2 a3) fun x3 m4 => (ast m4 (D + 16) 5 (nI r) x3).bind fun m5 => (f_X2_takeSign F m5).bind fun m7 => some m7) = some m7 := fun m7 h7 => by
    rw [t1, bind2_some, ast_n hr (by decide), Option.bind_some, h7, Option.bind_some]
  rcases SS_m h with z | ⟨z, z2⟩
  · have z2 : mr 113 27 ≤ 0 := by rw [z]; exact Int32.le_refl _
    have hR : (bind2 (f_X9_readNumber F mr c1 c2) fun x33 m34 => (ast m34 125 5 (nI r) x33).bind fun m35 => some m35) = some (up2 e1' 125 r y) := by
      rw [rr1, bind2_some, ast_n hr (by decide), Option.bind_some]
    have s2 : (SSt n bs q (up2 d1 (D + 16) r x) (up2 e1' 125 r y) ∨ FAt n bs (up2 d1 (D + 16) r x) (up2 e1' 125 r y)) := s1.imp (fun w => SS_fr w.2.1 (by omega) (fun i _ => by rw [up2_ne (by omega)]) (up2_ne (by omega)) (fun _ _ _ => by rw [up2_ne (by decide)]) (up2_ne (by decide))) (fun w => FA_fr w (fun i _ => by rw [up2_ne (by omega)]) (up2_ne (by omega)) (fun _ _ _ => by rw [up2_ne (by decide)]))
    obtain ⟨m16, r16, j1, j2, j3, j4, j5⟩ := zt_sgn (F := F) hF hn hb s2
    refine ⟨m16, r16, hc m16 j1, by rw [if_pos z2, hR, Option.bind_some, j2], lc.fr j3, ((FZm.rf.fr v1).up ⟨by decide, by decide⟩).fr j4, ?_⟩
    rcases j5 with j | j
    · left
      rcases s1 with s1 | s1
      · refine ⟨j.2, u3 p 16 r (co x), hW _ s1.2.2.2.2.1 s1.2.2.2.2.2, ?_, ?_, fun k hk => ?_⟩
        · have w := PC_set (j := 16) (i := r) (v := co x) pc (by decide)
          rw [nI_co] at w
          exact PC_FRc w hD (gc.tr j3)
        · have w := DM_R (r := r) (v := co x) (DM_FRm dm v1) hr
          rw [nI_co] at w
          rw [s1.2.2.2.1] at j4
          exact DM_FRm w j4
        · rw [(gc.tr j3).1 3 (by decide), up2_ne (by omega), j4.1 126 (by decide), up2_ne (by decide), v1.1 126 (by decide)]
          exact tl k hk
      · exact absurd (by rw [up2_ne (by decide)] at j; exact j.1) (FA_m s1).1
    · exact Or.inr j
  · have w := m_rnF (F := F) (a := c1) (b := c2) z z2
    rw [rr1] at w
    obtain ⟨-, rfl⟩ := Prod.mk.inj (Option.some.inj w)
    have s2 : FAt n bs (up2 d1 (D + 16) r x) e1' := by
      rcases s1 with s1 | s1
      · exact absurd s1.1 z
      · exact FA_upc s1 (by omega)
    obtain ⟨m16, r16, j1, j2, j3, j4, j5⟩ := zt_sgn (F := F) (q := q) hF hn hb (Or.inr s2)
    rw [sgM_F z z2] at j2
    obtain rfl := Option.some.inj j2
    refine ⟨m16, _, hc m16 j1, if_neg z2, lc.fr j3, FZm.rf, ?_⟩
    rcases j5 with j | j
    · exact absurd j.1 z
    · exact Or.inr j

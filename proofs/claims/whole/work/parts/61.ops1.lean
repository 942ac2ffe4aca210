/-! now, put, go, keep, back -/
theorem plne {P : Nat} (hP : isPl P) {C : Nat} (hC : C < 43) : ∀ j, j < 17 → P + j ≠ C := fun j hj => by
  rcases hP with rfl | rfl <;> omega
theorem sm_39 {m : Mm} {i : Nat} {v : Int32} : Sm m (up2 m 39 i v) := ⟨fun b _ _ _ _ _ h _ _ _ _ _ => up2_ne h, fun i _ => up2_cell (by decide), fun i _ => up2_cell (by decide), fun i _ _ _ _ => up2_cell (by decide)⟩
theorem Sm.tr {m m1 m2 : Mm} (h1 : Sm m m1) (h2 : Sm m1 m2) : Sm m m2 := ⟨fun b q1 q2 q3 q4 q5 q6 q7 q8 q9 q10 q11 => (h2.1 b q1 q2 q3 q4 q5 q6 q7 q8 q9 q10 q11).trans (h1.1 b q1 q2 q3 q4 q5 q6 q7 q8 q9 q10 q11), fun i hi => (h2.2.1 i hi).trans (h1.2.1 i hi), fun i hi => (h2.2.2.1 i hi).trans (h1.2.2.1 i hi), fun i q1 q2 q3 q4 => (h2.2.2.2 i q1 q2 q3 q4).trans (h1.2.2.2 i q1 q2 q3 q4)⟩
theorem Sm.rf {m : Mm} : Sm m m := ⟨fun _ _ _ _ _ _ _ _ _ _ _ _ => rfl, fun _ _ => rfl, fun _ _ => rfl, fun _ _ _ _ _ => rfl⟩
theorem FQ.sm {m m1 : Mm} (h : FQ m m1) : Sm m m1 := ⟨fun b _ _ _ _ _ _ q7 q8 q9 q10 q11 => h.1 b q7 q8 q9 q10 q11, fun i _ => by rw [h.1 34 (by decide) (by decide) (by decide) (by decide) (by decide)], h.2.1, h.2.2⟩
theorem FG.sm {m m1 : Mm} (h : FG 18 m m1) : Sm m m1 := ⟨fun b q1 _ _ _ _ _ _ _ _ _ _ => h b q1, fun i _ => by rw [h 34 (by omega)], fun i _ => by rw [h 114 (by omega)], fun i _ _ _ _ => by rw [h 113 (by omega)]⟩
theorem sm_scl {m : Mm} {p : AS} {w : Nat → Nat} : Sm m (scl m 39 p w) := sm_39.tr (sm_39.tr sm_39)
theorem G_alt {c : Nat} {m : Mm} {P D : Nat} {T : Option Nat} (h : G c m P D T) : isPl P ∧ isPl D ∧ P ≠ D ∧ ∃ p s, PW p ∧ SI p (120 * c) s ∧ FI s ∧ (PC p m P ∧ PM p m ∧ RC p s m 4 ∧ RM p s m 0) ∧ GI p (120 * c) m ∧ GR m ∧ GT m ∧ GS m ∧ GO m ∧ GK p s m := h
theorem PM_Sm {p : AS} {m m2 : Mm} (h : PM p m) (hs : Sm m m2) : PM p m2 := by
  obtain ⟨e1, e2, e3, e4⟩ := hs
  unfold PM
  rw [e4 2 (by decide) (by decide) (by decide) (by decide), e4 4 (by decide) (by decide) (by decide) (by decide), e4 6 (by decide) (by decide) (by decide) (by decide), e4 8 (by decide) (by decide) (by decide) (by decide)]
  rw [e1 116 (by omega) (by decide) (by decide) (by decide) (by decide) (by decide) (by decide) (by decide) (by decide) (by decide) (by decide), e1 117 (by omega) (by decide) (by decide) (by decide) (by decide) (by decide) (by decide) (by decide) (by decide) (by decide) (by decide), e1 118 (by omega) (by decide) (by decide) (by decide) (by decide) (by decide) (by decide) (by decide) (by decide) (by decide) (by decide), e1 119 (by omega) (by decide) (by decide) (by decide) (by decide) (by decide) (by decide) (by decide) (by decide) (by decide) (by decide), e1 120 (by omega) (by decide) (by decide) (by decide) (by decide) (by decide) (by decide) (by decide) (by decide) (by decide) (by decide)]
  exact h
theorem RM_Sm {p s : AS} {m m2 : Mm} (hp : PW p) (hz : s 6 0 ≤ 12) (h : RM p s m 0) (hs : Sm m m2) : RM p s m2 0 := RM_fr hp.1 hz h (fun i _ q => hs.2.2.1 i (by omega))
theorem RC_Sm {p s : AS} {m m2 : Mm} (h : RC p s m 4) (hs : Sm m m2) : RC p s m2 4 := RC_fr h (fun j hj i _ => by rw [hs.1 (4 + j) (by omega) (by omega) (by omega) (by omega) (by omega) (by omega) (by omega) (by omega) (by omega) (by omega) (by omega)])
theorem PC_Sm {p : AS} {m m2 : Mm} {P : Nat} (hP : isPl P) (h : PC p m P) (hs : Sm m m2) : PC p m2 P := PC_fr h (fun j hj => by
  have := isPl_le hP
  have : 43 ≤ P := by rcases hP with rfl | rfl <;> decide
  exact hs.1 (P + j) (by omega) (by omega) (by omega) (by omega) (by omega) (by omega) (by omega) (by omega) (by omega) (by omega) (by omega))
theorem m_under {p s : AS} {m : Mm} (hp : PW p) (hz : s 6 0 ≤ 12) (rm : RM p s m 0) : ald m 114 512 71 = some (nI (s 0 0)) ∧ ald m 114 512 72 = some (nI (s 0 1)) ∧ ald m 114 512 73 = some (nI (s 0 2)) ∧ ald m 114 512 74 = some (nI (s 15 0)) ∧ ald m 114 512 75 = some (nI (s 16 0)) ∧ ald m 114 512 76 = some (nI (s 6 0)) :=
  ⟨M_ld rm hp.1 hz (by decide) 0 0 (by show 0 < 3; decide) rfl, M_ld rm hp.1 hz (by decide) 0 1 (by show 1 < 3; decide) rfl, M_ld rm hp.1 hz (by decide) 0 2 (by show 2 < 3; decide) rfl, M_ld rm hp.1 hz (by decide) 15 0 (by show 0 < 1; decide) rfl, M_ld rm hp.1 hz (by decide) 16 0 (by show 0 < 1; decide) rfl, M_ld rm hp.1 hz (by decide) 6 0 (by show 0 < 1; decide) rfl⟩
theorem op_now {F c : Nat} (hF : 5000 ≤ F) : OP_now F (G c) (G (c + 1)) := by
  intro m P D T hG a1
  obtain ⟨hP, hD, hPD, p, s, hp, hI, hFI, ⟨pc, pm, rc, rm⟩, gi, gr, gt, gs, go, gk⟩ := G_alt hG
  obtain ⟨⟨l1, l2, l3, l4⟩, -⟩ := id hp
  obtain ⟨hw, ho, hy⟩ := id hI
  have hz := ho.1
  have e1 : f_X3_weigh F m 39 P 5 0 = some (scl m 39 p (s 1)) := c_weigh hp.1 pc (plne hP (by decide)) (by decide) (fun h hh => by
    rw [if_neg (bit0 h (by omega))]
    exact rc 1 h hh) (by omega)
  have hs : Sm m (scl m 39 p (s 1)) := sm_scl
  have hG2 := G_Sm hG (Nat.le_succ c) hs
  have pm2 := PM_Sm pm hs
  have rm2 := RM_Sm hp hz rm hs
  have rc2 := RC_Sm rc hs
  obtain ⟨u1, u2, u3, u4, u5, u6⟩ := m_under hp hz rm2
  have r1 : f_X9_allOf F (scl m 39 p (s 1)) 0 = some (nI (sumN (s 1) (p 0 0))) := m_all (B := 0) hp (by decide) pm2 hz rm2 (by omega)
  have r2 : f_X9_listOf F (scl m 39 p (s 1)) 0 = some (lst p (s 1)) := m_lst (B := 0) hp (by decide) pm2 hz rm2 (by omega)
  have r3 : f_X9_trimOf F (scl m 39 p (s 1)) 0 = some (trm p (s 1)) := m_trm (B := 0) hp (by decide) pm2 hz rm2 (by omega)
  have t1 : f_X0_tally F (scl m 39 p (s 1)) 10 1 = some (nI (s 15 0)) := by rw [ho.2.2.2.2.2.2.1]; exact c_tally (S := 4) rc2 hz (fun k hk => (ho.2.2.2.2.2.1 k hk).2.2.2.2.2.1) (v := 1) (by omega) (by omega)
  have t3 : f_X0_tally F (scl m 39 p (s 1)) 10 3 = some (nI (s 16 0)) := by rw [hFI]; exact c_tally (S := 4) rc2 hz (fun k hk => (ho.2.2.2.2.2.1 k hk).2.2.2.2.2.1) (v := 3) (by omega) (by omega)
  unfold f_X8_now
  rw [e1, Option.bind_some]
  refine ⟨?_, scl m 39 p (s 1), ?_, ?_, hG2⟩
  · exact if a1 = 0 then nI (s 0 0) else if a1 = 1 then nI (sumN (s 1) (p 0 0)) else if a1 = 2 then lst p (s 1) else if a1 = 3 then trm p (s 1) else if a1 = 4 then nI (s 0 1) else if a1 = 5 then nI (s 0 2) else if a1 = 6 then nI (s 15 0) else if a1 = 7 then nI (s 16 0) else -1
  · rw [t1, t3, scl_0, scl_1, scl_2, RC_0 rc2, RC_1 rc2, RC_2 rc2]
    by_cases q0 : a1 = 0
    · simp only [if_pos q0]
    simp only [if_neg q0]
    by_cases q1 : a1 = 1
    · simp only [if_pos q1]
    simp only [if_neg q1]
    by_cases q2 : a1 = 2
    · simp only [if_pos q2]
    simp only [if_neg q2]
    by_cases q3 : a1 = 3
    · simp only [if_pos q3]
    simp only [if_neg q3]
    by_cases q4 : a1 = 4
    · simp only [if_pos q4]
    simp only [if_neg q4]
    by_cases q5 : a1 = 5
    · simp only [if_pos q5]
    simp only [if_neg q5]
    by_cases q6 : a1 = 6
    · simp only [if_pos q6, Option.bind_some]
    simp only [if_neg q6]
    by_cases q7 : a1 = 7
    · simp only [if_pos q7, Option.bind_some]
    simp only [if_neg q7]
  · unfold f_X9_now
    rw [r1, r2, r3, u1, u2, u3, u4, u5]
    by_cases q0 : a1 = 0
    · simp only [if_pos q0, Option.bind_some]
    simp only [if_neg q0]
    by_cases q1 : a1 = 1
    · simp only [if_pos q1, Option.bind_some]
    simp only [if_neg q1]
    by_cases q2 : a1 = 2
    · simp only [if_pos q2, Option.bind_some]
    simp only [if_neg q2]
    by_cases q3 : a1 = 3
    · simp only [if_pos q3, Option.bind_some]
    simp only [if_neg q3]
    by_cases q4 : a1 = 4
    · simp only [if_pos q4, Option.bind_some]
    simp only [if_neg q4]
    by_cases q5 : a1 = 5
    · simp only [if_pos q5, Option.bind_some]
    simp only [if_neg q5]
    by_cases q6 : a1 = 6
    · simp only [if_pos q6, Option.bind_some]
    simp only [if_neg q6]
    by_cases q7 : a1 = 7
    · simp only [if_pos q7, Option.bind_some]
    simp only [if_neg q7]
/-- the class's part done, the reference's part done: the state of the present is new in both -/
theorem G_two {c d : Nat} {m m1 m2 : Mm} {P D : Nat} {T : Option Nat} {p s t : AS} (hP : isPl P) (hD : isPl D) (hPD : P ≠ D) (hp : PW p) (hPC : PC p m P) (hPM : PM p m) (hcd : c ≤ d) (gi : GI p (120 * c) m) (gr : GR m) (gt : GT m) (gs : GS m) (go : GO m) (hI : SI p (120 * d) t) (hF : FI t) (hRC : RC p t m1 4) (hRM : RM p t m2 0) (gk : GK p t m1) (h1 : ∀ b, b < 4 ∨ 17 < b → b ≠ 34 → m1 b = m b) (h2 : FM 0 m1 m2) : G d m2 P D T := by
  refine G_upd hP hD hPD hp hPC hPM hcd gi gr gt gs go hI hF (RC_fr hRC (fun j hj i _ => by rw [h2.1 (4 + j) (by omega)])) hRM (GK_fr gk (fun _ _ => rfl) (by rw [h2.1 34 (by decide)]) (by rw [h2.1 34 (by decide)]) (by rw [h2.1 34 (by decide)]) (by rw [h2.1 34 (by decide)]) (h2.1 37 (by decide))) (fun b q1 q2 q3 _ _ _ => ?_) (fun i _ _ _ _ => ?_) (fun i q1 q2 => ?_)
  · rw [h2.1 b q3, h1 b (by omega) (by omega)]
  · rw [h2.1 113 (by decide), h1 113 (by omega) (by decide)]
  · rw [h2.2 i (by omega), h1 114 (by omega) (by decide)]
theorem fgt {m m1 : Mm} (h : FG 4 m m1) (v : Int32) : ∀ b, b < 4 ∨ 17 < b → b ≠ 34 → up2 m1 34 7 v b = m b := fun b hb h34 => by
  rw [up2_ne h34, h b hb]
theorem op_put {F c : Nat} (hF : 5000 ≤ F) (hc : c ≤ 512) : OP_put F (G c) (G (c + 1)) := by
  intro m P D T hG a1 a2
  have hG' := G_mono hG (Nat.le_succ c)
  obtain ⟨hP, hD, hPD, p, s, hp, hI, hFI, ⟨pc, pm, rc, rm⟩, gi, gr, gt, gs, go, gk⟩ := G_alt hG
  obtain ⟨⟨l1, l2, l3, l4⟩, ph, -⟩ := id hp
  obtain ⟨hw, ho, hy⟩ := id hI
  have hz := ho.1
  have hS4 : isSt 4 := Or.inl rfl
  unfold f_X8_put f_X9_put
  rcases is_hold hp.1 pc pm a1 with ⟨j, hj, rfl, h8, h9⟩ | ⟨hx, h8, h9⟩
  case inr => exact ⟨-1, m, m, by rw [h8]; rfl, by rw [h9]; rfl, hG'⟩
  have htj := ph j hj
  have hwj := hw j hj
  have e1 : ald m (P + 1) 8 (nI j) = some (nI (p 1 j)) := P_ld pc 1 j hj (by omega) (by decide)
  have r1 : ald m 116 32 (4 * nI j) = some (nI (p 1 j)) := pm_h hp.1 pm j 0 hj (by decide) (ixm 4 j)
  rw [h8, Option.bind_some, if_neg n10, e1, Option.bind_some]
  rcases in_N a2 0 (p 1 j) (A := 0) (B := (nI (p 1 j)).toInt64) (by decide) rfl (by omega) (by omega) with ⟨v, -, hv, rfl, h⟩ | ⟨hx, h⟩
  case inr =>
    refine ⟨-1, m, m, ?_, by rw [h9, Option.bind_some, if_neg n10, r1, Option.bind_some, h]; rfl, hG'⟩
    rcases hx with q | q
    · rw [if_pos (show a2 < (0 : Int32) from q)]
    · rw [if_neg (c := a2 ≤ nI (p 1 j)) (Int32.not_le.mpr q)]
      split <;> rfl
  have k1 : ¬ nI v < (0 : Int32) := nI_pos (by omega)
  have k2 : nI v ≤ nI (p 1 j) := nI_le hv (by omega)
  obtain ⟨u1, u2, -⟩ := m_under hp hz rm
  have hwhy := hy.1
  by_cases q : s 0 1 = 0
  · have k3 : nI (s 0 1) = (0 : Int32) := by rw [q]; rfl
    have k4 : nI (s 0 1) ≤ (0 : Int32) := by rw [k3]; decide
    have e2 : ald m 5 8 (nI j) = some (nI (s 1 j)) := C_ld (S := 4) rc 1 j hj (by omega) (by decide)
    obtain ⟨m1, a1', a2', a3'⟩ := C_st (S := 4) rc (N := 8) 1 j v (by decide) (by decide) (by omega) (by decide)
    have a1'' : ast m 5 8 (nI j) (nI v) = some m1 := a1'
    have pc1 := PC_FC pc hS4 hP a3'
    obtain ⟨m2, b1, b2, b3, -⟩ := c_see (F := F) hS4 hP hp pc1 a2' (by omega)
    have fr : FG 4 m m2 := a3'.1.tr b3.1
    have hm3 := fgt fr (-4)
    -- the reference, on the class's memory
    have pm3 : PM p (up2 m2 34 7 (-4)) := by
      unfold PM
      rw [hm3 113 (by omega) (by decide), hm3 116 (by omega) (by decide), hm3 117 (by omega) (by decide), hm3 118 (by omega) (by decide), hm3 119 (by omega) (by decide), hm3 120 (by omega) (by decide)]
      exact pm
    have rm3 : RM p s (up2 m2 34 7 (-4)) 0 := RM_cell rm (hm3 114 (by omega) (by decide))
    have r1' : ald (up2 m2 34 7 (-4)) 116 32 (4 * nI j) = some (nI (p 1 j)) := pm_h hp.1 pm3 j 0 hj (by decide) (ixm 4 j)
    obtain ⟨-, u2', -⟩ := m_under hp hz rm3
    have r2 : ald (up2 m2 34 7 (-4)) 114 512 (0 + nI j) = some (nI (s 1 j)) := M_ld rm3 hp.1 hz (by decide) 1 j hj (ix1 0 j)
    obtain ⟨m4, d1, d2, d3⟩ := M_st rm3 hp.1 hz (by decide) 1 j v (by decide) (by show j < 8; omega) (by decide) (x := 0 + nI j) (v := nI v) (ix1 0 j) rfl
    have hwt : SW p (u3 s 1 j v) := SW_up hw hv
    have hot : SO p (120 * c) (u3 s 1 j v) := SO_of ho (fun a ha => u3_r (by omega)) (by rw [u3_f (by decide)]; exact ho.2.2.2.2.2.2.2)
    obtain ⟨m5, f1, f2, f3⟩ := m_sees (B := 0) hp (by decide) (PM_FM (B := 0) pm3 d3.1) hot d2 (F := F) (by omega) (by rw [u3_f (by decide)]; exact q)
    have f1' : f_X9_sees F m4 0 = some m5 := f1
    have h9' : f_X9_isHold (up2 m2 34 7 (-4)) (nI j) = some 1 := by
      rcases is_hold hp.1 pc pm3 (nI j) with ⟨_, _, _, _, q⟩ | ⟨q, _, _⟩
      · exact q
      · exact absurd q (by
          rintro (w | w)
          · exact nI_pos (by omega) w
          · exact nI_ge hj (by omega) w)
    refine ⟨nI (s 1 j), up2 m2 34 7 (-4), m5, ?_, ?_, G_two hP hD hPD hp pc pm (Nat.le_succ c) gi gr gt gs go (SI_mono (seeS_I hwt hot) (by omega)) (FI_of hFI ?_ ?_ ?_) (t := seeS p (u3 s 1 j v)) (m1 := up2 m2 34 7 (-4)) (RC_fr b2 (fun i hi k _ => up2_cell (by omega))) f2 (Or.inl up2_same) hm3 (d3.tr f3) (s := s)⟩
    · rw [if_neg k1, if_pos k2, RC_1 rc, if_pos k3, e2, Option.bind_some, a1'', Option.bind_some, b1, Option.bind_some]
      rfl
    · rw [h9', Option.bind_some, if_neg n10, r1', Option.bind_some, h, Option.bind_some, if_neg n10, u2', Option.bind_some, if_pos k4, r2, Option.bind_some, d1, Option.bind_some, f1']
      rfl
    · unfold seeS; rw [u3_r (by decide), u3_r (by decide), u3_r (by decide)]
    · unfold seeS; rw [u3_r (by decide), u3_r (by decide), u3_r (by decide)]
    · unfold seeS; rw [u3_r (by decide), u3_r (by decide), u3_r (by decide)]
  · have k3 : ¬ nI (s 0 1) = (0 : Int32) := nI_ne (b := 0) (by omega) (by decide) q
    have k4 := nI_le0 (a := s 0 1) (by omega) q
    refine ⟨-2, m, m, ?_, ?_, hG'⟩
    · rw [if_neg k1, if_pos k2, RC_1 rc, if_neg k3]
    · rw [h9, Option.bind_some, if_neg n10, r1, Option.bind_some, h, Option.bind_some, if_neg n10, u2, Option.bind_some, if_neg k4]
theorem op_go {F c : Nat} (hF : 5000 ≤ F) (hc : c < 512) : OP_go F (G c) (G (c + 1)) := by
  intro m P D T hG a1
  have hG' := G_mono hG (Nat.le_succ c)
  obtain ⟨hP, hD, hPD, p, s, hp, hI, hFI, ⟨pc, pm, rc, rm⟩, gi, gr, gt, gs, go, gk⟩ := G_alt hG
  have hS4 : isSt 4 := Or.inl rfl
  unfold f_X8_go f_X9_go
  rcases in_N a1 1 120 (A := 1) (B := 120) (by decide) (by decide) (by decide) (by decide) with ⟨n, hn1, hn, rfl, h⟩ | ⟨hx, h⟩
  case inr =>
    refine ⟨-1, m, m, ?_, by rw [h]; rfl, hG'⟩
    rcases hx with q | q
    · rw [if_pos (show a1 < (1 : Int32) from q)]
    · rw [if_neg (c := a1 ≤ (120 : Int32)) (Int32.not_le.mpr q)]
      split <;> rfl
  have k1 : ¬ nI n < (1 : Int32) := nI_nlt (b := 1) hn1 (by omega)
  have k2 : nI n ≤ (120 : Int32) := nI_le (b := 120) hn (by decide)
  obtain ⟨m1, a1', a2', a3'⟩ := iter_P (b := b_X8_go_15 F P (nI n)) (F := F) n (fun i x => ∃ m1, x = (nI i, m1) ∧ RC p (runS p i s) m1 4 ∧ FC 4 m m1) (fun r => RC p (runS p n s) r 4 ∧ FC 4 m r) (by omega) (by
    rintro i x hi ⟨m1, rfl, q1, q2⟩
    have hI1 := runS_I hp hI i (by omega)
    obtain ⟨m2, b1, b2, b3, -⟩ := c_minute (F := F) hS4 hP (by omega) hp (PC_FC pc hS4 hP q2) q1 hI1 (by omega)
    have hc : ¬ nI n ≤ nI i := nI_ge hi (by omega)
    refine ⟨_, ?_, m2, rfl, b2, q2.tr b3⟩
    unfold b_X8_go_15
    dsimp only
    rw [if_neg hc, b1, Option.bind_some, nI_1]) (by
    rintro x ⟨m1, rfl, q1, q2⟩
    refine ⟨m1, ?_, q1, q2⟩
    unfold b_X8_go_15
    dsimp only
    rw [if_pos (Int32.le_refl _)]) (x := (0, m)) ⟨m, rfl, rc, FC.rf⟩
  have hIn := runS_I hp hI n (by omega)
  have pc2 : PC p (up2 m1 34 7 (-4)) P := PC_fr (PC_FC pc hS4 hP a3') (fun j hj => up2_ne (plne hP (by decide) j hj))
  have rc2 : RC p (runS p n s) (up2 m1 34 7 (-4)) 4 := RC_fr a2' (fun j hj i _ => up2_cell (by omega))
  obtain ⟨m3, b1, b2, b3⟩ := c_inAll (F := F) hS4 hP hp pc2 rc2 (by omega)
  have hm3 : ∀ b, b < 4 ∨ 17 < b → b ≠ 34 → m3 b = m b := fun b hb h34 => by rw [b3.1 b hb, up2_ne h34, a3'.1 b hb]
  have pm3 : PM p m3 := by
    unfold PM
    rw [hm3 113 (by omega) (by decide), hm3 116 (by omega) (by decide), hm3 117 (by omega) (by decide), hm3 118 (by omega) (by decide), hm3 119 (by omega) (by decide), hm3 120 (by omega) (by decide)]
    exact pm
  have rm3 : RM p s m3 0 := RM_cell rm (hm3 114 (by omega) (by decide))
  obtain ⟨m4, d1, d2, d3⟩ := iter_P (b := b_X9_go_16 F (nI n)) (F := F) n (fun i x => ∃ m1, x = (nI i, m1) ∧ RM p (runS p i s) m1 0 ∧ FM 0 m3 m1) (fun r => RM p (runS p n s) r 0 ∧ FM 0 m3 r) (by omega) (by
    rintro i x hi ⟨m1, rfl, q1, q2⟩
    have hI1 := runS_I hp hI i (by omega)
    obtain ⟨m2, b1, b2, b3⟩ := m_minute (F := F) (B := 0) hp (by omega) (by decide) (PM_FM (B := 0) pm3 q2.1) hI1 q1 (by omega)
    have b1' : f_X9_aMinute F m1 0 = some m2 := b1
    have hc : ¬ nI n ≤ nI i := nI_ge hi (by omega)
    refine ⟨_, ?_, m2, rfl, b2, q2.tr b3⟩
    unfold b_X9_go_16
    dsimp only
    rw [if_neg hc, b1', Option.bind_some, nI_1]) (by
    rintro x ⟨m1, rfl, q1, q2⟩
    refine ⟨m1, ?_, q1, q2⟩
    unfold b_X9_go_16
    dsimp only
    rw [if_pos (Int32.le_refl _)]) (x := (0, m3)) ⟨m3, rfl, rm3, FM.rf⟩
  have r1 : f_X9_allOf F m4 0 = some (nI (sumN (runS p n s 1) (p 0 0))) := m_all (s := runS p n s) (B := 0) hp (by decide) (PM_FM (B := 0) pm3 d3.1) hIn.2.1.1 d2 (by omega)
  refine ⟨nI (sumN (runS p n s 1) (p 0 0)), m3, m4, ?_, ?_, G_two hP hD hPD hp pc pm (Nat.le_succ c) gi gr gt gs go (SI_mono hIn (by omega)) (FI_run hp hI hFI n (by omega)) b2 d2 (Or.inl ?_) hm3 d3 (s := s)⟩
  · rw [if_neg k1, if_pos k2, a1', Option.bind_some]
    unfold f_X4_forget
    rw [letv_eq, Option.bind_some, b1]
    rfl
  · rw [h, Option.bind_some, if_neg n10, d1, Option.bind_some, r1]
    rfl
  · rw [b3.1 34 (by omega), up2_same]

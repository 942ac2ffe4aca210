/-! the class's scale, and a minute of it -/
def scl (m : Mm) (C : Nat) (p : AS) (w : Nat → Nat) : Mm := up2 (up2 (up2 m C 0 (nI (sumN w (p 0 0)))) C 1 (lst p w)) C 2 (trm p w)
theorem c_weigh {p : AS} {w : Nat → Nat} {m : Mm} {C Q W F : Nat} {a3 : Int32} (hp : PL p) (hP : PC p m Q) (hC : ∀ j, j < 17 → Q + j ≠ C) (hW : W ≠ C) (hw : ∀ h, h < p 0 0 → (if ((a3 >>> (nI h &&& 31)) &&& (1 : Int32)) = (1 : Int32) then nI (p 1 h) else m W h) = nI (w h)) (hF : 100 < F) : f_X3_weigh F m C Q W a3 = some (scl m C p w) := by
  obtain ⟨l1, l2, l3, l4⟩ := id hp
  have hPM : ∀ v, PC p (up2 m C 0 v) Q := fun v => PC_fr hP (fun j hj => up2_ne (hC j hj))
  have h1 := iter_n (b := b_X3_weigh_14 C Q W a3) (F := F) (fun i => (sumTo (fun h => nI (w h) * (nI (p 2 h) - 1)) i, sumTo (fun h => nI (w h) * (nI (p 3 h) - 9)) i, nI i, up2 m C 0 (nI (sumN w i)))) (p 0 0) (sumTo (fun h => nI (w h) * (nI (p 2 h) - 1)) (p 0 0), sumTo (fun h => nI (w h) * (nI (p 3 h) - 9)) (p 0 0), up2 m C 0 (nI (sumN w (p 0 0)))) (by omega) (by
    intro i hi
    have hc : ¬ nI (p 0 0) ≤ nI i := nI_ge hi (by omega)
    have e1 := P_ld (hPM (nI (sumN w i))) (N := 8) 1 i hi (by omega) (by decide)
    have e2 : ald (up2 m C 0 (nI (sumN w i))) W 8 (nI i) = some (m W i) := ald_v (up2_cell hW) (by omega) (by decide)
    have eY : (if ((a3 >>> (nI i &&& 31)) &&& (1 : Int32)) = (1 : Int32) then (ald (up2 m C 0 (nI (sumN w i))) (Q + 1) 8 (nI i)).bind fun x6 => some x6 else (ald (up2 m C 0 (nI (sumN w i))) W 8 (nI i)).bind fun x5 => some x5) = some (nI (w i)) := by
      rw [e1, e2, ← hw i hi]
      split <;> rfl
    have e3 := P_ld (hPM (nI (sumN w (i + 1)))) (N := 8) 2 i hi (by omega) (by decide)
    have e4 := P_ld (hPM (nI (sumN w (i + 1)))) (N := 8) 3 i hi (by omega) (by decide)
    have e5 : up2 (up2 m C 0 (nI (sumN w i))) C 0 (nI (sumN w i) + nI (w i)) = up2 m C 0 (nI (sumN w (i + 1))) := by rw [up2_twice, nI_add]; rfl
    have hc' : ¬ (up2 m C 0 (nI (sumN w i))) Q 0 ≤ nI i := by rw [PC_0 (hPM _)]; exact hc
    unfold b_X3_weigh_14
    dsimp only
    rw [if_neg hc', eY, Option.bind_some, letv_eq, up2_same, e5, e3, Option.bind_some, letv_eq, e4, Option.bind_some, letv_eq, nI_1]
    rfl) (by
    have hc' : (up2 m C 0 (nI (sumN w (p 0 0)))) Q 0 ≤ nI (p 0 0) := by rw [PC_0 (hPM _)]; exact Int32.le_refl _
    unfold b_X3_weigh_14
    dsimp only
    rw [if_pos hc'])
  unfold f_X3_weigh
  rw [letv_eq, show ((0, 0, 0, up2 m C 0 0) : Int32 × Int32 × Int32 × Mm) = (fun i => (sumTo (fun h => nI (w h) * (nI (p 2 h) - 1)) i, sumTo (fun h => nI (w h) * (nI (p 3 h) - 9)) i, nI i, up2 m C 0 (nI (sumN w i)))) 0 from rfl, h1, Option.bind_some, odiv_n (by decide), Option.bind_some, letv_eq, odiv_n (by decide), Option.bind_some, letv_eq]
  rfl
theorem scl_0 {m : Mm} {C : Nat} {p : AS} {w : Nat → Nat} : scl m C p w C 0 = nI (sumN w (p 0 0)) := by rw [scl, up2_slot (by decide), up2_slot (by decide), up2_same]
theorem scl_1 {m : Mm} {C : Nat} {p : AS} {w : Nat → Nat} : scl m C p w C 1 = lst p w := by rw [scl, up2_slot (by decide), up2_same]
theorem scl_2 {m : Mm} {C : Nat} {p : AS} {w : Nat → Nat} : scl m C p w C 2 = trm p w := by rw [scl, up2_same]
theorem scl_o {m : Mm} {C b : Nat} {p : AS} {w : Nat → Nat} (h : b ≠ C) : scl m C p w b = m b := by rw [scl, up2_ne h, up2_ne h, up2_ne h]
theorem c_why {p : AS} {w : Nat → Nat} {m : Mm} {C Q : Nat} (hP : PC p m Q) (hC : ∀ j, j < 17 → Q + j ≠ C) : f_X3_whySinks (scl m C p w) C Q = some (nI (whyN p w)) := by
  have hPM : PC p (scl m C p w) Q := PC_fr hP (fun j hj => scl_o (hC j hj))
  have e1 : ald (scl m C p w) (Q + 16) 5 1 = some (nI (p 16 1)) := P_ld hPM (N := 5) 16 1 (by show 1 < 5; omega) (by omega) (by decide)
  have e2 : ald (scl m C p w) (Q + 16) 5 2 = some (nI (p 16 2)) := P_ld hPM (N := 5) 16 2 (by show 2 < 5; omega) (by omega) (by decide)
  have e3 : ald (scl m C p w) (Q + 16) 5 3 = some (nI (p 16 3)) := P_ld hPM (N := 5) 16 3 (by show 3 < 5; omega) (by omega) (by decide)
  unfold f_X3_whySinks whyN
  rw [e1, e2, e3]
  simp only [Option.bind_some, scl_0, scl_1, scl_2]
  split
  · split
    · split <;> rfl
    · rfl
  · rfl
theorem bit0 : ∀ h, h < 8 → ¬ (((0 : Int32) >>> (nI h &&& 31)) &&& (1 : Int32)) = (1 : Int32) := by decide +kernel
theorem whyN_le {p : AS} {w : Nat → Nat} : whyN p w ≤ 3 := by
  unfold whyN
  split
  · split
    · split <;> omega
    · omega
  · omega
theorem plC {S Q : Nat} (hS : isSt S) (hQ : isPl Q) : ∀ j, j < 17 → Q + j ≠ S + 13 := fun j hj => by
  have := stpl hS hQ hj
  omega
theorem c_weighS {p s : AS} {m : Mm} {S Q F : Nat} (hS : isSt S) (hQ : isPl Q) (hp : PW p) (hP : PC p m Q) (hR : RC p s m S) (hF : 100 < F) : f_X3_weigh F m (S + 13) Q (S + 1) 0 = some (scl m (S + 13) p (s 1)) ∧ RC p s (scl m (S + 13) p (s 1)) S ∧ FC S m (scl m (S + 13) p (s 1)) := by
  obtain ⟨l1, l2, l3, l4⟩ := hp.1
  refine ⟨c_weigh hp.1 hP (plC hS hQ) (by omega) (fun h hh => ?_) hF, ?_, ?_⟩
  · rw [if_neg (bit0 h (by omega))]
    exact hR 1 h hh
  · exact (C_13 (C_13 (C_13 hR _ _).1 _ _).1 _ _).1
  · exact (C_13 hR _ _).2.tr ((C_13 (C_13 hR _ _).1 _ _).2.tr (C_13 (C_13 (C_13 hR _ _).1 _ _).1 _ _).2)
theorem c_see {p s : AS} {m : Mm} {S Q F : Nat} (hS : isSt S) (hQ : isPl Q) (hp : PW p) (hP : PC p m Q) (hR : RC p s m S) (hF : 100 < F) : ∃ m', f_X7_seeWhetherSinks F m S Q = some m' ∧ RC p (seeS p s) m' S ∧ FC S m m' ∧ m' (S + 13) 1 = lst p (s 1) := by
  obtain ⟨e1, g1, g2⟩ := c_weighS hS hQ hp hP hR hF
  have e2 := c_why (w := s 1) hP (plC hS hQ)
  obtain ⟨g3, g4⟩ := C_put g1 0 1 (whyN p (s 1)) (by decide) (by decide)
  have hw := whyN_le (p := p) (w := s 1)
  have e3 : (if up2 (scl m (S + 13) p (s 1)) S 1 (nI (whyN p (s 1))) S 1 = 0 then some (-4) else some (up2 (scl m (S + 13) p (s 1)) S 1 (nI (whyN p (s 1))) S 0)) = some (nI (if whyN p (s 1) = 0 then 4294967292 else s 0 0)) := by
    rw [up2_same, up2_slot (by decide), RC_0 g1]
    by_cases q : whyN p (s 1) = 0
    · rw [q, if_pos nIl0, if_pos rfl, nI_NN]
    · have q' : ¬ nI (whyN p (s 1)) = (0 : Int32) := nI_ne (b := 0) (by omega) (by decide) q
      rw [if_neg q', if_neg q]
  obtain ⟨g5, g6⟩ := C_put g3 0 2 (if whyN p (s 1) = 0 then 4294967292 else s 0 0) (by decide) (by decide)
  refine ⟨_, ?_, g5, g2.tr (g4.tr g6), ?_⟩
  · unfold f_X7_seeWhetherSinks
    rw [e1, Option.bind_some, e2, Option.bind_some, letv_eq, e3]
    rfl
  · rw [show S + 0 = S from rfl, up2_cell (by omega), up2_cell (by omega), scl_1]
theorem SO_of {p s t : AS} {M N : Nat} (h : SO p M s) (hr : ∀ a, 2 ≤ a → t a = s a) (h0 : t 0 0 ≤ N) : SO p N t := by
  obtain ⟨h1, h2, h3, h4, h5, h6, h7, h8⟩ := h
  unfold SO okO
  have hD : ∀ d, onD t d = onD s d := fun d => by funext k; simp only [onD, hr 11 (by decide), hr 8 (by decide), hr 9 (by decide)]
  have hH : ∀ d, onH t d = onH s d := fun d => by funext k; simp only [onH, hr 11 (by decide), hr 8 (by decide), hr 9 (by decide)]
  have hW : isW 1 t = isW 1 s := by funext k; simp only [isW, hr 11 (by decide)]
  simp only [hr 2 (by decide), hr 3 (by decide), hr 4 (by decide), hr 5 (by decide), hr 6 (by decide), hr 7 (by decide), hr 8 (by decide), hr 9 (by decide), hr 10 (by decide), hr 11 (by decide), hr 12 (by decide), hr 13 (by decide), hr 14 (by decide), hr 15 (by decide), hD, hH, hW]
  exact ⟨h1, h2, h3, h4, h5, h6, h7, h0⟩
theorem SF_SO {p s : AS} {M : Nat} (h : SO p M s) : SF p s := ⟨h.1, h.2.1, fun d hd => (h.2.2.1 d hd).1, fun i hi => (h.2.2.2.1 i hi).1, h.2.2.2.2.1⟩
theorem ordS_K {p s : AS} {M : Nat} (hp : PW p) (hM : M ≤ 2 ^ 20) (h : SO p M s) : SK p M s (ordS p s) := by
  have h1 : SK p M s (rep endS (s 6 0) s) := rep_inv (I := SK p M s) ⟨h, rfl, rfl, rfl⟩ (fun i t hi ⟨ht, t0, t1, t6⟩ => ⟨endS_O (by rw [t6]; exact hi) ht, by rw [endS_r (by omega)]; exact t0, by rw [endS_r (by omega)]; exact t1, by rw [endS_r (by omega)]; exact t6⟩) _ (Nat.le_refl _)
  exact rep_inv (I := SK p M s) h1 (fun i t hi ⟨ht, t0, t1, t6⟩ => ⟨begS_O hp hM (by rw [t6]; exact hi) ht, by rw [begS_r (by omega)]; exact t0, by rw [begS_r (by omega)]; exact t1, by rw [begS_r (by omega)]; exact t6⟩) _ (Nat.le_refl _)
theorem seeS_Y {p s : AS} : SY (seeS p s) := by
  have := whyN_le (p := p) (w := s 1)
  unfold SY seeS
  by_cases q : whyN p (s 1) = 0 <;> simp [u3, q]
  omega
theorem minS_I {p s : AS} {M : Nat} (hp : PW p) (hM : M ≤ 2 ^ 20) (h : SI p M s) : SI p (M + 1) (minS p s) := by
  obtain ⟨hw, ho, hy⟩ := h
  unfold minS
  split
  · obtain ⟨k1, k2, k3, k4⟩ := ordS_K hp hM ho
    have hw1 : SW p (ordS p s) := by unfold SW; rw [k3]; exact hw
    obtain ⟨w1, w2⟩ := waterS_w hp hw1
    refine ⟨?_, ?_, seeS_Y⟩
    · unfold SW seeS
      rw [u3_r (by decide), u3_r (by decide), u3_r (by decide)]
      exact w1
    · refine SO_of (s := ordS p s) k1 (fun a ha => ?_) ?_
      · unfold seeS
        rw [u3_r (by omega), u3_r (by omega), u3_r (by omega), w2 a (by omega)]
      · have := ho.2.2.2.2.2.2.2
        unfold seeS
        rw [u3_i (by decide), u3_i (by decide), u3_same]
        omega
  · refine ⟨?_, ?_, ?_⟩
    · unfold SW
      rw [u3_r (by decide)]
      exact hw
    · refine SO_of ho (fun a ha => u3_r (by omega)) ?_
      have := ho.2.2.2.2.2.2.2
      rw [u3_same]; omega
    · rename_i q
      obtain ⟨y1, y2, y3⟩ := hy
      unfold SY
      rw [u3_i (by decide), u3_same, u3_i (by decide)]
      exact ⟨y1, y2, fun q => by have := y3 q; omega⟩
theorem c_doors {p s : AS} {m : Mm} {S Q F : Nat} (hS : isSt S) (hQ : isPl Q) (hp : PW p) (hP : PC p m Q) (hR : RC p s m S) (hw : SW p s) (hf : SF p s) (hF : 100 < F) : ∃ m', iter F (b_X7_passMinute_39 F S Q) ((0, m) : Int32 × Mm) = some m' ∧ RC p (rep (doorS p) (p 0 1) s) m' S ∧ FC S m m' ∧ SW p (rep (doorS p) (p 0 1) s) ∧ Wo s (rep (doorS p) (p 0 1) s) := by
  obtain ⟨l1, l2, l3, l4⟩ := hp.1
  exact c_loop (F := F) (n := p 0 1) (f := doorS p) (I := fun t => SW p t ∧ Wo s t) (b := b_X7_passMinute_39 F S Q) (g := fun m => m) (by omega) hR ⟨hw, Wo.rf⟩ (by
    intro i t m1 hi ⟨ht, ht2⟩ hR1 hf1
    have hP1 := PC_FC hP hS hQ hf1
    obtain ⟨m2, e1, e2, e3⟩ := c_door (F := F) hS hQ hp hP1 hR1 ht (SF_Wo hf ht2) hF hi
    have hc : ¬ nI (p 0 1) ≤ nI i := nI_ge hi (by omega)
    refine ⟨m2, ?_, e2, e3, (doorS_w hp hi ht).1, ht2.tr (doorS_w hp hi ht).2⟩
    simp only [b_X7_passMinute_39, PC_1 hP1, hc, e1, Option.bind_some, ↓reduceIte, nI_1]) (by
    intro t m1 _ hR1 hf1
    have hP1 := PC_FC hP hS hQ hf1
    simp only [b_X7_passMinute_39, PC_1 hP1, Int32.le_refl, ↓reduceIte])
theorem c_minute {p s : AS} {m : Mm} {S Q F M : Nat} (hS : isSt S) (hQ : isPl Q) (hM : M ≤ 2 ^ 20) (hp : PW p) (hP : PC p m Q) (hR : RC p s m S) (hI : SI p M s) (hF : 100 < F) : ∃ m', f_X7_passMinute F m S Q = some m' ∧ RC p (minS p s) m' S ∧ FC S m m' ∧ (s 0 1 = 0 → m' (S + 13) 1 = lst p (minS p s 1)) := by
  obtain ⟨hw, ho, hy⟩ := id hI
  have h01 : s 0 1 < 2 ^ 32 := by have := hy.1; omega
  by_cases q : s 0 1 = 0
  · obtain ⟨m1, a1, a2, a3, a4⟩ := c_endO hM hp hR ho hF
    have hP1 := PC_FC hP hS hQ a3
    obtain ⟨m2, b1, b2, b3, b4⟩ := c_begO hS hQ hM hp hP1 a2 a4.1 hF
    have hP2 := PC_FC hP1 hS hQ b3
    have e6 : rep endS (s 6 0) s 6 0 = s 6 0 := by rw [a4.2.2.2]
    rw [e6] at b2 b4
    have e1 : rep (begS p) (s 6 0) (rep endS (s 6 0) s) 1 = s 1 := by rw [b4.2.2.1, a4.2.2.1]
    have e0 : rep (begS p) (s 6 0) (rep endS (s 6 0) s) 0 = s 0 := by rw [b4.2.1, a4.2.1]
    have hw2 : SW p (rep (begS p) (s 6 0) (rep endS (s 6 0) s)) := by unfold SW; rw [e1]; exact hw
    have hf2 := SF_SO b4.1
    obtain ⟨m3, c1, c2, c3, c4, c5⟩ := c_holes hS hQ hp hP2 b2 hw2 hf2 hF
    have hP3 := PC_FC hP2 hS hQ c3
    obtain ⟨m4, d1, d2, d3, d4, d5⟩ := c_valves hS hQ hp hP3 c2 c4 (SF_Wo hf2 c5) hF
    have hP4 := PC_FC hP3 hS hQ d3
    have w4 := c5.tr d5
    obtain ⟨m5, f1, f2, f3, f4, f5⟩ := c_doors hS hQ hp hP4 d2 d4 (SF_Wo hf2 w4) hF
    have hP5 := PC_FC hP4 hS hQ f3
    have w5 := w4.tr f5
    obtain ⟨m6, g1, g2, g3, g4, g5⟩ := c_pumps hS hQ hp hP5 f2 f4 (SF_Wo hf2 w5) hF
    have hP6 := PC_FC hP5 hS hQ g3
    have w6 := w5.tr g5
    have h00 : m6 S 0 = nI (s 0 0) := by rw [RC_0 g2, w6 0 (by decide), e0]
    obtain ⟨k1, k2⟩ := C_put g2 0 0 (s 0 0 + 1) (by decide) (by decide)
    have hP7 := PC_FC hP6 hS hQ k2
    obtain ⟨m8, n1, n2, n3, n4⟩ := c_see hS hQ hp hP7 k1 hF
    have hE : minS p s = seeS p (u3 (waterS p (ordS p s)) 0 0 (s 0 0 + 1)) := by rw [minS, if_pos q]
    refine ⟨m8, ?_, ?_, a3.tr (b3.tr (c3.tr (d3.tr (f3.tr (g3.tr (k2.tr n3)))))), fun _ => ?_⟩
    · unfold f_X7_passMinute
      have n1' : f_X7_seeWhetherSinks F (up2 m6 S 0 (nI (s 0 0 + 1))) S Q = some m8 := n1
      rw [RC_1 hR, if_pos (by rw [q]; rfl), a1, Option.bind_some, b1, Option.bind_some, c1, Option.bind_some, d1, Option.bind_some, f1, Option.bind_some, g1, Option.bind_some, letv_eq, h00, nI_1, n1']
      rfl
    · rw [hE]; exact n2
    · rw [hE, n4]
      unfold seeS
      rw [u3_r (by decide), u3_r (by decide)]
      rfl
  · obtain ⟨k1, k2⟩ := C_put hR 0 0 (s 0 0 + 1) (by decide) (by decide)
    refine ⟨_, ?_, by rw [minS, if_neg q]; exact k1, k2, fun h => absurd h q⟩
    have q' : ¬ nI (s 0 1) = (0 : Int32) := nI_ne (b := 0) h01 (by decide) q
    unfold f_X7_passMinute
    rw [RC_1 hR, if_neg q', letv_eq, RC_0 hR, nI_1]
    rfl

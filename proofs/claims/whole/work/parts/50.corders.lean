/-! the class's orders -/
theorem nIs {a : Nat} (h : a < 2 ^ 32) : (nI a = (0 : Int32)) = (a = 0) ∧ (nI a = (1 : Int32)) = (a = 1) ∧ (nI a = (2 : Int32)) = (a = 2) ∧ (nI a = (3 : Int32)) = (a = 3) ∧ (nI a = (4 : Int32)) = (a = 4) :=
  ⟨nq (c := 0) h (by decide), nq (c := 1) h (by decide), nq (c := 2) h (by decide), nq (c := 3) h (by decide), nq (c := 4) h (by decide)⟩
theorem nIl0 : nI 0 = (0 : Int32) := rfl
theorem nIl1 : nI 1 = (1 : Int32) := rfl
theorem nIl2 : nI 2 = (2 : Int32) := rfl
theorem nIl3 : nI 3 = (3 : Int32) := rfl
theorem nIl4 : nI 4 = (4 : Int32) := rfl
theorem c_tally {p s : AS} {m : Mm} {S F v : Nat} (hR : RC p s m S) (hz : s 6 0 ≤ 12) (hh : ∀ k, k < s 6 0 → s 11 k ≤ 3) (hv : v ≤ 3) (hF : 100 < F) : f_X0_tally F m (S + 6) (nI v) = some (nI (sumN (isW v s) (s 6 0))) := by
  have h1 := iter_n (b := b_X0_tally_4 m (S + 6) (nI v)) (F := F) (fun i => (nI (sumN (isW v s) i), nI i)) (s 6 0) (nI (sumN (isW v s) (s 6 0))) (by omega) (by
    intro i hi
    have hc : ¬ nI (s 6 0) ≤ nI i := nI_ge hi (by omega)
    have e1 : ald m (S + 6 + 5) 12 (nI i) = some (nI (s 11 i)) := C_ld hR (N := 12) 11 i hi (by omega) (by decide)
    have k1 := nq (a := s 11 i) (c := v) (by have := hh i hi; omega) (by omega)
    by_cases hq : s 11 i = v
    · simp only [b_X0_tally_4, RC_size hR, hc, e1, k1, hq, nI_1, Option.bind_some, ↓reduceIte, sumN, isW]
    · simp only [b_X0_tally_4, RC_size hR, hc, e1, k1, hq, nI_1, Option.bind_some, ↓reduceIte, sumN, isW, Nat.add_zero]) (by
    simp only [b_X0_tally_4, RC_size hR, Int32.le_refl, ↓reduceIte])
  show (iter F (b_X0_tally_4 m (S + 6) (nI v)) ((nI 0, nI 0) : Int32 × Int32)).bind _ = _
  rw [show ((nI 0, nI 0) : Int32 × Int32) = (nI (sumN (isW v s) 0), nI 0) from rfl, h1]
  rfl
theorem c_onDoor {p s : AS} {m : Mm} {S F M d : Nat} (hp : PW p) (hR : RC p s m S) (ho : SO p M s) (hd : d < 2 ^ 31) (hF : 100 < F) : f_X0_isOnDoor F m (S + 6) (nI d) = some (nI (if sumN (onD s d) (s 6 0) = 0 then 0 else 1)) := by
  obtain ⟨⟨l1, l2, l3, l4⟩, ph, pd, pl, pp, pr⟩ := id hp
  obtain ⟨r, h1, h2⟩ := iter_Q (b := b_X0_isOnDoor_2 m (S + 6) (nI d)) (F := F) (s 6 0) (fun i x => x = nI i ∧ sumN (onD s d) i = 0) (fun r => (r = Sum.inl () ∧ sumN (onD s d) (s 6 0) ≠ 0) ∨ (r = Sum.inr () ∧ sumN (onD s d) (s 6 0) = 0)) (by have := ho.1; omega) (by
    rintro i x hi ⟨rfl, hs⟩
    have hz := ho.1
    obtain ⟨o1, o2, o3, o4, o5, o6, o7, o8⟩ := ho.2.2.2.2.2.1 i hi
    have hc : ¬ nI (s 6 0) ≤ nI i := nI_ge hi (by omega)
    have e1 : ald m (S + 6 + 5) 12 (nI i) = some (nI (s 11 i)) := C_ld hR (N := 12) 11 i hi (by omega) (by decide)
    have e2 : ald m (S + 6 + 2) 12 (nI i) = some (nI (s 8 i)) := C_ld hR (N := 12) 8 i hi (by omega) (by decide)
    have e3 : ald m (S + 6 + 3) 12 (nI i) = some (nI (s 9 i)) := C_ld hR (N := 12) 9 i hi (by omega) (by decide)
    obtain ⟨k0, k1, -⟩ := nIs (a := s 11 i) (by omega)
    obtain ⟨j0, j1, -⟩ := nIs (a := s 8 i) (by omega)
    have hge := sumN_ge (f := onD s d) hi
    by_cases q1 : s 11 i = 1
    · by_cases q2 : s 8 i < 2
      · have kd := nq (a := s 9 i) (c := d) (by have := o2 q2; omega) (by omega)
        by_cases q3 : s 9 i = d
        · have hon : onD s d i = 1 := by rw [onD, if_pos ⟨q1, q2, q3⟩]
          refine Or.inr ⟨Sum.inl (), ?_, Or.inl ⟨rfl, by omega⟩⟩
          have : s 8 i = 0 ∨ s 8 i = 1 := by omega
          rcases this with q | q <;> simp [nIl0, nIl1, nIl2, nIl3, nIl4, b_X0_isOnDoor_2, RC_size hR, hc, e1, e2, e3, k1, j0, j1, kd, q1, q, q3]
        · have hon : onD s d i = 0 := by rw [onD, if_neg (fun q => q3 q.2.2)]
          refine Or.inl ⟨nI (i + 1), ?_, rfl, by rw [sumN]; omega⟩
          have : s 8 i = 0 ∨ s 8 i = 1 := by omega
          rcases this with q | q <;> simp [nIl0, nIl1, nIl2, nIl3, nIl4, b_X0_isOnDoor_2, RC_size hR, hc, e1, e2, e3, k1, j0, j1, kd, q1, q, q3, nI_1]
      · have hon : onD s d i = 0 := by rw [onD, if_neg (fun q => q2 q.2.1)]
        refine Or.inl ⟨nI (i + 1), ?_, rfl, by rw [sumN]; omega⟩
        have q4 : ¬ s 8 i = 0 := by omega
        have q5 : ¬ s 8 i = 1 := by omega
        simp [nIl0, nIl1, nIl2, nIl3, nIl4, b_X0_isOnDoor_2, RC_size hR, hc, e1, e2, k1, j0, j1, q1, q4, q5, nI_1]
    · have hon : onD s d i = 0 := by rw [onD, if_neg (fun q => q1 q.1)]
      refine Or.inl ⟨nI (i + 1), ?_, rfl, by rw [sumN]; omega⟩
      simp [nIl0, nIl1, nIl2, nIl3, nIl4, b_X0_isOnDoor_2, RC_size hR, hc, e1, k1, q1, nI_1]) (by
    rintro x ⟨rfl, hs⟩
    refine ⟨Sum.inr (), ?_, Or.inr ⟨rfl, hs⟩⟩
    simp only [b_X0_isOnDoor_2, RC_size hR, Int32.le_refl, ↓reduceIte]) (x := (0 : Int32)) ⟨rfl, rfl⟩
  unfold f_X0_isOnDoor
  rw [h1]
  rcases h2 with ⟨rfl, h2⟩ | ⟨rfl, h2⟩
  · rw [if_neg h2]; rfl
  · rw [if_pos h2]; rfl
theorem c_onHole {p s : AS} {m : Mm} {S F M d : Nat} (hp : PW p) (hR : RC p s m S) (ho : SO p M s) (hd : d < 2 ^ 31) (hF : 100 < F) : f_X0_isOnHole F m (S + 6) (nI d) = some (nI (if sumN (onH s d) (s 6 0) = 0 then 0 else 1)) := by
  obtain ⟨⟨l1, l2, l3, l4⟩, ph, pd, pl, pp, pr⟩ := id hp
  obtain ⟨r, h1, h2⟩ := iter_Q (b := b_X0_isOnHole_2 m (S + 6) (nI d)) (F := F) (s 6 0) (fun i x => x = nI i ∧ sumN (onH s d) i = 0) (fun r => (r = Sum.inl () ∧ sumN (onH s d) (s 6 0) ≠ 0) ∨ (r = Sum.inr () ∧ sumN (onH s d) (s 6 0) = 0)) (by have := ho.1; omega) (by
    rintro i x hi ⟨rfl, hs⟩
    have hz := ho.1
    obtain ⟨o1, o2, o3, o4, o5, o6, o7, o8⟩ := ho.2.2.2.2.2.1 i hi
    have hc : ¬ nI (s 6 0) ≤ nI i := nI_ge hi (by omega)
    have e1 : ald m (S + 6 + 5) 12 (nI i) = some (nI (s 11 i)) := C_ld hR (N := 12) 11 i hi (by omega) (by decide)
    have e2 : ald m (S + 6 + 2) 12 (nI i) = some (nI (s 8 i)) := C_ld hR (N := 12) 8 i hi (by omega) (by decide)
    have e3 : ald m (S + 6 + 3) 12 (nI i) = some (nI (s 9 i)) := C_ld hR (N := 12) 9 i hi (by omega) (by decide)
    obtain ⟨k0, k1, -⟩ := nIs (a := s 11 i) (by omega)
    obtain ⟨j0, j1, j2, -⟩ := nIs (a := s 8 i) (by omega)
    have hge := sumN_ge (f := onH s d) hi
    by_cases q1 : s 11 i = 1
    · by_cases q2 : s 8 i = 2
      · have kd := nq (a := s 9 i) (c := d) (by have := o3 q2; omega) (by omega)
        by_cases q3 : s 9 i = d
        · have hon : onH s d i = 1 := by rw [onH, if_pos ⟨q1, q2, q3⟩]
          refine Or.inr ⟨Sum.inl (), ?_, Or.inl ⟨rfl, by omega⟩⟩
          simp [nIl0, nIl1, nIl2, nIl3, nIl4, b_X0_isOnHole_2, RC_size hR, hc, e1, e2, e3, k1, j2, kd, q1, q2, q3]
        · have hon : onH s d i = 0 := by rw [onH, if_neg (fun q => q3 q.2.2)]
          refine Or.inl ⟨nI (i + 1), ?_, rfl, by rw [sumN]; omega⟩
          simp [nIl0, nIl1, nIl2, nIl3, nIl4, b_X0_isOnHole_2, RC_size hR, hc, e1, e2, e3, k1, j2, kd, q1, q2, q3, nI_1]
      · have hon : onH s d i = 0 := by rw [onH, if_neg (fun q => q2 q.2.1)]
        refine Or.inl ⟨nI (i + 1), ?_, rfl, by rw [sumN]; omega⟩
        simp [nIl0, nIl1, nIl2, nIl3, nIl4, b_X0_isOnHole_2, RC_size hR, hc, e1, e2, k1, j2, q1, q2, nI_1]
    · have hon : onH s d i = 0 := by rw [onH, if_neg (fun q => q1 q.1)]
      refine Or.inl ⟨nI (i + 1), ?_, rfl, by rw [sumN]; omega⟩
      simp [nIl0, nIl1, nIl2, nIl3, nIl4, b_X0_isOnHole_2, RC_size hR, hc, e1, k1, q1, nI_1]) (by
    rintro x ⟨rfl, hs⟩
    refine ⟨Sum.inr (), ?_, Or.inr ⟨rfl, hs⟩⟩
    simp only [b_X0_isOnHole_2, RC_size hR, Int32.le_refl, ↓reduceIte]) (x := (0 : Int32)) ⟨rfl, rfl⟩
  unfold f_X0_isOnHole
  rw [h1]
  rcases h2 with ⟨rfl, h2⟩ | ⟨rfl, h2⟩
  · rw [if_neg h2]; rfl
  · rw [if_pos h2]; rfl
theorem c_mfor {p : AS} {m : Mm} {Q kd w : Nat} (hp : PW p) (hP : PC p m Q) (h4 : kd ≤ 4) (h1 : kd < 2 → w < p 0 1) (h2 : kd = 2 → w < p 0 2) : f_X8_minutesFor m Q (nI kd) (nI w) = some (nI (takN p kd w)) := by
  obtain ⟨⟨l1, l2, l3, l4⟩, ph, pd, pl, pp, pr⟩ := id hp
  obtain ⟨j0, j1, j2, -⟩ := nIs (a := kd) (by omega)
  unfold takN
  by_cases q1 : kd < 2
  · have e1 := P_ld hP (N := 10) 9 w (h1 q1) (by have := h1 q1; omega) (by decide)
    have : kd = 0 ∨ kd = 1 := by omega
    rcases this with q | q <;> simp [nIl0, nIl1, nIl2, nIl3, nIl4, f_X8_minutesFor, j0, j1, q, e1]
  · have q4 : ¬ kd = 0 := by omega
    have q5 : ¬ kd = 1 := by omega
    by_cases q2 : kd = 2
    · have e1 := P_ld hP (N := 4) 13 w (h2 q2) (by have := h2 q2; omega) (by decide)
      simp [nIl0, nIl1, nIl2, nIl3, nIl4, f_X8_minutesFor, j0, j1, j2, q2, e1]
    · rw [if_neg q1, if_neg q2]
      simp [nIl0, nIl1, nIl2, nIl3, nIl4, f_X8_minutesFor, j0, j1, j2, q4, q5, q2]
theorem c_place {p s : AS} {m : Mm} {S k : Nat} (hp : PW p) (hR : RC p s m S) (ho : okO p s k) : ∃ m', f_X7_takePlace m S (nI (s 8 k)) (nI (s 9 k)) (nI (s 10 k)) = some m' ∧ RC p (plcS k s) m' S ∧ FC S m m' := by
  obtain ⟨⟨l1, l2, l3, l4⟩, ph, pd, pl, pp, pr⟩ := id hp
  obtain ⟨o1, o2, o3, o4, o5, o6, o7, o8⟩ := id ho
  obtain ⟨j0, j1, j2, j3, -⟩ := nIs (a := s 8 k) (by omega)
  have hq : s 8 k = 0 ∨ s 8 k = 1 ∨ s 8 k = 2 ∨ s 8 k = 3 ∨ s 8 k = 4 := by omega
  unfold plcS
  rcases hq with q | q | q | q | q
  · have := o2 (by omega)
    obtain ⟨m', e1, e2, e3⟩ := C_st hR (N := 10) 3 (s 9 k) 0 (by decide) (by decide) (by omega) (by decide)
    have e1' : ast m (S + 3) 10 (nI (s 9 k)) 0 = some m' := e1
    refine ⟨m', by simp [nIl0, nIl1, nIl2, nIl3, nIl4, f_X7_takePlace, j0, q, e1'], ?_, e3⟩
    simp [q]
    exact RC_z e2 (fun a ha => (u3_r (by omega)).symm)
  · have := o2 (by omega)
    obtain ⟨m', e1, e2, e3⟩ := C_st hR (N := 10) 3 (s 9 k) 1 (by decide) (by decide) (by omega) (by decide)
    have e1' : ast m (S + 3) 10 (nI (s 9 k)) 1 = some m' := e1
    refine ⟨m', by simp [nIl0, nIl1, nIl2, nIl3, nIl4, f_X7_takePlace, j0, j1, q, e1'], ?_, e3⟩
    simp [q]
    exact RC_z e2 (fun a ha => (u3_r (by omega)).symm)
  · have := o3 (by omega)
    obtain ⟨m', e1, e2, e3⟩ := C_st hR (N := 4) 4 (s 9 k) 1 (by decide) (by decide) (by omega) (by decide)
    have e1' : ast m (S + 4) 4 (nI (s 9 k)) 1 = some m' := e1
    refine ⟨m', by simp [nIl0, nIl1, nIl2, nIl3, nIl4, f_X7_takePlace, j0, j1, j2, q, e1'], ?_, e3⟩
    simp [q]
    exact RC_z e2 (fun a ha => (u3_r (by omega)).symm)
  · have := o4 (by omega)
    obtain ⟨m', e1, e2, e3⟩ := C_st hR (N := 3) 5 (s 9 k) (s 10 k) (by decide) (by decide) (by omega) (by decide)
    refine ⟨m', by simp [nIl0, nIl1, nIl2, nIl3, nIl4, f_X7_takePlace, j0, j1, j2, j3, q, e1], ?_, e3⟩
    simp [q]
    exact e2
  · have := o5 (by omega)
    obtain ⟨m', e1, e2, e3⟩ := C_st hR (N := 8) 2 (s 9 k) (s 10 k) (by decide) (by decide) (by omega) (by decide)
    refine ⟨m', by simp [nIl0, nIl1, nIl2, nIl3, nIl4, f_X7_takePlace, j0, j1, j2, j3, q, e1], ?_, e3⟩
    simp [q]
    exact e2
theorem plcS_11 {s : AS} {k v : Nat} : plcS k (u3 s 11 k v) = u3 (plcS k s) 11 k v := by
  unfold plcS
  simp only [u3_f (s := s) (j := 11) (i := k) (v := v) (a := 8) (by decide), u3_f (s := s) (j := 11) (i := k) (v := v) (a := 9) (by decide), u3_f (s := s) (j := 11) (i := k) (v := v) (a := 10) (by decide)]
  split
  · rw [u3_cf (j := 11) (a := 3) (by decide), u3_cf (j := 11) (a := 13) (by decide)]
  split
  · rw [u3_cf (j := 11) (a := 3) (by decide), u3_cf (j := 11) (a := 13) (by decide)]
  split
  · rw [u3_cf (j := 11) (a := 4) (by decide), u3_cf (j := 11) (a := 14) (by decide)]
  split
  · rw [u3_cf (j := 11) (a := 5) (by decide)]
  · rw [u3_cf (j := 11) (a := 2) (by decide)]
def SK (p : AS) (M : Nat) (s t : AS) : Prop := SO p M t ∧ t 0 = s 0 ∧ t 1 = s 1 ∧ t 6 = s 6
theorem c_endO {p s : AS} {m : Mm} {S F M : Nat} (hM : M ≤ 2 ^ 20) (hp : PW p) (hR : RC p s m S) (ho : SO p M s) (hF : 100 < F) : ∃ m', f_X7_endOrders F m S = some m' ∧ RC p (rep endS (s 6 0) s) m' S ∧ FC S m m' ∧ SK p M s (rep endS (s 6 0) s) := by
  have hz := ho.1
  obtain ⟨m', h1, h2, h3, h4⟩ := c_loop (F := F) (n := s 6 0) (f := endS) (I := SK p M s) (b := b_X7_endOrders_2 S) (g := fun m => m) (by omega) hR ⟨ho, rfl, rfl, rfl⟩ (by
    intro i t m1 hi ⟨ht, t0, t1, t6⟩ hR1 hf1
    have hi' : i < t 6 0 := by rw [t6]; exact hi
    have hok := ht.2.2.2.2.2.1 i hi'
    obtain ⟨o1, o2, o3, o4, o5, o6, o7, o8⟩ := id hok
    have hsz : m1 (S + 6) 0 = nI (s 6 0) := by rw [RC_size hR1, t6]
    have hc : ¬ nI (s 6 0) ≤ nI i := nI_ge hi (by omega)
    have e1 := C_ld hR1 (N := 12) 11 i hi' (by omega) (by decide)
    have e2 := C_ld hR1 (N := 12) 12 i hi' (by omega) (by decide)
    obtain ⟨-, k1, -⟩ := nIs (a := t 11 i) (by omega)
    have k2 := nq (a := t 12 i) (c := t 0 0) (by rcases o8 with q | q <;> omega) (by have := ht.2.2.2.2.2.2.2; omega)
    have hK : SK p M s (endS i t) := ⟨endS_O hi' ht, by rw [endS_r (by omega)]; exact t0, by rw [endS_r (by omega)]; exact t1, by rw [endS_r (by omega)]; exact t6⟩
    by_cases q : t 11 i = 1 ∧ t 12 i = t 0 0
    · obtain ⟨m2, g1, g2, g3⟩ := C_st hR1 (N := 12) 11 i 2 (by decide) (by decide) (by omega) (by decide)
      have g1' : ast m1 (S + 11) 12 (nI i) 2 = some m2 := g1
      have f8 := C_ld g2 (N := 12) 8 i hi' (by omega) (by decide)
      have f9 := C_ld g2 (N := 12) 9 i hi' (by omega) (by decide)
      have f10 := C_ld g2 (N := 12) 10 i hi' (by omega) (by decide)
      have hok2 : okO p (u3 t 11 i 2) i := okO_of hok (u3_f (by decide)) (u3_f (by decide)) (u3_f (by decide)) (u3_f (by decide)) (by rw [u3_f (by decide)]; exact o8) (by rw [u3_same]; omega)
      obtain ⟨m3, g4, g5, g6⟩ := c_place hp g2 hok2
      have hE : endS i t = u3 (u3 (plcS i t) 11 i 2) 15 0 (t 15 0 - 1) := by rw [endS, if_pos q]
      refine ⟨m3, ?_, ?_, g3.tr g6, hK⟩
      · have kq : nI (t 11 i) = (1 : Int32) := by rw [q.1]; rfl
        have kq2 : nI (t 12 i) = nI (t 0 0) := by rw [q.2]
        simp only [b_X7_endOrders_2, hsz, hc, e1, e2, kq, RC_0 hR1, kq2, g1', f8, f9, f10, g4, Option.bind_some, ↓reduceIte, nI_1]
      · rw [hE, ← plcS_11]
        exact RC_z g5 (fun a ha => (u3_r (by omega)).symm)
    · have hE : endS i t = t := by rw [endS, if_neg q]
      rw [hE] at hK ⊢
      refine ⟨m1, ?_, hR1, FC.rf, hK⟩
      by_cases q1 : t 11 i = 1
      · have q2 : ¬ t 12 i = t 0 0 := fun w => q ⟨q1, w⟩
        have kq : nI (t 11 i) = (1 : Int32) := by rw [q1]; rfl
        simp only [b_X7_endOrders_2, hsz, hc, e1, e2, kq, RC_0 hR1, k2, q2, Option.bind_some, ↓reduceIte, nI_1]
      · simp only [b_X7_endOrders_2, hsz, hc, e1, k1, q1, Option.bind_some, ↓reduceIte, nI_1]) (by
    intro t m1 ⟨ht, t0, t1, t6⟩ hR1 hf1
    have hsz : m1 (S + 6) 0 = nI (s 6 0) := by rw [RC_size hR1, t6]
    simp only [b_X7_endOrders_2, hsz, Int32.le_refl, ↓reduceIte])
  exact ⟨m', by rw [f_X7_endOrders, h1]; rfl, h2, h3, h4⟩
theorem c_canB {p s : AS} {m : Mm} {S Q F M k : Nat} (hM : M ≤ 2 ^ 20) (hp : PW p) (hP : PC p m Q) (hR : RC p s m S) (ho : SO p M s) (hk : k < s 6 0) (hF : 100 < F) : f_X7_canBegin F m S Q (nI (s 8 k)) (nI (s 9 k)) = some (nI (if canB p s k then 1 else 0)) := by
  obtain ⟨⟨l1, l2, l3, l4⟩, ph, pd, pl, pp, pr⟩ := id hp
  obtain ⟨h1, h2, h3, h4, h5, h6, h7, h8⟩ := id ho
  obtain ⟨o1, o2, o3, o4, o5, o6, o7, o8⟩ := h6 k hk
  obtain ⟨j0, j1, j2, -⟩ := nIs (a := s 8 k) (by omega)
  have hle : sumN (isW 1 s) (s 6 0) ≤ s 6 0 * 1 := sumN_le (fun i _ => by unfold isW; split <;> omega)
  have e1 : f_X0_tally F m (S + 6) 1 = some (nI (s 15 0)) := by rw [h7]; exact c_tally hR h1 (fun k hk => (h6 k hk).2.2.2.2.2.1) (v := 1) (by omega) hF
  have e2 : ald m (Q + 16) 5 0 = some (nI (p 16 0)) := P_ld hP (N := 5) 16 0 (by show 0 < 5; omega) (by omega) (by decide)
  have hq : s 8 k = 0 ∨ s 8 k = 1 ∨ s 8 k = 2 ∨ s 8 k = 3 ∨ s 8 k = 4 := by omega
  by_cases q : s 15 0 < p 16 0
  · have q' : nI (s 15 0) < nI (p 16 0) := nI_lt q (by omega)
    rcases hq with g | g | g | g | g
    · have hw := o2 (by omega)
      obtain ⟨d1, d2, d3⟩ := h3 _ hw
      have e3 := C_ld hR (N := 10) 3 _ hw (by omega) (by decide)
      have e4 := c_onDoor (d := s 9 k) (F := F) hp hR ho (by omega) hF
      obtain ⟨i0, i1, -⟩ := nIs (a := s 3 (s 9 k)) (by omega)
      rw [← d3] at e4
      by_cases g1 : s 3 (s 9 k) = 1
      · by_cases g2 : s 13 (s 9 k) = 0
        · have e5 : nI 0 = (0 : Int32) := rfl
          simp [nIl0, nIl1, nIl2, nIl3, nIl4, f_X7_canBegin, canB, e1, e2, q, q', g, e3, i1, g1, e4, g2]
        · simp [nIl0, nIl1, nIl2, nIl3, nIl4, f_X7_canBegin, canB, e1, e2, q, q', g, e3, i1, g1, e4, g2]
      · simp [nIl0, nIl1, nIl2, nIl3, nIl4, f_X7_canBegin, canB, e1, e2, q, q', g, e3, i1, g1]
    · have hw := o2 (by omega)
      obtain ⟨d1, d2, d3⟩ := h3 _ hw
      have e3 := C_ld hR (N := 10) 3 _ hw (by omega) (by decide)
      have e4 := c_onDoor (d := s 9 k) (F := F) hp hR ho (by omega) hF
      obtain ⟨i0, i1, -⟩ := nIs (a := s 3 (s 9 k)) (by omega)
      rw [← d3] at e4
      by_cases g1 : s 3 (s 9 k) = 0
      · by_cases g2 : s 13 (s 9 k) = 0
        · simp [nIl0, nIl1, nIl2, nIl3, nIl4, f_X7_canBegin, canB, e1, e2, q, q', g, e3, i0, g1, e4, g2]
        · simp [nIl0, nIl1, nIl2, nIl3, nIl4, f_X7_canBegin, canB, e1, e2, q, q', g, e3, i0, g1, e4, g2]
      · simp [nIl0, nIl1, nIl2, nIl3, nIl4, f_X7_canBegin, canB, e1, e2, q, q', g, e3, i0, g1]
    · have hw := o3 (by omega)
      obtain ⟨d1, d2, d3⟩ := h4 _ hw
      have e3 := C_ld hR (N := 4) 4 _ hw (by omega) (by decide)
      have e4 := c_onHole (d := s 9 k) (F := F) hp hR ho (by omega) hF
      obtain ⟨i0, i1, -⟩ := nIs (a := s 4 (s 9 k)) (by omega)
      rw [← d3] at e4
      by_cases g1 : s 4 (s 9 k) = 0
      · by_cases g2 : s 14 (s 9 k) = 0
        · simp [nIl0, nIl1, nIl2, nIl3, nIl4, f_X7_canBegin, canB, e1, e2, q, q', g, e3, i0, g1, e4, g2]
        · simp [nIl0, nIl1, nIl2, nIl3, nIl4, f_X7_canBegin, canB, e1, e2, q, q', g, e3, i0, g1, e4, g2]
      · simp [nIl0, nIl1, nIl2, nIl3, nIl4, f_X7_canBegin, canB, e1, e2, q, q', g, e3, i0, g1]
    · simp [nIl0, nIl1, nIl2, nIl3, nIl4, f_X7_canBegin, canB, e1, e2, q, q', g]
    · simp [nIl0, nIl1, nIl2, nIl3, nIl4, f_X7_canBegin, canB, e1, e2, q, q', g]
  · have q' : ¬ nI (s 15 0) < nI (p 16 0) := nI_nlt (by omega) (by omega)
    simp [nIl0, nIl1, nIl2, nIl3, nIl4, f_X7_canBegin, canB, e1, e2, q, q']
theorem c_begO {p s : AS} {m : Mm} {S Q F M : Nat} (hS : isSt S) (hQ : isPl Q) (hM : M ≤ 2 ^ 20) (hp : PW p) (hP : PC p m Q) (hR : RC p s m S) (ho : SO p M s) (hF : 100 < F) : ∃ m', f_X7_beginOrders F m S Q = some m' ∧ RC p (rep (begS p) (s 6 0) s) m' S ∧ FC S m m' ∧ SK p M s (rep (begS p) (s 6 0) s) := by
  have hz := ho.1
  obtain ⟨m', h1, h2, h3, h4⟩ := c_loop (F := F) (n := s 6 0) (f := begS p) (I := SK p M s) (b := b_X7_beginOrders_2 F S Q) (g := fun m => m) (by omega) hR ⟨ho, rfl, rfl, rfl⟩ (by
    intro i t m1 hi ⟨ht, t0, t1, t6⟩ hR1 hf1
    have hP1 := PC_FC hP hS hQ hf1
    have hi' : i < t 6 0 := by rw [t6]; exact hi
    have hok := ht.2.2.2.2.2.1 i hi'
    obtain ⟨o1, o2, o3, o4, o5, o6, o7, o8⟩ := id hok
    have hsz : m1 (S + 6) 0 = nI (s 6 0) := by rw [RC_size hR1, t6]
    have hc : ¬ nI (s 6 0) ≤ nI i := nI_ge hi (by omega)
    have e1 := C_ld hR1 (N := 12) 11 i hi' (by omega) (by decide)
    have e2 := C_ld hR1 (N := 12) 7 i hi' (by omega) (by decide)
    have e3 := C_ld hR1 (N := 12) 8 i hi' (by omega) (by decide)
    have e4 := C_ld hR1 (N := 12) 9 i hi' (by omega) (by decide)
    obtain ⟨k1, -⟩ := nIs (a := t 11 i) (by omega)
    have k2 := nq (a := t 7 i) (c := t 0 0) (by omega) (by have := ht.2.2.2.2.2.2.2; omega)
    have e5 := c_canB hM hp hP1 hR1 ht hi' hF
    have hK : SK p M s (begS p i t) := ⟨begS_O hp hM hi' ht, by rw [begS_r (by omega)]; exact t0, by rw [begS_r (by omega)]; exact t1, by rw [begS_r (by omega)]; exact t6⟩
    by_cases q : t 11 i = 0 ∧ t 7 i = t 0 0
    · have kq : nI (t 11 i) = (0 : Int32) := by rw [q.1]; rfl
      have kq2 : nI (t 7 i) = nI (t 0 0) := by rw [q.2]
      by_cases hB : canB p t i
      · rw [if_pos hB] at e5
        have n1 : ¬ nI 1 = (0 : Int32) := by decide
        obtain ⟨m2, g1, g2, g3⟩ := C_st hR1 (N := 12) 11 i 1 (by decide) (by decide) (by omega) (by decide)
        have g1' : ast m1 (S + 11) 12 (nI i) 1 = some m2 := g1
        have f8 := C_ld g2 (N := 12) 8 i hi' (by omega) (by decide)
        have f9 := C_ld g2 (N := 12) 9 i hi' (by omega) (by decide)
        rw [u3_f (by decide)] at f8 f9
        have hP2 := PC_FC hP1 hS hQ g3
        have f10 := c_mfor hp hP2 o1 o2 o3
        have f11 : m2 S 0 = nI (t 0 0) := by rw [RC_0 g2, u3_f (by decide)]
        obtain ⟨m3, g4, g5, g6⟩ := C_st g2 (N := 12) 12 i (t 0 0 + takN p (t 8 i) (t 9 i)) (by decide) (by decide) (by omega) (by decide)
        have hE : begS p i t = u3 (u3 (u3 (wayS i t) 11 i 1) 12 i (t 0 0 + takN p (t 8 i) (t 9 i))) 15 0 (t 15 0 + 1) := by rw [begS, if_pos q, if_pos hB]
        refine ⟨m3, ?_, ?_, g3.tr g6, hK⟩
        · simp only [b_X7_beginOrders_2, hsz, hc, e1, e2, e3, e4, e5, n1, kq, RC_0 hR1, kq2, g1', f8, f9, f10, f11, g4, nI_add, Option.bind_some, ↓reduceIte, nI_1]
        · rw [hE]
          refine RC_z g5 (fun a ha => ?_)
          rw [u3_r (j := 15) (by omega)]
          funext b
          simp only [u3]
          split
          · rfl
          split
          · rfl
          · rw [wayS_r (by omega) (by omega)]
      · rw [if_neg hB] at e5
        have n1 : nI 0 = (0 : Int32) := rfl
        obtain ⟨m2, g1, g2, g3⟩ := C_st hR1 (N := 12) 11 i 3 (by decide) (by decide) (by omega) (by decide)
        have g1' : ast m1 (S + 11) 12 (nI i) 3 = some m2 := g1
        have hE : begS p i t = u3 (u3 t 11 i 3) 16 0 (t 16 0 + 1) := by rw [begS, if_pos q, if_neg hB]
        refine ⟨m2, ?_, ?_, g3, hK⟩
        · simp only [b_X7_beginOrders_2, hsz, hc, e1, e2, e3, e4, e5, n1, kq, RC_0 hR1, kq2, g1', Option.bind_some, ↓reduceIte, nI_1]
        · rw [hE]
          exact RC_z g2 (fun a ha => (u3_r (by omega)).symm)
    · have hE : begS p i t = t := by rw [begS, if_neg q]
      rw [hE] at hK ⊢
      refine ⟨m1, ?_, hR1, FC.rf, hK⟩
      by_cases q1 : t 11 i = 0
      · have q2 : ¬ t 7 i = t 0 0 := fun w => q ⟨q1, w⟩
        have kq : nI (t 11 i) = (0 : Int32) := by rw [q1]; rfl
        simp only [b_X7_beginOrders_2, hsz, hc, e1, e2, kq, RC_0 hR1, k2, q2, Option.bind_some, ↓reduceIte, nI_1]
      · simp only [b_X7_beginOrders_2, hsz, hc, e1, k1, q1, Option.bind_some, ↓reduceIte, nI_1]) (by
    intro t m1 ⟨ht, t0, t1, t6⟩ hR1 hf1
    have hsz : m1 (S + 6) 0 = nI (s 6 0) := by rw [RC_size hR1, t6]
    simp only [b_X7_beginOrders_2, hsz, Int32.le_refl, ↓reduceIte])
  exact ⟨m', by rw [f_X7_beginOrders, h1]; rfl, h2, h3, h4⟩

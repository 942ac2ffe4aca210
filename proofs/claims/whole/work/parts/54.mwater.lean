/-! the reference's orders, water and minute -/
theorem m_begins {p s : AS} {m : Mm} {B k M : Nat} (hp : PW p) (hB : B ≤ 384) (hP : PM p m) (ho : SO p M s) (hR : RM p s m B) (hk : k < s 6 0) (hc : s 11 k = 0 ∧ s 7 k = s 0 0) (hb : canB p s k) : ∃ m', f_X9_begins m (nI B) (nI k) = some m' ∧ RM p (begS p k s) m' B ∧ FM B m m' := by
  obtain ⟨l1, l2, l3, l4⟩ := hp.1
  have hz := ho.1
  have hok := ho.2.2.2.2.2.1 k hk
  obtain ⟨o1, o2, o3, o4, o5, o6, o7, o8⟩ := id hok
  have e1 : ald m 114 512 (nI B + 89 + nI k) = some (nI (s 8 k)) := M_ld hR hp.1 hz hB 8 k hk (ix2 B 89 k)
  have e2 : ald m 114 512 (nI B + 101 + nI k) = some (nI (s 9 k)) := M_ld hR hp.1 hz hB 9 k hk (ix2 B 101 k)
  have hway : ∃ m1, (if (2 : Int32) ≤ nI (s 8 k) then (if nI (s 8 k) = (2 : Int32) then ((ast m 114 512 ((nI B + (40 : Int32)) + nI (s 9 k)) 1).bind fun m4 => some m4) else (some m)) else ((ast m 114 512 ((nI B + (26 : Int32)) + nI (s 9 k)) 1).bind fun m5 => some m5) : Option (Mm)) = some m1 ∧ RM p (wayS k s) m1 B ∧ FM B m m1 := by
    unfold wayS
    by_cases q : s 8 k < 2
    · have hw := o2 q
      obtain ⟨m1, a1, a2, a3⟩ := M_st hR hp.1 hz hB 13 (s 9 k) 1 (by decide) (by show s 9 k < 10; omega) (by decide) (x := nI B + 26 + nI (s 9 k)) (v := 1) (ix2 B 26 _) rfl
      have k1 : ¬ (2 : Int32) ≤ nI (s 8 k) := nI_ge (b := 2) q (by decide)
      exact ⟨m1, by rw [if_neg k1, a1]; rfl, by rw [if_pos q]; exact a2, a3⟩
    · have k1 : (2 : Int32) ≤ nI (s 8 k) := nI_le (a := 2) (by omega) (by omega)
      by_cases q2 : s 8 k = 2
      · have hw := o3 q2
        obtain ⟨m1, a1, a2, a3⟩ := M_st hR hp.1 hz hB 14 (s 9 k) 1 (by decide) (by show s 9 k < 4; omega) (by decide) (x := nI B + 40 + nI (s 9 k)) (v := 1) (ix2 B 40 _) rfl
        have k2 : nI (s 8 k) = (2 : Int32) := by rw [q2]; rfl
        exact ⟨m1, by rw [if_pos k1, if_pos k2, a1]; rfl, by rw [if_neg q, if_pos q2]; exact a2, a3⟩
      · have k2 : ¬ nI (s 8 k) = (2 : Int32) := nI_ne (b := 2) (by omega) (by decide) q2
        exact ⟨m, by rw [if_pos k1, if_neg k2], by rw [if_neg q, if_neg q2]; exact hR, FM.rf⟩
  obtain ⟨m1, a1, a2, a3⟩ := hway
  have hr : ∀ a, a ≠ 13 → a ≠ 14 → wayS k s a = s a := fun a h1 h2 => wayS_r h1 h2
  have hz1 : wayS k s 6 0 ≤ 12 := by rw [hr 6 (by decide) (by decide)]; exact hz
  have hk1 : k < wayS k s 6 0 := by rw [hr 6 (by decide) (by decide)]; exact hk
  obtain ⟨m2, b1, b2, b3⟩ := M_st a2 hp.1 hz1 hB 11 k 1 (by decide) (by show k < 12; omega) (by decide) (x := nI B + 47 + nI k) (v := 1) (ix2 B 47 k) rfl
  have e3 : ald m2 114 512 (nI B + 71) = some (nI (s 0 0)) := (M_ld b2 hp.1 hz1 hB 0 0 (by show 0 < 3; decide) (ix1 B 71)).trans (by rw [u3_f (by decide), hr 0 (by decide) (by decide)])
  have hok2 : okO p (u3 (wayS k s) 11 k 1) k := okO_of hok (by rw [u3_f (by decide), hr 8 (by decide) (by decide)]) (by rw [u3_f (by decide), hr 9 (by decide) (by decide)]) (by rw [u3_f (by decide), hr 10 (by decide) (by decide)]) (by rw [u3_f (by decide), hr 7 (by decide) (by decide)]) (by rw [u3_f (by decide), hr 12 (by decide) (by decide)]; exact o8) (by rw [u3_same]; omega)
  have hP2 := PM_FM (B := B) hP (fun b hb => ((a3.tr b3).1 b hb))
  have e4 : f_X9_takes m2 (nI B) (nI k) = some (nI (takN p (s 8 k) (s 9 k))) := (m_takes hp hB hP2 (s := u3 (wayS k s) 11 k 1) hz1 b2 hk1 hok2).trans (by rw [u3_f (by decide), u3_f (by decide), hr 8 (by decide) (by decide), hr 9 (by decide) (by decide)])
  obtain ⟨m3, c1, c2, c3⟩ := M_st b2 hp.1 hz1 hB 12 k (s 0 0 + takN p (s 8 k) (s 9 k)) (by decide) (by show k < 12; omega) (by decide) (x := nI B + 59 + nI k) (v := nI (s 0 0) + nI (takN p (s 8 k) (s 9 k))) (ix2 B 59 k) (nI_add _ _)
  have h15 : wayS k s 15 0 = s 15 0 := by rw [hr 15 (by decide) (by decide)]
  have e5 : ald m3 114 512 (nI B + 74) = some (nI (s 15 0)) := (M_ld c2 hp.1 hz1 hB 15 0 (by show 0 < 1; decide) (ix1 B 74)).trans (by rw [u3_f (by decide), u3_f (by decide), h15])
  obtain ⟨m4, d1, d2, d3⟩ := M_st c2 hp.1 hz1 hB 15 0 (s 15 0 + 1) (by decide) (by decide) (by decide) (x := nI B + 74) (v := nI (s 15 0) + 1) (ix1 B 74) (nI_1 _)
  refine ⟨m4, ?_, by rw [begS, if_pos hc, if_pos hb]; exact d2, a3.tr (b3.tr (c3.tr d3))⟩
  unfold f_X9_begins
  rw [e1, Option.bind_some, e2, Option.bind_some, a1, Option.bind_some, b1, Option.bind_some, e3, Option.bind_some, e4, Option.bind_some, c1, Option.bind_some, e5, Option.bind_some, d1]
  rfl
theorem m_loop {ρ : Type} {p s : AS} {m : Mm} {B F n : Nat} {f : Nat → AS → AS} {I : AS → Prop} {b : Int32 × Mm → Option ((Int32 × Mm) ⊕ ρ)} {g : Mm → ρ} (hF : n < F) (hP : PM p m) (hR : RM p s m B) (h0 : I s) (hstep : ∀ i t (m1 : Mm), i < n → I t → PM p m1 → RM p t m1 B → ∃ m2, b (nI i, m1) = some (Sum.inl (nI (i + 1), m2)) ∧ RM p (f i t) m2 B ∧ FM B m1 m2 ∧ I (f i t)) (hend : ∀ t (m1 : Mm), I t → PM p m1 → RM p t m1 B → b (nI n, m1) = some (Sum.inr (g m1))) : ∃ m2, iter F b ((0, m) : Int32 × Mm) = some (g m2) ∧ RM p (rep f n s) m2 B ∧ FM B m m2 ∧ I (rep f n s) := by
  obtain ⟨r, h1, m2, h2, h3, h4, h5⟩ := iter_P (b := b) (F := F) n (fun i x => ∃ m1, x = (nI i, m1) ∧ RM p (rep f i s) m1 B ∧ FM B m m1 ∧ I (rep f i s)) (fun r => ∃ m2, r = g m2 ∧ RM p (rep f n s) m2 B ∧ FM B m m2 ∧ I (rep f n s)) hF (by
    rintro i x hi ⟨m1, rfl, q1, q2, q3⟩
    obtain ⟨m2, w1, w2, w3, w4⟩ := hstep i _ m1 hi q3 (PM_FM (B := B) hP q2.1) q1
    exact ⟨_, w1, m2, rfl, w2, q2.tr w3, w4⟩) (by
    rintro x ⟨m1, rfl, q1, q2, q3⟩
    exact ⟨_, hend _ m1 q3 (PM_FM (B := B) hP q2.1) q1, m1, rfl, q1, q2, q3⟩) (x := (0, m)) ⟨m, rfl, hR, FM.rf, h0⟩
  exact ⟨m2, by rw [h1, h2], h3, h4, h5⟩
theorem m_orders {p s : AS} {m : Mm} {B F M : Nat} (hp : PW p) (hM : M ≤ 2 ^ 20) (hB : B ≤ 384) (hP : PM p m) (ho : SO p M s) (hR : RM p s m B) (hF : 100 < F) : ∃ m', f_X9_ordersGo F m (nI B) = some m' ∧ RM p (ordS p s) m' B ∧ FM B m m' ∧ SK p M s (ordS p s) := by
  have hz := ho.1
  obtain ⟨m1, a1, a2, a3, a4⟩ := m_loop (F := F) (n := s 6 0) (f := endS) (I := SK p M s) (b := b_X9_ordersGo_2 (nI B)) (g := fun m => m) (by omega) hP hR ⟨ho, rfl, rfl, rfl⟩ (by
    intro i t m1 hi ⟨ht, t0, t1, t6⟩ hP1 hR1
    have hz1 := ht.1
    have hi' : i < t 6 0 := by rw [t6]; exact hi
    obtain ⟨o1, o2, o3, o4, o5, o6, o7, o8⟩ := ht.2.2.2.2.2.1 i hi'
    have e0 : ald m1 114 512 (nI B + 76) = some (nI (s 6 0)) := (M_ld hR1 hp.1 hz1 hB 6 0 (by show 0 < 1; decide) (ix1 B 76)).trans (by rw [t6])
    have e1 : ald m1 114 512 (nI B + 47 + nI i) = some (nI (t 11 i)) := M_ld hR1 hp.1 hz1 hB 11 i hi' (ix2 B 47 i)
    have e2 : ald m1 114 512 (nI B + 59 + nI i) = some (nI (t 12 i)) := M_ld hR1 hp.1 hz1 hB 12 i hi' (ix2 B 59 i)
    have e3 : ald m1 114 512 (nI B + 71) = some (nI (t 0 0)) := M_ld hR1 hp.1 hz1 hB 0 0 (by show 0 < 3; decide) (ix1 B 71)
    have hc : ¬ nI (s 6 0) ≤ nI i := nI_ge hi (by omega)
    obtain ⟨-, k1, -⟩ := nIs (a := t 11 i) (by omega)
    have k2 := nq (a := t 12 i) (c := t 0 0) (by rcases o8 with q | q <;> omega) (by have := ht.2.2.2.2.2.2.2; omega)
    have hK : SK p M s (endS i t) := ⟨endS_O hi' ht, by rw [endS_r (by omega)]; exact t0, by rw [endS_r (by omega)]; exact t1, by rw [endS_r (by omega)]; exact t6⟩
    by_cases q : t 11 i = 1 ∧ t 12 i = t 0 0
    · obtain ⟨m2, g1, g2, g3⟩ := m_ends hp hB ht hR1 hi' q
      refine ⟨m2, ?_, g2, g3, hK⟩
      have kq : nI (t 11 i) = (1 : Int32) := by rw [q.1]; rfl
      have kq2 : nI (t 12 i) = nI (t 0 0) := by rw [q.2]
      simp only [b_X9_ordersGo_2, e0, hc, e1, e2, e3, kq, kq2, g1, Option.bind_some, ↓reduceIte, nI_1]
    · have hE : endS i t = t := by rw [endS, if_neg q]
      rw [hE] at hK ⊢
      refine ⟨m1, ?_, hR1, FM.rf, hK⟩
      by_cases q1 : t 11 i = 1
      · have q2 : ¬ t 12 i = t 0 0 := fun w => q ⟨q1, w⟩
        have kq : nI (t 11 i) = (1 : Int32) := by rw [q1]; rfl
        simp only [b_X9_ordersGo_2, e0, hc, e1, e2, e3, kq, k2, q2, Option.bind_some, ↓reduceIte, nI_1]
      · simp only [b_X9_ordersGo_2, e0, hc, e1, k1, q1, Option.bind_some, ↓reduceIte, nI_1]) (by
    intro t m1 ⟨ht, t0, t1, t6⟩ hP1 hR1
    have e0 : ald m1 114 512 (nI B + 76) = some (nI (s 6 0)) := (M_ld hR1 hp.1 ht.1 hB 6 0 (by show 0 < 1; decide) (ix1 B 76)).trans (by rw [t6])
    simp only [b_X9_ordersGo_2, e0, Int32.le_refl, Option.bind_some, ↓reduceIte])
  have hP1 := PM_FM (B := B) hP a3.1
  obtain ⟨m2, b1, b2, b3, b4⟩ := m_loop (F := F) (n := s 6 0) (f := begS p) (I := SK p M s) (b := b_X9_ordersGo_67 (nI B)) (g := fun m => m) (by omega) hP1 a2 a4 (by
    intro i t m1 hi ⟨ht, t0, t1, t6⟩ hP1 hR1
    have hz1 := ht.1
    have hi' : i < t 6 0 := by rw [t6]; exact hi
    obtain ⟨o1, o2, o3, o4, o5, o6, o7, o8⟩ := ht.2.2.2.2.2.1 i hi'
    have e0 : ald m1 114 512 (nI B + 76) = some (nI (s 6 0)) := (M_ld hR1 hp.1 hz1 hB 6 0 (by show 0 < 1; decide) (ix1 B 76)).trans (by rw [t6])
    have e1 : ald m1 114 512 (nI B + 47 + nI i) = some (nI (t 11 i)) := M_ld hR1 hp.1 hz1 hB 11 i hi' (ix2 B 47 i)
    have e2 : ald m1 114 512 (nI B + 77 + nI i) = some (nI (t 7 i)) := M_ld hR1 hp.1 hz1 hB 7 i hi' (ix2 B 77 i)
    have e3 : ald m1 114 512 (nI B + 71) = some (nI (t 0 0)) := M_ld hR1 hp.1 hz1 hB 0 0 (by show 0 < 3; decide) (ix1 B 71)
    have hc : ¬ nI (s 6 0) ≤ nI i := nI_ge hi (by omega)
    obtain ⟨k1, -⟩ := nIs (a := t 11 i) (by omega)
    have k2 := nq (a := t 7 i) (c := t 0 0) (by omega) (by have := ht.2.2.2.2.2.2.2; omega)
    have hK : SK p M s (begS p i t) := ⟨begS_O hp hM hi' ht, by rw [begS_r (by omega)]; exact t0, by rw [begS_r (by omega)]; exact t1, by rw [begS_r (by omega)]; exact t6⟩
    have e5 := m_canB hp hB hP1 ht hR1 hi'
    by_cases q : t 11 i = 0 ∧ t 7 i = t 0 0
    · have kq : nI (t 11 i) = (0 : Int32) := by rw [q.1]; rfl
      have kq2 : nI (t 7 i) = nI (t 0 0) := by rw [q.2]
      by_cases hb : canB p t i
      · obtain ⟨m2, g1, g2, g3⟩ := m_begins hp hB hP1 ht hR1 hi' q hb
        refine ⟨m2, ?_, g2, g3, hK⟩
        rw [if_pos hb] at e5
        have n1 : ¬ nI 1 = (0 : Int32) := by decide
        simp only [b_X9_ordersGo_67, e0, hc, e1, e2, e3, kq, kq2, e5, n1, g1, Option.bind_some, ↓reduceIte, nI_1]
      · rw [if_neg hb] at e5
        have n1 : nI 0 = (0 : Int32) := rfl
        obtain ⟨m2, g1, g2, g3⟩ := M_st hR1 hp.1 hz1 hB 11 i 3 (by decide) (by show i < 12; omega) (by decide) (x := nI B + 47 + nI i) (v := 3) (ix2 B 47 i) rfl
        have e6 : ald m2 114 512 (nI B + 75) = some (nI (t 16 0)) := (M_ld g2 hp.1 hz1 hB 16 0 (by show 0 < 1; decide) (ix1 B 75)).trans (by rw [u3_f (by decide)])
        obtain ⟨m3, g4, g5, g6⟩ := M_st g2 hp.1 hz1 hB 16 0 (t 16 0 + 1) (by decide) (by decide) (by decide) (x := nI B + 75) (v := nI (t 16 0) + 1) (ix1 B 75) (nI_1 _)
        have hE : begS p i t = u3 (u3 t 11 i 3) 16 0 (t 16 0 + 1) := by rw [begS, if_pos q, if_neg hb]
        rw [hE] at hK ⊢
        refine ⟨m3, ?_, g5, g3.tr g6, hK⟩
        simp only [b_X9_ordersGo_67, e0, hc, e1, e2, e3, kq, kq2, e5, n1, g1, e6, g4, Option.bind_some, ↓reduceIte, nI_1]
        rw [← nI_1, g4]
        rfl
    · have hE : begS p i t = t := by rw [begS, if_neg q]
      rw [hE] at hK ⊢
      refine ⟨m1, ?_, hR1, FM.rf, hK⟩
      by_cases q1 : t 11 i = 0
      · have q2 : ¬ t 7 i = t 0 0 := fun w => q ⟨q1, w⟩
        have kq : nI (t 11 i) = (0 : Int32) := by rw [q1]; rfl
        simp only [b_X9_ordersGo_67, e0, hc, e1, e2, e3, kq, k2, q2, Option.bind_some, ↓reduceIte, nI_1]
      · simp only [b_X9_ordersGo_67, e0, hc, e1, k1, q1, Option.bind_some, ↓reduceIte, nI_1]) (by
    intro t m1 ⟨ht, t0, t1, t6⟩ hP1 hR1
    have e0 : ald m1 114 512 (nI B + 76) = some (nI (s 6 0)) := (M_ld hR1 hp.1 ht.1 hB 6 0 (by show 0 < 1; decide) (ix1 B 76)).trans (by rw [t6])
    simp only [b_X9_ordersGo_67, e0, Int32.le_refl, Option.bind_some, ↓reduceIte])
  refine ⟨m2, ?_, b2, a3.tr b3, b4⟩
  unfold f_X9_ordersGo
  rw [a1, Option.bind_some, b1]
  rfl
theorem m_height {p s : AS} {m : Mm} {B h : Nat} (hp : PW p) (hB : B ≤ 384) (hP : PM p m) (hz : s 6 0 ≤ 12) (hR : RM p s m B) (hw : SW p s) (hh : h < p 0 0) : f_X9_heightOf m (nI B) (nI h) = some (nI (hgt p s h)) := by
  have t := hp.2.1 h hh
  have w := hw h hh
  have e1 : ald m 114 512 (nI B + 0 + nI h) = some (nI (s 1 h)) := M_ld hR hp.1 hz hB 1 h hh (ix2 B 0 h)
  have e2 : ald m 116 32 (4 * nI h) = some (nI (p 1 h)) := pm_h hp.1 hP h 0 hh (by decide) (ixm 4 h)
  unfold f_X9_heightOf
  rw [e1, Option.bind_some, e2, Option.bind_some, show (12 : Int32) * nI (s 1 h) = nI (12 * s 1 h) from pk_mul 12 _, odivN (by omega) (by omega) (by omega)]
  rfl
theorem m_room {p s : AS} {m : Mm} {B h : Nat} (hp : PW p) (hB : B ≤ 384) (hP : PM p m) (hz : s 6 0 ≤ 12) (hR : RM p s m B) (hw : SW p s) (hh : h < p 0 0) : f_X9_room m (nI B) (nI h) = some (nI (p 1 h - s 1 h)) := by
  have w := hw h hh
  have e1 : ald m 114 512 (nI B + 0 + nI h) = some (nI (s 1 h)) := M_ld hR hp.1 hz hB 1 h hh (ix2 B 0 h)
  have e2 : ald m 116 32 (4 * nI h) = some (nI (p 1 h)) := pm_h hp.1 hP h 0 hh (by decide) (ixm 4 h)
  unfold f_X9_room
  rw [e2, Option.bind_some, e1, Option.bind_some, pk_sub w]

theorem m_comes {p s : AS} {m : Mm} {B i : Nat} (hp : PW p) (hB : B ≤ 384) (hP : PM p m) (hz : s 6 0 ≤ 12) (hR : RM p s m B) (hw : SW p s) (hs : s 4 i ≤ 1) (hi : i < p 0 2) : f_X9_comesIn m (nI B) (nI i) = some (nI (come p s i)) := by
  obtain ⟨⟨l1, l2, l3, l4⟩, ph, pd, pl, pp, pr⟩ := id hp
  obtain ⟨a1, a2, a3, a4, a5⟩ := pl i hi
  obtain ⟨b1, b2, b3, b4, b5⟩ := ph _ a1
  have hw1 := hw _ a1
  have e1 : ald m 118 12 (3 * nI i) = some (nI (p 11 i)) := pm_l hp.1 hP i 0 hi (by decide) (ixm 3 i)
  have e2 : ald m 114 512 (nI B + 36 + nI i) = some (nI (s 4 i)) := M_ld hR hp.1 hz hB 4 i hi (ix2 B 36 i)
  have e3 : ald m 118 12 (3 * nI i + 1) = some (nI (p 12 i)) := pm_l hp.1 hP i 1 hi (by decide) (ixm1 3 i 1)
  have e4 := m_height hp hB hP hz hR hw a1
  have e5 := m_room hp hB hP hz hR hw a1
  have hr := rat_le (p := p) (s := s) (i := i) a3
  have hg := hgt_le (p := p) (s := s) b1 hw1
  have hca := come_ar hr hg
  have e7 : nI (p 12 i) + (1 : Int32) = nI (p 12 i + 1) := nI_add _ 1
  have e8 : odiv (nI (p 12 i + 1)) (2 : Int32) = some (nI ((p 12 i + 1) / 2)) := odivN (d := 2) (by omega) (by omega) (by omega)
  have e9 : (12 : Int32) - nI (hgt p s (p 11 i)) = nI (12 - hgt p s (p 11 i)) := pk_sub (a := 12) hg
  have e10 : nI (rat p s i) * nI (12 - hgt p s (p 11 i)) + (11 : Int32) = nI (rat p s i * (12 - hgt p s (p 11 i)) + 11) := ixm1 _ _ 11
  have e11 : odiv (nI (rat p s i * (12 - hgt p s (p 11 i)) + 11)) (12 : Int32) = some (nI ((rat p s i * (12 - hgt p s (p 11 i)) + 11) / 12)) := odivN (d := 12) (by omega) (by omega) (by omega)
  have e12 : (if nI (s 4 i) = (1 : Int32) then ((ald m 118 12 (((3 : Int32) * nI i) + (1 : Int32))).bind fun x5 => (odiv (x5 + (1 : Int32)) (2 : Int32)).bind fun x6 => some x6) else ((ald m 118 12 (((3 : Int32) * nI i) + (1 : Int32))).bind fun x4 => some x4) : Option (Int32)) = some (nI (rat p s i)) := by
    unfold rat
    by_cases q : s 4 i = 1
    · have k1 : nI (s 4 i) = (1 : Int32) := by rw [q]; rfl
      rw [if_pos k1, if_pos q, e3, Option.bind_some, e7, e8, Option.bind_some]
    · have k1 : ¬ nI (s 4 i) = (1 : Int32) := nI_ne (b := 1) (by omega) (by decide) q
      rw [if_neg k1, if_neg q, e3, Option.bind_some]
  unfold f_X9_comesIn
  rw [e1, Option.bind_some, e2, Option.bind_some, e12, Option.bind_some, e4, Option.bind_some, e9, e10, e11, Option.bind_some, e5, Option.bind_some, Option.bind_some]
  unfold come tIn
  by_cases q : p 1 (p 11 i) - s 1 (p 11 i) ≤ (rat p s i * (12 - hgt p s (p 11 i)) + 11) / 12
  · rw [if_pos q, if_pos (nI_le q (by omega))]
  · rw [if_neg q, if_neg (nI_ge (by omega) (by omega))]

theorem m_ton {p s : AS} {m : Mm} {B d : Nat} (hp : PW p) (hB : B ≤ 384) (hP : PM p m) (hz : s 6 0 ≤ 12) (hR : RM p s m B) (hw : SW p s) (hd : d < p 0 1) : ∃ m', f_X9_aTon m (nI B) (nI d) = some m' ∧ RM p (tonS p d s) m' B ∧ FM B m m' := by
  obtain ⟨⟨l1, l2, l3, l4⟩, ph, pd, pl, pp, pr⟩ := id hp
  obtain ⟨a1, a2, a3, a4, a5, a6, a7, a8, a9⟩ := pd d hd
  have wa := hw _ a1
  have wb := hw _ a2
  have ta := ph _ a1
  have tb := ph _ a2
  have hA := hgt_le ta.1 wa
  have hBB := hgt_le tb.1 wb
  have e1 : ald m 117 60 (6 * nI d) = some (nI (p 5 d)) := pm_d hp.1 hP d 0 hd (by decide) (ixm 6 d)
  have e2 : ald m 117 60 (6 * nI d + 1) = some (nI (p 6 d)) := pm_d hp.1 hP d 1 hd (by decide) (ixm1 6 d 1)
  have e3 : ald m 117 60 (6 * nI d + 2) = some (nI (p 7 d)) := pm_d hp.1 hP d 2 hd (by decide) (ixm1 6 d 2)
  have e4 := m_height hp hB hP hz hR hw a1
  have e5 := m_height hp hB hP hz hR hw a2
  have e6 := m_room hp hB hP hz hR hw a1
  have e7 := m_room hp hB hP hz hR hw a2
  have e8 : ald m 114 512 (nI B + 0 + nI (p 5 d)) = some (nI (s 1 (p 5 d))) := M_ld hR hp.1 hz hB 1 _ a1 (ix2 B 0 _)
  have e9 : ald m 114 512 (nI B + 0 + nI (p 6 d)) = some (nI (s 1 (p 6 d))) := M_ld hR hp.1 hz hB 1 _ a2 (ix2 B 0 _)
  have n0 : f_X9_flag 0 = some 0 := rfl
  have n1 : f_X9_flag 1 = some 1 := rfl
  have n10 : ¬ (1 : Int32) = 0 := by decide
  have idle : ∀ h g, h < p 0 0 → g < p 0 0 → ∃ m', ((ald m 114 512 (nI B + 0 + nI h)).bind fun x20 => (f_X9_flag 0).bind fun x21 => (ast m 114 512 (nI B + 0 + nI h) (x20 - x21)).bind fun m23 => (ald m23 114 512 (nI B + 0 + nI g)).bind fun x24 => (f_X9_flag 0).bind fun x25 => (ast m23 114 512 (nI B + 0 + nI g) (x24 + x25)).bind fun m27 => some m27) = some m' ∧ RM p s m' B ∧ FM B m m' := by
    intro h g hh hg
    have c1 : ald m 114 512 (nI B + 0 + nI h) = some (nI (s 1 h)) := M_ld hR hp.1 hz hB 1 _ hh (ix2 B 0 _)
    obtain ⟨m1, b1, b2, b3⟩ := M_st hR hp.1 hz hB 1 h (s 1 h) (by decide) (by show h < 8; omega) (by decide) (x := nI B + 0 + nI h) (v := nI (s 1 h) - 0) (ix2 B 0 _) (by simp)
    rw [u3_id rfl] at b2
    have c2 : ald m1 114 512 (nI B + 0 + nI g) = some (nI (s 1 g)) := M_ld b2 hp.1 hz hB 1 _ hg (ix2 B 0 _)
    obtain ⟨m2, d1, d2, d3⟩ := M_st b2 hp.1 hz hB 1 g (s 1 g) (by decide) (by show g < 8; omega) (by decide) (x := nI B + 0 + nI g) (v := nI (s 1 g) + 0) (ix2 B 0 _) (by simp)
    rw [u3_id rfl] at d2
    refine ⟨m2, ?_, d2, b3.tr d3⟩
    rw [c1, n0, Option.bind_some, Option.bind_some, b1, Option.bind_some, c2, Option.bind_some, Option.bind_some, d1]
    rfl
  have move : ∀ h g, h < p 0 0 → g < p 0 0 → h ≠ g → 1 ≤ s 1 h → ∃ m', ((ald m 114 512 (nI B + 0 + nI h)).bind fun x20 => (f_X9_flag 1).bind fun x21 => (ast m 114 512 (nI B + 0 + nI h) (x20 - x21)).bind fun m23 => (ald m23 114 512 (nI B + 0 + nI g)).bind fun x24 => (f_X9_flag 1).bind fun x25 => (ast m23 114 512 (nI B + 0 + nI g) (x24 + x25)).bind fun m27 => some m27) = some m' ∧ RM p (u3 (u3 s 1 h (s 1 h - 1)) 1 g (s 1 g + 1)) m' B ∧ FM B m m' := by
    intro h g hh hg hne hpos
    have c1 : ald m 114 512 (nI B + 0 + nI h) = some (nI (s 1 h)) := M_ld hR hp.1 hz hB 1 _ hh (ix2 B 0 _)
    obtain ⟨m1, b1, b2, b3⟩ := M_st hR hp.1 hz hB 1 h (s 1 h - 1) (by decide) (by show h < 8; omega) (by decide) (x := nI B + 0 + nI h) (v := nI (s 1 h) - 1) (ix2 B 0 _) (pk_sub (b := 1) hpos)
    have c2 : ald m1 114 512 (nI B + 0 + nI g) = some (nI (s 1 g)) := (M_ld b2 hp.1 hz hB 1 _ hg (ix2 B 0 _)).trans (by rw [u3_i (Ne.symm hne)])
    obtain ⟨m2, d1, d2, d3⟩ := M_st b2 hp.1 hz hB 1 g (s 1 g + 1) (by decide) (by show g < 8; omega) (by decide) (x := nI B + 0 + nI g) (v := nI (s 1 g) + 1) (ix2 B 0 _) (nI_1 _)
    refine ⟨m2, ?_, d2, b3.tr d3⟩
    rw [c1, n1, Option.bind_some, Option.bind_some, b1, Option.bind_some, c2, Option.bind_some, Option.bind_some, d1]
    rfl
  unfold tonS
  by_cases h3 : hgt p s (p 6 d) < hgt p s (p 5 d)
  · have k1 : ¬ nI (hgt p s (p 5 d)) ≤ nI (hgt p s (p 6 d)) := nI_ge h3 (by omega)
    rw [if_neg (by omega)]
    by_cases h2 : hgt p s (p 5 d) ≤ p 7 d
    · have k2 : nI (hgt p s (p 5 d)) ≤ nI (p 7 d) := nI_le h2 (by omega)
      rw [if_pos (by omega)]
      obtain ⟨m', g1, g2, g3⟩ := idle (p 5 d) (p 6 d) a1 a2
      refine ⟨m', ?_, g2, g3⟩
      rw [← g1]
      unfold f_X9_aTon
      rw [e1, Option.bind_some, e2, Option.bind_some, e4, Option.bind_some, e5, Option.bind_some, if_neg k1, Option.bind_some, if_neg n10, Option.bind_some, if_neg n10, Option.bind_some, e4, Option.bind_some, e5, Option.bind_some, if_neg k1, Option.bind_some, e3, Option.bind_some, if_pos k2, Option.bind_some]
    · have k2 : ¬ nI (hgt p s (p 5 d)) ≤ nI (p 7 d) := nI_ge (by omega) (by omega)
      have hroom := hgt_room tb.1 wb h3 hA
      have k3 : ¬ nI (p 1 (p 6 d) - s 1 (p 6 d)) ≤ (0 : Int32) := nI_nle (by omega) (by omega)
      rw [if_neg (by omega), if_pos h3]
      obtain ⟨m', g1, g2, g3⟩ := move (p 5 d) (p 6 d) a1 a2 a3 (hgt_pos h3)
      refine ⟨m', ?_, g2, g3⟩
      rw [← g1]
      unfold f_X9_aTon
      rw [e1, Option.bind_some, e2, Option.bind_some, e4, Option.bind_some, e5, Option.bind_some, if_neg k1, Option.bind_some, if_neg n10, Option.bind_some, if_neg n10, Option.bind_some, e4, Option.bind_some, e5, Option.bind_some, if_neg k1, Option.bind_some, e3, Option.bind_some, if_neg k2, e7, Option.bind_some, if_neg k3, Option.bind_some]
  · have k1 : nI (hgt p s (p 5 d)) ≤ nI (hgt p s (p 6 d)) := nI_le (by omega) (by omega)
    by_cases h1 : hgt p s (p 5 d) = hgt p s (p 6 d)
    · rw [if_pos h1]
      obtain ⟨m', g1, g2, g3⟩ := idle (p 6 d) (p 5 d) a2 a1
      refine ⟨m', ?_, g2, g3⟩
      have k4 : nI (hgt p s (p 6 d)) ≤ nI (hgt p s (p 5 d)) := nI_le (by omega) (by omega)
      rw [← g1]
      unfold f_X9_aTon
      rw [e1, Option.bind_some, e2, Option.bind_some, e4, Option.bind_some, e5, Option.bind_some, if_pos k1, Option.bind_some, if_pos rfl, Option.bind_some, if_pos rfl, Option.bind_some, e5, Option.bind_some, e4, Option.bind_some, if_pos k4, Option.bind_some]
    · have k4 : ¬ nI (hgt p s (p 6 d)) ≤ nI (hgt p s (p 5 d)) := nI_ge (by omega) (by omega)
      rw [if_neg h1]
      by_cases h2 : hgt p s (p 6 d) ≤ p 7 d
      · have k2 : nI (hgt p s (p 6 d)) ≤ nI (p 7 d) := nI_le h2 (by omega)
        rw [if_pos (by omega)]
        obtain ⟨m', g1, g2, g3⟩ := idle (p 6 d) (p 5 d) a2 a1
        refine ⟨m', ?_, g2, g3⟩
        rw [← g1]
        unfold f_X9_aTon
        rw [e1, Option.bind_some, e2, Option.bind_some, e4, Option.bind_some, e5, Option.bind_some, if_pos k1, Option.bind_some, if_pos rfl, Option.bind_some, if_pos rfl, Option.bind_some, e5, Option.bind_some, e4, Option.bind_some, if_neg k4, Option.bind_some, e3, Option.bind_some, if_pos k2, Option.bind_some]
      · have k2 : ¬ nI (hgt p s (p 6 d)) ≤ nI (p 7 d) := nI_ge (by omega) (by omega)
        have hroom := hgt_room (p := p) (s := s) ta.1 wa (g := hgt p s (p 6 d)) (by omega) hBB
        have k3 : ¬ nI (p 1 (p 5 d) - s 1 (p 5 d)) ≤ (0 : Int32) := nI_nle (by omega) (by omega)
        rw [if_neg (by omega), if_neg h3]
        obtain ⟨m', g1, g2, g3⟩ := move (p 6 d) (p 5 d) a2 a1 (Ne.symm a3) (hgt_pos (p := p) (s := s) (h := p 6 d) (g := hgt p s (p 5 d)) (by omega))
        refine ⟨m', ?_, g2, g3⟩
        rw [← g1]
        unfold f_X9_aTon
        rw [e1, Option.bind_some, e2, Option.bind_some, e4, Option.bind_some, e5, Option.bind_some, if_pos k1, Option.bind_some, if_pos rfl, Option.bind_some, if_pos rfl, Option.bind_some, e5, Option.bind_some, e4, Option.bind_some, if_neg k4, Option.bind_some, e3, Option.bind_some, if_neg k2, e6, Option.bind_some, if_neg k3, Option.bind_some]

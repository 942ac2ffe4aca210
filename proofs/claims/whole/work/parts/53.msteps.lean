/-! the reference's steps: sums, orders -/
theorem m_all {p s : AS} {m : Mm} {B F : Nat} (hp : PW p) (hB : B ≤ 384) (hP : PM p m) (hz : s 6 0 ≤ 12) (hR : RM p s m B) (hF : 100 < F) : f_X9_allOf F m (nI B) = some (nI (sumN (s 1) (p 0 0))) := by
  have l1 := hp.1.1
  have h1 := iter_n (b := b_X9_allOf_4 m (nI B)) (F := F) (fun i => (nI (sumN (s 1) i), nI i)) (p 0 0) (nI (sumN (s 1) (p 0 0))) (by omega) (by
    intro i hi
    have hc : ¬ nI (p 0 0) ≤ nI i := nI_ge hi (by omega)
    have e1 : ald m 114 512 (nI B + 0 + nI i) = some (nI (s 1 i)) := M_ld hR hp.1 hz hB 1 i hi (ix2 B 0 i)
    simp only [b_X9_allOf_4, pm_1 hP, hc, e1, letv_eq, nI_1, nI_add, Option.bind_some, ↓reduceIte, sumN]) (by
    simp only [b_X9_allOf_4, pm_1 hP, Int32.le_refl, ↓reduceIte])
  unfold f_X9_allOf
  rw [show ((0, 0) : Int32 × Int32) = (fun i => (nI (sumN (s 1) i), nI i)) 0 from rfl, h1]
  rfl
theorem m_size (x : Int32) : f_X9_size x = some (iabs x) := by
  unfold f_X9_size iabs
  split <;> rfl
theorem m_lst {p s : AS} {m : Mm} {B F : Nat} (hp : PW p) (hB : B ≤ 384) (hP : PM p m) (hz : s 6 0 ≤ 12) (hR : RM p s m B) (hF : 100 < F) : f_X9_listOf F m (nI B) = some (lst p (s 1)) := by
  have l1 := hp.1.1
  have h1 := iter_n (b := b_X9_listOf_4 m (nI B)) (F := F) (fun i => (sumTo (fun h => nI (s 1 h) * (nI (p 2 h) - 1)) i, nI i)) (p 0 0) (sumTo (fun h => nI (s 1 h) * (nI (p 2 h) - 1)) (p 0 0)) (by omega) (by
    intro i hi
    have hc : ¬ nI (p 0 0) ≤ nI i := nI_ge hi (by omega)
    have e1 : ald m 114 512 (nI B + 0 + nI i) = some (nI (s 1 i)) := M_ld hR hp.1 hz hB 1 i hi (ix2 B 0 i)
    have e2 : ald m 116 32 (4 * nI i + 1) = some (nI (p 2 i)) := pm_h hp.1 hP i 1 hi (by decide) (ixm1 4 i 1)
    have e3 : (nI (p 2 i) - 1) * nI (s 1 i) = nI (s 1 i) * (nI (p 2 i) - 1) := Int32.mul_comm _ _
    simp only [b_X9_listOf_4, pm_1 hP, hc, e1, e2, e3, letv_eq, nI_1, Option.bind_some, ↓reduceIte, sumTo]) (by
    simp only [b_X9_listOf_4, pm_1 hP, Int32.le_refl, ↓reduceIte])
  unfold f_X9_listOf
  rw [show ((0, 0) : Int32 × Int32) = (fun i => (sumTo (fun h => nI (s 1 h) * (nI (p 2 h) - 1)) i, nI i)) 0 from rfl, h1, Option.bind_some, m_size, Option.bind_some, odiv_n (by decide)]
  rfl
theorem m_trm {p s : AS} {m : Mm} {B F : Nat} (hp : PW p) (hB : B ≤ 384) (hP : PM p m) (hz : s 6 0 ≤ 12) (hR : RM p s m B) (hF : 100 < F) : f_X9_trimOf F m (nI B) = some (trm p (s 1)) := by
  have l1 := hp.1.1
  have h1 := iter_n (b := b_X9_trimOf_4 m (nI B)) (F := F) (fun i => (sumTo (fun h => nI (s 1 h) * (nI (p 3 h) - 9)) i, nI i)) (p 0 0) (sumTo (fun h => nI (s 1 h) * (nI (p 3 h) - 9)) (p 0 0)) (by omega) (by
    intro i hi
    have hc : ¬ nI (p 0 0) ≤ nI i := nI_ge hi (by omega)
    have e1 : ald m 114 512 (nI B + 0 + nI i) = some (nI (s 1 i)) := M_ld hR hp.1 hz hB 1 i hi (ix2 B 0 i)
    have e2 : ald m 116 32 (4 * nI i + 2) = some (nI (p 3 i)) := pm_h hp.1 hP i 2 hi (by decide) (ixm1 4 i 2)
    have e3 : (nI (p 3 i) - 9) * nI (s 1 i) = nI (s 1 i) * (nI (p 3 i) - 9) := Int32.mul_comm _ _
    simp only [b_X9_trimOf_4, pm_1 hP, hc, e1, e2, e3, letv_eq, nI_1, Option.bind_some, ↓reduceIte, sumTo]) (by
    simp only [b_X9_trimOf_4, pm_1 hP, Int32.le_refl, ↓reduceIte])
  unfold f_X9_trimOf
  rw [show ((0, 0) : Int32 × Int32) = (fun i => (sumTo (fun h => nI (s 1 h) * (nI (p 3 h) - 9)) i, nI i)) 0 from rfl, h1, Option.bind_some, m_size, Option.bind_some, odiv_n (by decide)]
  rfl
theorem m_why {p s : AS} {m : Mm} {B F : Nat} (hp : PW p) (hB : B ≤ 384) (hP : PM p m) (hz : s 6 0 ≤ 12) (hR : RM p s m B) (hF : 100 < F) : f_X9_whySinks F m (nI B) = some (nI (whyN p (s 1))) := by
  have e1 : ald m 120 5 1 = some (nI (p 16 1)) := pm_r hP 1 (by decide) rfl
  have e2 : ald m 120 5 2 = some (nI (p 16 2)) := pm_r hP 2 (by decide) rfl
  have e3 : ald m 120 5 3 = some (nI (p 16 3)) := pm_r hP 3 (by decide) rfl
  unfold f_X9_whySinks whyN
  rw [m_all hp hB hP hz hR hF, m_lst hp hB hP hz hR hF, m_trm hp hB hP hz hR hF, e1, e2, e3]
  simp only [Option.bind_some]
  split
  · split
    · split <;> rfl
    · rfl
  · rfl
theorem nI_le0 {a : Nat} (h : a < 2 ^ 31) (q : ¬ a = 0) : ¬ nI a ≤ (0 : Int32) := nI_nle (by omega) h
theorem m_sees {p s : AS} {m : Mm} {B F M : Nat} (hp : PW p) (hB : B ≤ 384) (hP : PM p m) (ho : SO p M s) (hR : RM p s m B) (hF : 100 < F) (h0 : s 0 1 = 0) : ∃ m', f_X9_sees F m (nI B) = some m' ∧ RM p (seeS p s) m' B ∧ FM B m m' := by
  have hz := ho.1
  have e1 : ald m 114 512 (nI B + 72) = some (nI (s 0 1)) := M_ld hR hp.1 hz hB 0 1 (by show 1 < 3; decide) (ix1 B 72)
  have e2 := m_why hp hB hP hz hR hF
  obtain ⟨m1, a1, a2, a3⟩ := M_st hR hp.1 hz hB 0 1 (whyN p (s 1)) (by decide) (by decide) (by decide) (x := nI B + 72) (ix1 B 72) rfl
  have hw := whyN_le (p := p) (w := s 1)
  have e3 : ald m1 114 512 (nI B + 72) = some (nI (whyN p (s 1))) := (M_ld a2 hp.1 hz hB 0 1 (by show 1 < 3; decide) (ix1 B 72)).trans (by rw [u3_same])
  have e4 : ald m1 114 512 (nI B + 71) = some (nI (s 0 0)) := (M_ld a2 hp.1 hz hB 0 0 (by show 0 < 3; decide) (ix1 B 71)).trans (by rw [u3_i (by decide)])
  obtain ⟨m2, b1, b2, b3⟩ := M_st a2 hp.1 hz hB 0 2 (if whyN p (s 1) = 0 then 4294967292 else s 0 0) (by decide) (by decide) (by decide) (x := nI B + 73) (ix1 B 73) rfl
  refine ⟨m2, ?_, b2, a3.tr b3⟩
  have k0 : nI (s 0 1) = (0 : Int32) := by rw [h0]; rfl
  by_cases q : whyN p (s 1) = 0
  · rw [q] at a1 e2 e3
    rw [if_pos q, nI_NN] at b1
    have k1 : nI 0 ≤ (0 : Int32) := by decide
    simp only [f_X9_sees, e1, k0, e2, a1, e3, k1, b1, Option.bind_some, ↓reduceIte]
  · rw [if_neg q] at b1
    have k1 := nI_le0 (a := whyN p (s 1)) (by omega) q
    simp only [f_X9_sees, e1, k0, e2, a1, e3, k1, e4, b1, Option.bind_some, ↓reduceIte]
theorem m_takes {p s : AS} {m : Mm} {B k : Nat} (hp : PW p) (hB : B ≤ 384) (hP : PM p m) (hz : s 6 0 ≤ 12) (hR : RM p s m B) (hk : k < s 6 0) (ho : okO p s k) : f_X9_takes m (nI B) (nI k) = some (nI (takN p (s 8 k) (s 9 k))) := by
  obtain ⟨o1, o2, o3, o4, o5, o6, o7, o8⟩ := id ho
  have e1 : ald m 114 512 (nI B + 89 + nI k) = some (nI (s 8 k)) := M_ld hR hp.1 hz hB 8 k hk (ix2 B 89 k)
  have e2 : ald m 114 512 (nI B + 101 + nI k) = some (nI (s 9 k)) := M_ld hR hp.1 hz hB 9 k hk (ix2 B 101 k)
  unfold takN
  by_cases q1 : s 8 k < 2
  · have e3 : ald m 117 60 (6 * nI (s 9 k) + 4) = some (nI (p 9 (s 9 k))) := pm_d hp.1 hP _ 4 (o2 q1) (by decide) (ixm1 6 _ 4)
    have k1 : ¬ (2 : Int32) ≤ nI (s 8 k) := nI_ge (b := 2) q1 (by decide)
    simp only [f_X9_takes, e1, e2, k1, e3, q1, Option.bind_some, ↓reduceIte]
  · have k1 : (2 : Int32) ≤ nI (s 8 k) := nI_le (a := 2) (by omega) (by omega)
    by_cases q2 : s 8 k = 2
    · have e3 : ald m 118 12 (3 * nI (s 9 k) + 2) = some (nI (p 13 (s 9 k))) := pm_l hp.1 hP _ 2 (o3 q2) (by decide) (ixm1 3 _ 2)
      have k2 : nI (s 8 k) = (2 : Int32) := by rw [q2]; rfl
      have k3 : (2 : Int32) ≤ 2 := by decide
      simp only [f_X9_takes, e1, e2, k2, k3, e3, Option.bind_some, ↓reduceIte]
      rw [if_neg q1, if_pos q2]
    · have k2 : ¬ nI (s 8 k) = (2 : Int32) := nI_ne (b := 2) (by omega) (by decide) q2
      simp only [f_X9_takes, e1, e2, k1, k2, Option.bind_some, ↓reduceIte]
      rw [if_neg q1, if_neg q2]
      rfl
theorem m_place {p s : AS} {m : Mm} {B k : Nat} (hp : PW p) (hB : B ≤ 384) (hz : s 6 0 ≤ 12) (hR : RM p s m B) (hk : k < s 6 0) (ho : okO p s k) : ∃ m', (if nI (s 8 k) = 0 then ((ast m 114 512 (nI B + 16 + nI (s 9 k)) 0).bind fun m4 => (ast m4 114 512 (nI B + 26 + nI (s 9 k)) 0).bind fun m5 => some m5) else (if nI (s 8 k) = 1 then ((ast m 114 512 (nI B + 16 + nI (s 9 k)) 1).bind fun m6 => (ast m6 114 512 (nI B + 26 + nI (s 9 k)) 0).bind fun m7 => some m7) else (if nI (s 8 k) = 2 then ((ast m 114 512 (nI B + 36 + nI (s 9 k)) 1).bind fun m8 => (ast m8 114 512 (nI B + 40 + nI (s 9 k)) 0).bind fun m9 => some m9) else (if nI (s 8 k) = 3 then ((ald m 114 512 (nI B + 113 + nI k)).bind fun x10 => (ast m 114 512 (nI B + 44 + nI (s 9 k)) x10).bind fun m11 => some m11) else ((ald m 114 512 (nI B + 113 + nI k)).bind fun x12 => (ast m 114 512 (nI B + 8 + nI (s 9 k)) x12).bind fun m13 => some m13)))) : Option Mm) = some m' ∧ RM p (plcS k s) m' B ∧ FM B m m' := by
  obtain ⟨l1, l2, l3, l4⟩ := hp.1
  obtain ⟨o1, o2, o3, o4, o5, o6, o7, o8⟩ := id ho
  have e1 : ald m 114 512 (nI B + 113 + nI k) = some (nI (s 10 k)) := M_ld hR hp.1 hz hB 10 k hk (ix2 B 113 k)
  have hq : s 8 k = 0 ∨ s 8 k = 1 ∨ s 8 k = 2 ∨ s 8 k = 3 ∨ s 8 k = 4 := by omega
  have hw : (s 8 k < 2 → s 9 k < lenM 3) ∧ (s 8 k = 2 → s 9 k < lenM 4) ∧ (s 8 k = 3 → s 9 k < lenM 5) ∧ (s 8 k = 4 → s 9 k < lenM 2) := by
    refine ⟨fun q => ?_, fun q => ?_, fun q => ?_, fun q => ?_⟩
    · have := o2 q
      show s 9 k < 10
      omega
    · have := o3 q
      show s 9 k < 4
      omega
    · have := (o4 q).1
      show s 9 k < 3
      omega
    · have := (o5 q).1
      show s 9 k < 8
      omega
  obtain ⟨w1, w2, w3, w4⟩ := hw
  unfold plcS
  rcases hq with q | q | q | q | q
  · obtain ⟨m1, a1, a2, a3⟩ := M_st hR hp.1 hz hB 3 (s 9 k) 0 (by decide) (w1 (by omega)) (by decide) (x := nI B + 16 + nI (s 9 k)) (v := 0) (ix2 B 16 _) rfl
    obtain ⟨m2, b1, b2, b3⟩ := M_st a2 hp.1 hz hB 13 (s 9 k) 0 (by decide) (w1 (by omega)) (by decide) (x := nI B + 26 + nI (s 9 k)) (v := 0) (ix2 B 26 _) rfl
    refine ⟨m2, ?_, ?_, a3.tr b3⟩
    · simp [nIl0, nIl1, nIl2, nIl3, nIl4, q, a1, b1]
    · simp only [q, ↓reduceIte]
      exact b2
  · obtain ⟨m1, a1, a2, a3⟩ := M_st hR hp.1 hz hB 3 (s 9 k) 1 (by decide) (w1 (by omega)) (by decide) (x := nI B + 16 + nI (s 9 k)) (v := 1) (ix2 B 16 _) rfl
    obtain ⟨m2, b1, b2, b3⟩ := M_st a2 hp.1 hz hB 13 (s 9 k) 0 (by decide) (w1 (by omega)) (by decide) (x := nI B + 26 + nI (s 9 k)) (v := 0) (ix2 B 26 _) rfl
    refine ⟨m2, ?_, ?_, a3.tr b3⟩
    · simp [nIl0, nIl1, nIl2, nIl3, nIl4, q, a1, b1]
    · simp [q]
      exact b2
  · obtain ⟨m1, a1, a2, a3⟩ := M_st hR hp.1 hz hB 4 (s 9 k) 1 (by decide) (w2 (by omega)) (by decide) (x := nI B + 36 + nI (s 9 k)) (v := 1) (ix2 B 36 _) rfl
    obtain ⟨m2, b1, b2, b3⟩ := M_st a2 hp.1 hz hB 14 (s 9 k) 0 (by decide) (w2 (by omega)) (by decide) (x := nI B + 40 + nI (s 9 k)) (v := 0) (ix2 B 40 _) rfl
    refine ⟨m2, ?_, ?_, a3.tr b3⟩
    · simp [nIl0, nIl1, nIl2, nIl3, nIl4, q, a1, b1]
    · simp [q]
      exact b2
  · obtain ⟨m1, a1, a2, a3⟩ := M_st hR hp.1 hz hB 5 (s 9 k) (s 10 k) (by decide) (w3 (by omega)) (by decide) (x := nI B + 44 + nI (s 9 k)) (ix2 B 44 _) rfl
    refine ⟨m1, ?_, ?_, a3⟩
    · simp [nIl0, nIl1, nIl2, nIl3, nIl4, q, a1, e1]
    · simp [q]
      exact a2
  · obtain ⟨m1, a1, a2, a3⟩ := M_st hR hp.1 hz hB 2 (s 9 k) (s 10 k) (by decide) (w4 (by omega)) (by decide) (x := nI B + 8 + nI (s 9 k)) (ix2 B 8 _) rfl
    refine ⟨m1, ?_, ?_, a3⟩
    · simp [nIl0, nIl1, nIl2, nIl3, nIl4, q, a1, e1]
    · simp [q]
      exact a2
theorem m_ends {p s : AS} {m : Mm} {B k M : Nat} (hp : PW p) (hB : B ≤ 384) (ho : SO p M s) (hR : RM p s m B) (hk : k < s 6 0) (hc : s 11 k = 1 ∧ s 12 k = s 0 0) : ∃ m', f_X9_ends m (nI B) (nI k) = some m' ∧ RM p (endS k s) m' B ∧ FM B m m' := by
  obtain ⟨l1, l2, l3, l4⟩ := hp.1
  have hz := ho.1
  have hok := ho.2.2.2.2.2.1 k hk
  have e1 : ald m 114 512 (nI B + 89 + nI k) = some (nI (s 8 k)) := M_ld hR hp.1 hz hB 8 k hk (ix2 B 89 k)
  have e2 : ald m 114 512 (nI B + 101 + nI k) = some (nI (s 9 k)) := M_ld hR hp.1 hz hB 9 k hk (ix2 B 101 k)
  obtain ⟨m1, a1, a2, a3⟩ := m_place hp hB hz hR hk hok
  have hz1 : plcS k s 6 0 ≤ 12 := by rw [plcS_r (by decide) (by decide) (by decide) (by decide) (by decide) (by decide)]; exact hz
  obtain ⟨m2, b1, b2, b3⟩ := M_st a2 hp.1 hz1 hB 11 k 2 (by decide) (by show k < 12; omega) (by decide) (x := nI B + 47 + nI k) (v := 2) (ix2 B 47 k) rfl
  have h15 : plcS k s 15 0 = s 15 0 := by rw [plcS_r (by decide) (by decide) (by decide) (by decide) (by decide) (by decide)]
  have e3 : ald m2 114 512 (nI B + 74) = some (nI (s 15 0)) := (M_ld b2 hp.1 hz1 hB 15 0 (by show 0 < 1; decide) (ix1 B 74)).trans (by rw [u3_f (by decide), h15])
  have hpos : 1 ≤ s 15 0 := by
    rw [ho.2.2.2.2.2.2.1]
    have := sumN_ge (f := isW 1 s) hk
    rw [isW, if_pos hc.1] at this
    exact this
  obtain ⟨m3, c1, c2, c3⟩ := M_st b2 hp.1 hz1 hB 15 0 (s 15 0 - 1) (by decide) (by decide) (by decide) (x := nI B + 74) (v := nI (s 15 0) - 1) (ix1 B 74) (pk_sub (b := 1) hpos)
  refine ⟨m3, ?_, by rw [endS, if_pos hc]; exact c2, a3.tr (b3.tr c3)⟩
  unfold f_X9_ends
  rw [e2, Option.bind_some, e1, Option.bind_some, a1, Option.bind_some, b1, Option.bind_some, e3, Option.bind_some, c1]
  rfl
theorem m_canB {p s : AS} {m : Mm} {B k M : Nat} (hp : PW p) (hB : B ≤ 384) (hP : PM p m) (ho : SO p M s) (hR : RM p s m B) (hk : k < s 6 0) : f_X9_canBegin m (nI B) (nI k) = some (nI (if canB p s k then 1 else 0)) := by
  obtain ⟨⟨l1, l2, l3, l4⟩, ph, pd, pl, pp, pr⟩ := id hp
  have hz := ho.1
  obtain ⟨o1, o2, o3, o4, o5, o6, o7, o8⟩ := ho.2.2.2.2.2.1 k hk
  have hle : sumN (isW 1 s) (s 6 0) ≤ s 6 0 * 1 := sumN_le (fun i _ => by unfold isW; split <;> omega)
  have h7 := ho.2.2.2.2.2.2.1
  have e1 : ald m 114 512 (nI B + 89 + nI k) = some (nI (s 8 k)) := M_ld hR hp.1 hz hB 8 k hk (ix2 B 89 k)
  have e2 : ald m 114 512 (nI B + 101 + nI k) = some (nI (s 9 k)) := M_ld hR hp.1 hz hB 9 k hk (ix2 B 101 k)
  have e3 : ald m 114 512 (nI B + 74) = some (nI (s 15 0)) := M_ld hR hp.1 hz hB 15 0 (by show 0 < 1; decide) (ix1 B 74)
  have e4 : ald m 120 5 0 = some (nI (p 16 0)) := pm_r hP 0 (by decide) rfl
  by_cases q : s 15 0 < p 16 0
  · have q' : nI (s 15 0) < nI (p 16 0) := nI_lt q (by omega)
    by_cases g : s 8 k < 2
    · have hw := o2 g
      obtain ⟨d1, d2, -⟩ := ho.2.2.1 _ hw
      have k1 : ¬ (2 : Int32) ≤ nI (s 8 k) := nI_ge (b := 2) g (by decide)
      have e5 : ald m 114 512 (nI B + 16 + nI (s 9 k)) = some (nI (s 3 (s 9 k))) := M_ld hR hp.1 hz hB 3 _ hw (ix2 B 16 _)
      have e6 : ald m 114 512 (nI B + 26 + nI (s 9 k)) = some (nI (s 13 (s 9 k))) := M_ld hR hp.1 hz hB 13 _ hw (ix2 B 26 _)
      have k2 : (1 : Int32) - nI (s 8 k) = nI (1 - s 8 k) := pk_sub (a := 1) (by omega)
      have k3 := nq (a := s 3 (s 9 k)) (c := 1 - s 8 k) (by omega) (by omega)
      obtain ⟨k4, -⟩ := nIs (a := s 13 (s 9 k)) (by omega)
      have g' : ¬ s 8 k = 2 := by omega
      by_cases g1 : s 3 (s 9 k) = 1 - s 8 k
      · by_cases g2 : s 13 (s 9 k) = 0
        · have hb : canB p s k := ⟨q, fun _ => ⟨g1, g2⟩, fun w => absurd w g'⟩
          simp only [f_X9_canBegin, e1, e2, e3, e4, q', k1, e5, e6, k2, k3, k4, eq_true g1, eq_true g2, Option.bind_some, ↓reduceIte]
          rw [if_pos hb]
          rfl
        · have hb : ¬ canB p s k := fun w => g2 (w.2.1 g).2
          simp only [f_X9_canBegin, e1, e2, e3, e4, q', k1, e5, e6, k2, k3, k4, eq_true g1, eq_false g2, Option.bind_some, ↓reduceIte]
          rw [if_neg hb]
          rfl
      · have hb : ¬ canB p s k := fun w => g1 (w.2.1 g).1
        simp only [f_X9_canBegin, e1, e2, e3, e4, q', k1, e5, k2, k3, eq_false g1, Option.bind_some, ↓reduceIte]
        rw [if_neg hb]
        rfl
    · have k1 : (2 : Int32) ≤ nI (s 8 k) := nI_le (a := 2) (by omega) (by omega)
      obtain ⟨-, -, j2, -⟩ := nIs (a := s 8 k) (by omega)
      by_cases g' : s 8 k = 2
      · have hw := o3 g'
        obtain ⟨d1, d2, -⟩ := ho.2.2.2.1 _ hw
        have e5 : ald m 114 512 (nI B + 36 + nI (s 9 k)) = some (nI (s 4 (s 9 k))) := M_ld hR hp.1 hz hB 4 _ hw (ix2 B 36 _)
        have e6 : ald m 114 512 (nI B + 40 + nI (s 9 k)) = some (nI (s 14 (s 9 k))) := M_ld hR hp.1 hz hB 14 _ hw (ix2 B 40 _)
        obtain ⟨k3, -⟩ := nIs (a := s 4 (s 9 k)) (by omega)
        obtain ⟨k4, -⟩ := nIs (a := s 14 (s 9 k)) (by omega)
        by_cases g1 : s 4 (s 9 k) = 0
        · by_cases g2 : s 14 (s 9 k) = 0
          · have hb : canB p s k := ⟨q, fun w => absurd w g, fun _ => ⟨g1, g2⟩⟩
            simp only [f_X9_canBegin, e1, e2, e3, e4, q', k1, e5, e6, j2, k3, k4, eq_true g1, eq_true g2, eq_true g', Option.bind_some, ↓reduceIte]
            rw [if_pos hb]
            rfl
          · have hb : ¬ canB p s k := fun w => g2 (w.2.2 g').2
            simp only [f_X9_canBegin, e1, e2, e3, e4, q', k1, e5, e6, j2, k3, k4, eq_true g1, eq_false g2, eq_true g', Option.bind_some, ↓reduceIte]
            rw [if_neg hb]
            rfl
        · have hb : ¬ canB p s k := fun w => g1 (w.2.2 g').1
          simp only [f_X9_canBegin, e1, e2, e3, e4, q', k1, e5, j2, k3, eq_false g1, eq_true g', Option.bind_some, ↓reduceIte]
          rw [if_neg hb]
          rfl
      · have hb : canB p s k := ⟨q, fun w => absurd w g, fun w => absurd w g'⟩
        simp only [f_X9_canBegin, e1, e2, e3, e4, q', k1, j2, eq_false g', Option.bind_some, ↓reduceIte]
        rw [if_pos hb]
        rfl
  · have q' : ¬ nI (s 15 0) < nI (p 16 0) := nI_nlt (by omega) (by omega)
    have hb : ¬ canB p s k := fun w => q w.1
    simp only [f_X9_canBegin, e1, e2, e3, e4, q', Option.bind_some, ↓reduceIte]
    rw [if_neg hb]
    rfl

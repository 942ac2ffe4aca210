/-! orders told, states copied and begun -/
def co (x : Int32) : Nat := x.toBitVec.toNat
theorem nI_co (x : Int32) : nI (co x) = x := by
  apply Int32.toBitVec_inj.mp
  unfold nI co
  simp
theorem co_lt (x : Int32) : co x < 2 ^ 32 := x.toBitVec.isLt
def RCz (p : AS) (z : Nat) (s : AS) (m : Mm) (S : Nat) : Prop := ∀ j i, i < cnS p z j → m (S + j) i = nI (s j i)
def RMz (p : AS) (z : Nat) (s : AS) (m : Mm) (B : Nat) : Prop := ∀ j i, i < cnM p z j → m 114 (B + ofM j + i) = nI (s j i)
def uR (s : AS) (j : Nat) (f : Nat → Nat) : AS := fun a b => if a = j then f b else s a b
theorem uR_same {s : AS} {j : Nat} {f : Nat → Nat} : uR s j f j = f := by funext b; simp [uR]
theorem uR_r {s : AS} {j a : Nat} {f : Nat → Nat} (h : a ≠ j) : uR s j f a = s a := by funext b; simp [uR, h]
theorem Cz_put {p s : AS} {z : Nat} {m : Mm} {S : Nat} (hR : RCz p z s m S) (j i w : Nat) (hj : j < 13) (h0 : j ≠ 0 ∨ i < 3 := by omega) : RCz p z (u3 s j i w) (up2 m (S + j) i (nI w)) S ∧ FC S m (up2 m (S + j) i (nI w)) := by
  refine ⟨fun a b hb => ?_, fun b hb => ?_, ?_⟩
  · by_cases h : a = j ∧ b = i
    · rw [h.1, h.2, up2_same, u3_same]
    · rw [u3_ne h, ← hR a b hb, up2_at, if_neg]
      intro q
      exact h ⟨by omega, q.2⟩
  · exact up2_ne (by omega)
  · rw [up2_at, if_neg (by omega)]
theorem Cz_row {p s : AS} {z : Nat} {m : Mm} {S : Nat} (hR : RCz p z s m S) (j : Nat) (f : Nat → Nat) (g : Nat → Int32) (hj : j < 13) (h0 : j ≠ 0) (hg : ∀ i, i < cnS p z j → g i = nI (f i)) : RCz p z (uR s j f) (upA m (S + j) g) S ∧ FC S m (upA m (S + j) g) := by
  refine ⟨fun a b hb => ?_, fun b hb => upA_ne (by omega), ?_⟩
  · by_cases h : a = j
    · subst h
      rw [uR_same, upA_self]
      exact hg b hb
    · rw [uR_r h, upA_ne (by omega)]
      exact hR a b hb
  · rw [upA_ne (by omega)]
theorem RC_zz {p s : AS} {m : Mm} {S : Nat} (h : RCz p (s 6 0) s m S) : RC p s m S := h
theorem RCz_eq {p s t : AS} {z : Nat} {m : Mm} {S : Nat} (h : RCz p z s m S) (e : ∀ j i, i < cnS p z j → s j i = t j i) : RCz p z t m S := fun j i hi => by
  rw [h j i hi, e j i hi]
theorem RMz_eq {p s t : AS} {z : Nat} {m : Mm} {B : Nat} (h : RMz p z s m B) (e : ∀ j i, i < cnM p z j → s j i = t j i) : RMz p z t m B := fun j i hi => by
  rw [h j i hi, e j i hi]
theorem Mz_st {p s : AS} {z : Nat} {m : Mm} {B : Nat} (hR : RMz p z s m B) (hp : PL p) (hz : z ≤ 12) (hB : B ≤ 384) (j i w : Nat) (hj : j < 17) (hi : i < lenM j) {x v : Int32} (hx : x = nI (B + ofM j + i)) (hv : v = nI w) : ∃ m', ast m 114 512 x v = some m' ∧ RMz p z (u3 s j i w) m' B ∧ FM B m m' := by
  have h1 := ofM_lt j hj i hi
  rw [hv]
  refine ⟨_, ast_x hx (by omega) (by decide), fun a b hb => ?_, fun b hb => up2_ne hb, fun b hb => up2_slot (by omega)⟩
  by_cases h : a = j ∧ b = i
  · rw [h.1, h.2, up2_same, u3_same]
  · rw [u3_ne h, ← hR a b hb, up2_slot]
    intro q
    exact h (ofM_inj a (cnM_lt hb) b (cnM_len hp hz hb) j hj i hi (by omega))
theorem cn_z {p : AS} {z j i : Nat} (h : i < cnS p (z + 1) j) : i < cnS p z j ∨ (i = z ∧ 7 ≤ j ∧ j ≤ 12) := by
  have hj := cnS_lt h
  have : j = 0 ∨ j = 1 ∨ j = 2 ∨ j = 3 ∨ j = 4 ∨ j = 5 ∨ j = 6 ∨ j = 7 ∨ j = 8 ∨ j = 9 ∨ j = 10 ∨ j = 11 ∨ j = 12 := by omega
  rcases this with rfl | rfl | rfl | rfl | rfl | rfl | rfl | rfl | rfl | rfl | rfl | rfl | rfl <;> simp [cnS] at h ⊢ <;> omega
theorem cnM_z {p : AS} {z j i : Nat} (h : i < cnM p (z + 1) j) : i < cnM p z j ∨ (i = z ∧ 7 ≤ j ∧ j ≤ 12) := by
  have hj := cnM_lt h
  have : j = 0 ∨ j = 1 ∨ j = 2 ∨ j = 3 ∨ j = 4 ∨ j = 5 ∨ j = 6 ∨ j = 7 ∨ j = 8 ∨ j = 9 ∨ j = 10 ∨ j = 11 ∨ j = 12 ∨ j = 13 ∨ j = 14 ∨ j = 15 ∨ j = 16 := by omega
  rcases this with rfl | rfl | rfl | rfl | rfl | rfl | rfl | rfl | rfl | rfl | rfl | rfl | rfl | rfl | rfl | rfl | rfl <;> simp [cnM] at h ⊢ <;> omega
/-- the garbage behind the orders, told -/
def gbS (s : AS) (g : Nat → Nat) : AS := fun j i => if 7 ≤ j ∧ j ≤ 12 ∧ i = s 6 0 then g j else s j i
theorem app_gb {s : AS} {g : Nat → Nat} {a b c d : Nat} : u3 (u3 (u3 (u3 (u3 (u3 (u3 (gbS s g) 7 (s 6 0) a) 8 (s 6 0) b) 9 (s 6 0) c) 10 (s 6 0) d) 11 (s 6 0) 0) 12 (s 6 0) 4294967292) 6 0 (s 6 0 + 1) = appS s a b c d := by
  rw [← u3_app]
  funext j i
  unfold u3 gbS
  by_cases hi : i = s 6 0
  · by_cases h6 : j = 6 ∧ i = 0
    · simp [h6]
    · by_cases hj : 7 ≤ j ∧ j ≤ 12
      · have : j = 7 ∨ j = 8 ∨ j = 9 ∨ j = 10 ∨ j = 11 ∨ j = 12 := by omega
        rcases this with q | q | q | q | q | q <;> simp [q, hi]
      · have h9 : ¬ (7 ≤ j ∧ j ≤ 12 ∧ i = s 6 0) := fun q => hj ⟨q.1, q.2.1⟩
        simp only [if_neg h9]
  · have h9 : ¬ (7 ≤ j ∧ j ≤ 12 ∧ i = s 6 0) := fun q => hi q.2.2
    simp only [if_neg h9]
theorem m_tells {p s : AS} {m : Mm} {B a b c d : Nat} (hp : PW p) (hB : B ≤ 384) (hR : RM p s m B) (hz : s 6 0 < 12) : ∃ m', f_X9_tells m (nI B) (nI a) (nI b) (nI c) (nI d) = some m' ∧ RM p (appS s a b c d) m' B ∧ FM B m m' := by
  have e0 : ald m 114 512 (nI B + 76) = some (nI (s 6 0)) := M_ld hR hp.1 (by omega) hB 6 0 (by show 0 < 1; decide) (ix1 B 76)
  have h0 : RMz p (s 6 0 + 1) (gbS s (fun j => co (m 114 (B + ofM j + s 6 0)))) m B := by
    intro j i hi
    unfold gbS
    rcases cnM_z hi with h | ⟨rfl, h1, h2⟩
    · by_cases q : 7 ≤ j ∧ j ≤ 12 ∧ i = s 6 0
      · rw [if_pos q, nI_co, q.2.2]
      · rw [if_neg q]; exact hR j i h
    · rw [if_pos ⟨h1, h2, rfl⟩, nI_co]
  obtain ⟨m1, a1, a2, a3⟩ := Mz_st h0 hp.1 (by omega) hB 7 (s 6 0) a (by decide) (by show _ < 12; omega) (x := nI B + 77 + nI (s 6 0)) (ix2 B 77 _) rfl
  obtain ⟨m2, b1, b2, b3⟩ := Mz_st a2 hp.1 (by omega) hB 8 (s 6 0) b (by decide) (by show _ < 12; omega) (x := nI B + 89 + nI (s 6 0)) (ix2 B 89 _) rfl
  obtain ⟨m3, c1, c2, c3⟩ := Mz_st b2 hp.1 (by omega) hB 9 (s 6 0) c (by decide) (by show _ < 12; omega) (x := nI B + 101 + nI (s 6 0)) (ix2 B 101 _) rfl
  obtain ⟨m4, d1, d2, d3⟩ := Mz_st c2 hp.1 (by omega) hB 10 (s 6 0) d (by decide) (by show _ < 12; omega) (x := nI B + 113 + nI (s 6 0)) (ix2 B 113 _) rfl
  obtain ⟨m5, f1, f2, f3⟩ := Mz_st d2 hp.1 (by omega) hB 11 (s 6 0) 0 (by decide) (by show _ < 12; omega) (x := nI B + 47 + nI (s 6 0)) (v := 0) (ix2 B 47 _) rfl
  obtain ⟨m6, g1, g2, g3⟩ := Mz_st f2 hp.1 (by omega) hB 12 (s 6 0) 4294967292 (by decide) (by show _ < 12; omega) (x := nI B + 59 + nI (s 6 0)) (v := -4) (ix2 B 59 _) nI_NN.symm
  obtain ⟨m7, k1, k2, k3⟩ := Mz_st g2 hp.1 (by omega) hB 6 0 (s 6 0 + 1) (by decide) (by decide) (x := nI B + 76) (v := nI (s 6 0) + 1) (ix1 B 76) (nI_1 _)
  rw [app_gb] at k2
  refine ⟨m7, ?_, by unfold RM; rw [appS_6]; exact k2, a3.tr (b3.tr (c3.tr (d3.tr (f3.tr (g3.tr k3)))))⟩
  unfold f_X9_tells
  rw [e0, Option.bind_some, a1, Option.bind_some, b1, Option.bind_some, c1, Option.bind_some, d1, Option.bind_some, f1, Option.bind_some, g1, Option.bind_some, k1]
  rfl
theorem c_append {p s : AS} {m : Mm} {S a b c d : Nat} (hR : RC p s m S) (hz : s 6 0 < 12) : ∃ m', f_X0_append m (S + 6) (nI a) (nI b) (nI c) (nI d) = some (nI (s 6 0), m') ∧ RC p (appS s a b c d) m' S ∧ FC S m m' := by
  have h0 : RCz p (s 6 0 + 1) (gbS s (fun j => co (m (S + j) (s 6 0)))) m S := by
    intro j i hi
    unfold gbS
    rcases cn_z hi with h | ⟨rfl, h1, h2⟩
    · by_cases q : 7 ≤ j ∧ j ≤ 12 ∧ i = s 6 0
      · rw [if_pos q, nI_co, q.2.2]
      · rw [if_neg q]; exact hR j i h
    · rw [if_pos ⟨h1, h2, rfl⟩, nI_co]
  have hs : m (S + 6) 0 = nI (s 6 0) := RC_size hR
  obtain ⟨a2, a3⟩ := Cz_put h0 7 (s 6 0) a (by decide)
  obtain ⟨b2, b3⟩ := Cz_put a2 8 (s 6 0) b (by decide)
  obtain ⟨c2, c3⟩ := Cz_put b2 9 (s 6 0) c (by decide)
  obtain ⟨d2, d3⟩ := Cz_put c2 10 (s 6 0) d (by decide)
  obtain ⟨f2, f3⟩ := Cz_put d2 11 (s 6 0) 0 (by decide)
  obtain ⟨g2, g3⟩ := Cz_put f2 12 (s 6 0) 4294967292 (by decide)
  obtain ⟨k2, k3⟩ := Cz_put g2 6 0 (s 6 0 + 1) (by decide)
  rw [app_gb] at k2
  refine ⟨_, ?_, by unfold RC; rw [appS_6]; exact k2, a3.tr (b3.tr (c3.tr (d3.tr (f3.tr (g3.tr k3)))))⟩
  have hc : m (S + 6) 0 < (12 : Int32) := by rw [hs]; exact nI_lt (b := 12) hz (by decide)
  have s1 : ∀ (m1 : Mm) (v : Int32), ast m1 (S + 6 + 1) 12 (nI (s 6 0)) v = some (up2 m1 (S + 7) (s 6 0) v) := fun m1 v => ast_n (by omega) (by decide)
  have s2 : ∀ (m1 : Mm) (v : Int32), ast m1 (S + 6 + 2) 12 (nI (s 6 0)) v = some (up2 m1 (S + 8) (s 6 0) v) := fun m1 v => ast_n (by omega) (by decide)
  have s3 : ∀ (m1 : Mm) (v : Int32), ast m1 (S + 6 + 3) 12 (nI (s 6 0)) v = some (up2 m1 (S + 9) (s 6 0) v) := fun m1 v => ast_n (by omega) (by decide)
  have s4 : ∀ (m1 : Mm) (v : Int32), ast m1 (S + 6 + 4) 12 (nI (s 6 0)) v = some (up2 m1 (S + 10) (s 6 0) v) := fun m1 v => ast_n (by omega) (by decide)
  have s5 : ∀ (m1 : Mm) (v : Int32), ast m1 (S + 6 + 5) 12 (nI (s 6 0)) v = some (up2 m1 (S + 11) (s 6 0) v) := fun m1 v => ast_n (by omega) (by decide)
  have s6 : ∀ (m1 : Mm) (v : Int32), ast m1 (S + 6 + 6) 12 (nI (s 6 0)) v = some (up2 m1 (S + 12) (s 6 0) v) := fun m1 v => ast_n (by omega) (by decide)
  have r : ∀ (m1 : Mm) (j i : Nat) (v : Int32), j ≠ 6 → m1 (S + 6) 0 = nI (s 6 0) → up2 m1 (S + j) i v (S + 6) 0 = nI (s 6 0) := fun m1 j i v hj h => by rw [up2_cell (by omega)]; exact h
  have r1 := r m 7 (s 6 0) (nI a) (by decide) hs
  have r2 := r _ 8 (s 6 0) (nI b) (by decide) r1
  have r3 := r _ 9 (s 6 0) (nI c) (by decide) r2
  have r4 := r _ 10 (s 6 0) (nI d) (by decide) r3
  have r5 := r _ 11 (s 6 0) (nI 0) (by decide) r4
  have r6 := r _ 12 (s 6 0) (nI 4294967292) (by decide) r5
  unfold f_X0_append
  rw [if_pos hc, hs, s1, Option.bind_some, r1, s2, Option.bind_some, r2, s3, Option.bind_some, r3, s4, Option.bind_some, r4, s5, Option.bind_some, show up2 (up2 (up2 (up2 (up2 m (S + 7) (s 6 0) (nI a)) (S + 8) (s 6 0) (nI b)) (S + 9) (s 6 0) (nI c)) (S + 10) (s 6 0) (nI d)) (S + 11) (s 6 0) 0 = up2 (up2 (up2 (up2 (up2 m (S + 7) (s 6 0) (nI a)) (S + 8) (s 6 0) (nI b)) (S + 9) (s 6 0) (nI c)) (S + 10) (s 6 0) (nI d)) (S + 11) (s 6 0) (nI 0) from rfl, r5, s6, Option.bind_some, ← nI_NN, letv_eq, r6, letv_eq, nI_1]
theorem c_full {s p : AS} {m : Mm} {S : Nat} {a b c d : Int32} (hR : RC p s m S) (hz : s 6 0 = 12) : f_X0_append m (S + 6) a b c d = some (-3, m) := by
  have hc : ¬ m (S + 6) 0 < (12 : Int32) := by rw [RC_size hR, hz]; decide
  unfold f_X0_append
  rw [if_neg hc]
/-- what makes an order good to be told -/
def goO (p : AS) (kd wt wh : Nat) : Prop := kd ≤ 4 ∧ (kd < 2 → wt < p 0 1) ∧ (kd = 2 → wt < p 0 2) ∧ (kd = 3 → wt < p 0 3 ∧ (wh < p 0 0 ∨ wh = 4294967292)) ∧ (kd = 4 → wt < p 0 0 ∧ wh ≤ 1)
theorem appS_I {p s : AS} {M a b c d : Nat} (h : SI p M s) (hz : s 6 0 < 12) (ha : a < 2 ^ 31) (hg : goO p b c d) : SI p M (appS s a b c d) := by
  obtain ⟨hw, ⟨h1, h2, h3, h4, h5, h6, h7, h8⟩, hy⟩ := h
  have r : ∀ j, j < 6 ∨ 12 < j → appS s a b c d j = s j := fun j hj => appS_r hj
  have n11 : appS s a b c d 11 (s 6 0) = 0 := by simp [appS]
  have cD : ∀ e, sumN (onD (appS s a b c d) e) (s 6 0 + 1) = sumN (onD s e) (s 6 0) := fun e => by
    rw [sumN, show onD (appS s a b c d) e (s 6 0) = 0 from by rw [onD, n11, if_neg (by omega)], Nat.add_zero]
    exact sumN_congr (fun i hi => by simp only [onD, appS_o (s := s) (a := a) (b := b) (c := c) (d := d) (j := 11) (by decide) (Nat.ne_of_lt hi), appS_o (s := s) (a := a) (b := b) (c := c) (d := d) (j := 8) (by decide) (Nat.ne_of_lt hi), appS_o (s := s) (a := a) (b := b) (c := c) (d := d) (j := 9) (by decide) (Nat.ne_of_lt hi)])
  have cH : ∀ e, sumN (onH (appS s a b c d) e) (s 6 0 + 1) = sumN (onH s e) (s 6 0) := fun e => by
    rw [sumN, show onH (appS s a b c d) e (s 6 0) = 0 from by rw [onH, n11, if_neg (by omega)], Nat.add_zero]
    exact sumN_congr (fun i hi => by simp only [onH, appS_o (s := s) (a := a) (b := b) (c := c) (d := d) (j := 11) (by decide) (Nat.ne_of_lt hi), appS_o (s := s) (a := a) (b := b) (c := c) (d := d) (j := 8) (by decide) (Nat.ne_of_lt hi), appS_o (s := s) (a := a) (b := b) (c := c) (d := d) (j := 9) (by decide) (Nat.ne_of_lt hi)])
  have cW : sumN (isW 1 (appS s a b c d)) (s 6 0 + 1) = sumN (isW 1 s) (s 6 0) := by
    rw [sumN, show isW 1 (appS s a b c d) (s 6 0) = 0 from by rw [isW, n11, if_neg (by omega)], Nat.add_zero]
    exact sumN_congr (fun i hi => by simp only [isW, appS_o (s := s) (a := a) (b := b) (c := c) (d := d) (j := 11) (by decide) (Nat.ne_of_lt hi)])
  refine ⟨?_, ⟨?_, ?_, fun e he => ?_, fun e he => ?_, ?_, fun k hk => ?_, ?_, ?_⟩, ?_⟩
  · unfold SW
    rw [r 1 (by decide)]
    exact hw
  · rw [appS_6]; omega
  · rw [r 2 (by decide)]; exact h2
  · rw [appS_6, cD, r 3 (by decide), r 13 (by decide)]
    exact h3 e he
  · rw [appS_6, cH, r 4 (by decide), r 14 (by decide)]
    exact h4 e he
  · rw [r 5 (by decide)]; exact h5
  · rw [appS_6] at hk
    by_cases e : k = s 6 0
    · subst e
      unfold okO
      obtain ⟨g1, g2, g3, g4, g5⟩ := hg
      simp [appS]
      exact ⟨g1, g2, g3, g4, g5, ha⟩
    · unfold okO
      rw [appS_o (by decide) e, appS_o (by decide) e, appS_o (by decide) e, appS_o (by decide) e, appS_o (by decide) e, appS_o (by decide) e]
      exact h6 k (by omega)
  · rw [appS_6, cW, r 15 (by decide)]; exact h7
  · rw [r 0 (by decide)]; exact h8
  · unfold SY
    rw [r 0 (by decide)]
    exact hy
theorem acopy_n {m : Mm} {a0 N0 a N1 k : Nat} (h0 : k ≤ N0) (h1 : k ≤ N1) (hk : k < 2 ^ 31) : acopy m a0 N0 0 a N1 0 (nI k) = some (upA m a (fun j => if j < k then m a0 j else m a j)) := by
  have hz : (0 : Int32).toNatClampNeg = 0 := by decide
  have hc : ¬ ((0 : Int32) < 0 ∨ (0 : Int32) < 0 ∨ nI k < 0 ∨ N0 < (0 : Int32).toNatClampNeg + (nI k).toNatClampNeg ∨ N1 < (0 : Int32).toNatClampNeg + (nI k).toNatClampNeg) := by
    rw [hz, nI_clamp hk]
    rintro (q | q | q | q | q)
    · exact absurd q (by decide)
    · exact absurd q (by decide)
    · exact nI_pos hk q
    · omega
    · omega
  unfold acopy
  rw [if_neg hc, hz, nI_clamp hk]
  congr 2
  funext j
  by_cases q : j < k
  · rw [if_pos q, pk_cpy_in (by omega) (by omega)]
    congr 1
    omega
  · rw [if_neg q, pk_cpy_out (by omega)]
theorem stst {S S2 j : Nat} (hS : isSt S) (hS2 : isSt S2) (hne : S ≠ S2) (hj : j < 14) : S2 + j < S ∨ S + 13 < S2 + j := by
  rcases hS with rfl | rfl | rfl | rfl <;> rcases hS2 with rfl | rfl | rfl | rfl <;> omega
theorem c_copyW {p s : AS} {m : Mm} {S S2 : Nat} (hS : isSt S) (hS2 : isSt S2) (hne : S ≠ S2) (hp : PL p) (hR : RC p s m S2) : ∃ m', f_X7_copyWithoutOrders m S S2 = some m' ∧ RC p (frS s) m' S ∧ FC S m m' := by
  obtain ⟨l1, l2, l3, l4⟩ := hp
  have hd : ∀ {m' : Mm}, FC S m m' → ∀ j, j < 14 → m' (S2 + j) = m (S2 + j) := fun hf j hj => hf.1 _ (stst hS hS2 hne hj)
  have h0 : RCz p 0 (fun j i => co (m (S + j) i)) m S := fun j i _ => (nI_co _).symm
  obtain ⟨a2, a3⟩ := Cz_put h0 0 0 (s 0 0) (by decide)
  obtain ⟨b2, b3⟩ := Cz_put a2 0 1 (s 0 1) (by decide)
  obtain ⟨c2, c3⟩ := Cz_put b2 0 2 (s 0 2) (by decide)
  have f3 := a3.tr (b3.tr c3)
  generalize hm3 : up2 (up2 (up2 m (S + 0) 0 (nI (s 0 0))) (S + 0) 1 (nI (s 0 1))) (S + 0) 2 (nI (s 0 2)) = m3 at c2 c3 f3
  obtain ⟨d2, d3⟩ := Cz_row c2 1 (s 1) (fun j => if j < 8 then m3 (S2 + 1) j else m3 (S + 1) j) (by decide) (by decide) (fun i hi => by
    have hi' : i < p 0 0 := hi
    rw [if_pos (by omega), hd f3 1 (by decide)]; exact hR 1 i hi')
  have f4 := f3.tr d3
  generalize hm4 : upA m3 (S + 1) (fun j => if j < 8 then m3 (S2 + 1) j else m3 (S + 1) j) = m4 at d2 d3 f4
  obtain ⟨e2, e3⟩ := Cz_row d2 2 (s 2) (fun j => if j < 8 then m4 (S2 + 2) j else m4 (S + 2) j) (by decide) (by decide) (fun i hi => by
    have hi' : i < p 0 0 := hi
    rw [if_pos (by omega), hd f4 2 (by decide)]; exact hR 2 i hi')
  have f5 := f4.tr e3
  generalize hm5 : upA m4 (S + 2) (fun j => if j < 8 then m4 (S2 + 2) j else m4 (S + 2) j) = m5 at e2 e3 f5
  obtain ⟨g2, g3⟩ := Cz_row e2 3 (s 3) (fun j => if j < 10 then m5 (S2 + 3) j else m5 (S + 3) j) (by decide) (by decide) (fun i hi => by
    have hi' : i < p 0 1 := hi
    rw [if_pos (by omega), hd f5 3 (by decide)]; exact hR 3 i hi')
  have f6 := f5.tr g3
  generalize hm6 : upA m5 (S + 3) (fun j => if j < 10 then m5 (S2 + 3) j else m5 (S + 3) j) = m6 at g2 g3 f6
  obtain ⟨i2, i3⟩ := Cz_row g2 4 (s 4) (fun j => if j < 4 then m6 (S2 + 4) j else m6 (S + 4) j) (by decide) (by decide) (fun i hi => by
    have hi' : i < p 0 2 := hi
    rw [if_pos (by omega), hd f6 4 (by decide)]; exact hR 4 i hi')
  have f7 := f6.tr i3
  generalize hm7 : upA m6 (S + 4) (fun j => if j < 4 then m6 (S2 + 4) j else m6 (S + 4) j) = m7 at i2 i3 f7
  obtain ⟨j2, j3⟩ := Cz_row i2 5 (s 5) (fun j => if j < 3 then m7 (S2 + 5) j else m7 (S + 5) j) (by decide) (by decide) (fun i hi => by
    have hi' : i < p 0 3 := hi
    rw [if_pos (by omega), hd f7 5 (by decide)]; exact hR 5 i hi')
  have f8 := f7.tr j3
  generalize hm8 : upA m7 (S + 5) (fun j => if j < 3 then m7 (S2 + 5) j else m7 (S + 5) j) = m8 at j2 j3 f8
  obtain ⟨k2, k3⟩ := Cz_put j2 6 0 0 (by decide)
  refine ⟨_, ?_, ?_, f8.tr k3⟩
  · unfold f_X7_copyWithoutOrders
    rw [letv_eq, RC_0 hR, letv_eq, show up2 m S 0 (nI (s 0 0)) S2 1 = nI (s 0 1) from by rw [show up2 m S 0 (nI (s 0 0)) S2 = m S2 from hd (j := 0) a3 (by decide)]; exact RC_1 hR, letv_eq, show up2 (up2 m S 0 (nI (s 0 0))) S 1 (nI (s 0 1)) S2 2 = nI (s 0 2) from by rw [show up2 (up2 m S 0 (nI (s 0 0))) S 1 (nI (s 0 1)) S2 = m S2 from hd (j := 0) (a3.tr b3) (by decide)]; exact RC_2 hR]
    rw [show up2 (up2 (up2 m S 0 (nI (s 0 0))) S 1 (nI (s 0 1))) S 2 (nI (s 0 2)) = m3 from hm3]
    have q8 : (8 : Int32) = nI 8 := rfl
    have q10 : (10 : Int32) = nI 10 := rfl
    have q4 : (4 : Int32) = nI 4 := rfl
    have q3 : (3 : Int32) = nI 3 := rfl
    rw [q8, q10, q4, q3, acopy_n (by decide) (by decide) (by decide), Option.bind_some, hm4, acopy_n (by decide) (by decide) (by decide), Option.bind_some, hm5, acopy_n (by decide) (by decide) (by decide), Option.bind_some, hm6, acopy_n (by decide) (by decide) (by decide), Option.bind_some, hm7, acopy_n (by decide) (by decide) (by decide), Option.bind_some, hm8]
    rfl
  · unfold RC
    rw [frS_0 (by omega)]
    refine RCz_eq k2 (fun j i hi => ?_)
    have hj := cnS_lt hi
    have : j = 0 ∨ j = 1 ∨ j = 2 ∨ j = 3 ∨ j = 4 ∨ j = 5 ∨ j = 6 ∨ j = 7 ∨ j = 8 ∨ j = 9 ∨ j = 10 ∨ j = 11 ∨ j = 12 := by omega
    rcases this with rfl | rfl | rfl | rfl | rfl | rfl | rfl | rfl | rfl | rfl | rfl | rfl | rfl
    · have hi' : i < 3 := hi
      have : i = 0 ∨ i = 1 ∨ i = 2 := by omega
      rcases this with rfl | rfl | rfl <;> simp [u3, uR, frS]
    · simp [u3, uR, frS]
    · simp [u3, uR, frS]
    · simp [u3, uR, frS]
    · simp [u3, uR, frS]
    · simp [u3, uR, frS]
    · have hi' : i < 1 := hi
      have : i = 0 := by omega
      subst this
      simp [u3, frS]
    · exact absurd hi (Nat.not_lt_zero i)
    · exact absurd hi (Nat.not_lt_zero i)
    · exact absurd hi (Nat.not_lt_zero i)
    · exact absurd hi (Nat.not_lt_zero i)
    · exact absurd hi (Nat.not_lt_zero i)
    · exact absurd hi (Nat.not_lt_zero i)

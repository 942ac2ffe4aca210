/-! best: the choices and the rows -/
def chD (s : AS) (d : Nat) : List Nat := (List.range d).filter (fun d => decide (s 3 d = 1))
def chH (s : AS) (i : Nat) : List Nat := ((List.range i).filter (fun i => decide (s 4 i = 0))).map (fun i => 20 + i)
theorem chD_s {s : AS} {d : Nat} : chD s (d + 1) = if s 3 d = 1 then chD s d ++ [d] else chD s d := by
  unfold chD
  rw [List.range_succ, List.filter_append]
  by_cases q : s 3 d = 1 <;> simp [q]
theorem chH_s {s : AS} {i : Nat} : chH s (i + 1) = if s 4 i = 0 then chH s i ++ [20 + i] else chH s i := by
  unfold chH
  rw [List.range_succ, List.filter_append, List.map_append]
  by_cases q : s 4 i = 0 <;> simp [q]
theorem chD_len {s : AS} : ∀ d, (chD s d).length ≤ d
  | 0 => Nat.le_refl 0
  | d + 1 => by
    rw [chD_s]
    have := chD_len (s := s) d
    split
    · rw [List.length_append]; simp; omega
    · omega
theorem chH_len {s : AS} : ∀ i, (chH s i).length ≤ i
  | 0 => Nat.le_refl 0
  | i + 1 => by
    rw [chH_s]
    have := chH_len (s := s) i
    split
    · rw [List.length_append]; simp; omega
    · omega
theorem chL_app (p s : AS) : chL p s = chD s (p 0 1) ++ chH s (p 0 2) := rfl
theorem chL_len {p s : AS} (hp : PL p) : (chL p s).length ≤ 14 := by
  have h1 := chD_len (s := s) (p 0 1)
  have h2 := chH_len (s := s) (p 0 2)
  rw [chL_app, List.length_append]
  have := hp.2.1
  have := hp.2.2.1
  omega
theorem getD_app {l : List Nat} {x i : Nat} : (l ++ [x]).getD i 0 = if i < l.length then l.getD i 0 else if i = l.length then x else 0 := by
  simp only [List.getD_eq_getElem?_getD]
  by_cases q : i < l.length
  · rw [if_pos q, List.getElem?_append_left q]
  · rw [if_neg q, List.getElem?_append_right (by omega)]
    by_cases q2 : i = l.length
    · rw [if_pos q2, q2, Nat.sub_self]; rfl
    · rw [if_neg q2, List.getElem?_eq_none (by simp; omega)]; rfl
/-- a list as it lies in a cell -/
def LC (m : Mm) (a : Nat) (l : List Nat) : Prop := ∀ i, i < l.length → m a i = nI (l.getD i 0)
theorem LC_push {m : Mm} {a x : Nat} {l : List Nat} (h : LC m a l) : LC (up2 m a l.length (nI x)) a (l ++ [x]) := by
  intro i hi
  rw [List.length_append] at hi
  simp at hi
  rw [getD_app]
  by_cases q : i < l.length
  · rw [if_pos q, up2_slot (by omega)]; exact h i q
  · have : i = l.length := by omega
    subst this
    rw [if_neg q, if_pos rfl, up2_same]
def FLc (m m' : Mm) : Prop := (∀ b, b ≠ 34 → b ≠ 35 → m' b = m b) ∧ ∀ i, i ≠ 6 → m' 34 i = m 34 i
theorem FLc.rf {m : Mm} : FLc m m := ⟨fun _ _ _ => rfl, fun _ _ => rfl⟩
theorem FLc.tr {m m1 m2 : Mm} (h1 : FLc m m1) (h2 : FLc m1 m2) : FLc m m2 := ⟨fun b q1 q2 => (h2.1 b q1 q2).trans (h1.1 b q1 q2), fun i hi => (h2.2 i hi).trans (h1.2 i hi)⟩
theorem c_pushL {m : Mm} {l : List Nat} {x : Nat} (hl : l.length < 14) (h6 : m 34 6 = nI l.length) (hc : LC m 35 l) : ∃ m', (letv (m 34 6) fun x6 => letv (up2 m 34 6 (x6 + (1 : Int32))) fun m7 => (ast m7 35 14 x6 (nI x)).bind fun m8 => some m8) = some m' ∧ m' 34 6 = nI (l ++ [x]).length ∧ LC m' 35 (l ++ [x]) ∧ FLc m m' := by
  have e1 : ast (up2 m 34 6 (nI (l.length + 1))) 35 14 (nI l.length) (nI x) = some (up2 (up2 m 34 6 (nI (l.length + 1))) 35 l.length (nI x)) := ast_n hl (by decide)
  refine ⟨_, by rw [letv_eq, letv_eq, h6, nI_1, e1]; rfl, ?_, LC_push (fun i hi => by rw [up2_cell (by decide)]; exact hc i hi), ⟨fun b q1 q2 => by rw [up2_ne q2, up2_ne q1], fun i hi => by rw [up2_cell (by decide), up2_slot hi]⟩⟩
  rw [up2_cell (by decide), up2_same, List.length_append]
  rfl
theorem RC_FL {p s : AS} {m m' : Mm} {S : Nat} (hS : isSt S) (h : RC p s m S) (hf : FLc m m') : RC p s m' S := RC_fr h (fun j hj i _ => by rw [hf.1 _ (by rcases hS with rfl | rfl | rfl | rfl <;> omega) (by rcases hS with rfl | rfl | rfl | rfl <;> omega)])
theorem PC_FL {p : AS} {m m' : Mm} {P : Nat} (hP : isPl P) (h : PC p m P) (hf : FLc m m') : PC p m' P := PC_fr h (fun j hj => hf.1 _ (plne hP (by decide) j hj) (plne hP (by decide) j hj))
theorem c_choices {p s : AS} {m : Mm} {P F M : Nat} (hF : 5000 ≤ F) (hP : isPl P) (hp : PW p) (pc : PC p m P) (rc : RC p s m 4) (ho : SO p M s) : ∃ m', f_X4_listChoices F m P 4 = some m' ∧ m' 34 6 = nI (chL p s).length ∧ LC m' 35 (chL p s) ∧ FLc m m' := by
  obtain ⟨l1, l2, l3, l4⟩ := hp.1
  have hS4 : isSt 4 := Or.inl rfl
  have f0 : FLc m (up2 m 34 6 0) := ⟨fun b q1 _ => up2_ne q1, fun i hi => up2_slot hi⟩
  obtain ⟨m1, a1, a2, a3, a4⟩ := iter_P (b := b_X4_listChoices_7 P 4) (F := F) (p 0 1) (fun i x => ∃ m1, x = (nI i, m1) ∧ m1 34 6 = nI (chD s i).length ∧ LC m1 35 (chD s i) ∧ FLc m m1) (fun r => r 34 6 = nI (chD s (p 0 1)).length ∧ LC r 35 (chD s (p 0 1)) ∧ FLc m r) (by omega) (by
    rintro i x hi ⟨m1, rfl, q1, q2, q3⟩
    have hlen := chD_len (s := s) i
    have hc' : ¬ m1 P 1 ≤ nI i := by rw [PC_1 (PC_FL hP pc q3)]; exact nI_ge hi (by omega)
    have e1 : ald m1 (4 + 3) 10 (nI i) = some (nI (s 3 i)) := C_ld (S := 4) (RC_FL hS4 rc q3) 3 i hi (by omega) (by decide)
    have h3 := (ho.2.2.1 i hi).1
    by_cases q : s 3 i = 1
    · have k1 : nI (s 3 i) = (1 : Int32) := by rw [q]; rfl
      obtain ⟨m2, b1, b2, b3, b4⟩ := c_pushL (x := i) (by omega) q1 q2
      refine ⟨_, ?_, m2, rfl, by rw [chD_s, if_pos q]; exact b2, by rw [chD_s, if_pos q]; exact b3, q3.tr b4⟩
      unfold b_X4_listChoices_7
      dsimp only
      rw [if_neg hc', e1, Option.bind_some, if_pos k1, b1, Option.bind_some, nI_1]
    · have k1 : ¬ nI (s 3 i) = (1 : Int32) := nI_ne (b := 1) (by omega) (by decide) q
      refine ⟨_, ?_, m1, rfl, by rw [chD_s, if_neg q]; exact q1, by rw [chD_s, if_neg q]; exact q2, q3⟩
      unfold b_X4_listChoices_7
      dsimp only
      rw [if_neg hc', e1, Option.bind_some, if_neg k1, Option.bind_some, nI_1]) (by
    rintro x ⟨m1, rfl, q1, q2, q3⟩
    have hc' : m1 P 1 ≤ nI (p 0 1) := by rw [PC_1 (PC_FL hP pc q3)]; exact Int32.le_refl _
    refine ⟨m1, ?_, q1, q2, q3⟩
    unfold b_X4_listChoices_7
    exact if_pos hc') (x := (0, up2 m 34 6 0)) ⟨_, rfl, up2_same, fun i hi => absurd hi (by simp [chD]), f0⟩
  obtain ⟨m2, b1, b2, b3, b4⟩ := iter_P (b := b_X4_listChoices_50 P 4) (F := F) (p 0 2) (fun i x => ∃ m1, x = (nI i, m1) ∧ m1 34 6 = nI (chD s (p 0 1) ++ chH s i).length ∧ LC m1 35 (chD s (p 0 1) ++ chH s i) ∧ FLc m m1) (fun r => r 34 6 = nI (chD s (p 0 1) ++ chH s (p 0 2)).length ∧ LC r 35 (chD s (p 0 1) ++ chH s (p 0 2)) ∧ FLc m r) (by omega) (by
    rintro i x hi ⟨m1, rfl, q1, q2, q3⟩
    have hlen := chD_len (s := s) (p 0 1)
    have hlen2 := chH_len (s := s) i
    have hc' : ¬ m1 P 2 ≤ nI i := by rw [PC_2 (PC_FL hP pc q3)]; exact nI_ge hi (by omega)
    have e1 : ald m1 (4 + 4) 4 (nI i) = some (nI (s 4 i)) := C_ld (S := 4) (RC_FL hS4 rc q3) 4 i hi (by omega) (by decide)
    have h4 := (ho.2.2.2.1 i hi).1
    by_cases q : s 4 i = 0
    · have k1 : nI (s 4 i) = (0 : Int32) := by rw [q]; rfl
      obtain ⟨m2, b1, b2, b3, b4⟩ := c_pushL (x := 20 + i) (by rw [List.length_append]; omega) q1 q2
      have e2 : (20 : Int32) + nI i = nI (20 + i) := nI_add 20 i
      refine ⟨_, ?_, m2, rfl, by rw [chH_s, if_pos q, ← List.append_assoc]; exact b2, by rw [chH_s, if_pos q, ← List.append_assoc]; exact b3, q3.tr b4⟩
      unfold b_X4_listChoices_50
      dsimp only
      rw [if_neg hc', e1, Option.bind_some, if_pos k1, e2, b1, Option.bind_some, nI_1]
    · have k1 : ¬ nI (s 4 i) = (0 : Int32) := nI_ne (b := 0) (by omega) (by decide) q
      refine ⟨_, ?_, m1, rfl, by rw [chH_s, if_neg q]; exact q1, by rw [chH_s, if_neg q]; exact q2, q3⟩
      unfold b_X4_listChoices_50
      dsimp only
      rw [if_neg hc', e1, Option.bind_some, if_neg k1, Option.bind_some, nI_1]) (by
    rintro x ⟨m1, rfl, q1, q2, q3⟩
    have hc' : m1 P 2 ≤ nI (p 0 2) := by rw [PC_2 (PC_FL hP pc q3)]; exact Int32.le_refl _
    refine ⟨m1, ?_, q1, q2, q3⟩
    unfold b_X4_listChoices_50
    exact if_pos hc') (x := (0, m1)) ⟨m1, rfl, by rw [show chH s 0 = [] from rfl, List.append_nil]; exact a2, by rw [show chH s 0 = [] from rfl, List.append_nil]; exact a3, a4⟩
  refine ⟨m2, ?_, b2, b3, b4⟩
  unfold f_X4_listChoices
  rw [letv_eq, a1, Option.bind_some, b1]
  rfl
theorem m_pushL {m : Mm} {l : List Nat} {x : Nat} (hl : l.length < 14) (h6 : m 113 30 = nI l.length) (hc : LC m 128 l) : ∃ m', ((ast m 128 14 (m 113 30) (nI x)).bind fun m6 => letv (up2 m6 113 30 ((m6 113 30) + (1 : Int32))) fun m7 => some m7) = some m' ∧ m' 113 30 = nI (l ++ [x]).length ∧ LC m' 128 (l ++ [x]) ∧ FQ m m' := by
  have e1 : ast m 128 14 (nI l.length) (nI x) = some (up2 m 128 l.length (nI x)) := ast_n hl (by decide)
  have e2 : up2 m 128 l.length (nI x) 113 30 = nI l.length := by rw [up2_cell (by decide)]; exact h6
  refine ⟨up2 (up2 m 128 l.length (nI x)) 113 30 (nI (l.length + 1)), by rw [h6, e1, Option.bind_some, letv_eq, e2, nI_1], ?_, fun i hi => ?_, ⟨fun b q1 _ q3 _ _ => by rw [up2_ne q1, up2_ne q3], fun i _ => by rw [up2_cell (by decide), up2_cell (by decide)], fun i _ q _ _ => by rw [up2_slot q, up2_cell (by decide)]⟩⟩
  · rw [up2_same, List.length_append]
    rfl
  · rw [up2_cell (by decide)]
    exact LC_push hc i hi
theorem m_choices {p s : AS} {m : Mm} {F M : Nat} (hF : 5000 ≤ F) (hp : PW p) (pm : PM p m) (rm : RM p s m 0) (ho : SO p M s) : ∃ m', f_X9_findChoices F m = some m' ∧ m' 113 30 = nI (chL p s).length ∧ LC m' 128 (chL p s) ∧ FQ m m' := by
  obtain ⟨l1, l2, l3, l4⟩ := hp.1
  have hz := ho.1
  have rmf : ∀ m1, FQ m m1 → RM p s m1 0 := fun m1 h => RM_fr hp.1 hz rm (fun i _ hi => h.2.1 i (by omega))
  have f0 : FQ m (up2 m 113 30 0) := FQ.up (by omega)
  obtain ⟨m1, a1, a2, a3, a4⟩ := iter_P (b := b_X9_findChoices_7) (F := F) (p 0 1) (fun i x => ∃ m1, x = (nI i, m1) ∧ m1 113 30 = nI (chD s i).length ∧ LC m1 128 (chD s i) ∧ FQ m m1) (fun r => r 113 30 = nI (chD s (p 0 1)).length ∧ LC r 128 (chD s (p 0 1)) ∧ FQ m r) (by omega) (by
    rintro i x hi ⟨m1, rfl, q1, q2, q3⟩
    have hlen := chD_len (s := s) i
    have hc' : ¬ m1 113 4 ≤ nI i := by rw [pm_2 (PM_FQ pm q3)]; exact nI_ge hi (by omega)
    have e1 : ald m1 114 512 (16 + nI i) = some (nI (s 3 i)) := M_ld (rmf _ q3) hp.1 hz (by decide) 3 i hi (ix1 16 i)
    have h3 := (ho.2.2.1 i hi).1
    by_cases q : s 3 i = 1
    · have k1 : nI (s 3 i) = (1 : Int32) := by rw [q]; rfl
      obtain ⟨m2, b1, b2, b3, b4⟩ := m_pushL (x := i) (by omega) q1 q2
      refine ⟨_, ?_, m2, rfl, by rw [chD_s, if_pos q]; exact b2, by rw [chD_s, if_pos q]; exact b3, q3.tr b4⟩
      unfold b_X9_findChoices_7
      dsimp only
      rw [if_neg hc', e1, Option.bind_some, if_pos k1, b1, Option.bind_some, nI_1]
    · have k1 : ¬ nI (s 3 i) = (1 : Int32) := nI_ne (b := 1) (by omega) (by decide) q
      refine ⟨_, ?_, m1, rfl, by rw [chD_s, if_neg q]; exact q1, by rw [chD_s, if_neg q]; exact q2, q3⟩
      unfold b_X9_findChoices_7
      dsimp only
      rw [if_neg hc', e1, Option.bind_some, if_neg k1, Option.bind_some, nI_1]) (by
    rintro x ⟨m1, rfl, q1, q2, q3⟩
    have hc' : m1 113 4 ≤ nI (p 0 1) := by rw [pm_2 (PM_FQ pm q3)]; exact Int32.le_refl _
    refine ⟨m1, ?_, q1, q2, q3⟩
    unfold b_X9_findChoices_7
    exact if_pos hc') (x := (0, up2 m 113 30 0)) ⟨_, rfl, up2_same, fun i hi => absurd hi (by simp [chD]), f0⟩
  obtain ⟨m2, b1, b2, b3, b4⟩ := iter_P (b := b_X9_findChoices_56) (F := F) (p 0 2) (fun i x => ∃ m1, x = (nI i, m1) ∧ m1 113 30 = nI (chD s (p 0 1) ++ chH s i).length ∧ LC m1 128 (chD s (p 0 1) ++ chH s i) ∧ FQ m m1) (fun r => r 113 30 = nI (chD s (p 0 1) ++ chH s (p 0 2)).length ∧ LC r 128 (chD s (p 0 1) ++ chH s (p 0 2)) ∧ FQ m r) (by omega) (by
    rintro i x hi ⟨m1, rfl, q1, q2, q3⟩
    have hlen := chD_len (s := s) (p 0 1)
    have hlen2 := chH_len (s := s) i
    have hc' : ¬ m1 113 6 ≤ nI i := by rw [pm_3 (PM_FQ pm q3)]; exact nI_ge hi (by omega)
    have e1 : ald m1 114 512 (36 + nI i) = some (nI (s 4 i)) := M_ld (rmf _ q3) hp.1 hz (by decide) 4 i hi (ix1 36 i)
    have h4 := (ho.2.2.2.1 i hi).1
    by_cases q : s 4 i = 0
    · have k1 : nI (s 4 i) = (0 : Int32) := by rw [q]; rfl
      obtain ⟨m2, b1, b2, b3, b4⟩ := m_pushL (x := 20 + i) (by rw [List.length_append]; omega) q1 q2
      have e2 : (20 : Int32) + nI i = nI (20 + i) := nI_add 20 i
      refine ⟨_, ?_, m2, rfl, by rw [chH_s, if_pos q, ← List.append_assoc]; exact b2, by rw [chH_s, if_pos q, ← List.append_assoc]; exact b3, q3.tr b4⟩
      unfold b_X9_findChoices_56
      dsimp only
      rw [if_neg hc', e1, Option.bind_some, if_pos k1, e2, b1, Option.bind_some, nI_1]
    · have k1 : ¬ nI (s 4 i) = (0 : Int32) := nI_ne (b := 0) (by omega) (by decide) q
      refine ⟨_, ?_, m1, rfl, by rw [chH_s, if_neg q]; exact q1, by rw [chH_s, if_neg q]; exact q2, q3⟩
      unfold b_X9_findChoices_56
      dsimp only
      rw [if_neg hc', e1, Option.bind_some, if_neg k1, Option.bind_some, nI_1]) (by
    rintro x ⟨m1, rfl, q1, q2, q3⟩
    have hc' : m1 113 6 ≤ nI (p 0 2) := by rw [pm_3 (PM_FQ pm q3)]; exact Int32.le_refl _
    refine ⟨m1, ?_, q1, q2, q3⟩
    unfold b_X9_findChoices_56
    exact if_pos hc') (x := (0, m1)) ⟨m1, rfl, by rw [show chH s 0 = [] from rfl, List.append_nil]; exact a2, by rw [show chH s 0 = [] from rfl, List.append_nil]; exact a3, a4⟩
  refine ⟨m2, ?_, b2, b3, b4⟩
  unfold f_X9_findChoices
  rw [letv_eq, a1, Option.bind_some, b1]
  rfl
/-- which codes there are, and what they stand for -/
theorem chL_mem {p s : AS} {c : Nat} (hp : PL p) (h : c ∈ chL p s) : (c < 20 ∧ c < p 0 1 ∧ s 3 c = 1) ∨ (20 ≤ c ∧ c - 20 < p 0 2 ∧ s 4 (c - 20) = 0) := by
  unfold chL at h
  rw [List.mem_append] at h
  have l2 := hp.2.1
  rcases h with h | h
  · rw [List.mem_filter, List.mem_range] at h
    have := of_decide_eq_true h.2
    exact Or.inl ⟨by omega, h.1, this⟩
  · rw [List.mem_map] at h
    obtain ⟨i, hi, rfl⟩ := h
    rw [List.mem_filter, List.mem_range] at hi
    have := of_decide_eq_true hi.2
    refine Or.inr ⟨by omega, ?_, ?_⟩
    · rw [Nat.add_sub_cancel_left]; exact hi.1
    · rw [Nat.add_sub_cancel_left]; exact this
theorem chL_nodup {p s : AS} (hp : PL p) : ∀ i j, i < (chL p s).length → j < (chL p s).length → (chL p s).getD i 0 = (chL p s).getD j 0 → i = j := by
  have hD : ∀ d, (∀ i, i < (chD s d).length → (chD s d).getD i 0 < d) ∧ ∀ i j, i < (chD s d).length → j < (chD s d).length → (chD s d).getD i 0 = (chD s d).getD j 0 → i = j := by
    intro d
    induction d with
    | zero => exact ⟨fun i hi => absurd hi (by simp [chD]), fun i j hi => absurd hi (by simp [chD])⟩
    | succ d ih =>
      obtain ⟨h1, h2⟩ := ih
      rw [chD_s]
      split
      · refine ⟨fun i hi => ?_, fun i j hi hj he => ?_⟩
        · rw [List.length_append] at hi
          simp at hi
          rw [getD_app]
          split
          · rename_i q; have := h1 i q; omega
          · split <;> omega
        · rw [List.length_append] at hi hj
          simp at hi hj
          rw [getD_app, getD_app] at he
          by_cases q1 : i < (chD s d).length <;> by_cases q2 : j < (chD s d).length
          · rw [if_pos q1, if_pos q2] at he; exact h2 i j q1 q2 he
          · rw [if_pos q1, if_neg q2, if_pos (by omega)] at he
            have := h1 i q1; omega
          · rw [if_neg q1, if_pos q2, if_pos (by omega)] at he
            have := h1 j q2; omega
          · omega
      · exact ⟨fun i hi => by have := h1 i hi; omega, h2⟩
  have hH : ∀ d, (∀ i, i < (chH s d).length → 20 ≤ (chH s d).getD i 0 ∧ (chH s d).getD i 0 < 20 + d) ∧ ∀ i j, i < (chH s d).length → j < (chH s d).length → (chH s d).getD i 0 = (chH s d).getD j 0 → i = j := by
    intro d
    induction d with
    | zero => exact ⟨fun i hi => absurd hi (by simp [chH]), fun i j hi => absurd hi (by simp [chH])⟩
    | succ d ih =>
      obtain ⟨h1, h2⟩ := ih
      rw [chH_s]
      split
      · refine ⟨fun i hi => ?_, fun i j hi hj he => ?_⟩
        · rw [List.length_append] at hi
          simp at hi
          rw [getD_app]
          split
          · rename_i q; have := h1 i q; omega
          · split <;> omega
        · rw [List.length_append] at hi hj
          simp at hi hj
          rw [getD_app, getD_app] at he
          by_cases q1 : i < (chH s d).length <;> by_cases q2 : j < (chH s d).length
          · rw [if_pos q1, if_pos q2] at he; exact h2 i j q1 q2 he
          · rw [if_pos q1, if_neg q2, if_pos (by omega)] at he
            have := h1 i q1; omega
          · rw [if_neg q1, if_pos q2, if_pos (by omega)] at he
            have := h1 j q2; omega
          · omega
      · exact ⟨fun i hi => by have := h1 i hi; omega, h2⟩
  intro i j hi hj he
  rw [chL_app] at hi hj he
  rw [List.length_append] at hi hj
  simp only [List.getD_eq_getElem?_getD] at he
  have l2 := hp.2.1
  obtain ⟨d1, d2⟩ := hD (p 0 1)
  obtain ⟨e1, e2⟩ := hH (p 0 2)
  simp only [List.getD_eq_getElem?_getD] at d1 d2 e1 e2
  by_cases q1 : i < (chD s (p 0 1)).length <;> by_cases q2 : j < (chD s (p 0 1)).length
  · rw [List.getElem?_append_left q1, List.getElem?_append_left q2] at he
    exact d2 i j q1 q2 he
  · rw [List.getElem?_append_left q1, List.getElem?_append_right (by omega)] at he
    have := d1 i q1
    have := e1 (j - (chD s (p 0 1)).length) (by omega)
    omega
  · rw [List.getElem?_append_right (by omega), List.getElem?_append_left q2] at he
    have := d1 j q2
    have := e1 (i - (chD s (p 0 1)).length) (by omega)
    omega
  · rw [List.getElem?_append_right (by omega), List.getElem?_append_right (by omega)] at he
    have := e2 (i - (chD s (p 0 1)).length) (j - (chD s (p 0 1)).length) (by omega) (by omega) he
    omega
theorem dig_lt {c k r i : Nat} (hc : 0 < c) : dig c k r i < c := Nat.mod_lt _ hc
theorem cod_in {p s : AS} {k r i : Nat} (hp : PL p) (hc : 0 < (chL p s).length) : (cod p s k r i < 20 ∧ cod p s k r i < p 0 1 ∧ s 3 (cod p s k r i) = 1) ∨ (20 ≤ cod p s k r i ∧ cod p s k r i - 20 < p 0 2 ∧ s 4 (cod p s k r i - 20) = 0) := by
  refine chL_mem hp ?_
  unfold cod
  rw [List.getD_eq_getElem?_getD, List.getElem?_eq_getElem (dig_lt hc)]
  exact List.getElem_mem _
theorem cod_dig {p s : AS} {k r i j : Nat} (hp : PL p) (hc : 0 < (chL p s).length) : cod p s k r i = cod p s k r j ↔ dig (chL p s).length k r i = dig (chL p s).length k r j := by
  unfold cod
  exact ⟨fun h => chL_nodup hp _ _ (dig_lt hc) (dig_lt hc) h, fun h => by rw [h]⟩

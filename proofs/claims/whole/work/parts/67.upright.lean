/-! upright -/
theorem co_nI {k : Nat} (h : k < 2 ^ 32) : co (nI k) = k := pk_tn h
def lkN (p s : AS) (x : Nat) : Nat := co (lst p (wS p s (nI x)))
def tkN (p s : AS) (x : Nat) : Nat := co (trm p (wS p s (nI x)))
theorem why0 {p : AS} {w : Nat → Nat} (h : whyN p w = 0) : lst p w ≤ nI (p 16 2) ∧ trm p w ≤ nI (p 16 3) := by
  unfold whyN at h
  split at h
  · split at h
    · rename_i q2
      split at h
      · rename_i q3
        exact ⟨q2, q3⟩
      · exact absurd h (by decide)
    · exact absurd h (by decide)
  · exact absurd h (by decide)
theorem wS_le {p s : AS} {v : Int32} (hp : PW p) (hw : SW p s) : ∀ h, h < p 0 0 → wS p s v h ≤ 99 := by
  intro h hh
  have t := hp.2.1 h hh
  have := hw h hh
  unfold wS
  split <;> omega
theorem lk_99 {p s : AS} {x : Nat} (hp : PW p) (hw : SW p s) (h : flo p s (nI x) = true) : lkN p s x ≤ 99 ∧ tkN p s x ≤ 99 := by
  have h0 : whyN p (wS p s (nI x)) = 0 := by simpa [flo] using h
  obtain ⟨h1, h2⟩ := why0 h0
  obtain ⟨k, hk, e1⟩ := lst_n hp (wS_le (s := s) (v := nI x) hp hw)
  obtain ⟨j, hj, e2⟩ := trm_n hp (wS_le (s := s) (v := nI x) hp hw)
  obtain ⟨-, -, -, -, -, -, -, -, q2, q3, -⟩ := id hp
  unfold lkN tkN
  rw [e1, nI_leI (by omega) (by omega)] at h1
  rw [e2, nI_leI (by omega) (by omega)] at h2
  rw [e1, e2, co_nI (by omega), co_nI (by omega)]
  omega
def keyN (p s : AS) (x : Nat) : Nat := (lkN p s x * 100 + tkN p s x) * 10 + popN x
theorem pop8 : ∀ x, x < 256 → popN x ≤ 8 := by decide +kernel
def upS (p s : AS) (x : Nat) (a : Option Nat) : Option Nat := if flo p s (nI x) then (match a with
  | none => some x
  | some b => if keyN p s x < keyN p s b then some x else some b) else a
theorem upS_ok {p s : AS} : ∀ n b, rep (upS p s) n none = some b → b < n ∧ flo p s (nI b) = true
  | 0, b, h => by cases h
  | n + 1, b, h => by
    have ih := upS_ok (p := p) (s := s) n
    change upS p s n (rep (upS p s) n none) = some b at h
    generalize rep (upS p s) n none = a at h ih
    unfold upS at h
    split at h
    · rename_i q
      cases a with
      | none => cases h; exact ⟨by omega, q⟩
      | some b2 =>
        have := ih b2 rfl
        simp only at h
        split at h
        · cases h; exact ⟨by omega, q⟩
        · cases h; exact ⟨by omega, this.2⟩
    · have := ih b h
      exact ⟨by omega, this.2⟩
def opK (p s : AS) (a : Option Nat) : Int32 := match a with | none => 0 | some b => nI (keyN p s b)
def opL (p s : AS) (a : Option Nat) : Int32 := match a with | none => 0 | some b => nI (lkN p s b)
def opT (p s : AS) (a : Option Nat) : Int32 := match a with | none => 0 | some b => nI (tkN p s b)
theorem op_upright {F c : Nat} (hF : 5000 ≤ F) : OP_upright F (G c) (G (c + 1)) := by
  intro m P D T hG a1
  have hG' := G_mono hG (Nat.le_succ c)
  obtain ⟨hP, hD, hPD, p, s, hp, hI, hFI, ⟨pc, pm, rc, rm⟩, gi, gr, gt, gs, go, gk⟩ := G_alt hG
  obtain ⟨l1, l2, l3, l4⟩ := hp.1
  have hz := hI.2.1.1
  have hw := hI.1
  have hpw : 2 ^ p 0 0 ≤ 256 := (Nat.pow_le_pow_right (by decide) l1 : 2 ^ p 0 0 ≤ 2 ^ 8)
  unfold f_X8_upright f_X9_upright
  rcases in_N a1 0 2 (A := 0) (B := 2) (by decide) (by decide) (by decide) (by decide) with ⟨w, -, hw2, rfl, h⟩ | ⟨hx, h⟩
  case inr =>
    refine ⟨-1, m, m, ?_, by rw [h]; rfl, hG'⟩
    rcases hx with q | q
    · rw [if_pos (show a1 < (0 : Int32) from q)]
    · rw [if_neg (c := a1 ≤ (2 : Int32)) (Int32.not_le.mpr q)]
      split <;> rfl
  have k3 : ¬ nI w < (0 : Int32) := nI_pos (by omega)
  have k4 : nI w ≤ (2 : Int32) := nI_le (b := 2) hw2 (by decide)
  rw [if_neg k3, if_pos k4]
  have hkey : ∀ x, x < 256 → flo p s (nI x) = true → keyN p s x < 2 ^ 20 := fun x hx hf => by
    have := lk_99 hp hw hf
    have := pop8 x hx
    unfold keyN
    omega
  obtain ⟨r, b1, b2, b3⟩ := iter_P (b := b_X8_mostUprightSet_7 F P) (F := F) (2 ^ p 0 0) (fun i x => ∃ m1, x = (opB (rep (upS p s) i none), opK p s (rep (upS p s) i none), nI i, m1) ∧ Sm m m1) (fun r => r.1 = opB (rep (upS p s) (2 ^ p 0 0) none) ∧ Sm m r.2) (by omega) (by
    rintro i x hi ⟨m1, rfl, q1⟩
    have hc' : ¬ ((1 : Int32) <<< (m1 P 0 &&& 31)) ≤ nI i := by rw [PC_0 (PC_Sm hP pc q1), shl1 _ (by omega)]; exact nI_ge hi (by omega)
    have hok := upS_ok (p := p) (s := s) i
    have e : rep (upS p s) (i + 1) none = upS p s i (rep (upS p s) i none) := rfl
    rw [e]
    generalize rep (upS p s) i none = a at hok
    have v1 := c_float hF hP hp (PC_Sm hP pc q1) (RC_Sm rc q1) (nI i)
    have hcount : f_J6_bitCount (nI i) = some (nI (popN i)) := by unfold f_J6_bitCount; rw [pop_c i (by omega)]
    by_cases w2 : flo p s (nI i)
    · rw [w2, if_pos rfl] at v1
      have hky := hkey i (by omega) w2
      have ek : (scl m1 39 p (wS p s (nI i)) 39 1 * 100 + scl m1 39 p (wS p s (nI i)) 39 2) * 10 + nI (popN i) = nI (keyN p s i) := by
        rw [scl_1, scl_2, ← nI_co (lst p (wS p s (nI i))), ← nI_co (trm p (wS p s (nI i))), show (100 : Int32) = nI 100 from rfl, show (10 : Int32) = nI 10 from rfl, pk_mul, nI_add, pk_mul, nI_add]
        rfl
      cases a with
      | none =>
        refine ⟨_, ?_, scl m1 39 p (wS p s (nI i)), rfl, q1.tr sm_scl⟩
        unfold b_X8_mostUprightSet_7
        dsimp only
        rw [if_neg hc', v1, bind2_some, if_neg n10, hcount, Option.bind_some, letv_eq, ek, if_pos (show opB none = (-4 : Int32) from rfl), Option.bind_some, nI_1]
        simp only [upS, if_pos w2]
        rfl
      | some b =>
        obtain ⟨hb1, hb2⟩ := hok b rfl
        have hkb := hkey b (by omega) hb2
        have hk : ¬ opB (some b) = (-4 : Int32) := by
          rw [← nI_NN]
          exact nI_ne (by omega) (by decide) (by omega)
        by_cases hlt : keyN p s i < keyN p s b
        · have hk2 : ¬ opK p s (some b) ≤ nI (keyN p s i) := nI_ge hlt (by omega)
          refine ⟨_, ?_, scl m1 39 p (wS p s (nI i)), rfl, q1.tr sm_scl⟩
          unfold b_X8_mostUprightSet_7
          dsimp only
          rw [if_neg hc', v1, bind2_some, if_neg n10, hcount, Option.bind_some, letv_eq, ek, if_neg hk, if_neg hk2, Option.bind_some, nI_1]
          simp only [upS, if_pos w2, if_pos hlt]
          rfl
        · have hk2 : opK p s (some b) ≤ nI (keyN p s i) := nI_le (by omega) (by omega)
          refine ⟨_, ?_, scl m1 39 p (wS p s (nI i)), rfl, q1.tr sm_scl⟩
          unfold b_X8_mostUprightSet_7
          dsimp only
          rw [if_neg hc', v1, bind2_some, if_neg n10, hcount, Option.bind_some, letv_eq, ek, if_neg hk, if_pos hk2, Option.bind_some, nI_1]
          simp only [upS, if_pos w2, if_neg hlt]
    · rw [if_neg w2] at v1
      refine ⟨_, ?_, scl m1 39 p (wS p s (nI i)), rfl, q1.tr sm_scl⟩
      unfold b_X8_mostUprightSet_7
      dsimp only
      rw [if_neg hc', v1, bind2_some, if_pos rfl, Option.bind_some, nI_1]
      simp only [upS, if_neg w2]) (by
    rintro x ⟨m1, rfl, q1⟩
    have hc' : ((1 : Int32) <<< (m1 P 0 &&& 31)) ≤ nI (2 ^ p 0 0) := by rw [PC_0 (PC_Sm hP pc q1), shl1 _ (by omega)]; exact Int32.le_refl _
    refine ⟨(opB (rep (upS p s) (2 ^ p 0 0) none), m1), ?_, rfl, q1⟩
    unfold b_X8_mostUprightSet_7
    exact if_pos hc') (x := (-4, 0, 0, m)) ⟨m, rfl, Sm.rf⟩
  have c0 : f_X8_mostUprightSet F m P = some (opB (rep (upS p s) (2 ^ p 0 0) none), r.2) := by
    unfold f_X8_mostUprightSet
    rw [b1, Option.bind_some, b2]
  have ref : ∀ m1, Sm m m1 → ∃ m2, iter F (b_X9_upright_25 F) ((-4, 0, 0, 0, m1) : Int32 × Int32 × Int32 × Int32 × Mm) = some (opB (rep (upS p s) (2 ^ p 0 0) none), opL p s (rep (upS p s) (2 ^ p 0 0) none), opT p s (rep (upS p s) (2 ^ p 0 0) none), m2) ∧ Sm m m2 := by
    intro m1 hs1
    obtain ⟨r2, d1, m2, d2, d3⟩ := iter_P (b := b_X9_upright_25 F) (F := F) (2 ^ p 0 0) (fun i x => ∃ m1, x = (opB (rep (upS p s) i none), opL p s (rep (upS p s) i none), opT p s (rep (upS p s) i none), nI i, m1) ∧ Sm m m1) (fun r => ∃ m2, r = (opB (rep (upS p s) (2 ^ p 0 0) none), opL p s (rep (upS p s) (2 ^ p 0 0) none), opT p s (rep (upS p s) (2 ^ p 0 0) none), m2) ∧ Sm m m2) (by omega) (by
      rintro i x hi ⟨m1, rfl, q1⟩
      have hc' : ¬ ((1 : Int32) <<< (m1 113 2 &&& 31)) ≤ nI i := by rw [pm_1 (PM_Sm pm q1), shl1 _ (by omega)]; exact nI_ge hi (by omega)
      have hok := upS_ok (p := p) (s := s) i
      have e : rep (upS p s) (i + 1) none = upS p s i (rep (upS p s) i none) := rfl
      rw [e]
      generalize rep (upS p s) i none = a at hok
      obtain ⟨m2, v1, v2, v3, v4⟩ := m_float hF hp (PM_Sm pm q1) (RM_Sm hp hz rm q1) hz (nI i)
      by_cases w2 : flo p s (nI i)
      · rw [w2, if_pos rfl] at v1
        rw [← nI_co (lst p (wS p s (nI i)))] at v3
        rw [← nI_co (trm p (wS p s (nI i)))] at v4
        have v3' : f_X9_listOf F m2 384 = some (nI (lkN p s i)) := v3
        have v4' : f_X9_trimOf F m2 384 = some (nI (tkN p s i)) := v4
        have hl := lk_99 hp hw w2
        have hpi := pop8 i (by omega)
        have fin : ∀ y : Bool, (∀ mm : Mm, (if opB a = (-4 : Int32) then (some (1 : Int32)) else (if nI (lkN p s i) < opL p s a then (some 1) else (if nI (lkN p s i) = opL p s a then (if nI (tkN p s i) < opT p s a then (some 1) else (if nI (tkN p s i) = opT p s a then ((f_X9_countOf F (nI i)).bind fun x13 => (f_X9_countOf F (opB a)).bind fun x15 => if x15 ≤ x13 then (some 0) else (some 1)) else (some 0))) else (some 0))) : Option (Int32)) = some (if y then 1 else 0)) → upS p s i a = (if y then some i else a) → ∃ y_1, b_X9_upright_25 F (opB a, opL p s a, opT p s a, nI i, m1) = some (Sum.inl y_1) ∧ ∃ m1, y_1 = (opB (upS p s i a), opL p s (upS p s i a), opT p s (upS p s i a), nI (i + 1), m1) ∧ Sm m m1 := by
          intro y hy hu
          refine ⟨_, ?_, m2, rfl, q1.tr v2.sm⟩
          unfold b_X9_upright_25
          dsimp only
          rw [if_neg hc', v1, bind2_some, if_neg n10, v3', Option.bind_some, v4', Option.bind_some, hy m1, Option.bind_some, hu]
          cases y with
          | true =>
            rw [if_pos rfl, if_neg n10, if_neg n10, if_neg n10, Option.bind_some, Option.bind_some, Option.bind_some, Option.bind_some]
            dsimp only
            rw [nI_1]
            rfl
          | false =>
            rw [show (if false = true then (1 : Int32) else 0) = 0 from rfl, if_pos rfl, if_pos rfl, if_pos rfl, Option.bind_some, Option.bind_some, Option.bind_some, Option.bind_some]
            dsimp only
            rw [nI_1]
            rfl
        cases a with
        | none => exact fin true (fun _ => if_pos rfl) (by simp only [upS, if_pos w2]; rfl)
        | some b =>
          obtain ⟨hb1, hb2⟩ := hok b rfl
          have hlb := lk_99 hp hw hb2
          have hpb := pop8 b (by omega)
          have hk : ¬ opB (some b) = (-4 : Int32) := by
            rw [← nI_NN]
            exact nI_ne (by omega) (by decide) (by omega)
          have c1 : f_X9_countOf F (nI i) = some (nI (popN i)) := m_count hF (by omega)
          have c2 : f_X9_countOf F (opB (some b)) = some (nI (popN b)) := m_count hF (by omega)
          have u1 : keyN p s i < keyN p s b → upS p s i (some b) = some i := fun q => by simp only [upS, if_pos w2, if_pos q]
          have u2 : ¬ keyN p s i < keyN p s b → upS p s i (some b) = some b := fun q => by simp only [upS, if_pos w2, if_neg q]
          by_cases g1 : lkN p s i < lkN p s b
          · exact fin true (fun _ => by rw [if_neg hk, if_pos (show nI (lkN p s i) < opL p s (some b) from nI_lt g1 (by omega))]; rfl) (u1 (by unfold keyN; omega))
          have g1' : ¬ nI (lkN p s i) < opL p s (some b) := nI_nlt (by omega) (by omega)
          by_cases g2 : lkN p s i = lkN p s b
          · have g2' : nI (lkN p s i) = opL p s (some b) := by rw [g2]; rfl
            by_cases g3 : tkN p s i < tkN p s b
            · exact fin true (fun _ => by rw [if_neg hk, if_neg g1', if_pos g2', if_pos (show nI (tkN p s i) < opT p s (some b) from nI_lt g3 (by omega))]; rfl) (u1 (by unfold keyN; omega))
            have g3' : ¬ nI (tkN p s i) < opT p s (some b) := nI_nlt (by omega) (by omega)
            by_cases g4 : tkN p s i = tkN p s b
            · have g4' : nI (tkN p s i) = opT p s (some b) := by rw [g4]; rfl
              by_cases g5 : popN b ≤ popN i
              · exact fin false (fun _ => by rw [if_neg hk, if_neg g1', if_pos g2', if_neg g3', if_pos g4', c1, Option.bind_some, c2, Option.bind_some, if_pos (nI_le g5 (by omega))]; rfl) (u2 (by unfold keyN; omega))
              · exact fin true (fun _ => by rw [if_neg hk, if_neg g1', if_pos g2', if_neg g3', if_pos g4', c1, Option.bind_some, c2, Option.bind_some, if_neg (nI_ge (by omega) (by omega))]; rfl) (u1 (by unfold keyN; omega))
            · have g4' : ¬ nI (tkN p s i) = opT p s (some b) := nI_ne (by omega) (by omega) g4
              exact fin false (fun _ => by rw [if_neg hk, if_neg g1', if_pos g2', if_neg g3', if_neg g4']; rfl) (u2 (by unfold keyN; omega))
          · have g2' : ¬ nI (lkN p s i) = opL p s (some b) := nI_ne (by omega) (by omega) g2
            exact fin false (fun _ => by rw [if_neg hk, if_neg g1', if_neg g2']; rfl) (u2 (by unfold keyN; omega))
      · rw [if_neg w2] at v1
        refine ⟨_, ?_, m2, rfl, q1.tr v2.sm⟩
        unfold b_X9_upright_25
        dsimp only
        rw [if_neg hc', v1, bind2_some, if_pos rfl, Option.bind_some]
        dsimp only
        rw [nI_1]
        simp only [upS, if_neg w2]) (by
      rintro x ⟨m1, rfl, q1⟩
      have hc' : ((1 : Int32) <<< (m1 113 2 &&& 31)) ≤ nI (2 ^ p 0 0) := by rw [pm_1 (PM_Sm pm q1), shl1 _ (by omega)]; exact Int32.le_refl _
      refine ⟨_, ?_, m1, rfl, q1⟩
      unfold b_X9_upright_25
      exact if_pos hc') (x := (-4, 0, 0, 0, m1)) ⟨m1, rfl, hs1⟩
    exact ⟨m2, by rw [d1, d2], d3⟩
  have hok := upS_ok (p := p) (s := s) (2 ^ p 0 0)
  generalize rep (upS p s) (2 ^ p 0 0) none = a at hok ref c0
  cases a with
  | none =>
    obtain ⟨m2, d1, d2⟩ := ref r.2 b3
    refine ⟨-4, r.2, m2, ?_, ?_, G_Sm hG (Nat.le_succ c) d2⟩
    · rw [c0, bind2_some, if_pos (show opB none = (-4 : Int32) from rfl)]
      rfl
    · rw [h, Option.bind_some, if_neg n10, d1, Option.bind_some, if_pos (show opB none = (-4 : Int32) from rfl)]
  | some b =>
    obtain ⟨hb1, hb2⟩ := hok b rfl
    have hk : ¬ opB (some b) = (-4 : Int32) := by
      rw [← nI_NN]
      exact nI_ne (by omega) (by decide) (by omega)
    by_cases q0 : nI w = (0 : Int32)
    · obtain ⟨m2, d1, d2⟩ := ref r.2 b3
      refine ⟨nI b, r.2, m2, ?_, ?_, G_Sm hG (Nat.le_succ c) d2⟩
      · rw [c0, bind2_some, if_neg hk, if_pos q0]
        rfl
      · rw [h, Option.bind_some, if_neg n10, d1, Option.bind_some, if_neg hk, if_pos q0]
        rfl
    · have e1 : f_X3_weigh F r.2 39 P 5 (nI b) = some (scl r.2 39 p (wS p s (nI b))) := c_weigh hp.1 (PC_Sm hP pc b3) (plne hP (by decide)) (by decide) (fun h hh => by
        unfold wS
        split
        · rfl
        · exact RC_Sm rc b3 1 h hh) (by omega)
      have sm2 : Sm m (scl r.2 39 p (wS p s (nI b))) := b3.tr sm_scl
      obtain ⟨m2, d1, d2⟩ := ref (scl r.2 39 p (wS p s (nI b))) sm2
      by_cases q1 : nI w = (1 : Int32)
      · refine ⟨nI (lkN p s b), scl r.2 39 p (wS p s (nI b)), m2, ?_, ?_, G_Sm hG (Nat.le_succ c) d2⟩
        · rw [c0, bind2_some, if_neg hk, if_neg q0, show opB (some b) = nI b from rfl, e1, Option.bind_some, if_pos q1, scl_1]
          unfold lkN
          rw [nI_co]
        · rw [h, Option.bind_some, if_neg n10, d1, Option.bind_some, if_neg hk, if_neg q0, if_pos q1]
          rfl
      · refine ⟨nI (tkN p s b), scl r.2 39 p (wS p s (nI b)), m2, ?_, ?_, G_Sm hG (Nat.le_succ c) d2⟩
        · rw [c0, bind2_some, if_neg hk, if_neg q0, show opB (some b) = nI b from rfl, e1, Option.bind_some, if_neg q1, scl_2]
          unfold tkN
          rw [nI_co]
        · rw [h, Option.bind_some, if_neg n10, d1, Option.bind_some, if_neg hk, if_neg q0, if_neg q1]
          rfl

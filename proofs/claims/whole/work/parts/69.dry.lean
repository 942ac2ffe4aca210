/-! dry -/
theorem op_dry {F c : Nat} (hF : 5000 ≤ F) : OP_dry F (G c) (G (c + 1)) := by
  intro m P D T hG a1 a2
  have hG' := G_mono hG (Nat.le_succ c)
  obtain ⟨hP, hD, hPD, p, s, hp, hI, hFI, ⟨pc, pm, rc, rm⟩, gi, gr, gt, gs, go, gk⟩ := G_alt hG
  obtain ⟨l1, l2, l3, l4⟩ := hp.1
  have ho := hI.2.1
  have hpw := pow_le (k := p 0 1) (by omega)
  have hlt := bitsN_lt (f := foS s) (p 0 1)
  have hbs : bitsS (foS s) (p 0 1) = nI (bitsN (foS s) (p 0 1)) := bitsS_N _ (by omega)
  unfold f_X8_dry f_X9_dry
  rcases is_hold hp.1 pc pm a1 with ⟨j, hj, rfl, h8, h9⟩ | ⟨hx, h8, h9⟩
  case inr => exact ⟨-1, by rw [h8]; rfl, by rw [h9]; rfl, hG'⟩
  rw [h8, h9, Option.bind_some, Option.bind_some, if_neg n10, if_neg n10]
  rcases in_N a2 0 1 (A := 0) (B := 1) (by decide) (by decide) (by decide) (by decide) with ⟨w, -, hw, rfl, h⟩ | ⟨hx, h⟩
  case inr =>
    refine ⟨-1, ?_, by rw [h]; rfl, hG'⟩
    rcases hx with q | q
    · rw [if_pos (show a2 < (0 : Int32) from q)]
    · rw [if_neg (c := a2 ≤ (1 : Int32)) (Int32.not_le.mpr q)]
      split <;> rfl
  have k3 : ¬ nI w < (0 : Int32) := nI_pos (by omega)
  have k4 : nI w ≤ (1 : Int32) := nI_le (b := 1) hw (by decide)
  rw [if_neg k3, if_pos k4, h, Option.bind_some, if_neg n10, c_holed hF hp pc, m_holed hF hp pm, Option.bind_some, Option.bind_some]
  by_cases qw : ((holS p (p 0 2) >>> (nI j &&& 31)) &&& (1 : Int32)) = (1 : Int32)
  · rw [if_pos qw, if_pos qw]
    exact ⟨-4, rfl, rfl, hG'⟩
  rw [if_neg qw, if_neg qw]
  have hw0 : ((holS p (p 0 2) >>> (nI j &&& 31)) &&& (1 : Int32)) = 0 := (bit01 _).resolve_right qw
  unfold f_X8_fewestDoorsAround
  rw [c_open hF hp pc rc ho, m_open hF hp pm rm ho, Option.bind_some, Option.bind_some, hbs]
  generalize bitsN (foS s) (p 0 1) = o at hlt
  -- which sets do
  generalize hok : (fun x : Nat => decide (nI x &&& (nI o ^^^ -1) = 0) && decide (((rcA p (nI o &&& (nI x ^^^ -1)) (holS p (p 0 2)) >>> (nI j &&& 31)) &&& (1 : Int32)) = 0)) = ok
  have hokx : ∀ x, ok x = (decide (nI x &&& (nI o ^^^ -1) = 0) && decide (((rcA p (nI o &&& (nI x ^^^ -1)) (holS p (p 0 2)) >>> (nI j &&& 31)) &&& (1 : Int32)) = 0)) := fun x => by rw [← hok]
  have hoko : ok o = true := by
    rw [hokx, and_not, rcA_0 hp.1, hw0]
    decide
  have step : ∀ x (a : Option Nat), ∃ a2 : Option Nat, a2 = (match a with | none => if ok x then some x else none | some b => if ok x && decide (popN x < popN b) then some x else some b) := fun x a => ⟨_, rfl⟩
  generalize hst : (fun (x : Nat) (a : Option Nat) => match a with | none => if ok x then some x else none | some b => if ok x && decide (popN x < popN b) then some x else some b) = st
  have stN : ∀ x, st x none = if ok x then some x else none := fun x => by rw [← hst]
  have stS : ∀ x b, st x (some b) = if ok x && decide (popN x < popN b) then some x else some b := fun x b => by rw [← hst]
  have inv : ∀ n, (∀ b, rep st n none = some b → b < n ∧ ok b = true) ∧ (o < n → rep st n none ≠ none) := by
    intro n
    induction n with
    | zero => exact ⟨fun b hb => (by cases hb), fun q => by omega⟩
    | succ n ih =>
      have e : rep st (n + 1) none = st n (rep st n none) := rfl
      rw [e]
      generalize rep st n none = a at ih
      cases a with
      | none =>
        rw [stN]
        refine ⟨fun b hb => ?_, fun q => ?_⟩
        · split at hb
          · rename_i w; cases hb; exact ⟨by omega, w⟩
          · cases hb
        · by_cases e2 : o = n
          · rw [if_pos (by rw [← e2]; exact hoko)]
            exact fun w => by cases w
          · exact absurd rfl (ih.2 (by omega))
      | some b0 =>
        have hb0 := ih.1 b0 rfl
        rw [stS]
        refine ⟨fun b hb => ?_, fun q => ?_⟩
        · split at hb
          · rename_i w
            cases hb
            simp only [Bool.and_eq_true] at w
            exact ⟨by omega, w.1⟩
          · cases hb; exact ⟨by omega, hb0.2⟩
        · split <;> exact fun w => by cases w
  have opO : Option Nat → Nat := fun a => a.getD o
  -- the class
  have cls : iter F (b_X8_fewestDoorsAround_11 F m P (nI j) (holS p (p 0 2)) (nI o)) ((nI o, 0) : Int32 × Int32) = some (nI ((rep st (2 ^ p 0 1) none).getD o)) := by
    have h1 := iter_n (b := b_X8_fewestDoorsAround_11 F m P (nI j) (holS p (p 0 2)) (nI o)) (F := F) (fun i => (nI ((rep st i none).getD o), nI i)) (2 ^ p 0 1) (nI ((rep st (2 ^ p 0 1) none).getD o)) (by omega) (by
      intro i hi
      have hc : ¬ ((1 : Int32) <<< (m P 1 &&& 31)) ≤ nI i := by rw [PC_1 pc, shl1 _ (by omega)]; exact nI_ge hi (by omega)
      have hiv := (inv i).1
      have e : rep st (i + 1) none = st i (rep st i none) := rfl
      simp only [e]
      generalize rep st i none = a at hiv
      have hbb : a.getD o < 1024 := by
        cases a with
        | none => show o < 1024; omega
        | some b => have := hiv b rfl; show b < 1024; omega
      have c1 : f_J6_bitCount (nI i) = some (nI (popN i)) := by unfold f_J6_bitCount; rw [pop_c i (by omega)]
      have c2 : f_J6_bitCount (nI (a.getD o)) = some (nI (popN (a.getD o))) := by unfold f_J6_bitCount; rw [pop_c _ hbb]
      have p1 := popN_le i
      have p2 := popN_le (a.getD o)
      have fin : ∀ z : Nat, (if popN (a.getD o) ≤ popN i then (some (nI (a.getD o))) else (if (nI i &&& (nI o ^^^ ((-1) : Int32))) = 0 then ((f_X8_reachedFrom F m P (holS p (p 0 2)) (nI o &&& (nI i ^^^ ((-1) : Int32)))).bind fun x11 => if ((x11 >>> (nI j &&& 31)) &&& (1 : Int32)) = 0 then (some (nI i)) else (some (nI (a.getD o)))) else (some (nI (a.getD o)))) : Option Int32) = some (nI z) → (st i a).getD o = z → b_X8_fewestDoorsAround_11 F m P (nI j) (holS p (p 0 2)) (nI o) (nI (a.getD o), nI i) = some (Sum.inl (nI ((st i a).getD o), nI (i + 1))) := by
        intro z hz hs
        unfold b_X8_fewestDoorsAround_11
        dsimp only
        rw [if_neg hc, c1, Option.bind_some, c2, Option.bind_some, hs, ← nI_1]
        by_cases q : popN (a.getD o) ≤ popN i
        · rw [if_pos q] at hz
          rw [if_pos (nI_le q (by omega)), Option.bind_some, if_pos rfl, hz, Option.bind_some]
        · rw [if_neg q] at hz
          rw [if_neg (nI_ge (by omega) (by omega)), Option.bind_some, if_neg n10, hz, Option.bind_some]
      have rch := c_reach hF hp pc (holS p (p 0 2)) (nI o &&& (nI i ^^^ -1))
      by_cases g1 : (nI i &&& (nI o ^^^ ((-1) : Int32))) = 0
      · by_cases g2 : ((rcA p (nI o &&& (nI i ^^^ -1)) (holS p (p 0 2)) >>> (nI j &&& 31)) &&& (1 : Int32)) = 0
        · have hoi : ok i = true := by rw [hokx, g2, g1]; decide
          cases a with
          | none =>
            have hs : st i none = some i := by rw [stN, if_pos hoi]
            refine fin i ?_ (by rw [hs]; rfl)
            by_cases q : popN ((none : Option Nat).getD o) ≤ popN i
            · have : i = o := sub_eq (by omega) (by omega) g1 q
              rw [if_pos q, this]
              rfl
            · rw [if_neg q, if_pos g1, rch, Option.bind_some, if_pos g2]
          | some b =>
            by_cases q : popN b ≤ popN i
            · have hs : st i (some b) = some b := by rw [stS, hoi]; simp [Nat.not_lt.mpr q]
              exact fin b (if_pos q) (by rw [hs]; rfl)
            · have hs : st i (some b) = some i := by rw [stS, hoi]; simp [Nat.not_le.mp q]
              exact fin i (by rw [if_neg (c := popN ((some b : Option Nat).getD o) ≤ popN i) q, if_pos g1, rch, Option.bind_some, if_pos g2]) (by rw [hs]; rfl)
        · have hoi : ok i = false := by rw [hokx, decide_eq_false g2, Bool.and_false]
          have hs : st i a = a := by
            cases a with
            | none => rw [stN, hoi]; rfl
            | some b => rw [stS, hoi]; rfl
          refine fin (a.getD o) ?_ (by rw [hs])
          by_cases q : popN (a.getD o) ≤ popN i
          · rw [if_pos q]
          · rw [if_neg q, if_pos g1, rch, Option.bind_some, if_neg g2]
      · have hoi : ok i = false := by rw [hokx, decide_eq_false g1, Bool.false_and]
        have hs : st i a = a := by
          cases a with
          | none => rw [stN, hoi]; rfl
          | some b => rw [stS, hoi]; rfl
        refine fin (a.getD o) ?_ (by rw [hs])
        by_cases q : popN (a.getD o) ≤ popN i
        · rw [if_pos q]
        · rw [if_neg q, if_neg g1]) (by
      have hc : ((1 : Int32) <<< (m P 1 &&& 31)) ≤ nI (2 ^ p 0 1) := by rw [PC_1 pc, shl1 _ (by omega)]; exact Int32.le_refl _
      unfold b_X8_fewestDoorsAround_11
      exact if_pos hc)
    exact h1
  -- the reference
  have ref : iter F (b_X9_dry_47 F m (nI j) (nI o)) (((-4), 0) : Int32 × Int32) = some (opB (rep st (2 ^ p 0 1) none)) := by
    have h1 := iter_n (b := b_X9_dry_47 F m (nI j) (nI o)) (F := F) (fun i => (opB (rep st i none), nI i)) (2 ^ p 0 1) (opB (rep st (2 ^ p 0 1) none)) (by omega) (by
      intro i hi
      have hc : ¬ ((1 : Int32) <<< (m 113 4 &&& 31)) ≤ nI i := by rw [pm_2 pm, shl1 _ (by omega)]; exact nI_ge hi (by omega)
      have hiv := (inv i).1
      have e : rep st (i + 1) none = st i (rep st i none) := rfl
      simp only [e]
      generalize rep st i none = a at hiv
      have c1 : f_X9_countOf F (nI i) = some (nI (popN i)) := m_count hF (by omega)
      have p1 := popN_le i
      have rch := m_reach hF hp pm (holS p (p 0 2)) (nI o &&& (nI i ^^^ -1))
      have hh := m_holed hF hp pm
      have fin : ∀ y : Bool, (if (nI i &&& (nI o ^^^ ((-1) : Int32))) = 0 then (if opB a = ((-4) : Int32) then (some (1 : Int32)) else ((f_X9_countOf F (nI i)).bind fun x12 => (f_X9_countOf F (opB a)).bind fun x14 => if x14 ≤ x12 then (some 0) else (some 1))) else (some 0) : Option (Int32)) = some (if y then 1 else 0) → opB (st i a) = (if y then (if ((rcA p (nI o &&& (nI i ^^^ -1)) (holS p (p 0 2)) >>> (nI j &&& 31)) &&& (1 : Int32)) = 0 then nI i else opB a) else opB a) → b_X9_dry_47 F m (nI j) (nI o) (opB a, nI i) = some (Sum.inl (opB (st i a), nI (i + 1))) := by
        intro y hy hs
        unfold b_X9_dry_47
        dsimp only
        rw [if_neg hc, hy, Option.bind_some, hs, ← nI_1]
        cases y with
        | true =>
          rw [if_pos rfl, if_neg n10, hh, Option.bind_some, rch, Option.bind_some, if_pos rfl]
          split <;> rfl
        | false =>
          rw [show (if false = true then (1 : Int32) else 0) = 0 from rfl, if_pos rfl]
          rfl
      by_cases g1 : (nI i &&& (nI o ^^^ ((-1) : Int32))) = 0
      · by_cases g2 : ((rcA p (nI o &&& (nI i ^^^ -1)) (holS p (p 0 2)) >>> (nI j &&& 31)) &&& (1 : Int32)) = 0
        · have hoi : ok i = true := by rw [hokx, g2, g1]; decide
          cases a with
          | none =>
            have hs : st i none = some i := by rw [stN, if_pos hoi]
            exact fin true (by rw [if_pos g1, if_pos (show opB none = (-4 : Int32) from rfl)]; rfl) (by rw [hs, if_pos rfl, if_pos g2]; rfl)
          | some b =>
            have hb := hiv b rfl
            have p2 := popN_le b
            have hk : ¬ opB (some b) = (-4 : Int32) := by
              rw [← nI_NN]
              exact nI_ne (by omega) (by decide) (by omega)
            have c2 : f_X9_countOf F (opB (some b)) = some (nI (popN b)) := m_count hF (by omega)
            by_cases q : popN b ≤ popN i
            · have hs : st i (some b) = some b := by rw [stS, hoi]; simp [Nat.not_lt.mpr q]
              exact fin false (by rw [if_pos g1, if_neg hk, c1, Option.bind_some, c2, Option.bind_some, if_pos (nI_le q (by omega))]; rfl) (by rw [hs]; rfl)
            · have hs : st i (some b) = some i := by rw [stS, hoi]; simp [Nat.not_le.mp q]
              exact fin true (by rw [if_pos g1, if_neg hk, c1, Option.bind_some, c2, Option.bind_some, if_neg (nI_ge (by omega) (by omega))]; rfl) (by rw [hs, if_pos rfl, if_pos g2]; rfl)
        · have hoi : ok i = false := by rw [hokx, decide_eq_false g2, Bool.and_false]
          have hs : st i a = a := by
            cases a with
            | none => rw [stN, hoi]; rfl
            | some b => rw [stS, hoi]; rfl
          cases a with
          | none => exact fin true (by rw [if_pos g1, if_pos (show opB none = (-4 : Int32) from rfl)]; rfl) (by rw [hs, if_pos rfl, if_neg g2])
          | some b =>
            have hb := hiv b rfl
            have p2 := popN_le b
            have hk : ¬ opB (some b) = (-4 : Int32) := by
              rw [← nI_NN]
              exact nI_ne (by omega) (by decide) (by omega)
            have c2 : f_X9_countOf F (opB (some b)) = some (nI (popN b)) := m_count hF (by omega)
            by_cases q : popN b ≤ popN i
            · exact fin false (by rw [if_pos g1, if_neg hk, c1, Option.bind_some, c2, Option.bind_some, if_pos (nI_le q (by omega))]; rfl) (by rw [hs]; rfl)
            · exact fin true (by rw [if_pos g1, if_neg hk, c1, Option.bind_some, c2, Option.bind_some, if_neg (nI_ge (by omega) (by omega))]; rfl) (by rw [hs, if_pos rfl, if_neg g2])
      · have hoi : ok i = false := by rw [hokx, decide_eq_false g1, Bool.false_and]
        have hs : st i a = a := by
          cases a with
          | none => rw [stN, hoi]; rfl
          | some b => rw [stS, hoi]; rfl
        exact fin false (by rw [if_neg g1]; rfl) (by rw [hs]; rfl)) (by
      have hc : ((1 : Int32) <<< (m 113 4 &&& 31)) ≤ nI (2 ^ p 0 1) := by rw [pm_2 pm, shl1 _ (by omega)]; exact Int32.le_refl _
      unfold b_X9_dry_47
      exact if_pos hc)
    exact h1
  obtain ⟨hv1, hv2⟩ := inv (2 ^ p 0 1)
  rw [cls, ref]
  generalize rep st (2 ^ p 0 1) none = a at hv1 hv2
  cases a with
  | none => exact absurd rfl (hv2 hlt)
  | some b =>
    have hb := hv1 b rfl
    have c1 : f_J6_bitCount (nI b) = some (nI (popN b)) := by unfold f_J6_bitCount; rw [pop_c b (by omega)]
    have c2 : f_X9_countOf F (opB (some b)) = some (nI (popN b)) := m_count hF (by omega)
    rw [Option.bind_some, Option.bind_some, Option.bind_some]
    show ∃ z, (if nI w = (0 : Int32) then ((f_J6_bitCount (nI b)).bind fun x7 => some x7) else (some (nI b))) = some z ∧ _
    by_cases q : nI w = (0 : Int32)
    · exact ⟨nI (popN b), by rw [if_pos q, c1]; rfl, by rw [if_pos q, c2]; rfl, hG'⟩
    · exact ⟨nI b, by rw [if_neg q], by rw [if_neg q]; rfl, hG'⟩

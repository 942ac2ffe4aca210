/-! text: the reference's line in pieces; the line, in both -/
def rlA (y1 : Int32) (m : Mm) (k : Mm → Option Mm) : Option Mm := (f_X9_in y1.toInt64 0 4).bind fun x4 => (if x4 = 0 then ((f_X9_in y1.toInt64 10 13).bind fun x7 => if x7 = 0 then (some 0) else (some 1)) else (some 1) : Option (Int32)).bind fun y6 => (f_X9_needs m y6 2).bind fun m10 => (if y1 = (10 : Int32) then (if (8 : Int32) ≤ (m10 113 11) then (some 0) else (some 1)) else (some 1) : Option (Int32)).bind fun y11 => (f_X9_needs m10 y11 5).bind fun m13 => (if y1 = (11 : Int32) then (if (10 : Int32) ≤ (m13 113 13) then (some 0) else (some 1)) else (some 1) : Option (Int32)).bind fun y14 => (f_X9_needs m13 y14 5).bind fun m16 => (if y1 = (12 : Int32) then (if (4 : Int32) ≤ (m16 113 15) then (some 0) else (some 1)) else (some 1) : Option (Int32)).bind fun y17 => (f_X9_needs m16 y17 5).bind fun m19 => (if y1 = (13 : Int32) then (if (3 : Int32) ≤ (m19 113 17) then (some 0) else (some 1)) else (some 1) : Option (Int32)).bind fun y20 => (f_X9_needs m19 y20 5).bind k
def rlB (y1 : Int32) (m22 : Mm) (k : Mm → Option Mm) : Option Mm := (if (m22 113 27) = 0 then (if (4 : Int32) < y1 then (some m22) else ((ald m22 126 5 y1).bind fun x24 => (if x24 = 0 then (some 1) else (some 0) : Option (Int32)).bind fun y25 => (f_X9_needs m22 y25 4).bind fun m27 => (ast m27 126 5 y1 (vp_nar .boolean 1)).bind fun m28 => some m28)) else (some m22) : Option (Mm)).bind k
def rlT (F : Nat) (y1 : Int32) (m30 : Mm) : Option Mm := if (m30 113 27) ≤ 0 then ((if y1 = (10 : Int32) then ((f_X9_aHold F m30).bind fun m46 => some m46) else (if y1 = (11 : Int32) then ((f_X9_aDoor F m30).bind fun m44 => some m44) else (if y1 = (12 : Int32) then ((f_X9_aHole F m30).bind fun m42 => some m42) else (if y1 = (13 : Int32) then ((f_X9_aPump F m30).bind fun m40 => some m40) else (if y1 = (4 : Int32) then (bind2 (f_X9_readHold F m30) fun x36 m37 => (ast m37 125 5 4 x36).bind fun m38 => some m38) else ((if y1 = 0 then (some 3) else (if y1 = (1 : Int32) then (some 800) else (some 99)) : Option (Int32)).bind fun y32 => bind2 (f_X9_readNumber F m30 1 y32) fun x33 m34 => (ast m34 125 5 y1 x33).bind fun m35 => some m35))))) : Option (Mm)).bind (sgM F)) else (some m30)
theorem rl_eq (F : Nat) (m : Mm) : f_X9_readLine F m = (if (m 113 25) = (1 : Int32) then ((f_X9_nameNow m).bind fun x2 => some x2) else (some (-4)) : Option (Int32)).bind fun y1 => rlA y1 m fun m22 => rlB y1 m22 fun y23 => (f_X9_next F y23).bind (rlT F y1) := rfl
theorem rlA_no {m : Mm} {y1 : Int32} {k : Mm → Option Mm} (h : y1 = -4 ∨ y1 = 14) : rlA y1 m k = (f_X9_needs m 0 2).bind k := by
  have nx : ∀ m' : Mm, ¬ m' 113 27 = 0 → f_X9_needs m' 1 5 = some m' := fun m' _ => need1
  rcases h with rfl | rfl
  · unfold rlA
    rw [show f_X9_in (-4 : Int32).toInt64 0 4 = some 0 by decide, Option.bind_some, if_pos rfl, show f_X9_in (-4 : Int32).toInt64 10 13 = some 0 by decide, Option.bind_some, if_pos rfl, Option.bind_some]
    refine congrArg _ (funext fun m10 => ?_)
    rw [if_neg (by decide), Option.bind_some, need1, Option.bind_some, if_neg (by decide), Option.bind_some, need1, Option.bind_some, if_neg (by decide), Option.bind_some, need1, Option.bind_some, if_neg (by decide), Option.bind_some, need1, Option.bind_some]
  · unfold rlA
    rw [show f_X9_in (14 : Int32).toInt64 0 4 = some 0 by decide, Option.bind_some, if_pos rfl, show f_X9_in (14 : Int32).toInt64 10 13 = some 0 by decide, Option.bind_some, if_pos rfl, Option.bind_some]
    refine congrArg _ (funext fun m10 => ?_)
    rw [if_neg (by decide), Option.bind_some, need1, Option.bind_some, if_neg (by decide), Option.bind_some, need1, Option.bind_some, if_neg (by decide), Option.bind_some, need1, Option.bind_some, if_neg (by decide), Option.bind_some, need1, Option.bind_some]
theorem rlA_0 {m : Mm} {k : Mm → Option Mm} : rlA 0 m k = k m := by
  unfold rlA
  rw [show f_X9_in (0 : Int32).toInt64 0 4 = some 1 by decide, Option.bind_some, if_neg n10, Option.bind_some, need1, Option.bind_some, if_neg (by decide), Option.bind_some, need1, Option.bind_some, if_neg (by decide), Option.bind_some, need1, Option.bind_some, if_neg (by decide), Option.bind_some, need1, Option.bind_some, if_neg (by decide), Option.bind_some, need1, Option.bind_some]
theorem rlA_1 {m : Mm} {k : Mm → Option Mm} : rlA 1 m k = k m := by
  unfold rlA
  rw [show f_X9_in (1 : Int32).toInt64 0 4 = some 1 by decide, Option.bind_some, if_neg n10, Option.bind_some, need1, Option.bind_some, if_neg (by decide), Option.bind_some, need1, Option.bind_some, if_neg (by decide), Option.bind_some, need1, Option.bind_some, if_neg (by decide), Option.bind_some, need1, Option.bind_some, if_neg (by decide), Option.bind_some, need1, Option.bind_some]
theorem rlA_2 {m : Mm} {k : Mm → Option Mm} : rlA 2 m k = k m := by
  unfold rlA
  rw [show f_X9_in (2 : Int32).toInt64 0 4 = some 1 by decide, Option.bind_some, if_neg n10, Option.bind_some, need1, Option.bind_some, if_neg (by decide), Option.bind_some, need1, Option.bind_some, if_neg (by decide), Option.bind_some, need1, Option.bind_some, if_neg (by decide), Option.bind_some, need1, Option.bind_some, if_neg (by decide), Option.bind_some, need1, Option.bind_some]
theorem rlA_3 {m : Mm} {k : Mm → Option Mm} : rlA 3 m k = k m := by
  unfold rlA
  rw [show f_X9_in (3 : Int32).toInt64 0 4 = some 1 by decide, Option.bind_some, if_neg n10, Option.bind_some, need1, Option.bind_some, if_neg (by decide), Option.bind_some, need1, Option.bind_some, if_neg (by decide), Option.bind_some, need1, Option.bind_some, if_neg (by decide), Option.bind_some, need1, Option.bind_some, if_neg (by decide), Option.bind_some, need1, Option.bind_some]
theorem rlA_4 {m : Mm} {k : Mm → Option Mm} : rlA 4 m k = k m := by
  unfold rlA
  rw [show f_X9_in (4 : Int32).toInt64 0 4 = some 1 by decide, Option.bind_some, if_neg n10, Option.bind_some, need1, Option.bind_some, if_neg (by decide), Option.bind_some, need1, Option.bind_some, if_neg (by decide), Option.bind_some, need1, Option.bind_some, if_neg (by decide), Option.bind_some, need1, Option.bind_some, if_neg (by decide), Option.bind_some, need1, Option.bind_some]
theorem rlA_10 {m : Mm} {k : Mm → Option Mm} : rlA 10 m k = if (8 : Int32) ≤ m 113 11 then (f_X9_needs m 0 5).bind k else k m := by
  unfold rlA
  rw [show f_X9_in (10 : Int32).toInt64 0 4 = some 0 by decide, Option.bind_some, if_pos rfl, show f_X9_in (10 : Int32).toInt64 10 13 = some 1 by decide, Option.bind_some, if_neg n10, Option.bind_some, need1, Option.bind_some, if_pos rfl]
  by_cases q : (8 : Int32) ≤ m 113 11
  · rw [if_pos q, if_pos q, Option.bind_some]
    refine congrArg _ (funext fun m10 => ?_)
    rw [if_neg (by decide), Option.bind_some, need1, Option.bind_some, if_neg (by decide), Option.bind_some, need1, Option.bind_some, if_neg (by decide), Option.bind_some, need1, Option.bind_some]
  · rw [if_neg q, if_neg q, Option.bind_some, need1, Option.bind_some, if_neg (by decide), Option.bind_some, need1, Option.bind_some, if_neg (by decide), Option.bind_some, need1, Option.bind_some, if_neg (by decide), Option.bind_some, need1, Option.bind_some]
theorem rlA_11 {m : Mm} {k : Mm → Option Mm} : rlA 11 m k = if (10 : Int32) ≤ m 113 13 then (f_X9_needs m 0 5).bind k else k m := by
  unfold rlA
  rw [show f_X9_in (11 : Int32).toInt64 0 4 = some 0 by decide, Option.bind_some, if_pos rfl, show f_X9_in (11 : Int32).toInt64 10 13 = some 1 by decide, Option.bind_some, if_neg n10, Option.bind_some, need1, Option.bind_some, if_neg (by decide), Option.bind_some, need1, Option.bind_some, if_pos rfl]
  by_cases q : (10 : Int32) ≤ m 113 13
  · rw [if_pos q, if_pos q, Option.bind_some]
    refine congrArg _ (funext fun m10 => ?_)
    rw [if_neg (by decide), Option.bind_some, need1, Option.bind_some, if_neg (by decide), Option.bind_some, need1, Option.bind_some]
  · rw [if_neg q, if_neg q, Option.bind_some, need1, Option.bind_some, if_neg (by decide), Option.bind_some, need1, Option.bind_some, if_neg (by decide), Option.bind_some, need1, Option.bind_some]
theorem rlA_12 {m : Mm} {k : Mm → Option Mm} : rlA 12 m k = if (4 : Int32) ≤ m 113 15 then (f_X9_needs m 0 5).bind k else k m := by
  unfold rlA
  rw [show f_X9_in (12 : Int32).toInt64 0 4 = some 0 by decide, Option.bind_some, if_pos rfl, show f_X9_in (12 : Int32).toInt64 10 13 = some 1 by decide, Option.bind_some, if_neg n10, Option.bind_some, need1, Option.bind_some, if_neg (by decide), Option.bind_some, need1, Option.bind_some, if_neg (by decide), Option.bind_some, need1, Option.bind_some, if_pos rfl]
  by_cases q : (4 : Int32) ≤ m 113 15
  · rw [if_pos q, if_pos q, Option.bind_some]
    refine congrArg _ (funext fun m10 => ?_)
    rw [if_neg (by decide), Option.bind_some, need1, Option.bind_some]
  · rw [if_neg q, if_neg q, Option.bind_some, need1, Option.bind_some, if_neg (by decide), Option.bind_some, need1, Option.bind_some]
theorem rlA_13 {m : Mm} {k : Mm → Option Mm} : rlA 13 m k = if (3 : Int32) ≤ m 113 17 then (f_X9_needs m 0 5).bind k else k m := by
  unfold rlA
  rw [show f_X9_in (13 : Int32).toInt64 0 4 = some 0 by decide, Option.bind_some, if_pos rfl, show f_X9_in (13 : Int32).toInt64 10 13 = some 1 by decide, Option.bind_some, if_neg n10, Option.bind_some, need1, Option.bind_some, if_neg (by decide), Option.bind_some, need1, Option.bind_some, if_neg (by decide), Option.bind_some, need1, Option.bind_some, if_neg (by decide), Option.bind_some, need1, Option.bind_some, if_pos rfl]
  by_cases q : (3 : Int32) ≤ m 113 17
  · rw [if_pos q, if_pos q, Option.bind_some]
  · rw [if_neg q, if_neg q, Option.bind_some, need1, Option.bind_some]
theorem rlB_F {m : Mm} {y1 : Int32} {k : Mm → Option Mm} (h : ¬ m 113 27 = 0) : rlB y1 m k = k m := by
  unfold rlB
  rw [if_neg h, Option.bind_some]
theorem rlB_x {m : Mm} {y1 : Int32} {k : Mm → Option Mm} (h : (4 : Int32) < y1) : rlB y1 m k = k m := by
  unfold rlB
  by_cases q : m 113 27 = 0
  · rw [if_pos q, if_pos h, Option.bind_some]
  · rw [if_neg q, Option.bind_some]
theorem rlB_r {m : Mm} {r : Nat} {k : Mm → Option Mm} (h : m 113 27 = 0) (hr : r < 5) : rlB (nI r) m k = if m 126 r = 0 then k (up2 m 126 r 1) else k (up2 (up2 (up2 m 113 27 4) 113 28 (m 113 24)) 126 r 1) := by
  have n0 : vp_nar .boolean 1 = (1 : Int32) := by decide
  have h4 : ¬ (4 : Int32) < nI r := nI_nlt (b := r) (a := 4) (by omega) (by decide)
  unfold rlB
  rw [if_pos h, if_neg h4, ald_n hr (by decide), Option.bind_some]
  by_cases q : m 126 r = 0
  · rw [if_pos q, if_pos q, Option.bind_some, need1, Option.bind_some, ast_n hr (by decide), Option.bind_some, Option.bind_some, n0]
  · have nd := m_need (m := m) (a := 0) (v := 4) h
    rw [if_pos rfl] at nd
    rw [if_neg q, if_neg q, Option.bind_some, nd, Option.bind_some, ast_n hr (by decide), Option.bind_some, Option.bind_some, n0]
theorem rlT_F {F : Nat} {m : Mm} {y1 : Int32} (h : ¬ m 113 27 ≤ 0) : rlT F y1 m = some m := if_neg h
/-- what the class does at a line, told apart -/
def swC (F Q : Nat) (m7 : Mm) (x8 : Int32) : Option Mm := (if x8 = 0 then ((f_X2_takeRule F m7 Q 0 1 3).bind fun m12 => some m12) else (if x8 = 1 then ((f_X2_takeRule F m7 Q 1 1 800).bind fun m14 => some m14) else (if x8 = 2 then ((f_X2_takeRule F m7 Q 2 1 99).bind fun m16 => some m16) else (if x8 = 3 then ((f_X2_takeRule F m7 Q 3 1 99).bind fun m18 => some m18) else (if x8 = 4 then ((f_X2_takeRule F m7 Q 4 0 ((m7 Q 0) - (1 : Int32))).bind fun m20 => some m20) else (if x8 = 5 then ((f_X2_takeHold F m7 Q).bind fun m22 => some m22) else (if x8 = 6 then ((f_X2_takeDoor F m7 Q).bind fun m24 => some m24) else (if x8 = 7 then ((f_X2_takeHole F m7 Q).bind fun m26 => some m26) else (if x8 = 8 then ((f_X2_takePump F m7 Q).bind fun m28 => some m28) else ((f_X2_refuse m7 2).bind fun m30 => some m30))))))))) : Option (Mm))
theorem swC_5 {F Q : Nat} {m : Mm} : swC F Q m 5 = f_X2_takeHold F m Q := by
  unfold swC
  rw [if_neg (by decide), if_neg (by decide), if_neg (by decide), if_neg (by decide), if_neg (by decide), if_pos rfl, bind_id]
theorem swC_6 {F Q : Nat} {m : Mm} : swC F Q m 6 = f_X2_takeDoor F m Q := by
  unfold swC
  rw [if_neg (by decide), if_neg (by decide), if_neg (by decide), if_neg (by decide), if_neg (by decide), if_neg (by decide), if_pos rfl, bind_id]
theorem swC_7 {F Q : Nat} {m : Mm} : swC F Q m 7 = f_X2_takeHole F m Q := by
  unfold swC
  rw [if_neg (by decide), if_neg (by decide), if_neg (by decide), if_neg (by decide), if_neg (by decide), if_neg (by decide), if_neg (by decide), if_pos rfl, bind_id]
theorem swC_8 {F Q : Nat} {m : Mm} : swC F Q m 8 = f_X2_takePump F m Q := by
  unfold swC
  rw [if_neg (by decide), if_neg (by decide), if_neg (by decide), if_neg (by decide), if_neg (by decide), if_neg (by decide), if_neg (by decide), if_neg (by decide), if_pos rfl, bind_id]
theorem swC_0 {F Q : Nat} {m : Mm} : swC F Q m 0 = f_X2_takeRule F m Q 0 1 3 := by
  unfold swC
  rw [if_pos rfl, bind_id]
theorem swC_1 {F Q : Nat} {m : Mm} : swC F Q m 1 = f_X2_takeRule F m Q 1 1 800 := by
  unfold swC
  rw [if_neg (by decide), if_pos rfl, bind_id]
theorem swC_2 {F Q : Nat} {m : Mm} : swC F Q m 2 = f_X2_takeRule F m Q 2 1 99 := by
  unfold swC
  rw [if_neg (by decide), if_neg (by decide), if_pos rfl, bind_id]
theorem swC_3 {F Q : Nat} {m : Mm} : swC F Q m 3 = f_X2_takeRule F m Q 3 1 99 := by
  unfold swC
  rw [if_neg (by decide), if_neg (by decide), if_neg (by decide), if_pos rfl, bind_id]
theorem swC_4 {F Q : Nat} {m : Mm} : swC F Q m 4 = f_X2_takeRule F m Q 4 0 (m Q 0 - (1 : Int32)) := by
  unfold swC
  rw [if_neg (by decide), if_neg (by decide), if_neg (by decide), if_neg (by decide), if_pos rfl, bind_id]
theorem swC_no {F Q : Nat} {m : Mm} : swC F Q m (-4) = f_X2_refuse m 2 := by
  unfold swC
  rw [if_neg (by decide), if_neg (by decide), if_neg (by decide), if_neg (by decide), if_neg (by decide), if_neg (by decide), if_neg (by decide), if_neg (by decide), if_neg (by decide), bind_id]
theorem rlT_10 {F : Nat} {m : Mm} : rlT F 10 m = if (m 113 27) ≤ 0 then (f_X9_aHold F m).bind (sgM F) else some m := by
  unfold rlT
  by_cases q : m 113 27 ≤ 0
  · rw [if_pos q, if_pos q, if_pos rfl, bind_id]
  · rw [if_neg q, if_neg q]
theorem rlT_11 {F : Nat} {m : Mm} : rlT F 11 m = if (m 113 27) ≤ 0 then (f_X9_aDoor F m).bind (sgM F) else some m := by
  unfold rlT
  by_cases q : m 113 27 ≤ 0
  · rw [if_pos q, if_pos q, if_neg (by decide), if_pos rfl, bind_id]
  · rw [if_neg q, if_neg q]
theorem rlT_12 {F : Nat} {m : Mm} : rlT F 12 m = if (m 113 27) ≤ 0 then (f_X9_aHole F m).bind (sgM F) else some m := by
  unfold rlT
  by_cases q : m 113 27 ≤ 0
  · rw [if_pos q, if_pos q, if_neg (by decide), if_neg (by decide), if_pos rfl, bind_id]
  · rw [if_neg q, if_neg q]
theorem rlT_13 {F : Nat} {m : Mm} : rlT F 13 m = if (m 113 27) ≤ 0 then (f_X9_aPump F m).bind (sgM F) else some m := by
  unfold rlT
  by_cases q : m 113 27 ≤ 0
  · rw [if_pos q, if_pos q, if_neg (by decide), if_neg (by decide), if_neg (by decide), if_pos rfl, bind_id]
  · rw [if_neg q, if_neg q]
theorem rlT_4 {F : Nat} {m : Mm} : rlT F 4 m = if (m 113 27) ≤ 0 then ((bind2 (f_X9_readNumber F m 0 (m 113 11 - (1 : Int32))) fun x33 m34 => (ast m34 125 5 (nI 4) x33).bind fun m35 => some m35).bind (sgM F)) else some m := by
  unfold rlT
  by_cases q : m 113 27 ≤ 0
  · rw [if_pos q, if_pos q, if_neg (by decide), if_neg (by decide), if_neg (by decide), if_neg (by decide), if_pos rfl, rdH_eq]
    rfl
  · rw [if_neg q, if_neg q]
theorem rlT_0 {F : Nat} {m : Mm} : rlT F 0 m = if (m 113 27) ≤ 0 then ((bind2 (f_X9_readNumber F m 1 3) fun x33 m34 => (ast m34 125 5 (nI 0) x33).bind fun m35 => some m35).bind (sgM F)) else some m := by
  unfold rlT
  by_cases q : m 113 27 ≤ 0
  · rw [if_pos q, if_pos q, if_neg (by decide), if_neg (by decide), if_neg (by decide), if_neg (by decide), if_neg (by decide), if_pos rfl, Option.bind_some]
    rfl
  · rw [if_neg q, if_neg q]
theorem rlT_1 {F : Nat} {m : Mm} : rlT F 1 m = if (m 113 27) ≤ 0 then ((bind2 (f_X9_readNumber F m 1 800) fun x33 m34 => (ast m34 125 5 (nI 1) x33).bind fun m35 => some m35).bind (sgM F)) else some m := by
  unfold rlT
  by_cases q : m 113 27 ≤ 0
  · rw [if_pos q, if_pos q, if_neg (by decide), if_neg (by decide), if_neg (by decide), if_neg (by decide), if_neg (by decide), if_neg (by decide), if_pos rfl, Option.bind_some]
    rfl
  · rw [if_neg q, if_neg q]
theorem rlT_2 {F : Nat} {m : Mm} : rlT F 2 m = if (m 113 27) ≤ 0 then ((bind2 (f_X9_readNumber F m 1 99) fun x33 m34 => (ast m34 125 5 (nI 2) x33).bind fun m35 => some m35).bind (sgM F)) else some m := by
  unfold rlT
  by_cases q : m 113 27 ≤ 0
  · rw [if_pos q, if_pos q, if_neg (by decide), if_neg (by decide), if_neg (by decide), if_neg (by decide), if_neg (by decide), if_neg (by decide), if_neg (by decide), Option.bind_some]
    rfl
  · rw [if_neg q, if_neg q]
theorem rlT_3 {F : Nat} {m : Mm} : rlT F 3 m = if (m 113 27) ≤ 0 then ((bind2 (f_X9_readNumber F m 1 99) fun x33 m34 => (ast m34 125 5 (nI 3) x33).bind fun m35 => some m35).bind (sgM F)) else some m := by
  unfold rlT
  by_cases q : m 113 27 ≤ 0
  · rw [if_pos q, if_pos q, if_neg (by decide), if_neg (by decide), if_neg (by decide), if_neg (by decide), if_neg (by decide), if_neg (by decide), if_neg (by decide), Option.bind_some]
    rfl
  · rw [if_neg q, if_neg q]

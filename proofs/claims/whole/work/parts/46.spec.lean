/-! what a minute does, told in numbers -/
def hgt (p s : AS) (h : Nat) : Nat := 12 * s 1 h / p 1 h
def tIn (r g rm : Nat) : Nat := if rm ≤ (r * (12 - g) + 11) / 12 then rm else (r * (12 - g) + 11) / 12
def rat (p s : AS) (i : Nat) : Nat := if s 4 i = 1 then (p 12 i + 1) / 2 else p 12 i
def come (p s : AS) (i : Nat) : Nat := tIn (rat p s i) (hgt p s (p 11 i)) (p 1 (p 11 i) - s 1 (p 11 i))
def holeS (p : AS) (i : Nat) (s : AS) : AS := u3 s 1 (p 11 i) (s 1 (p 11 i) + come p s i)
def valvS (p : AS) (h : Nat) (s : AS) : AS := if s 2 h = 1 then u3 s 1 h (if p 1 h - s 1 h ≤ 5 then p 1 h else s 1 h + 5) else s
def tonS (p : AS) (d : Nat) (s : AS) : AS :=
  if hgt p s (p 5 d) = hgt p s (p 6 d) then s else if max (hgt p s (p 5 d)) (hgt p s (p 6 d)) ≤ p 7 d then s
  else if hgt p s (p 6 d) < hgt p s (p 5 d) then u3 (u3 s 1 (p 5 d) (s 1 (p 5 d) - 1)) 1 (p 6 d) (s 1 (p 6 d) + 1)
  else u3 (u3 s 1 (p 6 d) (s 1 (p 6 d) - 1)) 1 (p 5 d) (s 1 (p 5 d) + 1)
def doorS (p : AS) (d : Nat) (s : AS) : AS := if s 3 d = 1 then rep (fun _ => tonS p d) (p 8 d) s else s
def pumpS (p : AS) (k : Nat) (s : AS) : AS := if s 5 k < p 0 0 then u3 s 1 (s 5 k) (s 1 (s 5 k) - p 14 k) else s
def waterS (p s : AS) : AS := rep (pumpS p) (p 0 3) (rep (doorS p) (p 0 1) (rep (valvS p) (p 0 0) (rep (holeS p) (p 0 2) s)))
def plcS (k : Nat) (s : AS) : AS :=
  if s 8 k = 0 then u3 (u3 s 3 (s 9 k) 0) 13 (s 9 k) 0
  else if s 8 k = 1 then u3 (u3 s 3 (s 9 k) 1) 13 (s 9 k) 0
  else if s 8 k = 2 then u3 (u3 s 4 (s 9 k) 1) 14 (s 9 k) 0
  else if s 8 k = 3 then u3 s 5 (s 9 k) (s 10 k) else u3 s 2 (s 9 k) (s 10 k)
def endS (k : Nat) (s : AS) : AS := if s 11 k = 1 ∧ s 12 k = s 0 0 then u3 (u3 (plcS k s) 11 k 2) 15 0 (s 15 0 - 1) else s
def takN (p : AS) (kd w : Nat) : Nat := if kd < 2 then p 9 w else if kd = 2 then p 13 w else 1
abbrev canB (p s : AS) (k : Nat) : Prop := s 15 0 < p 16 0 ∧ (s 8 k < 2 → s 3 (s 9 k) = 1 - s 8 k ∧ s 13 (s 9 k) = 0) ∧ (s 8 k = 2 → s 4 (s 9 k) = 0 ∧ s 14 (s 9 k) = 0)
def wayS (k : Nat) (s : AS) : AS := if s 8 k < 2 then u3 s 13 (s 9 k) 1 else if s 8 k = 2 then u3 s 14 (s 9 k) 1 else s
def begS (p : AS) (k : Nat) (s : AS) : AS :=
  if s 11 k = 0 ∧ s 7 k = s 0 0 then
    (if canB p s k then u3 (u3 (u3 (wayS k s) 11 k 1) 12 k (s 0 0 + takN p (s 8 k) (s 9 k))) 15 0 (s 15 0 + 1) else u3 (u3 s 11 k 3) 16 0 (s 16 0 + 1))
  else s
def lst (p : AS) (w : Nat → Nat) : Int32 := iabs (sumTo (fun h => nI (w h) * (nI (p 2 h) - 1)) (p 0 0)) / 2
def trm (p : AS) (w : Nat → Nat) : Int32 := iabs (sumTo (fun h => nI (w h) * (nI (p 3 h) - 9)) (p 0 0)) / 10
def whyN (p : AS) (w : Nat → Nat) : Nat := if nI (sumN w (p 0 0)) < nI (p 16 1) then (if lst p w ≤ nI (p 16 2) then (if trm p w ≤ nI (p 16 3) then 0 else 3) else 2) else 1
def seeS (p s : AS) : AS := u3 (u3 s 0 1 (whyN p (s 1))) 0 2 (if whyN p (s 1) = 0 then 4294967292 else s 0 0)
def ordS (p s : AS) : AS := rep (begS p) (s 6 0) (rep endS (s 6 0) s)
def minS (p s : AS) : AS := if s 0 1 = 0 then seeS p (u3 (waterS p (ordS p s)) 0 0 (s 0 0 + 1)) else u3 s 0 0 (s 0 0 + 1)
def okO (p s : AS) (k : Nat) : Prop := s 8 k ≤ 4 ∧ (s 8 k < 2 → s 9 k < p 0 1) ∧ (s 8 k = 2 → s 9 k < p 0 2) ∧ (s 8 k = 3 → s 9 k < p 0 3 ∧ (s 10 k < p 0 0 ∨ s 10 k = 4294967292)) ∧ (s 8 k = 4 → s 9 k < p 0 0 ∧ s 10 k ≤ 1) ∧ s 11 k ≤ 3 ∧ s 7 k < 2 ^ 31 ∧ (s 12 k < 2 ^ 30 ∨ s 12 k = 4294967292)
def onD (s : AS) (d k : Nat) : Nat := if s 11 k = 1 ∧ s 8 k < 2 ∧ s 9 k = d then 1 else 0
def onH (s : AS) (h k : Nat) : Nat := if s 11 k = 1 ∧ s 8 k = 2 ∧ s 9 k = h then 1 else 0
def isW (v : Nat) (s : AS) (k : Nat) : Nat := if s 11 k = v then 1 else 0
def SW (p s : AS) : Prop := ∀ h, h < p 0 0 → s 1 h ≤ p 1 h
def SO (p : AS) (M : Nat) (s : AS) : Prop := s 6 0 ≤ 12 ∧ (∀ h, h < p 0 0 → s 2 h ≤ 1) ∧ (∀ d, d < p 0 1 → s 3 d ≤ 1 ∧ s 13 d ≤ 1 ∧ s 13 d = sumN (onD s d) (s 6 0)) ∧ (∀ i, i < p 0 2 → s 4 i ≤ 1 ∧ s 14 i ≤ 1 ∧ s 14 i = sumN (onH s i) (s 6 0)) ∧ (∀ k, k < p 0 3 → s 5 k < p 0 0 ∨ s 5 k = 4294967292) ∧ (∀ k, k < s 6 0 → okO p s k) ∧ s 15 0 = sumN (isW 1 s) (s 6 0) ∧ s 0 0 ≤ M
def SY (s : AS) : Prop := s 0 1 ≤ 3 ∧ (s 0 1 = 0 → s 0 2 = 4294967292) ∧ (s 0 1 ≠ 0 → s 0 2 ≤ s 0 0)
def SI (p : AS) (M : Nat) (s : AS) : Prop := SW p s ∧ SO p M s ∧ SY s

def zopT : List (List (Option Nat)) := [[some 2, some 2, some 1, some 2, some 2, some 1, some 2, some 2, some 2, some 1, some 1, some 1, some 1, some 1, some 2, some 2],
  [some 1, some 1, some 1, some 1, some 1, some 2, some 2, some 1, some 1, some 2, some 1, some 1, some 1, some 1, some 1, some 2],
  [some 1, some 1, some 1, some 1, some 1, some 2, some 2, some 1, some 2, some 2, some 2, some 2, some 2, some 2, some 1, some 2],
  [some 1, some 1, some 1, some 1, some 1, some 1, some 1, some 1, some 1, some 1, some 1, some 1, some 1, some 1, some 1, some 1],
  [some 1, some 2, some 1, some 1, some 1, some 2, some 2, some 1, some 1, some 2, some 1, some 2, some 2, some 2, some 2, some 1],
  [some 1, some 1, some 1, some 1, some 1, some 1, some 1, some 2, some 2, some 1, some 1, some 1, some 1, some 1, some 1, some 1],
  [some 2, some 1, some 1, some 1, some 1, some 1, some 1, some 1, some 1, some 1, some 2, some 1, some 1, some 1, some 1, some 1],
  [some 1, some 1, some 1, some 1, some 1, some 1, some 1, some 2, some 2, some 2, some 1, some 1, some 1, some 1, some 1, some 1],
  [some 1, some 1, some 1, some 1, some 1, some 1, some 1, some 1, some 1, some 1, some 1, some 1, some 1, some 1, some 1, some 1],
  [some 1, some 1, some 1, some 1, some 1, some 1, some 1, some 1, some 1, some 1, some 1, some 1, some 1, some 1, some 1, some 1],
  [some 1, some 2, some 1, some 1, some 1, some 1, some 1, some 1, some 1, some 1, some 1, some 2, some 1, some 1, some 1, some 2],
  [some 1, some 1, some 1, some 1, some 1, some 1, some 1, some 1, some 1, some 1, some 1, some 1, some 1, some 1, some 1, some 1],
  [some 1, some 1, some 1, some 1, some 1, some 1, some 1, some 1, some 1, some 2, some 1, some 2, some 1, some 2, some 2, some 2],
  [some 1, some 1, some 2, some 1, some 2, some 2, some 1, some 1, some 1, some 1, some 1, some 2, some 1, some 1, some 1, some 1],
  [some 1, some 1, some 1, some 1, some 1, some 1, some 1, some 1, some 1, some 1, some 1, some 2, some 1, some 1, some 1, some 1],
  [some 1, some 1, some 1, some 1, some 1, some 2, some 1, some 2, some 1, some 1, some 2, some 1, some 1, some 1, some 1, some 1],
  [some 1, some 1, some 1, some 1, some 1, some 1, some 1, some 1, some 1, some 1, some 1, some 1, some 1, some 2, some 1, some 1],
  [some 1, some 1, some 1, some 1, some 1, some 1, some 1, some 1, some 1, some 2, some 2, some 1, some 1, some 1, some 1, some 1],
  [some 1, some 1, some 1]]
def zop (a : Nat) : Nat := if 9000 ≤ a then 1 else match zlk zopT a with
  | some k => k
  | none => 0
def zop2 (a : Nat) : Nat := if a = 124 then 1 else zop a

def zop0 : Nat → Nat := fun _ => 0
set_option maxRecDepth 100000 in
theorem t_within {X : Nat × (Nat → Int32)} {d : Nat} {v a b : Int32} {f : Nat → Nat → Int32} {g : Nat → Nat → Int64} {Q : zQ}
   (h : if v < a then Q (some (.int 0)) (zs f g) else if b < v then Q (some (.int 0)) (zs f g) else Q (some (.int 1)) (zs f g)) : zWr X zop0 200 (d + 1) 124 [.int v, .int a, .int b] (zs f g) Q := h

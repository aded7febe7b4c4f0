set_option maxHeartbeats 4000000 in
set_option maxRecDepth 100000 in
/-- HearsayOrchestra$Row.get -/
theorem e68_31 {X : Nat × (Nat → Int32)} {d : Nat} {f : Nat → Nat → Int32} {g : Nat → Nat → Int64} {K : Int32 → (Nat → Nat → Int32) → (Nat → Nat → Int64) → Prop} {a1 : Int32}
  (h : if a1 < 0 then (K (-1 : Int32) f g) else (if (f 31 1) ≤ a1 then (K (-1 : Int32) f g) else (if a1 < 0 ∨ 16 ≤ a1.toNatClampNeg then False else (K (f 32 a1.toNatClampNeg) f g)))) : zCpi X (d + 1) 68 [.ref 31, .int a1] (zs f g) K := zCpi_w (d := d + 0) (by decide) rfl (Nat.le_of_ble_eq_true rfl) (zWj_of (op := zop) (F := 3000) (fun _ => false) (fun _ => []) 3000 (zP_rg (a := 68) rfl) h)
set_option maxHeartbeats 4000000 in
set_option maxRecDepth 100000 in
/-- HearsayOrchestra$Row.get -/
theorem e68_29 {X : Nat × (Nat → Int32)} {d : Nat} {f : Nat → Nat → Int32} {g : Nat → Nat → Int64} {K : Int32 → (Nat → Nat → Int32) → (Nat → Nat → Int64) → Prop} {a1 : Int32}
  (h : if a1 < 0 then (K (-1 : Int32) f g) else (if (f 29 1) ≤ a1 then (K (-1 : Int32) f g) else (if a1 < 0 ∨ 10 ≤ a1.toNatClampNeg then False else (K (f 30 a1.toNatClampNeg) f g)))) : zCpi X (d + 1) 68 [.ref 29, .int a1] (zs f g) K := zCpi_w (d := d + 0) (by decide) rfl (Nat.le_of_ble_eq_true rfl) (zWj_of (op := zop) (F := 3000) (fun _ => false) (fun _ => []) 3000 (zP_rg (a := 68) rfl) h)
set_option maxHeartbeats 4000000 in
set_option maxRecDepth 100000 in
/-- HearsayOrchestra$Row.copy -/
theorem e69_25_57 {X : Nat × (Nat → Int32)} {d : Nat} {f : Nat → Nat → Int32} {g : Nat → Nat → Int64} {K : (Nat → Nat → Int32) → (Nat → Nat → Int64) → Prop} 
  (h : zCpi X (d + 1) 288 [.int (12 : Int32), .int (12 : Int32)] (zs f g) (fun v3 f1 g2 => if ¬ (0 : Int32) < 0 ∧ ¬ (0 : Int32) < 0 ∧ ¬ v3 < 0 ∧ ((0 : Int32).toNatClampNeg) + v3.toNatClampNeg ≤ 12 ∧ ((0 : Int32).toNatClampNeg) + v3.toNatClampNeg ≤ 12 then (K (zuI (zrI f1 26 (va_cpy (f1 58) (f1 26) 0 0 v3.toNatClampNeg)) 25 1 (f1 57 1)) g2) else False)) : zCpv X (d + 2) 69 [.ref 25, .ref 57] (zs f g) K := zCpv_w (d := d + 1) (by decide) rfl (Nat.le_of_ble_eq_true rfl) (zWj_of (op := zop) (F := 3000) (fun _ => false) (fun _ => []) 3000 (zP_rg (a := 69) rfl) h)
set_option maxHeartbeats 4000000 in
set_option maxRecDepth 100000 in
/-- HearsayOrchestra$Row.copy -/
theorem e69_27_59 {X : Nat × (Nat → Int32)} {d : Nat} {f : Nat → Nat → Int32} {g : Nat → Nat → Int64} {K : (Nat → Nat → Int32) → (Nat → Nat → Int64) → Prop} 
  (h : zCpi X (d + 1) 288 [.int (12 : Int32), .int (12 : Int32)] (zs f g) (fun v3 f1 g2 => if ¬ (0 : Int32) < 0 ∧ ¬ (0 : Int32) < 0 ∧ ¬ v3 < 0 ∧ ((0 : Int32).toNatClampNeg) + v3.toNatClampNeg ≤ 12 ∧ ((0 : Int32).toNatClampNeg) + v3.toNatClampNeg ≤ 12 then (K (zuI (zrI f1 28 (va_cpy (f1 60) (f1 28) 0 0 v3.toNatClampNeg)) 27 1 (f1 59 1)) g2) else False)) : zCpv X (d + 2) 69 [.ref 27, .ref 59] (zs f g) K := zCpv_w (d := d + 1) (by decide) rfl (Nat.le_of_ble_eq_true rfl) (zWj_of (op := zop) (F := 3000) (fun _ => false) (fun _ => []) 3000 (zP_rg (a := 69) rfl) h)
set_option maxHeartbeats 4000000 in
set_option maxRecDepth 100000 in
/-- HearsayOrchestra$Row.copy -/
theorem e69_29_61 {X : Nat × (Nat → Int32)} {d : Nat} {f : Nat → Nat → Int32} {g : Nat → Nat → Int64} {K : (Nat → Nat → Int32) → (Nat → Nat → Int64) → Prop} 
  (h : zCpi X (d + 1) 288 [.int (10 : Int32), .int (10 : Int32)] (zs f g) (fun v3 f1 g2 => if ¬ (0 : Int32) < 0 ∧ ¬ (0 : Int32) < 0 ∧ ¬ v3 < 0 ∧ ((0 : Int32).toNatClampNeg) + v3.toNatClampNeg ≤ 10 ∧ ((0 : Int32).toNatClampNeg) + v3.toNatClampNeg ≤ 10 then (K (zuI (zrI f1 30 (va_cpy (f1 62) (f1 30) 0 0 v3.toNatClampNeg)) 29 1 (f1 61 1)) g2) else False)) : zCpv X (d + 2) 69 [.ref 29, .ref 61] (zs f g) K := zCpv_w (d := d + 1) (by decide) rfl (Nat.le_of_ble_eq_true rfl) (zWj_of (op := zop) (F := 3000) (fun _ => false) (fun _ => []) 3000 (zP_rg (a := 69) rfl) h)
set_option maxHeartbeats 4000000 in
set_option maxRecDepth 100000 in
/-- HearsayOrchestra$Row.copy -/
theorem e69_31_63 {X : Nat × (Nat → Int32)} {d : Nat} {f : Nat → Nat → Int32} {g : Nat → Nat → Int64} {K : (Nat → Nat → Int32) → (Nat → Nat → Int64) → Prop} 
  (h : zCpi X (d + 1) 288 [.int (16 : Int32), .int (16 : Int32)] (zs f g) (fun v3 f1 g2 => if ¬ (0 : Int32) < 0 ∧ ¬ (0 : Int32) < 0 ∧ ¬ v3 < 0 ∧ ((0 : Int32).toNatClampNeg) + v3.toNatClampNeg ≤ 16 ∧ ((0 : Int32).toNatClampNeg) + v3.toNatClampNeg ≤ 16 then (K (zuI (zrI f1 32 (va_cpy (f1 64) (f1 32) 0 0 v3.toNatClampNeg)) 31 1 (f1 63 1)) g2) else False)) : zCpv X (d + 2) 69 [.ref 31, .ref 63] (zs f g) K := zCpv_w (d := d + 1) (by decide) rfl (Nat.le_of_ble_eq_true rfl) (zWj_of (op := zop) (F := 3000) (fun _ => false) (fun _ => []) 3000 (zP_rg (a := 69) rfl) h)
set_option maxHeartbeats 4000000 in
set_option maxRecDepth 100000 in
/-- HearsayOrchestra$Row.copy -/
theorem e69_57_25 {X : Nat × (Nat → Int32)} {d : Nat} {f : Nat → Nat → Int32} {g : Nat → Nat → Int64} {K : (Nat → Nat → Int32) → (Nat → Nat → Int64) → Prop} 
  (h : zCpi X (d + 1) 288 [.int (12 : Int32), .int (12 : Int32)] (zs f g) (fun v3 f1 g2 => if ¬ (0 : Int32) < 0 ∧ ¬ (0 : Int32) < 0 ∧ ¬ v3 < 0 ∧ ((0 : Int32).toNatClampNeg) + v3.toNatClampNeg ≤ 12 ∧ ((0 : Int32).toNatClampNeg) + v3.toNatClampNeg ≤ 12 then (K (zuI (zrI f1 58 (va_cpy (f1 26) (f1 58) 0 0 v3.toNatClampNeg)) 57 1 (f1 25 1)) g2) else False)) : zCpv X (d + 2) 69 [.ref 57, .ref 25] (zs f g) K := zCpv_w (d := d + 1) (by decide) rfl (Nat.le_of_ble_eq_true rfl) (zWj_of (op := zop) (F := 3000) (fun _ => false) (fun _ => []) 3000 (zP_rg (a := 69) rfl) h)
set_option maxHeartbeats 4000000 in
set_option maxRecDepth 100000 in
/-- HearsayOrchestra$Row.copy -/
theorem e69_59_27 {X : Nat × (Nat → Int32)} {d : Nat} {f : Nat → Nat → Int32} {g : Nat → Nat → Int64} {K : (Nat → Nat → Int32) → (Nat → Nat → Int64) → Prop} 
  (h : zCpi X (d + 1) 288 [.int (12 : Int32), .int (12 : Int32)] (zs f g) (fun v3 f1 g2 => if ¬ (0 : Int32) < 0 ∧ ¬ (0 : Int32) < 0 ∧ ¬ v3 < 0 ∧ ((0 : Int32).toNatClampNeg) + v3.toNatClampNeg ≤ 12 ∧ ((0 : Int32).toNatClampNeg) + v3.toNatClampNeg ≤ 12 then (K (zuI (zrI f1 60 (va_cpy (f1 28) (f1 60) 0 0 v3.toNatClampNeg)) 59 1 (f1 27 1)) g2) else False)) : zCpv X (d + 2) 69 [.ref 59, .ref 27] (zs f g) K := zCpv_w (d := d + 1) (by decide) rfl (Nat.le_of_ble_eq_true rfl) (zWj_of (op := zop) (F := 3000) (fun _ => false) (fun _ => []) 3000 (zP_rg (a := 69) rfl) h)
set_option maxHeartbeats 4000000 in
set_option maxRecDepth 100000 in
/-- HearsayOrchestra$Row.copy -/
theorem e69_61_29 {X : Nat × (Nat → Int32)} {d : Nat} {f : Nat → Nat → Int32} {g : Nat → Nat → Int64} {K : (Nat → Nat → Int32) → (Nat → Nat → Int64) → Prop} 
  (h : zCpi X (d + 1) 288 [.int (10 : Int32), .int (10 : Int32)] (zs f g) (fun v3 f1 g2 => if ¬ (0 : Int32) < 0 ∧ ¬ (0 : Int32) < 0 ∧ ¬ v3 < 0 ∧ ((0 : Int32).toNatClampNeg) + v3.toNatClampNeg ≤ 10 ∧ ((0 : Int32).toNatClampNeg) + v3.toNatClampNeg ≤ 10 then (K (zuI (zrI f1 62 (va_cpy (f1 30) (f1 62) 0 0 v3.toNatClampNeg)) 61 1 (f1 29 1)) g2) else False)) : zCpv X (d + 2) 69 [.ref 61, .ref 29] (zs f g) K := zCpv_w (d := d + 1) (by decide) rfl (Nat.le_of_ble_eq_true rfl) (zWj_of (op := zop) (F := 3000) (fun _ => false) (fun _ => []) 3000 (zP_rg (a := 69) rfl) h)
set_option maxHeartbeats 4000000 in
set_option maxRecDepth 100000 in
/-- HearsayOrchestra$Row.copy -/
theorem e69_63_31 {X : Nat × (Nat → Int32)} {d : Nat} {f : Nat → Nat → Int32} {g : Nat → Nat → Int64} {K : (Nat → Nat → Int32) → (Nat → Nat → Int64) → Prop} 
  (h : zCpi X (d + 1) 288 [.int (16 : Int32), .int (16 : Int32)] (zs f g) (fun v3 f1 g2 => if ¬ (0 : Int32) < 0 ∧ ¬ (0 : Int32) < 0 ∧ ¬ v3 < 0 ∧ ((0 : Int32).toNatClampNeg) + v3.toNatClampNeg ≤ 16 ∧ ((0 : Int32).toNatClampNeg) + v3.toNatClampNeg ≤ 16 then (K (zuI (zrI f1 64 (va_cpy (f1 32) (f1 64) 0 0 v3.toNatClampNeg)) 63 1 (f1 31 1)) g2) else False)) : zCpv X (d + 2) 69 [.ref 63, .ref 31] (zs f g) K := zCpv_w (d := d + 1) (by decide) rfl (Nat.le_of_ble_eq_true rfl) (zWj_of (op := zop) (F := 3000) (fun _ => false) (fun _ => []) 3000 (zP_rg (a := 69) rfl) h)
set_option maxHeartbeats 4000000 in
set_option maxRecDepth 100000 in
/-- HearsayOrchestra$Sheet.get -/
theorem e71_22 {X : Nat × (Nat → Int32)} {d : Nat} {f : Nat → Nat → Int32} {g : Nat → Nat → Int64} {K : Int32 → (Nat → Nat → Int32) → (Nat → Nat → Int64) → Prop} {a1 : Int32} {a2 : Int32}
  (h : if ((zmO.1 a1 (5 : Int32)) + a2) < 0 then (K (-1 : Int32) f g) else (if (80 : Int32) ≤ ((zmO.1 a1 (5 : Int32)) + a2) then (K (-1 : Int32) f g) else (if ((zmO.1 a1 (5 : Int32)) + a2) < 0 ∨ 80 ≤ ((zmO.1 a1 (5 : Int32)) + a2).toNatClampNeg then False else (K (f 23 (((zmO.1 a1 (5 : Int32)) + a2).toNatClampNeg)) f g)))) : zCpi X (d + 1) 71 [.ref 22, .int a1, .int a2] (zs f g) K := zCpi_w (d := d + 0) (by decide) rfl (Nat.le_of_ble_eq_true rfl) (zWj_of (op := zop) (F := 3000) (fun _ => false) (fun _ => []) 3000 (zP_rg (a := 71) rfl) h)
set_option maxHeartbeats 4000000 in
set_option maxRecDepth 100000 in
/-- HearsayOrchestra$Sheet.get -/
theorem e71_20 {X : Nat × (Nat → Int32)} {d : Nat} {f : Nat → Nat → Int32} {g : Nat → Nat → Int64} {K : Int32 → (Nat → Nat → Int32) → (Nat → Nat → Int64) → Prop} {a1 : Int32} {a2 : Int32}
  (h : if ((zmO.1 a1 (5 : Int32)) + a2) < 0 then (K (-1 : Int32) f g) else (if (80 : Int32) ≤ ((zmO.1 a1 (5 : Int32)) + a2) then (K (-1 : Int32) f g) else (if ((zmO.1 a1 (5 : Int32)) + a2) < 0 ∨ 80 ≤ ((zmO.1 a1 (5 : Int32)) + a2).toNatClampNeg then False else (K (f 21 (((zmO.1 a1 (5 : Int32)) + a2).toNatClampNeg)) f g)))) : zCpi X (d + 1) 71 [.ref 20, .int a1, .int a2] (zs f g) K := zCpi_w (d := d + 0) (by decide) rfl (Nat.le_of_ble_eq_true rfl) (zWj_of (op := zop) (F := 3000) (fun _ => false) (fun _ => []) 3000 (zP_rg (a := 71) rfl) h)
set_option maxHeartbeats 4000000 in
set_option maxRecDepth 100000 in
/-- HearsayOrchestra$Sheet.lastNoteFor, at 7 -/
theorem s72_7_20 {X : Nat × (Nat → Int32)} {d : Nat} {f : Nat → Nat → Int32} {g : Nat → Nat → Int64} {K : Int32 → (Nat → Nat → Int32) → (Nat → Nat → Int64) → Prop} {x1 : Int32} {x2 : Int32} {x3 : Int32}
  (h : if x3 < 0 then (K (-1 : Int32) f g) else (zCpi X (d + 1) 71 [.ref 20, .int x3, .int (0 : Int32)] (zs f g) (fun v3 f1 g2 => if v3 = x2 then (zCpi X (d + 1) 71 [.ref 20, .int x3, .int (2 : Int32)] (zs f1 g2) (fun v6 f4 g5 => if v6 = x1 then (zCpi X (d + 1) 71 [.ref 20, .int x3, .int (3 : Int32)] (zs f4 g5) (fun v9 f7 g8 => K v9 f7 g8)) else (zWp X (d + 1) zm72 7 [.ref 20, .int x1, .int x2, .int (x3 + (-1 : Int32))] [] (zs f4 g5) (zQi K)))) else (zWp X (d + 1) zm72 7 [.ref 20, .int x1, .int x2, .int (x3 + (-1 : Int32))] [] (zs f1 g2) (zQi K))))) : zWp X (d + 1) zm72 7 [.ref 20, .int x1, .int x2, .int x3] [] (zs f g) (zQi K) := zWj_of (op := zop) (F := 3000) (fun pc => pc == 7) (fun _ => []) 3000 (zP_rg (a := 72) rfl) h
set_option maxHeartbeats 4000000 in
set_option maxRecDepth 100000 in
/-- HearsayOrchestra$Sheet.lastNoteFor -/
theorem e72_20 {X : Nat × (Nat → Int32)} {d : Nat} {f : Nat → Nat → Int32} {g : Nat → Nat → Int64} {K : Int32 → (Nat → Nat → Int32) → (Nat → Nat → Int64) → Prop} {a1 : Int32} {a2 : Int32}
  (h : zWp X (d + 1) zm72 7 [.ref 20, .int a1, .int a2, .int (zsO.1 (f 20 1) (1 : Int32))] [] (zs f g) (zQi K)) : zCpi X (d + 2) 72 [.ref 20, .int a1, .int a2] (zs f g) K := zCpi_w (d := d + 1) (by decide) rfl (Nat.le_of_ble_eq_true rfl) (zWj_of (op := zop) (F := 3000) (fun pc => pc == 7) (fun _ => []) 3000 (zP_rg (a := 72) rfl) h)
set_option maxHeartbeats 4000000 in
set_option maxRecDepth 100000 in
/-- HearsayOrchestra$Sheet.clear -/
theorem e73_79 {X : Nat × (Nat → Int32)} {d : Nat} {f : Nat → Nat → Int32} {g : Nat → Nat → Int64} {K : (Nat → Nat → Int32) → (Nat → Nat → Int64) → Prop} 
  (h : K (zuI f 79 1 (0 : Int32)) g) : zCpv X (d + 1) 73 [.ref 79] (zs f g) K := zCpv_w (d := d + 0) (by decide) rfl (Nat.le_of_ble_eq_true rfl) (zWj_of (op := zop) (F := 3000) (fun _ => false) (fun _ => []) 3000 (zP_rg (a := 73) rfl) h)
set_option maxHeartbeats 4000000 in
set_option maxRecDepth 100000 in
/-- HearsayOrchestra$Sheet.add -/
theorem e74_79_71 {X : Nat × (Nat → Int32)} {d : Nat} {f : Nat → Nat → Int32} {g : Nat → Nat → Int64} {K : Int32 → (Nat → Nat → Int32) → (Nat → Nat → Int64) → Prop} 
  (h : if (16 : Int32) ≤ (f 79 1) then (if (1 : Int32) = 0 ∨ (1 : Int32) = 1 then (K (1 : Int32) f g) else False) else (if ¬ (0 : Int32) < 0 ∧ ¬ (zmO.1 (f 79 1) (5 : Int32)) < 0 ∧ ¬ (5 : Int32) < 0 ∧ ((0 : Int32).toNatClampNeg) + ((5 : Int32).toNatClampNeg) ≤ 5 ∧ ((zmO.1 (f 79 1) (5 : Int32)).toNatClampNeg) + ((5 : Int32).toNatClampNeg) ≤ 80 then (if (1 : Int32) = 0 ∨ (1 : Int32) = 1 then (K (1 : Int32) (zuI (zrI f 80 (va_cpy (f 71) (f 80) 0 ((zmO.1 (f 79 1) (5 : Int32)).toNatClampNeg) 5)) 79 1 ((f 79 1) + (1 : Int32))) g) else False) else False)) : zCpi X (d + 1) 74 [.ref 79, .ref 71] (zs f g) K := zCpi_w (d := d + 0) (by decide) rfl (Nat.le_of_ble_eq_true rfl) (zWj_of (op := zop) (F := 3000) (fun _ => false) (fun _ => []) 3000 (zP_rg (a := 74) rfl) h)
set_option maxHeartbeats 4000000 in
set_option maxRecDepth 100000 in
/-- HearsayOrchestra$Sheet.copy -/
theorem e75_20_79 {X : Nat × (Nat → Int32)} {d : Nat} {f : Nat → Nat → Int32} {g : Nat → Nat → Int64} {K : (Nat → Nat → Int32) → (Nat → Nat → Int64) → Prop} 
  (h : if ¬ (0 : Int32) < 0 ∧ ¬ (0 : Int32) < 0 ∧ ¬ (80 : Int32) < 0 ∧ ((0 : Int32).toNatClampNeg) + ((80 : Int32).toNatClampNeg) ≤ 80 ∧ ((0 : Int32).toNatClampNeg) + ((80 : Int32).toNatClampNeg) ≤ 80 then (K (zuI (zrI f 21 (va_cpy (f 80) (f 21) 0 0 80)) 20 1 (f 79 1)) g) else False) : zCpv X (d + 1) 75 [.ref 20, .ref 79] (zs f g) K := zCpv_w (d := d + 0) (by decide) rfl (Nat.le_of_ble_eq_true rfl) (zWj_of (op := zop) (F := 3000) (fun _ => false) (fun _ => []) 3000 (zP_rg (a := 75) rfl) h)
set_option maxHeartbeats 4000000 in
set_option maxRecDepth 100000 in
/-- HearsayOrchestra$Sheet.copy -/
theorem e75_22_79 {X : Nat × (Nat → Int32)} {d : Nat} {f : Nat → Nat → Int32} {g : Nat → Nat → Int64} {K : (Nat → Nat → Int32) → (Nat → Nat → Int64) → Prop} 
  (h : if ¬ (0 : Int32) < 0 ∧ ¬ (0 : Int32) < 0 ∧ ¬ (80 : Int32) < 0 ∧ ((0 : Int32).toNatClampNeg) + ((80 : Int32).toNatClampNeg) ≤ 80 ∧ ((0 : Int32).toNatClampNeg) + ((80 : Int32).toNatClampNeg) ≤ 80 then (K (zuI (zrI f 23 (va_cpy (f 80) (f 23) 0 0 80)) 22 1 (f 79 1)) g) else False) : zCpv X (d + 1) 75 [.ref 22, .ref 79] (zs f g) K := zCpv_w (d := d + 0) (by decide) rfl (Nat.le_of_ble_eq_true rfl) (zWj_of (op := zop) (F := 3000) (fun _ => false) (fun _ => []) 3000 (zP_rg (a := 75) rfl) h)
set_option maxHeartbeats 4000000 in
set_option maxRecDepth 100000 in
/-- HearsayOrchestra$Sheet.copy -/
theorem e75_20_52 {X : Nat × (Nat → Int32)} {d : Nat} {f : Nat → Nat → Int32} {g : Nat → Nat → Int64} {K : (Nat → Nat → Int32) → (Nat → Nat → Int64) → Prop} 
  (h : if ¬ (0 : Int32) < 0 ∧ ¬ (0 : Int32) < 0 ∧ ¬ (80 : Int32) < 0 ∧ ((0 : Int32).toNatClampNeg) + ((80 : Int32).toNatClampNeg) ≤ 80 ∧ ((0 : Int32).toNatClampNeg) + ((80 : Int32).toNatClampNeg) ≤ 80 then (K (zuI (zrI f 21 (va_cpy (f 53) (f 21) 0 0 80)) 20 1 (f 52 1)) g) else False) : zCpv X (d + 1) 75 [.ref 20, .ref 52] (zs f g) K := zCpv_w (d := d + 0) (by decide) rfl (Nat.le_of_ble_eq_true rfl) (zWj_of (op := zop) (F := 3000) (fun _ => false) (fun _ => []) 3000 (zP_rg (a := 75) rfl) h)
set_option maxHeartbeats 4000000 in
set_option maxRecDepth 100000 in
/-- HearsayOrchestra$Sheet.copy -/
theorem e75_22_54 {X : Nat × (Nat → Int32)} {d : Nat} {f : Nat → Nat → Int32} {g : Nat → Nat → Int64} {K : (Nat → Nat → Int32) → (Nat → Nat → Int64) → Prop} 
  (h : if ¬ (0 : Int32) < 0 ∧ ¬ (0 : Int32) < 0 ∧ ¬ (80 : Int32) < 0 ∧ ((0 : Int32).toNatClampNeg) + ((80 : Int32).toNatClampNeg) ≤ 80 ∧ ((0 : Int32).toNatClampNeg) + ((80 : Int32).toNatClampNeg) ≤ 80 then (K (zuI (zrI f 23 (va_cpy (f 55) (f 23) 0 0 80)) 22 1 (f 54 1)) g) else False) : zCpv X (d + 1) 75 [.ref 22, .ref 54] (zs f g) K := zCpv_w (d := d + 0) (by decide) rfl (Nat.le_of_ble_eq_true rfl) (zWj_of (op := zop) (F := 3000) (fun _ => false) (fun _ => []) 3000 (zP_rg (a := 75) rfl) h)
set_option maxHeartbeats 4000000 in
set_option maxRecDepth 100000 in
/-- HearsayOrchestra$Sheet.copy -/
theorem e75_52_20 {X : Nat × (Nat → Int32)} {d : Nat} {f : Nat → Nat → Int32} {g : Nat → Nat → Int64} {K : (Nat → Nat → Int32) → (Nat → Nat → Int64) → Prop} 
  (h : if ¬ (0 : Int32) < 0 ∧ ¬ (0 : Int32) < 0 ∧ ¬ (80 : Int32) < 0 ∧ ((0 : Int32).toNatClampNeg) + ((80 : Int32).toNatClampNeg) ≤ 80 ∧ ((0 : Int32).toNatClampNeg) + ((80 : Int32).toNatClampNeg) ≤ 80 then (K (zuI (zrI f 53 (va_cpy (f 21) (f 53) 0 0 80)) 52 1 (f 20 1)) g) else False) : zCpv X (d + 1) 75 [.ref 52, .ref 20] (zs f g) K := zCpv_w (d := d + 0) (by decide) rfl (Nat.le_of_ble_eq_true rfl) (zWj_of (op := zop) (F := 3000) (fun _ => false) (fun _ => []) 3000 (zP_rg (a := 75) rfl) h)
set_option maxHeartbeats 4000000 in
set_option maxRecDepth 100000 in
/-- HearsayOrchestra$Sheet.copy -/
theorem e75_54_22 {X : Nat × (Nat → Int32)} {d : Nat} {f : Nat → Nat → Int32} {g : Nat → Nat → Int64} {K : (Nat → Nat → Int32) → (Nat → Nat → Int64) → Prop} 
  (h : if ¬ (0 : Int32) < 0 ∧ ¬ (0 : Int32) < 0 ∧ ¬ (80 : Int32) < 0 ∧ ((0 : Int32).toNatClampNeg) + ((80 : Int32).toNatClampNeg) ≤ 80 ∧ ((0 : Int32).toNatClampNeg) + ((80 : Int32).toNatClampNeg) ≤ 80 then (K (zuI (zrI f 55 (va_cpy (f 23) (f 55) 0 0 80)) 54 1 (f 22 1)) g) else False) : zCpv X (d + 1) 75 [.ref 54, .ref 22] (zs f g) K := zCpv_w (d := d + 0) (by decide) rfl (Nat.le_of_ble_eq_true rfl) (zWj_of (op := zop) (F := 3000) (fun _ => false) (fun _ => []) 3000 (zP_rg (a := 75) rfl) h)
set_option maxHeartbeats 4000000 in
set_option maxRecDepth 100000 in
/-- HearsayOrchestra$Tape.append, at 3 -/
theorem s77_3_65 {X : Nat × (Nat → Int32)} {d : Nat} {f : Nat → Nat → Int32} {g : Nat → Nat → Int64} {K : (Nat → Nat → Int32) → (Nat → Nat → Int64) → Prop} {x1 : Int32} {x2 : Int32}
  (h : if x2 < 0 then (K f g) else (if (400 : Int32) ≤ (f 65 5) then (zWp X (d + 0) zm77 3 [.ref 65, .int x1, .int (x2 + (zlit (-8)))] [] (zs f g) (zQv K)) else (if (f 65 5) < 0 ∨ 400 ≤ (f 65 5).toNatClampNeg then False else (zWp X (d + 0) zm77 3 [.ref 65, .int x1, .int (x2 + (zlit (-8)))] [] (zs (zuI (zuI f 66 ((f 65 5).toNatClampNeg) ((zuO.1 x1 x2) &&& (255 : Int32))) 65 5 ((f 65 5) + (1 : Int32))) g) (zQv K))))) : zWp X (d + 0) zm77 3 [.ref 65, .int x1, .int x2] [] (zs f g) (zQv K) := zWj_of (op := zop) (F := 3000) (fun pc => pc == 3) (fun _ => []) 3000 (zP_rg (a := 77) rfl) h
set_option maxHeartbeats 4000000 in
set_option maxRecDepth 100000 in
/-- HearsayOrchestra$Tape.append -/
theorem e77_65 {X : Nat × (Nat → Int32)} {d : Nat} {f : Nat → Nat → Int32} {g : Nat → Nat → Int64} {K : (Nat → Nat → Int32) → (Nat → Nat → Int64) → Prop} {a1 : Int32}
  (h : zWp X (d + 0) zm77 3 [.ref 65, .int a1, .int (24 : Int32)] [] (zs f g) (zQv K)) : zCpv X (d + 1) 77 [.ref 65, .int a1] (zs f g) K := zCpv_w (d := d + 0) (by decide) rfl (Nat.le_of_ble_eq_true rfl) (zWj_of (op := zop) (F := 3000) (fun pc => pc == 3) (fun _ => []) 3000 (zP_rg (a := 77) rfl) h)
set_option maxHeartbeats 4000000 in
set_option maxRecDepth 100000 in
/-- HearsayOrchestra$Tape.scan, at 9 -/
theorem s78_9_65 {X : Nat × (Nat → Int32)} {d : Nat} {f : Nat → Nat → Int32} {g : Nat → Nat → Int64} {K : (Nat → Nat → Int32) → (Nat → Nat → Int64) → Prop} {x1 : Int32} {x2 : Int32}
  (h : if (400 : Int32) ≤ x2 then (K f g) else (if (f 65 5) ≤ x1 then (K f g) else (zCpi X (d + 1) 79 [.ref 65, .int x1] (zs f g) (fun v3 f1 g2 => if x1 < 0 ∨ 400 ≤ x1.toNatClampNeg then False else (if (f1 66 x1.toNatClampNeg) = (32 : Int32) then (zWp X (d + 1) zm78 9 [.ref 65, .int v3, .int (x2 + (1 : Int32)), .null] [] (zs f1 g2) (zQv K)) else (if x1 < 0 ∨ 400 ≤ x1.toNatClampNeg then False else (if (f1 66 x1.toNatClampNeg) = (10 : Int32) then (zWp X (d + 1) zm78 9 [.ref 65, .int v3, .int (x2 + (1 : Int32)), .null] [] (zs f1 g2) (zQv K)) else (if (f1 65 4) < 0 ∨ 401 ≤ (f1 65 4).toNatClampNeg then False else (if (f1 65 4) < 0 ∨ 401 ≤ (f1 65 4).toNatClampNeg then False else (zCpi X (d + 1) 82 [.ref 65, .int x1, .int v3] (zs (zuI (zuI f1 68 ((f1 65 4).toNatClampNeg) x1) 69 ((f1 65 4).toNatClampNeg) (0 : Int32)) g2) (fun v6 f4 g5 => if (f1 65 4) < 0 ∨ 401 ≤ (f1 65 4).toNatClampNeg then False else (zWp X (d + 1) zm78 9 [.ref 65, .int v3, .int (x2 + (1 : Int32)), .null] [] (zs (zuI (zuI f4 67 ((f1 65 4).toNatClampNeg) v6) 65 4 ((f4 65 4) + (1 : Int32))) g5) (zQv K))))))))))))) : zWp X (d + 1) zm78 9 [.ref 65, .int x1, .int x2, .null] [] (zs f g) (zQv K) := zWj_of (op := zop) (F := 3000) (fun pc => pc == 9) (fun pc => if pc = 9 then [3] else []) 3000 (zP_rg (a := 78) rfl) h
set_option maxHeartbeats 4000000 in
set_option maxRecDepth 100000 in
/-- HearsayOrchestra$Tape.scan -/
theorem e78_65 {X : Nat × (Nat → Int32)} {d : Nat} {f : Nat → Nat → Int32} {g : Nat → Nat → Int64} {K : (Nat → Nat → Int32) → (Nat → Nat → Int64) → Prop} 
  (h : zWp X (d + 1) zm78 9 [.ref 65, .int (0 : Int32), .int (0 : Int32), .null] [] (zs (zuI f 65 4 (0 : Int32)) g) (zQv K)) : zCpv X (d + 2) 78 [.ref 65] (zs f g) K := zCpv_w (d := d + 1) (by decide) rfl (Nat.le_of_ble_eq_true rfl) (zWj_of (op := zop) (F := 3000) (fun pc => pc == 9) (fun pc => if pc = 9 then [3] else []) 3000 (zP_rg (a := 78) rfl) h)
set_option maxHeartbeats 4000000 in
set_option maxRecDepth 100000 in
/-- HearsayOrchestra$Tape.behindToken, at 16 -/
theorem s79_16_65 {X : Nat × (Nat → Int32)} {d : Nat} {f : Nat → Nat → Int32} {g : Nat → Nat → Int64} {K : Int32 → (Nat → Nat → Int32) → (Nat → Nat → Int64) → Prop} {x1 : Int32} {x2 : Int32}
  (h : if (f 65 5) ≤ x2 then (K x2 f g) else (if x2 < 0 ∨ 400 ≤ x2.toNatClampNeg then False else (zCpi X (d + 1) 80 [.int (f 66 x2.toNatClampNeg)] (zs f g) (fun v3 f1 g2 => if v3 = 0 then (K x2 f1 g2) else (zWp X (d + 1) zm79 16 [.ref 65, .int x1, .int (x2 + (1 : Int32))] [] (zs f1 g2) (zQi K)))))) : zWp X (d + 1) zm79 16 [.ref 65, .int x1, .int x2] [] (zs f g) (zQi K) := zWj_of (op := zop) (F := 3000) (fun pc => pc == 16 || pc == 54) (fun _ => []) 3000 (zP_rg (a := 79) rfl) h
set_option maxHeartbeats 4000000 in
set_option maxRecDepth 100000 in
/-- HearsayOrchestra$Tape.behindToken, at 54 -/
theorem s79_54_65 {X : Nat × (Nat → Int32)} {d : Nat} {f : Nat → Nat → Int32} {g : Nat → Nat → Int64} {K : Int32 → (Nat → Nat → Int32) → (Nat → Nat → Int64) → Prop} {x1 : Int32} {x2 : Int32}
  (h : if (f 65 5) ≤ x2 then (K x2 f g) else (if x2 < 0 ∨ 400 ≤ x2.toNatClampNeg then False else (zCpi X (d + 1) 81 [.int (f 66 x2.toNatClampNeg)] (zs f g) (fun v3 f1 g2 => if v3 = 0 then (K x2 f1 g2) else (zWp X (d + 1) zm79 54 [.ref 65, .int x1, .int (x2 + (1 : Int32))] [] (zs f1 g2) (zQi K)))))) : zWp X (d + 1) zm79 54 [.ref 65, .int x1, .int x2] [] (zs f g) (zQi K) := zWj_of (op := zop) (F := 3000) (fun pc => pc == 16 || pc == 54) (fun _ => []) 3000 (zP_rg (a := 79) rfl) h
set_option maxHeartbeats 4000000 in
set_option maxRecDepth 100000 in
/-- HearsayOrchestra$Tape.behindToken -/
theorem e79_65 {X : Nat × (Nat → Int32)} {d : Nat} {f : Nat → Nat → Int32} {g : Nat → Nat → Int64} {K : Int32 → (Nat → Nat → Int32) → (Nat → Nat → Int64) → Prop} {a1 : Int32}
  (h : if a1 < 0 ∨ 400 ≤ a1.toNatClampNeg then False else (zCpi X (d + 1) 80 [.int (f 66 a1.toNatClampNeg)] (zs f g) (fun v3 f1 g2 => if v3 = 0 then (if a1 < 0 ∨ 400 ≤ a1.toNatClampNeg then False else (zCpi X (d + 1) 81 [.int (f1 66 a1.toNatClampNeg)] (zs f1 g2) (fun v6 f4 g5 => if v6 = 0 then (K (a1 + (1 : Int32)) f4 g5) else (zWp X (d + 1) zm79 54 [.ref 65, .int a1, .int (a1 + (1 : Int32))] [] (zs f4 g5) (zQi K))))) else (zWp X (d + 1) zm79 16 [.ref 65, .int a1, .int (a1 + (1 : Int32))] [] (zs f1 g2) (zQi K))))) : zCpi X (d + 2) 79 [.ref 65, .int a1] (zs f g) K := zCpi_w (d := d + 1) (by decide) rfl (Nat.le_of_ble_eq_true rfl) (zWj_of (op := zop) (F := 3000) (fun pc => pc == 16 || pc == 54) (fun _ => []) 3000 (zP_rg (a := 79) rfl) h)
set_option maxHeartbeats 4000000 in
set_option maxRecDepth 100000 in
/-- HearsayOrchestra$Tape.isLetter -/
theorem e80 {X : Nat × (Nat → Int32)} {d : Nat} {f : Nat → Nat → Int32} {g : Nat → Nat → Int64} {K : Int32 → (Nat → Nat → Int32) → (Nat → Nat → Int64) → Prop} {a0 : Int32}
  (h : zCpi X (d + 1) 124 [.int a0, .int (97 : Int32), .int (122 : Int32)] (zs f g) (fun v3 f1 g2 => if v3 = 0 then (zCpi X (d + 1) 124 [.int a0, .int (65 : Int32), .int (90 : Int32)] (zs f1 g2) (fun v6 f4 g5 => if v6 = 0 then (if (0 : Int32) = 0 ∨ (0 : Int32) = 1 then (K (0 : Int32) f4 g5) else False) else (if (1 : Int32) = 0 ∨ (1 : Int32) = 1 then (K (1 : Int32) f4 g5) else False))) else (if (1 : Int32) = 0 ∨ (1 : Int32) = 1 then (K (1 : Int32) f1 g2) else False))) : zCpi X (d + 2) 80 [.int a0] (zs f g) K := zCpi_w (d := d + 1) (by decide) rfl (Nat.le_of_ble_eq_true rfl) (zWj_of (op := zop) (F := 3000) (fun _ => false) (fun _ => []) 3000 (zP_rg (a := 80) rfl) h)
set_option maxHeartbeats 4000000 in
set_option maxRecDepth 100000 in
/-- HearsayOrchestra$Tape.isDigit -/
theorem e81 {X : Nat × (Nat → Int32)} {d : Nat} {f : Nat → Nat → Int32} {g : Nat → Nat → Int64} {K : Int32 → (Nat → Nat → Int32) → (Nat → Nat → Int64) → Prop} {a0 : Int32}
  (h : zCpi X (d + 1) 124 [.int a0, .int (48 : Int32), .int (57 : Int32)] (zs f g) (fun v3 f1 g2 => if v3 = 0 ∨ v3 = 1 then (K v3 f1 g2) else False)) : zCpi X (d + 2) 81 [.int a0] (zs f g) K := zCpi_w (d := d + 1) (by decide) rfl (Nat.le_of_ble_eq_true rfl) (zWj_of (op := zop) (F := 3000) (fun _ => false) (fun _ => []) 3000 (zP_rg (a := 81) rfl) h)
set_option maxHeartbeats 4000000 in
set_option maxRecDepth 100000 in
/-- HearsayOrchestra$Tape.kindOf -/
theorem e82_65 {X : Nat × (Nat → Int32)} {d : Nat} {f : Nat → Nat → Int32} {g : Nat → Nat → Int64} {K : Int32 → (Nat → Nat → Int32) → (Nat → Nat → Int64) → Prop} {a1 : Int32} {a2 : Int32}
  (h : if a1 < 0 ∨ 400 ≤ a1.toNatClampNeg then False else (zCpi X (d + 1) 80 [.int (f 66 a1.toNatClampNeg)] (zs f g) (fun v3 f1 g2 => if v3 = 0 then (zCpi X (d + 1) 81 [.int (f 66 a1.toNatClampNeg)] (zs f1 g2) (fun v6 f4 g5 => if v6 = 0 then (zCpi X (d + 1) 9003 [.ref 5000, .int (((f 66 a1.toNatClampNeg).toUInt32 % 65536).toInt32)] (zs f4 g5) (fun v9 f7 g8 => if v9 < 0 then (K (1 : Int32) f7 g8) else (K (f 66 a1.toNatClampNeg) f7 g8))) else (zCpi X (d + 1) 84 [.ref 65, .int a1, .int a2] (zs f4 g5) (fun v12 f10 g11 => K v12 f10 g11)))) else (zCpi X (d + 1) 83 [.ref 65, .int a1, .int a2] (zs f1 g2) (fun v15 f13 g14 => K v15 f13 g14))))) : zCpi X (d + 2) 82 [.ref 65, .int a1, .int a2] (zs f g) K := zCpi_w (d := d + 1) (by decide) rfl (Nat.le_of_ble_eq_true rfl) (zWj_of (op := zop) (F := 3000) (fun _ => false) (fun _ => []) 3000 (zP_rg (a := 82) rfl) h)
set_option maxHeartbeats 4000000 in
set_option maxRecDepth 100000 in
/-- HearsayOrchestra$Tape.wordKind, at 13 -/
theorem s83_13_65 {X : Nat × (Nat → Int32)} {d : Nat} {f : Nat → Nat → Int32} {g : Nat → Nat → Int64} {K : Int32 → (Nat → Nat → Int32) → (Nat → Nat → Int64) → Prop} {x1 : Int32} {x2 : Int32} {x3 : Int32} {x4 : Int32} {x5 : Int32} {x6 : Int32}
  (h : zCpi X (d + 1) 9001 [.ref 5001] (zs f g) (fun v3 f1 g2 => if v3 ≤ x6 then (K (1 : Int32) f1 g2) else (zCpi X (d + 1) 9002 [.ref 5001, .int x6] (zs f1 g2) (fun v6 f4 g5 => if v6 = (32 : Int32) then (if x5 = 0 then (zWp X (d + 1) zm83 13 [.ref 65, .int x1, .int x2, .int (x3 + (1 : Int32)), .int (0 : Int32), .int (1 : Int32), .int (x6 + (1 : Int32)), .null] [] (zs f4 g5) (zQi K)) else (if x4 = (zsO.1 x2 x1) then (K x3 f4 g5) else (zWp X (d + 1) zm83 13 [.ref 65, .int x1, .int x2, .int (x3 + (1 : Int32)), .int (0 : Int32), .int (1 : Int32), .int (x6 + (1 : Int32)), .null] [] (zs f4 g5) (zQi K)))) else (if x5 = 0 then (zWp X (d + 1) zm83 13 [.ref 65, .int x1, .int x2, .int x3, .int (x4 + (1 : Int32)), .int (0 : Int32), .int (x6 + (1 : Int32)), .null] [] (zs f4 g5) (zQi K)) else (if x2 ≤ (x1 + x4) then (zWp X (d + 1) zm83 13 [.ref 65, .int x1, .int x2, .int x3, .int (x4 + (1 : Int32)), .int (0 : Int32), .int (x6 + (1 : Int32)), .null] [] (zs f4 g5) (zQi K)) else (if (x1 + x4) < 0 ∨ 400 ≤ (x1 + x4).toNatClampNeg then False else (if (f4 66 ((x1 + x4).toNatClampNeg)) = v6 then (zWp X (d + 1) zm83 13 [.ref 65, .int x1, .int x2, .int x3, .int (x4 + (1 : Int32)), .int (1 : Int32), .int (x6 + (1 : Int32)), .null] [] (zs f4 g5) (zQi K)) else (zWp X (d + 1) zm83 13 [.ref 65, .int x1, .int x2, .int x3, .int (x4 + (1 : Int32)), .int (0 : Int32), .int (x6 + (1 : Int32)), .null] [] (zs f4 g5) (zQi K)))))))))) : zWp X (d + 1) zm83 13 [.ref 65, .int x1, .int x2, .int x3, .int x4, .int x5, .int x6, .null] [] (zs f g) (zQi K) := zWj_of (op := zop) (F := 3000) (fun pc => pc == 13) (fun pc => if pc = 13 then [7] else []) 3000 (zP_rg (a := 83) rfl) h
set_option maxHeartbeats 4000000 in
set_option maxRecDepth 100000 in
/-- HearsayOrchestra$Tape.wordKind -/
theorem e83_65 {X : Nat × (Nat → Int32)} {d : Nat} {f : Nat → Nat → Int32} {g : Nat → Nat → Int64} {K : Int32 → (Nat → Nat → Int32) → (Nat → Nat → Int64) → Prop} {a1 : Int32} {a2 : Int32}
  (h : zWp X (d + 1) zm83 13 [.ref 65, .int a1, .int a2, .int (128 : Int32), .int (0 : Int32), .int (1 : Int32), .int (0 : Int32), .null] [] (zs f g) (zQi K)) : zCpi X (d + 2) 83 [.ref 65, .int a1, .int a2] (zs f g) K := zCpi_w (d := d + 1) (by decide) rfl (Nat.le_of_ble_eq_true rfl) (zWj_of (op := zop) (F := 3000) (fun pc => pc == 13) (fun pc => if pc = 13 then [7] else []) 3000 (zP_rg (a := 83) rfl) h)
set_option maxHeartbeats 4000000 in
set_option maxRecDepth 100000 in
/-- HearsayOrchestra$Tape.numberKind, at 14 -/
theorem s84_14_65 {X : Nat × (Nat → Int32)} {d : Nat} {f : Nat → Nat → Int32} {g : Nat → Nat → Int64} {K : Int32 → (Nat → Nat → Int32) → (Nat → Nat → Int64) → Prop} {x1 : Int32} {x2 : Int32} {x3 : Int32} {x4 : Int32}
  (h : if x2 ≤ x4 then (if (f 65 4) < 0 ∨ 401 ≤ (f 65 4).toNatClampNeg then False else (K (2 : Int32) (zuI f 69 ((f 65 4).toNatClampNeg) x3) g)) else (if x4 < 0 ∨ 400 ≤ x4.toNatClampNeg then False else (zWp X (d + 0) zm84 14 [.ref 65, .int x1, .int x2, .int (zsO.1 ((zmO.1 (10 : Int32) x3) + (f 66 x4.toNatClampNeg)) (48 : Int32)), .int (x4 + (1 : Int32))] [] (zs f g) (zQi K)))) : zWp X (d + 0) zm84 14 [.ref 65, .int x1, .int x2, .int x3, .int x4] [] (zs f g) (zQi K) := zWj_of (op := zop) (F := 3000) (fun pc => pc == 14) (fun _ => []) 3000 (zP_rg (a := 84) rfl) h
set_option maxHeartbeats 4000000 in
set_option maxRecDepth 100000 in
/-- HearsayOrchestra$Tape.numberKind -/
theorem e84_65 {X : Nat × (Nat → Int32)} {d : Nat} {f : Nat → Nat → Int32} {g : Nat → Nat → Int64} {K : Int32 → (Nat → Nat → Int32) → (Nat → Nat → Int64) → Prop} {a1 : Int32} {a2 : Int32}
  (h : if (zsO.1 a2 a1) ≤ (4 : Int32) then (zWp X (d + 0) zm84 14 [.ref 65, .int a1, .int a2, .int (0 : Int32), .int a1] [] (zs f g) (zQi K)) else (K (1 : Int32) f g)) : zCpi X (d + 1) 84 [.ref 65, .int a1, .int a2] (zs f g) K := zCpi_w (d := d + 0) (by decide) rfl (Nat.le_of_ble_eq_true rfl) (zWj_of (op := zop) (F := 3000) (fun pc => pc == 14) (fun _ => []) 3000 (zP_rg (a := 84) rfl) h)
set_option maxHeartbeats 4000000 in
set_option maxRecDepth 100000 in
/-- HearsayOrchestra$Tape.kind -/
theorem e85_65 {X : Nat × (Nat → Int32)} {d : Nat} {f : Nat → Nat → Int32} {g : Nat → Nat → Int64} {K : Int32 → (Nat → Nat → Int32) → (Nat → Nat → Int64) → Prop} {a1 : Int32}
  (h : if a1 < 0 then (K (0 : Int32) f g) else (if (f 65 4) ≤ a1 then (K (0 : Int32) f g) else (if a1 < 0 ∨ 401 ≤ a1.toNatClampNeg then False else (K (f 67 a1.toNatClampNeg) f g)))) : zCpi X (d + 1) 85 [.ref 65, .int a1] (zs f g) K := zCpi_w (d := d + 0) (by decide) rfl (Nat.le_of_ble_eq_true rfl) (zWj_of (op := zop) (F := 3000) (fun _ => false) (fun _ => []) 3000 (zP_rg (a := 85) rfl) h)
set_option maxHeartbeats 4000000 in
set_option maxRecDepth 100000 in
/-- HearsayOrchestra$Tape.value -/
theorem e86_65 {X : Nat × (Nat → Int32)} {d : Nat} {f : Nat → Nat → Int32} {g : Nat → Nat → Int64} {K : Int32 → (Nat → Nat → Int32) → (Nat → Nat → Int64) → Prop} {a1 : Int32}
  (h : if a1 < 0 then (K (-1 : Int32) f g) else (if (f 65 4) ≤ a1 then (K (-1 : Int32) f g) else (if a1 < 0 ∨ 401 ≤ a1.toNatClampNeg then False else (K (f 69 a1.toNatClampNeg) f g)))) : zCpi X (d + 1) 86 [.ref 65, .int a1] (zs f g) K := zCpi_w (d := d + 0) (by decide) rfl (Nat.le_of_ble_eq_true rfl) (zWj_of (op := zop) (F := 3000) (fun _ => false) (fun _ => []) 3000 (zP_rg (a := 86) rfl) h)
set_option maxHeartbeats 4000000 in
set_option maxRecDepth 100000 in
/-- HearsayOrchestra$Thought.spread, at 3 -/
theorem s88_3_169 {X : Nat × (Nat → Int32)} {d : Nat} {f : Nat → Nat → Int32} {g : Nat → Nat → Int64} {K : (Nat → Nat → Int32) → (Nat → Nat → Int64) → Prop} {x1 : Int64} {x3 : Int32} {x4 : Int32}
  (h : if (48 : Int32) ≤ x4 then (zCpi X (d + 1) 124 [.int x3, .int (0 : Int32), .int (47 : Int32)] (zs f g) (fun v3 f1 g2 => if v3 = 0 then (K f1 g2) else (if x3 < 0 ∨ 48 ≤ x3.toNatClampNeg then False else (if (0 : Int32) < 0 ∨ 48 ≤ (0 : Int32).toNatClampNeg then False else (zWp X (d + 1) zm88 55 [.ref 169, .long x1, .null, .int x3, .int (1 : Int32), .int (0 : Int32), .null, .null, .null] [] (zs (zuI (zuI f1 170 x3.toNatClampNeg (0 : Int32)) 171 0 x3) g2) (zQv K)))))) else (if x4 < 0 ∨ 48 ≤ x4.toNatClampNeg then False else (zWp X (d + 1) zm88 3 [.ref 169, .long x1, .null, .int x3, .int (x4 + (1 : Int32)), .null, .null, .null, .null] [] (zs (zuI f 170 x4.toNatClampNeg (-1 : Int32)) g) (zQv K)))) : zWp X (d + 1) zm88 3 [.ref 169, .long x1, .null, .int x3, .int x4, .null, .null, .null, .null] [] (zs f g) (zQv K) := zWj_of (op := zop) (F := 3000) (fun pc => pc == 3 || pc == 55) (fun pc => if pc = 55 then [6, 7, 8] else []) 3000 (zP_rg (a := 88) rfl) h
set_option maxHeartbeats 4000000 in
set_option maxRecDepth 100000 in
/-- HearsayOrchestra$Thought.spread, at 55 -/
theorem s88_55_169 {X : Nat × (Nat → Int32)} {d : Nat} {f : Nat → Nat → Int32} {g : Nat → Nat → Int64} {K : (Nat → Nat → Int32) → (Nat → Nat → Int64) → Prop} {x1 : Int64} {x3 : Int32} {x4 : Int32} {x5 : Int32}
  (h : if x4 ≤ x5 then (K f g) else (if (48 : Int32) ≤ x5 then (K f g) else (if x5 < 0 ∨ 48 ≤ x5.toNatClampNeg then False else (if (8 : Int32) = 0 then False else (if (8 : Int32) = 0 then False else (if (zdO.1 (f 171 x5.toNatClampNeg) (8 : Int32)) ≤ 0 then (zCpi X (d + 1) 89 [.ref 169, .long x1, .int (f 171 x5.toNatClampNeg), .int (-1 : Int32), .int x4] (zs f g) (fun v3 f1 g2 => if (7 : Int32) ≤ (zrO.1 (f 171 x5.toNatClampNeg) (8 : Int32)) then (zCpi X (d + 1) 89 [.ref 169, .long x1, .int (f 171 x5.toNatClampNeg), .int (-1 : Int32), .int v3] (zs f1 g2) (fun v6 f4 g5 => if (5 : Int32) ≤ (zdO.1 (f 171 x5.toNatClampNeg) (8 : Int32)) then (zCpi X (d + 1) 89 [.ref 169, .long x1, .int (f 171 x5.toNatClampNeg), .int (-1 : Int32), .int v6] (zs f4 g5) (fun v9 f7 g8 => if (zrO.1 (f 171 x5.toNatClampNeg) (8 : Int32)) ≤ 0 then (zCpi X (d + 1) 89 [.ref 169, .long x1, .int (f 171 x5.toNatClampNeg), .int (-1 : Int32), .int v9] (zs f7 g8) (fun v12 f10 g11 => zWp X (d + 1) zm88 55 [.ref 169, .long x1, .null, .int x3, .int v12, .int (x5 + (1 : Int32)), .null, .null, .null] [] (zs f10 g11) (zQv K))) else (zCpi X (d + 1) 89 [.ref 169, .long x1, .int (f 171 x5.toNatClampNeg), .int (zsO.1 (f 171 x5.toNatClampNeg) (1 : Int32)), .int v9] (zs f7 g8) (fun v15 f13 g14 => zWp X (d + 1) zm88 55 [.ref 169, .long x1, .null, .int x3, .int v15, .int (x5 + (1 : Int32)), .null, .null, .null] [] (zs f13 g14) (zQv K))))) else (zCpi X (d + 1) 89 [.ref 169, .long x1, .int (f 171 x5.toNatClampNeg), .int ((f 171 x5.toNatClampNeg) + (8 : Int32)), .int v6] (zs f4 g5) (fun v18 f16 g17 => if (zrO.1 (f 171 x5.toNatClampNeg) (8 : Int32)) ≤ 0 then (zCpi X (d + 1) 89 [.ref 169, .long x1, .int (f 171 x5.toNatClampNeg), .int (-1 : Int32), .int v18] (zs f16 g17) (fun v21 f19 g20 => zWp X (d + 1) zm88 55 [.ref 169, .long x1, .null, .int x3, .int v21, .int (x5 + (1 : Int32)), .null, .null, .null] [] (zs f19 g20) (zQv K))) else (zCpi X (d + 1) 89 [.ref 169, .long x1, .int (f 171 x5.toNatClampNeg), .int (zsO.1 (f 171 x5.toNatClampNeg) (1 : Int32)), .int v18] (zs f16 g17) (fun v24 f22 g23 => zWp X (d + 1) zm88 55 [.ref 169, .long x1, .null, .int x3, .int v24, .int (x5 + (1 : Int32)), .null, .null, .null] [] (zs f22 g23) (zQv K))))))) else (zCpi X (d + 1) 89 [.ref 169, .long x1, .int (f 171 x5.toNatClampNeg), .int ((f 171 x5.toNatClampNeg) + (1 : Int32)), .int v3] (zs f1 g2) (fun v27 f25 g26 => if (5 : Int32) ≤ (zdO.1 (f 171 x5.toNatClampNeg) (8 : Int32)) then (zCpi X (d + 1) 89 [.ref 169, .long x1, .int (f 171 x5.toNatClampNeg), .int (-1 : Int32), .int v27] (zs f25 g26) (fun v30 f28 g29 => if (zrO.1 (f 171 x5.toNatClampNeg) (8 : Int32)) ≤ 0 then (zCpi X (d + 1) 89 [.ref 169, .long x1, .int (f 171 x5.toNatClampNeg), .int (-1 : Int32), .int v30] (zs f28 g29) (fun v33 f31 g32 => zWp X (d + 1) zm88 55 [.ref 169, .long x1, .null, .int x3, .int v33, .int (x5 + (1 : Int32)), .null, .null, .null] [] (zs f31 g32) (zQv K))) else (zCpi X (d + 1) 89 [.ref 169, .long x1, .int (f 171 x5.toNatClampNeg), .int (zsO.1 (f 171 x5.toNatClampNeg) (1 : Int32)), .int v30] (zs f28 g29) (fun v36 f34 g35 => zWp X (d + 1) zm88 55 [.ref 169, .long x1, .null, .int x3, .int v36, .int (x5 + (1 : Int32)), .null, .null, .null] [] (zs f34 g35) (zQv K))))) else (zCpi X (d + 1) 89 [.ref 169, .long x1, .int (f 171 x5.toNatClampNeg), .int ((f 171 x5.toNatClampNeg) + (8 : Int32)), .int v27] (zs f25 g26) (fun v39 f37 g38 => if (zrO.1 (f 171 x5.toNatClampNeg) (8 : Int32)) ≤ 0 then (zCpi X (d + 1) 89 [.ref 169, .long x1, .int (f 171 x5.toNatClampNeg), .int (-1 : Int32), .int v39] (zs f37 g38) (fun v42 f40 g41 => zWp X (d + 1) zm88 55 [.ref 169, .long x1, .null, .int x3, .int v42, .int (x5 + (1 : Int32)), .null, .null, .null] [] (zs f40 g41) (zQv K))) else (zCpi X (d + 1) 89 [.ref 169, .long x1, .int (f 171 x5.toNatClampNeg), .int (zsO.1 (f 171 x5.toNatClampNeg) (1 : Int32)), .int v39] (zs f37 g38) (fun v45 f43 g44 => zWp X (d + 1) zm88 55 [.ref 169, .long x1, .null, .int x3, .int v45, .int (x5 + (1 : Int32)), .null, .null, .null] [] (zs f43 g44) (zQv K))))))))) else (zCpi X (d + 1) 89 [.ref 169, .long x1, .int (f 171 x5.toNatClampNeg), .int (zsO.1 (f 171 x5.toNatClampNeg) (8 : Int32)), .int x4] (zs f g) (fun v48 f46 g47 => if (7 : Int32) ≤ (zrO.1 (f 171 x5.toNatClampNeg) (8 : Int32)) then (zCpi X (d + 1) 89 [.ref 169, .long x1, .int (f 171 x5.toNatClampNeg), .int (-1 : Int32), .int v48] (zs f46 g47) (fun v51 f49 g50 => if (5 : Int32) ≤ (zdO.1 (f 171 x5.toNatClampNeg) (8 : Int32)) then (zCpi X (d + 1) 89 [.ref 169, .long x1, .int (f 171 x5.toNatClampNeg), .int (-1 : Int32), .int v51] (zs f49 g50) (fun v54 f52 g53 => if (zrO.1 (f 171 x5.toNatClampNeg) (8 : Int32)) ≤ 0 then (zCpi X (d + 1) 89 [.ref 169, .long x1, .int (f 171 x5.toNatClampNeg), .int (-1 : Int32), .int v54] (zs f52 g53) (fun v57 f55 g56 => zWp X (d + 1) zm88 55 [.ref 169, .long x1, .null, .int x3, .int v57, .int (x5 + (1 : Int32)), .null, .null, .null] [] (zs f55 g56) (zQv K))) else (zCpi X (d + 1) 89 [.ref 169, .long x1, .int (f 171 x5.toNatClampNeg), .int (zsO.1 (f 171 x5.toNatClampNeg) (1 : Int32)), .int v54] (zs f52 g53) (fun v60 f58 g59 => zWp X (d + 1) zm88 55 [.ref 169, .long x1, .null, .int x3, .int v60, .int (x5 + (1 : Int32)), .null, .null, .null] [] (zs f58 g59) (zQv K))))) else (zCpi X (d + 1) 89 [.ref 169, .long x1, .int (f 171 x5.toNatClampNeg), .int ((f 171 x5.toNatClampNeg) + (8 : Int32)), .int v51] (zs f49 g50) (fun v63 f61 g62 => if (zrO.1 (f 171 x5.toNatClampNeg) (8 : Int32)) ≤ 0 then (zCpi X (d + 1) 89 [.ref 169, .long x1, .int (f 171 x5.toNatClampNeg), .int (-1 : Int32), .int v63] (zs f61 g62) (fun v66 f64 g65 => zWp X (d + 1) zm88 55 [.ref 169, .long x1, .null, .int x3, .int v66, .int (x5 + (1 : Int32)), .null, .null, .null] [] (zs f64 g65) (zQv K))) else (zCpi X (d + 1) 89 [.ref 169, .long x1, .int (f 171 x5.toNatClampNeg), .int (zsO.1 (f 171 x5.toNatClampNeg) (1 : Int32)), .int v63] (zs f61 g62) (fun v69 f67 g68 => zWp X (d + 1) zm88 55 [.ref 169, .long x1, .null, .int x3, .int v69, .int (x5 + (1 : Int32)), .null, .null, .null] [] (zs f67 g68) (zQv K))))))) else (zCpi X (d + 1) 89 [.ref 169, .long x1, .int (f 171 x5.toNatClampNeg), .int ((f 171 x5.toNatClampNeg) + (1 : Int32)), .int v48] (zs f46 g47) (fun v72 f70 g71 => if (5 : Int32) ≤ (zdO.1 (f 171 x5.toNatClampNeg) (8 : Int32)) then (zCpi X (d + 1) 89 [.ref 169, .long x1, .int (f 171 x5.toNatClampNeg), .int (-1 : Int32), .int v72] (zs f70 g71) (fun v75 f73 g74 => if (zrO.1 (f 171 x5.toNatClampNeg) (8 : Int32)) ≤ 0 then (zCpi X (d + 1) 89 [.ref 169, .long x1, .int (f 171 x5.toNatClampNeg), .int (-1 : Int32), .int v75] (zs f73 g74) (fun v78 f76 g77 => zWp X (d + 1) zm88 55 [.ref 169, .long x1, .null, .int x3, .int v78, .int (x5 + (1 : Int32)), .null, .null, .null] [] (zs f76 g77) (zQv K))) else (zCpi X (d + 1) 89 [.ref 169, .long x1, .int (f 171 x5.toNatClampNeg), .int (zsO.1 (f 171 x5.toNatClampNeg) (1 : Int32)), .int v75] (zs f73 g74) (fun v81 f79 g80 => zWp X (d + 1) zm88 55 [.ref 169, .long x1, .null, .int x3, .int v81, .int (x5 + (1 : Int32)), .null, .null, .null] [] (zs f79 g80) (zQv K))))) else (zCpi X (d + 1) 89 [.ref 169, .long x1, .int (f 171 x5.toNatClampNeg), .int ((f 171 x5.toNatClampNeg) + (8 : Int32)), .int v72] (zs f70 g71) (fun v84 f82 g83 => if (zrO.1 (f 171 x5.toNatClampNeg) (8 : Int32)) ≤ 0 then (zCpi X (d + 1) 89 [.ref 169, .long x1, .int (f 171 x5.toNatClampNeg), .int (-1 : Int32), .int v84] (zs f82 g83) (fun v87 f85 g86 => zWp X (d + 1) zm88 55 [.ref 169, .long x1, .null, .int x3, .int v87, .int (x5 + (1 : Int32)), .null, .null, .null] [] (zs f85 g86) (zQv K))) else (zCpi X (d + 1) 89 [.ref 169, .long x1, .int (f 171 x5.toNatClampNeg), .int (zsO.1 (f 171 x5.toNatClampNeg) (1 : Int32)), .int v84] (zs f82 g83) (fun v90 f88 g89 => zWp X (d + 1) zm88 55 [.ref 169, .long x1, .null, .int x3, .int v90, .int (x5 + (1 : Int32)), .null, .null, .null] [] (zs f88 g89) (zQv K))))))))))))))) : zWp X (d + 1) zm88 55 [.ref 169, .long x1, .null, .int x3, .int x4, .int x5, .null, .null, .null] [] (zs f g) (zQv K) := zWj_of (op := zop) (F := 3000) (fun pc => pc == 3 || pc == 55) (fun pc => if pc = 55 then [6, 7, 8] else []) 3000 (zP_rg (a := 88) rfl) h
set_option maxHeartbeats 4000000 in
set_option maxRecDepth 100000 in
/-- HearsayOrchestra$Thought.spread -/
theorem e88_169 {X : Nat × (Nat → Int32)} {d : Nat} {f : Nat → Nat → Int32} {g : Nat → Nat → Int64} {K : (Nat → Nat → Int32) → (Nat → Nat → Int64) → Prop} {a1 : Int64} {a2 : Int32}
  (h : zWp X (d + 1) zm88 3 [.ref 169, .long a1, .null, .int a2, .int (0 : Int32), .null, .null, .null, .null] [] (zs f g) (zQv K)) : zCpv X (d + 2) 88 [.ref 169, .long a1, .int a2] (zs f g) K := zCpv_w (d := d + 1) (by decide) rfl (Nat.le_of_ble_eq_true rfl) (zWj_of (op := zop) (F := 3000) (fun pc => pc == 3 || pc == 55) (fun pc => if pc = 55 then [6, 7, 8] else []) 3000 (zP_rg (a := 88) rfl) h)
set_option maxHeartbeats 4000000 in
set_option maxRecDepth 100000 in
/-- HearsayOrchestra$Thought.reach -/
theorem e89_169 {X : Nat × (Nat → Int32)} {d : Nat} {f : Nat → Nat → Int32} {g : Nat → Nat → Int64} {K : Int32 → (Nat → Nat → Int32) → (Nat → Nat → Int64) → Prop} {a1 : Int64} {a2 : Int32} {a3 : Int32} {a4 : Int32}
  (h : if a3 = (-1 : Int32) then (K a4 f g) else (if (lg_cmp ((zlU.1 a1 a3) &&& (1 : Int64)) (1 : Int64)) = 0 then (K a4 f g) else (if a3 < 0 ∨ 48 ≤ a3.toNatClampNeg then False else (if (f 170 a3.toNatClampNeg) = (-1 : Int32) then (if a4 < (48 : Int32) then (if a2 < 0 ∨ 48 ≤ a2.toNatClampNeg then False else (if a3 < 0 ∨ 48 ≤ a3.toNatClampNeg then False else (if a4 < 0 ∨ 48 ≤ a4.toNatClampNeg then False else (K (a4 + (1 : Int32)) (zuI (zuI f 170 a3.toNatClampNeg ((f 170 a2.toNatClampNeg) + (1 : Int32))) 171 a4.toNatClampNeg a3) g)))) else (K a4 f g)) else (K a4 f g))))) : zCpi X (d + 1) 89 [.ref 169, .long a1, .int a2, .int a3, .int a4] (zs f g) K := zCpi_w (d := d + 0) (by decide) rfl (Nat.le_of_ble_eq_true rfl) (zWj_of (op := zop) (F := 3000) (fun _ => false) (fun _ => []) 3000 (zP_rg (a := 89) rfl) h)
set_option maxHeartbeats 4000000 in
set_option maxRecDepth 100000 in
/-- HearsayOrchestra$Thought.stepsTo -/
theorem e90_169 {X : Nat × (Nat → Int32)} {d : Nat} {f : Nat → Nat → Int32} {g : Nat → Nat → Int64} {K : Int32 → (Nat → Nat → Int32) → (Nat → Nat → Int64) → Prop} {a1 : Int32}
  (h : zCpi X (d + 1) 124 [.int a1, .int (0 : Int32), .int (47 : Int32)] (zs f g) (fun v3 f1 g2 => if v3 = 0 then (K (-1 : Int32) f1 g2) else (if a1 < 0 ∨ 48 ≤ a1.toNatClampNeg then False else (K (f1 170 a1.toNatClampNeg) f1 g2)))) : zCpi X (d + 2) 90 [.ref 169, .int a1] (zs f g) K := zCpi_w (d := d + 1) (by decide) rfl (Nat.le_of_ble_eq_true rfl) (zWj_of (op := zop) (F := 3000) (fun _ => false) (fun _ => []) 3000 (zP_rg (a := 90) rfl) h)
set_option maxHeartbeats 4000000 in
set_option maxRecDepth 100000 in
/-- HearsayOrchestra$Thought.seatsNoFurtherThan, at 18 -/
theorem s91_18_169 {X : Nat × (Nat → Int32)} {d : Nat} {f : Nat → Nat → Int32} {g : Nat → Nat → Int64} {K : Int32 → (Nat → Nat → Int32) → (Nat → Nat → Int64) → Prop} {x1 : Int32} {x2 : Int32} {x3 : Int32} {x4 : Int32}
  (h : if (48 : Int32) ≤ x4 then (K x3 f g) else (if x4 < 0 ∨ 48 ≤ x4.toNatClampNeg then False else (zCpi X (d + 1) 124 [.int (f 170 x4.toNatClampNeg), .int (0 : Int32), .int x2] (zs f g) (fun v3 f1 g2 => if v3 = 0 then (zWp X (d + 1) zm91 18 [.ref 169, .int x1, .int x2, .int x3, .int (x4 + (1 : Int32))] [] (zs f1 g2) (zQi K)) else (zWp X (d + 1) zm91 18 [.ref 169, .int x1, .int x2, .int (x3 + (1 : Int32)), .int (x4 + (1 : Int32))] [] (zs f1 g2) (zQi K)))))) : zWp X (d + 1) zm91 18 [.ref 169, .int x1, .int x2, .int x3, .int x4] [] (zs f g) (zQi K) := zWj_of (op := zop) (F := 3000) (fun pc => pc == 18) (fun _ => []) 3000 (zP_rg (a := 91) rfl) h
set_option maxHeartbeats 4000000 in
set_option maxRecDepth 100000 in
/-- HearsayOrchestra$Thought.seatsNoFurtherThan -/
theorem e91_169 {X : Nat × (Nat → Int32)} {d : Nat} {f : Nat → Nat → Int32} {g : Nat → Nat → Int64} {K : Int32 → (Nat → Nat → Int32) → (Nat → Nat → Int64) → Prop} {a1 : Int32}
  (h : zCpi X (d + 1) 90 [.ref 169, .int a1] (zs f g) (fun v3 f1 g2 => if v3 = (-1 : Int32) then (K (-1 : Int32) f1 g2) else (zWp X (d + 1) zm91 18 [.ref 169, .int a1, .int v3, .int (0 : Int32), .int (0 : Int32)] [] (zs f1 g2) (zQi K)))) : zCpi X (d + 2) 91 [.ref 169, .int a1] (zs f g) K := zCpi_w (d := d + 1) (by decide) rfl (Nat.le_of_ble_eq_true rfl) (zWj_of (op := zop) (F := 3000) (fun pc => pc == 18) (fun _ => []) 3000 (zP_rg (a := 91) rfl) h)
set_option maxHeartbeats 4000000 in
set_option maxRecDepth 100000 in
/-- HearsayOrchestra$Thought.bestDesks, at 3 -/
theorem s92_3_169_24 {X : Nat × (Nat → Int32)} {d : Nat} {f : Nat → Nat → Int32} {g : Nat → Nat → Int64} {K : Int32 → (Nat → Nat → Int32) → (Nat → Nat → Int64) → Prop} {x2 : Int32} {x3 : Int32} {x4 : Int32}
  (h : if (6 : Int32) ≤ x4 then (zCpi X (d + 1) 93 [.ref 169, .ref 24, .int x2] (zs f g) (fun v3 f1 g2 => zCpi X (d + 1) 94 [.ref 169, .int x2] (zs f1 g2) (fun v6 f4 g5 => zWp X (d + 1) zm92 43 [.ref 169, .ref 24, .int x2, .int x3, .int v3, .int v6, .int (0 : Int32), .null] [] (zs f4 g5) (zQi K)))) else (if x4 < 0 ∨ 6 ≤ x4.toNatClampNeg then False else (zWp X (d + 1) zm92 3 [.ref 169, .ref 24, .int x2, .int x3, .int (x4 + (1 : Int32)), .null, .null, .null] [] (zs (zuI f 172 x4.toNatClampNeg x4) g) (zQi K)))) : zWp X (d + 1) zm92 3 [.ref 169, .ref 24, .int x2, .int x3, .int x4, .null, .null, .null] [] (zs f g) (zQi K) := zWj_of (op := zop) (F := 3000) (fun pc => pc == 3 || pc == 43) (fun pc => if pc = 43 then [7] else []) 3000 (zP_rg (a := 92) rfl) h
set_option maxHeartbeats 4000000 in
set_option maxRecDepth 100000 in
/-- HearsayOrchestra$Thought.bestDesks, at 43 -/
theorem s92_43_169_24 {X : Nat × (Nat → Int32)} {d : Nat} {f : Nat → Nat → Int32} {g : Nat → Nat → Int64} {K : Int32 → (Nat → Nat → Int32) → (Nat → Nat → Int64) → Prop} {x2 : Int32} {x3 : Int32} {x4 : Int32} {x5 : Int32} {x6 : Int32}
  (h : if (720 : Int32) ≤ x6 then (if x3 = 0 then (K x4 f g) else (K x5 f g)) else (zCpi X (d + 1) 95 [.ref 169, .int x2] (zs f g) (fun v3 f1 g2 => if v3 = 0 then (if x3 = 0 then (K x4 f1 g2) else (K x5 f1 g2)) else (zCpi X (d + 1) 93 [.ref 169, .ref 24, .int x2] (zs f1 g2) (fun v6 f4 g5 => if x4 ≤ v6 then (zWp X (d + 1) zm92 43 [.ref 169, .ref 24, .int x2, .int x3, .int x4, .int x5, .int (x6 + (1 : Int32)), .null] [] (zs f4 g5) (zQi K)) else (zCpi X (d + 1) 94 [.ref 169, .int x2] (zs f4 g5) (fun v9 f7 g8 => zWp X (d + 1) zm92 43 [.ref 169, .ref 24, .int x2, .int x3, .int v6, .int v9, .int (x6 + (1 : Int32)), .null] [] (zs f7 g8) (zQi K)))))))) : zWp X (d + 1) zm92 43 [.ref 169, .ref 24, .int x2, .int x3, .int x4, .int x5, .int x6, .null] [] (zs f g) (zQi K) := zWj_of (op := zop) (F := 3000) (fun pc => pc == 3 || pc == 43) (fun pc => if pc = 43 then [7] else []) 3000 (zP_rg (a := 92) rfl) h
set_option maxHeartbeats 4000000 in
set_option maxRecDepth 100000 in
/-- HearsayOrchestra$Thought.bestDesks -/
theorem e92_169_24 {X : Nat × (Nat → Int32)} {d : Nat} {f : Nat → Nat → Int32} {g : Nat → Nat → Int64} {K : Int32 → (Nat → Nat → Int32) → (Nat → Nat → Int64) → Prop} {a2 : Int32} {a3 : Int32}
  (h : zWp X (d + 1) zm92 3 [.ref 169, .ref 24, .int a2, .int a3, .int (0 : Int32), .null, .null, .null] [] (zs f g) (zQi K)) : zCpi X (d + 2) 92 [.ref 169, .ref 24, .int a2, .int a3] (zs f g) K := zCpi_w (d := d + 1) (by decide) rfl (Nat.le_of_ble_eq_true rfl) (zWj_of (op := zop) (F := 3000) (fun pc => pc == 3 || pc == 43) (fun pc => if pc = 43 then [7] else []) 3000 (zP_rg (a := 92) rfl) h)
set_option maxHeartbeats 4000000 in
set_option maxRecDepth 100000 in
/-- HearsayOrchestra$Thought.costOfOrder, at 5 -/
theorem s93_5_169_24 {X : Nat × (Nat → Int32)} {d : Nat} {f : Nat → Nat → Int32} {g : Nat → Nat → Int64} {K : Int32 → (Nat → Nat → Int32) → (Nat → Nat → Int64) → Prop} {x2 : Int32} {x3 : Int32} {x4 : Int32}
  (h : if x2 ≤ x4 then (K x3 f g) else (zWp X (d + 0) zm93 17 [.ref 169, .ref 24, .int x2, .int x3, .int x4, .int (x4 + (1 : Int32))] [] (zs f g) (zQi K))) : zWp X (d + 0) zm93 5 [.ref 169, .ref 24, .int x2, .int x3, .int x4, .null] [] (zs f g) (zQi K) := zWj_of (op := zop) (F := 3000) (fun pc => pc == 5 || pc == 17) (fun pc => if pc = 5 then [5] else []) 3000 (zP_rg (a := 93) rfl) h
set_option maxHeartbeats 4000000 in
set_option maxRecDepth 100000 in
/-- HearsayOrchestra$Thought.costOfOrder, at 17 -/
theorem s93_17_169_24 {X : Nat × (Nat → Int32)} {d : Nat} {f : Nat → Nat → Int32} {g : Nat → Nat → Int64} {K : Int32 → (Nat → Nat → Int32) → (Nat → Nat → Int64) → Prop} {x2 : Int32} {x3 : Int32} {x4 : Int32} {x5 : Int32}
  (h : if x2 ≤ x5 then (zWp X (d + 0) zm93 5 [.ref 169, .ref 24, .int x2, .int x3, .int (x4 + (1 : Int32)), .null] [] (zs f g) (zQi K)) else (if x4 < 0 ∨ 6 ≤ x4.toNatClampNeg then False else (if x5 < 0 ∨ 6 ≤ x5.toNatClampNeg then False else (if ((zmO.1 (f 172 x4.toNatClampNeg) (6 : Int32)) + (f 172 x5.toNatClampNeg)) < 0 ∨ 36 ≤ ((zmO.1 (f 172 x4.toNatClampNeg) (6 : Int32)) + (f 172 x5.toNatClampNeg)).toNatClampNeg then False else (zWp X (d + 0) zm93 17 [.ref 169, .ref 24, .int x2, .int (x3 + (zmO.1 (zsO.1 x5 x4) (f 24 (((zmO.1 (f 172 x4.toNatClampNeg) (6 : Int32)) + (f 172 x5.toNatClampNeg)).toNatClampNeg)))), .int x4, .int (x5 + (1 : Int32))] [] (zs f g) (zQi K)))))) : zWp X (d + 0) zm93 17 [.ref 169, .ref 24, .int x2, .int x3, .int x4, .int x5] [] (zs f g) (zQi K) := zWj_of (op := zop) (F := 3000) (fun pc => pc == 5 || pc == 17) (fun pc => if pc = 5 then [5] else []) 3000 (zP_rg (a := 93) rfl) h
set_option maxHeartbeats 4000000 in
set_option maxRecDepth 100000 in
/-- HearsayOrchestra$Thought.costOfOrder -/
theorem e93_169_24 {X : Nat × (Nat → Int32)} {d : Nat} {f : Nat → Nat → Int32} {g : Nat → Nat → Int64} {K : Int32 → (Nat → Nat → Int32) → (Nat → Nat → Int64) → Prop} {a2 : Int32}
  (h : zWp X (d + 0) zm93 5 [.ref 169, .ref 24, .int a2, .int (0 : Int32), .int (0 : Int32), .null] [] (zs f g) (zQi K)) : zCpi X (d + 1) 93 [.ref 169, .ref 24, .int a2] (zs f g) K := zCpi_w (d := d + 0) (by decide) rfl (Nat.le_of_ble_eq_true rfl) (zWj_of (op := zop) (F := 3000) (fun pc => pc == 5 || pc == 17) (fun pc => if pc = 5 then [5] else []) 3000 (zP_rg (a := 93) rfl) h)
set_option maxHeartbeats 4000000 in
set_option maxRecDepth 100000 in
/-- HearsayOrchestra$Thought.orderAsNumber, at 4 -/
theorem s94_4_169 {X : Nat × (Nat → Int32)} {d : Nat} {f : Nat → Nat → Int32} {g : Nat → Nat → Int64} {K : Int32 → (Nat → Nat → Int32) → (Nat → Nat → Int64) → Prop} {x1 : Int32} {x2 : Int32} {x3 : Int32}
  (h : if x1 ≤ x3 then (K x2 f g) else (if x3 < 0 ∨ 6 ≤ x3.toNatClampNeg then False else (zWp X (d + 0) zm94 4 [.ref 169, .int x1, .int ((zmO.1 (10 : Int32) x2) + (f 172 x3.toNatClampNeg)), .int (x3 + (1 : Int32))] [] (zs f g) (zQi K)))) : zWp X (d + 0) zm94 4 [.ref 169, .int x1, .int x2, .int x3] [] (zs f g) (zQi K) := zWj_of (op := zop) (F := 3000) (fun pc => pc == 4) (fun _ => []) 3000 (zP_rg (a := 94) rfl) h
set_option maxHeartbeats 4000000 in
set_option maxRecDepth 100000 in
/-- HearsayOrchestra$Thought.orderAsNumber -/
theorem e94_169 {X : Nat × (Nat → Int32)} {d : Nat} {f : Nat → Nat → Int32} {g : Nat → Nat → Int64} {K : Int32 → (Nat → Nat → Int32) → (Nat → Nat → Int64) → Prop} {a1 : Int32}
  (h : zWp X (d + 0) zm94 4 [.ref 169, .int a1, .int (0 : Int32), .int (0 : Int32)] [] (zs f g) (zQi K)) : zCpi X (d + 1) 94 [.ref 169, .int a1] (zs f g) K := zCpi_w (d := d + 0) (by decide) rfl (Nat.le_of_ble_eq_true rfl) (zWj_of (op := zop) (F := 3000) (fun pc => pc == 4) (fun _ => []) 3000 (zP_rg (a := 94) rfl) h)
set_option maxHeartbeats 4000000 in
set_option maxRecDepth 100000 in
/-- HearsayOrchestra$Thought.nextOrder, at 4 -/
theorem s95_4_169 {X : Nat × (Nat → Int32)} {d : Nat} {f : Nat → Nat → Int32} {g : Nat → Nat → Int64} {K : Int32 → (Nat → Nat → Int32) → (Nat → Nat → Int64) → Prop} {x1 : Int32} {x2 : Int32}
  (h : if x2 < 0 then (if 0 ≤ x2 then (zWp X (d + 1) zm95 41 [.ref 169, .int x1, .int x2, .int (zsO.1 x1 (1 : Int32)), .null, .null] [] (zs f g) (zQi K)) else (if (0 : Int32) = 0 ∨ (0 : Int32) = 1 then (K (0 : Int32) f g) else False)) else (if x2 < 0 ∨ 6 ≤ x2.toNatClampNeg then False else (if (x2 + (1 : Int32)) < 0 ∨ 6 ≤ (x2 + (1 : Int32)).toNatClampNeg then False else (if (f 172 x2.toNatClampNeg) ≤ (f 172 ((x2 + (1 : Int32)).toNatClampNeg)) then (if 0 ≤ x2 then (zWp X (d + 1) zm95 41 [.ref 169, .int x1, .int x2, .int (zsO.1 x1 (1 : Int32)), .null, .null] [] (zs f g) (zQi K)) else (if (0 : Int32) = 0 ∨ (0 : Int32) = 1 then (K (0 : Int32) f g) else False)) else (zWp X (d + 1) zm95 4 [.ref 169, .int x1, .int (x2 + (-1 : Int32)), .null, .null, .null] [] (zs f g) (zQi K)))))) : zWp X (d + 1) zm95 4 [.ref 169, .int x1, .int x2, .null, .null, .null] [] (zs f g) (zQi K) := zWj_of (op := zop) (F := 3000) (fun pc => pc == 4 || pc == 41 || pc == 86) (fun _ => []) 3000 (zP_rg (a := 95) rfl) h
set_option maxHeartbeats 4000000 in
set_option maxRecDepth 100000 in
/-- HearsayOrchestra$Thought.nextOrder, at 41 -/
theorem s95_41_169 {X : Nat × (Nat → Int32)} {d : Nat} {f : Nat → Nat → Int32} {g : Nat → Nat → Int64} {K : Int32 → (Nat → Nat → Int32) → (Nat → Nat → Int64) → Prop} {x1 : Int32} {x2 : Int32} {x3 : Int32}
  (h : if x3 ≤ x2 then (zCpv X (d + 1) 96 [.ref 172, .int x2, .int x3] (zs f g) (fun f1 g2 => zWp X (d + 1) zm95 86 [.ref 169, .int x1, .int x2, .int x3, .int (x2 + (1 : Int32)), .int (zsO.1 x1 (1 : Int32))] [] (zs f1 g2) (zQi K))) else (if x3 < 0 ∨ 6 ≤ x3.toNatClampNeg then False else (if x2 < 0 ∨ 6 ≤ x2.toNatClampNeg then False else (if (f 172 x2.toNatClampNeg) ≤ (f 172 x3.toNatClampNeg) then (zCpv X (d + 1) 96 [.ref 172, .int x2, .int x3] (zs f g) (fun f3 g4 => zWp X (d + 1) zm95 86 [.ref 169, .int x1, .int x2, .int x3, .int (x2 + (1 : Int32)), .int (zsO.1 x1 (1 : Int32))] [] (zs f3 g4) (zQi K))) else (zWp X (d + 1) zm95 41 [.ref 169, .int x1, .int x2, .int (x3 + (-1 : Int32)), .null, .null] [] (zs f g) (zQi K)))))) : zWp X (d + 1) zm95 41 [.ref 169, .int x1, .int x2, .int x3, .null, .null] [] (zs f g) (zQi K) := zWj_of (op := zop) (F := 3000) (fun pc => pc == 4 || pc == 41 || pc == 86) (fun _ => []) 3000 (zP_rg (a := 95) rfl) h
set_option maxHeartbeats 4000000 in
set_option maxRecDepth 100000 in
/-- HearsayOrchestra$Thought.nextOrder, at 86 -/
theorem s95_86_169 {X : Nat × (Nat → Int32)} {d : Nat} {f : Nat → Nat → Int32} {g : Nat → Nat → Int64} {K : Int32 → (Nat → Nat → Int32) → (Nat → Nat → Int64) → Prop} {x1 : Int32} {x2 : Int32} {x3 : Int32} {x4 : Int32} {x5 : Int32}
  (h : if x5 ≤ x4 then (if (1 : Int32) = 0 ∨ (1 : Int32) = 1 then (K (1 : Int32) f g) else False) else (zCpv X (d + 1) 96 [.ref 172, .int x4, .int x5] (zs f g) (fun f1 g2 => zWp X (d + 1) zm95 86 [.ref 169, .int x1, .int x2, .int x3, .int (x4 + (1 : Int32)), .int (x5 + (-1 : Int32))] [] (zs f1 g2) (zQi K)))) : zWp X (d + 1) zm95 86 [.ref 169, .int x1, .int x2, .int x3, .int x4, .int x5] [] (zs f g) (zQi K) := zWj_of (op := zop) (F := 3000) (fun pc => pc == 4 || pc == 41 || pc == 86) (fun _ => []) 3000 (zP_rg (a := 95) rfl) h
set_option maxHeartbeats 4000000 in
set_option maxRecDepth 100000 in
/-- HearsayOrchestra$Thought.nextOrder -/
theorem e95_169 {X : Nat × (Nat → Int32)} {d : Nat} {f : Nat → Nat → Int32} {g : Nat → Nat → Int64} {K : Int32 → (Nat → Nat → Int32) → (Nat → Nat → Int64) → Prop} {a1 : Int32}
  (h : zWp X (d + 1) zm95 4 [.ref 169, .int a1, .int (zsO.1 a1 (2 : Int32)), .null, .null, .null] [] (zs f g) (zQi K)) : zCpi X (d + 2) 95 [.ref 169, .int a1] (zs f g) K := zCpi_w (d := d + 1) (by decide) rfl (Nat.le_of_ble_eq_true rfl) (zWj_of (op := zop) (F := 3000) (fun pc => pc == 4 || pc == 41 || pc == 86) (fun _ => []) 3000 (zP_rg (a := 95) rfl) h)
set_option maxHeartbeats 4000000 in
set_option maxRecDepth 100000 in
/-- HearsayOrchestra$Thought.exchange -/
theorem e96_173 {X : Nat × (Nat → Int32)} {d : Nat} {f : Nat → Nat → Int32} {g : Nat → Nat → Int64} {K : (Nat → Nat → Int32) → (Nat → Nat → Int64) → Prop} {a1 : Int32} {a2 : Int32}
  (h : if a1 < 0 ∨ 8 ≤ a1.toNatClampNeg then False else (if a2 < 0 ∨ 8 ≤ a2.toNatClampNeg then False else (if a1 < 0 ∨ 8 ≤ a1.toNatClampNeg then False else (if a2 < 0 ∨ 8 ≤ a2.toNatClampNeg then False else (K (zuI (zuI f 173 a1.toNatClampNeg (f 173 a2.toNatClampNeg)) 173 a2.toNatClampNeg (f 173 a1.toNatClampNeg)) g))))) : zCpv X (d + 1) 96 [.ref 173, .int a1, .int a2] (zs f g) K := zCpv_w (d := d + 0) (by decide) rfl (Nat.le_of_ble_eq_true rfl) (zWj_of (op := zop) (F := 3000) (fun _ => false) (fun _ => []) 3000 (zP_rg (a := 96) rfl) h)
set_option maxHeartbeats 4000000 in
set_option maxRecDepth 100000 in
/-- HearsayOrchestra$Thought.exchange -/
theorem e96_172 {X : Nat × (Nat → Int32)} {d : Nat} {f : Nat → Nat → Int32} {g : Nat → Nat → Int64} {K : (Nat → Nat → Int32) → (Nat → Nat → Int64) → Prop} {a1 : Int32} {a2 : Int32}
  (h : if a1 < 0 ∨ 6 ≤ a1.toNatClampNeg then False else (if a2 < 0 ∨ 6 ≤ a2.toNatClampNeg then False else (if a1 < 0 ∨ 6 ≤ a1.toNatClampNeg then False else (if a2 < 0 ∨ 6 ≤ a2.toNatClampNeg then False else (K (zuI (zuI f 172 a1.toNatClampNeg (f 172 a2.toNatClampNeg)) 172 a2.toNatClampNeg (f 172 a1.toNatClampNeg)) g))))) : zCpv X (d + 1) 96 [.ref 172, .int a1, .int a2] (zs f g) K := zCpv_w (d := d + 0) (by decide) rfl (Nat.le_of_ble_eq_true rfl) (zWj_of (op := zop) (F := 3000) (fun _ => false) (fun _ => []) 3000 (zP_rg (a := 96) rfl) h)
set_option maxHeartbeats 4000000 in
set_option maxRecDepth 100000 in
/-- HearsayOrchestra$Thought.leastSet, at 4 -/
theorem s97_4 {X : Nat × (Nat → Int32)} {d : Nat} {f : Nat → Nat → Int32} {g : Nat → Nat → Int64} {K : Int32 → (Nat → Nat → Int32) → (Nat → Nat → Int64) → Prop} {x0 : Int32} {x1 : Int32} {x2 : Int32}
  (h : if (12 : Int32) ≤ x2 then (zWp X (d + 1) zm97 41 [.int x0, .int x1, .int x0, .int (0 : Int32)] [] (zs f g) (zQi K)) else (if ((zuO.1 x0 x2) &&& (1 : Int32)) = (1 : Int32) then (if (12 : Int32) = 0 then False else (zWp X (d + 1) zm97 4 [.int x0, .int (x1 ||| (zhO.1 (1 : Int32) (zrO.1 (zsO.1 (12 : Int32) x2) (12 : Int32)))), .int (x2 + (1 : Int32)), .null] [] (zs f g) (zQi K))) else (zWp X (d + 1) zm97 4 [.int x0, .int x1, .int (x2 + (1 : Int32)), .null] [] (zs f g) (zQi K)))) : zWp X (d + 1) zm97 4 [.int x0, .int x1, .int x2, .null] [] (zs f g) (zQi K) := zWj_of (op := zop) (F := 3000) (fun pc => pc == 4 || pc == 41) (fun _ => []) 3000 (zP_rg (a := 97) rfl) h
set_option maxHeartbeats 4000000 in
set_option maxRecDepth 100000 in
/-- HearsayOrchestra$Thought.leastSet, at 41 -/
theorem s97_41 {X : Nat × (Nat → Int32)} {d : Nat} {f : Nat → Nat → Int32} {g : Nat → Nat → Int64} {K : Int32 → (Nat → Nat → Int32) → (Nat → Nat → Int64) → Prop} {x0 : Int32} {x1 : Int32} {x2 : Int32} {x3 : Int32}
  (h : if (12 : Int32) ≤ x3 then (K x2 f g) else (zCpi X (d + 1) 98 [.int x0, .int x3] (zs f g) (fun v3 f1 g2 => zCpi X (d + 1) 98 [.int x1, .int x3] (zs f1 g2) (fun v6 f4 g5 => zCpi X (d + 1) 288 [.int v3, .int v6] (zs f4 g5) (fun v9 f7 g8 => zCpi X (d + 1) 288 [.int x2, .int v9] (zs f7 g8) (fun v12 f10 g11 => zWp X (d + 1) zm97 41 [.int x0, .int x1, .int v12, .int (x3 + (1 : Int32))] [] (zs f10 g11) (zQi K))))))) : zWp X (d + 1) zm97 41 [.int x0, .int x1, .int x2, .int x3] [] (zs f g) (zQi K) := zWj_of (op := zop) (F := 3000) (fun pc => pc == 4 || pc == 41) (fun _ => []) 3000 (zP_rg (a := 97) rfl) h
set_option maxHeartbeats 4000000 in
set_option maxRecDepth 100000 in
/-- HearsayOrchestra$Thought.leastSet -/
theorem e97 {X : Nat × (Nat → Int32)} {d : Nat} {f : Nat → Nat → Int32} {g : Nat → Nat → Int64} {K : Int32 → (Nat → Nat → Int32) → (Nat → Nat → Int64) → Prop} {a0 : Int32}
  (h : zWp X (d + 1) zm97 4 [.int a0, .int (0 : Int32), .int (0 : Int32), .null] [] (zs f g) (zQi K)) : zCpi X (d + 2) 97 [.int a0] (zs f g) K := zCpi_w (d := d + 1) (by decide) rfl (Nat.le_of_ble_eq_true rfl) (zWj_of (op := zop) (F := 3000) (fun pc => pc == 4 || pc == 41) (fun _ => []) 3000 (zP_rg (a := 97) rfl) h)
set_option maxHeartbeats 4000000 in
set_option maxRecDepth 100000 in
/-- HearsayOrchestra$Thought.moved -/
theorem e98 {X : Nat × (Nat → Int32)} {d : Nat} {f : Nat → Nat → Int32} {g : Nat → Nat → Int64} {K : Int32 → (Nat → Nat → Int32) → (Nat → Nat → Int64) → Prop} {a0 : Int32} {a1 : Int32}
  (h : K (((zhO.1 a0 a1) ||| (zuO.1 a0 (zsO.1 (12 : Int32) a1))) &&& (4095 : Int32)) f g) : zCpi X (d + 1) 98 [.int a0, .int a1] (zs f g) K := zCpi_w (d := d + 0) (by decide) rfl (Nat.le_of_ble_eq_true rfl) (zWj_of (op := zop) (F := 3000) (fun _ => false) (fun _ => []) 3000 (zP_rg (a := 98) rfl) h)
set_option maxHeartbeats 4000000 in
set_option maxRecDepth 100000 in
/-- HearsayOrchestra$Thought.couplesApart -/
theorem e99 {X : Nat × (Nat → Int32)} {d : Nat} {f : Nat → Nat → Int32} {g : Nat → Nat → Int64} {K : Int32 → (Nat → Nat → Int32) → (Nat → Nat → Int64) → Prop} {a0 : Int32} {a1 : Int32}
  (h : zCpi X (d + 1) 98 [.int a0, .int a1] (zs f g) (fun v3 f1 g2 => zCpi X (d + 1) 284 [.int (a0 &&& v3)] (zs f1 g2) (fun v6 f4 g5 => if a1 = (6 : Int32) then (if (2 : Int32) = 0 then False else (K (zdO.1 v6 (2 : Int32)) f4 g5)) else (K v6 f4 g5)))) : zCpi X (d + 2) 99 [.int a0, .int a1] (zs f g) K := zCpi_w (d := d + 1) (by decide) rfl (Nat.le_of_ble_eq_true rfl) (zWj_of (op := zop) (F := 3000) (fun _ => false) (fun _ => []) 3000 (zP_rg (a := 99) rfl) h)
set_option maxHeartbeats 4000000 in
set_option maxRecDepth 100000 in
/-- HearsayOrchestra$Thought.unlikeSteps, at 4 -/
theorem s100_4_25 {X : Nat × (Nat → Int32)} {d : Nat} {f : Nat → Nat → Int32} {g : Nat → Nat → Int64} {K : Int32 → (Nat → Nat → Int32) → (Nat → Nat → Int64) → Prop} {x1 : Int32} {x2 : Int32} {x3 : Int32}
  (h : if (f 25 1) ≤ x3 then (zCpi X (d + 1) 284 [.int x2] (zs f g) (fun v3 f1 g2 => K v3 f1 g2)) else (zCpi X (d + 1) 101 [.ref 25, .int x1, .int (0 : Int32), .int x3] (zs f g) (fun v6 f4 g5 => zCpi X (d + 1) 101 [.ref 25, .int x1, .int (0 : Int32), .int (zsO.1 x3 (1 : Int32))] (zs f4 g5) (fun v9 f7 g8 => zCpi X (d + 1) 289 [.int (zsO.1 v6 v9), .int (12 : Int32)] (zs f7 g8) (fun v12 f10 g11 => zWp X (d + 1) zm100 4 [.ref 25, .int x1, .int (x2 ||| (zhO.1 (1 : Int32) v12)), .int (x3 + (1 : Int32)), .null] [] (zs f10 g11) (zQi K)))))) : zWp X (d + 1) zm100 4 [.ref 25, .int x1, .int x2, .int x3, .null] [] (zs f g) (zQi K) := zWj_of (op := zop) (F := 3000) (fun pc => pc == 4) (fun pc => if pc = 4 then [4] else []) 3000 (zP_rg (a := 100) rfl) h
set_option maxHeartbeats 4000000 in
set_option maxRecDepth 100000 in
/-- HearsayOrchestra$Thought.unlikeSteps -/
theorem e100_25 {X : Nat × (Nat → Int32)} {d : Nat} {f : Nat → Nat → Int32} {g : Nat → Nat → Int64} {K : Int32 → (Nat → Nat → Int32) → (Nat → Nat → Int64) → Prop} {a1 : Int32}
  (h : zWp X (d + 1) zm100 4 [.ref 25, .int a1, .int (0 : Int32), .int (1 : Int32), .null] [] (zs f g) (zQi K)) : zCpi X (d + 2) 100 [.ref 25, .int a1] (zs f g) K := zCpi_w (d := d + 1) (by decide) rfl (Nat.le_of_ble_eq_true rfl) (zWj_of (op := zop) (F := 3000) (fun pc => pc == 4) (fun pc => if pc = 4 then [4] else []) 3000 (zP_rg (a := 100) rfl) h)
set_option maxHeartbeats 4000000 in
set_option maxRecDepth 100000 in
/-- HearsayOrchestra$Thought.noteOfRow -/
theorem e101_25 {X : Nat × (Nat → Int32)} {d : Nat} {f : Nat → Nat → Int32} {g : Nat → Nat → Int64} {K : Int32 → (Nat → Nat → Int32) → (Nat → Nat → Int64) → Prop} {a1 : Int32} {a2 : Int32} {a3 : Int32}
  (h : if a1 < (2 : Int32) then (zCpi X (d + 1) 68 [.ref 25, .int a3] (zs f g) (fun v3 f1 g2 => if (2 : Int32) = 0 then False else (if (zrO.1 a1 (2 : Int32)) = (1 : Int32) then (zCpi X (d + 1) 68 [.ref 25, .int (0 : Int32)] (zs f1 g2) (fun v6 f4 g5 => zCpi X (d + 1) 289 [.int ((zsO.1 (zmO.1 (2 : Int32) v6) v3) + a2), .int (12 : Int32)] (zs f4 g5) (fun v9 f7 g8 => K v9 f7 g8))) else (zCpi X (d + 1) 289 [.int (v3 + a2), .int (12 : Int32)] (zs f1 g2) (fun v12 f10 g11 => K v12 f10 g11))))) else (zCpi X (d + 1) 68 [.ref 25, .int (zsO.1 (zsO.1 (f 25 1) (1 : Int32)) a3)] (zs f g) (fun v15 f13 g14 => if (2 : Int32) = 0 then False else (if (zrO.1 a1 (2 : Int32)) = (1 : Int32) then (zCpi X (d + 1) 68 [.ref 25, .int (0 : Int32)] (zs f13 g14) (fun v18 f16 g17 => zCpi X (d + 1) 289 [.int ((zsO.1 (zmO.1 (2 : Int32) v18) v15) + a2), .int (12 : Int32)] (zs f16 g17) (fun v21 f19 g20 => K v21 f19 g20))) else (zCpi X (d + 1) 289 [.int (v15 + a2), .int (12 : Int32)] (zs f13 g14) (fun v24 f22 g23 => K v24 f22 g23)))))) : zCpi X (d + 2) 101 [.ref 25, .int a1, .int a2, .int a3] (zs f g) K := zCpi_w (d := d + 1) (by decide) rfl (Nat.le_of_ble_eq_true rfl) (zWj_of (op := zop) (F := 3000) (fun _ => false) (fun _ => []) 3000 (zP_rg (a := 101) rfl) h)
set_option maxHeartbeats 4000000 in
set_option maxRecDepth 100000 in
/-- HearsayOrchestra$Thought.bestDelay, at 7 -/
theorem s102_7_27 {X : Nat × (Nat → Int32)} {d : Nat} {f : Nat → Nat → Int32} {g : Nat → Nat → Int64} {K : Int32 → (Nat → Nat → Int32) → (Nat → Nat → Int64) → Prop} {x1 : Int32} {x2 : Int32} {x3 : Int32} {x4 : Int32}
  (h : if (f 27 1) ≤ x4 then (K x2 f g) else (zCpi X (d + 1) 103 [.ref 27, .int x4, .int x1] (zs f g) (fun v3 f1 g2 => if v3 ≤ x3 then (zWp X (d + 1) zm102 7 [.ref 27, .int x1, .int x2, .int x3, .int (x4 + (1 : Int32)), .null] [] (zs f1 g2) (zQi K)) else (zWp X (d + 1) zm102 7 [.ref 27, .int x1, .int x4, .int v3, .int (x4 + (1 : Int32)), .null] [] (zs f1 g2) (zQi K))))) : zWp X (d + 1) zm102 7 [.ref 27, .int x1, .int x2, .int x3, .int x4, .null] [] (zs f g) (zQi K) := zWj_of (op := zop) (F := 3000) (fun pc => pc == 7) (fun pc => if pc = 7 then [5] else []) 3000 (zP_rg (a := 102) rfl) h
set_option maxHeartbeats 4000000 in
set_option maxRecDepth 100000 in
/-- HearsayOrchestra$Thought.bestDelay -/
theorem e102_27 {X : Nat × (Nat → Int32)} {d : Nat} {f : Nat → Nat → Int32} {g : Nat → Nat → Int64} {K : Int32 → (Nat → Nat → Int32) → (Nat → Nat → Int64) → Prop} {a1 : Int32}
  (h : zWp X (d + 1) zm102 7 [.ref 27, .int a1, .int (-1 : Int32), .int (-1 : Int32), .int (1 : Int32), .null] [] (zs f g) (zQi K)) : zCpi X (d + 2) 102 [.ref 27, .int a1] (zs f g) K := zCpi_w (d := d + 1) (by decide) rfl (Nat.le_of_ble_eq_true rfl) (zWj_of (op := zop) (F := 3000) (fun pc => pc == 7) (fun pc => if pc = 7 then [5] else []) 3000 (zP_rg (a := 102) rfl) h)
set_option maxHeartbeats 4000000 in
set_option maxRecDepth 100000 in
/-- HearsayOrchestra$Thought.sweetCouples, at 5 -/
theorem s103_5_27 {X : Nat × (Nat → Int32)} {d : Nat} {f : Nat → Nat → Int32} {g : Nat → Nat → Int64} {K : Int32 → (Nat → Nat → Int32) → (Nat → Nat → Int64) → Prop} {x1 : Int32} {x2 : Int32} {x3 : Int32} {x4 : Int32}
  (h : if (f 27 1) ≤ (x4 + x1) then (K x3 f g) else (zCpi X (d + 1) 68 [.ref 27, .int (x4 + x1)] (zs f g) (fun v3 f1 g2 => zCpi X (d + 1) 68 [.ref 27, .int x4] (zs f1 g2) (fun v6 f4 g5 => zCpi X (d + 1) 286 [.int (zsO.1 (zsO.1 v3 v6) x2)] (zs f4 g5) (fun v9 f7 g8 => if (12 : Int32) = 0 then False else (if (zrO.1 v9 (12 : Int32)) = 0 then (zWp X (d + 1) zm103 5 [.ref 27, .int x1, .int x2, .int (x3 + (1 : Int32)), .int (x4 + (1 : Int32)), .null] [] (zs f7 g8) (zQi K)) else (if (zrO.1 v9 (12 : Int32)) = (3 : Int32) then (zWp X (d + 1) zm103 5 [.ref 27, .int x1, .int x2, .int (x3 + (1 : Int32)), .int (x4 + (1 : Int32)), .null] [] (zs f7 g8) (zQi K)) else (if (zrO.1 v9 (12 : Int32)) = (4 : Int32) then (zWp X (d + 1) zm103 5 [.ref 27, .int x1, .int x2, .int (x3 + (1 : Int32)), .int (x4 + (1 : Int32)), .null] [] (zs f7 g8) (zQi K)) else (zCpi X (d + 1) 124 [.int (zrO.1 v9 (12 : Int32)), .int (7 : Int32), .int (9 : Int32)] (zs f7 g8) (fun v12 f10 g11 => if v12 = 0 then (zWp X (d + 1) zm103 5 [.ref 27, .int x1, .int x2, .int x3, .int (x4 + (1 : Int32)), .null] [] (zs f10 g11) (zQi K)) else (zWp X (d + 1) zm103 5 [.ref 27, .int x1, .int x2, .int (x3 + (1 : Int32)), .int (x4 + (1 : Int32)), .null] [] (zs f10 g11) (zQi K)))))))))))) : zWp X (d + 1) zm103 5 [.ref 27, .int x1, .int x2, .int x3, .int x4, .null] [] (zs f g) (zQi K) := zWj_of (op := zop) (F := 3000) (fun pc => pc == 5) (fun pc => if pc = 5 then [5] else []) 3000 (zP_rg (a := 103) rfl) h
set_option maxHeartbeats 4000000 in
set_option maxRecDepth 100000 in
/-- HearsayOrchestra$Thought.sweetCouples -/
theorem e103_27 {X : Nat × (Nat → Int32)} {d : Nat} {f : Nat → Nat → Int32} {g : Nat → Nat → Int64} {K : Int32 → (Nat → Nat → Int32) → (Nat → Nat → Int64) → Prop} {a1 : Int32} {a2 : Int32}
  (h : zWp X (d + 1) zm103 5 [.ref 27, .int a1, .int a2, .int (0 : Int32), .int (0 : Int32), .null] [] (zs f g) (zQi K)) : zCpi X (d + 2) 103 [.ref 27, .int a1, .int a2] (zs f g) K := zCpi_w (d := d + 1) (by decide) rfl (Nat.le_of_ble_eq_true rfl) (zWj_of (op := zop) (F := 3000) (fun pc => pc == 5) (fun pc => if pc = 5 then [5] else []) 3000 (zP_rg (a := 103) rfl) h)
set_option maxHeartbeats 4000000 in
set_option maxRecDepth 100000 in
/-- HearsayOrchestra$Thought.longestTwice, at 7 -/
theorem s104_7_27 {X : Nat × (Nat → Int32)} {d : Nat} {f : Nat → Nat → Int32} {g : Nat → Nat → Int64} {K : Int32 → (Nat → Nat → Int32) → (Nat → Nat → Int64) → Prop} {x1 : Int32} {x2 : Int32} {x3 : Int32} {x4 : Int32}
  (h : if (f 27 1) ≤ x4 then (if x1 = 0 then (K x2 f g) else (K x3 f g)) else (zWp X (d + 1) zm104 22 [.ref 27, .int x1, .int x2, .int x3, .int x4, .int (x4 + (1 : Int32)), .null] [] (zs f g) (zQi K))) : zWp X (d + 1) zm104 7 [.ref 27, .int x1, .int x2, .int x3, .int x4, .null, .null] [] (zs f g) (zQi K) := zWj_of (op := zop) (F := 3000) (fun pc => pc == 7 || pc == 22) (fun pc => if pc = 7 then [5] else if pc = 22 then [6] else []) 3000 (zP_rg (a := 104) rfl) h
set_option maxHeartbeats 4000000 in
set_option maxRecDepth 100000 in
/-- HearsayOrchestra$Thought.longestTwice, at 22 -/
theorem s104_22_27 {X : Nat × (Nat → Int32)} {d : Nat} {f : Nat → Nat → Int32} {g : Nat → Nat → Int64} {K : Int32 → (Nat → Nat → Int32) → (Nat → Nat → Int64) → Prop} {x1 : Int32} {x2 : Int32} {x3 : Int32} {x4 : Int32} {x5 : Int32}
  (h : if (f 27 1) ≤ x5 then (zWp X (d + 1) zm104 7 [.ref 27, .int x1, .int x2, .int x3, .int (x4 + (1 : Int32)), .null, .null] [] (zs f g) (zQi K)) else (zCpi X (d + 1) 105 [.ref 27, .int x4, .int x5] (zs f g) (fun v3 f1 g2 => if v3 ≤ x2 then (zWp X (d + 1) zm104 22 [.ref 27, .int x1, .int x2, .int x3, .int x4, .int (x5 + (1 : Int32)), .null] [] (zs f1 g2) (zQi K)) else (zWp X (d + 1) zm104 22 [.ref 27, .int x1, .int v3, .int x4, .int x4, .int (x5 + (1 : Int32)), .null] [] (zs f1 g2) (zQi K))))) : zWp X (d + 1) zm104 22 [.ref 27, .int x1, .int x2, .int x3, .int x4, .int x5, .null] [] (zs f g) (zQi K) := zWj_of (op := zop) (F := 3000) (fun pc => pc == 7 || pc == 22) (fun pc => if pc = 7 then [5] else if pc = 22 then [6] else []) 3000 (zP_rg (a := 104) rfl) h
set_option maxHeartbeats 4000000 in
set_option maxRecDepth 100000 in
/-- HearsayOrchestra$Thought.longestTwice -/
theorem e104_27 {X : Nat × (Nat → Int32)} {d : Nat} {f : Nat → Nat → Int32} {g : Nat → Nat → Int64} {K : Int32 → (Nat → Nat → Int32) → (Nat → Nat → Int64) → Prop} {a1 : Int32}
  (h : zWp X (d + 1) zm104 7 [.ref 27, .int a1, .int (0 : Int32), .int (-1 : Int32), .int (0 : Int32), .null, .null] [] (zs f g) (zQi K)) : zCpi X (d + 2) 104 [.ref 27, .int a1] (zs f g) K := zCpi_w (d := d + 1) (by decide) rfl (Nat.le_of_ble_eq_true rfl) (zWj_of (op := zop) (F := 3000) (fun pc => pc == 7 || pc == 22) (fun pc => if pc = 7 then [5] else if pc = 22 then [6] else []) 3000 (zP_rg (a := 104) rfl) h)
set_option maxHeartbeats 4000000 in
set_option maxRecDepth 100000 in
/-- HearsayOrchestra$Thought.alike, at 2 -/
theorem s105_2_27 {X : Nat × (Nat → Int32)} {d : Nat} {f : Nat → Nat → Int32} {g : Nat → Nat → Int64} {K : Int32 → (Nat → Nat → Int32) → (Nat → Nat → Int64) → Prop} {x1 : Int32} {x2 : Int32} {x3 : Int32}
  (h : if (f 27 1) ≤ (x2 + x3) then (K x3 f g) else (zCpi X (d + 1) 68 [.ref 27, .int (x1 + x3)] (zs f g) (fun v3 f1 g2 => zCpi X (d + 1) 68 [.ref 27, .int (x2 + x3)] (zs f1 g2) (fun v6 f4 g5 => if v3 = v6 then (zWp X (d + 1) zm105 2 [.ref 27, .int x1, .int x2, .int (x3 + (1 : Int32))] [] (zs f4 g5) (zQi K)) else (K x3 f4 g5))))) : zWp X (d + 1) zm105 2 [.ref 27, .int x1, .int x2, .int x3] [] (zs f g) (zQi K) := zWj_of (op := zop) (F := 3000) (fun pc => pc == 2) (fun _ => []) 3000 (zP_rg (a := 105) rfl) h
set_option maxHeartbeats 4000000 in
set_option maxRecDepth 100000 in
/-- HearsayOrchestra$Thought.alike -/
theorem e105_27 {X : Nat × (Nat → Int32)} {d : Nat} {f : Nat → Nat → Int32} {g : Nat → Nat → Int64} {K : Int32 → (Nat → Nat → Int32) → (Nat → Nat → Int64) → Prop} {a1 : Int32} {a2 : Int32}
  (h : zWp X (d + 1) zm105 2 [.ref 27, .int a1, .int a2, .int (0 : Int32)] [] (zs f g) (zQi K)) : zCpi X (d + 2) 105 [.ref 27, .int a1, .int a2] (zs f g) K := zCpi_w (d := d + 1) (by decide) rfl (Nat.le_of_ble_eq_true rfl) (zWj_of (op := zop) (F := 3000) (fun pc => pc == 2) (fun _ => []) 3000 (zP_rg (a := 105) rfl) h)
set_option maxHeartbeats 4000000 in
set_option maxRecDepth 100000 in
/-- HearsayOrchestra$Thought.ring, at 2 -/
theorem s106_2_169 {X : Nat × (Nat → Int32)} {d : Nat} {f : Nat → Nat → Int32} {g : Nat → Nat → Int64} {K : (Nat → Nat → Int32) → (Nat → Nat → Int64) → Prop} {x1 : Int32} {x2 : Int32} {x3 : Int32}
  (h : if (8 : Int32) ≤ x3 then (zCpi X (d + 1) 288 [.int x1, .int (8 : Int32)] (zs f g) (fun v3 f1 g2 => zWp X (d + 1) zm106 37 [.ref 169, .int x1, .int x2, .int v3, .int (0 : Int32), .null] [] (zs f1 g2) (zQv K))) else (if x3 < 0 ∨ 8 ≤ x3.toNatClampNeg then False else (zWp X (d + 1) zm106 2 [.ref 169, .int x1, .int x2, .int (x3 + (1 : Int32)), .null, .null] [] (zs (zuI f 173 x3.toNatClampNeg x3) g) (zQv K)))) : zWp X (d + 1) zm106 2 [.ref 169, .int x1, .int x2, .int x3, .null, .null] [] (zs f g) (zQv K) := zWj_of (op := zop) (F := 3000) (fun pc => pc == 2 || pc == 37 || pc == 49) (fun pc => if pc = 37 then [5] else []) 3000 (zP_rg (a := 106) rfl) h
set_option maxHeartbeats 4000000 in
set_option maxRecDepth 100000 in
/-- HearsayOrchestra$Thought.ring, at 37 -/
theorem s106_37_169 {X : Nat × (Nat → Int32)} {d : Nat} {f : Nat → Nat → Int32} {g : Nat → Nat → Int64} {K : (Nat → Nat → Int32) → (Nat → Nat → Int64) → Prop} {x1 : Int32} {x2 : Int32} {x3 : Int32} {x4 : Int32}
  (h : if x2 ≤ x4 then (K f g) else (if (2 : Int32) = 0 then False else (zWp X (d + 1) zm106 49 [.ref 169, .int x1, .int x2, .int x3, .int x4, .int (zrO.1 x4 (2 : Int32))] [] (zs f g) (zQv K)))) : zWp X (d + 1) zm106 37 [.ref 169, .int x1, .int x2, .int x3, .int x4, .null] [] (zs f g) (zQv K) := zWj_of (op := zop) (F := 3000) (fun pc => pc == 2 || pc == 37 || pc == 49) (fun pc => if pc = 37 then [5] else []) 3000 (zP_rg (a := 106) rfl) h
set_option maxHeartbeats 4000000 in
set_option maxRecDepth 100000 in
/-- HearsayOrchestra$Thought.ring, at 49 -/
theorem s106_49_169 {X : Nat × (Nat → Int32)} {d : Nat} {f : Nat → Nat → Int32} {g : Nat → Nat → Int64} {K : (Nat → Nat → Int32) → (Nat → Nat → Int64) → Prop} {x1 : Int32} {x2 : Int32} {x3 : Int32} {x4 : Int32} {x5 : Int32}
  (h : if x3 ≤ (x5 + (1 : Int32)) then (zWp X (d + 1) zm106 37 [.ref 169, .int x1, .int x2, .int x3, .int (x4 + (1 : Int32)), .null] [] (zs f g) (zQv K)) else (zCpv X (d + 1) 96 [.ref 173, .int x5, .int (x5 + (1 : Int32))] (zs f g) (fun f1 g2 => zWp X (d + 1) zm106 49 [.ref 169, .int x1, .int x2, .int x3, .int x4, .int (x5 + (2 : Int32))] [] (zs f1 g2) (zQv K)))) : zWp X (d + 1) zm106 49 [.ref 169, .int x1, .int x2, .int x3, .int x4, .int x5] [] (zs f g) (zQv K) := zWj_of (op := zop) (F := 3000) (fun pc => pc == 2 || pc == 37 || pc == 49) (fun pc => if pc = 37 then [5] else []) 3000 (zP_rg (a := 106) rfl) h
set_option maxHeartbeats 4000000 in
set_option maxRecDepth 100000 in
/-- HearsayOrchestra$Thought.ring -/
theorem e106_169 {X : Nat × (Nat → Int32)} {d : Nat} {f : Nat → Nat → Int32} {g : Nat → Nat → Int64} {K : (Nat → Nat → Int32) → (Nat → Nat → Int64) → Prop} {a1 : Int32} {a2 : Int32}
  (h : zWp X (d + 1) zm106 2 [.ref 169, .int a1, .int a2, .int (0 : Int32), .null, .null] [] (zs f g) (zQv K)) : zCpv X (d + 2) 106 [.ref 169, .int a1, .int a2] (zs f g) K := zCpv_w (d := d + 1) (by decide) rfl (Nat.le_of_ble_eq_true rfl) (zWj_of (op := zop) (F := 3000) (fun pc => pc == 2 || pc == 37 || pc == 49) (fun pc => if pc = 37 then [5] else []) 3000 (zP_rg (a := 106) rfl) h)
set_option maxHeartbeats 4000000 in
set_option maxRecDepth 100000 in
/-- HearsayOrchestra$Thought.bellsOutOfOrder, at 4 -/
theorem s107_4_169 {X : Nat × (Nat → Int32)} {d : Nat} {f : Nat → Nat → Int32} {g : Nat → Nat → Int64} {K : Int32 → (Nat → Nat → Int32) → (Nat → Nat → Int64) → Prop} {x1 : Int32} {x2 : Int32} {x3 : Int32}
  (h : zCpi X (d + 1) 288 [.int x1, .int (8 : Int32)] (zs f g) (fun v3 f1 g2 => if v3 ≤ x3 then (K x2 f1 g2) else (zWp X (d + 1) zm107 20 [.ref 169, .int x1, .int x2, .int x3, .int (0 : Int32)] [] (zs f1 g2) (zQi K)))) : zWp X (d + 1) zm107 4 [.ref 169, .int x1, .int x2, .int x3, .null] [] (zs f g) (zQi K) := zWj_of (op := zop) (F := 3000) (fun pc => pc == 4 || pc == 20) (fun pc => if pc = 4 then [4] else []) 3000 (zP_rg (a := 107) rfl) h
set_option maxHeartbeats 4000000 in
set_option maxRecDepth 100000 in
/-- HearsayOrchestra$Thought.bellsOutOfOrder, at 20 -/
theorem s107_20_169 {X : Nat × (Nat → Int32)} {d : Nat} {f : Nat → Nat → Int32} {g : Nat → Nat → Int64} {K : Int32 → (Nat → Nat → Int32) → (Nat → Nat → Int64) → Prop} {x1 : Int32} {x2 : Int32} {x3 : Int32} {x4 : Int32}
  (h : if x3 ≤ x4 then (zWp X (d + 1) zm107 4 [.ref 169, .int x1, .int x2, .int (x3 + (1 : Int32)), .null] [] (zs f g) (zQi K)) else (if x4 < 0 ∨ 8 ≤ x4.toNatClampNeg then False else (if x3 < 0 ∨ 8 ≤ x3.toNatClampNeg then False else (if (f 173 x4.toNatClampNeg) ≤ (f 173 x3.toNatClampNeg) then (zWp X (d + 1) zm107 20 [.ref 169, .int x1, .int (x2 + (0 : Int32)), .int x3, .int (x4 + (1 : Int32))] [] (zs f g) (zQi K)) else (zWp X (d + 1) zm107 20 [.ref 169, .int x1, .int (x2 + (1 : Int32)), .int x3, .int (x4 + (1 : Int32))] [] (zs f g) (zQi K)))))) : zWp X (d + 1) zm107 20 [.ref 169, .int x1, .int x2, .int x3, .int x4] [] (zs f g) (zQi K) := zWj_of (op := zop) (F := 3000) (fun pc => pc == 4 || pc == 20) (fun pc => if pc = 4 then [4] else []) 3000 (zP_rg (a := 107) rfl) h
set_option maxHeartbeats 4000000 in
set_option maxRecDepth 100000 in
/-- HearsayOrchestra$Thought.bellsOutOfOrder -/
theorem e107_169 {X : Nat × (Nat → Int32)} {d : Nat} {f : Nat → Nat → Int32} {g : Nat → Nat → Int64} {K : Int32 → (Nat → Nat → Int32) → (Nat → Nat → Int64) → Prop} {a1 : Int32}
  (h : zWp X (d + 1) zm107 4 [.ref 169, .int a1, .int (0 : Int32), .int (0 : Int32), .null] [] (zs f g) (zQi K)) : zCpi X (d + 2) 107 [.ref 169, .int a1] (zs f g) K := zCpi_w (d := d + 1) (by decide) rfl (Nat.le_of_ble_eq_true rfl) (zWj_of (op := zop) (F := 3000) (fun pc => pc == 4 || pc == 20) (fun pc => if pc = 4 then [4] else []) 3000 (zP_rg (a := 107) rfl) h)
set_option maxHeartbeats 4000000 in
set_option maxRecDepth 100000 in
/-- HearsayOrchestra$Thought.bellAt -/
theorem e108_169 {X : Nat × (Nat → Int32)} {d : Nat} {f : Nat → Nat → Int32} {g : Nat → Nat → Int64} {K : Int32 → (Nat → Nat → Int32) → (Nat → Nat → Int64) → Prop} {a1 : Int32}
  (h : zCpi X (d + 1) 124 [.int a1, .int (0 : Int32), .int (zsO.1 (8 : Int32) (1 : Int32))] (zs f g) (fun v3 f1 g2 => if v3 = 0 then (K (-1 : Int32) f1 g2) else (if a1 < 0 ∨ 8 ≤ a1.toNatClampNeg then False else (K (f1 173 a1.toNatClampNeg) f1 g2)))) : zCpi X (d + 2) 108 [.ref 169, .int a1] (zs f g) K := zCpi_w (d := d + 1) (by decide) rfl (Nat.le_of_ble_eq_true rfl) (zWj_of (op := zop) (F := 3000) (fun _ => false) (fun _ => []) 3000 (zP_rg (a := 108) rfl) h)
set_option maxHeartbeats 4000000 in
set_option maxRecDepth 100000 in
/-- HearsayOrchestra$Thought.easiestFingers, at 2 -/
theorem s109_2_169_29 {X : Nat × (Nat → Int32)} {d : Nat} {f : Nat → Nat → Int32} {g : Nat → Nat → Int64} {K : Int32 → (Nat → Nat → Int32) → (Nat → Nat → Int64) → Prop} {x2 : Int32} {x3 : Int32}
  (h : if (4 : Int32) ≤ x3 then (zWp X (d + 1) zm109 27 [.ref 169, .ref 29, .int x2, .int (zsO.1 (f 29 1) (1 : Int32)), .null] [] (zs f g) (zQi K)) else (if x3 < 0 ∨ 4 ≤ x3.toNatClampNeg then False else (zWp X (d + 1) zm109 2 [.ref 169, .ref 29, .int x2, .int (x3 + (1 : Int32)), .null] [] (zs (zuI f 175 x3.toNatClampNeg (0 : Int32)) g) (zQi K)))) : zWp X (d + 1) zm109 2 [.ref 169, .ref 29, .int x2, .int x3, .null] [] (zs f g) (zQi K) := zWj_of (op := zop) (F := 3000) (fun pc => pc == 2 || pc == 27 || pc == 34 || pc == 63 || pc == 101) (fun pc => if pc = 27 then [4] else []) 3000 (zP_rg (a := 109) rfl) h
set_option maxHeartbeats 4000000 in
set_option maxRecDepth 100000 in
/-- HearsayOrchestra$Thought.easiestFingers, at 27 -/
theorem s109_27_169_29 {X : Nat × (Nat → Int32)} {d : Nat} {f : Nat → Nat → Int32} {g : Nat → Nat → Int64} {K : Int32 → (Nat → Nat → Int32) → (Nat → Nat → Int64) → Prop} {x2 : Int32} {x3 : Int32}
  (h : if x3 < 0 then (zWp X (d + 1) zm109 101 [.ref 169, .ref 29, .int x2, .int (0 : Int32), .int (1 : Int32)] [] (zs f g) (zQi K)) else (zWp X (d + 1) zm109 34 [.ref 169, .ref 29, .int x2, .int x3, .int (0 : Int32)] [] (zs f g) (zQi K))) : zWp X (d + 1) zm109 27 [.ref 169, .ref 29, .int x2, .int x3, .null] [] (zs f g) (zQi K) := zWj_of (op := zop) (F := 3000) (fun pc => pc == 2 || pc == 27 || pc == 34 || pc == 63 || pc == 101) (fun pc => if pc = 27 then [4] else []) 3000 (zP_rg (a := 109) rfl) h
set_option maxHeartbeats 4000000 in
set_option maxRecDepth 100000 in
/-- HearsayOrchestra$Thought.easiestFingers, at 34 -/
theorem s109_34_169_29 {X : Nat × (Nat → Int32)} {d : Nat} {f : Nat → Nat → Int32} {g : Nat → Nat → Int64} {K : Int32 → (Nat → Nat → Int32) → (Nat → Nat → Int64) → Prop} {x2 : Int32} {x3 : Int32} {x4 : Int32}
  (h : if (4 : Int32) ≤ x4 then (zWp X (d + 1) zm109 63 [.ref 169, .ref 29, .int x2, .int x3, .int (0 : Int32)] [] (zs f g) (zQi K)) else (if x4 < 0 ∨ 4 ≤ x4.toNatClampNeg then False else (if x4 < 0 ∨ 4 ≤ x4.toNatClampNeg then False else (zWp X (d + 1) zm109 34 [.ref 169, .ref 29, .int x2, .int x3, .int (x4 + (1 : Int32))] [] (zs (zuI f 176 x4.toNatClampNeg (f 175 x4.toNatClampNeg)) g) (zQi K))))) : zWp X (d + 1) zm109 34 [.ref 169, .ref 29, .int x2, .int x3, .int x4] [] (zs f g) (zQi K) := zWj_of (op := zop) (F := 3000) (fun pc => pc == 2 || pc == 27 || pc == 34 || pc == 63 || pc == 101) (fun pc => if pc = 27 then [4] else []) 3000 (zP_rg (a := 109) rfl) h
set_option maxHeartbeats 4000000 in
set_option maxRecDepth 100000 in
/-- HearsayOrchestra$Thought.easiestFingers, at 63 -/
theorem s109_63_169_29 {X : Nat × (Nat → Int32)} {d : Nat} {f : Nat → Nat → Int32} {g : Nat → Nat → Int64} {K : Int32 → (Nat → Nat → Int32) → (Nat → Nat → Int64) → Prop} {x2 : Int32} {x3 : Int32} {x4 : Int32}
  (h : if (4 : Int32) ≤ x4 then (zWp X (d + 1) zm109 27 [.ref 169, .ref 29, .int x2, .int (x3 + (-1 : Int32)), .null] [] (zs f g) (zQi K)) else (zCpi X (d + 1) 110 [.ref 169, .ref 29, .int x3, .int x4] (zs f g) (fun v3 f1 g2 => if x4 < 0 ∨ 4 ≤ x4.toNatClampNeg then False else (zWp X (d + 1) zm109 63 [.ref 169, .ref 29, .int x2, .int x3, .int (x4 + (1 : Int32))] [] (zs (zuI f1 175 x4.toNatClampNeg v3) g2) (zQi K))))) : zWp X (d + 1) zm109 63 [.ref 169, .ref 29, .int x2, .int x3, .int x4] [] (zs f g) (zQi K) := zWj_of (op := zop) (F := 3000) (fun pc => pc == 2 || pc == 27 || pc == 34 || pc == 63 || pc == 101) (fun pc => if pc = 27 then [4] else []) 3000 (zP_rg (a := 109) rfl) h
set_option maxHeartbeats 4000000 in
set_option maxRecDepth 100000 in
/-- HearsayOrchestra$Thought.easiestFingers, at 101 -/
theorem s109_101_169_29 {X : Nat × (Nat → Int32)} {d : Nat} {f : Nat → Nat → Int32} {g : Nat → Nat → Int64} {K : Int32 → (Nat → Nat → Int32) → (Nat → Nat → Int64) → Prop} {x2 : Int32} {x3 : Int32} {x4 : Int32}
  (h : if (4 : Int32) ≤ x4 then (if (f 29 1) = 0 then (if x2 = 0 then (K (0 : Int32) f g) else (K (-1 : Int32) f g)) else (if x3 < 0 ∨ 4 ≤ x3.toNatClampNeg then False else (if (f 175 x3.toNatClampNeg) < (Int32.ofNat 1000000) then (if x2 = 0 then (if x3 < 0 ∨ 4 ≤ x3.toNatClampNeg then False else (K (f 175 x3.toNatClampNeg) f g)) else (K x3 f g)) else (K (-1 : Int32) f g)))) else (if x4 < 0 ∨ 4 ≤ x4.toNatClampNeg then False else (if x3 < 0 ∨ 4 ≤ x3.toNatClampNeg then False else (if (f 175 x3.toNatClampNeg) ≤ (f 175 x4.toNatClampNeg) then (zWp X (d + 1) zm109 101 [.ref 169, .ref 29, .int x2, .int x3, .int (x4 + (1 : Int32))] [] (zs f g) (zQi K)) else (zWp X (d + 1) zm109 101 [.ref 169, .ref 29, .int x2, .int x4, .int (x4 + (1 : Int32))] [] (zs f g) (zQi K)))))) : zWp X (d + 1) zm109 101 [.ref 169, .ref 29, .int x2, .int x3, .int x4] [] (zs f g) (zQi K) := zWj_of (op := zop) (F := 3000) (fun pc => pc == 2 || pc == 27 || pc == 34 || pc == 63 || pc == 101) (fun pc => if pc = 27 then [4] else []) 3000 (zP_rg (a := 109) rfl) h
set_option maxHeartbeats 4000000 in
set_option maxRecDepth 100000 in
/-- HearsayOrchestra$Thought.easiestFingers -/
theorem e109_169_29 {X : Nat × (Nat → Int32)} {d : Nat} {f : Nat → Nat → Int32} {g : Nat → Nat → Int64} {K : Int32 → (Nat → Nat → Int32) → (Nat → Nat → Int64) → Prop} {a2 : Int32}
  (h : zWp X (d + 1) zm109 2 [.ref 169, .ref 29, .int a2, .int (0 : Int32), .null] [] (zs f g) (zQi K)) : zCpi X (d + 2) 109 [.ref 169, .ref 29, .int a2] (zs f g) K := zCpi_w (d := d + 1) (by decide) rfl (Nat.le_of_ble_eq_true rfl) (zWj_of (op := zop) (F := 3000) (fun pc => pc == 2 || pc == 27 || pc == 34 || pc == 63 || pc == 101) (fun pc => if pc = 27 then [4] else []) 3000 (zP_rg (a := 109) rfl) h)
set_option maxHeartbeats 4000000 in
set_option maxRecDepth 100000 in
/-- HearsayOrchestra$Thought.costOnString, at 44 -/
theorem s110_44_169_29 {X : Nat × (Nat → Int32)} {d : Nat} {f : Nat → Nat → Int32} {g : Nat → Nat → Int64} {K : Int32 → (Nat → Nat → Int32) → (Nat → Nat → Int64) → Prop} {x2 : Int32} {x3 : Int32} {x4 : Int32} {x5 : Int32} {x6 : Int32}
  (h : if (4 : Int32) ≤ x6 then (K x5 f g) else (zCpi X (d + 1) 68 [.ref 29, .int (x2 + (1 : Int32))] (zs f g) (fun v3 f1 g2 => zCpi X (d + 1) 286 [.int (zsO.1 (zsO.1 v3 (zmO.1 (5 : Int32) x6)) x4)] (zs f1 g2) (fun v6 f4 g5 => zCpi X (d + 1) 286 [.int (zsO.1 x6 x3)] (zs f4 g5) (fun v9 f7 g8 => if x6 < 0 ∨ 4 ≤ x6.toNatClampNeg then False else (zCpi X (d + 1) 288 [.int x5, .int ((f7 176 x6.toNatClampNeg) + (v6 + (zmO.1 (2 : Int32) v9)))] (zs f7 g8) (fun v12 f10 g11 => zWp X (d + 1) zm110 44 [.ref 169, .ref 29, .int x2, .int x3, .int x4, .int v12, .int (x6 + (1 : Int32)), .null] [] (zs f10 g11) (zQi K)))))))) : zWp X (d + 1) zm110 44 [.ref 169, .ref 29, .int x2, .int x3, .int x4, .int x5, .int x6, .null] [] (zs f g) (zQi K) := zWj_of (op := zop) (F := 3000) (fun pc => pc == 44) (fun pc => if pc = 44 then [7] else []) 3000 (zP_rg (a := 110) rfl) h
set_option maxHeartbeats 4000000 in
set_option maxRecDepth 100000 in
/-- HearsayOrchestra$Thought.costOnString -/
theorem e110_169_29 {X : Nat × (Nat → Int32)} {d : Nat} {f : Nat → Nat → Int32} {g : Nat → Nat → Int64} {K : Int32 → (Nat → Nat → Int32) → (Nat → Nat → Int64) → Prop} {a2 : Int32} {a3 : Int32}
  (h : zCpi X (d + 1) 68 [.ref 29, .int a2] (zs f g) (fun v3 f1 g2 => zCpi X (d + 1) 124 [.int (zsO.1 v3 (zmO.1 (5 : Int32) a3)), .int (0 : Int32), .int (9 : Int32)] (zs f1 g2) (fun v6 f4 g5 => if v6 = 0 then (K (Int32.ofNat 1000000) f4 g5) else (if a2 = (zsO.1 (f4 29 1) (1 : Int32)) then (K (0 : Int32) f4 g5) else (zWp X (d + 1) zm110 44 [.ref 169, .ref 29, .int a2, .int a3, .int (zsO.1 v3 (zmO.1 (5 : Int32) a3)), .int (Int32.ofNat 1000000), .int (0 : Int32), .null] [] (zs f4 g5) (zQi K)))))) : zCpi X (d + 2) 110 [.ref 169, .ref 29, .int a2, .int a3] (zs f g) K := zCpi_w (d := d + 1) (by decide) rfl (Nat.le_of_ble_eq_true rfl) (zWj_of (op := zop) (F := 3000) (fun pc => pc == 44) (fun pc => if pc = 44 then [7] else []) 3000 (zP_rg (a := 110) rfl) h)
set_option maxHeartbeats 4000000 in
set_option maxRecDepth 100000 in
/-- HearsayOrchestra$Thought.peace, at 2 -/
theorem s111_2_169_31 {X : Nat × (Nat → Int32)} {d : Nat} {f : Nat → Nat → Int32} {g : Nat → Nat → Int64} {K : Int32 → (Nat → Nat → Int32) → (Nat → Nat → Int64) → Prop} {x2 : Int32} {x3 : Int32}
  (h : if (10 : Int32) ≤ x3 then (zWp X (d + 1) zm111 23 [.ref 169, .ref 31, .int x2, .int (0 : Int32), .null, .null, .null, .null] [] (zs f g) (zQi K)) else (if x3 < 0 ∨ 10 ≤ x3.toNatClampNeg then False else (zWp X (d + 1) zm111 2 [.ref 169, .ref 31, .int x2, .int (x3 + (1 : Int32)), .null, .null, .null, .null] [] (zs (zuI f 174 x3.toNatClampNeg (0 : Int32)) g) (zQi K)))) : zWp X (d + 1) zm111 2 [.ref 169, .ref 31, .int x2, .int x3, .null, .null, .null, .null] [] (zs f g) (zQi K) := zWj_of (op := zop) (F := 3000) (fun pc => pc == 2 || pc == 23 || pc == 90) (fun pc => if pc = 23 then [4, 5, 6] else if pc = 90 then [7] else []) 3000 (zP_rg (a := 111) rfl) h
set_option maxHeartbeats 4000000 in
set_option maxRecDepth 100000 in
/-- HearsayOrchestra$Thought.peace, at 23 -/
theorem s111_23_169_31 {X : Nat × (Nat → Int32)} {d : Nat} {f : Nat → Nat → Int32} {g : Nat → Nat → Int64} {K : Int32 → (Nat → Nat → Int32) → (Nat → Nat → Int64) → Prop} {x2 : Int32} {x3 : Int32}
  (h : if (f 31 1) ≤ x3 then (zWp X (d + 1) zm111 90 [.ref 169, .ref 31, .int x2, .int (-1 : Int32), .int (0 : Int32), .int (0 : Int32), .int (0 : Int32), .null] [] (zs f g) (zQi K)) else (zCpi X (d + 1) 68 [.ref 31, .int x3] (zs f g) (fun v3 f1 g2 => zCpi X (d + 1) 287 [.int (0 : Int32), .int v3] (zs f1 g2) (fun v6 f4 g5 => if (10 : Int32) = 0 then False else (if (10 : Int32) = 0 then False else (if (10 : Int32) = 0 then False else (if (zrO.1 (zdO.1 v6 (10 : Int32)) (10 : Int32)) < 0 ∨ 10 ≤ (zrO.1 (zdO.1 v6 (10 : Int32)) (10 : Int32)).toNatClampNeg then False else (if (zrO.1 (zdO.1 v6 (10 : Int32)) (10 : Int32)) < 0 ∨ 10 ≤ (zrO.1 (zdO.1 v6 (10 : Int32)) (10 : Int32)).toNatClampNeg then False else (zWp X (d + 1) zm111 23 [.ref 169, .ref 31, .int x2, .int (x3 + (1 : Int32)), .null, .null, .null, .null] [] (zs (zuI f4 174 ((zrO.1 (zdO.1 v6 (10 : Int32)) (10 : Int32)).toNatClampNeg) ((f4 174 ((zrO.1 (zdO.1 v6 (10 : Int32)) (10 : Int32)).toNatClampNeg)) ||| (zhO.1 (1 : Int32) (zrO.1 v6 (10 : Int32))))) g5) (zQi K)))))))))) : zWp X (d + 1) zm111 23 [.ref 169, .ref 31, .int x2, .int x3, .null, .null, .null, .null] [] (zs f g) (zQi K) := zWj_of (op := zop) (F := 3000) (fun pc => pc == 2 || pc == 23 || pc == 90) (fun pc => if pc = 23 then [4, 5, 6] else if pc = 90 then [7] else []) 3000 (zP_rg (a := 111) rfl) h
set_option maxHeartbeats 4000000 in
set_option maxRecDepth 100000 in
/-- HearsayOrchestra$Thought.peace, at 90 -/
theorem s111_90_169_31 {X : Nat × (Nat → Int32)} {d : Nat} {f : Nat → Nat → Int32} {g : Nat → Nat → Int64} {K : Int32 → (Nat → Nat → Int32) → (Nat → Nat → Int64) → Prop} {x2 : Int32} {x3 : Int32} {x4 : Int32} {x5 : Int32} {x6 : Int32}
  (h : if (1024 : Int32) ≤ x6 then (if x2 = 0 then (K x3 f g) else (if x2 = (1 : Int32) then (K x4 f g) else (K x5 f g))) else (zCpi X (d + 1) 284 [.int x6] (zs f g) (fun v3 f1 g2 => if v3 < x3 then (zWp X (d + 1) zm111 90 [.ref 169, .ref 31, .int x2, .int x3, .int x4, .int x5, .int (x6 + (1 : Int32)), .null] [] (zs f1 g2) (zQi K)) else (zCpi X (d + 1) 112 [.ref 169, .int x6] (zs f1 g2) (fun v6 f4 g5 => if v6 = 0 then (zWp X (d + 1) zm111 90 [.ref 169, .ref 31, .int x2, .int x3, .int x4, .int x5, .int (x6 + (1 : Int32)), .null] [] (zs f4 g5) (zQi K)) else (if v3 ≤ x3 then (if v3 ≤ x3 then (zWp X (d + 1) zm111 90 [.ref 169, .ref 31, .int x2, .int v3, .int (x4 + (1 : Int32)), .int x5, .int (x6 + (1 : Int32)), .null] [] (zs f4 g5) (zQi K)) else (zWp X (d + 1) zm111 90 [.ref 169, .ref 31, .int x2, .int v3, .int (x4 + (1 : Int32)), .int x6, .int (x6 + (1 : Int32)), .null] [] (zs f4 g5) (zQi K))) else (if v3 ≤ x3 then (zWp X (d + 1) zm111 90 [.ref 169, .ref 31, .int x2, .int v3, .int (1 : Int32), .int x5, .int (x6 + (1 : Int32)), .null] [] (zs f4 g5) (zQi K)) else (zWp X (d + 1) zm111 90 [.ref 169, .ref 31, .int x2, .int v3, .int (1 : Int32), .int x6, .int (x6 + (1 : Int32)), .null] [] (zs f4 g5) (zQi K))))))))) : zWp X (d + 1) zm111 90 [.ref 169, .ref 31, .int x2, .int x3, .int x4, .int x5, .int x6, .null] [] (zs f g) (zQi K) := zWj_of (op := zop) (F := 3000) (fun pc => pc == 2 || pc == 23 || pc == 90) (fun pc => if pc = 23 then [4, 5, 6] else if pc = 90 then [7] else []) 3000 (zP_rg (a := 111) rfl) h
set_option maxHeartbeats 4000000 in
set_option maxRecDepth 100000 in
/-- HearsayOrchestra$Thought.peace -/
theorem e111_169_31 {X : Nat × (Nat → Int32)} {d : Nat} {f : Nat → Nat → Int32} {g : Nat → Nat → Int64} {K : Int32 → (Nat → Nat → Int32) → (Nat → Nat → Int64) → Prop} {a2 : Int32}
  (h : zWp X (d + 1) zm111 2 [.ref 169, .ref 31, .int a2, .int (0 : Int32), .null, .null, .null, .null] [] (zs f g) (zQi K)) : zCpi X (d + 2) 111 [.ref 169, .ref 31, .int a2] (zs f g) K := zCpi_w (d := d + 1) (by decide) rfl (Nat.le_of_ble_eq_true rfl) (zWj_of (op := zop) (F := 3000) (fun pc => pc == 2 || pc == 23 || pc == 90) (fun pc => if pc = 23 then [4, 5, 6] else if pc = 90 then [7] else []) 3000 (zP_rg (a := 111) rfl) h)
set_option maxHeartbeats 4000000 in
set_option maxRecDepth 100000 in
/-- HearsayOrchestra$Thought.isPeaceful, at 2 -/
theorem s112_2_169 {X : Nat × (Nat → Int32)} {d : Nat} {f : Nat → Nat → Int32} {g : Nat → Nat → Int64} {K : Int32 → (Nat → Nat → Int32) → (Nat → Nat → Int64) → Prop} {x1 : Int32} {x2 : Int32}
  (h : if (10 : Int32) ≤ x2 then (if (1 : Int32) = 0 ∨ (1 : Int32) = 1 then (K (1 : Int32) f g) else False) else (if ((zuO.1 x1 x2) &&& (1 : Int32)) = (1 : Int32) then (if x2 < 0 ∨ 10 ≤ x2.toNatClampNeg then False else (if ((f 174 x2.toNatClampNeg) &&& x1) = 0 then (zWp X (d + 0) zm112 2 [.ref 169, .int x1, .int (x2 + (1 : Int32))] [] (zs f g) (zQi K)) else (if (0 : Int32) = 0 ∨ (0 : Int32) = 1 then (K (0 : Int32) f g) else False))) else (zWp X (d + 0) zm112 2 [.ref 169, .int x1, .int (x2 + (1 : Int32))] [] (zs f g) (zQi K)))) : zWp X (d + 0) zm112 2 [.ref 169, .int x1, .int x2] [] (zs f g) (zQi K) := zWj_of (op := zop) (F := 3000) (fun pc => pc == 2) (fun _ => []) 3000 (zP_rg (a := 112) rfl) h
set_option maxHeartbeats 4000000 in
set_option maxRecDepth 100000 in
/-- HearsayOrchestra$Thought.isPeaceful -/
theorem e112_169 {X : Nat × (Nat → Int32)} {d : Nat} {f : Nat → Nat → Int32} {g : Nat → Nat → Int64} {K : Int32 → (Nat → Nat → Int32) → (Nat → Nat → Int64) → Prop} {a1 : Int32}
  (h : zWp X (d + 0) zm112 2 [.ref 169, .int a1, .int (0 : Int32)] [] (zs f g) (zQi K)) : zCpi X (d + 1) 112 [.ref 169, .int a1] (zs f g) K := zCpi_w (d := d + 0) (by decide) rfl (Nat.le_of_ble_eq_true rfl) (zWj_of (op := zop) (F := 3000) (fun pc => pc == 2) (fun _ => []) 3000 (zP_rg (a := 112) rfl) h)
set_option maxHeartbeats 4000000 in
set_option maxRecDepth 100000 in
/-- HearsayOrchestra$Thought.waysOfBars, at 4 -/
theorem s113_4_169 {X : Nat × (Nat → Int32)} {d : Nat} {f : Nat → Nat → Int32} {g : Nat → Nat → Int64} {K : Int32 → (Nat → Nat → Int32) → (Nat → Nat → Int64) → Prop} {x1 : Int32} {x2 : Int32} {x3 : Int32}
  (h : zCpi X (d + 1) 288 [.int x1, .int (40 : Int32)] (zs f g) (fun v3 f1 g2 => if v3 < x3 then (K x2 f1 g2) else (if x3 = 0 then (zWp X (d + 1) zm113 27 [.ref 169, .int x1, .int (1 : Int32), .int x3, .int (0 : Int32), .null, .null, .null] [] (zs f1 g2) (zQi K)) else (zWp X (d + 1) zm113 27 [.ref 169, .int x1, .int (0 : Int32), .int x3, .int (0 : Int32), .null, .null, .null] [] (zs f1 g2) (zQi K))))) : zWp X (d + 1) zm113 4 [.ref 169, .int x1, .int x2, .int x3, .null, .null, .null, .null] [] (zs f g) (zQi K) := zWj_of (op := zop) (F := 3000) (fun pc => pc == 4 || pc == 27 || pc == 56) (fun pc => if pc = 4 then [4] else if pc = 27 then [5, 6, 7] else []) 3000 (zP_rg (a := 113) rfl) h
set_option maxHeartbeats 4000000 in
set_option maxRecDepth 100000 in
/-- HearsayOrchestra$Thought.waysOfBars, at 27 -/
theorem s113_27_169 {X : Nat × (Nat → Int32)} {d : Nat} {f : Nat → Nat → Int32} {g : Nat → Nat → Int64} {K : Int32 → (Nat → Nat → Int32) → (Nat → Nat → Int64) → Prop} {x1 : Int32} {x2 : Int32} {x3 : Int32} {x4 : Int32}
  (h : if (3 : Int32) ≤ x4 then (zWp X (d + 1) zm113 4 [.ref 169, .int x1, .int x2, .int (x3 + (1 : Int32)), .null, .null, .null, .null] [] (zs f g) (zQi K)) else (if (zsO.1 (zsO.1 x3 (2 : Int32)) x4) = 0 then (zWp X (d + 1) zm113 56 [.ref 169, .int x1, .int x2, .int x3, .int x4, .int (zsO.1 (zsO.1 x3 (2 : Int32)) x4), .int (1 : Int32), .int (0 : Int32)] [] (zs f g) (zQi K)) else (zWp X (d + 1) zm113 56 [.ref 169, .int x1, .int x2, .int x3, .int x4, .int (zsO.1 (zsO.1 x3 (2 : Int32)) x4), .int (0 : Int32), .int (0 : Int32)] [] (zs f g) (zQi K)))) : zWp X (d + 1) zm113 27 [.ref 169, .int x1, .int x2, .int x3, .int x4, .null, .null, .null] [] (zs f g) (zQi K) := zWj_of (op := zop) (F := 3000) (fun pc => pc == 4 || pc == 27 || pc == 56) (fun pc => if pc = 4 then [4] else if pc = 27 then [5, 6, 7] else []) 3000 (zP_rg (a := 113) rfl) h
set_option maxHeartbeats 4000000 in
set_option maxRecDepth 100000 in
/-- HearsayOrchestra$Thought.waysOfBars, at 56 -/
theorem s113_56_169 {X : Nat × (Nat → Int32)} {d : Nat} {f : Nat → Nat → Int32} {g : Nat → Nat → Int64} {K : Int32 → (Nat → Nat → Int32) → (Nat → Nat → Int64) → Prop} {x1 : Int32} {x2 : Int32} {x3 : Int32} {x4 : Int32} {x5 : Int32} {x6 : Int32} {x7 : Int32}
  (h : if (3 : Int32) ≤ x7 then (if ((zmO.1 (3 : Int32) x3) + x4) < 0 ∨ 123 ≤ ((zmO.1 (3 : Int32) x3) + x4).toNatClampNeg then False else (zWp X (d + 1) zm113 27 [.ref 169, .int x1, .int (x2 + x6), .int x3, .int (x4 + (1 : Int32)), .null, .null, .null] [] (zs (zuI f 177 (((zmO.1 (3 : Int32) x3) + x4).toNatClampNeg) x6) g) (zQi K))) else (if x5 ≤ 0 then (if ((zmO.1 (3 : Int32) x3) + x4) < 0 ∨ 123 ≤ ((zmO.1 (3 : Int32) x3) + x4).toNatClampNeg then False else (zWp X (d + 1) zm113 27 [.ref 169, .int x1, .int (x2 + x6), .int x3, .int (x4 + (1 : Int32)), .null, .null, .null] [] (zs (zuI f 177 (((zmO.1 (3 : Int32) x3) + x4).toNatClampNeg) x6) g) (zQi K))) else (if x7 = x4 then (zWp X (d + 1) zm113 56 [.ref 169, .int x1, .int x2, .int x3, .int x4, .int x5, .int (x6 + (0 : Int32)), .int (x7 + (1 : Int32))] [] (zs f g) (zQi K)) else (if ((zmO.1 (3 : Int32) x5) + x7) < 0 ∨ 123 ≤ ((zmO.1 (3 : Int32) x5) + x7).toNatClampNeg then False else (zWp X (d + 1) zm113 56 [.ref 169, .int x1, .int x2, .int x3, .int x4, .int x5, .int (x6 + (f 177 (((zmO.1 (3 : Int32) x5) + x7).toNatClampNeg))), .int (x7 + (1 : Int32))] [] (zs f g) (zQi K)))))) : zWp X (d + 1) zm113 56 [.ref 169, .int x1, .int x2, .int x3, .int x4, .int x5, .int x6, .int x7] [] (zs f g) (zQi K) := zWj_of (op := zop) (F := 3000) (fun pc => pc == 4 || pc == 27 || pc == 56) (fun pc => if pc = 4 then [4] else if pc = 27 then [5, 6, 7] else []) 3000 (zP_rg (a := 113) rfl) h
set_option maxHeartbeats 4000000 in
set_option maxRecDepth 100000 in
/-- HearsayOrchestra$Thought.waysOfBars -/
theorem e113_169 {X : Nat × (Nat → Int32)} {d : Nat} {f : Nat → Nat → Int32} {g : Nat → Nat → Int64} {K : Int32 → (Nat → Nat → Int32) → (Nat → Nat → Int64) → Prop} {a1 : Int32}
  (h : zWp X (d + 1) zm113 4 [.ref 169, .int a1, .int (1 : Int32), .int (0 : Int32), .null, .null, .null, .null] [] (zs f g) (zQi K)) : zCpi X (d + 2) 113 [.ref 169, .int a1] (zs f g) K := zCpi_w (d := d + 1) (by decide) rfl (Nat.le_of_ble_eq_true rfl) (zWj_of (op := zop) (F := 3000) (fun pc => pc == 4 || pc == 27 || pc == 56) (fun pc => if pc = 4 then [4] else if pc = 27 then [5, 6, 7] else []) 3000 (zP_rg (a := 113) rfl) h)
set_option maxHeartbeats 4000000 in
set_option maxRecDepth 100000 in
/-- HearsayOrchestra$Thought.fewestBars, at 4 -/
theorem s114_4_169 {X : Nat × (Nat → Int32)} {d : Nat} {f : Nat → Nat → Int32} {g : Nat → Nat → Int64} {K : Int32 → (Nat → Nat → Int32) → (Nat → Nat → Int64) → Prop} {x1 : Int32} {x2 : Int32} {x3 : Int32}
  (h : zCpi X (d + 1) 288 [.int x1, .int (40 : Int32)] (zs f g) (fun v3 f1 g2 => if v3 < x3 then (if x2 < (Int32.ofNat 1000000) then (K x2 f1 g2) else (K (-1 : Int32) f1 g2)) else (if x3 = 0 then (zWp X (d + 1) zm114 28 [.ref 169, .int x1, .int (0 : Int32), .int x3, .int (0 : Int32), .null, .null, .null] [] (zs f1 g2) (zQi K)) else (zWp X (d + 1) zm114 28 [.ref 169, .int x1, .int (Int32.ofNat 1000000), .int x3, .int (0 : Int32), .null, .null, .null] [] (zs f1 g2) (zQi K))))) : zWp X (d + 1) zm114 4 [.ref 169, .int x1, .int x2, .int x3, .null, .null, .null, .null] [] (zs f g) (zQi K) := zWj_of (op := zop) (F := 3000) (fun pc => pc == 4 || pc == 28 || pc == 58) (fun pc => if pc = 4 then [4] else if pc = 28 then [5, 6, 7] else []) 3000 (zP_rg (a := 114) rfl) h
set_option maxHeartbeats 4000000 in
set_option maxRecDepth 100000 in
/-- HearsayOrchestra$Thought.fewestBars, at 28 -/
theorem s114_28_169 {X : Nat × (Nat → Int32)} {d : Nat} {f : Nat → Nat → Int32} {g : Nat → Nat → Int64} {K : Int32 → (Nat → Nat → Int32) → (Nat → Nat → Int64) → Prop} {x1 : Int32} {x2 : Int32} {x3 : Int32} {x4 : Int32}
  (h : if (3 : Int32) ≤ x4 then (zWp X (d + 1) zm114 4 [.ref 169, .int x1, .int x2, .int (x3 + (1 : Int32)), .null, .null, .null, .null] [] (zs f g) (zQi K)) else (if (zsO.1 (zsO.1 x3 (2 : Int32)) x4) = 0 then (zWp X (d + 1) zm114 58 [.ref 169, .int x1, .int x2, .int x3, .int x4, .int (zsO.1 (zsO.1 x3 (2 : Int32)) x4), .int (1 : Int32), .int (0 : Int32)] [] (zs f g) (zQi K)) else (zWp X (d + 1) zm114 58 [.ref 169, .int x1, .int x2, .int x3, .int x4, .int (zsO.1 (zsO.1 x3 (2 : Int32)) x4), .int (Int32.ofNat 1000000), .int (0 : Int32)] [] (zs f g) (zQi K)))) : zWp X (d + 1) zm114 28 [.ref 169, .int x1, .int x2, .int x3, .int x4, .null, .null, .null] [] (zs f g) (zQi K) := zWj_of (op := zop) (F := 3000) (fun pc => pc == 4 || pc == 28 || pc == 58) (fun pc => if pc = 4 then [4] else if pc = 28 then [5, 6, 7] else []) 3000 (zP_rg (a := 114) rfl) h
set_option maxHeartbeats 4000000 in
set_option maxRecDepth 100000 in
/-- HearsayOrchestra$Thought.fewestBars, at 58 -/
theorem s114_58_169 {X : Nat × (Nat → Int32)} {d : Nat} {f : Nat → Nat → Int32} {g : Nat → Nat → Int64} {K : Int32 → (Nat → Nat → Int32) → (Nat → Nat → Int64) → Prop} {x1 : Int32} {x2 : Int32} {x3 : Int32} {x4 : Int32} {x5 : Int32} {x6 : Int32} {x7 : Int32}
  (h : if (3 : Int32) ≤ x7 then (if ((zmO.1 (3 : Int32) x3) + x4) < 0 ∨ 123 ≤ ((zmO.1 (3 : Int32) x3) + x4).toNatClampNeg then False else (zCpi X (d + 1) 288 [.int x2, .int x6] (zs (zuI f 177 (((zmO.1 (3 : Int32) x3) + x4).toNatClampNeg) x6) g) (fun v3 f1 g2 => zWp X (d + 1) zm114 28 [.ref 169, .int x1, .int v3, .int x3, .int (x4 + (1 : Int32)), .null, .null, .null] [] (zs f1 g2) (zQi K)))) else (if x5 ≤ 0 then (if ((zmO.1 (3 : Int32) x3) + x4) < 0 ∨ 123 ≤ ((zmO.1 (3 : Int32) x3) + x4).toNatClampNeg then False else (zCpi X (d + 1) 288 [.int x2, .int x6] (zs (zuI f 177 (((zmO.1 (3 : Int32) x3) + x4).toNatClampNeg) x6) g) (fun v6 f4 g5 => zWp X (d + 1) zm114 28 [.ref 169, .int x1, .int v6, .int x3, .int (x4 + (1 : Int32)), .null, .null, .null] [] (zs f4 g5) (zQi K)))) else (if x7 = x4 then (zWp X (d + 1) zm114 58 [.ref 169, .int x1, .int x2, .int x3, .int x4, .int x5, .int x6, .int (x7 + (1 : Int32))] [] (zs f g) (zQi K)) else (if ((zmO.1 (3 : Int32) x5) + x7) < 0 ∨ 123 ≤ ((zmO.1 (3 : Int32) x5) + x7).toNatClampNeg then False else (zCpi X (d + 1) 288 [.int x6, .int ((1 : Int32) + (f 177 (((zmO.1 (3 : Int32) x5) + x7).toNatClampNeg)))] (zs f g) (fun v9 f7 g8 => zWp X (d + 1) zm114 58 [.ref 169, .int x1, .int x2, .int x3, .int x4, .int x5, .int v9, .int (x7 + (1 : Int32))] [] (zs f7 g8) (zQi K))))))) : zWp X (d + 1) zm114 58 [.ref 169, .int x1, .int x2, .int x3, .int x4, .int x5, .int x6, .int x7] [] (zs f g) (zQi K) := zWj_of (op := zop) (F := 3000) (fun pc => pc == 4 || pc == 28 || pc == 58) (fun pc => if pc = 4 then [4] else if pc = 28 then [5, 6, 7] else []) 3000 (zP_rg (a := 114) rfl) h
set_option maxHeartbeats 4000000 in
set_option maxRecDepth 100000 in
/-- HearsayOrchestra$Thought.fewestBars -/
theorem e114_169 {X : Nat × (Nat → Int32)} {d : Nat} {f : Nat → Nat → Int32} {g : Nat → Nat → Int64} {K : Int32 → (Nat → Nat → Int32) → (Nat → Nat → Int64) → Prop} {a1 : Int32}
  (h : zWp X (d + 1) zm114 4 [.ref 169, .int a1, .int (0 : Int32), .int (0 : Int32), .null, .null, .null, .null] [] (zs f g) (zQi K)) : zCpi X (d + 2) 114 [.ref 169, .int a1] (zs f g) K := zCpi_w (d := d + 1) (by decide) rfl (Nat.le_of_ble_eq_true rfl) (zWj_of (op := zop) (F := 3000) (fun pc => pc == 4 || pc == 28 || pc == 58) (fun pc => if pc = 4 then [4] else if pc = 28 then [5, 6, 7] else []) 3000 (zP_rg (a := 114) rfl) h)
set_option maxHeartbeats 4000000 in
set_option maxRecDepth 100000 in
/-- HearsayOrchestra$Thought.triads -/
theorem e115 {X : Nat × (Nat → Int32)} {d : Nat} {f : Nat → Nat → Int32} {g : Nat → Nat → Int64} {K : Int32 → (Nat → Nat → Int32) → (Nat → Nat → Int64) → Prop} {a0 : Int32} {a1 : Int32}
  (h : zCpi X (d + 1) 98 [.int a0, .int (zsO.1 (12 : Int32) a1)] (zs f g) (fun v3 f1 g2 => zCpi X (d + 1) 98 [.int a0, .int (5 : Int32)] (zs f1 g2) (fun v6 f4 g5 => zCpi X (d + 1) 284 [.int ((a0 &&& v3) &&& v6)] (zs f4 g5) (fun v9 f7 g8 => K v9 f7 g8)))) : zCpi X (d + 2) 115 [.int a0, .int a1] (zs f g) K := zCpi_w (d := d + 1) (by decide) rfl (Nat.le_of_ble_eq_true rfl) (zWj_of (op := zop) (F := 3000) (fun _ => false) (fun _ => []) 3000 (zP_rg (a := 115) rfl) h)
set_option maxHeartbeats 4000000 in
set_option maxRecDepth 100000 in
/-- HearsayOrchestra$Thought.winningTimes -/
theorem e116 {X : Nat × (Nat → Int32)} {d : Nat} {f : Nat → Nat → Int32} {g : Nat → Nat → Int64} {K : Int32 → (Nat → Nat → Int32) → (Nat → Nat → Int64) → Prop} {a0 : Int32} {a1 : Int32}
  (h : if 0 < a1 then (if a1 = 0 then False else (if a1 = 0 then False else (if (zrO.1 a0 a1) = 0 then (K (zdO.1 a0 a1) f g) else (zCpi X (d + 1) 117 [.int a1, .int (zrO.1 a0 a1)] (zs f g) (fun v3 f1 g2 => if v3 = 0 then (K (zdO.1 a0 a1) f1 g2) else (if (zdO.1 a0 a1) < (2 : Int32) then (K (-1 : Int32) f1 g2) else (K (zsO.1 (zdO.1 a0 a1) (1 : Int32)) f1 g2))))))) else (K (-1 : Int32) f g)) : zCpi X (d + 2) 116 [.int a0, .int a1] (zs f g) K := zCpi_w (d := d + 1) (by decide) rfl (Nat.le_of_ble_eq_true rfl) (zWj_of (op := zop) (F := 3000) (fun _ => false) (fun _ => []) 3000 (zP_rg (a := 116) rfl) h)
set_option maxHeartbeats 4000000 in
set_option maxRecDepth 100000 in
/-- HearsayOrchestra$Thought.wins, at 10 -/
theorem s117_10 {X : Nat × (Nat → Int32)} {d : Nat} {f : Nat → Nat → Int32} {g : Nat → Nat → Int64} {K : Int32 → (Nat → Nat → Int32) → (Nat → Nat → Int64) → Prop} {x0 : Int32} {x1 : Int32} {x2 : Int32} {x3 : Int32} {x4 : Int32} {x5 : Int32}
  (h : if (999 : Int32) ≤ x5 then (if x2 = 0 ∨ x2 = 1 then (K x2 f g) else False) else (if x4 ≤ 0 then (if x2 = 0 ∨ x2 = 1 then (K x2 f g) else False) else (if x4 = 0 then False else (if (zrO.1 x3 x4) = 0 then (if x2 = 0 ∨ x2 = 1 then (K x2 f g) else False) else (if x4 = 0 then False else (if (zdO.1 x3 x4) = (1 : Int32) then (if x4 = 0 then False else (if x2 = 0 then (zWp X (d + 0) zm117 10 [.int x0, .int x1, .int (1 : Int32), .int x4, .int (zrO.1 x3 x4), .int (x5 + (1 : Int32)), .null] [] (zs f g) (zQi K)) else (zWp X (d + 0) zm117 10 [.int x0, .int x1, .int (0 : Int32), .int x4, .int (zrO.1 x3 x4), .int (x5 + (1 : Int32)), .null] [] (zs f g) (zQi K)))) else (if x2 = 0 ∨ x2 = 1 then (K x2 f g) else False))))))) : zWp X (d + 0) zm117 10 [.int x0, .int x1, .int x2, .int x3, .int x4, .int x5, .null] [] (zs f g) (zQi K) := zWj_of (op := zop) (F := 3000) (fun pc => pc == 10) (fun pc => if pc = 10 then [6] else []) 3000 (zP_rg (a := 117) rfl) h
set_option maxHeartbeats 4000000 in
set_option maxRecDepth 100000 in
/-- HearsayOrchestra$Thought.wins -/
theorem e117 {X : Nat × (Nat → Int32)} {d : Nat} {f : Nat → Nat → Int32} {g : Nat → Nat → Int64} {K : Int32 → (Nat → Nat → Int32) → (Nat → Nat → Int64) → Prop} {a0 : Int32} {a1 : Int32}
  (h : zWp X (d + 0) zm117 10 [.int a0, .int a1, .int (1 : Int32), .int a0, .int a1, .int (0 : Int32), .null] [] (zs f g) (zQi K)) : zCpi X (d + 1) 117 [.int a0, .int a1] (zs f g) K := zCpi_w (d := d + 0) (by decide) rfl (Nat.le_of_ble_eq_true rfl) (zWj_of (op := zop) (F := 3000) (fun pc => pc == 10) (fun pc => if pc = 10 then [6] else []) 3000 (zP_rg (a := 117) rfl) h)
set_option maxHeartbeats 4000000 in
set_option maxRecDepth 100000 in
/-- HearsayOrchestra$Thought.fewestTakings, at 10 -/
theorem s118_10 {X : Nat × (Nat → Int32)} {d : Nat} {f : Nat → Nat → Int32} {g : Nat → Nat → Int64} {K : Int32 → (Nat → Nat → Int32) → (Nat → Nat → Int64) → Prop} {x0 : Int32} {x1 : Int32} {x2 : Int32} {x3 : Int32} {x4 : Int32} {x5 : Int32}
  (h : if (999 : Int32) ≤ x5 then (K x2 f g) else (if x4 ≤ 0 then (K x2 f g) else (if x4 = 0 then False else (zWp X (d + 0) zm118 10 [.int x0, .int x1, .int (x2 + (1 : Int32)), .int x4, .int (zrO.1 x3 x4), .int (x5 + (1 : Int32)), .null] [] (zs f g) (zQi K))))) : zWp X (d + 0) zm118 10 [.int x0, .int x1, .int x2, .int x3, .int x4, .int x5, .null] [] (zs f g) (zQi K) := zWj_of (op := zop) (F := 3000) (fun pc => pc == 10) (fun pc => if pc = 10 then [6] else []) 3000 (zP_rg (a := 118) rfl) h
set_option maxHeartbeats 4000000 in
set_option maxRecDepth 100000 in
/-- HearsayOrchestra$Thought.fewestTakings -/
theorem e118 {X : Nat × (Nat → Int32)} {d : Nat} {f : Nat → Nat → Int32} {g : Nat → Nat → Int64} {K : Int32 → (Nat → Nat → Int32) → (Nat → Nat → Int64) → Prop} {a0 : Int32} {a1 : Int32}
  (h : zWp X (d + 0) zm118 10 [.int a0, .int a1, .int (0 : Int32), .int a0, .int a1, .int (0 : Int32), .null] [] (zs f g) (zQi K)) : zCpi X (d + 1) 118 [.int a0, .int a1] (zs f g) K := zCpi_w (d := d + 0) (by decide) rfl (Nat.le_of_ble_eq_true rfl) (zWj_of (op := zop) (F := 3000) (fun pc => pc == 10) (fun pc => if pc = 10 then [6] else []) 3000 (zP_rg (a := 118) rfl) h)

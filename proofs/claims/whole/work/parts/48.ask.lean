/-! one listens to another one: what the law's words stand for, and what it tells -/
/-- the words' values, from a hall's rows -/
def zVv (L E Xs Ys N O W : Nat → Int32) (bt : Int32) (n P p o : Nat) : Nat → Int32 := fun j => if j = 0 then L o else if j = 1 then E p else if j = 2 then zab (Xs p - Xs o) + zab (Ys p - Ys o) else if j = 3 then nI (zpn P (min (Xs p).toInt.toNat (Xs o).toInt.toNat) (max (Xs p).toInt.toNat (Xs o).toInt.toNat) (min (Ys p).toInt.toNat (Ys o).toInt.toNat) (max (Ys p).toInt.toNat (Ys o).toInt.toNat)) else if j = 4 then zab (O p - O o) else if j = 5 then N o else if j = 6 then W p else if j = 7 then nI (zpc 12 (zfold (zso N) n 0 0)) else bt
/-- what the law tells of a word, for two -/
def zLa (cd : Nat → Int32) (wl al bl cl : Nat → Nat) (k w : Nat) (V : Nat → Int32) : Int32 := zhe (ztl wl al bl cl (zvl cd V) w (zdf w V) k 0) (zlo w) (zhi w)
theorem ztl_v {cd v1 v2 : Nat → Int32} {wl al bl cl : Nat → Nat} {w k : Nat} {df : Int32} (hv : ∀ w, w < 9 → v2 w = v1 w) (hl : ∀ l, l < k → zTyp cd (al l) (bl l - al l) [] = some [false] ∧ (bl l = cl l ∨ zTyp cd (bl l) (cl l - bl l) [] = some [true])) : ∀ m l, l + m = k → ztl wl al bl cl (zvl cd v2) w df m l = ztl wl al bl cl (zvl cd v1) w df m l
  | 0, l, _ => rfl
  | m + 1, l, h => by
    unfold ztl
    obtain ⟨h1, h2⟩ := hl l (by omega)
    have e1 : zvl cd v2 (al l) (bl l) = zvl cd v1 (al l) (bl l) := zvl_eq hv h1
    rw [e1, ztl_v hv hl m (l + 1) (by omega)]
    rcases h2 with h2 | h2
    · simp only [h2, true_or]
    · rw [show zvl cd v2 (bl l) (cl l) = zvl cd v1 (bl l) (cl l) from zvl_eq hv h2]
theorem zdf_v {w : Nat} {v1 v2 : Nat → Int32} (hv : ∀ w, w < 9 → v2 w = v1 w) : zdf w v2 = zdf w v1 := by
  unfold zdf
  rw [hv 0 (by omega), hv 1 (by omega), hv 2 (by omega), hv 3 (by omega)]
theorem zLa_v {cd v1 v2 : Nat → Int32} {wl al bl cl : Nat → Nat} {w k : Nat} (hv : ∀ w, w < 9 → v2 w = v1 w) (hl : ∀ l, l < k → zTyp cd (al l) (bl l - al l) [] = some [false] ∧ (bl l = cl l ∨ zTyp cd (bl l) (cl l - bl l) [] = some [true])) : zLa cd wl al bl cl k w v2 = zLa cd wl al bl cl k w v1 := by
  unfold zLa
  rw [zdf_v hv, ztl_v hv hl k 0 (by omega)]
/-- only scratch has changed: rows of values and the stack -/
def zSc (v : Nat) (f F : Nat → Nat → Int32) : Prop := (∀ i, ¬ i = v → ¬ i = 19 → F i = f i) ∧ F v 7 = f v 7 ∧ F v 8 = f v 8
theorem zSc_tr {v : Nat} {f F G : Nat → Nat → Int32} (h1 : zSc v f F) (h2 : zSc v F G) : zSc v f G := ⟨fun i a b => (h2.1 i a b).trans (h1.1 i a b), h2.2.1.trans h1.2.1, h2.2.2.trans h1.2.2⟩
theorem zSc_rf {v : Nat} {f : Nat → Nat → Int32} : zSc v f f := ⟨fun _ _ _ => rfl, rfl, rfl⟩
/-- all that asking rests on, on the class's side -/
def zAc_147 (f : Nat → Nat → Int32) (g : Nat → Nat → Int64) (n P k : Nat) (wl al bl cl : Nat → Nat) : Prop := n ≤ 12 ∧ P < 2 ^ 48 ∧ f 148 8 = nI n ∧ g 148 12 = lN P ∧ zLk f k wl al bl cl ∧ f 157 7 = nI (zpc 12 (zfold (zso (f 153)) n 0 0)) ∧ f 157 8 = f 148 11 ∧ ∀ p, p < n → ∃ x y : Nat, x < 8 ∧ y < 6 ∧ f 151 p = nI x ∧ f 152 p = nI y
theorem zAc_147_f {f F : Nat → Nat → Int32} {g : Nat → Nat → Int64} {n P k : Nat} {wl al bl cl : Nat → Nat} (hS : zSc 157 f F) (h : zAc_147 f g n P k wl al bl cl) : zAc_147 F g n P k wl al bl cl := by
  obtain ⟨h1, h2, h3, h4, ⟨l1, l2, l3⟩, h6, h7, h8⟩ := h
  have e := fun i (a : ¬ i = 157) (b : ¬ i = 19) => hS.1 i a b
  unfold zAc_147 zLk
  rw [e 148 (by omega) (by omega), e 151 (by omega) (by omega), e 152 (by omega) (by omega), e 153 (by omega) (by omega), e 13 (by omega) (by omega), e 14 (by omega) (by omega), e 15 (by omega) (by omega), e 16 (by omega) (by omega), e 17 (by omega) (by omega), e 18 (by omega) (by omega), hS.2.1, hS.2.2]
  exact ⟨h1, h2, h3, h4, ⟨l1, l2, l3⟩, h6, h7, h8⟩
theorem l11_147 {X : Nat × (Nat → Int32)} {d : Nat} {f : Nat → Nat → Int32} {g : Nat → Nat → Int64} {K : Int32 → (Nat → Nat → Int32) → (Nat → Nat → Int64) → Prop} {n P k w p o : Nat} {wl al bl cl : Nat → Nat} (hA : zAc_147 f g n P k wl al bl cl) (hw : w < 3) (hp : p < n) (ho : o < n) (hK : ∀ F, zSc 157 f F → K (zLa (f 14) wl al bl cl k w (zVv (f 149) (f 150) (f 151) (f 152) (f 153) (f 154) (f 156) (f 148 11) n P p o)) F g) : zCpi X (d + 6) 11 [.ref 147, .int (nI (128 + w)), .int (nI p), .int (nI o)] (zs f g) K := by
  obtain ⟨h1, h2, h3, h4, hL, h6, h7, h8⟩ := id hA
  obtain ⟨x1, y1, hx1, hy1, ex1, ey1⟩ := h8 p hp
  obtain ⟨x2, y2, hx2, hy2, ex2, ey2⟩ := h8 o ho
  apply e11_147
  apply e25_148_157
  have i1 := nI_in' (c := p) (N := 12) (by omega) (by omega)
  have i2 := nI_in' (c := o) (N := 12) (by omega) (by omega)
  have z0 : ¬ ((0 : Int32) < 0 ∨ 9 ≤ (0 : Int32).toNatClampNeg) := by decide
  have z1 : ¬ ((1 : Int32) < 0 ∨ 9 ≤ (1 : Int32).toNatClampNeg) := by decide
  have z2 : ¬ ((2 : Int32) < 0 ∨ 9 ≤ (2 : Int32).toNatClampNeg) := by decide
  have z3 : ¬ ((3 : Int32) < 0 ∨ 9 ≤ (3 : Int32).toNatClampNeg) := by decide
  have z4 : ¬ ((4 : Int32) < 0 ∨ 9 ≤ (4 : Int32).toNatClampNeg) := by decide
  have z5 : ¬ ((5 : Int32) < 0 ∨ 9 ≤ (5 : Int32).toNatClampNeg) := by decide
  have z6 : ¬ ((6 : Int32) < 0 ∨ 9 ≤ (6 : Int32).toNatClampNeg) := by decide
  simp only [nI_cl (show p ≤ 100000 by omega), nI_cl (show o ≤ 100000 by omega), if_neg i1, if_neg i2, if_neg z0, if_neg z1, if_neg z2, if_neg z3, if_neg z4, if_neg z5, if_neg z6, q286, zsO.2, zi_ne, Nat.reduceEqDiff, not_false_eq_true]
  rw [q26_148 (P := P) (x1 := x1) (x2 := x2) (y1 := y1) (y2 := y2) (by omega) (by omega) h2 h4 hx1 hx2 hy1 hy2 (by simp only [zi_ne, Nat.reduceEqDiff, not_false_eq_true]; exact ex1) (by simp only [zi_ne, Nat.reduceEqDiff, not_false_eq_true]; exact ex2) (by simp only [zi_ne, Nat.reduceEqDiff, not_false_eq_true]; exact ey1) (by simp only [zi_ne, Nat.reduceEqDiff, not_false_eq_true]; exact ey2)]
  simp only [q286, zi_ne, Nat.reduceEqDiff, not_false_eq_true]
  have tx1 : (f 151 p).toInt.toNat = x1 := by rw [ex1, nI_ti (by omega)]; omega
  have tx2 : (f 151 o).toInt.toNat = x2 := by rw [ex2, nI_ti (by omega)]; omega
  have ty1 : (f 152 p).toInt.toNat = y1 := by rw [ey1, nI_ti (by omega)]; omega
  have ty2 : (f 152 o).toInt.toNat = y2 := by rw [ey2, nI_ti (by omega)]; omega
  refine l32_157 (k := k) (wl := wl) (al := al) (bl := bl) (cl := cl) (w := w) ?_ hw (fun r => ?_)
  · obtain ⟨l1, l2, l3⟩ := hL
    unfold zLk
    simp only [zi_ne, Nat.reduceEqDiff, not_false_eq_true]
    exact ⟨l1, l2, l3⟩
  · have hv : ∀ j, j < 9 → zuI (zuI (zuI (zuI (zuI (zuI (zuI f 157 0 (f 149 o)) 157 1 (f 150 p)) 157 2 (zab (f 151 p - f 151 o) + zab (f 152 p - f 152 o))) 157 3 (nI (zpn P (min x1 x2) (max x1 x2) (min y1 y2) (max y1 y2)))) 157 4 (zab (f 154 p - f 154 o))) 157 5 (f 153 o)) 157 6 (f 156 p) 157 j = zVv (f 149) (f 150) (f 151) (f 152) (f 153) (f 154) (f 156) (f 148 11) n P p o j := by
      intro j hj
      have hh : j = 0 ∨ j = 1 ∨ j = 2 ∨ j = 3 ∨ j = 4 ∨ j = 5 ∨ j = 6 ∨ j = 7 ∨ j = 8 := by omega
      unfold zVv
      rw [tx1, tx2, ty1, ty2]
      rcases hh with rfl | rfl | rfl | rfl | rfl | rfl | rfl | rfl | rfl <;> simp only [zi_at, Nat.reduceEqDiff, ↓reduceIte, h6, h7]
    have hz := hK (zrI (zuI (zuI (zuI (zuI (zuI (zuI (zuI f 157 0 (f 149 o)) 157 1 (f 150 p)) 157 2 (zab (f 151 p - f 151 o) + zab (f 152 p - f 152 o))) 157 3 (nI (zpn P (min x1 x2) (max x1 x2) (min y1 y2) (max y1 y2)))) 157 4 (zab (f 154 p - f 154 o))) 157 5 (f 153 o)) 157 6 (f 156 p)) 19 r) ⟨fun i a b => by rw [zr_ne b]; simp only [zi_ne a], by rw [zr_ne (by omega)]; simp only [zi_at, Nat.reduceEqDiff, ↓reduceIte], by rw [zr_ne (by omega)]; simp only [zi_at, Nat.reduceEqDiff, ↓reduceIte]⟩
    rw [← zLa_v hv (fun l hl => ⟨(hL.2.2 l hl).2.2.2.2.2.2.2.2.2.1, (hL.2.2 l hl).2.2.2.2.2.2.2.2.2.2⟩)] at hz
    unfold zLa at hz
    simp only [zi_ne, Nat.reduceEqDiff, not_false_eq_true]
    exact hz
/-- all that asking rests on, on the class's side -/
def zAc_158 (f : Nat → Nat → Int32) (g : Nat → Nat → Int64) (n P k : Nat) (wl al bl cl : Nat → Nat) : Prop := n ≤ 12 ∧ P < 2 ^ 48 ∧ f 159 8 = nI n ∧ g 159 12 = lN P ∧ zLk f k wl al bl cl ∧ f 168 7 = nI (zpc 12 (zfold (zso (f 164)) n 0 0)) ∧ f 168 8 = f 159 11 ∧ ∀ p, p < n → ∃ x y : Nat, x < 8 ∧ y < 6 ∧ f 162 p = nI x ∧ f 163 p = nI y
theorem zAc_158_f {f F : Nat → Nat → Int32} {g : Nat → Nat → Int64} {n P k : Nat} {wl al bl cl : Nat → Nat} (hS : zSc 168 f F) (h : zAc_158 f g n P k wl al bl cl) : zAc_158 F g n P k wl al bl cl := by
  obtain ⟨h1, h2, h3, h4, ⟨l1, l2, l3⟩, h6, h7, h8⟩ := h
  have e := fun i (a : ¬ i = 168) (b : ¬ i = 19) => hS.1 i a b
  unfold zAc_158 zLk
  rw [e 159 (by omega) (by omega), e 162 (by omega) (by omega), e 163 (by omega) (by omega), e 164 (by omega) (by omega), e 13 (by omega) (by omega), e 14 (by omega) (by omega), e 15 (by omega) (by omega), e 16 (by omega) (by omega), e 17 (by omega) (by omega), e 18 (by omega) (by omega), hS.2.1, hS.2.2]
  exact ⟨h1, h2, h3, h4, ⟨l1, l2, l3⟩, h6, h7, h8⟩
theorem l11_158 {X : Nat × (Nat → Int32)} {d : Nat} {f : Nat → Nat → Int32} {g : Nat → Nat → Int64} {K : Int32 → (Nat → Nat → Int32) → (Nat → Nat → Int64) → Prop} {n P k w p o : Nat} {wl al bl cl : Nat → Nat} (hA : zAc_158 f g n P k wl al bl cl) (hw : w < 3) (hp : p < n) (ho : o < n) (hK : ∀ F, zSc 168 f F → K (zLa (f 14) wl al bl cl k w (zVv (f 160) (f 161) (f 162) (f 163) (f 164) (f 165) (f 167) (f 159 11) n P p o)) F g) : zCpi X (d + 6) 11 [.ref 158, .int (nI (128 + w)), .int (nI p), .int (nI o)] (zs f g) K := by
  obtain ⟨h1, h2, h3, h4, hL, h6, h7, h8⟩ := id hA
  obtain ⟨x1, y1, hx1, hy1, ex1, ey1⟩ := h8 p hp
  obtain ⟨x2, y2, hx2, hy2, ex2, ey2⟩ := h8 o ho
  apply e11_158
  apply e25_159_168
  have i1 := nI_in' (c := p) (N := 12) (by omega) (by omega)
  have i2 := nI_in' (c := o) (N := 12) (by omega) (by omega)
  have z0 : ¬ ((0 : Int32) < 0 ∨ 9 ≤ (0 : Int32).toNatClampNeg) := by decide
  have z1 : ¬ ((1 : Int32) < 0 ∨ 9 ≤ (1 : Int32).toNatClampNeg) := by decide
  have z2 : ¬ ((2 : Int32) < 0 ∨ 9 ≤ (2 : Int32).toNatClampNeg) := by decide
  have z3 : ¬ ((3 : Int32) < 0 ∨ 9 ≤ (3 : Int32).toNatClampNeg) := by decide
  have z4 : ¬ ((4 : Int32) < 0 ∨ 9 ≤ (4 : Int32).toNatClampNeg) := by decide
  have z5 : ¬ ((5 : Int32) < 0 ∨ 9 ≤ (5 : Int32).toNatClampNeg) := by decide
  have z6 : ¬ ((6 : Int32) < 0 ∨ 9 ≤ (6 : Int32).toNatClampNeg) := by decide
  simp only [nI_cl (show p ≤ 100000 by omega), nI_cl (show o ≤ 100000 by omega), if_neg i1, if_neg i2, if_neg z0, if_neg z1, if_neg z2, if_neg z3, if_neg z4, if_neg z5, if_neg z6, q286, zsO.2, zi_ne, Nat.reduceEqDiff, not_false_eq_true]
  rw [q26_159 (P := P) (x1 := x1) (x2 := x2) (y1 := y1) (y2 := y2) (by omega) (by omega) h2 h4 hx1 hx2 hy1 hy2 (by simp only [zi_ne, Nat.reduceEqDiff, not_false_eq_true]; exact ex1) (by simp only [zi_ne, Nat.reduceEqDiff, not_false_eq_true]; exact ex2) (by simp only [zi_ne, Nat.reduceEqDiff, not_false_eq_true]; exact ey1) (by simp only [zi_ne, Nat.reduceEqDiff, not_false_eq_true]; exact ey2)]
  simp only [q286, zi_ne, Nat.reduceEqDiff, not_false_eq_true]
  have tx1 : (f 162 p).toInt.toNat = x1 := by rw [ex1, nI_ti (by omega)]; omega
  have tx2 : (f 162 o).toInt.toNat = x2 := by rw [ex2, nI_ti (by omega)]; omega
  have ty1 : (f 163 p).toInt.toNat = y1 := by rw [ey1, nI_ti (by omega)]; omega
  have ty2 : (f 163 o).toInt.toNat = y2 := by rw [ey2, nI_ti (by omega)]; omega
  refine l32_168 (k := k) (wl := wl) (al := al) (bl := bl) (cl := cl) (w := w) ?_ hw (fun r => ?_)
  · obtain ⟨l1, l2, l3⟩ := hL
    unfold zLk
    simp only [zi_ne, Nat.reduceEqDiff, not_false_eq_true]
    exact ⟨l1, l2, l3⟩
  · have hv : ∀ j, j < 9 → zuI (zuI (zuI (zuI (zuI (zuI (zuI f 168 0 (f 160 o)) 168 1 (f 161 p)) 168 2 (zab (f 162 p - f 162 o) + zab (f 163 p - f 163 o))) 168 3 (nI (zpn P (min x1 x2) (max x1 x2) (min y1 y2) (max y1 y2)))) 168 4 (zab (f 165 p - f 165 o))) 168 5 (f 164 o)) 168 6 (f 167 p) 168 j = zVv (f 160) (f 161) (f 162) (f 163) (f 164) (f 165) (f 167) (f 159 11) n P p o j := by
      intro j hj
      have hh : j = 0 ∨ j = 1 ∨ j = 2 ∨ j = 3 ∨ j = 4 ∨ j = 5 ∨ j = 6 ∨ j = 7 ∨ j = 8 := by omega
      unfold zVv
      rw [tx1, tx2, ty1, ty2]
      rcases hh with rfl | rfl | rfl | rfl | rfl | rfl | rfl | rfl | rfl <;> simp only [zi_at, Nat.reduceEqDiff, ↓reduceIte, h6, h7]
    have hz := hK (zrI (zuI (zuI (zuI (zuI (zuI (zuI (zuI f 168 0 (f 160 o)) 168 1 (f 161 p)) 168 2 (zab (f 162 p - f 162 o) + zab (f 163 p - f 163 o))) 168 3 (nI (zpn P (min x1 x2) (max x1 x2) (min y1 y2) (max y1 y2)))) 168 4 (zab (f 165 p - f 165 o))) 168 5 (f 164 o)) 168 6 (f 167 p)) 19 r) ⟨fun i a b => by rw [zr_ne b]; simp only [zi_ne a], by rw [zr_ne (by omega)]; simp only [zi_at, Nat.reduceEqDiff, ↓reduceIte], by rw [zr_ne (by omega)]; simp only [zi_at, Nat.reduceEqDiff, ↓reduceIte]⟩
    rw [← zLa_v hv (fun l hl => ⟨(hL.2.2 l hl).2.2.2.2.2.2.2.2.2.1, (hL.2.2 l hl).2.2.2.2.2.2.2.2.2.2⟩)] at hz
    unfold zLa at hz
    simp only [zi_ne, Nat.reduceEqDiff, not_false_eq_true]
    exact hz

/-! of -/
/-- only what is thought in has changed -/
theorem zRel_scr {f F : Nat → Nat → Int32} {g G : Nat → Nat → Int64} {r R : Nat → Nat → Int32} (h : ∀ i, i ≤ 137 → ¬ i = 19 → F i = f i) (h147 : F 147 2 = f 147 2) (h158 : F 158 2 = f 158 2) (hg : ∀ i, i ≤ 137 → G i = g i) (hr : ∀ i, ¬ i = 178 → ¬ i = 181 → ¬ i = 182 → ¬ i = 198 → ¬ i = 199 → R i = r i) (hr8 : ∀ j, ¬ j = 0 → R 178 j = r 178 j) (hR : zRel f g r) : zRel F G R := by
  obtain ⟨⟨c1, c2, c3, c4, c5, c6, c7, c8, c9, c10, c11⟩, c12, c13, c14, c15, c16⟩ := hR
  have e := fun i (a : ¬ i = 178) (b : ¬ i = 181) (c : ¬ i = 182) (d : ¬ i = 198) (k : ¬ i = 199) => hr i a b c d k
  refine ⟨⟨?_, ?_, ?_, ?_, ?_, ?_, ?_, ?_, ?_, ?_, ?_⟩, ?_, ?_, ?_, ?_, ?_⟩
  · rw [h 27 (by omega) (by omega), h 28 (by omega) (by omega), hr8 46 (by omega), e 204 (by omega) (by omega) (by omega) (by omega) (by omega)]; exact c1
  · rw [h 25 (by omega) (by omega), h 26 (by omega) (by omega), hr8 44 (by omega), e 203 (by omega) (by omega) (by omega) (by omega) (by omega)]; exact c2
  · rw [h 29 (by omega) (by omega), h 30 (by omega) (by omega), hr8 49 (by omega), e 206 (by omega) (by omega) (by omega) (by omega) (by omega)]; exact c3
  · rw [h 31 (by omega) (by omega), h 32 (by omega) (by omega), hr8 52 (by omega), e 208 (by omega) (by omega) (by omega) (by omega) (by omega)]; exact c4
  · rw [h 24 (by omega) (by omega), e 201 (by omega) (by omega) (by omega) (by omega) (by omega)]; exact c5
  · rw [h 13 (by omega) (by omega), h 14 (by omega) (by omega), h 15 (by omega) (by omega), h 16 (by omega) (by omega), h 17 (by omega) (by omega), h 18 (by omega) (by omega), e 187 (by omega) (by omega) (by omega) (by omega) (by omega), e 188 (by omega) (by omega) (by omega) (by omega) (by omega), e 189 (by omega) (by omega) (by omega) (by omega) (by omega), e 190 (by omega) (by omega) (by omega) (by omega) (by omega), e 191 (by omega) (by omega) (by omega) (by omega) (by omega), e 192 (by omega) (by omega) (by omega) (by omega) (by omega), e 193 (by omega) (by omega) (by omega) (by omega) (by omega)]; exact c6
  · rw [h 20 (by omega) (by omega), h 21 (by omega) (by omega), hr8 33 (by omega), e 195 (by omega) (by omega) (by omega) (by omega) (by omega)]; exact c7
  · rw [h 22 (by omega) (by omega), h 23 (by omega) (by omega), hr8 35 (by omega), hr8 7 (by omega), e 196 (by omega) (by omega) (by omega) (by omega) (by omega)]; exact c8
  · rw [h 2 (by omega) (by omega), h 3 (by omega) (by omega), h 4 (by omega) (by omega), h 5 (by omega) (by omega), h 6 (by omega) (by omega), h 7 (by omega) (by omega), h 8 (by omega) (by omega), h 9 (by omega) (by omega), h 10 (by omega) (by omega), hr8 7 (by omega), e 179 (by omega) (by omega) (by omega) (by omega) (by omega), e 183 (by omega) (by omega) (by omega) (by omega) (by omega)]; exact c9
  · rw [hg 2 (by omega), h 1 (by omega) (by omega), hr8 37 (by omega), e 197 (by omega) (by omega) (by omega) (by omega) (by omega)]; exact c10
  · rw [h 11 (by omega) (by omega), h 12 (by omega) (by omega), e 179 (by omega) (by omega) (by omega) (by omega) (by omega), e 184 (by omega) (by omega) (by omega) (by omega) (by omega)]; exact c11
  · rw [h 65 (by omega) (by omega), h 66 (by omega) (by omega), hr8 11 (by omega), e 185 (by omega) (by omega) (by omega) (by omega) (by omega)]; exact c12
  · rw [h 70 (by omega) (by omega), hr8 31 (by omega), hr8 32 (by omega)]; exact c13
  · exact zPas_frame (fun i _ _ => h i (by omega) (by omega)) (by rw [h 11 (by omega) (by omega)]) (fun i _ _ => by rw [hg i (by omega)]) (by rw [hg 2 (by omega)]) (e 180 (by omega) (by omega) (by omega) (by omega) (by omega)) (hr8 3 (by omega)) (hr8 7 (by omega)) (e 183 (by omega) (by omega) (by omega) (by omega) (by omega)) c14
  · exact zIma_frame (by rw [h 0 (by omega) (by omega)]) (fun i _ _ => h i (by omega) (by omega)) (by rw [hg 34 (by omega)]) (e 211 (by omega) (by omega) (by omega) (by omega) (by omega)) (hr8 57 (by omega)) c15
  · rw [h147, h158, hr8 5 (by omega), e 186 (by omega) (by omega) (by omega) (by omega) (by omega)]; exact c16
/-- the law's lines as numbers -/
theorem zLaw_k {f r : Nat → Nat → Int32} (h : zLaw (f 13 7) (f 14) (f 15) (f 16) (f 17) (f 18) (r 187 0) (r 188) (r 189) (r 190) (r 191) (r 192) (r 193)) : ∃ (k : Nat) (wl al bl cl : Nat → Nat), zLk f k wl al bl cl ∧ zLj r (f 14) k wl al bl cl := by
  obtain ⟨k, hk, h1, h2, h3⟩ := h
  refine ⟨k, fun l => (r 188 l).toInt.toNat, fun l => (f 16 l).toInt.toNat, fun l => (f 17 l).toInt.toNat, fun l => (f 18 l).toInt.toNat, ⟨hk, h1, fun l hl => ?_⟩, ⟨hk, h2, fun l hl => ?_⟩⟩
  · obtain ⟨w, a, b, c, y1, y2, y3, y4, y5, y6, y7, y8, y9, y10, y11, y12, y13, y14, y15⟩ := h3 l hl
    have ew : (r 188 l).toInt.toNat = w := by rw [y6, nI_ti (by omega)]; omega
    have ea : (f 16 l).toInt.toNat = a := by rw [y7, nI_ti (by omega)]; omega
    have eb : (f 17 l).toInt.toNat = b := by rw [y9, nI_ti (by omega)]; omega
    have ec : (f 18 l).toInt.toNat = c := by rw [y11, nI_ti (by omega)]; omega
    simp only [ew, ea, eb, ec]
    exact ⟨y1, y2, y3, y4, y5, y7, y9, y11, fun i h1 h2 => zCod_c (y13 i h1 h2), y14, y15⟩
  · obtain ⟨w, a, b, c, y1, y2, y3, y4, y5, y6, y7, y8, y9, y10, y11, y12, y13, y14, y15⟩ := h3 l hl
    have ew : (r 188 l).toInt.toNat = w := by rw [y6, nI_ti (by omega)]; omega
    have ea : (f 16 l).toInt.toNat = a := by rw [y7, nI_ti (by omega)]; omega
    have eb : (f 17 l).toInt.toNat = b := by rw [y9, nI_ti (by omega)]; omega
    have ec : (f 18 l).toInt.toNat = c := by rw [y11, nI_ti (by omega)]; omega
    simp only [ew, ea, eb, ec]
    exact ⟨y1, y2, y3, y4, y6, y8, y10, y12, y13, y14, y15⟩
/-- from now on all is asked as the hall is now -/
theorem q8_147 {X : Nat × (Nat → Int32)} {d : Nat} {f : Nat → Nat → Int32} {g : Nat → Nat → Int64} {K : (Nat → Nat → Int32) → (Nat → Nat → Int64) → Prop} {n : Nat} (hn : n ≤ 12) (h8 : f 2 8 = nI n) : zCpv X (d + 4) 8 [.ref 147] (zs f g) K = K (zuI (zuI (zHc f 148 2) 157 7 (nI (zpc 12 (zfold (zso (f 7)) n 0 0)))) 157 8 (f 2 11)) (zuL g 148 12 (g 2 12)) := by
  refine zCpv_eq (fun K hK => e8_147 ?_)
  rw [q21_148_2]
  apply e22_148_157
  have e : zfold (zso (zHc f 148 2 153)) n 0 0 = zfold (zso (f 7)) n 0 0 := by
    refine zfold_congr _ _ _ (fun j s _ hj => ?_)
    unfold zso
    have e5 : zHc f 148 2 153 j = f 7 j := zHc_r (t := 148) (s := 2) (j := 5) (k := j) (by omega) (by omega) (by omega)
    rw [e5]
  rw [q23_148 hn (by rw [zHc_o (by omega)]; exact h8), e, if_neg (by decide), if_neg (by decide), zHc_o (by omega)]
  exact hK
theorem zAc_147_at {f : Nat → Nat → Int32} {g : Nat → Nat → Int64} {n P k : Nat} {wl al bl cl : Nat → Nat} (hn : n ≤ 12) (hP : P < 2 ^ 48) (h8 : f 2 8 = nI n) (hg : g 2 12 = lN P) (hL : zLk f k wl al bl cl) (hx : ∀ p, p < n → ∃ x y : Nat, x < 8 ∧ y < 6 ∧ f 5 p = nI x ∧ f 6 p = nI y) : zAc_147 (zuI (zuI (zHc f 148 2) 157 7 (nI (zpc 12 (zfold (zso (f 7)) n 0 0)))) 157 8 (f 2 11)) (zuL g 148 12 (g 2 12)) n P k wl al bl cl := by
  have e : zfold (zso (zHc f 148 2 153)) n 0 0 = zfold (zso (f 7)) n 0 0 := by
    refine zfold_congr _ _ _ (fun j s _ hj => ?_)
    unfold zso
    have e5 : zHc f 148 2 153 j = f 7 j := zHc_r (t := 148) (s := 2) (j := 5) (k := j) (by omega) (by omega) (by omega)
    rw [e5]
  obtain ⟨l1, l2, l3⟩ := hL
  unfold zAc_147 zLk
  simp only [zi_ne, zi_at, Nat.reduceEqDiff, not_false_eq_true, ↓reduceIte, e]
  rw [zHc_ne (t := 148) (s := 2) (i := 13) (by omega), zHc_ne (t := 148) (s := 2) (i := 14) (by omega), zHc_ne (t := 148) (s := 2) (i := 15) (by omega), zHc_ne (t := 148) (s := 2) (i := 16) (by omega), zHc_ne (t := 148) (s := 2) (i := 17) (by omega), zHc_ne (t := 148) (s := 2) (i := 18) (by omega), zHc_o (k := 8) (by omega), zHc_o (k := 11) (by omega), zj_at, if_pos rfl]
  refine ⟨hn, hP, h8, hg, ⟨l1, l2, l3⟩, by trivial, by first | rfl | trivial, fun p hp => ?_⟩
  have e3 : zHc f 148 2 151 p = f 5 p := zHc_r (t := 148) (s := 2) (j := 3) (k := p) (by omega) (by omega) (by omega)
  have e4 : zHc f 148 2 152 p = f 6 p := zHc_r (t := 148) (s := 2) (j := 4) (k := p) (by omega) (by omega) (by omega)
  rw [e3, e4]
  exact hx p hp
/-- from now on all is asked as the hall is now -/
theorem q8_158 {X : Nat × (Nat → Int32)} {d : Nat} {f : Nat → Nat → Int32} {g : Nat → Nat → Int64} {K : (Nat → Nat → Int32) → (Nat → Nat → Int64) → Prop} {n : Nat} (hn : n ≤ 12) (h8 : f 138 8 = nI n) : zCpv X (d + 4) 8 [.ref 158] (zs f g) K = K (zuI (zuI (zHc f 159 138) 168 7 (nI (zpc 12 (zfold (zso (f 143)) n 0 0)))) 168 8 (f 138 11)) (zuL g 159 12 (g 138 12)) := by
  refine zCpv_eq (fun K hK => e8_158 ?_)
  rw [q21_159_138]
  apply e22_159_168
  have e : zfold (zso (zHc f 159 138 164)) n 0 0 = zfold (zso (f 143)) n 0 0 := by
    refine zfold_congr _ _ _ (fun j s _ hj => ?_)
    unfold zso
    have e5 : zHc f 159 138 164 j = f 143 j := zHc_r (t := 159) (s := 138) (j := 5) (k := j) (by omega) (by omega) (by omega)
    rw [e5]
  rw [q23_159 hn (by rw [zHc_o (by omega)]; exact h8), e, if_neg (by decide), if_neg (by decide), zHc_o (by omega)]
  exact hK
theorem zAc_158_at {f : Nat → Nat → Int32} {g : Nat → Nat → Int64} {n P k : Nat} {wl al bl cl : Nat → Nat} (hn : n ≤ 12) (hP : P < 2 ^ 48) (h8 : f 138 8 = nI n) (hg : g 138 12 = lN P) (hL : zLk f k wl al bl cl) (hx : ∀ p, p < n → ∃ x y : Nat, x < 8 ∧ y < 6 ∧ f 141 p = nI x ∧ f 142 p = nI y) : zAc_158 (zuI (zuI (zHc f 159 138) 168 7 (nI (zpc 12 (zfold (zso (f 143)) n 0 0)))) 168 8 (f 138 11)) (zuL g 159 12 (g 138 12)) n P k wl al bl cl := by
  have e : zfold (zso (zHc f 159 138 164)) n 0 0 = zfold (zso (f 143)) n 0 0 := by
    refine zfold_congr _ _ _ (fun j s _ hj => ?_)
    unfold zso
    have e5 : zHc f 159 138 164 j = f 143 j := zHc_r (t := 159) (s := 138) (j := 5) (k := j) (by omega) (by omega) (by omega)
    rw [e5]
  obtain ⟨l1, l2, l3⟩ := hL
  unfold zAc_158 zLk
  simp only [zi_ne, zi_at, Nat.reduceEqDiff, not_false_eq_true, ↓reduceIte, e]
  rw [zHc_ne (t := 159) (s := 138) (i := 13) (by omega), zHc_ne (t := 159) (s := 138) (i := 14) (by omega), zHc_ne (t := 159) (s := 138) (i := 15) (by omega), zHc_ne (t := 159) (s := 138) (i := 16) (by omega), zHc_ne (t := 159) (s := 138) (i := 17) (by omega), zHc_ne (t := 159) (s := 138) (i := 18) (by omega), zHc_o (k := 8) (by omega), zHc_o (k := 11) (by omega), zj_at, if_pos rfl]
  refine ⟨hn, hP, h8, hg, ⟨l1, l2, l3⟩, by trivial, by first | rfl | trivial, fun p hp => ?_⟩
  have e3 : zHc f 159 138 162 p = f 141 p := zHc_r (t := 159) (s := 138) (j := 3) (k := p) (by omega) (by omega) (by omega)
  have e4 : zHc f 159 138 163 p = f 142 p := zHc_r (t := 159) (s := 138) (j := 4) (k := p) (by omega) (by omega) (by omega)
  rw [e3, e4]
  exact hx p hp

/-! who sits where; pillars -/
/-- the first of m from i on -/
def zfs (P : Nat → Bool) : Nat → Nat → Int32
  | 0, _ => -1
  | m + 1, i => if P i = true then nI i else zfs P m (i + 1)
theorem zfs_congr {P Q : Nat → Bool} : ∀ m i, (∀ p, i ≤ p → p < i + m → P p = Q p) → zfs P m i = zfs Q m i
  | 0, _, _ => rfl
  | m + 1, i, h => by
    unfold zfs
    rw [h i (by omega) (by omega), zfs_congr m (i + 1) (fun p h1 h2 => h p (by omega) (by omega))]
theorem nI_in' {c N : Nat} (h : c < N) (hN : N < 2 ^ 31) : ¬ (nI c < 0 ∨ N ≤ c) := by
  rintro (z | z)
  · exact nI_pos (by omega) z
  · omega
theorem lg0 {a b : Nat} (ha : a < 2 ^ 63) (hb : b < 2 ^ 63) : lg_cmp (lN a) (lN b) = 0 ↔ a = b := by
  show (if lN b < lN a then (1 : Int32) else if lN a = lN b then 0 else -1) = 0 ↔ a = b
  simp only [pk_lLT hb ha, pk_lEQ ha hb]
  split
  · constructor
    · intro z; exact absurd z (by decide)
    · intro z; omega
  · split
    · constructor
      · intro _; assumption
      · intro _; rfl
    · constructor
      · intro z; exact absurd z (by decide)
      · intro z; contradiction
theorem lg1 {a : Nat} (ha : a < 2 ^ 63) : lg_cmp (lN a) 1 = 0 ↔ a = 1 := lg0 (b := 1) ha (by omega)
theorem zsn_ev : ∀ (p q : Prop) [Decidable p] [Decidable q], (p ↔ q) → zb p = zb q := by
  intro p q _ _ h
  unfold zb
  by_cases hp : p
  · rw [if_pos hp, if_pos (h.mp hp)]
  · rw [if_neg hp, if_neg (fun z => hp (h.mpr z))]
section ZH2
variable {X : Nat × (Nat → Int32)} {d : Nat} {f : Nat → Nat → Int32} {g : Nat → Nat → Int64} {K : Int32 → (Nat → Nat → Int32) → (Nat → Nat → Int64) → Prop}
theorem l18_2 {a b : Int32} {n : Nat} (h : f 2 8 = nI n) (hn : n ≤ 12) : ∀ m i, i + m = n → K (zfs (fun p => decide (f 5 p = a ∧ f 6 p = b)) m i) f g → zWp X (d + 0) zm18 2 [.ref 2, .int a, .int b, .int (nI i)] [] (zs f g) (zQi K) := by
  intro m
  induction m with
  | zero =>
    intro i hi hK
    apply s18_2_2
    rw [h, if_pos (nI_le (by omega) (by omega))]
    exact hK
  | succ m ih =>
    intro i hi hK
    unfold zfs at hK
    apply s18_2_2
    rw [h, if_neg (nI_ge (by omega) (by omega)), if_neg (nI_in (by omega) (by omega)), nI_cl (by omega), nI_1]
    by_cases e1 : f 5 i = a
    · rw [if_pos e1, if_neg (nI_in' (by omega) (by omega))]
      by_cases e2 : f 6 i = b
      · rw [if_pos e2]
        rw [if_pos (decide_eq_true ⟨e1, e2⟩)] at hK
        exact hK
      · rw [if_neg e2]
        rw [if_neg (fun z => e2 (of_decide_eq_true z).2)] at hK
        exact ih (i + 1) (by omega) hK
    · rw [if_neg e1]
      rw [if_neg (fun z => e1 (of_decide_eq_true z).1)] at hK
      exact ih (i + 1) (by omega) hK
theorem q18_2 {a b : Int32} {n : Nat} (h : f 2 8 = nI n) (hn : n ≤ 12) : zCpi X (d + 1) 18 [.ref 2, .int a, .int b] (zs f g) K = K (zfs (fun p => decide (f 5 p = a ∧ f 6 p = b)) n 0) f g := zCpi_eq (fun K hK => e18_2 (l18_2 h hn n 0 (by omega) hK))
theorem q17_2 {x y P : Nat} (hP : P < 2 ^ 48) (hg : g 2 12 = lN P) (hx : x < 8) (hy : y < 6) : zCpi X (d + 1) 17 [.ref 2, .int (nI x), .int (nI y)] (zs f g) K = K (zb (P.testBit (8 * y + x) = true)) f g := by
  refine zCpi_eq (fun K hK => e17_2 ?_)
  have e : (8 : Int32) * nI y + nI x = nI (8 * y + x) := nI_mb y 8 x
  have e2 := Nat.testBit_eq_decide_div_mod_eq (x := P) (i := 8 * y + x)
  rw [zmO.2, zlU.2, e, hg, wb_bit (by omega) (by omega)]
  rw [e2] at hK
  by_cases hb : P / 2 ^ (8 * y + x) % 2 = 1
  · rw [if_pos ((lg1 (by omega)).mpr hb)]
    simp only [true_or, or_true, false_or, or_false, or_self, and_self, true_and, and_true, not_true_eq_false, not_false_eq_true, ↓reduceIte, eq_self, zq_01, zq_10, zq_m0, zq_m1, zq_0m, zq_1m, zq_2, zq_6, zq_8, zq_10z, zq_12, zq_1000, Int32.reduceLT, Int32.reduceLE, Int32.reduceToInt, Int32.reduceToNatClampNeg, Int32.reduceOfNat, Int.reduceLT, Int.reduceLE, Int.reduceEq, Nat.reduceLeDiff, Nat.reduceEqDiff, zl_2, zl_8, zl_12, zl_50, zl_132, zl_133, zl_134, zl_999, zl_10000]
    unfold zb at hK
    rw [if_pos (decide_eq_true hb)] at hK
    exact hK
  · rw [if_neg (fun z => hb ((lg1 (by omega)).mp z))]
    simp only [true_or, or_true, false_or, or_false, or_self, and_self, true_and, and_true, not_true_eq_false, not_false_eq_true, ↓reduceIte, eq_self, zq_01, zq_10, zq_m0, zq_m1, zq_0m, zq_1m, zq_2, zq_6, zq_8, zq_10z, zq_12, zq_1000, Int32.reduceLT, Int32.reduceLE, Int32.reduceToInt, Int32.reduceToNatClampNeg, Int32.reduceOfNat, Int.reduceLT, Int.reduceLE, Int.reduceEq, Nat.reduceLeDiff, Nat.reduceEqDiff, zl_2, zl_8, zl_12, zl_50, zl_132, zl_133, zl_134, zl_999, zl_10000]
    unfold zb at hK
    rw [if_neg (fun z => hb (of_decide_eq_true z))] at hK
    exact hK
theorem q16_2 {x y P n : Nat} (hP : P < 2 ^ 48) (hg : g 2 12 = lN P) (hx : x < 8) (hy : y < 6) (h : f 2 8 = nI n) (hn : n ≤ 12) : zCpi X (d + 3) 16 [.ref 2, .int (nI x), .int (nI y)] (zs f g) K = K (zb (¬ P.testBit (8 * y + x) = true ∧ zfs (fun p => decide (f 5 p = nI x ∧ f 6 p = nI y)) n 0 = -1)) f g := by
  refine zCpi_eq (fun K hK => e16_2 ?_)
  have h1 : (0 ≤ (nI x).toInt ∧ (nI x).toInt ≤ 7) ∧ 0 ≤ (nI y).toInt ∧ (nI y).toInt ≤ 5 := by
    rw [nI_ti (by omega), nI_ti (by omega)]
    omega
  simp only [q125, q17_2 hP hg hx hy, q18_2 h hn, h1, zsO.2, zmO.2, znO.2, zdO.2, zrO.2, zhO.2, zgO.2, zuO.2, zlH.2, zlU.2, zlS.2, Int32.lt_iff_toInt_lt, Int32.le_iff_toInt_le, true_or, or_true, false_or, or_false, or_self, and_self, true_and, and_true, not_true_eq_false, not_false_eq_true, ↓reduceIte, eq_self, zq_01, zq_10, zq_m0, zq_m1, zq_0m, zq_1m, zq_2, zq_6, zq_8, zq_10z, zq_12, zq_1000, Int32.reduceLT, Int32.reduceLE, Int32.reduceToInt, Int32.reduceToNatClampNeg, Int32.reduceOfNat, Int.reduceLT, Int.reduceLE, Int.reduceEq, Nat.reduceLeDiff, Nat.reduceEqDiff, zl_2, zl_8, zl_12, zl_50, zl_132, zl_133, zl_134, zl_999, zl_10000, zb_0, zb_1, zb_or]
  unfold zb at hK
  by_cases hb : P.testBit (8 * y + x) = true
  · rw [if_neg (fun z => z.1 hb)] at hK
    rw [if_neg (fun z => z hb)]
    exact hK
  · rw [if_pos hb]
    split
    · next e => rw [if_pos ⟨hb, e⟩] at hK; exact hK
    · next e => rw [if_neg (fun z => e z.2)] at hK; exact hK
theorem q16_2_no {a b : Int32} (h1 : ¬ ((0 ≤ a.toInt ∧ a.toInt ≤ 7) ∧ 0 ≤ b.toInt ∧ b.toInt ≤ 5)) : zCpi X (d + 3) 16 [.ref 2, .int a, .int b] (zs f g) K = K 0 f g := by
  refine zCpi_eq (fun K hK => e16_2 ?_)
  simp only [q125, h1, zsO.2, zmO.2, znO.2, zdO.2, zrO.2, zhO.2, zgO.2, zuO.2, zlH.2, zlU.2, zlS.2, Int32.lt_iff_toInt_lt, Int32.le_iff_toInt_le, true_or, or_true, false_or, or_false, or_self, and_self, true_and, and_true, not_true_eq_false, not_false_eq_true, ↓reduceIte, eq_self, zq_01, zq_10, zq_m0, zq_m1, zq_0m, zq_1m, zq_2, zq_6, zq_8, zq_10z, zq_12, zq_1000, Int32.reduceLT, Int32.reduceLE, Int32.reduceToInt, Int32.reduceToNatClampNeg, Int32.reduceOfNat, Int.reduceLT, Int.reduceLE, Int.reduceEq, Nat.reduceLeDiff, Nat.reduceEqDiff, zl_2, zl_8, zl_12, zl_50, zl_132, zl_133, zl_134, zl_999, zl_10000, zb_0, zb_1, zb_or]
  exact hK
end ZH2
section ZH138
variable {X : Nat × (Nat → Int32)} {d : Nat} {f : Nat → Nat → Int32} {g : Nat → Nat → Int64} {K : Int32 → (Nat → Nat → Int32) → (Nat → Nat → Int64) → Prop}
theorem l18_138 {a b : Int32} {n : Nat} (h : f 138 8 = nI n) (hn : n ≤ 12) : ∀ m i, i + m = n → K (zfs (fun p => decide (f 141 p = a ∧ f 142 p = b)) m i) f g → zWp X (d + 0) zm18 2 [.ref 138, .int a, .int b, .int (nI i)] [] (zs f g) (zQi K) := by
  intro m
  induction m with
  | zero =>
    intro i hi hK
    apply s18_2_138
    rw [h, if_pos (nI_le (by omega) (by omega))]
    exact hK
  | succ m ih =>
    intro i hi hK
    unfold zfs at hK
    apply s18_2_138
    rw [h, if_neg (nI_ge (by omega) (by omega)), if_neg (nI_in (by omega) (by omega)), nI_cl (by omega), nI_1]
    by_cases e1 : f 141 i = a
    · rw [if_pos e1, if_neg (nI_in' (by omega) (by omega))]
      by_cases e2 : f 142 i = b
      · rw [if_pos e2]
        rw [if_pos (decide_eq_true ⟨e1, e2⟩)] at hK
        exact hK
      · rw [if_neg e2]
        rw [if_neg (fun z => e2 (of_decide_eq_true z).2)] at hK
        exact ih (i + 1) (by omega) hK
    · rw [if_neg e1]
      rw [if_neg (fun z => e1 (of_decide_eq_true z).1)] at hK
      exact ih (i + 1) (by omega) hK
theorem q18_138 {a b : Int32} {n : Nat} (h : f 138 8 = nI n) (hn : n ≤ 12) : zCpi X (d + 1) 18 [.ref 138, .int a, .int b] (zs f g) K = K (zfs (fun p => decide (f 141 p = a ∧ f 142 p = b)) n 0) f g := zCpi_eq (fun K hK => e18_138 (l18_138 h hn n 0 (by omega) hK))
theorem q17_138 {x y P : Nat} (hP : P < 2 ^ 48) (hg : g 138 12 = lN P) (hx : x < 8) (hy : y < 6) : zCpi X (d + 1) 17 [.ref 138, .int (nI x), .int (nI y)] (zs f g) K = K (zb (P.testBit (8 * y + x) = true)) f g := by
  refine zCpi_eq (fun K hK => e17_138 ?_)
  have e : (8 : Int32) * nI y + nI x = nI (8 * y + x) := nI_mb y 8 x
  have e2 := Nat.testBit_eq_decide_div_mod_eq (x := P) (i := 8 * y + x)
  rw [zmO.2, zlU.2, e, hg, wb_bit (by omega) (by omega)]
  rw [e2] at hK
  by_cases hb : P / 2 ^ (8 * y + x) % 2 = 1
  · rw [if_pos ((lg1 (by omega)).mpr hb)]
    simp only [true_or, or_true, false_or, or_false, or_self, and_self, true_and, and_true, not_true_eq_false, not_false_eq_true, ↓reduceIte, eq_self, zq_01, zq_10, zq_m0, zq_m1, zq_0m, zq_1m, zq_2, zq_6, zq_8, zq_10z, zq_12, zq_1000, Int32.reduceLT, Int32.reduceLE, Int32.reduceToInt, Int32.reduceToNatClampNeg, Int32.reduceOfNat, Int.reduceLT, Int.reduceLE, Int.reduceEq, Nat.reduceLeDiff, Nat.reduceEqDiff, zl_2, zl_8, zl_12, zl_50, zl_132, zl_133, zl_134, zl_999, zl_10000]
    unfold zb at hK
    rw [if_pos (decide_eq_true hb)] at hK
    exact hK
  · rw [if_neg (fun z => hb ((lg1 (by omega)).mp z))]
    simp only [true_or, or_true, false_or, or_false, or_self, and_self, true_and, and_true, not_true_eq_false, not_false_eq_true, ↓reduceIte, eq_self, zq_01, zq_10, zq_m0, zq_m1, zq_0m, zq_1m, zq_2, zq_6, zq_8, zq_10z, zq_12, zq_1000, Int32.reduceLT, Int32.reduceLE, Int32.reduceToInt, Int32.reduceToNatClampNeg, Int32.reduceOfNat, Int.reduceLT, Int.reduceLE, Int.reduceEq, Nat.reduceLeDiff, Nat.reduceEqDiff, zl_2, zl_8, zl_12, zl_50, zl_132, zl_133, zl_134, zl_999, zl_10000]
    unfold zb at hK
    rw [if_neg (fun z => hb (of_decide_eq_true z))] at hK
    exact hK
theorem q16_138 {x y P n : Nat} (hP : P < 2 ^ 48) (hg : g 138 12 = lN P) (hx : x < 8) (hy : y < 6) (h : f 138 8 = nI n) (hn : n ≤ 12) : zCpi X (d + 3) 16 [.ref 138, .int (nI x), .int (nI y)] (zs f g) K = K (zb (¬ P.testBit (8 * y + x) = true ∧ zfs (fun p => decide (f 141 p = nI x ∧ f 142 p = nI y)) n 0 = -1)) f g := by
  refine zCpi_eq (fun K hK => e16_138 ?_)
  have h1 : (0 ≤ (nI x).toInt ∧ (nI x).toInt ≤ 7) ∧ 0 ≤ (nI y).toInt ∧ (nI y).toInt ≤ 5 := by
    rw [nI_ti (by omega), nI_ti (by omega)]
    omega
  simp only [q125, q17_138 hP hg hx hy, q18_138 h hn, h1, zsO.2, zmO.2, znO.2, zdO.2, zrO.2, zhO.2, zgO.2, zuO.2, zlH.2, zlU.2, zlS.2, Int32.lt_iff_toInt_lt, Int32.le_iff_toInt_le, true_or, or_true, false_or, or_false, or_self, and_self, true_and, and_true, not_true_eq_false, not_false_eq_true, ↓reduceIte, eq_self, zq_01, zq_10, zq_m0, zq_m1, zq_0m, zq_1m, zq_2, zq_6, zq_8, zq_10z, zq_12, zq_1000, Int32.reduceLT, Int32.reduceLE, Int32.reduceToInt, Int32.reduceToNatClampNeg, Int32.reduceOfNat, Int.reduceLT, Int.reduceLE, Int.reduceEq, Nat.reduceLeDiff, Nat.reduceEqDiff, zl_2, zl_8, zl_12, zl_50, zl_132, zl_133, zl_134, zl_999, zl_10000, zb_0, zb_1, zb_or]
  unfold zb at hK
  by_cases hb : P.testBit (8 * y + x) = true
  · rw [if_neg (fun z => z.1 hb)] at hK
    rw [if_neg (fun z => z hb)]
    exact hK
  · rw [if_pos hb]
    split
    · next e => rw [if_pos ⟨hb, e⟩] at hK; exact hK
    · next e => rw [if_neg (fun z => e z.2)] at hK; exact hK
theorem q16_138_no {a b : Int32} (h1 : ¬ ((0 ≤ a.toInt ∧ a.toInt ≤ 7) ∧ 0 ≤ b.toInt ∧ b.toInt ≤ 5)) : zCpi X (d + 3) 16 [.ref 138, .int a, .int b] (zs f g) K = K 0 f g := by
  refine zCpi_eq (fun K hK => e16_138 ?_)
  simp only [q125, h1, zsO.2, zmO.2, znO.2, zdO.2, zrO.2, zhO.2, zgO.2, zuO.2, zlH.2, zlU.2, zlS.2, Int32.lt_iff_toInt_lt, Int32.le_iff_toInt_le, true_or, or_true, false_or, or_false, or_self, and_self, true_and, and_true, not_true_eq_false, not_false_eq_true, ↓reduceIte, eq_self, zq_01, zq_10, zq_m0, zq_m1, zq_0m, zq_1m, zq_2, zq_6, zq_8, zq_10z, zq_12, zq_1000, Int32.reduceLT, Int32.reduceLE, Int32.reduceToInt, Int32.reduceToNatClampNeg, Int32.reduceOfNat, Int.reduceLT, Int.reduceLE, Int.reduceEq, Nat.reduceLeDiff, Nat.reduceEqDiff, zl_2, zl_8, zl_12, zl_50, zl_132, zl_133, zl_134, zl_999, zl_10000, zb_0, zb_1, zb_or]
  exact hK
end ZH138
section ZHR
variable {X : Nat × (Nat → Int32)} {d : Nat} {f : Nat → Nat → Int32} {g : Nat → Nat → Int64} {K : Int32 → (Nat → Nat → Int32) → (Nat → Nat → Int64) → Prop}
theorem l167 {a : Int32} {n : Nat} (h : f 178 7 = nI n) (hn : n ≤ 12) : ∀ m i, i + m = n → K (zfs (fun p => decide (f 179 (16 + p) = a)) m i) f g → zWp X (d + 0) zm167 2 [.ref 178, .int a, .int (nI i)] [] (zs f g) (zQi K) := by
  intro m
  induction m with
  | zero =>
    intro i hi hK
    apply s167_2_178
    rw [h, if_pos (nI_le (by omega) (by omega))]
    exact hK
  | succ m ih =>
    intro i hi hK
    unfold zfs at hK
    apply s167_2_178
    rw [h, if_neg (nI_ge (by omega) (by omega)), nI_l16, if_neg (nI_in (by omega) (by omega)), nI_cl (by omega), nI_1]
    by_cases e1 : f 179 (16 + i) = a
    · rw [if_pos e1]
      rw [if_pos (decide_eq_true e1)] at hK
      exact hK
    · rw [if_neg e1]
      rw [if_neg (fun z => e1 (of_decide_eq_true z))] at hK
      exact ih (i + 1) (by omega) hK
theorem q167 {a : Int32} {n : Nat} (h : f 178 7 = nI n) (hn : n ≤ 12) : zCpi X (d + 1) 167 [.ref 178, .int a] (zs f g) K = K (zfs (fun p => decide (f 179 (16 + p) = a)) n 0) f g := zCpi_eq (fun K hK => e167_178 (l167 h hn n 0 (by omega) hK))
theorem q166 {k P n : Nat} (hk : k < 48) (hp : f 197 k = if P.testBit k = true then 1 else 0) (h : f 178 7 = nI n) (hn : n ≤ 12) : zCpi X (d + 2) 166 [.ref 178, .int (nI k)] (zs f g) K = K (zb (¬ P.testBit k = true ∧ zfs (fun p => decide (f 179 (16 + p) = nI k)) n 0 = -1)) f g := by
  refine zCpi_eq (fun K hK => e166_178 ?_)
  rw [if_neg (nI_in (by omega) (by omega)), nI_cl (by omega), hp]
  simp only [q167 h hn, zsO.2, zmO.2, znO.2, zdO.2, zrO.2, zhO.2, zgO.2, zuO.2, zlH.2, zlU.2, zlS.2, Int32.lt_iff_toInt_lt, Int32.le_iff_toInt_le, true_or, or_true, false_or, or_false, or_self, and_self, true_and, and_true, not_true_eq_false, not_false_eq_true, ↓reduceIte, eq_self, zq_01, zq_10, zq_m0, zq_m1, zq_0m, zq_1m, zq_2, zq_6, zq_8, zq_10z, zq_12, zq_1000, Int32.reduceLT, Int32.reduceLE, Int32.reduceToInt, Int32.reduceToNatClampNeg, Int32.reduceOfNat, Int.reduceLT, Int.reduceLE, Int.reduceEq, Nat.reduceLeDiff, Nat.reduceEqDiff, zl_2, zl_8, zl_12, zl_50, zl_132, zl_133, zl_134, zl_999, zl_10000, zb_0, zb_1, zb_or]
  unfold zb at hK
  by_cases hb : P.testBit k = true
  · rw [if_neg (fun z => z.1 hb)] at hK
    rw [if_pos hb, if_neg (by decide)]
    exact hK
  · rw [if_neg hb, if_pos rfl]
    split
    · next e => rw [if_pos ⟨hb, e⟩] at hK; exact hK
    · next e => rw [if_neg (fun z => e z.2)] at hK; exact hK
end ZHR
/-- the same one sits there on both sides -/
theorem zHal_on {c st un bt pl : Int32} {L E Xs Ys N O A W w er : Nat → Int32} {B : Int} {n x y : Nat} (h : zHal c st un bt L E Xs Ys N O A W w pl er B) (hc : c = nI n) (hn : n ≤ 12) (hx : x < 8) (hy : y < 6) : zfs (fun p => decide (w (16 + p) = nI (8 * y + x))) n 0 = zfs (fun p => decide (Xs p = nI x ∧ Ys p = nI y)) n 0 := by
  obtain ⟨n', hn', h1, h2, h3, h4, h5, h6, h7, h8⟩ := h
  have en : n' = n := (nI_eq (by omega) (by omega)).mp (h1.symm.trans hc)
  subst en
  refine zfs_congr n' 0 (fun p _ hp => ?_)
  obtain ⟨-, -, ⟨x', y', hx', hy', e1, e2, e3⟩, -⟩ := h8 p (by omega)
  rw [e1, e2, e3]
  by_cases hh : x' = x ∧ y' = y
  · obtain ⟨z1, z2⟩ := hh
    subst z1
    subst z2
    rw [decide_eq_true rfl, decide_eq_true ⟨rfl, rfl⟩]
  · rw [decide_eq_false, decide_eq_false]
    · rintro ⟨z1, z2⟩
      exact hh ⟨(nI_eq (by omega) (by omega)).mp z1, (nI_eq (by omega) (by omega)).mp z2⟩
    · intro z
      have := (nI_eq (by omega) (by omega)).mp z
      exact hh (by omega)

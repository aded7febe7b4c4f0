/-! SMALL METHODS, as equations -/
theorem zq_01 : ((0 : Int32) = 1) = False := by decide
theorem zq_10 : ((1 : Int32) = 0) = False := by decide
theorem zq_m0 : ((-1 : Int32) = 0) = False := by decide
theorem zq_m1 : ((-1 : Int32) = 1) = False := by decide
theorem zq_0m : ((0 : Int32) = -1) = False := by decide
theorem zq_1m : ((1 : Int32) = -1) = False := by decide
theorem zq_2 : ((2 : Int32) = 0) = False := by decide
theorem zq_6 : ((6 : Int32) = 0) = False := by decide
theorem zq_8 : ((8 : Int32) = 0) = False := by decide
theorem zq_10z : ((10 : Int32) = 0) = False := by decide
theorem zq_12 : ((12 : Int32) = 0) = False := by decide
theorem zq_1000 : ((1000 : Int32) = 0) = False := by decide
theorem zl_2 : zlit (-2) = -2 := by decide
theorem zl_8 : zlit (-8) = -8 := by decide
theorem zl_12 : zlit (-12) = -12 := by decide
theorem zl_50 : zlit (-50) = -50 := by decide
theorem zl_132 : zlit (-132) = -132 := by decide
theorem zl_133 : zlit (-133) = -133 := by decide
theorem zl_134 : zlit (-134) = -134 := by decide
theorem zl_999 : zlit (-999) = -999 := by decide
theorem zl_10000 : zlit (-10000) = -10000 := by decide
/-- truths as ints -/
def zb (p : Prop) [Decidable p] : Int32 := if p then 1 else 0
theorem zb_0 {p : Prop} [Decidable p] : (zb p = 0) = ¬ p := by
  unfold zb
  split <;> rename_i h <;> simp [h]
theorem zb_1 {p : Prop} [Decidable p] : (zb p = 1) = p := by
  unfold zb
  split <;> rename_i h <;> simp [h]
theorem zb_or {p : Prop} [Decidable p] : (zb p = 0 ∨ zb p = 1) = True := by
  unfold zb
  split <;> simp
/-- greater, lesser, plain -/
def zmx (a b : Int32) : Int32 := if a < b then b else a
def zmn (a b : Int32) : Int32 := if b < a then b else a
def zab (a : Int32) : Int32 := if 0 ≤ a then a else -a
def zhe (v lo hi : Int32) : Int32 := if v < lo then lo else if hi < v then hi else v
theorem zmx_t {a b : Int32} : (zmx a b).toInt = max a.toInt b.toInt := by
  unfold zmx
  simp only [Int32.lt_iff_toInt_lt, Int32.le_iff_toInt_le]
  split <;> omega
theorem zmn_t {a b : Int32} : (zmn a b).toInt = min a.toInt b.toInt := by
  unfold zmn
  simp only [Int32.lt_iff_toInt_lt, Int32.le_iff_toInt_le]
  split <;> omega
theorem q124 {X : Nat × (Nat → Int32)} {d : Nat} {f : Nat → Nat → Int32} {g : Nat → Nat → Int64} {K : Int32 → (Nat → Nat → Int32) → (Nat → Nat → Int64) → Prop} {a b c : Int32} : zCpi X (d + 1) 124 [.int a, .int b, .int c] (zs f g) K = K (zb (b.toInt ≤ a.toInt ∧ a.toInt ≤ c.toInt)) f g := by
  refine zCpi_eq (fun K hk => e124 ?_)
  simp only [Int32.lt_iff_toInt_lt, Int32.le_iff_toInt_le, true_or, or_true, false_or, or_false, or_self, and_self, true_and, and_true, not_true_eq_false, not_false_eq_true, ↓reduceIte, eq_self, zq_01, zq_10, zq_m0, zq_m1, zq_0m, zq_1m, zq_2, zq_6, zq_8, zq_10z, zq_12, zq_1000, Int32.reduceLT, Int32.reduceLE, Int32.reduceToInt, Int32.reduceToNatClampNeg, Int32.reduceOfNat, Int.reduceLT, Int.reduceLE, Int.reduceEq, Nat.reduceLeDiff, Nat.reduceEqDiff, zl_2, zl_8, zl_12, zl_50, zl_132, zl_133, zl_134, zl_999, zl_10000]
  unfold zb at hk
  split
  · rw [if_neg (by omega)] at hk; exact hk
  · split
    · rw [if_neg (by omega)] at hk; exact hk
    · rw [if_pos (by omega)] at hk; exact hk
theorem q165 {X : Nat × (Nat → Int32)} {d : Nat} {f : Nat → Nat → Int32} {g : Nat → Nat → Int64} {K : Int32 → (Nat → Nat → Int32) → (Nat → Nat → Int64) → Prop} {a b c : Int32} : zCpi X (d + 1) 165 [.ref 178, .int a, .int b, .int c] (zs f g) K = K (zb (b.toInt ≤ a.toInt ∧ a.toInt ≤ c.toInt)) f g := by
  refine zCpi_eq (fun K hk => e165_178 ?_)
  simp only [Int32.lt_iff_toInt_lt, Int32.le_iff_toInt_le, true_or, or_true, false_or, or_false, or_self, and_self, true_and, and_true, not_true_eq_false, not_false_eq_true, ↓reduceIte, eq_self, zq_01, zq_10, zq_m0, zq_m1, zq_0m, zq_1m, zq_2, zq_6, zq_8, zq_10z, zq_12, zq_1000, Int32.reduceLT, Int32.reduceLE, Int32.reduceToInt, Int32.reduceToNatClampNeg, Int32.reduceOfNat, Int.reduceLT, Int.reduceLE, Int.reduceEq, Nat.reduceLeDiff, Nat.reduceEqDiff, zl_2, zl_8, zl_12, zl_50, zl_132, zl_133, zl_134, zl_999, zl_10000]
  unfold zb at hk
  split
  · rw [if_neg (by omega)] at hk; exact hk
  · split
    · rw [if_neg (by omega)] at hk; exact hk
    · rw [if_pos (by omega)] at hk; exact hk
theorem q20_2 {X : Nat × (Nat → Int32)} {d : Nat} {f : Nat → Nat → Int32} {g : Nat → Nat → Int64} {K : Int32 → (Nat → Nat → Int32) → (Nat → Nat → Int64) → Prop} {a : Int32} : zCpi X (d + 1) 20 [.ref 2, .int a] (zs f g) K = K (zb (0 ≤ a.toInt ∧ a.toInt < (f 2 8).toInt)) f g := by
  refine zCpi_eq (fun K hk => e20_2 ?_)
  simp only [Int32.lt_iff_toInt_lt, Int32.le_iff_toInt_le, true_or, or_true, false_or, or_false, or_self, and_self, true_and, and_true, not_true_eq_false, not_false_eq_true, ↓reduceIte, eq_self, zq_01, zq_10, zq_m0, zq_m1, zq_0m, zq_1m, zq_2, zq_6, zq_8, zq_10z, zq_12, zq_1000, Int32.reduceLT, Int32.reduceLE, Int32.reduceToInt, Int32.reduceToNatClampNeg, Int32.reduceOfNat, Int.reduceLT, Int.reduceLE, Int.reduceEq, Nat.reduceLeDiff, Nat.reduceEqDiff, zl_2, zl_8, zl_12, zl_50, zl_132, zl_133, zl_134, zl_999, zl_10000]
  unfold zb at hk
  split
  · rw [if_neg (by omega)] at hk; exact hk
  · split
    · rw [if_neg (by omega)] at hk; exact hk
    · rw [if_pos (by omega)] at hk; exact hk
theorem q20_138 {X : Nat × (Nat → Int32)} {d : Nat} {f : Nat → Nat → Int32} {g : Nat → Nat → Int64} {K : Int32 → (Nat → Nat → Int32) → (Nat → Nat → Int64) → Prop} {a : Int32} : zCpi X (d + 1) 20 [.ref 138, .int a] (zs f g) K = K (zb (0 ≤ a.toInt ∧ a.toInt < (f 138 8).toInt)) f g := by
  refine zCpi_eq (fun K hk => e20_138 ?_)
  simp only [Int32.lt_iff_toInt_lt, Int32.le_iff_toInt_le, true_or, or_true, false_or, or_false, or_self, and_self, true_and, and_true, not_true_eq_false, not_false_eq_true, ↓reduceIte, eq_self, zq_01, zq_10, zq_m0, zq_m1, zq_0m, zq_1m, zq_2, zq_6, zq_8, zq_10z, zq_12, zq_1000, Int32.reduceLT, Int32.reduceLE, Int32.reduceToInt, Int32.reduceToNatClampNeg, Int32.reduceOfNat, Int.reduceLT, Int.reduceLE, Int.reduceEq, Nat.reduceLeDiff, Nat.reduceEqDiff, zl_2, zl_8, zl_12, zl_50, zl_132, zl_133, zl_134, zl_999, zl_10000]
  unfold zb at hk
  split
  · rw [if_neg (by omega)] at hk; exact hk
  · split
    · rw [if_neg (by omega)] at hk; exact hk
    · rw [if_pos (by omega)] at hk; exact hk
theorem q169 {X : Nat × (Nat → Int32)} {d : Nat} {f : Nat → Nat → Int32} {g : Nat → Nat → Int64} {K : Int32 → (Nat → Nat → Int32) → (Nat → Nat → Int64) → Prop} {a : Int32} : zCpi X (d + 1) 169 [.ref 178, .int a] (zs f g) K = K (zb (0 ≤ a.toInt ∧ a.toInt < (f 178 7).toInt)) f g := by
  refine zCpi_eq (fun K hk => e169_178 ?_)
  simp only [Int32.lt_iff_toInt_lt, Int32.le_iff_toInt_le, true_or, or_true, false_or, or_false, or_self, and_self, true_and, and_true, not_true_eq_false, not_false_eq_true, ↓reduceIte, eq_self, zq_01, zq_10, zq_m0, zq_m1, zq_0m, zq_1m, zq_2, zq_6, zq_8, zq_10z, zq_12, zq_1000, Int32.reduceLT, Int32.reduceLE, Int32.reduceToInt, Int32.reduceToNatClampNeg, Int32.reduceOfNat, Int.reduceLT, Int.reduceLE, Int.reduceEq, Nat.reduceLeDiff, Nat.reduceEqDiff, zl_2, zl_8, zl_12, zl_50, zl_132, zl_133, zl_134, zl_999, zl_10000]
  unfold zb at hk
  split
  · rw [if_neg (by omega)] at hk; exact hk
  · split
    · rw [if_neg (by omega)] at hk; exact hk
    · rw [if_pos (by omega)] at hk; exact hk
theorem q125 {X : Nat × (Nat → Int32)} {d : Nat} {f : Nat → Nat → Int32} {g : Nat → Nat → Int64} {K : Int32 → (Nat → Nat → Int32) → (Nat → Nat → Int64) → Prop} {a b : Int32} : zCpi X (d + 2) 125 [.int a, .int b] (zs f g) K = K (zb ((0 ≤ a.toInt ∧ a.toInt ≤ 7) ∧ 0 ≤ b.toInt ∧ b.toInt ≤ 5)) f g := by
  refine zCpi_eq (fun K hk => e125 ?_)
  simp only [q124, zb_0, Int32.lt_iff_toInt_lt, Int32.le_iff_toInt_le, true_or, or_true, false_or, or_false, or_self, and_self, true_and, and_true, not_true_eq_false, not_false_eq_true, ↓reduceIte, eq_self, zq_01, zq_10, zq_m0, zq_m1, zq_0m, zq_1m, zq_2, zq_6, zq_8, zq_10z, zq_12, zq_1000, Int32.reduceLT, Int32.reduceLE, Int32.reduceToInt, Int32.reduceToNatClampNeg, Int32.reduceOfNat, Int.reduceLT, Int.reduceLE, Int.reduceEq, Nat.reduceLeDiff, Nat.reduceEqDiff, zl_2, zl_8, zl_12, zl_50, zl_132, zl_133, zl_134, zl_999, zl_10000]
  unfold zb at hk
  split
  · rw [if_neg (by omega)] at hk; exact hk
  · split
    · rw [if_neg (by omega)] at hk; exact hk
    · rw [if_pos (by omega)] at hk; exact hk
theorem q44 {X : Nat × (Nat → Int32)} {d : Nat} {f : Nat → Nat → Int32} {g : Nat → Nat → Int64} {K : (Nat → Nat → Int32) → (Nat → Nat → Int64) → Prop} : zCpv X (d + 1) 44 [.ref 81] (zs f g) K = K (zuI f 81 3 0) g := zCpv_eq (fun K hk => e44_81 hk)
theorem q286 {X : Nat × (Nat → Int32)} {d : Nat} {f : Nat → Nat → Int32} {g : Nat → Nat → Int64} {K : Int32 → (Nat → Nat → Int32) → (Nat → Nat → Int64) → Prop} {a : Int32} : zCpi X (d + 1) 286 [.int a] (zs f g) K = K (zab a) f g := by
  refine zCpi_eq (fun K hk => e286 ?_)
  unfold zab at hk
  simp only [zsO.2, zmO.2, znO.2, zdO.2, zrO.2, zhO.2, zgO.2, zuO.2, zlH.2, zlU.2, zlS.2]
  split <;> rename_i h <;> simpa only [h, if_true, if_false] using hk
theorem q220 {X : Nat × (Nat → Int32)} {d : Nat} {f : Nat → Nat → Int32} {g : Nat → Nat → Int64} {K : Int32 → (Nat → Nat → Int32) → (Nat → Nat → Int64) → Prop} {a : Int32} : zCpi X (d + 1) 220 [.ref 178, .int a] (zs f g) K = K (zab a) f g := by
  refine zCpi_eq (fun K hk => e220_178 ?_)
  unfold zab at hk
  simp only [zsO.2, zmO.2, znO.2, zdO.2, zrO.2, zhO.2, zgO.2, zuO.2, zlH.2, zlU.2, zlS.2]
  split <;> rename_i h <;> simpa only [h, if_true, if_false] using hk
theorem q287 {X : Nat × (Nat → Int32)} {d : Nat} {f : Nat → Nat → Int32} {g : Nat → Nat → Int64} {K : Int32 → (Nat → Nat → Int32) → (Nat → Nat → Int64) → Prop} {a b : Int32} : zCpi X (d + 1) 287 [.int a, .int b] (zs f g) K = K (zmx a b) f g := by
  refine zCpi_eq (fun K hk => e287 ?_)
  unfold zmx at hk
  split <;> rename_i h <;> simpa only [h, if_true, if_false] using hk
theorem q288 {X : Nat × (Nat → Int32)} {d : Nat} {f : Nat → Nat → Int32} {g : Nat → Nat → Int64} {K : Int32 → (Nat → Nat → Int32) → (Nat → Nat → Int64) → Prop} {a b : Int32} : zCpi X (d + 1) 288 [.int a, .int b] (zs f g) K = K (zmn a b) f g := by
  refine zCpi_eq (fun K hk => e288 ?_)
  unfold zmn at hk
  split <;> rename_i h <;> simpa only [h, if_true, if_false] using hk
theorem q223 {X : Nat × (Nat → Int32)} {d : Nat} {f : Nat → Nat → Int32} {g : Nat → Nat → Int64} {K : Int32 → (Nat → Nat → Int32) → (Nat → Nat → Int64) → Prop} {a b : Int32} : zCpi X (d + 1) 223 [.ref 178, .int a, .int b] (zs f g) K = K (zmx a b) f g := by
  refine zCpi_eq (fun K hk => e223_178 ?_)
  have e : zmx a b = if a ≤ b then b else a := by
    unfold zmx
    by_cases h : a < b
    · rw [if_pos h, if_pos (by simp only [Int32.lt_iff_toInt_lt, Int32.le_iff_toInt_le] at h ⊢; omega)]
    · rw [if_neg h]
      by_cases h2 : a ≤ b
      · rw [if_pos h2]
        simp only [Int32.lt_iff_toInt_lt, Int32.le_iff_toInt_le] at h h2
        exact Int32.toInt_inj.mp (by omega)
      · rw [if_neg h2]
  rw [e] at hk
  split <;> rename_i h <;> simpa only [h, if_true, if_false] using hk
theorem q222 {X : Nat × (Nat → Int32)} {d : Nat} {f : Nat → Nat → Int32} {g : Nat → Nat → Int64} {K : Int32 → (Nat → Nat → Int32) → (Nat → Nat → Int64) → Prop} {a b : Int32} : zCpi X (d + 1) 222 [.ref 178, .int a, .int b] (zs f g) K = K (zmn a b) f g := by
  refine zCpi_eq (fun K hk => e222_178 ?_)
  have e : zmn a b = if b ≤ a then b else a := by
    unfold zmn
    by_cases h : b < a
    · rw [if_pos h, if_pos (by simp only [Int32.lt_iff_toInt_lt, Int32.le_iff_toInt_le] at h ⊢; omega)]
    · rw [if_neg h]
      by_cases h2 : b ≤ a
      · rw [if_pos h2]
        simp only [Int32.lt_iff_toInt_lt, Int32.le_iff_toInt_le] at h h2
        exact Int32.toInt_inj.mp (by omega)
      · rw [if_neg h2]
  rw [e] at hk
  split <;> rename_i h <;> simpa only [h, if_true, if_false] using hk
theorem q228 {X : Nat × (Nat → Int32)} {d : Nat} {f : Nat → Nat → Int32} {g : Nat → Nat → Int64} {K : Int32 → (Nat → Nat → Int32) → (Nat → Nat → Int64) → Prop} {a b c : Int32} : zCpi X (d + 1) 228 [.ref 178, .int a, .int b, .int c] (zs f g) K = K (zhe a b c) f g := by
  refine zCpi_eq (fun K hk => e228_178 ?_)
  unfold zhe at hk
  simp only [Int32.lt_iff_toInt_lt, Int32.le_iff_toInt_le] at hk ⊢
  split
  · rw [if_neg (by omega)] at hk
    split
    · rw [if_neg (by omega)] at hk; exact hk
    · rw [if_pos (by omega)] at hk; exact hk
  · rw [if_pos (by omega)] at hk; exact hk
theorem q67_25 {X : Nat × (Nat → Int32)} {d : Nat} {f : Nat → Nat → Int32} {g : Nat → Nat → Int64} {K : Int32 → (Nat → Nat → Int32) → (Nat → Nat → Int64) → Prop} {a : Int32} {k : Nat} (hk : k ≤ 12) (h : f 25 1 = nI k) : zCpi X (d + 1) 67 [.ref 25, .int a] (zs f g) K = if a = -1 then K 0 (zuI f 25 1 0) g else if k < 12 then K (nI (k + 1)) (zuI (zuI f 26 k a) 25 1 (nI (k + 1))) g else K (-1) f g := by
  have ht := nI_ti (k := k) (by omega)
  have hc := nI_cl (k := k) (by omega)
  by_cases h1 : a = -1
  · rw [if_pos h1]
    exact zCpi_eq (fun K hk => e67_25 (by rw [if_pos h1]; exact hk))
  · rw [if_neg h1]
    by_cases h2 : k < 12
    · rw [if_pos h2]
      refine zCpi_eq (fun K hk => e67_25 ?_)
      rw [if_neg h1, h, if_pos (by simp only [Int32.lt_iff_toInt_lt, Int32.le_iff_toInt_le, ht, Int32.reduceToInt]; omega), if_neg (nI_in h2 (by omega)), hc, nI_1]
      exact hk
    · rw [if_neg h2]
      refine zCpi_eq (fun K hk => e67_25 ?_)
      rw [if_neg h1, h, if_neg (by simp only [Int32.lt_iff_toInt_lt, Int32.le_iff_toInt_le, ht, Int32.reduceToInt]; omega)]
      exact hk
theorem q67_27 {X : Nat × (Nat → Int32)} {d : Nat} {f : Nat → Nat → Int32} {g : Nat → Nat → Int64} {K : Int32 → (Nat → Nat → Int32) → (Nat → Nat → Int64) → Prop} {a : Int32} {k : Nat} (hk : k ≤ 12) (h : f 27 1 = nI k) : zCpi X (d + 1) 67 [.ref 27, .int a] (zs f g) K = if a = -1 then K 0 (zuI f 27 1 0) g else if k < 12 then K (nI (k + 1)) (zuI (zuI f 28 k a) 27 1 (nI (k + 1))) g else K (-1) f g := by
  have ht := nI_ti (k := k) (by omega)
  have hc := nI_cl (k := k) (by omega)
  by_cases h1 : a = -1
  · rw [if_pos h1]
    exact zCpi_eq (fun K hk => e67_27 (by rw [if_pos h1]; exact hk))
  · rw [if_neg h1]
    by_cases h2 : k < 12
    · rw [if_pos h2]
      refine zCpi_eq (fun K hk => e67_27 ?_)
      rw [if_neg h1, h, if_pos (by simp only [Int32.lt_iff_toInt_lt, Int32.le_iff_toInt_le, ht, Int32.reduceToInt]; omega), if_neg (nI_in h2 (by omega)), hc, nI_1]
      exact hk
    · rw [if_neg h2]
      refine zCpi_eq (fun K hk => e67_27 ?_)
      rw [if_neg h1, h, if_neg (by simp only [Int32.lt_iff_toInt_lt, Int32.le_iff_toInt_le, ht, Int32.reduceToInt]; omega)]
      exact hk
theorem q67_29 {X : Nat × (Nat → Int32)} {d : Nat} {f : Nat → Nat → Int32} {g : Nat → Nat → Int64} {K : Int32 → (Nat → Nat → Int32) → (Nat → Nat → Int64) → Prop} {a : Int32} {k : Nat} (hk : k ≤ 10) (h : f 29 1 = nI k) : zCpi X (d + 1) 67 [.ref 29, .int a] (zs f g) K = if a = -1 then K 0 (zuI f 29 1 0) g else if k < 10 then K (nI (k + 1)) (zuI (zuI f 30 k a) 29 1 (nI (k + 1))) g else K (-1) f g := by
  have ht := nI_ti (k := k) (by omega)
  have hc := nI_cl (k := k) (by omega)
  by_cases h1 : a = -1
  · rw [if_pos h1]
    exact zCpi_eq (fun K hk => e67_29 (by rw [if_pos h1]; exact hk))
  · rw [if_neg h1]
    by_cases h2 : k < 10
    · rw [if_pos h2]
      refine zCpi_eq (fun K hk => e67_29 ?_)
      rw [if_neg h1, h, if_pos (by simp only [Int32.lt_iff_toInt_lt, Int32.le_iff_toInt_le, ht, Int32.reduceToInt]; omega), if_neg (nI_in h2 (by omega)), hc, nI_1]
      exact hk
    · rw [if_neg h2]
      refine zCpi_eq (fun K hk => e67_29 ?_)
      rw [if_neg h1, h, if_neg (by simp only [Int32.lt_iff_toInt_lt, Int32.le_iff_toInt_le, ht, Int32.reduceToInt]; omega)]
      exact hk
theorem q67_31 {X : Nat × (Nat → Int32)} {d : Nat} {f : Nat → Nat → Int32} {g : Nat → Nat → Int64} {K : Int32 → (Nat → Nat → Int32) → (Nat → Nat → Int64) → Prop} {a : Int32} {k : Nat} (hk : k ≤ 16) (h : f 31 1 = nI k) : zCpi X (d + 1) 67 [.ref 31, .int a] (zs f g) K = if a = -1 then K 0 (zuI f 31 1 0) g else if k < 16 then K (nI (k + 1)) (zuI (zuI f 32 k a) 31 1 (nI (k + 1))) g else K (-1) f g := by
  have ht := nI_ti (k := k) (by omega)
  have hc := nI_cl (k := k) (by omega)
  by_cases h1 : a = -1
  · rw [if_pos h1]
    exact zCpi_eq (fun K hk => e67_31 (by rw [if_pos h1]; exact hk))
  · rw [if_neg h1]
    by_cases h2 : k < 16
    · rw [if_pos h2]
      refine zCpi_eq (fun K hk => e67_31 ?_)
      rw [if_neg h1, h, if_pos (by simp only [Int32.lt_iff_toInt_lt, Int32.le_iff_toInt_le, ht, Int32.reduceToInt]; omega), if_neg (nI_in h2 (by omega)), hc, nI_1]
      exact hk
    · rw [if_neg h2]
      refine zCpi_eq (fun K hk => e67_31 ?_)
      rw [if_neg h1, h, if_neg (by simp only [Int32.lt_iff_toInt_lt, Int32.le_iff_toInt_le, ht, Int32.reduceToInt]; omega)]
      exact hk

/-! copies of halls; the past -/
/-- hall s copied over hall t -/
def zHc (f : Nat → Nat → Int32) (t s : Nat) : Nat → Nat → Int32 := fun i k => if t < i ∧ i ≤ t + 8 then (if k < 12 then f (s + (i - t)) k else f i k) else if i = t ∧ 8 ≤ k ∧ k < 12 then f s k else f i k
theorem zHc_ne {f : Nat → Nat → Int32} {t s i : Nat} (h : ¬ (t ≤ i ∧ i ≤ t + 8)) : zHc f t s i = f i := by
  funext k
  unfold zHc
  rw [if_neg (by omega), if_neg (by omega)]
theorem zHc_r {f : Nat → Nat → Int32} {t s j k : Nat} (h0 : 0 < j) (h : j ≤ 8) (hk : k < 12) : zHc f t s (t + j) k = f (s + j) k := by
  unfold zHc
  rw [if_pos (by omega), if_pos hk]
  congr 1
  omega
theorem zHc_o {f : Nat → Nat → Int32} {t s k : Nat} (h : 8 ≤ k ∧ k < 12) : zHc f t s t k = f s k := by
  unfold zHc
  rw [if_neg (by omega), if_pos ⟨rfl, h⟩]
theorem zHc_on {f : Nat → Nat → Int32} {t s k : Nat} (h : ¬ (8 ≤ k ∧ k < 12)) : zHc f t s t k = f t k := by
  unfold zHc
  rw [if_neg (by omega), if_neg (fun z => h z.2)]
theorem zcpy {a b : Nat → Int32} {k : Nat} : va_cpy a b 0 0 12 k = if k < 12 then a k else b k := by
  unfold va_cpy
  simp only [Nat.zero_le, true_and, Nat.zero_add, Nat.sub_zero]
theorem zHc_84_2 {f : Nat → Nat → Int32} : (zuI (zuI (zuI (zuI (zrI (zrI (zrI (zrI (zrI (zrI (zrI (zrI f 85 (va_cpy (f 3) (f 85) 0 0 12)) 86 (va_cpy (f 4) (f 86) 0 0 12)) 87 (va_cpy (f 5) (f 87) 0 0 12)) 88 (va_cpy (f 6) (f 88) 0 0 12)) 89 (va_cpy (f 7) (f 89) 0 0 12)) 90 (va_cpy (f 8) (f 90) 0 0 12)) 91 (va_cpy (f 9) (f 91) 0 0 12)) 92 (va_cpy (f 10) (f 92) 0 0 12)) 84 8 (f 2 8)) 84 9 (f 2 9)) 84 10 (f 2 10)) 84 11 (f 2 11)) = zHc f 84 2 := by
  funext i k
  by_cases h1 : i = 85
  · subst h1
    have e := zHc_r (f := f) (t := 84) (s := 2) (j := 1) (k := k) (by omega) (by omega)
    simp only [zi_ne, zi_at, zr_ne, zr_at, zj_ne, zj_at, ↓reduceIte, Nat.reduceEqDiff, not_false_eq_true, eq_self, nI_1, zcpy]
    by_cases hk : k < 12
    · rw [if_pos hk]; exact (e hk).symm
    · rw [if_neg hk]
      unfold zHc
      rw [if_pos (by omega), if_neg hk]
  by_cases h2 : i = 86
  · subst h2
    have e := zHc_r (f := f) (t := 84) (s := 2) (j := 2) (k := k) (by omega) (by omega)
    simp only [zi_ne, zi_at, zr_ne, zr_at, zj_ne, zj_at, ↓reduceIte, Nat.reduceEqDiff, not_false_eq_true, eq_self, nI_1, zcpy]
    by_cases hk : k < 12
    · rw [if_pos hk]; exact (e hk).symm
    · rw [if_neg hk]
      unfold zHc
      rw [if_pos (by omega), if_neg hk]
  by_cases h3 : i = 87
  · subst h3
    have e := zHc_r (f := f) (t := 84) (s := 2) (j := 3) (k := k) (by omega) (by omega)
    simp only [zi_ne, zi_at, zr_ne, zr_at, zj_ne, zj_at, ↓reduceIte, Nat.reduceEqDiff, not_false_eq_true, eq_self, nI_1, zcpy]
    by_cases hk : k < 12
    · rw [if_pos hk]; exact (e hk).symm
    · rw [if_neg hk]
      unfold zHc
      rw [if_pos (by omega), if_neg hk]
  by_cases h4 : i = 88
  · subst h4
    have e := zHc_r (f := f) (t := 84) (s := 2) (j := 4) (k := k) (by omega) (by omega)
    simp only [zi_ne, zi_at, zr_ne, zr_at, zj_ne, zj_at, ↓reduceIte, Nat.reduceEqDiff, not_false_eq_true, eq_self, nI_1, zcpy]
    by_cases hk : k < 12
    · rw [if_pos hk]; exact (e hk).symm
    · rw [if_neg hk]
      unfold zHc
      rw [if_pos (by omega), if_neg hk]
  by_cases h5 : i = 89
  · subst h5
    have e := zHc_r (f := f) (t := 84) (s := 2) (j := 5) (k := k) (by omega) (by omega)
    simp only [zi_ne, zi_at, zr_ne, zr_at, zj_ne, zj_at, ↓reduceIte, Nat.reduceEqDiff, not_false_eq_true, eq_self, nI_1, zcpy]
    by_cases hk : k < 12
    · rw [if_pos hk]; exact (e hk).symm
    · rw [if_neg hk]
      unfold zHc
      rw [if_pos (by omega), if_neg hk]
  by_cases h6 : i = 90
  · subst h6
    have e := zHc_r (f := f) (t := 84) (s := 2) (j := 6) (k := k) (by omega) (by omega)
    simp only [zi_ne, zi_at, zr_ne, zr_at, zj_ne, zj_at, ↓reduceIte, Nat.reduceEqDiff, not_false_eq_true, eq_self, nI_1, zcpy]
    by_cases hk : k < 12
    · rw [if_pos hk]; exact (e hk).symm
    · rw [if_neg hk]
      unfold zHc
      rw [if_pos (by omega), if_neg hk]
  by_cases h7 : i = 91
  · subst h7
    have e := zHc_r (f := f) (t := 84) (s := 2) (j := 7) (k := k) (by omega) (by omega)
    simp only [zi_ne, zi_at, zr_ne, zr_at, zj_ne, zj_at, ↓reduceIte, Nat.reduceEqDiff, not_false_eq_true, eq_self, nI_1, zcpy]
    by_cases hk : k < 12
    · rw [if_pos hk]; exact (e hk).symm
    · rw [if_neg hk]
      unfold zHc
      rw [if_pos (by omega), if_neg hk]
  by_cases h8 : i = 92
  · subst h8
    have e := zHc_r (f := f) (t := 84) (s := 2) (j := 8) (k := k) (by omega) (by omega)
    simp only [zi_ne, zi_at, zr_ne, zr_at, zj_ne, zj_at, ↓reduceIte, Nat.reduceEqDiff, not_false_eq_true, eq_self, nI_1, zcpy]
    by_cases hk : k < 12
    · rw [if_pos hk]; exact (e hk).symm
    · rw [if_neg hk]
      unfold zHc
      rw [if_pos (by omega), if_neg hk]
  by_cases h0 : i = 84
  · subst h0
    simp only [zi_at, zi_ne, zr_ne, Nat.reduceEqDiff, not_false_eq_true]
    by_cases hk : 8 ≤ k ∧ k < 12
    · rw [zHc_o hk]
      have h4 : k = 8 ∨ k = 9 ∨ k = 10 ∨ k = 11 := by omega
      rcases h4 with rfl | rfl | rfl | rfl <;> rfl
    · rw [zHc_on hk, if_neg (by omega), if_neg (by omega), if_neg (by omega), if_neg (by omega)]
  rw [zHc_ne (by omega)]
  simp only [zi_ne h0, zr_ne h1, zr_ne h2, zr_ne h3, zr_ne h4, zr_ne h5, zr_ne h6, zr_ne h7, zr_ne h8]
theorem q21_84_2 {X : Nat × (Nat → Int32)} {d : Nat} {f : Nat → Nat → Int32} {g : Nat → Nat → Int64} {K : (Nat → Nat → Int32) → (Nat → Nat → Int64) → Prop} : zCpv X (d + 1) 21 [.ref 84, .ref 2] (zs f g) K = K (zHc f 84 2) (zuL g 84 12 (g 2 12)) := by
  refine zCpv_eq (fun K hK => e21_84_2 ?_)
  simp only [true_or, or_true, false_or, or_false, or_self, and_self, true_and, and_true, not_true_eq_false, not_false_eq_true, ↓reduceIte, eq_self, zq_01, zq_10, zq_m0, zq_m1, zq_0m, zq_1m, zq_2, zq_6, zq_8, zq_10z, zq_12, zq_1000, Int32.reduceLT, Int32.reduceLE, Int32.reduceToInt, Int32.reduceToNatClampNeg, Int32.reduceOfNat, Int.reduceLT, Int.reduceLE, Int.reduceEq, Nat.reduceLeDiff, Nat.reduceEqDiff, zl_2, zl_8, zl_12, zl_50, zl_132, zl_133, zl_134, zl_999, zl_10000, Nat.reduceAdd]
  rw [zHc_84_2]
  exact hK
theorem zHc_93_2 {f : Nat → Nat → Int32} : (zuI (zuI (zuI (zuI (zrI (zrI (zrI (zrI (zrI (zrI (zrI (zrI f 94 (va_cpy (f 3) (f 94) 0 0 12)) 95 (va_cpy (f 4) (f 95) 0 0 12)) 96 (va_cpy (f 5) (f 96) 0 0 12)) 97 (va_cpy (f 6) (f 97) 0 0 12)) 98 (va_cpy (f 7) (f 98) 0 0 12)) 99 (va_cpy (f 8) (f 99) 0 0 12)) 100 (va_cpy (f 9) (f 100) 0 0 12)) 101 (va_cpy (f 10) (f 101) 0 0 12)) 93 8 (f 2 8)) 93 9 (f 2 9)) 93 10 (f 2 10)) 93 11 (f 2 11)) = zHc f 93 2 := by
  funext i k
  by_cases h1 : i = 94
  · subst h1
    have e := zHc_r (f := f) (t := 93) (s := 2) (j := 1) (k := k) (by omega) (by omega)
    simp only [zi_ne, zi_at, zr_ne, zr_at, zj_ne, zj_at, ↓reduceIte, Nat.reduceEqDiff, not_false_eq_true, eq_self, nI_1, zcpy]
    by_cases hk : k < 12
    · rw [if_pos hk]; exact (e hk).symm
    · rw [if_neg hk]
      unfold zHc
      rw [if_pos (by omega), if_neg hk]
  by_cases h2 : i = 95
  · subst h2
    have e := zHc_r (f := f) (t := 93) (s := 2) (j := 2) (k := k) (by omega) (by omega)
    simp only [zi_ne, zi_at, zr_ne, zr_at, zj_ne, zj_at, ↓reduceIte, Nat.reduceEqDiff, not_false_eq_true, eq_self, nI_1, zcpy]
    by_cases hk : k < 12
    · rw [if_pos hk]; exact (e hk).symm
    · rw [if_neg hk]
      unfold zHc
      rw [if_pos (by omega), if_neg hk]
  by_cases h3 : i = 96
  · subst h3
    have e := zHc_r (f := f) (t := 93) (s := 2) (j := 3) (k := k) (by omega) (by omega)
    simp only [zi_ne, zi_at, zr_ne, zr_at, zj_ne, zj_at, ↓reduceIte, Nat.reduceEqDiff, not_false_eq_true, eq_self, nI_1, zcpy]
    by_cases hk : k < 12
    · rw [if_pos hk]; exact (e hk).symm
    · rw [if_neg hk]
      unfold zHc
      rw [if_pos (by omega), if_neg hk]
  by_cases h4 : i = 97
  · subst h4
    have e := zHc_r (f := f) (t := 93) (s := 2) (j := 4) (k := k) (by omega) (by omega)
    simp only [zi_ne, zi_at, zr_ne, zr_at, zj_ne, zj_at, ↓reduceIte, Nat.reduceEqDiff, not_false_eq_true, eq_self, nI_1, zcpy]
    by_cases hk : k < 12
    · rw [if_pos hk]; exact (e hk).symm
    · rw [if_neg hk]
      unfold zHc
      rw [if_pos (by omega), if_neg hk]
  by_cases h5 : i = 98
  · subst h5
    have e := zHc_r (f := f) (t := 93) (s := 2) (j := 5) (k := k) (by omega) (by omega)
    simp only [zi_ne, zi_at, zr_ne, zr_at, zj_ne, zj_at, ↓reduceIte, Nat.reduceEqDiff, not_false_eq_true, eq_self, nI_1, zcpy]
    by_cases hk : k < 12
    · rw [if_pos hk]; exact (e hk).symm
    · rw [if_neg hk]
      unfold zHc
      rw [if_pos (by omega), if_neg hk]
  by_cases h6 : i = 99
  · subst h6
    have e := zHc_r (f := f) (t := 93) (s := 2) (j := 6) (k := k) (by omega) (by omega)
    simp only [zi_ne, zi_at, zr_ne, zr_at, zj_ne, zj_at, ↓reduceIte, Nat.reduceEqDiff, not_false_eq_true, eq_self, nI_1, zcpy]
    by_cases hk : k < 12
    · rw [if_pos hk]; exact (e hk).symm
    · rw [if_neg hk]
      unfold zHc
      rw [if_pos (by omega), if_neg hk]
  by_cases h7 : i = 100
  · subst h7
    have e := zHc_r (f := f) (t := 93) (s := 2) (j := 7) (k := k) (by omega) (by omega)
    simp only [zi_ne, zi_at, zr_ne, zr_at, zj_ne, zj_at, ↓reduceIte, Nat.reduceEqDiff, not_false_eq_true, eq_self, nI_1, zcpy]
    by_cases hk : k < 12
    · rw [if_pos hk]; exact (e hk).symm
    · rw [if_neg hk]
      unfold zHc
      rw [if_pos (by omega), if_neg hk]
  by_cases h8 : i = 101
  · subst h8
    have e := zHc_r (f := f) (t := 93) (s := 2) (j := 8) (k := k) (by omega) (by omega)
    simp only [zi_ne, zi_at, zr_ne, zr_at, zj_ne, zj_at, ↓reduceIte, Nat.reduceEqDiff, not_false_eq_true, eq_self, nI_1, zcpy]
    by_cases hk : k < 12
    · rw [if_pos hk]; exact (e hk).symm
    · rw [if_neg hk]
      unfold zHc
      rw [if_pos (by omega), if_neg hk]
  by_cases h0 : i = 93
  · subst h0
    simp only [zi_at, zi_ne, zr_ne, Nat.reduceEqDiff, not_false_eq_true]
    by_cases hk : 8 ≤ k ∧ k < 12
    · rw [zHc_o hk]
      have h4 : k = 8 ∨ k = 9 ∨ k = 10 ∨ k = 11 := by omega
      rcases h4 with rfl | rfl | rfl | rfl <;> rfl
    · rw [zHc_on hk, if_neg (by omega), if_neg (by omega), if_neg (by omega), if_neg (by omega)]
  rw [zHc_ne (by omega)]
  simp only [zi_ne h0, zr_ne h1, zr_ne h2, zr_ne h3, zr_ne h4, zr_ne h5, zr_ne h6, zr_ne h7, zr_ne h8]
theorem q21_93_2 {X : Nat × (Nat → Int32)} {d : Nat} {f : Nat → Nat → Int32} {g : Nat → Nat → Int64} {K : (Nat → Nat → Int32) → (Nat → Nat → Int64) → Prop} : zCpv X (d + 1) 21 [.ref 93, .ref 2] (zs f g) K = K (zHc f 93 2) (zuL g 93 12 (g 2 12)) := by
  refine zCpv_eq (fun K hK => e21_93_2 ?_)
  simp only [true_or, or_true, false_or, or_false, or_self, and_self, true_and, and_true, not_true_eq_false, not_false_eq_true, ↓reduceIte, eq_self, zq_01, zq_10, zq_m0, zq_m1, zq_0m, zq_1m, zq_2, zq_6, zq_8, zq_10z, zq_12, zq_1000, Int32.reduceLT, Int32.reduceLE, Int32.reduceToInt, Int32.reduceToNatClampNeg, Int32.reduceOfNat, Int.reduceLT, Int.reduceLE, Int.reduceEq, Nat.reduceLeDiff, Nat.reduceEqDiff, zl_2, zl_8, zl_12, zl_50, zl_132, zl_133, zl_134, zl_999, zl_10000, Nat.reduceAdd]
  rw [zHc_93_2]
  exact hK
theorem zHc_102_2 {f : Nat → Nat → Int32} : (zuI (zuI (zuI (zuI (zrI (zrI (zrI (zrI (zrI (zrI (zrI (zrI f 103 (va_cpy (f 3) (f 103) 0 0 12)) 104 (va_cpy (f 4) (f 104) 0 0 12)) 105 (va_cpy (f 5) (f 105) 0 0 12)) 106 (va_cpy (f 6) (f 106) 0 0 12)) 107 (va_cpy (f 7) (f 107) 0 0 12)) 108 (va_cpy (f 8) (f 108) 0 0 12)) 109 (va_cpy (f 9) (f 109) 0 0 12)) 110 (va_cpy (f 10) (f 110) 0 0 12)) 102 8 (f 2 8)) 102 9 (f 2 9)) 102 10 (f 2 10)) 102 11 (f 2 11)) = zHc f 102 2 := by
  funext i k
  by_cases h1 : i = 103
  · subst h1
    have e := zHc_r (f := f) (t := 102) (s := 2) (j := 1) (k := k) (by omega) (by omega)
    simp only [zi_ne, zi_at, zr_ne, zr_at, zj_ne, zj_at, ↓reduceIte, Nat.reduceEqDiff, not_false_eq_true, eq_self, nI_1, zcpy]
    by_cases hk : k < 12
    · rw [if_pos hk]; exact (e hk).symm
    · rw [if_neg hk]
      unfold zHc
      rw [if_pos (by omega), if_neg hk]
  by_cases h2 : i = 104
  · subst h2
    have e := zHc_r (f := f) (t := 102) (s := 2) (j := 2) (k := k) (by omega) (by omega)
    simp only [zi_ne, zi_at, zr_ne, zr_at, zj_ne, zj_at, ↓reduceIte, Nat.reduceEqDiff, not_false_eq_true, eq_self, nI_1, zcpy]
    by_cases hk : k < 12
    · rw [if_pos hk]; exact (e hk).symm
    · rw [if_neg hk]
      unfold zHc
      rw [if_pos (by omega), if_neg hk]
  by_cases h3 : i = 105
  · subst h3
    have e := zHc_r (f := f) (t := 102) (s := 2) (j := 3) (k := k) (by omega) (by omega)
    simp only [zi_ne, zi_at, zr_ne, zr_at, zj_ne, zj_at, ↓reduceIte, Nat.reduceEqDiff, not_false_eq_true, eq_self, nI_1, zcpy]
    by_cases hk : k < 12
    · rw [if_pos hk]; exact (e hk).symm
    · rw [if_neg hk]
      unfold zHc
      rw [if_pos (by omega), if_neg hk]
  by_cases h4 : i = 106
  · subst h4
    have e := zHc_r (f := f) (t := 102) (s := 2) (j := 4) (k := k) (by omega) (by omega)
    simp only [zi_ne, zi_at, zr_ne, zr_at, zj_ne, zj_at, ↓reduceIte, Nat.reduceEqDiff, not_false_eq_true, eq_self, nI_1, zcpy]
    by_cases hk : k < 12
    · rw [if_pos hk]; exact (e hk).symm
    · rw [if_neg hk]
      unfold zHc
      rw [if_pos (by omega), if_neg hk]
  by_cases h5 : i = 107
  · subst h5
    have e := zHc_r (f := f) (t := 102) (s := 2) (j := 5) (k := k) (by omega) (by omega)
    simp only [zi_ne, zi_at, zr_ne, zr_at, zj_ne, zj_at, ↓reduceIte, Nat.reduceEqDiff, not_false_eq_true, eq_self, nI_1, zcpy]
    by_cases hk : k < 12
    · rw [if_pos hk]; exact (e hk).symm
    · rw [if_neg hk]
      unfold zHc
      rw [if_pos (by omega), if_neg hk]
  by_cases h6 : i = 108
  · subst h6
    have e := zHc_r (f := f) (t := 102) (s := 2) (j := 6) (k := k) (by omega) (by omega)
    simp only [zi_ne, zi_at, zr_ne, zr_at, zj_ne, zj_at, ↓reduceIte, Nat.reduceEqDiff, not_false_eq_true, eq_self, nI_1, zcpy]
    by_cases hk : k < 12
    · rw [if_pos hk]; exact (e hk).symm
    · rw [if_neg hk]
      unfold zHc
      rw [if_pos (by omega), if_neg hk]
  by_cases h7 : i = 109
  · subst h7
    have e := zHc_r (f := f) (t := 102) (s := 2) (j := 7) (k := k) (by omega) (by omega)
    simp only [zi_ne, zi_at, zr_ne, zr_at, zj_ne, zj_at, ↓reduceIte, Nat.reduceEqDiff, not_false_eq_true, eq_self, nI_1, zcpy]
    by_cases hk : k < 12
    · rw [if_pos hk]; exact (e hk).symm
    · rw [if_neg hk]
      unfold zHc
      rw [if_pos (by omega), if_neg hk]
  by_cases h8 : i = 110
  · subst h8
    have e := zHc_r (f := f) (t := 102) (s := 2) (j := 8) (k := k) (by omega) (by omega)
    simp only [zi_ne, zi_at, zr_ne, zr_at, zj_ne, zj_at, ↓reduceIte, Nat.reduceEqDiff, not_false_eq_true, eq_self, nI_1, zcpy]
    by_cases hk : k < 12
    · rw [if_pos hk]; exact (e hk).symm
    · rw [if_neg hk]
      unfold zHc
      rw [if_pos (by omega), if_neg hk]
  by_cases h0 : i = 102
  · subst h0
    simp only [zi_at, zi_ne, zr_ne, Nat.reduceEqDiff, not_false_eq_true]
    by_cases hk : 8 ≤ k ∧ k < 12
    · rw [zHc_o hk]
      have h4 : k = 8 ∨ k = 9 ∨ k = 10 ∨ k = 11 := by omega
      rcases h4 with rfl | rfl | rfl | rfl <;> rfl
    · rw [zHc_on hk, if_neg (by omega), if_neg (by omega), if_neg (by omega), if_neg (by omega)]
  rw [zHc_ne (by omega)]
  simp only [zi_ne h0, zr_ne h1, zr_ne h2, zr_ne h3, zr_ne h4, zr_ne h5, zr_ne h6, zr_ne h7, zr_ne h8]
theorem q21_102_2 {X : Nat × (Nat → Int32)} {d : Nat} {f : Nat → Nat → Int32} {g : Nat → Nat → Int64} {K : (Nat → Nat → Int32) → (Nat → Nat → Int64) → Prop} : zCpv X (d + 1) 21 [.ref 102, .ref 2] (zs f g) K = K (zHc f 102 2) (zuL g 102 12 (g 2 12)) := by
  refine zCpv_eq (fun K hK => e21_102_2 ?_)
  simp only [true_or, or_true, false_or, or_false, or_self, and_self, true_and, and_true, not_true_eq_false, not_false_eq_true, ↓reduceIte, eq_self, zq_01, zq_10, zq_m0, zq_m1, zq_0m, zq_1m, zq_2, zq_6, zq_8, zq_10z, zq_12, zq_1000, Int32.reduceLT, Int32.reduceLE, Int32.reduceToInt, Int32.reduceToNatClampNeg, Int32.reduceOfNat, Int.reduceLT, Int.reduceLE, Int.reduceEq, Nat.reduceLeDiff, Nat.reduceEqDiff, zl_2, zl_8, zl_12, zl_50, zl_132, zl_133, zl_134, zl_999, zl_10000, Nat.reduceAdd]
  rw [zHc_102_2]
  exact hK
theorem zHc_111_2 {f : Nat → Nat → Int32} : (zuI (zuI (zuI (zuI (zrI (zrI (zrI (zrI (zrI (zrI (zrI (zrI f 112 (va_cpy (f 3) (f 112) 0 0 12)) 113 (va_cpy (f 4) (f 113) 0 0 12)) 114 (va_cpy (f 5) (f 114) 0 0 12)) 115 (va_cpy (f 6) (f 115) 0 0 12)) 116 (va_cpy (f 7) (f 116) 0 0 12)) 117 (va_cpy (f 8) (f 117) 0 0 12)) 118 (va_cpy (f 9) (f 118) 0 0 12)) 119 (va_cpy (f 10) (f 119) 0 0 12)) 111 8 (f 2 8)) 111 9 (f 2 9)) 111 10 (f 2 10)) 111 11 (f 2 11)) = zHc f 111 2 := by
  funext i k
  by_cases h1 : i = 112
  · subst h1
    have e := zHc_r (f := f) (t := 111) (s := 2) (j := 1) (k := k) (by omega) (by omega)
    simp only [zi_ne, zi_at, zr_ne, zr_at, zj_ne, zj_at, ↓reduceIte, Nat.reduceEqDiff, not_false_eq_true, eq_self, nI_1, zcpy]
    by_cases hk : k < 12
    · rw [if_pos hk]; exact (e hk).symm
    · rw [if_neg hk]
      unfold zHc
      rw [if_pos (by omega), if_neg hk]
  by_cases h2 : i = 113
  · subst h2
    have e := zHc_r (f := f) (t := 111) (s := 2) (j := 2) (k := k) (by omega) (by omega)
    simp only [zi_ne, zi_at, zr_ne, zr_at, zj_ne, zj_at, ↓reduceIte, Nat.reduceEqDiff, not_false_eq_true, eq_self, nI_1, zcpy]
    by_cases hk : k < 12
    · rw [if_pos hk]; exact (e hk).symm
    · rw [if_neg hk]
      unfold zHc
      rw [if_pos (by omega), if_neg hk]
  by_cases h3 : i = 114
  · subst h3
    have e := zHc_r (f := f) (t := 111) (s := 2) (j := 3) (k := k) (by omega) (by omega)
    simp only [zi_ne, zi_at, zr_ne, zr_at, zj_ne, zj_at, ↓reduceIte, Nat.reduceEqDiff, not_false_eq_true, eq_self, nI_1, zcpy]
    by_cases hk : k < 12
    · rw [if_pos hk]; exact (e hk).symm
    · rw [if_neg hk]
      unfold zHc
      rw [if_pos (by omega), if_neg hk]
  by_cases h4 : i = 115
  · subst h4
    have e := zHc_r (f := f) (t := 111) (s := 2) (j := 4) (k := k) (by omega) (by omega)
    simp only [zi_ne, zi_at, zr_ne, zr_at, zj_ne, zj_at, ↓reduceIte, Nat.reduceEqDiff, not_false_eq_true, eq_self, nI_1, zcpy]
    by_cases hk : k < 12
    · rw [if_pos hk]; exact (e hk).symm
    · rw [if_neg hk]
      unfold zHc
      rw [if_pos (by omega), if_neg hk]
  by_cases h5 : i = 116
  · subst h5
    have e := zHc_r (f := f) (t := 111) (s := 2) (j := 5) (k := k) (by omega) (by omega)
    simp only [zi_ne, zi_at, zr_ne, zr_at, zj_ne, zj_at, ↓reduceIte, Nat.reduceEqDiff, not_false_eq_true, eq_self, nI_1, zcpy]
    by_cases hk : k < 12
    · rw [if_pos hk]; exact (e hk).symm
    · rw [if_neg hk]
      unfold zHc
      rw [if_pos (by omega), if_neg hk]
  by_cases h6 : i = 117
  · subst h6
    have e := zHc_r (f := f) (t := 111) (s := 2) (j := 6) (k := k) (by omega) (by omega)
    simp only [zi_ne, zi_at, zr_ne, zr_at, zj_ne, zj_at, ↓reduceIte, Nat.reduceEqDiff, not_false_eq_true, eq_self, nI_1, zcpy]
    by_cases hk : k < 12
    · rw [if_pos hk]; exact (e hk).symm
    · rw [if_neg hk]
      unfold zHc
      rw [if_pos (by omega), if_neg hk]
  by_cases h7 : i = 118
  · subst h7
    have e := zHc_r (f := f) (t := 111) (s := 2) (j := 7) (k := k) (by omega) (by omega)
    simp only [zi_ne, zi_at, zr_ne, zr_at, zj_ne, zj_at, ↓reduceIte, Nat.reduceEqDiff, not_false_eq_true, eq_self, nI_1, zcpy]
    by_cases hk : k < 12
    · rw [if_pos hk]; exact (e hk).symm
    · rw [if_neg hk]
      unfold zHc
      rw [if_pos (by omega), if_neg hk]
  by_cases h8 : i = 119
  · subst h8
    have e := zHc_r (f := f) (t := 111) (s := 2) (j := 8) (k := k) (by omega) (by omega)
    simp only [zi_ne, zi_at, zr_ne, zr_at, zj_ne, zj_at, ↓reduceIte, Nat.reduceEqDiff, not_false_eq_true, eq_self, nI_1, zcpy]
    by_cases hk : k < 12
    · rw [if_pos hk]; exact (e hk).symm
    · rw [if_neg hk]
      unfold zHc
      rw [if_pos (by omega), if_neg hk]
  by_cases h0 : i = 111
  · subst h0
    simp only [zi_at, zi_ne, zr_ne, Nat.reduceEqDiff, not_false_eq_true]
    by_cases hk : 8 ≤ k ∧ k < 12
    · rw [zHc_o hk]
      have h4 : k = 8 ∨ k = 9 ∨ k = 10 ∨ k = 11 := by omega
      rcases h4 with rfl | rfl | rfl | rfl <;> rfl
    · rw [zHc_on hk, if_neg (by omega), if_neg (by omega), if_neg (by omega), if_neg (by omega)]
  rw [zHc_ne (by omega)]
  simp only [zi_ne h0, zr_ne h1, zr_ne h2, zr_ne h3, zr_ne h4, zr_ne h5, zr_ne h6, zr_ne h7, zr_ne h8]
theorem q21_111_2 {X : Nat × (Nat → Int32)} {d : Nat} {f : Nat → Nat → Int32} {g : Nat → Nat → Int64} {K : (Nat → Nat → Int32) → (Nat → Nat → Int64) → Prop} : zCpv X (d + 1) 21 [.ref 111, .ref 2] (zs f g) K = K (zHc f 111 2) (zuL g 111 12 (g 2 12)) := by
  refine zCpv_eq (fun K hK => e21_111_2 ?_)
  simp only [true_or, or_true, false_or, or_false, or_self, and_self, true_and, and_true, not_true_eq_false, not_false_eq_true, ↓reduceIte, eq_self, zq_01, zq_10, zq_m0, zq_m1, zq_0m, zq_1m, zq_2, zq_6, zq_8, zq_10z, zq_12, zq_1000, Int32.reduceLT, Int32.reduceLE, Int32.reduceToInt, Int32.reduceToNatClampNeg, Int32.reduceOfNat, Int.reduceLT, Int.reduceLE, Int.reduceEq, Nat.reduceLeDiff, Nat.reduceEqDiff, zl_2, zl_8, zl_12, zl_50, zl_132, zl_133, zl_134, zl_999, zl_10000, Nat.reduceAdd]
  rw [zHc_111_2]
  exact hK
theorem zHc_120_2 {f : Nat → Nat → Int32} : (zuI (zuI (zuI (zuI (zrI (zrI (zrI (zrI (zrI (zrI (zrI (zrI f 121 (va_cpy (f 3) (f 121) 0 0 12)) 122 (va_cpy (f 4) (f 122) 0 0 12)) 123 (va_cpy (f 5) (f 123) 0 0 12)) 124 (va_cpy (f 6) (f 124) 0 0 12)) 125 (va_cpy (f 7) (f 125) 0 0 12)) 126 (va_cpy (f 8) (f 126) 0 0 12)) 127 (va_cpy (f 9) (f 127) 0 0 12)) 128 (va_cpy (f 10) (f 128) 0 0 12)) 120 8 (f 2 8)) 120 9 (f 2 9)) 120 10 (f 2 10)) 120 11 (f 2 11)) = zHc f 120 2 := by
  funext i k
  by_cases h1 : i = 121
  · subst h1
    have e := zHc_r (f := f) (t := 120) (s := 2) (j := 1) (k := k) (by omega) (by omega)
    simp only [zi_ne, zi_at, zr_ne, zr_at, zj_ne, zj_at, ↓reduceIte, Nat.reduceEqDiff, not_false_eq_true, eq_self, nI_1, zcpy]
    by_cases hk : k < 12
    · rw [if_pos hk]; exact (e hk).symm
    · rw [if_neg hk]
      unfold zHc
      rw [if_pos (by omega), if_neg hk]
  by_cases h2 : i = 122
  · subst h2
    have e := zHc_r (f := f) (t := 120) (s := 2) (j := 2) (k := k) (by omega) (by omega)
    simp only [zi_ne, zi_at, zr_ne, zr_at, zj_ne, zj_at, ↓reduceIte, Nat.reduceEqDiff, not_false_eq_true, eq_self, nI_1, zcpy]
    by_cases hk : k < 12
    · rw [if_pos hk]; exact (e hk).symm
    · rw [if_neg hk]
      unfold zHc
      rw [if_pos (by omega), if_neg hk]
  by_cases h3 : i = 123
  · subst h3
    have e := zHc_r (f := f) (t := 120) (s := 2) (j := 3) (k := k) (by omega) (by omega)
    simp only [zi_ne, zi_at, zr_ne, zr_at, zj_ne, zj_at, ↓reduceIte, Nat.reduceEqDiff, not_false_eq_true, eq_self, nI_1, zcpy]
    by_cases hk : k < 12
    · rw [if_pos hk]; exact (e hk).symm
    · rw [if_neg hk]
      unfold zHc
      rw [if_pos (by omega), if_neg hk]
  by_cases h4 : i = 124
  · subst h4
    have e := zHc_r (f := f) (t := 120) (s := 2) (j := 4) (k := k) (by omega) (by omega)
    simp only [zi_ne, zi_at, zr_ne, zr_at, zj_ne, zj_at, ↓reduceIte, Nat.reduceEqDiff, not_false_eq_true, eq_self, nI_1, zcpy]
    by_cases hk : k < 12
    · rw [if_pos hk]; exact (e hk).symm
    · rw [if_neg hk]
      unfold zHc
      rw [if_pos (by omega), if_neg hk]
  by_cases h5 : i = 125
  · subst h5
    have e := zHc_r (f := f) (t := 120) (s := 2) (j := 5) (k := k) (by omega) (by omega)
    simp only [zi_ne, zi_at, zr_ne, zr_at, zj_ne, zj_at, ↓reduceIte, Nat.reduceEqDiff, not_false_eq_true, eq_self, nI_1, zcpy]
    by_cases hk : k < 12
    · rw [if_pos hk]; exact (e hk).symm
    · rw [if_neg hk]
      unfold zHc
      rw [if_pos (by omega), if_neg hk]
  by_cases h6 : i = 126
  · subst h6
    have e := zHc_r (f := f) (t := 120) (s := 2) (j := 6) (k := k) (by omega) (by omega)
    simp only [zi_ne, zi_at, zr_ne, zr_at, zj_ne, zj_at, ↓reduceIte, Nat.reduceEqDiff, not_false_eq_true, eq_self, nI_1, zcpy]
    by_cases hk : k < 12
    · rw [if_pos hk]; exact (e hk).symm
    · rw [if_neg hk]
      unfold zHc
      rw [if_pos (by omega), if_neg hk]
  by_cases h7 : i = 127
  · subst h7
    have e := zHc_r (f := f) (t := 120) (s := 2) (j := 7) (k := k) (by omega) (by omega)
    simp only [zi_ne, zi_at, zr_ne, zr_at, zj_ne, zj_at, ↓reduceIte, Nat.reduceEqDiff, not_false_eq_true, eq_self, nI_1, zcpy]
    by_cases hk : k < 12
    · rw [if_pos hk]; exact (e hk).symm
    · rw [if_neg hk]
      unfold zHc
      rw [if_pos (by omega), if_neg hk]
  by_cases h8 : i = 128
  · subst h8
    have e := zHc_r (f := f) (t := 120) (s := 2) (j := 8) (k := k) (by omega) (by omega)
    simp only [zi_ne, zi_at, zr_ne, zr_at, zj_ne, zj_at, ↓reduceIte, Nat.reduceEqDiff, not_false_eq_true, eq_self, nI_1, zcpy]
    by_cases hk : k < 12
    · rw [if_pos hk]; exact (e hk).symm
    · rw [if_neg hk]
      unfold zHc
      rw [if_pos (by omega), if_neg hk]
  by_cases h0 : i = 120
  · subst h0
    simp only [zi_at, zi_ne, zr_ne, Nat.reduceEqDiff, not_false_eq_true]
    by_cases hk : 8 ≤ k ∧ k < 12
    · rw [zHc_o hk]
      have h4 : k = 8 ∨ k = 9 ∨ k = 10 ∨ k = 11 := by omega
      rcases h4 with rfl | rfl | rfl | rfl <;> rfl
    · rw [zHc_on hk, if_neg (by omega), if_neg (by omega), if_neg (by omega), if_neg (by omega)]
  rw [zHc_ne (by omega)]
  simp only [zi_ne h0, zr_ne h1, zr_ne h2, zr_ne h3, zr_ne h4, zr_ne h5, zr_ne h6, zr_ne h7, zr_ne h8]
theorem q21_120_2 {X : Nat × (Nat → Int32)} {d : Nat} {f : Nat → Nat → Int32} {g : Nat → Nat → Int64} {K : (Nat → Nat → Int32) → (Nat → Nat → Int64) → Prop} : zCpv X (d + 1) 21 [.ref 120, .ref 2] (zs f g) K = K (zHc f 120 2) (zuL g 120 12 (g 2 12)) := by
  refine zCpv_eq (fun K hK => e21_120_2 ?_)
  simp only [true_or, or_true, false_or, or_false, or_self, and_self, true_and, and_true, not_true_eq_false, not_false_eq_true, ↓reduceIte, eq_self, zq_01, zq_10, zq_m0, zq_m1, zq_0m, zq_1m, zq_2, zq_6, zq_8, zq_10z, zq_12, zq_1000, Int32.reduceLT, Int32.reduceLE, Int32.reduceToInt, Int32.reduceToNatClampNeg, Int32.reduceOfNat, Int.reduceLT, Int.reduceLE, Int.reduceEq, Nat.reduceLeDiff, Nat.reduceEqDiff, zl_2, zl_8, zl_12, zl_50, zl_132, zl_133, zl_134, zl_999, zl_10000, Nat.reduceAdd]
  rw [zHc_120_2]
  exact hK
theorem zHc_129_2 {f : Nat → Nat → Int32} : (zuI (zuI (zuI (zuI (zrI (zrI (zrI (zrI (zrI (zrI (zrI (zrI f 130 (va_cpy (f 3) (f 130) 0 0 12)) 131 (va_cpy (f 4) (f 131) 0 0 12)) 132 (va_cpy (f 5) (f 132) 0 0 12)) 133 (va_cpy (f 6) (f 133) 0 0 12)) 134 (va_cpy (f 7) (f 134) 0 0 12)) 135 (va_cpy (f 8) (f 135) 0 0 12)) 136 (va_cpy (f 9) (f 136) 0 0 12)) 137 (va_cpy (f 10) (f 137) 0 0 12)) 129 8 (f 2 8)) 129 9 (f 2 9)) 129 10 (f 2 10)) 129 11 (f 2 11)) = zHc f 129 2 := by
  funext i k
  by_cases h1 : i = 130
  · subst h1
    have e := zHc_r (f := f) (t := 129) (s := 2) (j := 1) (k := k) (by omega) (by omega)
    simp only [zi_ne, zi_at, zr_ne, zr_at, zj_ne, zj_at, ↓reduceIte, Nat.reduceEqDiff, not_false_eq_true, eq_self, nI_1, zcpy]
    by_cases hk : k < 12
    · rw [if_pos hk]; exact (e hk).symm
    · rw [if_neg hk]
      unfold zHc
      rw [if_pos (by omega), if_neg hk]
  by_cases h2 : i = 131
  · subst h2
    have e := zHc_r (f := f) (t := 129) (s := 2) (j := 2) (k := k) (by omega) (by omega)
    simp only [zi_ne, zi_at, zr_ne, zr_at, zj_ne, zj_at, ↓reduceIte, Nat.reduceEqDiff, not_false_eq_true, eq_self, nI_1, zcpy]
    by_cases hk : k < 12
    · rw [if_pos hk]; exact (e hk).symm
    · rw [if_neg hk]
      unfold zHc
      rw [if_pos (by omega), if_neg hk]
  by_cases h3 : i = 132
  · subst h3
    have e := zHc_r (f := f) (t := 129) (s := 2) (j := 3) (k := k) (by omega) (by omega)
    simp only [zi_ne, zi_at, zr_ne, zr_at, zj_ne, zj_at, ↓reduceIte, Nat.reduceEqDiff, not_false_eq_true, eq_self, nI_1, zcpy]
    by_cases hk : k < 12
    · rw [if_pos hk]; exact (e hk).symm
    · rw [if_neg hk]
      unfold zHc
      rw [if_pos (by omega), if_neg hk]
  by_cases h4 : i = 133
  · subst h4
    have e := zHc_r (f := f) (t := 129) (s := 2) (j := 4) (k := k) (by omega) (by omega)
    simp only [zi_ne, zi_at, zr_ne, zr_at, zj_ne, zj_at, ↓reduceIte, Nat.reduceEqDiff, not_false_eq_true, eq_self, nI_1, zcpy]
    by_cases hk : k < 12
    · rw [if_pos hk]; exact (e hk).symm
    · rw [if_neg hk]
      unfold zHc
      rw [if_pos (by omega), if_neg hk]
  by_cases h5 : i = 134
  · subst h5
    have e := zHc_r (f := f) (t := 129) (s := 2) (j := 5) (k := k) (by omega) (by omega)
    simp only [zi_ne, zi_at, zr_ne, zr_at, zj_ne, zj_at, ↓reduceIte, Nat.reduceEqDiff, not_false_eq_true, eq_self, nI_1, zcpy]
    by_cases hk : k < 12
    · rw [if_pos hk]; exact (e hk).symm
    · rw [if_neg hk]
      unfold zHc
      rw [if_pos (by omega), if_neg hk]
  by_cases h6 : i = 135
  · subst h6
    have e := zHc_r (f := f) (t := 129) (s := 2) (j := 6) (k := k) (by omega) (by omega)
    simp only [zi_ne, zi_at, zr_ne, zr_at, zj_ne, zj_at, ↓reduceIte, Nat.reduceEqDiff, not_false_eq_true, eq_self, nI_1, zcpy]
    by_cases hk : k < 12
    · rw [if_pos hk]; exact (e hk).symm
    · rw [if_neg hk]
      unfold zHc
      rw [if_pos (by omega), if_neg hk]
  by_cases h7 : i = 136
  · subst h7
    have e := zHc_r (f := f) (t := 129) (s := 2) (j := 7) (k := k) (by omega) (by omega)
    simp only [zi_ne, zi_at, zr_ne, zr_at, zj_ne, zj_at, ↓reduceIte, Nat.reduceEqDiff, not_false_eq_true, eq_self, nI_1, zcpy]
    by_cases hk : k < 12
    · rw [if_pos hk]; exact (e hk).symm
    · rw [if_neg hk]
      unfold zHc
      rw [if_pos (by omega), if_neg hk]
  by_cases h8 : i = 137
  · subst h8
    have e := zHc_r (f := f) (t := 129) (s := 2) (j := 8) (k := k) (by omega) (by omega)
    simp only [zi_ne, zi_at, zr_ne, zr_at, zj_ne, zj_at, ↓reduceIte, Nat.reduceEqDiff, not_false_eq_true, eq_self, nI_1, zcpy]
    by_cases hk : k < 12
    · rw [if_pos hk]; exact (e hk).symm
    · rw [if_neg hk]
      unfold zHc
      rw [if_pos (by omega), if_neg hk]
  by_cases h0 : i = 129
  · subst h0
    simp only [zi_at, zi_ne, zr_ne, Nat.reduceEqDiff, not_false_eq_true]
    by_cases hk : 8 ≤ k ∧ k < 12
    · rw [zHc_o hk]
      have h4 : k = 8 ∨ k = 9 ∨ k = 10 ∨ k = 11 := by omega
      rcases h4 with rfl | rfl | rfl | rfl <;> rfl
    · rw [zHc_on hk, if_neg (by omega), if_neg (by omega), if_neg (by omega), if_neg (by omega)]
  rw [zHc_ne (by omega)]
  simp only [zi_ne h0, zr_ne h1, zr_ne h2, zr_ne h3, zr_ne h4, zr_ne h5, zr_ne h6, zr_ne h7, zr_ne h8]
theorem q21_129_2 {X : Nat × (Nat → Int32)} {d : Nat} {f : Nat → Nat → Int32} {g : Nat → Nat → Int64} {K : (Nat → Nat → Int32) → (Nat → Nat → Int64) → Prop} : zCpv X (d + 1) 21 [.ref 129, .ref 2] (zs f g) K = K (zHc f 129 2) (zuL g 129 12 (g 2 12)) := by
  refine zCpv_eq (fun K hK => e21_129_2 ?_)
  simp only [true_or, or_true, false_or, or_false, or_self, and_self, true_and, and_true, not_true_eq_false, not_false_eq_true, ↓reduceIte, eq_self, zq_01, zq_10, zq_m0, zq_m1, zq_0m, zq_1m, zq_2, zq_6, zq_8, zq_10z, zq_12, zq_1000, Int32.reduceLT, Int32.reduceLE, Int32.reduceToInt, Int32.reduceToNatClampNeg, Int32.reduceOfNat, Int.reduceLT, Int.reduceLE, Int.reduceEq, Nat.reduceLeDiff, Nat.reduceEqDiff, zl_2, zl_8, zl_12, zl_50, zl_132, zl_133, zl_134, zl_999, zl_10000, Nat.reduceAdd]
  rw [zHc_129_2]
  exact hK
theorem zHc_2_84 {f : Nat → Nat → Int32} : (zuI (zuI (zuI (zuI (zrI (zrI (zrI (zrI (zrI (zrI (zrI (zrI f 3 (va_cpy (f 85) (f 3) 0 0 12)) 4 (va_cpy (f 86) (f 4) 0 0 12)) 5 (va_cpy (f 87) (f 5) 0 0 12)) 6 (va_cpy (f 88) (f 6) 0 0 12)) 7 (va_cpy (f 89) (f 7) 0 0 12)) 8 (va_cpy (f 90) (f 8) 0 0 12)) 9 (va_cpy (f 91) (f 9) 0 0 12)) 10 (va_cpy (f 92) (f 10) 0 0 12)) 2 8 (f 84 8)) 2 9 (f 84 9)) 2 10 (f 84 10)) 2 11 (f 84 11)) = zHc f 2 84 := by
  funext i k
  by_cases h1 : i = 3
  · subst h1
    have e := zHc_r (f := f) (t := 2) (s := 84) (j := 1) (k := k) (by omega) (by omega)
    simp only [zi_ne, zi_at, zr_ne, zr_at, zj_ne, zj_at, ↓reduceIte, Nat.reduceEqDiff, not_false_eq_true, eq_self, nI_1, zcpy]
    by_cases hk : k < 12
    · rw [if_pos hk]; exact (e hk).symm
    · rw [if_neg hk]
      unfold zHc
      rw [if_pos (by omega), if_neg hk]
  by_cases h2 : i = 4
  · subst h2
    have e := zHc_r (f := f) (t := 2) (s := 84) (j := 2) (k := k) (by omega) (by omega)
    simp only [zi_ne, zi_at, zr_ne, zr_at, zj_ne, zj_at, ↓reduceIte, Nat.reduceEqDiff, not_false_eq_true, eq_self, nI_1, zcpy]
    by_cases hk : k < 12
    · rw [if_pos hk]; exact (e hk).symm
    · rw [if_neg hk]
      unfold zHc
      rw [if_pos (by omega), if_neg hk]
  by_cases h3 : i = 5
  · subst h3
    have e := zHc_r (f := f) (t := 2) (s := 84) (j := 3) (k := k) (by omega) (by omega)
    simp only [zi_ne, zi_at, zr_ne, zr_at, zj_ne, zj_at, ↓reduceIte, Nat.reduceEqDiff, not_false_eq_true, eq_self, nI_1, zcpy]
    by_cases hk : k < 12
    · rw [if_pos hk]; exact (e hk).symm
    · rw [if_neg hk]
      unfold zHc
      rw [if_pos (by omega), if_neg hk]
  by_cases h4 : i = 6
  · subst h4
    have e := zHc_r (f := f) (t := 2) (s := 84) (j := 4) (k := k) (by omega) (by omega)
    simp only [zi_ne, zi_at, zr_ne, zr_at, zj_ne, zj_at, ↓reduceIte, Nat.reduceEqDiff, not_false_eq_true, eq_self, nI_1, zcpy]
    by_cases hk : k < 12
    · rw [if_pos hk]; exact (e hk).symm
    · rw [if_neg hk]
      unfold zHc
      rw [if_pos (by omega), if_neg hk]
  by_cases h5 : i = 7
  · subst h5
    have e := zHc_r (f := f) (t := 2) (s := 84) (j := 5) (k := k) (by omega) (by omega)
    simp only [zi_ne, zi_at, zr_ne, zr_at, zj_ne, zj_at, ↓reduceIte, Nat.reduceEqDiff, not_false_eq_true, eq_self, nI_1, zcpy]
    by_cases hk : k < 12
    · rw [if_pos hk]; exact (e hk).symm
    · rw [if_neg hk]
      unfold zHc
      rw [if_pos (by omega), if_neg hk]
  by_cases h6 : i = 8
  · subst h6
    have e := zHc_r (f := f) (t := 2) (s := 84) (j := 6) (k := k) (by omega) (by omega)
    simp only [zi_ne, zi_at, zr_ne, zr_at, zj_ne, zj_at, ↓reduceIte, Nat.reduceEqDiff, not_false_eq_true, eq_self, nI_1, zcpy]
    by_cases hk : k < 12
    · rw [if_pos hk]; exact (e hk).symm
    · rw [if_neg hk]
      unfold zHc
      rw [if_pos (by omega), if_neg hk]
  by_cases h7 : i = 9
  · subst h7
    have e := zHc_r (f := f) (t := 2) (s := 84) (j := 7) (k := k) (by omega) (by omega)
    simp only [zi_ne, zi_at, zr_ne, zr_at, zj_ne, zj_at, ↓reduceIte, Nat.reduceEqDiff, not_false_eq_true, eq_self, nI_1, zcpy]
    by_cases hk : k < 12
    · rw [if_pos hk]; exact (e hk).symm
    · rw [if_neg hk]
      unfold zHc
      rw [if_pos (by omega), if_neg hk]
  by_cases h8 : i = 10
  · subst h8
    have e := zHc_r (f := f) (t := 2) (s := 84) (j := 8) (k := k) (by omega) (by omega)
    simp only [zi_ne, zi_at, zr_ne, zr_at, zj_ne, zj_at, ↓reduceIte, Nat.reduceEqDiff, not_false_eq_true, eq_self, nI_1, zcpy]
    by_cases hk : k < 12
    · rw [if_pos hk]; exact (e hk).symm
    · rw [if_neg hk]
      unfold zHc
      rw [if_pos (by omega), if_neg hk]
  by_cases h0 : i = 2
  · subst h0
    simp only [zi_at, zi_ne, zr_ne, Nat.reduceEqDiff, not_false_eq_true]
    by_cases hk : 8 ≤ k ∧ k < 12
    · rw [zHc_o hk]
      have h4 : k = 8 ∨ k = 9 ∨ k = 10 ∨ k = 11 := by omega
      rcases h4 with rfl | rfl | rfl | rfl <;> rfl
    · rw [zHc_on hk, if_neg (by omega), if_neg (by omega), if_neg (by omega), if_neg (by omega)]
  rw [zHc_ne (by omega)]
  simp only [zi_ne h0, zr_ne h1, zr_ne h2, zr_ne h3, zr_ne h4, zr_ne h5, zr_ne h6, zr_ne h7, zr_ne h8]
theorem q21_2_84 {X : Nat × (Nat → Int32)} {d : Nat} {f : Nat → Nat → Int32} {g : Nat → Nat → Int64} {K : (Nat → Nat → Int32) → (Nat → Nat → Int64) → Prop} : zCpv X (d + 1) 21 [.ref 2, .ref 84] (zs f g) K = K (zHc f 2 84) (zuL g 2 12 (g 84 12)) := by
  refine zCpv_eq (fun K hK => e21_2_84 ?_)
  simp only [true_or, or_true, false_or, or_false, or_self, and_self, true_and, and_true, not_true_eq_false, not_false_eq_true, ↓reduceIte, eq_self, zq_01, zq_10, zq_m0, zq_m1, zq_0m, zq_1m, zq_2, zq_6, zq_8, zq_10z, zq_12, zq_1000, Int32.reduceLT, Int32.reduceLE, Int32.reduceToInt, Int32.reduceToNatClampNeg, Int32.reduceOfNat, Int.reduceLT, Int.reduceLE, Int.reduceEq, Nat.reduceLeDiff, Nat.reduceEqDiff, zl_2, zl_8, zl_12, zl_50, zl_132, zl_133, zl_134, zl_999, zl_10000, Nat.reduceAdd]
  rw [zHc_2_84]
  exact hK
theorem zHc_2_93 {f : Nat → Nat → Int32} : (zuI (zuI (zuI (zuI (zrI (zrI (zrI (zrI (zrI (zrI (zrI (zrI f 3 (va_cpy (f 94) (f 3) 0 0 12)) 4 (va_cpy (f 95) (f 4) 0 0 12)) 5 (va_cpy (f 96) (f 5) 0 0 12)) 6 (va_cpy (f 97) (f 6) 0 0 12)) 7 (va_cpy (f 98) (f 7) 0 0 12)) 8 (va_cpy (f 99) (f 8) 0 0 12)) 9 (va_cpy (f 100) (f 9) 0 0 12)) 10 (va_cpy (f 101) (f 10) 0 0 12)) 2 8 (f 93 8)) 2 9 (f 93 9)) 2 10 (f 93 10)) 2 11 (f 93 11)) = zHc f 2 93 := by
  funext i k
  by_cases h1 : i = 3
  · subst h1
    have e := zHc_r (f := f) (t := 2) (s := 93) (j := 1) (k := k) (by omega) (by omega)
    simp only [zi_ne, zi_at, zr_ne, zr_at, zj_ne, zj_at, ↓reduceIte, Nat.reduceEqDiff, not_false_eq_true, eq_self, nI_1, zcpy]
    by_cases hk : k < 12
    · rw [if_pos hk]; exact (e hk).symm
    · rw [if_neg hk]
      unfold zHc
      rw [if_pos (by omega), if_neg hk]
  by_cases h2 : i = 4
  · subst h2
    have e := zHc_r (f := f) (t := 2) (s := 93) (j := 2) (k := k) (by omega) (by omega)
    simp only [zi_ne, zi_at, zr_ne, zr_at, zj_ne, zj_at, ↓reduceIte, Nat.reduceEqDiff, not_false_eq_true, eq_self, nI_1, zcpy]
    by_cases hk : k < 12
    · rw [if_pos hk]; exact (e hk).symm
    · rw [if_neg hk]
      unfold zHc
      rw [if_pos (by omega), if_neg hk]
  by_cases h3 : i = 5
  · subst h3
    have e := zHc_r (f := f) (t := 2) (s := 93) (j := 3) (k := k) (by omega) (by omega)
    simp only [zi_ne, zi_at, zr_ne, zr_at, zj_ne, zj_at, ↓reduceIte, Nat.reduceEqDiff, not_false_eq_true, eq_self, nI_1, zcpy]
    by_cases hk : k < 12
    · rw [if_pos hk]; exact (e hk).symm
    · rw [if_neg hk]
      unfold zHc
      rw [if_pos (by omega), if_neg hk]
  by_cases h4 : i = 6
  · subst h4
    have e := zHc_r (f := f) (t := 2) (s := 93) (j := 4) (k := k) (by omega) (by omega)
    simp only [zi_ne, zi_at, zr_ne, zr_at, zj_ne, zj_at, ↓reduceIte, Nat.reduceEqDiff, not_false_eq_true, eq_self, nI_1, zcpy]
    by_cases hk : k < 12
    · rw [if_pos hk]; exact (e hk).symm
    · rw [if_neg hk]
      unfold zHc
      rw [if_pos (by omega), if_neg hk]
  by_cases h5 : i = 7
  · subst h5
    have e := zHc_r (f := f) (t := 2) (s := 93) (j := 5) (k := k) (by omega) (by omega)
    simp only [zi_ne, zi_at, zr_ne, zr_at, zj_ne, zj_at, ↓reduceIte, Nat.reduceEqDiff, not_false_eq_true, eq_self, nI_1, zcpy]
    by_cases hk : k < 12
    · rw [if_pos hk]; exact (e hk).symm
    · rw [if_neg hk]
      unfold zHc
      rw [if_pos (by omega), if_neg hk]
  by_cases h6 : i = 8
  · subst h6
    have e := zHc_r (f := f) (t := 2) (s := 93) (j := 6) (k := k) (by omega) (by omega)
    simp only [zi_ne, zi_at, zr_ne, zr_at, zj_ne, zj_at, ↓reduceIte, Nat.reduceEqDiff, not_false_eq_true, eq_self, nI_1, zcpy]
    by_cases hk : k < 12
    · rw [if_pos hk]; exact (e hk).symm
    · rw [if_neg hk]
      unfold zHc
      rw [if_pos (by omega), if_neg hk]
  by_cases h7 : i = 9
  · subst h7
    have e := zHc_r (f := f) (t := 2) (s := 93) (j := 7) (k := k) (by omega) (by omega)
    simp only [zi_ne, zi_at, zr_ne, zr_at, zj_ne, zj_at, ↓reduceIte, Nat.reduceEqDiff, not_false_eq_true, eq_self, nI_1, zcpy]
    by_cases hk : k < 12
    · rw [if_pos hk]; exact (e hk).symm
    · rw [if_neg hk]
      unfold zHc
      rw [if_pos (by omega), if_neg hk]
  by_cases h8 : i = 10
  · subst h8
    have e := zHc_r (f := f) (t := 2) (s := 93) (j := 8) (k := k) (by omega) (by omega)
    simp only [zi_ne, zi_at, zr_ne, zr_at, zj_ne, zj_at, ↓reduceIte, Nat.reduceEqDiff, not_false_eq_true, eq_self, nI_1, zcpy]
    by_cases hk : k < 12
    · rw [if_pos hk]; exact (e hk).symm
    · rw [if_neg hk]
      unfold zHc
      rw [if_pos (by omega), if_neg hk]
  by_cases h0 : i = 2
  · subst h0
    simp only [zi_at, zi_ne, zr_ne, Nat.reduceEqDiff, not_false_eq_true]
    by_cases hk : 8 ≤ k ∧ k < 12
    · rw [zHc_o hk]
      have h4 : k = 8 ∨ k = 9 ∨ k = 10 ∨ k = 11 := by omega
      rcases h4 with rfl | rfl | rfl | rfl <;> rfl
    · rw [zHc_on hk, if_neg (by omega), if_neg (by omega), if_neg (by omega), if_neg (by omega)]
  rw [zHc_ne (by omega)]
  simp only [zi_ne h0, zr_ne h1, zr_ne h2, zr_ne h3, zr_ne h4, zr_ne h5, zr_ne h6, zr_ne h7, zr_ne h8]
theorem q21_2_93 {X : Nat × (Nat → Int32)} {d : Nat} {f : Nat → Nat → Int32} {g : Nat → Nat → Int64} {K : (Nat → Nat → Int32) → (Nat → Nat → Int64) → Prop} : zCpv X (d + 1) 21 [.ref 2, .ref 93] (zs f g) K = K (zHc f 2 93) (zuL g 2 12 (g 93 12)) := by
  refine zCpv_eq (fun K hK => e21_2_93 ?_)
  simp only [true_or, or_true, false_or, or_false, or_self, and_self, true_and, and_true, not_true_eq_false, not_false_eq_true, ↓reduceIte, eq_self, zq_01, zq_10, zq_m0, zq_m1, zq_0m, zq_1m, zq_2, zq_6, zq_8, zq_10z, zq_12, zq_1000, Int32.reduceLT, Int32.reduceLE, Int32.reduceToInt, Int32.reduceToNatClampNeg, Int32.reduceOfNat, Int.reduceLT, Int.reduceLE, Int.reduceEq, Nat.reduceLeDiff, Nat.reduceEqDiff, zl_2, zl_8, zl_12, zl_50, zl_132, zl_133, zl_134, zl_999, zl_10000, Nat.reduceAdd]
  rw [zHc_2_93]
  exact hK
theorem zHc_2_102 {f : Nat → Nat → Int32} : (zuI (zuI (zuI (zuI (zrI (zrI (zrI (zrI (zrI (zrI (zrI (zrI f 3 (va_cpy (f 103) (f 3) 0 0 12)) 4 (va_cpy (f 104) (f 4) 0 0 12)) 5 (va_cpy (f 105) (f 5) 0 0 12)) 6 (va_cpy (f 106) (f 6) 0 0 12)) 7 (va_cpy (f 107) (f 7) 0 0 12)) 8 (va_cpy (f 108) (f 8) 0 0 12)) 9 (va_cpy (f 109) (f 9) 0 0 12)) 10 (va_cpy (f 110) (f 10) 0 0 12)) 2 8 (f 102 8)) 2 9 (f 102 9)) 2 10 (f 102 10)) 2 11 (f 102 11)) = zHc f 2 102 := by
  funext i k
  by_cases h1 : i = 3
  · subst h1
    have e := zHc_r (f := f) (t := 2) (s := 102) (j := 1) (k := k) (by omega) (by omega)
    simp only [zi_ne, zi_at, zr_ne, zr_at, zj_ne, zj_at, ↓reduceIte, Nat.reduceEqDiff, not_false_eq_true, eq_self, nI_1, zcpy]
    by_cases hk : k < 12
    · rw [if_pos hk]; exact (e hk).symm
    · rw [if_neg hk]
      unfold zHc
      rw [if_pos (by omega), if_neg hk]
  by_cases h2 : i = 4
  · subst h2
    have e := zHc_r (f := f) (t := 2) (s := 102) (j := 2) (k := k) (by omega) (by omega)
    simp only [zi_ne, zi_at, zr_ne, zr_at, zj_ne, zj_at, ↓reduceIte, Nat.reduceEqDiff, not_false_eq_true, eq_self, nI_1, zcpy]
    by_cases hk : k < 12
    · rw [if_pos hk]; exact (e hk).symm
    · rw [if_neg hk]
      unfold zHc
      rw [if_pos (by omega), if_neg hk]
  by_cases h3 : i = 5
  · subst h3
    have e := zHc_r (f := f) (t := 2) (s := 102) (j := 3) (k := k) (by omega) (by omega)
    simp only [zi_ne, zi_at, zr_ne, zr_at, zj_ne, zj_at, ↓reduceIte, Nat.reduceEqDiff, not_false_eq_true, eq_self, nI_1, zcpy]
    by_cases hk : k < 12
    · rw [if_pos hk]; exact (e hk).symm
    · rw [if_neg hk]
      unfold zHc
      rw [if_pos (by omega), if_neg hk]
  by_cases h4 : i = 6
  · subst h4
    have e := zHc_r (f := f) (t := 2) (s := 102) (j := 4) (k := k) (by omega) (by omega)
    simp only [zi_ne, zi_at, zr_ne, zr_at, zj_ne, zj_at, ↓reduceIte, Nat.reduceEqDiff, not_false_eq_true, eq_self, nI_1, zcpy]
    by_cases hk : k < 12
    · rw [if_pos hk]; exact (e hk).symm
    · rw [if_neg hk]
      unfold zHc
      rw [if_pos (by omega), if_neg hk]
  by_cases h5 : i = 7
  · subst h5
    have e := zHc_r (f := f) (t := 2) (s := 102) (j := 5) (k := k) (by omega) (by omega)
    simp only [zi_ne, zi_at, zr_ne, zr_at, zj_ne, zj_at, ↓reduceIte, Nat.reduceEqDiff, not_false_eq_true, eq_self, nI_1, zcpy]
    by_cases hk : k < 12
    · rw [if_pos hk]; exact (e hk).symm
    · rw [if_neg hk]
      unfold zHc
      rw [if_pos (by omega), if_neg hk]
  by_cases h6 : i = 8
  · subst h6
    have e := zHc_r (f := f) (t := 2) (s := 102) (j := 6) (k := k) (by omega) (by omega)
    simp only [zi_ne, zi_at, zr_ne, zr_at, zj_ne, zj_at, ↓reduceIte, Nat.reduceEqDiff, not_false_eq_true, eq_self, nI_1, zcpy]
    by_cases hk : k < 12
    · rw [if_pos hk]; exact (e hk).symm
    · rw [if_neg hk]
      unfold zHc
      rw [if_pos (by omega), if_neg hk]
  by_cases h7 : i = 9
  · subst h7
    have e := zHc_r (f := f) (t := 2) (s := 102) (j := 7) (k := k) (by omega) (by omega)
    simp only [zi_ne, zi_at, zr_ne, zr_at, zj_ne, zj_at, ↓reduceIte, Nat.reduceEqDiff, not_false_eq_true, eq_self, nI_1, zcpy]
    by_cases hk : k < 12
    · rw [if_pos hk]; exact (e hk).symm
    · rw [if_neg hk]
      unfold zHc
      rw [if_pos (by omega), if_neg hk]
  by_cases h8 : i = 10
  · subst h8
    have e := zHc_r (f := f) (t := 2) (s := 102) (j := 8) (k := k) (by omega) (by omega)
    simp only [zi_ne, zi_at, zr_ne, zr_at, zj_ne, zj_at, ↓reduceIte, Nat.reduceEqDiff, not_false_eq_true, eq_self, nI_1, zcpy]
    by_cases hk : k < 12
    · rw [if_pos hk]; exact (e hk).symm
    · rw [if_neg hk]
      unfold zHc
      rw [if_pos (by omega), if_neg hk]
  by_cases h0 : i = 2
  · subst h0
    simp only [zi_at, zi_ne, zr_ne, Nat.reduceEqDiff, not_false_eq_true]
    by_cases hk : 8 ≤ k ∧ k < 12
    · rw [zHc_o hk]
      have h4 : k = 8 ∨ k = 9 ∨ k = 10 ∨ k = 11 := by omega
      rcases h4 with rfl | rfl | rfl | rfl <;> rfl
    · rw [zHc_on hk, if_neg (by omega), if_neg (by omega), if_neg (by omega), if_neg (by omega)]
  rw [zHc_ne (by omega)]
  simp only [zi_ne h0, zr_ne h1, zr_ne h2, zr_ne h3, zr_ne h4, zr_ne h5, zr_ne h6, zr_ne h7, zr_ne h8]
theorem q21_2_102 {X : Nat × (Nat → Int32)} {d : Nat} {f : Nat → Nat → Int32} {g : Nat → Nat → Int64} {K : (Nat → Nat → Int32) → (Nat → Nat → Int64) → Prop} : zCpv X (d + 1) 21 [.ref 2, .ref 102] (zs f g) K = K (zHc f 2 102) (zuL g 2 12 (g 102 12)) := by
  refine zCpv_eq (fun K hK => e21_2_102 ?_)
  simp only [true_or, or_true, false_or, or_false, or_self, and_self, true_and, and_true, not_true_eq_false, not_false_eq_true, ↓reduceIte, eq_self, zq_01, zq_10, zq_m0, zq_m1, zq_0m, zq_1m, zq_2, zq_6, zq_8, zq_10z, zq_12, zq_1000, Int32.reduceLT, Int32.reduceLE, Int32.reduceToInt, Int32.reduceToNatClampNeg, Int32.reduceOfNat, Int.reduceLT, Int.reduceLE, Int.reduceEq, Nat.reduceLeDiff, Nat.reduceEqDiff, zl_2, zl_8, zl_12, zl_50, zl_132, zl_133, zl_134, zl_999, zl_10000, Nat.reduceAdd]
  rw [zHc_2_102]
  exact hK
theorem zHc_2_111 {f : Nat → Nat → Int32} : (zuI (zuI (zuI (zuI (zrI (zrI (zrI (zrI (zrI (zrI (zrI (zrI f 3 (va_cpy (f 112) (f 3) 0 0 12)) 4 (va_cpy (f 113) (f 4) 0 0 12)) 5 (va_cpy (f 114) (f 5) 0 0 12)) 6 (va_cpy (f 115) (f 6) 0 0 12)) 7 (va_cpy (f 116) (f 7) 0 0 12)) 8 (va_cpy (f 117) (f 8) 0 0 12)) 9 (va_cpy (f 118) (f 9) 0 0 12)) 10 (va_cpy (f 119) (f 10) 0 0 12)) 2 8 (f 111 8)) 2 9 (f 111 9)) 2 10 (f 111 10)) 2 11 (f 111 11)) = zHc f 2 111 := by
  funext i k
  by_cases h1 : i = 3
  · subst h1
    have e := zHc_r (f := f) (t := 2) (s := 111) (j := 1) (k := k) (by omega) (by omega)
    simp only [zi_ne, zi_at, zr_ne, zr_at, zj_ne, zj_at, ↓reduceIte, Nat.reduceEqDiff, not_false_eq_true, eq_self, nI_1, zcpy]
    by_cases hk : k < 12
    · rw [if_pos hk]; exact (e hk).symm
    · rw [if_neg hk]
      unfold zHc
      rw [if_pos (by omega), if_neg hk]
  by_cases h2 : i = 4
  · subst h2
    have e := zHc_r (f := f) (t := 2) (s := 111) (j := 2) (k := k) (by omega) (by omega)
    simp only [zi_ne, zi_at, zr_ne, zr_at, zj_ne, zj_at, ↓reduceIte, Nat.reduceEqDiff, not_false_eq_true, eq_self, nI_1, zcpy]
    by_cases hk : k < 12
    · rw [if_pos hk]; exact (e hk).symm
    · rw [if_neg hk]
      unfold zHc
      rw [if_pos (by omega), if_neg hk]
  by_cases h3 : i = 5
  · subst h3
    have e := zHc_r (f := f) (t := 2) (s := 111) (j := 3) (k := k) (by omega) (by omega)
    simp only [zi_ne, zi_at, zr_ne, zr_at, zj_ne, zj_at, ↓reduceIte, Nat.reduceEqDiff, not_false_eq_true, eq_self, nI_1, zcpy]
    by_cases hk : k < 12
    · rw [if_pos hk]; exact (e hk).symm
    · rw [if_neg hk]
      unfold zHc
      rw [if_pos (by omega), if_neg hk]
  by_cases h4 : i = 6
  · subst h4
    have e := zHc_r (f := f) (t := 2) (s := 111) (j := 4) (k := k) (by omega) (by omega)
    simp only [zi_ne, zi_at, zr_ne, zr_at, zj_ne, zj_at, ↓reduceIte, Nat.reduceEqDiff, not_false_eq_true, eq_self, nI_1, zcpy]
    by_cases hk : k < 12
    · rw [if_pos hk]; exact (e hk).symm
    · rw [if_neg hk]
      unfold zHc
      rw [if_pos (by omega), if_neg hk]
  by_cases h5 : i = 7
  · subst h5
    have e := zHc_r (f := f) (t := 2) (s := 111) (j := 5) (k := k) (by omega) (by omega)
    simp only [zi_ne, zi_at, zr_ne, zr_at, zj_ne, zj_at, ↓reduceIte, Nat.reduceEqDiff, not_false_eq_true, eq_self, nI_1, zcpy]
    by_cases hk : k < 12
    · rw [if_pos hk]; exact (e hk).symm
    · rw [if_neg hk]
      unfold zHc
      rw [if_pos (by omega), if_neg hk]
  by_cases h6 : i = 8
  · subst h6
    have e := zHc_r (f := f) (t := 2) (s := 111) (j := 6) (k := k) (by omega) (by omega)
    simp only [zi_ne, zi_at, zr_ne, zr_at, zj_ne, zj_at, ↓reduceIte, Nat.reduceEqDiff, not_false_eq_true, eq_self, nI_1, zcpy]
    by_cases hk : k < 12
    · rw [if_pos hk]; exact (e hk).symm
    · rw [if_neg hk]
      unfold zHc
      rw [if_pos (by omega), if_neg hk]
  by_cases h7 : i = 9
  · subst h7
    have e := zHc_r (f := f) (t := 2) (s := 111) (j := 7) (k := k) (by omega) (by omega)
    simp only [zi_ne, zi_at, zr_ne, zr_at, zj_ne, zj_at, ↓reduceIte, Nat.reduceEqDiff, not_false_eq_true, eq_self, nI_1, zcpy]
    by_cases hk : k < 12
    · rw [if_pos hk]; exact (e hk).symm
    · rw [if_neg hk]
      unfold zHc
      rw [if_pos (by omega), if_neg hk]
  by_cases h8 : i = 10
  · subst h8
    have e := zHc_r (f := f) (t := 2) (s := 111) (j := 8) (k := k) (by omega) (by omega)
    simp only [zi_ne, zi_at, zr_ne, zr_at, zj_ne, zj_at, ↓reduceIte, Nat.reduceEqDiff, not_false_eq_true, eq_self, nI_1, zcpy]
    by_cases hk : k < 12
    · rw [if_pos hk]; exact (e hk).symm
    · rw [if_neg hk]
      unfold zHc
      rw [if_pos (by omega), if_neg hk]
  by_cases h0 : i = 2
  · subst h0
    simp only [zi_at, zi_ne, zr_ne, Nat.reduceEqDiff, not_false_eq_true]
    by_cases hk : 8 ≤ k ∧ k < 12
    · rw [zHc_o hk]
      have h4 : k = 8 ∨ k = 9 ∨ k = 10 ∨ k = 11 := by omega
      rcases h4 with rfl | rfl | rfl | rfl <;> rfl
    · rw [zHc_on hk, if_neg (by omega), if_neg (by omega), if_neg (by omega), if_neg (by omega)]
  rw [zHc_ne (by omega)]
  simp only [zi_ne h0, zr_ne h1, zr_ne h2, zr_ne h3, zr_ne h4, zr_ne h5, zr_ne h6, zr_ne h7, zr_ne h8]
theorem q21_2_111 {X : Nat × (Nat → Int32)} {d : Nat} {f : Nat → Nat → Int32} {g : Nat → Nat → Int64} {K : (Nat → Nat → Int32) → (Nat → Nat → Int64) → Prop} : zCpv X (d + 1) 21 [.ref 2, .ref 111] (zs f g) K = K (zHc f 2 111) (zuL g 2 12 (g 111 12)) := by
  refine zCpv_eq (fun K hK => e21_2_111 ?_)
  simp only [true_or, or_true, false_or, or_false, or_self, and_self, true_and, and_true, not_true_eq_false, not_false_eq_true, ↓reduceIte, eq_self, zq_01, zq_10, zq_m0, zq_m1, zq_0m, zq_1m, zq_2, zq_6, zq_8, zq_10z, zq_12, zq_1000, Int32.reduceLT, Int32.reduceLE, Int32.reduceToInt, Int32.reduceToNatClampNeg, Int32.reduceOfNat, Int.reduceLT, Int.reduceLE, Int.reduceEq, Nat.reduceLeDiff, Nat.reduceEqDiff, zl_2, zl_8, zl_12, zl_50, zl_132, zl_133, zl_134, zl_999, zl_10000, Nat.reduceAdd]
  rw [zHc_2_111]
  exact hK
theorem zHc_2_120 {f : Nat → Nat → Int32} : (zuI (zuI (zuI (zuI (zrI (zrI (zrI (zrI (zrI (zrI (zrI (zrI f 3 (va_cpy (f 121) (f 3) 0 0 12)) 4 (va_cpy (f 122) (f 4) 0 0 12)) 5 (va_cpy (f 123) (f 5) 0 0 12)) 6 (va_cpy (f 124) (f 6) 0 0 12)) 7 (va_cpy (f 125) (f 7) 0 0 12)) 8 (va_cpy (f 126) (f 8) 0 0 12)) 9 (va_cpy (f 127) (f 9) 0 0 12)) 10 (va_cpy (f 128) (f 10) 0 0 12)) 2 8 (f 120 8)) 2 9 (f 120 9)) 2 10 (f 120 10)) 2 11 (f 120 11)) = zHc f 2 120 := by
  funext i k
  by_cases h1 : i = 3
  · subst h1
    have e := zHc_r (f := f) (t := 2) (s := 120) (j := 1) (k := k) (by omega) (by omega)
    simp only [zi_ne, zi_at, zr_ne, zr_at, zj_ne, zj_at, ↓reduceIte, Nat.reduceEqDiff, not_false_eq_true, eq_self, nI_1, zcpy]
    by_cases hk : k < 12
    · rw [if_pos hk]; exact (e hk).symm
    · rw [if_neg hk]
      unfold zHc
      rw [if_pos (by omega), if_neg hk]
  by_cases h2 : i = 4
  · subst h2
    have e := zHc_r (f := f) (t := 2) (s := 120) (j := 2) (k := k) (by omega) (by omega)
    simp only [zi_ne, zi_at, zr_ne, zr_at, zj_ne, zj_at, ↓reduceIte, Nat.reduceEqDiff, not_false_eq_true, eq_self, nI_1, zcpy]
    by_cases hk : k < 12
    · rw [if_pos hk]; exact (e hk).symm
    · rw [if_neg hk]
      unfold zHc
      rw [if_pos (by omega), if_neg hk]
  by_cases h3 : i = 5
  · subst h3
    have e := zHc_r (f := f) (t := 2) (s := 120) (j := 3) (k := k) (by omega) (by omega)
    simp only [zi_ne, zi_at, zr_ne, zr_at, zj_ne, zj_at, ↓reduceIte, Nat.reduceEqDiff, not_false_eq_true, eq_self, nI_1, zcpy]
    by_cases hk : k < 12
    · rw [if_pos hk]; exact (e hk).symm
    · rw [if_neg hk]
      unfold zHc
      rw [if_pos (by omega), if_neg hk]
  by_cases h4 : i = 6
  · subst h4
    have e := zHc_r (f := f) (t := 2) (s := 120) (j := 4) (k := k) (by omega) (by omega)
    simp only [zi_ne, zi_at, zr_ne, zr_at, zj_ne, zj_at, ↓reduceIte, Nat.reduceEqDiff, not_false_eq_true, eq_self, nI_1, zcpy]
    by_cases hk : k < 12
    · rw [if_pos hk]; exact (e hk).symm
    · rw [if_neg hk]
      unfold zHc
      rw [if_pos (by omega), if_neg hk]
  by_cases h5 : i = 7
  · subst h5
    have e := zHc_r (f := f) (t := 2) (s := 120) (j := 5) (k := k) (by omega) (by omega)
    simp only [zi_ne, zi_at, zr_ne, zr_at, zj_ne, zj_at, ↓reduceIte, Nat.reduceEqDiff, not_false_eq_true, eq_self, nI_1, zcpy]
    by_cases hk : k < 12
    · rw [if_pos hk]; exact (e hk).symm
    · rw [if_neg hk]
      unfold zHc
      rw [if_pos (by omega), if_neg hk]
  by_cases h6 : i = 8
  · subst h6
    have e := zHc_r (f := f) (t := 2) (s := 120) (j := 6) (k := k) (by omega) (by omega)
    simp only [zi_ne, zi_at, zr_ne, zr_at, zj_ne, zj_at, ↓reduceIte, Nat.reduceEqDiff, not_false_eq_true, eq_self, nI_1, zcpy]
    by_cases hk : k < 12
    · rw [if_pos hk]; exact (e hk).symm
    · rw [if_neg hk]
      unfold zHc
      rw [if_pos (by omega), if_neg hk]
  by_cases h7 : i = 9
  · subst h7
    have e := zHc_r (f := f) (t := 2) (s := 120) (j := 7) (k := k) (by omega) (by omega)
    simp only [zi_ne, zi_at, zr_ne, zr_at, zj_ne, zj_at, ↓reduceIte, Nat.reduceEqDiff, not_false_eq_true, eq_self, nI_1, zcpy]
    by_cases hk : k < 12
    · rw [if_pos hk]; exact (e hk).symm
    · rw [if_neg hk]
      unfold zHc
      rw [if_pos (by omega), if_neg hk]
  by_cases h8 : i = 10
  · subst h8
    have e := zHc_r (f := f) (t := 2) (s := 120) (j := 8) (k := k) (by omega) (by omega)
    simp only [zi_ne, zi_at, zr_ne, zr_at, zj_ne, zj_at, ↓reduceIte, Nat.reduceEqDiff, not_false_eq_true, eq_self, nI_1, zcpy]
    by_cases hk : k < 12
    · rw [if_pos hk]; exact (e hk).symm
    · rw [if_neg hk]
      unfold zHc
      rw [if_pos (by omega), if_neg hk]
  by_cases h0 : i = 2
  · subst h0
    simp only [zi_at, zi_ne, zr_ne, Nat.reduceEqDiff, not_false_eq_true]
    by_cases hk : 8 ≤ k ∧ k < 12
    · rw [zHc_o hk]
      have h4 : k = 8 ∨ k = 9 ∨ k = 10 ∨ k = 11 := by omega
      rcases h4 with rfl | rfl | rfl | rfl <;> rfl
    · rw [zHc_on hk, if_neg (by omega), if_neg (by omega), if_neg (by omega), if_neg (by omega)]
  rw [zHc_ne (by omega)]
  simp only [zi_ne h0, zr_ne h1, zr_ne h2, zr_ne h3, zr_ne h4, zr_ne h5, zr_ne h6, zr_ne h7, zr_ne h8]
theorem q21_2_120 {X : Nat × (Nat → Int32)} {d : Nat} {f : Nat → Nat → Int32} {g : Nat → Nat → Int64} {K : (Nat → Nat → Int32) → (Nat → Nat → Int64) → Prop} : zCpv X (d + 1) 21 [.ref 2, .ref 120] (zs f g) K = K (zHc f 2 120) (zuL g 2 12 (g 120 12)) := by
  refine zCpv_eq (fun K hK => e21_2_120 ?_)
  simp only [true_or, or_true, false_or, or_false, or_self, and_self, true_and, and_true, not_true_eq_false, not_false_eq_true, ↓reduceIte, eq_self, zq_01, zq_10, zq_m0, zq_m1, zq_0m, zq_1m, zq_2, zq_6, zq_8, zq_10z, zq_12, zq_1000, Int32.reduceLT, Int32.reduceLE, Int32.reduceToInt, Int32.reduceToNatClampNeg, Int32.reduceOfNat, Int.reduceLT, Int.reduceLE, Int.reduceEq, Nat.reduceLeDiff, Nat.reduceEqDiff, zl_2, zl_8, zl_12, zl_50, zl_132, zl_133, zl_134, zl_999, zl_10000, Nat.reduceAdd]
  rw [zHc_2_120]
  exact hK
theorem zHc_2_129 {f : Nat → Nat → Int32} : (zuI (zuI (zuI (zuI (zrI (zrI (zrI (zrI (zrI (zrI (zrI (zrI f 3 (va_cpy (f 130) (f 3) 0 0 12)) 4 (va_cpy (f 131) (f 4) 0 0 12)) 5 (va_cpy (f 132) (f 5) 0 0 12)) 6 (va_cpy (f 133) (f 6) 0 0 12)) 7 (va_cpy (f 134) (f 7) 0 0 12)) 8 (va_cpy (f 135) (f 8) 0 0 12)) 9 (va_cpy (f 136) (f 9) 0 0 12)) 10 (va_cpy (f 137) (f 10) 0 0 12)) 2 8 (f 129 8)) 2 9 (f 129 9)) 2 10 (f 129 10)) 2 11 (f 129 11)) = zHc f 2 129 := by
  funext i k
  by_cases h1 : i = 3
  · subst h1
    have e := zHc_r (f := f) (t := 2) (s := 129) (j := 1) (k := k) (by omega) (by omega)
    simp only [zi_ne, zi_at, zr_ne, zr_at, zj_ne, zj_at, ↓reduceIte, Nat.reduceEqDiff, not_false_eq_true, eq_self, nI_1, zcpy]
    by_cases hk : k < 12
    · rw [if_pos hk]; exact (e hk).symm
    · rw [if_neg hk]
      unfold zHc
      rw [if_pos (by omega), if_neg hk]
  by_cases h2 : i = 4
  · subst h2
    have e := zHc_r (f := f) (t := 2) (s := 129) (j := 2) (k := k) (by omega) (by omega)
    simp only [zi_ne, zi_at, zr_ne, zr_at, zj_ne, zj_at, ↓reduceIte, Nat.reduceEqDiff, not_false_eq_true, eq_self, nI_1, zcpy]
    by_cases hk : k < 12
    · rw [if_pos hk]; exact (e hk).symm
    · rw [if_neg hk]
      unfold zHc
      rw [if_pos (by omega), if_neg hk]
  by_cases h3 : i = 5
  · subst h3
    have e := zHc_r (f := f) (t := 2) (s := 129) (j := 3) (k := k) (by omega) (by omega)
    simp only [zi_ne, zi_at, zr_ne, zr_at, zj_ne, zj_at, ↓reduceIte, Nat.reduceEqDiff, not_false_eq_true, eq_self, nI_1, zcpy]
    by_cases hk : k < 12
    · rw [if_pos hk]; exact (e hk).symm
    · rw [if_neg hk]
      unfold zHc
      rw [if_pos (by omega), if_neg hk]
  by_cases h4 : i = 6
  · subst h4
    have e := zHc_r (f := f) (t := 2) (s := 129) (j := 4) (k := k) (by omega) (by omega)
    simp only [zi_ne, zi_at, zr_ne, zr_at, zj_ne, zj_at, ↓reduceIte, Nat.reduceEqDiff, not_false_eq_true, eq_self, nI_1, zcpy]
    by_cases hk : k < 12
    · rw [if_pos hk]; exact (e hk).symm
    · rw [if_neg hk]
      unfold zHc
      rw [if_pos (by omega), if_neg hk]
  by_cases h5 : i = 7
  · subst h5
    have e := zHc_r (f := f) (t := 2) (s := 129) (j := 5) (k := k) (by omega) (by omega)
    simp only [zi_ne, zi_at, zr_ne, zr_at, zj_ne, zj_at, ↓reduceIte, Nat.reduceEqDiff, not_false_eq_true, eq_self, nI_1, zcpy]
    by_cases hk : k < 12
    · rw [if_pos hk]; exact (e hk).symm
    · rw [if_neg hk]
      unfold zHc
      rw [if_pos (by omega), if_neg hk]
  by_cases h6 : i = 8
  · subst h6
    have e := zHc_r (f := f) (t := 2) (s := 129) (j := 6) (k := k) (by omega) (by omega)
    simp only [zi_ne, zi_at, zr_ne, zr_at, zj_ne, zj_at, ↓reduceIte, Nat.reduceEqDiff, not_false_eq_true, eq_self, nI_1, zcpy]
    by_cases hk : k < 12
    · rw [if_pos hk]; exact (e hk).symm
    · rw [if_neg hk]
      unfold zHc
      rw [if_pos (by omega), if_neg hk]
  by_cases h7 : i = 9
  · subst h7
    have e := zHc_r (f := f) (t := 2) (s := 129) (j := 7) (k := k) (by omega) (by omega)
    simp only [zi_ne, zi_at, zr_ne, zr_at, zj_ne, zj_at, ↓reduceIte, Nat.reduceEqDiff, not_false_eq_true, eq_self, nI_1, zcpy]
    by_cases hk : k < 12
    · rw [if_pos hk]; exact (e hk).symm
    · rw [if_neg hk]
      unfold zHc
      rw [if_pos (by omega), if_neg hk]
  by_cases h8 : i = 10
  · subst h8
    have e := zHc_r (f := f) (t := 2) (s := 129) (j := 8) (k := k) (by omega) (by omega)
    simp only [zi_ne, zi_at, zr_ne, zr_at, zj_ne, zj_at, ↓reduceIte, Nat.reduceEqDiff, not_false_eq_true, eq_self, nI_1, zcpy]
    by_cases hk : k < 12
    · rw [if_pos hk]; exact (e hk).symm
    · rw [if_neg hk]
      unfold zHc
      rw [if_pos (by omega), if_neg hk]
  by_cases h0 : i = 2
  · subst h0
    simp only [zi_at, zi_ne, zr_ne, Nat.reduceEqDiff, not_false_eq_true]
    by_cases hk : 8 ≤ k ∧ k < 12
    · rw [zHc_o hk]
      have h4 : k = 8 ∨ k = 9 ∨ k = 10 ∨ k = 11 := by omega
      rcases h4 with rfl | rfl | rfl | rfl <;> rfl
    · rw [zHc_on hk, if_neg (by omega), if_neg (by omega), if_neg (by omega), if_neg (by omega)]
  rw [zHc_ne (by omega)]
  simp only [zi_ne h0, zr_ne h1, zr_ne h2, zr_ne h3, zr_ne h4, zr_ne h5, zr_ne h6, zr_ne h7, zr_ne h8]
theorem q21_2_129 {X : Nat × (Nat → Int32)} {d : Nat} {f : Nat → Nat → Int32} {g : Nat → Nat → Int64} {K : (Nat → Nat → Int32) → (Nat → Nat → Int64) → Prop} : zCpv X (d + 1) 21 [.ref 2, .ref 129] (zs f g) K = K (zHc f 2 129) (zuL g 2 12 (g 129 12)) := by
  refine zCpv_eq (fun K hK => e21_2_129 ?_)
  simp only [true_or, or_true, false_or, or_false, or_self, and_self, true_and, and_true, not_true_eq_false, not_false_eq_true, ↓reduceIte, eq_self, zq_01, zq_10, zq_m0, zq_m1, zq_0m, zq_1m, zq_2, zq_6, zq_8, zq_10z, zq_12, zq_1000, Int32.reduceLT, Int32.reduceLE, Int32.reduceToInt, Int32.reduceToNatClampNeg, Int32.reduceOfNat, Int.reduceLT, Int.reduceLE, Int.reduceEq, Nat.reduceLeDiff, Nat.reduceEqDiff, zl_2, zl_8, zl_12, zl_50, zl_132, zl_133, zl_134, zl_999, zl_10000, Nat.reduceAdd]
  rw [zHc_2_129]
  exact hK
theorem zHc_138_2 {f : Nat → Nat → Int32} : (zuI (zuI (zuI (zuI (zrI (zrI (zrI (zrI (zrI (zrI (zrI (zrI f 139 (va_cpy (f 3) (f 139) 0 0 12)) 140 (va_cpy (f 4) (f 140) 0 0 12)) 141 (va_cpy (f 5) (f 141) 0 0 12)) 142 (va_cpy (f 6) (f 142) 0 0 12)) 143 (va_cpy (f 7) (f 143) 0 0 12)) 144 (va_cpy (f 8) (f 144) 0 0 12)) 145 (va_cpy (f 9) (f 145) 0 0 12)) 146 (va_cpy (f 10) (f 146) 0 0 12)) 138 8 (f 2 8)) 138 9 (f 2 9)) 138 10 (f 2 10)) 138 11 (f 2 11)) = zHc f 138 2 := by
  funext i k
  by_cases h1 : i = 139
  · subst h1
    have e := zHc_r (f := f) (t := 138) (s := 2) (j := 1) (k := k) (by omega) (by omega)
    simp only [zi_ne, zi_at, zr_ne, zr_at, zj_ne, zj_at, ↓reduceIte, Nat.reduceEqDiff, not_false_eq_true, eq_self, nI_1, zcpy]
    by_cases hk : k < 12
    · rw [if_pos hk]; exact (e hk).symm
    · rw [if_neg hk]
      unfold zHc
      rw [if_pos (by omega), if_neg hk]
  by_cases h2 : i = 140
  · subst h2
    have e := zHc_r (f := f) (t := 138) (s := 2) (j := 2) (k := k) (by omega) (by omega)
    simp only [zi_ne, zi_at, zr_ne, zr_at, zj_ne, zj_at, ↓reduceIte, Nat.reduceEqDiff, not_false_eq_true, eq_self, nI_1, zcpy]
    by_cases hk : k < 12
    · rw [if_pos hk]; exact (e hk).symm
    · rw [if_neg hk]
      unfold zHc
      rw [if_pos (by omega), if_neg hk]
  by_cases h3 : i = 141
  · subst h3
    have e := zHc_r (f := f) (t := 138) (s := 2) (j := 3) (k := k) (by omega) (by omega)
    simp only [zi_ne, zi_at, zr_ne, zr_at, zj_ne, zj_at, ↓reduceIte, Nat.reduceEqDiff, not_false_eq_true, eq_self, nI_1, zcpy]
    by_cases hk : k < 12
    · rw [if_pos hk]; exact (e hk).symm
    · rw [if_neg hk]
      unfold zHc
      rw [if_pos (by omega), if_neg hk]
  by_cases h4 : i = 142
  · subst h4
    have e := zHc_r (f := f) (t := 138) (s := 2) (j := 4) (k := k) (by omega) (by omega)
    simp only [zi_ne, zi_at, zr_ne, zr_at, zj_ne, zj_at, ↓reduceIte, Nat.reduceEqDiff, not_false_eq_true, eq_self, nI_1, zcpy]
    by_cases hk : k < 12
    · rw [if_pos hk]; exact (e hk).symm
    · rw [if_neg hk]
      unfold zHc
      rw [if_pos (by omega), if_neg hk]
  by_cases h5 : i = 143
  · subst h5
    have e := zHc_r (f := f) (t := 138) (s := 2) (j := 5) (k := k) (by omega) (by omega)
    simp only [zi_ne, zi_at, zr_ne, zr_at, zj_ne, zj_at, ↓reduceIte, Nat.reduceEqDiff, not_false_eq_true, eq_self, nI_1, zcpy]
    by_cases hk : k < 12
    · rw [if_pos hk]; exact (e hk).symm
    · rw [if_neg hk]
      unfold zHc
      rw [if_pos (by omega), if_neg hk]
  by_cases h6 : i = 144
  · subst h6
    have e := zHc_r (f := f) (t := 138) (s := 2) (j := 6) (k := k) (by omega) (by omega)
    simp only [zi_ne, zi_at, zr_ne, zr_at, zj_ne, zj_at, ↓reduceIte, Nat.reduceEqDiff, not_false_eq_true, eq_self, nI_1, zcpy]
    by_cases hk : k < 12
    · rw [if_pos hk]; exact (e hk).symm
    · rw [if_neg hk]
      unfold zHc
      rw [if_pos (by omega), if_neg hk]
  by_cases h7 : i = 145
  · subst h7
    have e := zHc_r (f := f) (t := 138) (s := 2) (j := 7) (k := k) (by omega) (by omega)
    simp only [zi_ne, zi_at, zr_ne, zr_at, zj_ne, zj_at, ↓reduceIte, Nat.reduceEqDiff, not_false_eq_true, eq_self, nI_1, zcpy]
    by_cases hk : k < 12
    · rw [if_pos hk]; exact (e hk).symm
    · rw [if_neg hk]
      unfold zHc
      rw [if_pos (by omega), if_neg hk]
  by_cases h8 : i = 146
  · subst h8
    have e := zHc_r (f := f) (t := 138) (s := 2) (j := 8) (k := k) (by omega) (by omega)
    simp only [zi_ne, zi_at, zr_ne, zr_at, zj_ne, zj_at, ↓reduceIte, Nat.reduceEqDiff, not_false_eq_true, eq_self, nI_1, zcpy]
    by_cases hk : k < 12
    · rw [if_pos hk]; exact (e hk).symm
    · rw [if_neg hk]
      unfold zHc
      rw [if_pos (by omega), if_neg hk]
  by_cases h0 : i = 138
  · subst h0
    simp only [zi_at, zi_ne, zr_ne, Nat.reduceEqDiff, not_false_eq_true]
    by_cases hk : 8 ≤ k ∧ k < 12
    · rw [zHc_o hk]
      have h4 : k = 8 ∨ k = 9 ∨ k = 10 ∨ k = 11 := by omega
      rcases h4 with rfl | rfl | rfl | rfl <;> rfl
    · rw [zHc_on hk, if_neg (by omega), if_neg (by omega), if_neg (by omega), if_neg (by omega)]
  rw [zHc_ne (by omega)]
  simp only [zi_ne h0, zr_ne h1, zr_ne h2, zr_ne h3, zr_ne h4, zr_ne h5, zr_ne h6, zr_ne h7, zr_ne h8]
theorem q21_138_2 {X : Nat × (Nat → Int32)} {d : Nat} {f : Nat → Nat → Int32} {g : Nat → Nat → Int64} {K : (Nat → Nat → Int32) → (Nat → Nat → Int64) → Prop} : zCpv X (d + 1) 21 [.ref 138, .ref 2] (zs f g) K = K (zHc f 138 2) (zuL g 138 12 (g 2 12)) := by
  refine zCpv_eq (fun K hK => e21_138_2 ?_)
  simp only [true_or, or_true, false_or, or_false, or_self, and_self, true_and, and_true, not_true_eq_false, not_false_eq_true, ↓reduceIte, eq_self, zq_01, zq_10, zq_m0, zq_m1, zq_0m, zq_1m, zq_2, zq_6, zq_8, zq_10z, zq_12, zq_1000, Int32.reduceLT, Int32.reduceLE, Int32.reduceToInt, Int32.reduceToNatClampNeg, Int32.reduceOfNat, Int.reduceLT, Int.reduceLE, Int.reduceEq, Nat.reduceLeDiff, Nat.reduceEqDiff, zl_2, zl_8, zl_12, zl_50, zl_132, zl_133, zl_134, zl_999, zl_10000, Nat.reduceAdd]
  rw [zHc_138_2]
  exact hK
theorem zHc_148_2 {f : Nat → Nat → Int32} : (zuI (zuI (zuI (zuI (zrI (zrI (zrI (zrI (zrI (zrI (zrI (zrI f 149 (va_cpy (f 3) (f 149) 0 0 12)) 150 (va_cpy (f 4) (f 150) 0 0 12)) 151 (va_cpy (f 5) (f 151) 0 0 12)) 152 (va_cpy (f 6) (f 152) 0 0 12)) 153 (va_cpy (f 7) (f 153) 0 0 12)) 154 (va_cpy (f 8) (f 154) 0 0 12)) 155 (va_cpy (f 9) (f 155) 0 0 12)) 156 (va_cpy (f 10) (f 156) 0 0 12)) 148 8 (f 2 8)) 148 9 (f 2 9)) 148 10 (f 2 10)) 148 11 (f 2 11)) = zHc f 148 2 := by
  funext i k
  by_cases h1 : i = 149
  · subst h1
    have e := zHc_r (f := f) (t := 148) (s := 2) (j := 1) (k := k) (by omega) (by omega)
    simp only [zi_ne, zi_at, zr_ne, zr_at, zj_ne, zj_at, ↓reduceIte, Nat.reduceEqDiff, not_false_eq_true, eq_self, nI_1, zcpy]
    by_cases hk : k < 12
    · rw [if_pos hk]; exact (e hk).symm
    · rw [if_neg hk]
      unfold zHc
      rw [if_pos (by omega), if_neg hk]
  by_cases h2 : i = 150
  · subst h2
    have e := zHc_r (f := f) (t := 148) (s := 2) (j := 2) (k := k) (by omega) (by omega)
    simp only [zi_ne, zi_at, zr_ne, zr_at, zj_ne, zj_at, ↓reduceIte, Nat.reduceEqDiff, not_false_eq_true, eq_self, nI_1, zcpy]
    by_cases hk : k < 12
    · rw [if_pos hk]; exact (e hk).symm
    · rw [if_neg hk]
      unfold zHc
      rw [if_pos (by omega), if_neg hk]
  by_cases h3 : i = 151
  · subst h3
    have e := zHc_r (f := f) (t := 148) (s := 2) (j := 3) (k := k) (by omega) (by omega)
    simp only [zi_ne, zi_at, zr_ne, zr_at, zj_ne, zj_at, ↓reduceIte, Nat.reduceEqDiff, not_false_eq_true, eq_self, nI_1, zcpy]
    by_cases hk : k < 12
    · rw [if_pos hk]; exact (e hk).symm
    · rw [if_neg hk]
      unfold zHc
      rw [if_pos (by omega), if_neg hk]
  by_cases h4 : i = 152
  · subst h4
    have e := zHc_r (f := f) (t := 148) (s := 2) (j := 4) (k := k) (by omega) (by omega)
    simp only [zi_ne, zi_at, zr_ne, zr_at, zj_ne, zj_at, ↓reduceIte, Nat.reduceEqDiff, not_false_eq_true, eq_self, nI_1, zcpy]
    by_cases hk : k < 12
    · rw [if_pos hk]; exact (e hk).symm
    · rw [if_neg hk]
      unfold zHc
      rw [if_pos (by omega), if_neg hk]
  by_cases h5 : i = 153
  · subst h5
    have e := zHc_r (f := f) (t := 148) (s := 2) (j := 5) (k := k) (by omega) (by omega)
    simp only [zi_ne, zi_at, zr_ne, zr_at, zj_ne, zj_at, ↓reduceIte, Nat.reduceEqDiff, not_false_eq_true, eq_self, nI_1, zcpy]
    by_cases hk : k < 12
    · rw [if_pos hk]; exact (e hk).symm
    · rw [if_neg hk]
      unfold zHc
      rw [if_pos (by omega), if_neg hk]
  by_cases h6 : i = 154
  · subst h6
    have e := zHc_r (f := f) (t := 148) (s := 2) (j := 6) (k := k) (by omega) (by omega)
    simp only [zi_ne, zi_at, zr_ne, zr_at, zj_ne, zj_at, ↓reduceIte, Nat.reduceEqDiff, not_false_eq_true, eq_self, nI_1, zcpy]
    by_cases hk : k < 12
    · rw [if_pos hk]; exact (e hk).symm
    · rw [if_neg hk]
      unfold zHc
      rw [if_pos (by omega), if_neg hk]
  by_cases h7 : i = 155
  · subst h7
    have e := zHc_r (f := f) (t := 148) (s := 2) (j := 7) (k := k) (by omega) (by omega)
    simp only [zi_ne, zi_at, zr_ne, zr_at, zj_ne, zj_at, ↓reduceIte, Nat.reduceEqDiff, not_false_eq_true, eq_self, nI_1, zcpy]
    by_cases hk : k < 12
    · rw [if_pos hk]; exact (e hk).symm
    · rw [if_neg hk]
      unfold zHc
      rw [if_pos (by omega), if_neg hk]
  by_cases h8 : i = 156
  · subst h8
    have e := zHc_r (f := f) (t := 148) (s := 2) (j := 8) (k := k) (by omega) (by omega)
    simp only [zi_ne, zi_at, zr_ne, zr_at, zj_ne, zj_at, ↓reduceIte, Nat.reduceEqDiff, not_false_eq_true, eq_self, nI_1, zcpy]
    by_cases hk : k < 12
    · rw [if_pos hk]; exact (e hk).symm
    · rw [if_neg hk]
      unfold zHc
      rw [if_pos (by omega), if_neg hk]
  by_cases h0 : i = 148
  · subst h0
    simp only [zi_at, zi_ne, zr_ne, Nat.reduceEqDiff, not_false_eq_true]
    by_cases hk : 8 ≤ k ∧ k < 12
    · rw [zHc_o hk]
      have h4 : k = 8 ∨ k = 9 ∨ k = 10 ∨ k = 11 := by omega
      rcases h4 with rfl | rfl | rfl | rfl <;> rfl
    · rw [zHc_on hk, if_neg (by omega), if_neg (by omega), if_neg (by omega), if_neg (by omega)]
  rw [zHc_ne (by omega)]
  simp only [zi_ne h0, zr_ne h1, zr_ne h2, zr_ne h3, zr_ne h4, zr_ne h5, zr_ne h6, zr_ne h7, zr_ne h8]
theorem q21_148_2 {X : Nat × (Nat → Int32)} {d : Nat} {f : Nat → Nat → Int32} {g : Nat → Nat → Int64} {K : (Nat → Nat → Int32) → (Nat → Nat → Int64) → Prop} : zCpv X (d + 1) 21 [.ref 148, .ref 2] (zs f g) K = K (zHc f 148 2) (zuL g 148 12 (g 2 12)) := by
  refine zCpv_eq (fun K hK => e21_148_2 ?_)
  simp only [true_or, or_true, false_or, or_false, or_self, and_self, true_and, and_true, not_true_eq_false, not_false_eq_true, ↓reduceIte, eq_self, zq_01, zq_10, zq_m0, zq_m1, zq_0m, zq_1m, zq_2, zq_6, zq_8, zq_10z, zq_12, zq_1000, Int32.reduceLT, Int32.reduceLE, Int32.reduceToInt, Int32.reduceToNatClampNeg, Int32.reduceOfNat, Int.reduceLT, Int.reduceLE, Int.reduceEq, Nat.reduceLeDiff, Nat.reduceEqDiff, zl_2, zl_8, zl_12, zl_50, zl_132, zl_133, zl_134, zl_999, zl_10000, Nat.reduceAdd]
  rw [zHc_148_2]
  exact hK
theorem zHc_2_34 {f : Nat → Nat → Int32} : (zuI (zuI (zuI (zuI (zrI (zrI (zrI (zrI (zrI (zrI (zrI (zrI f 3 (va_cpy (f 35) (f 3) 0 0 12)) 4 (va_cpy (f 36) (f 4) 0 0 12)) 5 (va_cpy (f 37) (f 5) 0 0 12)) 6 (va_cpy (f 38) (f 6) 0 0 12)) 7 (va_cpy (f 39) (f 7) 0 0 12)) 8 (va_cpy (f 40) (f 8) 0 0 12)) 9 (va_cpy (f 41) (f 9) 0 0 12)) 10 (va_cpy (f 42) (f 10) 0 0 12)) 2 8 (f 34 8)) 2 9 (f 34 9)) 2 10 (f 34 10)) 2 11 (f 34 11)) = zHc f 2 34 := by
  funext i k
  by_cases h1 : i = 3
  · subst h1
    have e := zHc_r (f := f) (t := 2) (s := 34) (j := 1) (k := k) (by omega) (by omega)
    simp only [zi_ne, zi_at, zr_ne, zr_at, zj_ne, zj_at, ↓reduceIte, Nat.reduceEqDiff, not_false_eq_true, eq_self, nI_1, zcpy]
    by_cases hk : k < 12
    · rw [if_pos hk]; exact (e hk).symm
    · rw [if_neg hk]
      unfold zHc
      rw [if_pos (by omega), if_neg hk]
  by_cases h2 : i = 4
  · subst h2
    have e := zHc_r (f := f) (t := 2) (s := 34) (j := 2) (k := k) (by omega) (by omega)
    simp only [zi_ne, zi_at, zr_ne, zr_at, zj_ne, zj_at, ↓reduceIte, Nat.reduceEqDiff, not_false_eq_true, eq_self, nI_1, zcpy]
    by_cases hk : k < 12
    · rw [if_pos hk]; exact (e hk).symm
    · rw [if_neg hk]
      unfold zHc
      rw [if_pos (by omega), if_neg hk]
  by_cases h3 : i = 5
  · subst h3
    have e := zHc_r (f := f) (t := 2) (s := 34) (j := 3) (k := k) (by omega) (by omega)
    simp only [zi_ne, zi_at, zr_ne, zr_at, zj_ne, zj_at, ↓reduceIte, Nat.reduceEqDiff, not_false_eq_true, eq_self, nI_1, zcpy]
    by_cases hk : k < 12
    · rw [if_pos hk]; exact (e hk).symm
    · rw [if_neg hk]
      unfold zHc
      rw [if_pos (by omega), if_neg hk]
  by_cases h4 : i = 6
  · subst h4
    have e := zHc_r (f := f) (t := 2) (s := 34) (j := 4) (k := k) (by omega) (by omega)
    simp only [zi_ne, zi_at, zr_ne, zr_at, zj_ne, zj_at, ↓reduceIte, Nat.reduceEqDiff, not_false_eq_true, eq_self, nI_1, zcpy]
    by_cases hk : k < 12
    · rw [if_pos hk]; exact (e hk).symm
    · rw [if_neg hk]
      unfold zHc
      rw [if_pos (by omega), if_neg hk]
  by_cases h5 : i = 7
  · subst h5
    have e := zHc_r (f := f) (t := 2) (s := 34) (j := 5) (k := k) (by omega) (by omega)
    simp only [zi_ne, zi_at, zr_ne, zr_at, zj_ne, zj_at, ↓reduceIte, Nat.reduceEqDiff, not_false_eq_true, eq_self, nI_1, zcpy]
    by_cases hk : k < 12
    · rw [if_pos hk]; exact (e hk).symm
    · rw [if_neg hk]
      unfold zHc
      rw [if_pos (by omega), if_neg hk]
  by_cases h6 : i = 8
  · subst h6
    have e := zHc_r (f := f) (t := 2) (s := 34) (j := 6) (k := k) (by omega) (by omega)
    simp only [zi_ne, zi_at, zr_ne, zr_at, zj_ne, zj_at, ↓reduceIte, Nat.reduceEqDiff, not_false_eq_true, eq_self, nI_1, zcpy]
    by_cases hk : k < 12
    · rw [if_pos hk]; exact (e hk).symm
    · rw [if_neg hk]
      unfold zHc
      rw [if_pos (by omega), if_neg hk]
  by_cases h7 : i = 9
  · subst h7
    have e := zHc_r (f := f) (t := 2) (s := 34) (j := 7) (k := k) (by omega) (by omega)
    simp only [zi_ne, zi_at, zr_ne, zr_at, zj_ne, zj_at, ↓reduceIte, Nat.reduceEqDiff, not_false_eq_true, eq_self, nI_1, zcpy]
    by_cases hk : k < 12
    · rw [if_pos hk]; exact (e hk).symm
    · rw [if_neg hk]
      unfold zHc
      rw [if_pos (by omega), if_neg hk]
  by_cases h8 : i = 10
  · subst h8
    have e := zHc_r (f := f) (t := 2) (s := 34) (j := 8) (k := k) (by omega) (by omega)
    simp only [zi_ne, zi_at, zr_ne, zr_at, zj_ne, zj_at, ↓reduceIte, Nat.reduceEqDiff, not_false_eq_true, eq_self, nI_1, zcpy]
    by_cases hk : k < 12
    · rw [if_pos hk]; exact (e hk).symm
    · rw [if_neg hk]
      unfold zHc
      rw [if_pos (by omega), if_neg hk]
  by_cases h0 : i = 2
  · subst h0
    simp only [zi_at, zi_ne, zr_ne, Nat.reduceEqDiff, not_false_eq_true]
    by_cases hk : 8 ≤ k ∧ k < 12
    · rw [zHc_o hk]
      have h4 : k = 8 ∨ k = 9 ∨ k = 10 ∨ k = 11 := by omega
      rcases h4 with rfl | rfl | rfl | rfl <;> rfl
    · rw [zHc_on hk, if_neg (by omega), if_neg (by omega), if_neg (by omega), if_neg (by omega)]
  rw [zHc_ne (by omega)]
  simp only [zi_ne h0, zr_ne h1, zr_ne h2, zr_ne h3, zr_ne h4, zr_ne h5, zr_ne h6, zr_ne h7, zr_ne h8]
theorem q21_2_34 {X : Nat × (Nat → Int32)} {d : Nat} {f : Nat → Nat → Int32} {g : Nat → Nat → Int64} {K : (Nat → Nat → Int32) → (Nat → Nat → Int64) → Prop} : zCpv X (d + 1) 21 [.ref 2, .ref 34] (zs f g) K = K (zHc f 2 34) (zuL g 2 12 (g 34 12)) := by
  refine zCpv_eq (fun K hK => e21_2_34 ?_)
  simp only [true_or, or_true, false_or, or_false, or_self, and_self, true_and, and_true, not_true_eq_false, not_false_eq_true, ↓reduceIte, eq_self, zq_01, zq_10, zq_m0, zq_m1, zq_0m, zq_1m, zq_2, zq_6, zq_8, zq_10z, zq_12, zq_1000, Int32.reduceLT, Int32.reduceLE, Int32.reduceToInt, Int32.reduceToNatClampNeg, Int32.reduceOfNat, Int.reduceLT, Int.reduceLE, Int.reduceEq, Nat.reduceLeDiff, Nat.reduceEqDiff, zl_2, zl_8, zl_12, zl_50, zl_132, zl_133, zl_134, zl_999, zl_10000, Nat.reduceAdd]
  rw [zHc_2_34]
  exact hK
theorem zHc_34_2 {f : Nat → Nat → Int32} : (zuI (zuI (zuI (zuI (zrI (zrI (zrI (zrI (zrI (zrI (zrI (zrI f 35 (va_cpy (f 3) (f 35) 0 0 12)) 36 (va_cpy (f 4) (f 36) 0 0 12)) 37 (va_cpy (f 5) (f 37) 0 0 12)) 38 (va_cpy (f 6) (f 38) 0 0 12)) 39 (va_cpy (f 7) (f 39) 0 0 12)) 40 (va_cpy (f 8) (f 40) 0 0 12)) 41 (va_cpy (f 9) (f 41) 0 0 12)) 42 (va_cpy (f 10) (f 42) 0 0 12)) 34 8 (f 2 8)) 34 9 (f 2 9)) 34 10 (f 2 10)) 34 11 (f 2 11)) = zHc f 34 2 := by
  funext i k
  by_cases h1 : i = 35
  · subst h1
    have e := zHc_r (f := f) (t := 34) (s := 2) (j := 1) (k := k) (by omega) (by omega)
    simp only [zi_ne, zi_at, zr_ne, zr_at, zj_ne, zj_at, ↓reduceIte, Nat.reduceEqDiff, not_false_eq_true, eq_self, nI_1, zcpy]
    by_cases hk : k < 12
    · rw [if_pos hk]; exact (e hk).symm
    · rw [if_neg hk]
      unfold zHc
      rw [if_pos (by omega), if_neg hk]
  by_cases h2 : i = 36
  · subst h2
    have e := zHc_r (f := f) (t := 34) (s := 2) (j := 2) (k := k) (by omega) (by omega)
    simp only [zi_ne, zi_at, zr_ne, zr_at, zj_ne, zj_at, ↓reduceIte, Nat.reduceEqDiff, not_false_eq_true, eq_self, nI_1, zcpy]
    by_cases hk : k < 12
    · rw [if_pos hk]; exact (e hk).symm
    · rw [if_neg hk]
      unfold zHc
      rw [if_pos (by omega), if_neg hk]
  by_cases h3 : i = 37
  · subst h3
    have e := zHc_r (f := f) (t := 34) (s := 2) (j := 3) (k := k) (by omega) (by omega)
    simp only [zi_ne, zi_at, zr_ne, zr_at, zj_ne, zj_at, ↓reduceIte, Nat.reduceEqDiff, not_false_eq_true, eq_self, nI_1, zcpy]
    by_cases hk : k < 12
    · rw [if_pos hk]; exact (e hk).symm
    · rw [if_neg hk]
      unfold zHc
      rw [if_pos (by omega), if_neg hk]
  by_cases h4 : i = 38
  · subst h4
    have e := zHc_r (f := f) (t := 34) (s := 2) (j := 4) (k := k) (by omega) (by omega)
    simp only [zi_ne, zi_at, zr_ne, zr_at, zj_ne, zj_at, ↓reduceIte, Nat.reduceEqDiff, not_false_eq_true, eq_self, nI_1, zcpy]
    by_cases hk : k < 12
    · rw [if_pos hk]; exact (e hk).symm
    · rw [if_neg hk]
      unfold zHc
      rw [if_pos (by omega), if_neg hk]
  by_cases h5 : i = 39
  · subst h5
    have e := zHc_r (f := f) (t := 34) (s := 2) (j := 5) (k := k) (by omega) (by omega)
    simp only [zi_ne, zi_at, zr_ne, zr_at, zj_ne, zj_at, ↓reduceIte, Nat.reduceEqDiff, not_false_eq_true, eq_self, nI_1, zcpy]
    by_cases hk : k < 12
    · rw [if_pos hk]; exact (e hk).symm
    · rw [if_neg hk]
      unfold zHc
      rw [if_pos (by omega), if_neg hk]
  by_cases h6 : i = 40
  · subst h6
    have e := zHc_r (f := f) (t := 34) (s := 2) (j := 6) (k := k) (by omega) (by omega)
    simp only [zi_ne, zi_at, zr_ne, zr_at, zj_ne, zj_at, ↓reduceIte, Nat.reduceEqDiff, not_false_eq_true, eq_self, nI_1, zcpy]
    by_cases hk : k < 12
    · rw [if_pos hk]; exact (e hk).symm
    · rw [if_neg hk]
      unfold zHc
      rw [if_pos (by omega), if_neg hk]
  by_cases h7 : i = 41
  · subst h7
    have e := zHc_r (f := f) (t := 34) (s := 2) (j := 7) (k := k) (by omega) (by omega)
    simp only [zi_ne, zi_at, zr_ne, zr_at, zj_ne, zj_at, ↓reduceIte, Nat.reduceEqDiff, not_false_eq_true, eq_self, nI_1, zcpy]
    by_cases hk : k < 12
    · rw [if_pos hk]; exact (e hk).symm
    · rw [if_neg hk]
      unfold zHc
      rw [if_pos (by omega), if_neg hk]
  by_cases h8 : i = 42
  · subst h8
    have e := zHc_r (f := f) (t := 34) (s := 2) (j := 8) (k := k) (by omega) (by omega)
    simp only [zi_ne, zi_at, zr_ne, zr_at, zj_ne, zj_at, ↓reduceIte, Nat.reduceEqDiff, not_false_eq_true, eq_self, nI_1, zcpy]
    by_cases hk : k < 12
    · rw [if_pos hk]; exact (e hk).symm
    · rw [if_neg hk]
      unfold zHc
      rw [if_pos (by omega), if_neg hk]
  by_cases h0 : i = 34
  · subst h0
    simp only [zi_at, zi_ne, zr_ne, Nat.reduceEqDiff, not_false_eq_true]
    by_cases hk : 8 ≤ k ∧ k < 12
    · rw [zHc_o hk]
      have h4 : k = 8 ∨ k = 9 ∨ k = 10 ∨ k = 11 := by omega
      rcases h4 with rfl | rfl | rfl | rfl <;> rfl
    · rw [zHc_on hk, if_neg (by omega), if_neg (by omega), if_neg (by omega), if_neg (by omega)]
  rw [zHc_ne (by omega)]
  simp only [zi_ne h0, zr_ne h1, zr_ne h2, zr_ne h3, zr_ne h4, zr_ne h5, zr_ne h6, zr_ne h7, zr_ne h8]
theorem q21_34_2 {X : Nat × (Nat → Int32)} {d : Nat} {f : Nat → Nat → Int32} {g : Nat → Nat → Int64} {K : (Nat → Nat → Int32) → (Nat → Nat → Int64) → Prop} : zCpv X (d + 1) 21 [.ref 34, .ref 2] (zs f g) K = K (zHc f 34 2) (zuL g 34 12 (g 2 12)) := by
  refine zCpv_eq (fun K hK => e21_34_2 ?_)
  simp only [true_or, or_true, false_or, or_false, or_self, and_self, true_and, and_true, not_true_eq_false, not_false_eq_true, ↓reduceIte, eq_self, zq_01, zq_10, zq_m0, zq_m1, zq_0m, zq_1m, zq_2, zq_6, zq_8, zq_10z, zq_12, zq_1000, Int32.reduceLT, Int32.reduceLE, Int32.reduceToInt, Int32.reduceToNatClampNeg, Int32.reduceOfNat, Int.reduceLT, Int.reduceLE, Int.reduceEq, Nat.reduceLeDiff, Nat.reduceEqDiff, zl_2, zl_8, zl_12, zl_50, zl_132, zl_133, zl_134, zl_999, zl_10000, Nat.reduceAdd]
  rw [zHc_34_2]
  exact hK
theorem zHc_159_138 {f : Nat → Nat → Int32} : (zuI (zuI (zuI (zuI (zrI (zrI (zrI (zrI (zrI (zrI (zrI (zrI f 160 (va_cpy (f 139) (f 160) 0 0 12)) 161 (va_cpy (f 140) (f 161) 0 0 12)) 162 (va_cpy (f 141) (f 162) 0 0 12)) 163 (va_cpy (f 142) (f 163) 0 0 12)) 164 (va_cpy (f 143) (f 164) 0 0 12)) 165 (va_cpy (f 144) (f 165) 0 0 12)) 166 (va_cpy (f 145) (f 166) 0 0 12)) 167 (va_cpy (f 146) (f 167) 0 0 12)) 159 8 (f 138 8)) 159 9 (f 138 9)) 159 10 (f 138 10)) 159 11 (f 138 11)) = zHc f 159 138 := by
  funext i k
  by_cases h1 : i = 160
  · subst h1
    have e := zHc_r (f := f) (t := 159) (s := 138) (j := 1) (k := k) (by omega) (by omega)
    simp only [zi_ne, zi_at, zr_ne, zr_at, zj_ne, zj_at, ↓reduceIte, Nat.reduceEqDiff, not_false_eq_true, eq_self, nI_1, zcpy]
    by_cases hk : k < 12
    · rw [if_pos hk]; exact (e hk).symm
    · rw [if_neg hk]
      unfold zHc
      rw [if_pos (by omega), if_neg hk]
  by_cases h2 : i = 161
  · subst h2
    have e := zHc_r (f := f) (t := 159) (s := 138) (j := 2) (k := k) (by omega) (by omega)
    simp only [zi_ne, zi_at, zr_ne, zr_at, zj_ne, zj_at, ↓reduceIte, Nat.reduceEqDiff, not_false_eq_true, eq_self, nI_1, zcpy]
    by_cases hk : k < 12
    · rw [if_pos hk]; exact (e hk).symm
    · rw [if_neg hk]
      unfold zHc
      rw [if_pos (by omega), if_neg hk]
  by_cases h3 : i = 162
  · subst h3
    have e := zHc_r (f := f) (t := 159) (s := 138) (j := 3) (k := k) (by omega) (by omega)
    simp only [zi_ne, zi_at, zr_ne, zr_at, zj_ne, zj_at, ↓reduceIte, Nat.reduceEqDiff, not_false_eq_true, eq_self, nI_1, zcpy]
    by_cases hk : k < 12
    · rw [if_pos hk]; exact (e hk).symm
    · rw [if_neg hk]
      unfold zHc
      rw [if_pos (by omega), if_neg hk]
  by_cases h4 : i = 163
  · subst h4
    have e := zHc_r (f := f) (t := 159) (s := 138) (j := 4) (k := k) (by omega) (by omega)
    simp only [zi_ne, zi_at, zr_ne, zr_at, zj_ne, zj_at, ↓reduceIte, Nat.reduceEqDiff, not_false_eq_true, eq_self, nI_1, zcpy]
    by_cases hk : k < 12
    · rw [if_pos hk]; exact (e hk).symm
    · rw [if_neg hk]
      unfold zHc
      rw [if_pos (by omega), if_neg hk]
  by_cases h5 : i = 164
  · subst h5
    have e := zHc_r (f := f) (t := 159) (s := 138) (j := 5) (k := k) (by omega) (by omega)
    simp only [zi_ne, zi_at, zr_ne, zr_at, zj_ne, zj_at, ↓reduceIte, Nat.reduceEqDiff, not_false_eq_true, eq_self, nI_1, zcpy]
    by_cases hk : k < 12
    · rw [if_pos hk]; exact (e hk).symm
    · rw [if_neg hk]
      unfold zHc
      rw [if_pos (by omega), if_neg hk]
  by_cases h6 : i = 165
  · subst h6
    have e := zHc_r (f := f) (t := 159) (s := 138) (j := 6) (k := k) (by omega) (by omega)
    simp only [zi_ne, zi_at, zr_ne, zr_at, zj_ne, zj_at, ↓reduceIte, Nat.reduceEqDiff, not_false_eq_true, eq_self, nI_1, zcpy]
    by_cases hk : k < 12
    · rw [if_pos hk]; exact (e hk).symm
    · rw [if_neg hk]
      unfold zHc
      rw [if_pos (by omega), if_neg hk]
  by_cases h7 : i = 166
  · subst h7
    have e := zHc_r (f := f) (t := 159) (s := 138) (j := 7) (k := k) (by omega) (by omega)
    simp only [zi_ne, zi_at, zr_ne, zr_at, zj_ne, zj_at, ↓reduceIte, Nat.reduceEqDiff, not_false_eq_true, eq_self, nI_1, zcpy]
    by_cases hk : k < 12
    · rw [if_pos hk]; exact (e hk).symm
    · rw [if_neg hk]
      unfold zHc
      rw [if_pos (by omega), if_neg hk]
  by_cases h8 : i = 167
  · subst h8
    have e := zHc_r (f := f) (t := 159) (s := 138) (j := 8) (k := k) (by omega) (by omega)
    simp only [zi_ne, zi_at, zr_ne, zr_at, zj_ne, zj_at, ↓reduceIte, Nat.reduceEqDiff, not_false_eq_true, eq_self, nI_1, zcpy]
    by_cases hk : k < 12
    · rw [if_pos hk]; exact (e hk).symm
    · rw [if_neg hk]
      unfold zHc
      rw [if_pos (by omega), if_neg hk]
  by_cases h0 : i = 159
  · subst h0
    simp only [zi_at, zi_ne, zr_ne, Nat.reduceEqDiff, not_false_eq_true]
    by_cases hk : 8 ≤ k ∧ k < 12
    · rw [zHc_o hk]
      have h4 : k = 8 ∨ k = 9 ∨ k = 10 ∨ k = 11 := by omega
      rcases h4 with rfl | rfl | rfl | rfl <;> rfl
    · rw [zHc_on hk, if_neg (by omega), if_neg (by omega), if_neg (by omega), if_neg (by omega)]
  rw [zHc_ne (by omega)]
  simp only [zi_ne h0, zr_ne h1, zr_ne h2, zr_ne h3, zr_ne h4, zr_ne h5, zr_ne h6, zr_ne h7, zr_ne h8]
theorem q21_159_138 {X : Nat × (Nat → Int32)} {d : Nat} {f : Nat → Nat → Int32} {g : Nat → Nat → Int64} {K : (Nat → Nat → Int32) → (Nat → Nat → Int64) → Prop} : zCpv X (d + 1) 21 [.ref 159, .ref 138] (zs f g) K = K (zHc f 159 138) (zuL g 159 12 (g 138 12)) := by
  refine zCpv_eq (fun K hK => e21_159_138 ?_)
  simp only [true_or, or_true, false_or, or_false, or_self, and_self, true_and, and_true, not_true_eq_false, not_false_eq_true, ↓reduceIte, eq_self, zq_01, zq_10, zq_m0, zq_m1, zq_0m, zq_1m, zq_2, zq_6, zq_8, zq_10z, zq_12, zq_1000, Int32.reduceLT, Int32.reduceLE, Int32.reduceToInt, Int32.reduceToNatClampNeg, Int32.reduceOfNat, Int.reduceLT, Int.reduceLE, Int.reduceEq, Nat.reduceLeDiff, Nat.reduceEqDiff, zl_2, zl_8, zl_12, zl_50, zl_132, zl_133, zl_134, zl_999, zl_10000, Nat.reduceAdd]
  rw [zHc_159_138]
  exact hK
/-- n numbers copied, from place p of row S to place o of row D -/
def zCz (f : Nat → Nat → Int32) (D o S p n : Nat) : Nat → Nat → Int32 := fun a j => if a = D ∧ o ≤ j ∧ j < o + n then f S (p + (j - o)) else f a j
theorem zCz_0 {f : Nat → Nat → Int32} {D o S p : Nat} : zCz f D o S p 0 = f := by
  funext a j
  unfold zCz
  rw [if_neg (by omega)]
theorem zCz_step {f : Nat → Nat → Int32} {D o S p i : Nat} (hr : ¬ (S = D ∧ o ≤ p + i ∧ p + i < o + i)) : zuI (zCz f D o S p i) D (o + i) (zCz f D o S p i S (p + i)) = zCz f D o S p (i + 1) := by
  funext a j
  have e : zCz f D o S p i S (p + i) = f S (p + i) := by
    unfold zCz
    rw [if_neg hr]
  rw [e]
  unfold zuI zCz
  by_cases ha : a = D
  · subst ha
    rw [if_pos rfl]
    by_cases hj : j = o + i
    · subst hj
      rw [if_pos rfl, if_pos (by omega)]
      congr 1
      omega
    · rw [if_neg hj]
      by_cases h2 : o ≤ j ∧ j < o + i
      · rw [if_pos ⟨rfl, h2⟩, if_pos (by omega)]
      · rw [if_neg (by omega), if_neg (by omega)]
  · rw [if_neg ha, if_neg (by omega), if_neg (by omega)]
theorem zCz_ne {f : Nat → Nat → Int32} {D o S p n a : Nat} (h : ¬ a = D) : zCz f D o S p n a = f a := by
  funext j
  unfold zCz
  rw [if_neg (by omega)]
theorem zCz_at {f : Nat → Nat → Int32} {D o S p n j : Nat} : zCz f D o S p n D j = if o ≤ j ∧ j < o + n then f S (p + (j - o)) else f D j := by
  unfold zCz
  by_cases h : o ≤ j ∧ j < o + n
  · rw [if_pos h, if_pos ⟨rfl, h⟩]
  · rw [if_neg h, if_neg (by omega)]
theorem l245 {X : Nat × (Nat → Int32)} {d : Nat} {f : Nat → Nat → Int32} {g : Nat → Nat → Int64} {K : (Nat → Nat → Int32) → (Nat → Nat → Int64) → Prop} (hK : K (zuI (zCz f 181 0 179 0 76) 178 5 1) g) : ∀ m i, i + m = 76 → zWp X (d + 0) zm245 2 [.ref 178, .int (nI i)] [] (zs (zCz f 181 0 179 0 i) g) (zQv K) := by
  intro m
  induction m with
  | zero =>
    intro i hi
    have ei : i = 76 := by omega
    subst ei
    apply s245_2_178
    rw [if_pos (show (76 : Int32) ≤ nI 76 from by decide)]
    simp only [true_or, or_true, false_or, or_false, or_self, and_self, true_and, and_true, not_true_eq_false, not_false_eq_true, ↓reduceIte, eq_self, zq_01, zq_10, zq_m0, zq_m1, zq_0m, zq_1m, zq_2, zq_6, zq_8, zq_10z, zq_12, zq_1000, Int32.reduceLT, Int32.reduceLE, Int32.reduceToInt, Int32.reduceToNatClampNeg, Int32.reduceOfNat, Int.reduceLT, Int.reduceLE, Int.reduceEq, Nat.reduceLeDiff, Nat.reduceEqDiff, zl_2, zl_8, zl_12, zl_50, zl_132, zl_133, zl_134, zl_999, zl_10000]
    exact hK
  | succ m ih =>
    intro i hi
    apply s245_2_178
    rw [if_neg (show ¬ (76 : Int32) ≤ nI i from nI_ge (b := 76) (by omega) (by omega))]
    simp only [if_neg (nI_in' (c := i) (N := 76) (by omega) (by omega)), nI_cl (show i ≤ 100000 by omega), nI_1]
    have e := zCz_step (f := f) (D := 181) (o := 0) (S := 179) (p := 0) (i := i) (by omega)
    rw [Nat.zero_add] at e
    rw [e]
    exact ih (i + 1) (by omega)
theorem q245 {X : Nat × (Nat → Int32)} {d : Nat} {f : Nat → Nat → Int32} {g : Nat → Nat → Int64} {K : (Nat → Nat → Int32) → (Nat → Nat → Int64) → Prop} : zCpv X (d + 1) 245 [.ref 178] (zs f g) K = K (zuI (zCz f 181 0 179 0 76) 178 5 1) g := zCpv_eq (fun K hK => e245_178 (by
  have z := l245 (X := X) (d := d) hK 76 0 (by omega)
  rw [zCz_0] at z
  exact z))
theorem l247 {X : Nat × (Nat → Int32)} {d : Nat} {f : Nat → Nat → Int32} {g : Nat → Nat → Int64} {K : (Nat → Nat → Int32) → (Nat → Nat → Int64) → Prop} (hK : K (zuI (zCz f 179 0 181 0 76) 178 5 0) g) : ∀ m i, i + m = 76 → zWp X (d + 0) zm247 2 [.ref 178, .int (nI i)] [] (zs (zCz f 179 0 181 0 i) g) (zQv K) := by
  intro m
  induction m with
  | zero =>
    intro i hi
    have ei : i = 76 := by omega
    subst ei
    apply s247_2_178
    rw [if_pos (show (76 : Int32) ≤ nI 76 from by decide)]
    simp only [true_or, or_true, false_or, or_false, or_self, and_self, true_and, and_true, not_true_eq_false, not_false_eq_true, ↓reduceIte, eq_self, zq_01, zq_10, zq_m0, zq_m1, zq_0m, zq_1m, zq_2, zq_6, zq_8, zq_10z, zq_12, zq_1000, Int32.reduceLT, Int32.reduceLE, Int32.reduceToInt, Int32.reduceToNatClampNeg, Int32.reduceOfNat, Int.reduceLT, Int.reduceLE, Int.reduceEq, Nat.reduceLeDiff, Nat.reduceEqDiff, zl_2, zl_8, zl_12, zl_50, zl_132, zl_133, zl_134, zl_999, zl_10000]
    exact hK
  | succ m ih =>
    intro i hi
    apply s247_2_178
    rw [if_neg (show ¬ (76 : Int32) ≤ nI i from nI_ge (b := 76) (by omega) (by omega))]
    simp only [if_neg (nI_in' (c := i) (N := 76) (by omega) (by omega)), nI_cl (show i ≤ 100000 by omega), nI_1]
    have e := zCz_step (f := f) (D := 179) (o := 0) (S := 181) (p := 0) (i := i) (by omega)
    rw [Nat.zero_add] at e
    rw [e]
    exact ih (i + 1) (by omega)
theorem q247 {X : Nat × (Nat → Int32)} {d : Nat} {f : Nat → Nat → Int32} {g : Nat → Nat → Int64} {K : (Nat → Nat → Int32) → (Nat → Nat → Int64) → Prop} : zCpv X (d + 1) 247 [.ref 178] (zs f g) K = K (zuI (zCz f 179 0 181 0 76) 178 5 0) g := zCpv_eq (fun K hK => e247_178 (by
  have z := l247 (X := X) (d := d) hK 76 0 (by omega)
  rw [zCz_0] at z
  exact z))
theorem l213 {X : Nat × (Nat → Int32)} {d : Nat} {f : Nat → Nat → Int32} {g : Nat → Nat → Int64} {K : (Nat → Nat → Int32) → (Nat → Nat → Int64) → Prop} (hK : K (zCz f 182 0 179 0 76) g) : ∀ m i, i + m = 76 → zWp X (d + 0) zm213 2 [.ref 178, .int (nI i)] [] (zs (zCz f 182 0 179 0 i) g) (zQv K) := by
  intro m
  induction m with
  | zero =>
    intro i hi
    have ei : i = 76 := by omega
    subst ei
    apply s213_2_178
    rw [if_pos (show (76 : Int32) ≤ nI 76 from by decide)]
    exact hK
  | succ m ih =>
    intro i hi
    apply s213_2_178
    rw [if_neg (show ¬ (76 : Int32) ≤ nI i from nI_ge (b := 76) (by omega) (by omega))]
    simp only [if_neg (nI_in' (c := i) (N := 76) (by omega) (by omega)), nI_cl (show i ≤ 100000 by omega), nI_1]
    have e := zCz_step (f := f) (D := 182) (o := 0) (S := 179) (p := 0) (i := i) (by omega)
    rw [Nat.zero_add] at e
    rw [e]
    exact ih (i + 1) (by omega)
theorem q213 {X : Nat × (Nat → Int32)} {d : Nat} {f : Nat → Nat → Int32} {g : Nat → Nat → Int64} {K : (Nat → Nat → Int32) → (Nat → Nat → Int64) → Prop} : zCpv X (d + 1) 213 [.ref 178] (zs f g) K = K (zCz f 182 0 179 0 76) g := zCpv_eq (fun K hK => e213_178 (by
  have z := l213 (X := X) (d := d) hK 76 0 (by omega)
  rw [zCz_0] at z
  exact z))

/-! what is kept ahead, and undone -/
section ZKA
variable {X : Nat × (Nat → Int32)} {d : Nat} {f : Nat → Nat → Int32} {g : Nat → Nat → Int64} {K : (Nat → Nat → Int32) → (Nat → Nat → Int64) → Prop}
theorem nI_m76 {s : Nat} : (76 : Int32) * nI s = nI (76 * s) := pk_mul 76 s
theorem nI_a76 {s : Nat} : nI s + (76 : Int32) = nI (76 + s) := by
  have := nI_add s 76
  rw [Nat.add_comm s 76] at this
  exact this
theorem l210b {s : Nat} (hs : s ≤ 5) (h : f 178 3 = nI s) (hK : K (zuI (zCz f 180 (76 * s) 179 0 76) 178 3 (nI (s + 1))) g) : ∀ m i, i + m = 76 → zWp X (d + 0) zm210 55 [.ref 178, .int (nI i)] [] (zs (zCz f 180 (76 * s) 179 0 i) g) (zQv K) := by
  intro m
  induction m with
  | zero =>
    intro i hi
    have ei : i = 76 := by omega
    subst ei
    apply s210_55_178
    rw [if_pos (show (76 : Int32) ≤ nI 76 from by decide), zCz_ne (by omega), h, nI_1]
    exact hK
  | succ m ih =>
    intro i hi
    apply s210_55_178
    rw [if_neg (show ¬ (76 : Int32) ≤ nI i from nI_ge (b := 76) (by omega) (by omega))]
    rw [zCz_ne (a := 178) (by omega), h, zmO.2, nI_m76, nI_add, nI_cl (k := i) (by omega), nI_cl (k := 76 * s + i) (by omega), if_neg (nI_in' (by omega) (by omega)), if_neg (nI_in' (by omega) (by omega)), nI_1]
    have e := zCz_step (f := f) (D := 180) (o := 76 * s) (S := 179) (p := 0) (i := i) (by omega)
    rw [Nat.zero_add] at e
    rw [e]
    exact ih (i + 1) (by omega)
theorem l210a (h : f 178 3 = nI 5) (hK : zWp X (d + 0) zm210 55 [.ref 178, .int 0] [] (zs (zCz f 180 0 180 76 380) g) (zQv K)) : ∀ m i, i + m = 380 → zWp X (d + 0) zm210 21 [.ref 178, .int (nI i)] [] (zs (zCz f 180 0 180 76 i) g) (zQv K) := by
  intro m
  induction m with
  | zero =>
    intro i hi
    have ei : i = 380 := by omega
    subst ei
    apply s210_21_178
    rw [zCz_ne (a := 178) (by omega), h, zmO.2, nI_m76, if_pos (nI_le (by omega) (by omega))]
    exact hK
  | succ m ih =>
    intro i hi
    apply s210_21_178
    rw [zCz_ne (a := 178) (by omega), h, zmO.2, nI_m76, if_neg (nI_ge (by omega) (by omega)), nI_a76, nI_cl (k := i) (by omega), nI_cl (k := 76 + i) (by omega), if_neg (nI_in' (by omega) (by omega)), if_neg (nI_in' (by omega) (by omega)), nI_1]
    have e := zCz_step (f := f) (D := 180) (o := 0) (S := 180) (p := 76) (i := i) (by omega)
    rw [Nat.zero_add] at e
    rw [e]
    exact ih (i + 1) (by omega)
/-- the reference's rows after one more is kept -/
def zKr (f : Nat → Nat → Int32) (s : Nat) : Nat → Nat → Int32 := if s = 6 then zuI (zCz (zCz (zuI f 178 3 (nI 5)) 180 0 180 76 380) 180 380 179 0 76) 178 3 (nI 6) else zuI (zCz f 180 (76 * s) 179 0 76) 178 3 (nI (s + 1))
theorem q210 {s : Nat} (hs : s ≤ 6) (h : f 178 3 = nI s) : zCpv X (d + 1) 210 [.ref 178] (zs f g) K = K (zKr f s) g := by
  refine zCpv_eq (fun K hK => e210_178 ?_)
  unfold zKr at hK
  rw [h]
  by_cases h6 : s = 6
  · subst h6
    rw [if_pos rfl] at hK
    rw [if_pos (show nI 6 = (6 : Int32) from rfl), zsO.2, show nI 6 - 1 = nI 5 from nI_pred 5]
    have z := l210a (X := X) (d := d) (f := zuI f 178 3 (nI 5)) (g := g) (K := K) (by simp only [zi_ne, zi_at, zr_ne, zr_at, zj_ne, zj_at, ↓reduceIte, Nat.reduceEqDiff, not_false_eq_true, eq_self, nI_1]) (by
      have z2 := l210b (X := X) (d := d) (f := zCz (zuI f 178 3 (nI 5)) 180 0 180 76 380) (g := g) (K := K) (s := 5) (by omega) (by rw [zCz_ne (by omega)]; simp only [zi_ne, zi_at, zr_ne, zr_at, zj_ne, zj_at, ↓reduceIte, Nat.reduceEqDiff, not_false_eq_true, eq_self, nI_1]) hK 76 0 (by omega)
      rw [zCz_0] at z2
      exact z2) 380 0 (by omega)
    rw [zCz_0] at z
    exact z
  · rw [if_neg h6] at hK
    rw [if_neg (show ¬ nI s = (6 : Int32) from nI_neq (c := 6) (by omega) (by omega) h6)]
    have z2 := l210b (X := X) (d := d) (f := f) (g := g) (K := K) (s := s) (by omega) h hK 76 0 (by omega)
    rw [zCz_0] at z2
    exact z2
theorem zKr_ne {s i : Nat} (h1 : ¬ i = 180) (h2 : ¬ i = 178) : zKr f s i = f i := by
  unfold zKr
  split
  · rw [zi_ne h2, zCz_ne h1, zCz_ne h1, zi_ne h2]
  · rw [zi_ne h2, zCz_ne h1]
theorem zKr_o {s k : Nat} (h : ¬ k = 3) : zKr f s 178 k = f 178 k := by
  unfold zKr
  split
  · rw [zi_at, if_neg h, zCz_ne (by omega), zCz_ne (by omega), zi_at, if_neg h]
  · rw [zi_at, if_neg h, zCz_ne (by omega)]
theorem zKr_3 {s : Nat} (hs : s ≤ 6) : zKr f s 178 3 = nI (min 6 (s + 1)) := by
  unfold zKr
  split
  · next e => subst e; rw [zi_at, if_pos rfl]; rfl
  · rw [zi_at, if_pos rfl]; congr 1; omega
/-- the newest row, and an older one -/
theorem zKr_new {s k : Nat} (hs : s ≤ 6) (hk : k < 76) : zKr f s 180 (76 * (min 6 (s + 1) - 1) + k) = f 179 k := by
  unfold zKr
  split
  · next e =>
    subst e
    rw [zi_ne (by omega), zCz_at, if_pos (by omega), zCz_ne (by omega), zi_ne (by omega)]
    exact congrArg (f 179) (by omega)
  · rw [zi_ne (by omega), zCz_at, if_pos (by omega)]
    exact congrArg (f 179) (by omega)
theorem zKr_old {s j k : Nat} (hs : s ≤ 6) (hk : k < 76) (hj : j < s) (hj2 : j + 1 < min 6 (s + 1)) : zKr f s 180 (76 * (min 6 (s + 1) - 1 - (j + 1)) + k) = f 180 (76 * (s - 1 - j) + k) := by
  unfold zKr
  split
  · next e =>
    subst e
    rw [zi_ne (by omega), zCz_at, if_neg (by omega), zCz_at, if_pos (by omega), zi_ne (by omega)]
    exact congrArg (f 180) (by omega)
  · rw [zi_ne (by omega), zCz_at, if_neg (by omega)]
    exact congrArg (f 180) (by omega)
theorem zmn6 {s : Nat} (hs : s ≤ 6) : zmn 6 (nI s + 1) = nI (min 6 (s + 1)) := by
  have h : s = 0 ∨ s = 1 ∨ s = 2 ∨ s = 3 ∨ s = 4 ∨ s = 5 ∨ s = 6 := by omega
  rcases h with rfl | rfl | rfl | rfl | rfl | rfl | rfl <;> decide
theorem zrem6 {p : Nat} (hp : p < 6) : nI p + 1 - (nI p + 1) / 6 * 6 = nI ((p + 1) % 6) := by
  rw [nI_1]
  exact pk_rem (d := 6) (by omega) (by omega) (by omega)
theorem zrem5 {p : Nat} (hp : p < 6) : nI p + 6 - 1 - (nI p + 6 - 1) / 6 * 6 = nI ((p + 5) % 6) := by
  have e : nI p + 6 - 1 = nI (p + 5) := by
    have := nI_add p 6
    have e1 : nI p + (6 : Int32) = nI (p + 5 + 1) := this
    rw [e1, nI_pred]
  rw [e]
  exact pk_rem (d := 6) (by omega) (by omega) (by omega)
/-- the class's past after one more is kept -/
theorem q45 {s p : Nat} (hs : s ≤ 6) (hp : p < 6) (h3 : f 81 3 = nI s) (h2 : f 81 2 = nI p) : zCpv X (d + 2) 45 [.ref 81, .ref 2, .ref 11] (zs f g) K = K (zuI (zuI (zuI (zHc f (84 + 9 * p) 2) 83 p (f 11 1)) 81 2 (nI ((p + 1) % 6))) 81 3 (nI (min 6 (s + 1)))) (zuL g (84 + 9 * p) 12 (g 2 12)) := by
  refine zCpv_eq (fun K hK => e45_81_2_11 ?_)
  rw [h2, if_neg (nI_in hp (by omega)), nI_cl (by omega)]
  have h : p = 0 ∨ p = 1 ∨ p = 2 ∨ p = 3 ∨ p = 4 ∨ p = 5 := by omega
  rcases h with rfl | rfl | rfl | rfl | rfl | rfl
  · apply s45_9_81_2_11_84
    simp only [q21_84_2, q288, zHc_ne (f := f) (t := 84) (s := 2) (i := 81) (by omega), zHc_ne (f := f) (t := 84) (s := 2) (i := 11) (by omega), h2, zrO.2, zrem6 hp, zi_ne, zi_at, h3, Nat.reduceEqDiff, not_false_eq_true, ↓reduceIte, zmn6 hs, zq_6]
    rw [if_neg (nI_in hp (by omega)), nI_cl (by omega)]
    exact hK
  · apply s45_9_81_2_11_93
    simp only [q21_93_2, q288, zHc_ne (f := f) (t := 93) (s := 2) (i := 81) (by omega), zHc_ne (f := f) (t := 93) (s := 2) (i := 11) (by omega), h2, zrO.2, zrem6 hp, zi_ne, zi_at, h3, Nat.reduceEqDiff, not_false_eq_true, ↓reduceIte, zmn6 hs, zq_6]
    rw [if_neg (nI_in hp (by omega)), nI_cl (by omega)]
    exact hK
  · apply s45_9_81_2_11_102
    simp only [q21_102_2, q288, zHc_ne (f := f) (t := 102) (s := 2) (i := 81) (by omega), zHc_ne (f := f) (t := 102) (s := 2) (i := 11) (by omega), h2, zrO.2, zrem6 hp, zi_ne, zi_at, h3, Nat.reduceEqDiff, not_false_eq_true, ↓reduceIte, zmn6 hs, zq_6]
    rw [if_neg (nI_in hp (by omega)), nI_cl (by omega)]
    exact hK
  · apply s45_9_81_2_11_111
    simp only [q21_111_2, q288, zHc_ne (f := f) (t := 111) (s := 2) (i := 81) (by omega), zHc_ne (f := f) (t := 111) (s := 2) (i := 11) (by omega), h2, zrO.2, zrem6 hp, zi_ne, zi_at, h3, Nat.reduceEqDiff, not_false_eq_true, ↓reduceIte, zmn6 hs, zq_6]
    rw [if_neg (nI_in hp (by omega)), nI_cl (by omega)]
    exact hK
  · apply s45_9_81_2_11_120
    simp only [q21_120_2, q288, zHc_ne (f := f) (t := 120) (s := 2) (i := 81) (by omega), zHc_ne (f := f) (t := 120) (s := 2) (i := 11) (by omega), h2, zrO.2, zrem6 hp, zi_ne, zi_at, h3, Nat.reduceEqDiff, not_false_eq_true, ↓reduceIte, zmn6 hs, zq_6]
    rw [if_neg (nI_in hp (by omega)), nI_cl (by omega)]
    exact hK
  · apply s45_9_81_2_11_129
    simp only [q21_129_2, q288, zHc_ne (f := f) (t := 129) (s := 2) (i := 81) (by omega), zHc_ne (f := f) (t := 129) (s := 2) (i := 11) (by omega), h2, zrO.2, zrem6 hp, zi_ne, zi_at, h3, Nat.reduceEqDiff, not_false_eq_true, ↓reduceIte, zmn6 hs, zq_6]
    rw [if_neg (nI_in hp (by omega)), nI_cl (by omega)]
    exact hK
variable {K' : Int32 → (Nat → Nat → Int32) → (Nat → Nat → Int64) → Prop}
/-- the class's past, undone -/
theorem q46 {s p : Nat} (hs : s < 6) (hp : p < 6) (h3 : f 81 3 = nI (s + 1)) (h2 : f 81 2 = nI p) : zCpi X (d + 2) 46 [.ref 81, .ref 2, .ref 11] (zs f g) K' = K' 1 (zuI (zHc (zuI (zuI f 81 2 (nI ((p + 5) % 6))) 81 3 (nI s)) 2 (84 + 9 * ((p + 5) % 6))) 11 1 (f 83 ((p + 5) % 6))) (zuL g 2 12 (g (84 + 9 * ((p + 5) % 6)) 12)) := by
  refine zCpi_eq (fun K hK => e46_81_2_11 ?_)
  have hq : (p + 5) % 6 < 6 := Nat.mod_lt _ (by omega)
  rw [h3, if_neg (show ¬ nI (s + 1) = (0 : Int32) from nI_neq (c := 0) (by omega) (by omega) (by omega)), if_neg (by decide)]
  simp only [zsO.2, zrO.2, h2, zrem5 hp, nI_pred]
  rw [if_neg (nI_in hq (by omega)), nI_cl (by omega)]
  generalize (p + 5) % 6 = q at *
  have h : q = 0 ∨ q = 1 ∨ q = 2 ∨ q = 3 ∨ q = 4 ∨ q = 5 := by omega
  rcases h with rfl | rfl | rfl | rfl | rfl | rfl
  · apply s46_45_81_2_11_84
    simp only [q21_2_84, zHc_ne (t := 2) (s := 84) (i := 81) (by omega), zHc_ne (t := 2) (s := 84) (i := 83) (by omega), zi_ne, zi_at, Nat.reduceEqDiff, not_false_eq_true, ↓reduceIte, true_or, or_true, false_or, or_false, or_self, and_self, true_and, and_true, not_true_eq_false, not_false_eq_true, ↓reduceIte, eq_self, zq_01, zq_10, zq_m0, zq_m1, zq_0m, zq_1m, zq_2, zq_6, zq_8, zq_10z, zq_12, zq_1000, Int32.reduceLT, Int32.reduceLE, Int32.reduceToInt, Int32.reduceToNatClampNeg, Int32.reduceOfNat, Int.reduceLT, Int.reduceLE, Int.reduceEq, Nat.reduceLeDiff, Nat.reduceEqDiff, zl_2, zl_8, zl_12, zl_50, zl_132, zl_133, zl_134, zl_999, zl_10000]
    rw [if_neg (nI_in hq (by omega)), nI_cl (by omega)]
    exact hK
  · apply s46_45_81_2_11_93
    simp only [q21_2_93, zHc_ne (t := 2) (s := 93) (i := 81) (by omega), zHc_ne (t := 2) (s := 93) (i := 83) (by omega), zi_ne, zi_at, Nat.reduceEqDiff, not_false_eq_true, ↓reduceIte, true_or, or_true, false_or, or_false, or_self, and_self, true_and, and_true, not_true_eq_false, not_false_eq_true, ↓reduceIte, eq_self, zq_01, zq_10, zq_m0, zq_m1, zq_0m, zq_1m, zq_2, zq_6, zq_8, zq_10z, zq_12, zq_1000, Int32.reduceLT, Int32.reduceLE, Int32.reduceToInt, Int32.reduceToNatClampNeg, Int32.reduceOfNat, Int.reduceLT, Int.reduceLE, Int.reduceEq, Nat.reduceLeDiff, Nat.reduceEqDiff, zl_2, zl_8, zl_12, zl_50, zl_132, zl_133, zl_134, zl_999, zl_10000]
    rw [if_neg (nI_in hq (by omega)), nI_cl (by omega)]
    exact hK
  · apply s46_45_81_2_11_102
    simp only [q21_2_102, zHc_ne (t := 2) (s := 102) (i := 81) (by omega), zHc_ne (t := 2) (s := 102) (i := 83) (by omega), zi_ne, zi_at, Nat.reduceEqDiff, not_false_eq_true, ↓reduceIte, true_or, or_true, false_or, or_false, or_self, and_self, true_and, and_true, not_true_eq_false, not_false_eq_true, ↓reduceIte, eq_self, zq_01, zq_10, zq_m0, zq_m1, zq_0m, zq_1m, zq_2, zq_6, zq_8, zq_10z, zq_12, zq_1000, Int32.reduceLT, Int32.reduceLE, Int32.reduceToInt, Int32.reduceToNatClampNeg, Int32.reduceOfNat, Int.reduceLT, Int.reduceLE, Int.reduceEq, Nat.reduceLeDiff, Nat.reduceEqDiff, zl_2, zl_8, zl_12, zl_50, zl_132, zl_133, zl_134, zl_999, zl_10000]
    rw [if_neg (nI_in hq (by omega)), nI_cl (by omega)]
    exact hK
  · apply s46_45_81_2_11_111
    simp only [q21_2_111, zHc_ne (t := 2) (s := 111) (i := 81) (by omega), zHc_ne (t := 2) (s := 111) (i := 83) (by omega), zi_ne, zi_at, Nat.reduceEqDiff, not_false_eq_true, ↓reduceIte, true_or, or_true, false_or, or_false, or_self, and_self, true_and, and_true, not_true_eq_false, not_false_eq_true, ↓reduceIte, eq_self, zq_01, zq_10, zq_m0, zq_m1, zq_0m, zq_1m, zq_2, zq_6, zq_8, zq_10z, zq_12, zq_1000, Int32.reduceLT, Int32.reduceLE, Int32.reduceToInt, Int32.reduceToNatClampNeg, Int32.reduceOfNat, Int.reduceLT, Int.reduceLE, Int.reduceEq, Nat.reduceLeDiff, Nat.reduceEqDiff, zl_2, zl_8, zl_12, zl_50, zl_132, zl_133, zl_134, zl_999, zl_10000]
    rw [if_neg (nI_in hq (by omega)), nI_cl (by omega)]
    exact hK
  · apply s46_45_81_2_11_120
    simp only [q21_2_120, zHc_ne (t := 2) (s := 120) (i := 81) (by omega), zHc_ne (t := 2) (s := 120) (i := 83) (by omega), zi_ne, zi_at, Nat.reduceEqDiff, not_false_eq_true, ↓reduceIte, true_or, or_true, false_or, or_false, or_self, and_self, true_and, and_true, not_true_eq_false, not_false_eq_true, ↓reduceIte, eq_self, zq_01, zq_10, zq_m0, zq_m1, zq_0m, zq_1m, zq_2, zq_6, zq_8, zq_10z, zq_12, zq_1000, Int32.reduceLT, Int32.reduceLE, Int32.reduceToInt, Int32.reduceToNatClampNeg, Int32.reduceOfNat, Int.reduceLT, Int.reduceLE, Int.reduceEq, Nat.reduceLeDiff, Nat.reduceEqDiff, zl_2, zl_8, zl_12, zl_50, zl_132, zl_133, zl_134, zl_999, zl_10000]
    rw [if_neg (nI_in hq (by omega)), nI_cl (by omega)]
    exact hK
  · apply s46_45_81_2_11_129
    simp only [q21_2_129, zHc_ne (t := 2) (s := 129) (i := 81) (by omega), zHc_ne (t := 2) (s := 129) (i := 83) (by omega), zi_ne, zi_at, Nat.reduceEqDiff, not_false_eq_true, ↓reduceIte, true_or, or_true, false_or, or_false, or_self, and_self, true_and, and_true, not_true_eq_false, not_false_eq_true, ↓reduceIte, eq_self, zq_01, zq_10, zq_m0, zq_m1, zq_0m, zq_1m, zq_2, zq_6, zq_8, zq_10z, zq_12, zq_1000, Int32.reduceLT, Int32.reduceLE, Int32.reduceToInt, Int32.reduceToNatClampNeg, Int32.reduceOfNat, Int.reduceLT, Int.reduceLE, Int.reduceEq, Nat.reduceLeDiff, Nat.reduceEqDiff, zl_2, zl_8, zl_12, zl_50, zl_132, zl_133, zl_134, zl_999, zl_10000]
    rw [if_neg (nI_in hq (by omega)), nI_cl (by omega)]
    exact hK
theorem q46_0 (h3 : f 81 3 = 0) : zCpi X (d + 2) 46 [.ref 81, .ref 2, .ref 11] (zs f g) K' = K' 0 f g := by
  refine zCpi_eq (fun K hK => e46_81_2_11 ?_)
  rw [h3, if_pos rfl]
  simp only [true_or, or_true, false_or, or_false, or_self, and_self, true_and, and_true, not_true_eq_false, not_false_eq_true, ↓reduceIte, eq_self, zq_01, zq_10, zq_m0, zq_m1, zq_0m, zq_1m, zq_2, zq_6, zq_8, zq_10z, zq_12, zq_1000, Int32.reduceLT, Int32.reduceLE, Int32.reduceToInt, Int32.reduceToNatClampNeg, Int32.reduceOfNat, Int.reduceLT, Int.reduceLE, Int.reduceEq, Nat.reduceLeDiff, Nat.reduceEqDiff, zl_2, zl_8, zl_12, zl_50, zl_132, zl_133, zl_134, zl_999, zl_10000]
  exact hK
theorem l162 {s : Nat} (hs : s < 6) (h : f 178 3 = nI s) (hK : K' 1 (zCz f 179 0 180 (76 * s) 76) g) : ∀ m i, i + m = 76 → zWp X (d + 0) zm162 26 [.ref 178, .int (nI i)] [] (zs (zCz f 179 0 180 (76 * s) i) g) (zQi K') := by
  intro m
  induction m with
  | zero =>
    intro i hi
    have ei : i = 76 := by omega
    subst ei
    apply s162_26_178
    rw [if_pos (show (76 : Int32) ≤ nI 76 from by decide)]
    simp only [true_or, or_true, false_or, or_false, or_self, and_self, true_and, and_true, not_true_eq_false, not_false_eq_true, ↓reduceIte, eq_self, zq_01, zq_10, zq_m0, zq_m1, zq_0m, zq_1m, zq_2, zq_6, zq_8, zq_10z, zq_12, zq_1000, Int32.reduceLT, Int32.reduceLE, Int32.reduceToInt, Int32.reduceToNatClampNeg, Int32.reduceOfNat, Int.reduceLT, Int.reduceLE, Int.reduceEq, Nat.reduceLeDiff, Nat.reduceEqDiff, zl_2, zl_8, zl_12, zl_50, zl_132, zl_133, zl_134, zl_999, zl_10000]
    exact hK
  | succ m ih =>
    intro i hi
    apply s162_26_178
    rw [if_neg (show ¬ (76 : Int32) ≤ nI i from nI_ge (b := 76) (by omega) (by omega))]
    rw [zCz_ne (a := 178) (by omega), h, zmO.2, nI_m76, nI_add, nI_cl (k := i) (by omega), nI_cl (k := 76 * s + i) (by omega), if_neg (nI_in' (by omega) (by omega)), if_neg (nI_in' (by omega) (by omega)), nI_1]
    have e := zCz_step (f := f) (D := 179) (o := 0) (S := 180) (p := 76 * s) (i := i) (by omega)
    rw [Nat.zero_add] at e
    rw [e]
    exact ih (i + 1) (by omega)
end ZKA
/-- rows may differ behind the twelfth place -/
theorem zHal_rows {c st un bt pl : Int32} {L E Xs Ys N O A W w er L2 E2 Xs2 Ys2 N2 O2 A2 W2 w2 : Nat → Int32} {B : Int} (z1 : ∀ j, j < 12 → L2 j = L j) (z2 : ∀ j, j < 12 → E2 j = E j) (z3 : ∀ j, j < 12 → Xs2 j = Xs j) (z4 : ∀ j, j < 12 → Ys2 j = Ys j) (z5 : ∀ j, j < 12 → N2 j = N j) (z6 : ∀ j, j < 12 → O2 j = O j) (z7 : ∀ j, j < 12 → A2 j = A j) (z8 : ∀ j, j < 12 → W2 j = W j) (z0 : ∀ j, j < 76 → w2 j = w j)
    (h : zHal c st un bt L E Xs Ys N O A W w pl er B) : zHal c st un bt L2 E2 Xs2 Ys2 N2 O2 A2 W2 w2 pl er B := by
  obtain ⟨n, hn, h1, h2, h3, h4, h5, h6, h7, h8⟩ := h
  refine ⟨n, hn, h1, h2, by rw [z0 1 (by omega)]; exact h3, by rw [z0 3 (by omega)]; exact h4, by rw [z0 0 (by omega)]; exact h5, by rw [z0 0 (by omega)]; exact h6, by rw [z0 0 (by omega)]; exact h7, fun p hp => ?_⟩
  rw [z0 (4 + p) (by omega), z0 (16 + p) (by omega), z0 (28 + p) (by omega), z0 (40 + p) (by omega), z0 (52 + p) (by omega), z0 (64 + p) (by omega), z0 0 (by omega), z1 p (by omega), z2 p (by omega), z3 p (by omega), z4 p (by omega), z5 p (by omega), z6 p (by omega), z7 p (by omega), z8 p (by omega)]
  exact h8 p hp
/-- one more is kept on both sides; what stands behind it may change but for the past -/
theorem zPas_keep {f f2 : Nat → Nat → Int32} {g g2 : Nat → Nat → Int64} {r r2 : Nat → Nat → Int32} {s p b : Nat} (h3 : f 81 3 = nI s) (h2 : f 81 2 = nI p) (hs : s ≤ 6) (hp : p < 6) (hb : f 11 1 = nI b) (hb2 : r 179 2 = nI b)
    (hal : zHal (f 2 8) (f 2 9) (f 2 10) (f 2 11) (f 3) (f 4) (f 5) (f 6) (f 7) (f 8) (f 9) (f 10) (r 179) (r 178 7) (r 183) 9999)
    (k1 : ∀ i, 81 ≤ i → i ≤ 137 → f2 i = zuI (zuI (zuI (zHc f (84 + 9 * p) 2) 83 p (f 11 1)) 81 2 (nI ((p + 1) % 6))) 81 3 (nI (min 6 (s + 1))) i) (k2 : ∀ i, (i = 2 ∨ (84 ≤ i ∧ i ≤ 129)) → g2 i 12 = zuL g (84 + 9 * p) 12 (g 2 12) i 12) (k3 : f2 11 1 = f 11 1)
    (k4 : r2 180 = zKr r s 180) (k5 : r2 178 3 = zKr r s 178 3) (k6 : r2 178 7 = r 178 7) (k7 : r2 183 = r 183) (h : zPas f g r) : zPas f2 g2 r2 := by
  obtain ⟨s', p', mm, a1, a2, a3, a4, a5, a6, a6', a7⟩ := h
  have es : s' = s := (nI_eq (by omega) (by omega)).mp (a3.symm.trans h3)
  have ep : p' = p := (nI_eq (by omega) (by omega)).mp (a5.symm.trans h2)
  subst es
  subst ep
  have hq : (p' + 1) % 6 < 6 := Nat.mod_lt _ (by omega)
  refine ⟨min 6 (s' + 1), (p' + 1) % 6, fun j => mm (j - 1), by omega, hq, ?_, ?_, ?_, by rw [k3]; exact a6, a6', fun j hj => ?_⟩
  · rw [k1 81 (by omega) (by omega), zi_at, if_pos rfl]
  · rw [k5, zKr_3 a1]
  · rw [k1 81 (by omega) (by omega), zi_at, if_neg (by omega), zi_at, if_pos rfl]
  · have fr : ∀ i, 84 ≤ i → i ≤ 137 → f2 i = zHc f (84 + 9 * p') 2 i := fun i i1 i2 => by
      rw [k1 i (by omega) (by omega), zi_ne (by omega), zi_ne (by omega), zi_ne (by omega)]
    have f83 : ∀ q, f2 83 q = if q = p' then f 11 1 else f 83 q := fun q => by
      rw [k1 83 (by omega) (by omega), zi_ne (by omega), zi_ne (by omega), zi_at, zHc_ne (by omega)]
    cases j with
    | zero =>
      refine ⟨p', by omega, ?_, ?_, ?_, ?_, Nat.le_refl _⟩
      · have e : ∀ j, 0 < j → j ≤ 8 → ∀ k, k < 12 → f2 (84 + 9 * p' + j) k = f (2 + j) k := fun j j0 j8 k hk => by
          rw [fr _ (by omega) (by omega), zHc_r j0 j8 hk]
        have eo : ∀ k, 8 ≤ k ∧ k < 12 → f2 (84 + 9 * p') k = f 2 k := fun k hk => by
          rw [fr _ (by omega) (by omega), zHc_o hk]
        rw [eo 8 (by omega), eo 9 (by omega), eo 10 (by omega), eo 11 (by omega), k6, k7]
        refine zHal_rows ?_ ?_ ?_ ?_ ?_ ?_ ?_ ?_ ?_ hal
        · intro k hk; rw [show 85 + 9 * p' = 84 + 9 * p' + 1 by omega]; exact e 1 (by omega) (by omega) k hk
        · intro k hk; rw [show 86 + 9 * p' = 84 + 9 * p' + 2 by omega]; exact e 2 (by omega) (by omega) k hk
        · intro k hk; rw [show 87 + 9 * p' = 84 + 9 * p' + 3 by omega]; exact e 3 (by omega) (by omega) k hk
        · intro k hk; rw [show 88 + 9 * p' = 84 + 9 * p' + 4 by omega]; exact e 4 (by omega) (by omega) k hk
        · intro k hk; rw [show 89 + 9 * p' = 84 + 9 * p' + 5 by omega]; exact e 5 (by omega) (by omega) k hk
        · intro k hk; rw [show 90 + 9 * p' = 84 + 9 * p' + 6 by omega]; exact e 6 (by omega) (by omega) k hk
        · intro k hk; rw [show 91 + 9 * p' = 84 + 9 * p' + 7 by omega]; exact e 7 (by omega) (by omega) k hk
        · intro k hk; rw [show 92 + 9 * p' = 84 + 9 * p' + 8 by omega]; exact e 8 (by omega) (by omega) k hk
        · intro k hk
          rw [k4]
          exact zKr_new a1 hk
      · rw [k2 _ (Or.inr ⟨by omega, by omega⟩), k2 2 (Or.inl rfl), zj_at, if_pos rfl, zj_ne (by omega)]
      · rw [f83, if_pos rfl]; exact a6
      · rw [k4, Nat.sub_zero, zKr_new a1 (by omega), hb2, ← hb]; exact a6
    | succ j =>
      obtain ⟨q, b1, b2, b3, b4, b5, b6⟩ := a7 j (by omega)
      have hq6 : q < 6 := by rw [b1]; exact Nat.mod_lt _ (by omega)
      have hqp : ¬ q = p' := by omega
      have e : ∀ j, j ≤ 8 → f2 (84 + j + 9 * q) = f (84 + j + 9 * q) := fun j j8 => by
        rw [fr _ (by omega) (by omega), zHc_ne (by omega)]
      refine ⟨q, by omega, ?_, ?_, ?_, ?_, b6⟩
      · have w := e 0 (by omega)
        have w1 := e 1 (by omega)
        have w2 := e 2 (by omega)
        have w3 := e 3 (by omega)
        have w4 := e 4 (by omega)
        have w5 := e 5 (by omega)
        have w6 := e 6 (by omega)
        have w7 := e 7 (by omega)
        have w8 := e 8 (by omega)
        simp only [Nat.reduceAdd] at w w1 w2 w3 w4 w5 w6 w7 w8
        rw [w, w1, w2, w3, w4, w5, w6, w7, w8, k6, k7]
        refine zHal_rows (fun _ _ => rfl) (fun _ _ => rfl) (fun _ _ => rfl) (fun _ _ => rfl) (fun _ _ => rfl) (fun _ _ => rfl) (fun _ _ => rfl) (fun _ _ => rfl) (fun k hk => ?_) b2
        rw [k4]
        exact zKr_old a1 hk (by omega) hj
      · rw [k2 _ (Or.inr ⟨by omega, by omega⟩), k2 2 (Or.inl rfl), zj_ne (by omega), zj_ne (by omega)]
        exact b3
      · rw [f83, if_neg hqp]; exact b4
      · rw [k4, zKr_old a1 (by omega) (by omega) hj]; exact b5

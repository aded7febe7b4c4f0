/-! canon, twice -/
set_option maxHeartbeats 1000000 in
theorem op_canon {X : Nat × (Nat → Int32)} {d : Nat} {b t w : Int32} : zOp X (d + 4) 148 262 [.int b, .int t, .int w] := by
  intro fc fr gc gr hR
  obtain ⟨⟨c1, c2, c3, c4, c5, c6, c7, c8, c9, c10, c11⟩, c12, c13, c14, c15, c16⟩ := hR
  obtain ⟨k, hk, e1, e2, e3⟩ := id c1
  have hW : zwn (fr 204) k t = zwn (fc 28) k t := funext (fun d => zwn_congr (fun j hj => (e3 j hj).1.symm))
  have e2' : zuI fr 178 0 0 178 46 = nI k := by simp only [zi_ne, zi_at, zr_ne, zr_at, zj_ne, zj_at, ↓reduceIte, Nat.reduceEqDiff, not_false_eq_true, eq_self, nI_1]; exact e2
  have r204 : zuI fr 178 0 0 204 = fr 204 := by simp only [zi_ne, zi_at, zr_ne, zr_at, zj_ne, zj_at, ↓reduceIte, Nat.reduceEqDiff, not_false_eq_true, eq_self, nI_1]
  have hR0 : zRel fc gc (zuI fr 178 0 0) := by
    refine ⟨⟨?_, ?_, ?_, ?_, ?_, ?_, ?_, ?_, ?_, ?_, ?_⟩, ?_, ?_, ?_, ?_, ?_⟩
    all_goals try (first | assumption | (simp only [zi_ne, zi_at, zr_ne, zr_at, zj_ne, zj_at, ↓reduceIte, Nat.reduceEqDiff, not_false_eq_true, eq_self, nI_1]; assumption) | (simp only [zi_ne, zi_at, zr_ne, zr_at, zj_ne, zj_at, ↓reduceIte, Nat.reduceEqDiff, not_false_eq_true, eq_self, nI_1]; exact zRow_nil) | (exact zPas_frame (fun i _ _ => by first | rfl | (repeat rw [zi_ne (by omega)])) (by first | rfl | (simp only [zi_ne, zi_at, zr_ne, zr_at, zj_ne, zj_at, ↓reduceIte, Nat.reduceEqDiff, not_false_eq_true, eq_self, nI_1])) (fun i _ _ => rfl) rfl (by first | rfl | (simp only [zi_ne, zi_at, zr_ne, zr_at, zj_ne, zj_at, ↓reduceIte, Nat.reduceEqDiff, not_false_eq_true, eq_self, nI_1])) (by first | rfl | (simp only [zi_ne, zi_at, zr_ne, zr_at, zj_ne, zj_at, ↓reduceIte, Nat.reduceEqDiff, not_false_eq_true, eq_self, nI_1])) (by first | rfl | (simp only [zi_ne, zi_at, zr_ne, zr_at, zj_ne, zj_at, ↓reduceIte, Nat.reduceEqDiff, not_false_eq_true, eq_self, nI_1])) (by first | rfl | (simp only [zi_ne, zi_at, zr_ne, zr_at, zj_ne, zj_at, ↓reduceIte, Nat.reduceEqDiff, not_false_eq_true, eq_self, nI_1])) c14) | (exact zIma_frame (by first | rfl | (simp only [zi_ne, zi_at, zr_ne, zr_at, zj_ne, zj_at, ↓reduceIte, Nat.reduceEqDiff, not_false_eq_true, eq_self, nI_1])) (fun i _ _ => by first | rfl | (repeat rw [zi_ne (by omega)])) rfl (by first | rfl | (simp only [zi_ne, zi_at, zr_ne, zr_at, zj_ne, zj_at, ↓reduceIte, Nat.reduceEqDiff, not_false_eq_true, eq_self, nI_1])) (by first | rfl | (simp only [zi_ne, zi_at, zr_ne, zr_at, zj_ne, zj_at, ↓reduceIte, Nat.reduceEqDiff, not_false_eq_true, eq_self, nI_1])) c15))
  by_cases ht : -12 ≤ t.toInt ∧ t.toInt ≤ 12
  · by_cases hw2 : w = 2
    · subst hw2
      apply e148_0
      simp only [q124, ht, q102 hk e1, true_or, or_true, false_or, or_false, or_self, and_self, true_and, and_true, not_true_eq_false, not_false_eq_true, ↓reduceIte, eq_self, zq_01, zq_10, zq_m0, zq_m1, zq_0m, zq_1m, zq_2, zq_6, zq_8, zq_10z, zq_12, zq_1000, Int32.reduceLT, Int32.reduceLE, Int32.reduceToInt, Int32.reduceToNatClampNeg, Int32.reduceOfNat, Int.reduceLT, Int.reduceLE, Int.reduceEq, Nat.reduceLeDiff, Nat.reduceEqDiff, zl_2, zl_8, zl_12, zl_50, zl_132, zl_133, zl_134, zl_999, zl_10000, zb_0, zb_1, zsO.2, zmO.2, znO.2, zdO.2, zrO.2, zhO.2, zgO.2, zuO.2, zlH.2, zlU.2, zlS.2]
      apply e262_178
      simp only [q165, ht, zq_20, zq_21, show (0 : Int32).toInt ≤ (2 : Int32).toInt from by decide, show (2 : Int32).toInt ≤ (2 : Int32).toInt from by decide, show (2 : Int32) ≤ 2 from by decide, true_or, or_true, false_or, or_false, or_self, and_self, true_and, and_true, not_true_eq_false, not_false_eq_true, ↓reduceIte, eq_self, zq_01, zq_10, zq_m0, zq_m1, zq_0m, zq_1m, zq_2, zq_6, zq_8, zq_10z, zq_12, zq_1000, Int32.reduceLT, Int32.reduceLE, Int32.reduceToInt, Int32.reduceToNatClampNeg, Int32.reduceOfNat, Int.reduceLT, Int.reduceLE, Int.reduceEq, Nat.reduceLeDiff, Nat.reduceEqDiff, zl_2, zl_8, zl_12, zl_50, zl_132, zl_133, zl_134, zl_999, zl_10000, zb_0, zb_1, zsO.2, zmO.2, znO.2, zdO.2, zrO.2, zhO.2, zgO.2, zuO.2, zlH.2, zlU.2, zlS.2]
      refine l262 (d := d + 1) hk e2' ?_
      rw [r204, hW]
      exact ⟨rfl, hR0⟩
    · by_cases hb : 1 ≤ b.toInt ∧ b.toInt ≤ 11
      · obtain ⟨bb, hbb, eb⟩ := zixn (x := b) (n := 12) (by omega) (by omega) (by omega)
        subst eb
        have hb1 : 1 ≤ bb := by rw [nI_ti (by omega)] at hb; omega
        by_cases hw0 : w = 0
        · subst hw0
          apply e148_0
          simp only [q124, q287, ht, hb, e1, zq_02, show (0 : Int32).toInt ≤ (1 : Int32).toInt from by decide, true_or, or_true, false_or, or_false, or_self, and_self, true_and, and_true, not_true_eq_false, not_false_eq_true, ↓reduceIte, eq_self, zq_01, zq_10, zq_m0, zq_m1, zq_0m, zq_1m, zq_2, zq_6, zq_8, zq_10z, zq_12, zq_1000, Int32.reduceLT, Int32.reduceLE, Int32.reduceToInt, Int32.reduceToNatClampNeg, Int32.reduceOfNat, Int.reduceLT, Int.reduceLE, Int.reduceEq, Nat.reduceLeDiff, Nat.reduceEqDiff, zl_2, zl_8, zl_12, zl_50, zl_132, zl_133, zl_134, zl_999, zl_10000, zb_0, zb_1, zsO.2, zmO.2, znO.2, zdO.2, zrO.2, zhO.2, zgO.2, zuO.2, zlH.2, zlU.2, zlS.2]
          apply e262_178
          simp only [q165, q223, ht, hb, e2', true_or, or_true, false_or, or_false, or_self, and_self, true_and, and_true, not_true_eq_false, not_false_eq_true, ↓reduceIte, eq_self, zq_01, zq_10, zq_m0, zq_m1, zq_0m, zq_1m, zq_2, zq_6, zq_8, zq_10z, zq_12, zq_1000, Int32.reduceLT, Int32.reduceLE, Int32.reduceToInt, Int32.reduceToNatClampNeg, Int32.reduceOfNat, Int.reduceLT, Int.reduceLE, Int.reduceEq, Nat.reduceLeDiff, Nat.reduceEqDiff, zl_2, zl_8, zl_12, zl_50, zl_132, zl_133, zl_134, zl_999, zl_10000, zb_0, zb_1, zsO.2, zmO.2, znO.2, zdO.2, zrO.2, zhO.2, zgO.2, zuO.2, zlH.2, zlU.2, zlS.2]
          exact ⟨rfl, hR0⟩
        · by_cases hw1 : w = 1
          · subst hw1
            apply e148_0
            simp only [q124, q103 hk e1 hb1 (show bb ≤ 12 by omega), ht, hb, e1, zq_12', true_or, or_true, false_or, or_false, or_self, and_self, true_and, and_true, not_true_eq_false, not_false_eq_true, ↓reduceIte, eq_self, zq_01, zq_10, zq_m0, zq_m1, zq_0m, zq_1m, zq_2, zq_6, zq_8, zq_10z, zq_12, zq_1000, Int32.reduceLT, Int32.reduceLE, Int32.reduceToInt, Int32.reduceToNatClampNeg, Int32.reduceOfNat, Int.reduceLT, Int.reduceLE, Int.reduceEq, Nat.reduceLeDiff, Nat.reduceEqDiff, zl_2, zl_8, zl_12, zl_50, zl_132, zl_133, zl_134, zl_999, zl_10000, zb_0, zb_1, zsO.2, zmO.2, znO.2, zdO.2, zrO.2, zhO.2, zgO.2, zuO.2, zlH.2, zlU.2, zlS.2]
            apply e262_178
            simp only [q165, q263 (f := zuI fr 178 0 0) hk e2' hb1 (show bb ≤ 12 by omega), ht, hb, e2', true_or, or_true, false_or, or_false, or_self, and_self, true_and, and_true, not_true_eq_false, not_false_eq_true, ↓reduceIte, eq_self, zq_01, zq_10, zq_m0, zq_m1, zq_0m, zq_1m, zq_2, zq_6, zq_8, zq_10z, zq_12, zq_1000, Int32.reduceLT, Int32.reduceLE, Int32.reduceToInt, Int32.reduceToNatClampNeg, Int32.reduceOfNat, Int.reduceLT, Int.reduceLE, Int.reduceEq, Nat.reduceLeDiff, Nat.reduceEqDiff, zl_2, zl_8, zl_12, zl_50, zl_132, zl_133, zl_134, zl_999, zl_10000, zb_0, zb_1, zsO.2, zmO.2, znO.2, zdO.2, zrO.2, zhO.2, zgO.2, zuO.2, zlH.2, zlU.2, zlS.2]
            rw [r204, hW]
            exact ⟨rfl, hR0⟩
          · have hn : ¬ (0 ≤ w.toInt ∧ w.toInt ≤ 2) := by
              have n0 : ¬ w.toInt = 0 := fun z => hw0 (zeqI.mpr z)
              have n1 : ¬ w.toInt = 1 := fun z => hw1 (zeqI.mpr z)
              have n2 : ¬ w.toInt = 2 := fun z => hw2 (zeqI.mpr z)
              omega
            have hn1 : ¬ (0 ≤ w.toInt ∧ w.toInt ≤ 1) := by omega
            apply e148_0
            simp only [q124, ht, hb, hw2, hn1, true_or, or_true, false_or, or_false, or_self, and_self, true_and, and_true, not_true_eq_false, not_false_eq_true, ↓reduceIte, eq_self, zq_01, zq_10, zq_m0, zq_m1, zq_0m, zq_1m, zq_2, zq_6, zq_8, zq_10z, zq_12, zq_1000, Int32.reduceLT, Int32.reduceLE, Int32.reduceToInt, Int32.reduceToNatClampNeg, Int32.reduceOfNat, Int.reduceLT, Int.reduceLE, Int.reduceEq, Nat.reduceLeDiff, Nat.reduceEqDiff, zl_2, zl_8, zl_12, zl_50, zl_132, zl_133, zl_134, zl_999, zl_10000, zb_0, zb_1, zsO.2, zmO.2, znO.2, zdO.2, zrO.2, zhO.2, zgO.2, zuO.2, zlH.2, zlU.2, zlS.2]
            apply e262_178
            simp only [q165, ht, hn, true_or, or_true, false_or, or_false, or_self, and_self, true_and, and_true, not_true_eq_false, not_false_eq_true, ↓reduceIte, eq_self, zq_01, zq_10, zq_m0, zq_m1, zq_0m, zq_1m, zq_2, zq_6, zq_8, zq_10z, zq_12, zq_1000, Int32.reduceLT, Int32.reduceLE, Int32.reduceToInt, Int32.reduceToNatClampNeg, Int32.reduceOfNat, Int.reduceLT, Int.reduceLE, Int.reduceEq, Nat.reduceLeDiff, Nat.reduceEqDiff, zl_2, zl_8, zl_12, zl_50, zl_132, zl_133, zl_134, zl_999, zl_10000, zb_0, zb_1, zsO.2, zmO.2, znO.2, zdO.2, zrO.2, zhO.2, zgO.2, zuO.2, zlH.2, zlU.2, zlS.2]
            exact ⟨rfl, hR0⟩
      · apply e148_0
        simp only [q124, ht, hb, hw2, true_or, or_true, false_or, or_false, or_self, and_self, true_and, and_true, not_true_eq_false, not_false_eq_true, ↓reduceIte, eq_self, zq_01, zq_10, zq_m0, zq_m1, zq_0m, zq_1m, zq_2, zq_6, zq_8, zq_10z, zq_12, zq_1000, Int32.reduceLT, Int32.reduceLE, Int32.reduceToInt, Int32.reduceToNatClampNeg, Int32.reduceOfNat, Int.reduceLT, Int.reduceLE, Int.reduceEq, Nat.reduceLeDiff, Nat.reduceEqDiff, zl_2, zl_8, zl_12, zl_50, zl_132, zl_133, zl_134, zl_999, zl_10000, zb_0, zb_1, zsO.2, zmO.2, znO.2, zdO.2, zrO.2, zhO.2, zgO.2, zuO.2, zlH.2, zlU.2, zlS.2]
        apply e262_178
        simp only [q165, ht, hb, true_or, or_true, false_or, or_false, or_self, and_self, true_and, and_true, not_true_eq_false, not_false_eq_true, ↓reduceIte, eq_self, zq_01, zq_10, zq_m0, zq_m1, zq_0m, zq_1m, zq_2, zq_6, zq_8, zq_10z, zq_12, zq_1000, Int32.reduceLT, Int32.reduceLE, Int32.reduceToInt, Int32.reduceToNatClampNeg, Int32.reduceOfNat, Int.reduceLT, Int.reduceLE, Int.reduceEq, Nat.reduceLeDiff, Nat.reduceEqDiff, zl_2, zl_8, zl_12, zl_50, zl_132, zl_133, zl_134, zl_999, zl_10000, zb_0, zb_1, zsO.2, zmO.2, znO.2, zdO.2, zrO.2, zhO.2, zgO.2, zuO.2, zlH.2, zlU.2, zlS.2]
        split
        · exact ⟨rfl, hR0⟩
        · next hw =>
          have hw' : ¬ (2 : Int32) ≤ w := by
            have n2 : ¬ w.toInt = 2 := fun z => hw2 (zeqI.mpr z)
            simp only [Int32.lt_iff_toInt_lt, Int32.le_iff_toInt_le, Int32.reduceToInt]
            omega
          rw [if_neg hw']
          exact ⟨rfl, hR0⟩
  · apply e148_0
    simp only [q124, ht, true_or, or_true, false_or, or_false, or_self, and_self, true_and, and_true, not_true_eq_false, not_false_eq_true, ↓reduceIte, eq_self, zq_01, zq_10, zq_m0, zq_m1, zq_0m, zq_1m, zq_2, zq_6, zq_8, zq_10z, zq_12, zq_1000, Int32.reduceLT, Int32.reduceLE, Int32.reduceToInt, Int32.reduceToNatClampNeg, Int32.reduceOfNat, Int.reduceLT, Int.reduceLE, Int.reduceEq, Nat.reduceLeDiff, Nat.reduceEqDiff, zl_2, zl_8, zl_12, zl_50, zl_132, zl_133, zl_134, zl_999, zl_10000, zb_0, zb_1, zsO.2, zmO.2, znO.2, zdO.2, zrO.2, zhO.2, zgO.2, zuO.2, zlH.2, zlU.2, zlS.2]
    apply e262_178
    simp only [q165, ht, true_or, or_true, false_or, or_false, or_self, and_self, true_and, and_true, not_true_eq_false, not_false_eq_true, ↓reduceIte, eq_self, zq_01, zq_10, zq_m0, zq_m1, zq_0m, zq_1m, zq_2, zq_6, zq_8, zq_10z, zq_12, zq_1000, Int32.reduceLT, Int32.reduceLE, Int32.reduceToInt, Int32.reduceToNatClampNeg, Int32.reduceOfNat, Int.reduceLT, Int.reduceLE, Int.reduceEq, Nat.reduceLeDiff, Nat.reduceEqDiff, zl_2, zl_8, zl_12, zl_50, zl_132, zl_133, zl_134, zl_999, zl_10000, zb_0, zb_1, zsO.2, zmO.2, znO.2, zdO.2, zrO.2, zhO.2, zgO.2, zuO.2, zlH.2, zlU.2, zlS.2]
    exact ⟨rfl, hR0⟩
/-- how long two places are alike -/
def zak (a : Nat → Int32) (i j : Nat) : Nat → Nat → Nat
  | 0, n => n
  | m + 1, n => if a (i + n) = a (j + n) then zak a i j m (n + 1) else n
theorem zak_le {a : Nat → Int32} {i j : Nat} : ∀ m n, zak a i j m n ≤ n + m
  | 0, n => Nat.le_refl _
  | m + 1, n => by
    unfold zak
    split
    · have := zak_le (a := a) (i := i) (j := j) m (n + 1)
      omega
    · omega
theorem zak_congr {a b : Nat → Int32} {i j k : Nat} (h : ∀ p, p < k → a p = b p) (hij : i < j) : ∀ m n, j + n + m ≤ k → zak a i j m n = zak b i j m n
  | 0, n, _ => rfl
  | m + 1, n, hk => by
    unfold zak
    rw [h (i + n) (by omega), h (j + n) (by omega), zak_congr h hij m (n + 1) (by omega)]
section ZTW
variable {X : Nat × (Nat → Int32)} {d : Nat} {f : Nat → Nat → Int32} {g : Nat → Nat → Int64} {K : Int32 → (Nat → Nat → Int32) → (Nat → Nat → Int64) → Prop}
theorem q105 {k i j : Nat} (hk : k ≤ 12) (h : f 27 1 = nI k) (hij : i < j) (hj : j < k) : zCpi X (d + 2) 105 [.ref 27, .int (nI i), .int (nI j)] (zs f g) K = K (nI (zak (f 28) i j (k - j) 0)) f g := by
  refine zCpi_eq (fun K hK => e105_27 ?_)
  have z : ∀ m n, j + n + m = k → K (nI (zak (f 28) i j m n)) f g → zWp X (d + 1) zm105 2 [.ref 27, .int (nI i), .int (nI j), .int (nI n)] [] (zs f g) (zQi K) := by
    intro m
    induction m with
    | zero =>
      intro n hn hK
      apply s105_2_27
      rw [h, nI_add, if_pos (nI_le (by omega) (by omega))]
      exact hK
    | succ m ih =>
      intro n hn hK
      unfold zak at hK
      apply s105_2_27
      rw [h, nI_add, nI_add, if_neg (nI_ge (by omega) (by omega)), q68_27 hk h (by omega), q68_27 hk h (by omega), nI_1]
      split
      · next e => rw [if_pos e] at hK; exact ih (n + 1) (by omega) hK
      · next e => rw [if_neg e] at hK; exact hK
  exact z (k - j) 0 (by omega) hK
theorem q265 {k i j : Nat} (hk : k ≤ 12) (h : f 178 46 = nI k) (hij : i < j) (hj : j < k) : zCpi X (d + 1) 265 [.ref 178, .int (nI i), .int (nI j)] (zs f g) K = K (nI (zak (f 204) i j (k - j) 0)) f g := by
  refine zCpi_eq (fun K hK => e265_178 ?_)
  have z : ∀ m n, j + n + m = k → K (nI (zak (f 204) i j m n)) f g → zWp X (d + 0) zm265 2 [.ref 178, .int (nI i), .int (nI j), .int (nI n)] [] (zs f g) (zQi K) := by
    intro m
    induction m with
    | zero =>
      intro n hn hK
      apply s265_2_178
      rw [h, nI_add, if_pos (nI_le (by omega) (by omega))]
      exact hK
    | succ m ih =>
      intro n hn hK
      unfold zak at hK
      apply s265_2_178
      rw [h, nI_add, nI_add, if_neg (nI_ge (by omega) (by omega)), if_neg (nI_in (by omega) (by omega)), if_neg (nI_in (by omega) (by omega)), nI_cl (k := i + n) (by omega), nI_cl (k := j + n) (by omega), nI_1]
      split
      · next e => rw [if_pos e] at hK; exact ih (n + 1) (by omega) hK
      · next e => rw [if_neg e] at hK; exact hK
  exact z (k - j) 0 (by omega) hK
/-- the longest so far, and where -/
def ztw (a : Nat → Int32) (k i j : Nat) (s : Nat × Int32) : Nat × Int32 := if s.1 < zak a i j (k - j) 0 then (zak a i j (k - j) 0, nI i) else s
def zto (a : Nat → Int32) (k i : Nat) (s : Nat × Int32) : Nat × Int32 := zfold (ztw a k i) (k - (i + 1)) (i + 1) s
theorem ztw_le {a : Nat → Int32} {k i j : Nat} {s : Nat × Int32} (h : s.1 ≤ 12) (hk : k ≤ 12) : (ztw a k i j s).1 ≤ 12 := by
  unfold ztw
  have := zak_le (a := a) (i := i) (j := j) (k - j) 0
  split
  · simp only; omega
  · exact h
theorem l104 {k : Nat} {w : Int32} (hk : k ≤ 12) (h : f 27 1 = nI k) (hK : K (if w = 0 then nI (zfold (zto (f 28) k) k 0 (0, -1)).1 else (zfold (zto (f 28) k) k 0 (0, -1)).2) f g) : zWp X (d + 2) zm104 7 [.ref 27, .int w, .int 0, .int (-1), .int 0, .null, .null] [] (zs f g) (zQi K) := by
  refine zloop (st := zto (f 28) k) (W := fun i s => s.1 ≤ 12 → zWp X (d + 2) zm104 7 [.ref 27, .int w, .int (nI s.1), .int s.2, .int (nI i), .null, .null] [] (zs f g) (zQi K)) (E := fun s => K (if w = 0 then nI s.1 else s.2) f g) k ?_ ?_ k 0 (0, -1) (by omega) hK (by simp)
  · intro s hs _
    apply s104_7_27
    rw [h, if_pos (nI_le (by omega) (by omega))]
    split
    · next e => rw [if_pos e] at hs; exact hs
    · next e => rw [if_neg e] at hs; exact hs
  · intro i s hi hs hs12
    apply s104_7_27
    rw [h, if_neg (nI_ge (by omega) (by omega)), nI_1]
    refine zloop (st := ztw (f 28) k i) (W := fun j s => s.1 ≤ 12 → i < j → zWp X (d + 2) zm104 22 [.ref 27, .int w, .int (nI s.1), .int s.2, .int (nI i), .int (nI j), .null] [] (zs f g) (zQi K)) (E := fun s => s.1 ≤ 12 → zWp X (d + 2) zm104 7 [.ref 27, .int w, .int (nI s.1), .int s.2, .int (nI (i + 1)), .null, .null] [] (zs f g) (zQi K)) k ?_ ?_ (k - (i + 1)) (i + 1) s (by omega) hs hs12 (by omega)
    · intro s hs h12 _
      apply s104_22_27
      rw [h, if_pos (nI_le (by omega) (by omega)), nI_1]
      exact hs h12
    · intro j s hj hs h12 hij
      have hle := zak_le (a := f 28) (i := i) (j := j) (k - j) 0
      have h12' := ztw_le (a := f 28) (i := i) (j := j) h12 hk
      apply s104_22_27
      rw [h, if_neg (nI_ge (by omega) (by omega)), q105 hk h hij hj, nI_1]
      have hs' := hs h12' (by omega)
      unfold ztw at hs'
      by_cases hl : s.1 < zak (f 28) i j (k - j) 0
      · rw [if_pos hl] at hs'
        rw [if_neg (nI_ge hl (by omega))]
        exact hs'
      · rw [if_neg hl] at hs'
        rw [if_pos (nI_le (by omega) (by omega))]
        exact hs'
theorem l264 {k : Nat} {w : Int32} (hk : k ≤ 12) (h : f 178 46 = nI k) (hK : K (if w = 0 then nI (zfold (zto (f 204) k) k 0 (0, -1)).1 else (zfold (zto (f 204) k) k 0 (0, -1)).2) f g) : zWp X (d + 1) zm264 24 [.ref 178, .int w, .int 0, .int (-1), .int 0, .null] [] (zs f g) (zQi K) := by
  refine zloop (st := zto (f 204) k) (W := fun i s => s.1 ≤ 12 → zWp X (d + 1) zm264 24 [.ref 178, .int w, .int (nI s.1), .int s.2, .int (nI i), .null] [] (zs f g) (zQi K)) (E := fun s => K (if w = 0 then nI s.1 else s.2) f g) k ?_ ?_ k 0 (0, -1) (by omega) hK (by simp)
  · intro s hs _
    apply s264_24_178
    rw [h, if_pos (nI_le (by omega) (by omega))]
    split
    · next e => rw [if_pos e] at hs; exact hs
    · next e => rw [if_neg e] at hs; exact hs
  · intro i s hi hs hs12
    apply s264_24_178
    rw [h, if_neg (nI_ge (by omega) (by omega)), nI_1]
    refine zloop (st := ztw (f 204) k i) (W := fun j s => s.1 ≤ 12 → i < j → zWp X (d + 1) zm264 39 [.ref 178, .int w, .int (nI s.1), .int s.2, .int (nI i), .int (nI j)] [] (zs f g) (zQi K)) (E := fun s => s.1 ≤ 12 → zWp X (d + 1) zm264 24 [.ref 178, .int w, .int (nI s.1), .int s.2, .int (nI (i + 1)), .null] [] (zs f g) (zQi K)) k ?_ ?_ (k - (i + 1)) (i + 1) s (by omega) hs hs12 (by omega)
    · intro s hs h12 _
      apply s264_39_178
      rw [h, if_pos (nI_le (by omega) (by omega)), nI_1]
      exact hs h12
    · intro j s hj hs h12 hij
      have hle := zak_le (a := f 204) (i := i) (j := j) (k - j) 0
      have h12' := ztw_le (a := f 204) (i := i) (j := j) h12 hk
      apply s264_39_178
      rw [h, if_neg (nI_ge (by omega) (by omega)), q265 hk h hij hj, nI_1]
      have hs' := hs h12' (by omega)
      unfold ztw at hs'
      by_cases hl : s.1 < zak (f 204) i j (k - j) 0
      · rw [if_pos hl] at hs'
        rw [if_pos (nI_lt hl (by omega)), q265 hk h hij hj]
        exact hs'
      · rw [if_neg hl] at hs'
        rw [if_neg (nI_nlt (by omega) (by omega))]
        exact hs'
end ZTW
theorem op_twice {X : Nat × (Nat → Int32)} {d : Nat} {w : Int32} : zOp X (d + 4) 149 264 [.int w] := by
  intro fc fr gc gr hR
  obtain ⟨⟨c1, c2, c3, c4, c5, c6, c7, c8, c9, c10, c11⟩, c12, c13, c14, c15, c16⟩ := hR
  obtain ⟨k, hk, e1, e2, e3⟩ := id c1
  have e2' : zuI fr 178 0 0 178 46 = nI k := by simp only [zi_ne, zi_at, zr_ne, zr_at, zj_ne, zj_at, ↓reduceIte, Nat.reduceEqDiff, not_false_eq_true, eq_self, nI_1]; exact e2
  have r204 : zuI fr 178 0 0 204 = fr 204 := by simp only [zi_ne, zi_at, zr_ne, zr_at, zj_ne, zj_at, ↓reduceIte, Nat.reduceEqDiff, not_false_eq_true, eq_self, nI_1]
  have hR0 : zRel fc gc (zuI fr 178 0 0) := by
    refine ⟨⟨?_, ?_, ?_, ?_, ?_, ?_, ?_, ?_, ?_, ?_, ?_⟩, ?_, ?_, ?_, ?_, ?_⟩
    all_goals try (first | assumption | (simp only [zi_ne, zi_at, zr_ne, zr_at, zj_ne, zj_at, ↓reduceIte, Nat.reduceEqDiff, not_false_eq_true, eq_self, nI_1]; assumption) | (simp only [zi_ne, zi_at, zr_ne, zr_at, zj_ne, zj_at, ↓reduceIte, Nat.reduceEqDiff, not_false_eq_true, eq_self, nI_1]; exact zRow_nil) | (exact zPas_frame (fun i _ _ => by first | rfl | (repeat rw [zi_ne (by omega)])) (by first | rfl | (simp only [zi_ne, zi_at, zr_ne, zr_at, zj_ne, zj_at, ↓reduceIte, Nat.reduceEqDiff, not_false_eq_true, eq_self, nI_1])) (fun i _ _ => rfl) rfl (by first | rfl | (simp only [zi_ne, zi_at, zr_ne, zr_at, zj_ne, zj_at, ↓reduceIte, Nat.reduceEqDiff, not_false_eq_true, eq_self, nI_1])) (by first | rfl | (simp only [zi_ne, zi_at, zr_ne, zr_at, zj_ne, zj_at, ↓reduceIte, Nat.reduceEqDiff, not_false_eq_true, eq_self, nI_1])) (by first | rfl | (simp only [zi_ne, zi_at, zr_ne, zr_at, zj_ne, zj_at, ↓reduceIte, Nat.reduceEqDiff, not_false_eq_true, eq_self, nI_1])) (by first | rfl | (simp only [zi_ne, zi_at, zr_ne, zr_at, zj_ne, zj_at, ↓reduceIte, Nat.reduceEqDiff, not_false_eq_true, eq_self, nI_1])) c14) | (exact zIma_frame (by first | rfl | (simp only [zi_ne, zi_at, zr_ne, zr_at, zj_ne, zj_at, ↓reduceIte, Nat.reduceEqDiff, not_false_eq_true, eq_self, nI_1])) (fun i _ _ => by first | rfl | (repeat rw [zi_ne (by omega)])) rfl (by first | rfl | (simp only [zi_ne, zi_at, zr_ne, zr_at, zj_ne, zj_at, ↓reduceIte, Nat.reduceEqDiff, not_false_eq_true, eq_self, nI_1])) (by first | rfl | (simp only [zi_ne, zi_at, zr_ne, zr_at, zj_ne, zj_at, ↓reduceIte, Nat.reduceEqDiff, not_false_eq_true, eq_self, nI_1])) c15))
  have hW : zfold (zto (fr 204) k) k 0 (0, -1) = zfold (zto (fc 28) k) k 0 (0, -1) := by
    refine zfold_congr _ _ _ (fun i s _ hi => ?_)
    unfold zto
    refine zfold_congr _ _ _ (fun j s h1 h2 => ?_)
    unfold ztw
    rw [zak_congr (b := fc 28) (k := k) (fun p hp => (e3 p hp).1.symm) (by omega) (k - j) 0 (by omega)]
  by_cases hw : 0 ≤ w.toInt ∧ w.toInt ≤ 1
  · have hww : w = 0 ∨ w = 1 := by
      by_cases e : w.toInt = 0
      · exact Or.inl (zeqI.mpr e)
      · exact Or.inr (zeqI.mpr (show w.toInt = 1 by omega))
    rcases hww with rfl | rfl
    · apply e149_0
      simp only [q124, true_or, or_true, false_or, or_false, or_self, and_self, true_and, and_true, not_true_eq_false, not_false_eq_true, ↓reduceIte, eq_self, zq_01, zq_10, zq_m0, zq_m1, zq_0m, zq_1m, zq_2, zq_6, zq_8, zq_10z, zq_12, zq_1000, Int32.reduceLT, Int32.reduceLE, Int32.reduceToInt, Int32.reduceToNatClampNeg, Int32.reduceOfNat, Int.reduceLT, Int.reduceLE, Int.reduceEq, Nat.reduceLeDiff, Nat.reduceEqDiff, zl_2, zl_8, zl_12, zl_50, zl_132, zl_133, zl_134, zl_999, zl_10000, zb_0, zb_1, zsO.2, zmO.2, znO.2, zdO.2, zrO.2, zhO.2, zgO.2, zuO.2, zlH.2, zlU.2, zlS.2]
      apply e104_27
      refine l104 (d := d) hk e1 ?_
      apply e264_178
      simp only [q165, true_or, or_true, false_or, or_false, or_self, and_self, true_and, and_true, not_true_eq_false, not_false_eq_true, ↓reduceIte, eq_self, zq_01, zq_10, zq_m0, zq_m1, zq_0m, zq_1m, zq_2, zq_6, zq_8, zq_10z, zq_12, zq_1000, Int32.reduceLT, Int32.reduceLE, Int32.reduceToInt, Int32.reduceToNatClampNeg, Int32.reduceOfNat, Int.reduceLT, Int.reduceLE, Int.reduceEq, Nat.reduceLeDiff, Nat.reduceEqDiff, zl_2, zl_8, zl_12, zl_50, zl_132, zl_133, zl_134, zl_999, zl_10000, zb_0, zb_1, zsO.2, zmO.2, znO.2, zdO.2, zrO.2, zhO.2, zgO.2, zuO.2, zlH.2, zlU.2, zlS.2]
      refine l264 (d := d + 2) hk e2' ?_
      rw [r204, hW]
      exact ⟨rfl, hR0⟩
    · apply e149_0
      simp only [q124, true_or, or_true, false_or, or_false, or_self, and_self, true_and, and_true, not_true_eq_false, not_false_eq_true, ↓reduceIte, eq_self, zq_01, zq_10, zq_m0, zq_m1, zq_0m, zq_1m, zq_2, zq_6, zq_8, zq_10z, zq_12, zq_1000, Int32.reduceLT, Int32.reduceLE, Int32.reduceToInt, Int32.reduceToNatClampNeg, Int32.reduceOfNat, Int.reduceLT, Int.reduceLE, Int.reduceEq, Nat.reduceLeDiff, Nat.reduceEqDiff, zl_2, zl_8, zl_12, zl_50, zl_132, zl_133, zl_134, zl_999, zl_10000, zb_0, zb_1, zsO.2, zmO.2, znO.2, zdO.2, zrO.2, zhO.2, zgO.2, zuO.2, zlH.2, zlU.2, zlS.2]
      apply e104_27
      refine l104 (d := d) hk e1 ?_
      apply e264_178
      simp only [q165, true_or, or_true, false_or, or_false, or_self, and_self, true_and, and_true, not_true_eq_false, not_false_eq_true, ↓reduceIte, eq_self, zq_01, zq_10, zq_m0, zq_m1, zq_0m, zq_1m, zq_2, zq_6, zq_8, zq_10z, zq_12, zq_1000, Int32.reduceLT, Int32.reduceLE, Int32.reduceToInt, Int32.reduceToNatClampNeg, Int32.reduceOfNat, Int.reduceLT, Int.reduceLE, Int.reduceEq, Nat.reduceLeDiff, Nat.reduceEqDiff, zl_2, zl_8, zl_12, zl_50, zl_132, zl_133, zl_134, zl_999, zl_10000, zb_0, zb_1, zsO.2, zmO.2, znO.2, zdO.2, zrO.2, zhO.2, zgO.2, zuO.2, zlH.2, zlU.2, zlS.2]
      refine l264 (d := d + 2) hk e2' ?_
      rw [r204, hW]
      exact ⟨rfl, hR0⟩
  · apply e149_0
    simp only [q124, hw, true_or, or_true, false_or, or_false, or_self, and_self, true_and, and_true, not_true_eq_false, not_false_eq_true, ↓reduceIte, eq_self, zq_01, zq_10, zq_m0, zq_m1, zq_0m, zq_1m, zq_2, zq_6, zq_8, zq_10z, zq_12, zq_1000, Int32.reduceLT, Int32.reduceLE, Int32.reduceToInt, Int32.reduceToNatClampNeg, Int32.reduceOfNat, Int.reduceLT, Int.reduceLE, Int.reduceEq, Nat.reduceLeDiff, Nat.reduceEqDiff, zl_2, zl_8, zl_12, zl_50, zl_132, zl_133, zl_134, zl_999, zl_10000, zb_0, zb_1, zsO.2, zmO.2, znO.2, zdO.2, zrO.2, zhO.2, zgO.2, zuO.2, zlH.2, zlU.2, zlS.2]
    apply e264_178
    simp only [q165, hw, true_or, or_true, false_or, or_false, or_self, and_self, true_and, and_true, not_true_eq_false, not_false_eq_true, ↓reduceIte, eq_self, zq_01, zq_10, zq_m0, zq_m1, zq_0m, zq_1m, zq_2, zq_6, zq_8, zq_10z, zq_12, zq_1000, Int32.reduceLT, Int32.reduceLE, Int32.reduceToInt, Int32.reduceToNatClampNeg, Int32.reduceOfNat, Int.reduceLT, Int.reduceLE, Int.reduceEq, Nat.reduceLeDiff, Nat.reduceEqDiff, zl_2, zl_8, zl_12, zl_50, zl_132, zl_133, zl_134, zl_999, zl_10000, zb_0, zb_1, zsO.2, zmO.2, znO.2, zdO.2, zrO.2, zhO.2, zgO.2, zuO.2, zlH.2, zlU.2, zlS.2]
    exact ⟨rfl, hR0⟩

/-! scale, series -/
def zsc (n w k c : Nat) : Nat := if n.testBit k = true then (if n.testBit ((k + 4 - w) % 12) = true then (if n.testBit ((k + 7) % 12) = true then c + 1 else c) else c) else c
theorem zsc_2 : ∀ a, a < 64 → ∀ b, b < 64 → zpc 12 (((64 * a + b) &&& zrt (64 * a + b) 8) &&& zrt (64 * a + b) 5) = zfold (zsc (64 * a + b) 0) 12 0 0 ∧ zpc 12 (((64 * a + b) &&& zrt (64 * a + b) 9) &&& zrt (64 * a + b) 5) = zfold (zsc (64 * a + b) 1) 12 0 0 := by decide +kernel
theorem zsc_n {n : Nat} (h : n < 4096) : zpc 12 ((n &&& zrt n 8) &&& zrt n 5) = zfold (zsc n 0) 12 0 0 ∧ zpc 12 ((n &&& zrt n 9) &&& zrt n 5) = zfold (zsc n 1) 12 0 0 := by
  have := zsc_2 (n / 64) (by omega) (n % 64) (by omega)
  rw [show 64 * (n / 64) + n % 64 = n by omega] at this
  exact this
section ZSC
variable {X : Nat × (Nat → Int32)} {d : Nat} {f : Nat → Nat → Int32} {g : Nat → Nat → Int64} {K : Int32 → (Nat → Nat → Int32) → (Nat → Nat → Int64) → Prop}
theorem nI_r12 {k : Nat} (hk : k ≤ 100000) : nI k - nI k / 12 * 12 = nI (k % 12) := pk_rem (d := 12) (by omega) (by omega) (by omega)
theorem nI_p4 {k : Nat} : nI k + (4 : Int32) = nI (k + 4) := nI_add k 4
theorem nI_p7 {k : Nat} : nI k + (7 : Int32) = nI (k + 7) := nI_add k 7
theorem q115 {n t s : Nat} (hn : n < 4096) (ht : t ≤ 12) (hs : 12 - t = s) : zCpi X (d + 2) 115 [.int (nI n), .int (nI t)] (zs f g) K = K (nI (zpc 12 ((n &&& zrt n s) &&& zrt n 5))) f g := by
  refine zCpi_eq (fun K hK => e115 ?_)
  have h1 : (n &&& zrt n s) &&& zrt n 5 < 4096 := by
    have h1 : (n &&& zrt n s) &&& zrt n 5 ≤ n &&& zrt n s := Nat.and_le_left
    have h2 : n &&& zrt n s ≤ n := Nat.and_le_left
    omega
  rw [zsO.2, nI_12s ht, hs, q98 hn (by omega)]
  have q5 : ∀ {K : Int32 → (Nat → Nat → Int32) → (Nat → Nat → Int64) → Prop}, zCpi X (d + 1) 98 [.int (nI n), .int 5] (zs f g) K = K (nI (zrt n 5)) f g := q98 (t := 5) hn (by omega)
  rw [q5, nx_and, nx_and, q284n h1]
  exact hK
theorem l276 {n w : Nat} (hn : n < 4096) (hw : w ≤ 1) (hK : K (nI (zfold (zsc n w) 12 0 0)) f g) : zWp X (d + 1) zm276 34 [.ref 178, .int (nI n), .int (nI w), .int 0, .int 0] [] (zs f g) (zQi K) := by
  refine zloop (st := zsc n w) (W := fun i c => zWp X (d + 1) zm276 34 [.ref 178, .int (nI n), .int (nI w), .int (nI c), .int (nI i)] [] (zs f g) (zQi K)) (E := fun c => K (nI c) f g) 12 ?_ ?_ 12 0 0 (by omega) hK
  · intro s hs
    apply s276_34_178
    rw [if_pos (show (12 : Int32) ≤ nI 12 from by decide)]
    exact hs
  · intro i s hi hs
    apply s276_34_178
    rw [if_neg (show ¬ (12 : Int32) ≤ nI i from nI_ge (b := 12) (by omega) (by omega))]
    rw [zrO.2, zsO.2, zrO.2, nI_p4, nI_p7, pk_sub (show w ≤ i + 4 by omega), nI_r12 (by omega), nI_r12 (by omega)]
    simp only [q254 (n := n) (j := i) (by omega) (by omega), q254 (n := n) (j := (i + 4 - w) % 12) (by omega) (by omega), q254 (n := n) (j := (i + 7) % 12) (by omega) (by omega), zb_0, zq_12, if_false, nI_1]
    unfold zsc at hs
    by_cases h1 : n.testBit i = true
    · rw [if_pos h1] at hs
      rw [if_neg (fun z => z h1)]
      by_cases h2 : n.testBit ((i + 4 - w) % 12) = true
      · rw [if_pos h2] at hs
        rw [if_neg (fun z => z h2)]
        by_cases h3 : n.testBit ((i + 7) % 12) = true
        · rw [if_pos h3] at hs
          rw [if_neg (fun z => z h3)]
          exact hs
        · rw [if_neg h3] at hs
          rw [if_pos h3]
          exact hs
      · rw [if_neg h2] at hs
        rw [if_pos h2]
        exact hs
    · rw [if_neg h1] at hs
      rw [if_pos h1]
      exact hs
end ZSC
theorem op_scale {X : Nat × (Nat → Int32)} {d : Nat} {a c : Int32} : zOp X (d + 4) 156 276 [.int a, .int c] := by
  intro fc fr gc gr hR
  obtain ⟨⟨c1, c2, c3, c4, c5, c6, c7, c8, c9, c10, c11⟩, c12, c13, c14, c15, c16⟩ := hR
  have hR0 : zRel fc gc (zuI fr 178 0 0) := by
    refine ⟨⟨?_, ?_, ?_, ?_, ?_, ?_, ?_, ?_, ?_, ?_, ?_⟩, ?_, ?_, ?_, ?_, ?_⟩
    all_goals try (first | assumption | (simp only [zi_ne, zi_at, zr_ne, zr_at, zj_ne, zj_at, ↓reduceIte, Nat.reduceEqDiff, not_false_eq_true, eq_self, nI_1]; assumption) | (simp only [zi_ne, zi_at, zr_ne, zr_at, zj_ne, zj_at, ↓reduceIte, Nat.reduceEqDiff, not_false_eq_true, eq_self, nI_1]; exact zRow_nil) | (exact zPas_frame (fun i _ _ => by first | rfl | (repeat (first | rw [zi_ne (by omega)] | rw [zr_ne (by omega)]))) (by first | rfl | (simp only [zi_ne, zi_at, zr_ne, zr_at, zj_ne, zj_at, ↓reduceIte, Nat.reduceEqDiff, not_false_eq_true, eq_self, nI_1])) (fun i _ _ => rfl) rfl (by first | rfl | (simp only [zi_ne, zi_at, zr_ne, zr_at, zj_ne, zj_at, ↓reduceIte, Nat.reduceEqDiff, not_false_eq_true, eq_self, nI_1])) (by first | rfl | (simp only [zi_ne, zi_at, zr_ne, zr_at, zj_ne, zj_at, ↓reduceIte, Nat.reduceEqDiff, not_false_eq_true, eq_self, nI_1])) (by first | rfl | (simp only [zi_ne, zi_at, zr_ne, zr_at, zj_ne, zj_at, ↓reduceIte, Nat.reduceEqDiff, not_false_eq_true, eq_self, nI_1])) (by first | rfl | (simp only [zi_ne, zi_at, zr_ne, zr_at, zj_ne, zj_at, ↓reduceIte, Nat.reduceEqDiff, not_false_eq_true, eq_self, nI_1])) c14) | (exact zIma_frame (by first | rfl | (simp only [zi_ne, zi_at, zr_ne, zr_at, zj_ne, zj_at, ↓reduceIte, Nat.reduceEqDiff, not_false_eq_true, eq_self, nI_1])) (fun i _ _ => by first | rfl | (repeat (first | rw [zi_ne (by omega)] | rw [zr_ne (by omega)]))) rfl (by first | rfl | (simp only [zi_ne, zi_at, zr_ne, zr_at, zj_ne, zj_at, ↓reduceIte, Nat.reduceEqDiff, not_false_eq_true, eq_self, nI_1])) (by first | rfl | (simp only [zi_ne, zi_at, zr_ne, zr_at, zj_ne, zj_at, ↓reduceIte, Nat.reduceEqDiff, not_false_eq_true, eq_self, nI_1])) c15))
  by_cases ha : 0 ≤ a.toInt ∧ a.toInt ≤ 4095
  · by_cases hc : 0 ≤ c.toInt ∧ c.toInt ≤ 1
    · obtain ⟨n, hn, en⟩ := zixn (x := a) (n := 4096) (by omega) (by omega) (by omega)
      subst en
      have hcc : c = 0 ∨ c = 1 := by
        by_cases e : c.toInt = 0
        · exact Or.inl (zeqI.mpr e)
        · exact Or.inr (zeqI.mpr (show c.toInt = 1 by omega))
      have hz := zsc_n hn
      have q4 : ∀ {K : Int32 → (Nat → Nat → Int32) → (Nat → Nat → Int64) → Prop}, zCpi X (d + 2 + 1) 115 [.int (nI n), .int 4] (zs fc gc) K = _ := q115 (d := d + 1) (t := 4) hn (by omega) rfl
      have q3 : ∀ {K : Int32 → (Nat → Nat → Int32) → (Nat → Nat → Int64) → Prop}, zCpi X (d + 2 + 1) 115 [.int (nI n), .int 3] (zs fc gc) K = _ := q115 (d := d + 1) (t := 3) hn (by omega) rfl
      rcases hcc with rfl | rfl
      · apply e156_0
        simp only [q124, ha, q4, true_or, or_true, false_or, or_false, or_self, and_self, true_and, and_true, not_true_eq_false, not_false_eq_true, ↓reduceIte, eq_self, zq_01, zq_10, zq_m0, zq_m1, zq_0m, zq_1m, zq_2, zq_6, zq_8, zq_10z, zq_12, zq_1000, Int32.reduceLT, Int32.reduceLE, Int32.reduceToInt, Int32.reduceToNatClampNeg, Int32.reduceOfNat, Int.reduceLT, Int.reduceLE, Int.reduceEq, Nat.reduceLeDiff, Nat.reduceEqDiff, zl_2, zl_8, zl_12, zl_50, zl_132, zl_133, zl_134, zl_999, zl_10000, zb_0, zb_1]
        apply e276_178
        simp only [q165, ha, true_or, or_true, false_or, or_false, or_self, and_self, true_and, and_true, not_true_eq_false, not_false_eq_true, ↓reduceIte, eq_self, zq_01, zq_10, zq_m0, zq_m1, zq_0m, zq_1m, zq_2, zq_6, zq_8, zq_10z, zq_12, zq_1000, Int32.reduceLT, Int32.reduceLE, Int32.reduceToInt, Int32.reduceToNatClampNeg, Int32.reduceOfNat, Int.reduceLT, Int.reduceLE, Int.reduceEq, Nat.reduceLeDiff, Nat.reduceEqDiff, zl_2, zl_8, zl_12, zl_50, zl_132, zl_133, zl_134, zl_999, zl_10000, zb_0, zb_1]
        refine l276 (d := d + 2) (w := 0) hn (by omega) ?_
        exact ⟨congrArg nI hz.1.symm, hR0⟩
      · apply e156_0
        simp only [q124, ha, q3, true_or, or_true, false_or, or_false, or_self, and_self, true_and, and_true, not_true_eq_false, not_false_eq_true, ↓reduceIte, eq_self, zq_01, zq_10, zq_m0, zq_m1, zq_0m, zq_1m, zq_2, zq_6, zq_8, zq_10z, zq_12, zq_1000, Int32.reduceLT, Int32.reduceLE, Int32.reduceToInt, Int32.reduceToNatClampNeg, Int32.reduceOfNat, Int.reduceLT, Int.reduceLE, Int.reduceEq, Nat.reduceLeDiff, Nat.reduceEqDiff, zl_2, zl_8, zl_12, zl_50, zl_132, zl_133, zl_134, zl_999, zl_10000, zb_0, zb_1]
        apply e276_178
        simp only [q165, ha, true_or, or_true, false_or, or_false, or_self, and_self, true_and, and_true, not_true_eq_false, not_false_eq_true, ↓reduceIte, eq_self, zq_01, zq_10, zq_m0, zq_m1, zq_0m, zq_1m, zq_2, zq_6, zq_8, zq_10z, zq_12, zq_1000, Int32.reduceLT, Int32.reduceLE, Int32.reduceToInt, Int32.reduceToNatClampNeg, Int32.reduceOfNat, Int.reduceLT, Int.reduceLE, Int.reduceEq, Nat.reduceLeDiff, Nat.reduceEqDiff, zl_2, zl_8, zl_12, zl_50, zl_132, zl_133, zl_134, zl_999, zl_10000, zb_0, zb_1]
        refine l276 (d := d + 2) (w := 1) hn (by omega) ?_
        exact ⟨congrArg nI hz.2.symm, hR0⟩
    · apply e156_0
      simp only [q124, ha, hc, true_or, or_true, false_or, or_false, or_self, and_self, true_and, and_true, not_true_eq_false, not_false_eq_true, ↓reduceIte, eq_self, zq_01, zq_10, zq_m0, zq_m1, zq_0m, zq_1m, zq_2, zq_6, zq_8, zq_10z, zq_12, zq_1000, Int32.reduceLT, Int32.reduceLE, Int32.reduceToInt, Int32.reduceToNatClampNeg, Int32.reduceOfNat, Int.reduceLT, Int.reduceLE, Int.reduceEq, Nat.reduceLeDiff, Nat.reduceEqDiff, zl_2, zl_8, zl_12, zl_50, zl_132, zl_133, zl_134, zl_999, zl_10000, zb_0, zb_1]
      apply e276_178
      simp only [q165, ha, hc, true_or, or_true, false_or, or_false, or_self, and_self, true_and, and_true, not_true_eq_false, not_false_eq_true, ↓reduceIte, eq_self, zq_01, zq_10, zq_m0, zq_m1, zq_0m, zq_1m, zq_2, zq_6, zq_8, zq_10z, zq_12, zq_1000, Int32.reduceLT, Int32.reduceLE, Int32.reduceToInt, Int32.reduceToNatClampNeg, Int32.reduceOfNat, Int.reduceLT, Int.reduceLE, Int.reduceEq, Nat.reduceLeDiff, Nat.reduceEqDiff, zl_2, zl_8, zl_12, zl_50, zl_132, zl_133, zl_134, zl_999, zl_10000, zb_0, zb_1]
      exact ⟨rfl, hR0⟩
  · apply e156_0
    simp only [q124, ha, true_or, or_true, false_or, or_false, or_self, and_self, true_and, and_true, not_true_eq_false, not_false_eq_true, ↓reduceIte, eq_self, zq_01, zq_10, zq_m0, zq_m1, zq_0m, zq_1m, zq_2, zq_6, zq_8, zq_10z, zq_12, zq_1000, Int32.reduceLT, Int32.reduceLE, Int32.reduceToInt, Int32.reduceToNatClampNeg, Int32.reduceOfNat, Int.reduceLT, Int.reduceLE, Int.reduceEq, Nat.reduceLeDiff, Nat.reduceEqDiff, zl_2, zl_8, zl_12, zl_50, zl_132, zl_133, zl_134, zl_999, zl_10000, zb_0, zb_1]
    apply e276_178
    simp only [q165, ha, true_or, or_true, false_or, or_false, or_self, and_self, true_and, and_true, not_true_eq_false, not_false_eq_true, ↓reduceIte, eq_self, zq_01, zq_10, zq_m0, zq_m1, zq_0m, zq_1m, zq_2, zq_6, zq_8, zq_10z, zq_12, zq_1000, Int32.reduceLT, Int32.reduceLE, Int32.reduceToInt, Int32.reduceToNatClampNeg, Int32.reduceOfNat, Int.reduceLT, Int.reduceLE, Int.reduceEq, Nat.reduceLeDiff, Nat.reduceEqDiff, zl_2, zl_8, zl_12, zl_50, zl_132, zl_133, zl_134, zl_999, zl_10000, zb_0, zb_1]
    exact ⟨rfl, hR0⟩

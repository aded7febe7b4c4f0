/-! MORE CALLS -/
theorem zq_02 : ((0 : Int32) = 2) = False := by decide
theorem zq_12' : ((1 : Int32) = 2) = False := by decide
theorem zq_20 : ((2 : Int32) = 0) = False := by decide
theorem zq_21 : ((2 : Int32) = 1) = False := by decide
theorem nI_st {k : Nat} (h : k ≤ 100000) : (nI k - 1).toInt = (k : Int) - 1 := pk_sub_toInt (a := k) (b := 1) (by omega) (by omega)
theorem nI_ma (i c w : Nat) : nI i * nI c + nI w = nI (i * c + w) := by rw [pk_mul, nI_add]
theorem nI_mb (i c w : Nat) : nI c * nI i + nI w = nI (c * i + w) := by rw [pk_mul, nI_add]
theorem nI_l4 {p : Nat} : (4 : Int32) + nI p = nI (4 + p) := nI_add 4 p
theorem nI_l16 {p : Nat} : (16 : Int32) + nI p = nI (16 + p) := nI_add 16 p
theorem nI_l28 {p : Nat} : (28 : Int32) + nI p = nI (28 + p) := nI_add 28 p
theorem nI_l40 {p : Nat} : (40 : Int32) + nI p = nI (40 + p) := nI_add 40 p
theorem nI_l52 {p : Nat} : (52 : Int32) + nI p = nI (52 + p) := nI_add 52 p
theorem nI_l64 {p : Nat} : (64 : Int32) + nI p = nI (64 + p) := nI_add 64 p
theorem q2 {X : Nat × (Nat → Int32)} {d : Nat} {f : Nat → Nat → Int32} {g : Nat → Nat → Int64} {K : Int32 → (Nat → Nat → Int32) → (Nat → Nat → Int64) → Prop} {i w : Nat} (hi : i < 150) (hw : w < 4) : zCpi X (d + 1) 2 [.ref 11, .int (nI i), .int (nI w)] (zs f g) K = K (f 12 (4 * i + w)) f g := by
  refine zCpi_eq (fun K hk => e2_11 ?_)
  have e : nI i * 4 + nI w = nI (4 * i + w) := by
    have := nI_ma i 4 w
    rw [Nat.mul_comm i 4] at this
    exact this
  rw [zmO.2, e, if_neg (nI_pos (by omega)), if_neg (show ¬ (600 : Int32) ≤ nI (4 * i + w) from nI_ge (b := 600) (by omega) (by omega)), if_neg (nI_in (by omega) (by omega)), nI_cl (by omega)]
  exact hk
theorem op_book {X : Nat × (Nat → Int32)} {d : Nat} {v w : Int32} : zOp X (d + 2) 137 243 [.int v, .int w] := by
  intro fc fr gc gr hR
  obtain ⟨⟨c1, c2, c3, c4, c5, c6, c7, c8, c9, c10, c11⟩, c12, c13, c14, c15, c16⟩ := hR
  obtain ⟨b, hb, b1, b2, b3⟩ := id c11
  have ht := nI_st (k := b) (by omega)
  by_cases hg : (0 ≤ v.toInt ∧ v.toInt ≤ b - 1) ∧ 0 ≤ w.toInt ∧ w.toInt ≤ 3
  · obtain ⟨i, hi, ei⟩ := zixn (x := v) (n := b) (by omega) (by omega) (by omega)
    obtain ⟨j, hj, ej⟩ := zixn (x := w) (n := 4) (by omega) (by omega) (by omega)
    subst ei
    subst ej
    apply e137_0
    simp only [q124, q2 (show i < 150 by omega) hj, b1, ht, zsO.2, zmO.2, znO.2, zdO.2, zrO.2, zhO.2, zgO.2, zuO.2, zlH.2, zlU.2, zlS.2, Int32.lt_iff_toInt_lt, Int32.le_iff_toInt_le, true_or, or_true, false_or, or_false, or_self, and_self, true_and, and_true, not_true_eq_false, not_false_eq_true, ↓reduceIte, eq_self, zq_01, zq_10, zq_m0, zq_m1, zq_0m, zq_1m, zq_2, zq_6, zq_8, zq_10z, zq_12, zq_1000, Int32.reduceLT, Int32.reduceLE, Int32.reduceToInt, Int32.reduceToNatClampNeg, Int32.reduceOfNat, Int.reduceLT, Int.reduceLE, Int.reduceEq, Nat.reduceLeDiff, Nat.reduceEqDiff, zl_2, zl_8, zl_12, zl_50, zl_132, zl_133, zl_134, zl_999, zl_10000, zb_0, zb_1, zb_or]
    rw [if_neg (by omega), if_neg (by omega)]
    apply e243_178
    have e : (4 : Int32) * nI i + nI j = nI (4 * i + j) := nI_mb i 4 j
    simp only [q165, b2, ht, zi_ne, zi_at, e, zsO.2, zmO.2, znO.2, zdO.2, zrO.2, zhO.2, zgO.2, zuO.2, zlH.2, zlU.2, zlS.2, Int32.lt_iff_toInt_lt, Int32.le_iff_toInt_le, true_or, or_true, false_or, or_false, or_self, and_self, true_and, and_true, not_true_eq_false, not_false_eq_true, ↓reduceIte, eq_self, zq_01, zq_10, zq_m0, zq_m1, zq_0m, zq_1m, zq_2, zq_6, zq_8, zq_10z, zq_12, zq_1000, Int32.reduceLT, Int32.reduceLE, Int32.reduceToInt, Int32.reduceToNatClampNeg, Int32.reduceOfNat, Int.reduceLT, Int.reduceLE, Int.reduceEq, Nat.reduceLeDiff, Nat.reduceEqDiff, zl_2, zl_8, zl_12, zl_50, zl_132, zl_133, zl_134, zl_999, zl_10000, zb_0, zb_1, zb_or]
    rw [if_neg (by omega), if_neg (by omega), nI_cl (by omega), if_neg (by rw [nI_ti (by omega)]; omega)]
    refine ⟨(b3 _ (by omega)).symm, ?_⟩
    refine ⟨⟨?_, ?_, ?_, ?_, ?_, ?_, ?_, ?_, ?_, ?_, ?_⟩, ?_, ?_, ?_, ?_, ?_⟩
    all_goals try (first | assumption | (simp only [zi_ne, zi_at, zr_ne, zr_at, zj_ne, zj_at, ↓reduceIte, Nat.reduceEqDiff, not_false_eq_true, eq_self, nI_1]; assumption) | (simp only [zi_ne, zi_at, zr_ne, zr_at, zj_ne, zj_at, ↓reduceIte, Nat.reduceEqDiff, not_false_eq_true, eq_self, nI_1]; exact zRow_nil) | (exact zPas_frame (fun i _ _ => by first | rfl | (repeat rw [zi_ne (by omega)])) (by first | rfl | (simp only [zi_ne, zi_at, zr_ne, zr_at, zj_ne, zj_at, ↓reduceIte, Nat.reduceEqDiff, not_false_eq_true, eq_self, nI_1])) (fun i _ _ => rfl) rfl (by first | rfl | (simp only [zi_ne, zi_at, zr_ne, zr_at, zj_ne, zj_at, ↓reduceIte, Nat.reduceEqDiff, not_false_eq_true, eq_self, nI_1])) (by first | rfl | (simp only [zi_ne, zi_at, zr_ne, zr_at, zj_ne, zj_at, ↓reduceIte, Nat.reduceEqDiff, not_false_eq_true, eq_self, nI_1])) (by first | rfl | (simp only [zi_ne, zi_at, zr_ne, zr_at, zj_ne, zj_at, ↓reduceIte, Nat.reduceEqDiff, not_false_eq_true, eq_self, nI_1])) (by first | rfl | (simp only [zi_ne, zi_at, zr_ne, zr_at, zj_ne, zj_at, ↓reduceIte, Nat.reduceEqDiff, not_false_eq_true, eq_self, nI_1])) c14) | (exact zIma_frame (by first | rfl | (simp only [zi_ne, zi_at, zr_ne, zr_at, zj_ne, zj_at, ↓reduceIte, Nat.reduceEqDiff, not_false_eq_true, eq_self, nI_1])) (fun i _ _ => by first | rfl | (repeat rw [zi_ne (by omega)])) rfl (by first | rfl | (simp only [zi_ne, zi_at, zr_ne, zr_at, zj_ne, zj_at, ↓reduceIte, Nat.reduceEqDiff, not_false_eq_true, eq_self, nI_1])) (by first | rfl | (simp only [zi_ne, zi_at, zr_ne, zr_at, zj_ne, zj_at, ↓reduceIte, Nat.reduceEqDiff, not_false_eq_true, eq_self, nI_1])) c15))
  · apply e137_0
    simp only [q124, b1, b2, ht, zsO.2, zmO.2, znO.2, zdO.2, zrO.2, zhO.2, zgO.2, zuO.2, zlH.2, zlU.2, zlS.2, Int32.lt_iff_toInt_lt, Int32.le_iff_toInt_le, true_or, or_true, false_or, or_false, or_self, and_self, true_and, and_true, not_true_eq_false, not_false_eq_true, ↓reduceIte, eq_self, zq_01, zq_10, zq_m0, zq_m1, zq_0m, zq_1m, zq_2, zq_6, zq_8, zq_10z, zq_12, zq_1000, Int32.reduceLT, Int32.reduceLE, Int32.reduceToInt, Int32.reduceToNatClampNeg, Int32.reduceOfNat, Int.reduceLT, Int.reduceLE, Int.reduceEq, Nat.reduceLeDiff, Nat.reduceEqDiff, zl_2, zl_8, zl_12, zl_50, zl_132, zl_133, zl_134, zl_999, zl_10000, zb_0, zb_1, zb_or]
    try simp only [zeqI]
    repeat' split
    all_goals first
      | (exfalso; omega)
      | apply e243_178
    all_goals simp only [q165, zi_ne, zi_at, b1, b2, ht, zsO.2, zmO.2, znO.2, zdO.2, zrO.2, zhO.2, zgO.2, zuO.2, zlH.2, zlU.2, zlS.2, Int32.lt_iff_toInt_lt, Int32.le_iff_toInt_le, true_or, or_true, false_or, or_false, or_self, and_self, true_and, and_true, not_true_eq_false, not_false_eq_true, ↓reduceIte, eq_self, zq_01, zq_10, zq_m0, zq_m1, zq_0m, zq_1m, zq_2, zq_6, zq_8, zq_10z, zq_12, zq_1000, Int32.reduceLT, Int32.reduceLE, Int32.reduceToInt, Int32.reduceToNatClampNeg, Int32.reduceOfNat, Int.reduceLT, Int.reduceLE, Int.reduceEq, Nat.reduceLeDiff, Nat.reduceEqDiff, zl_2, zl_8, zl_12, zl_50, zl_132, zl_133, zl_134, zl_999, zl_10000, zb_0, zb_1, zb_or]
    all_goals try simp only [zeqI]
    all_goals repeat' split
    all_goals first
      | (exfalso; omega)
      | skip
    all_goals refine ⟨rfl, ?_⟩
    all_goals refine ⟨⟨?_, ?_, ?_, ?_, ?_, ?_, ?_, ?_, ?_, ?_, ?_⟩, ?_, ?_, ?_, ?_, ?_⟩
    all_goals try (first | assumption | (simp only [zi_ne, zi_at, zr_ne, zr_at, zj_ne, zj_at, ↓reduceIte, Nat.reduceEqDiff, not_false_eq_true, eq_self, nI_1]; assumption) | (simp only [zi_ne, zi_at, zr_ne, zr_at, zj_ne, zj_at, ↓reduceIte, Nat.reduceEqDiff, not_false_eq_true, eq_self, nI_1]; exact zRow_nil) | (exact zPas_frame (fun i _ _ => by first | rfl | (repeat rw [zi_ne (by omega)])) (by first | rfl | (simp only [zi_ne, zi_at, zr_ne, zr_at, zj_ne, zj_at, ↓reduceIte, Nat.reduceEqDiff, not_false_eq_true, eq_self, nI_1])) (fun i _ _ => rfl) rfl (by first | rfl | (simp only [zi_ne, zi_at, zr_ne, zr_at, zj_ne, zj_at, ↓reduceIte, Nat.reduceEqDiff, not_false_eq_true, eq_self, nI_1])) (by first | rfl | (simp only [zi_ne, zi_at, zr_ne, zr_at, zj_ne, zj_at, ↓reduceIte, Nat.reduceEqDiff, not_false_eq_true, eq_self, nI_1])) (by first | rfl | (simp only [zi_ne, zi_at, zr_ne, zr_at, zj_ne, zj_at, ↓reduceIte, Nat.reduceEqDiff, not_false_eq_true, eq_self, nI_1])) (by first | rfl | (simp only [zi_ne, zi_at, zr_ne, zr_at, zj_ne, zj_at, ↓reduceIte, Nat.reduceEqDiff, not_false_eq_true, eq_self, nI_1])) c14) | (exact zIma_frame (by first | rfl | (simp only [zi_ne, zi_at, zr_ne, zr_at, zj_ne, zj_at, ↓reduceIte, Nat.reduceEqDiff, not_false_eq_true, eq_self, nI_1])) (fun i _ _ => by first | rfl | (repeat rw [zi_ne (by omega)])) rfl (by first | rfl | (simp only [zi_ne, zi_at, zr_ne, zr_at, zj_ne, zj_at, ↓reduceIte, Nat.reduceEqDiff, not_false_eq_true, eq_self, nI_1])) (by first | rfl | (simp only [zi_ne, zi_at, zr_ne, zr_at, zj_ne, zj_at, ↓reduceIte, Nat.reduceEqDiff, not_false_eq_true, eq_self, nI_1])) c15))
theorem zCos_up {a b a2 b2 : Nat → Int32} {v : Int32} {p q : Nat} (hp : p < 6) (hq : q < 6) (ha : ∀ j, a2 j = if j = 6 * q + p then v else if j = 6 * p + q then v else a j) (hb : ∀ j, b2 j = if j = 6 * q + p then v else if j = 6 * p + q then v else b j) (hv : 0 ≤ v.toInt ∧ v.toInt ≤ 9) (h : zCos a b) : zCos a2 b2 := by
  intro p' q' hp' hq'
  obtain ⟨h1, h2, h3, h4⟩ := h p' q' hp' hq'
  rw [ha (6 * p' + q'), hb (6 * p' + q'), ha (6 * q' + p')]
  by_cases e1 : 6 * p' + q' = 6 * q + p
  · rw [if_pos e1, if_pos e1]
    refine ⟨rfl, ?_, hv⟩
    by_cases e2 : 6 * q' + p' = 6 * q + p
    · rw [if_pos e2]
    · rw [if_neg e2, if_pos (by omega)]
  · rw [if_neg e1, if_neg e1]
    by_cases e2 : 6 * p' + q' = 6 * p + q
    · rw [if_pos e2, if_pos e2, if_pos (show 6 * q' + p' = 6 * q + p by omega)]
      exact ⟨rfl, rfl, hv⟩
    · rw [if_neg e2, if_neg e2, if_neg (show ¬ 6 * q' + p' = 6 * q + p by omega), if_neg (show ¬ 6 * q' + p' = 6 * p + q by omega)]
      exact ⟨h1, h2, h3, h4⟩
set_option maxHeartbeats 1000000 in
theorem op_cost {X : Nat × (Nat → Int32)} {d : Nat} {a b v : Int32} : zOp X (d + 2) 142 251 [.int a, .int b, .int v] := by
  intro fc fr gc gr hR
  obtain ⟨⟨c1, c2, c3, c4, c5, c6, c7, c8, c9, c10, c11⟩, c12, c13, c14, c15, c16⟩ := hR
  by_cases hg : (0 ≤ a.toInt ∧ a.toInt ≤ 5) ∧ (0 ≤ b.toInt ∧ b.toInt ≤ 5) ∧ ¬ a.toInt = b.toInt ∧ 0 ≤ v.toInt ∧ v.toInt ≤ 9
  · obtain ⟨⟨g1, g2⟩, ⟨g3, g4⟩, g5, g6, g7⟩ := hg
    obtain ⟨p, hp, ep⟩ := zixn (x := a) (n := 6) (by omega) (by omega) (by omega)
    obtain ⟨q, hq, eq⟩ := zixn (x := b) (n := 6) (by omega) (by omega) (by omega)
    subst ep
    subst eq
    have k1 : nI p * 6 + nI q = nI (6 * p + q) := by
      have := nI_ma p 6 q
      rw [Nat.mul_comm p 6] at this
      exact this
    have k2 : nI q * 6 + nI p = nI (6 * q + p) := by
      have := nI_ma q 6 p
      rw [Nat.mul_comm q 6] at this
      exact this
    have k3 : (6 : Int32) * nI p + nI q = nI (6 * p + q) := nI_mb p 6 q
    have k4 : (6 : Int32) * nI q + nI p = nI (6 * q + p) := nI_mb q 6 p
    apply e142_0
    simp only [q124, zsO.2, zmO.2, znO.2, zdO.2, zrO.2, zhO.2, zgO.2, zuO.2, zlH.2, zlU.2, zlS.2, Int32.lt_iff_toInt_lt, Int32.le_iff_toInt_le, true_or, or_true, false_or, or_false, or_self, and_self, true_and, and_true, not_true_eq_false, not_false_eq_true, ↓reduceIte, eq_self, zq_01, zq_10, zq_m0, zq_m1, zq_0m, zq_1m, zq_2, zq_6, zq_8, zq_10z, zq_12, zq_1000, Int32.reduceLT, Int32.reduceLE, Int32.reduceToInt, Int32.reduceToNatClampNeg, Int32.reduceOfNat, Int.reduceLT, Int.reduceLE, Int.reduceEq, Nat.reduceLeDiff, Nat.reduceEqDiff, zl_2, zl_8, zl_12, zl_50, zl_132, zl_133, zl_134, zl_999, zl_10000, zb_0, zb_1, zb_or, k1, k2, nI_cl (show 6 * p + q ≤ 100000 by omega), nI_cl (show 6 * q + p ≤ 100000 by omega), nI_ti (show 6 * p + q ≤ 100000 by omega), nI_ti (show 6 * q + p ≤ 100000 by omega)]
    simp only [zeqI]
    rw [if_neg (by omega), if_neg (by omega), if_neg (by omega), if_neg (by omega), if_neg (by omega), if_neg (by omega)]
    apply e251_178
    simp only [q165, zsO.2, zmO.2, znO.2, zdO.2, zrO.2, zhO.2, zgO.2, zuO.2, zlH.2, zlU.2, zlS.2, Int32.lt_iff_toInt_lt, Int32.le_iff_toInt_le, true_or, or_true, false_or, or_false, or_self, and_self, true_and, and_true, not_true_eq_false, not_false_eq_true, ↓reduceIte, eq_self, zq_01, zq_10, zq_m0, zq_m1, zq_0m, zq_1m, zq_2, zq_6, zq_8, zq_10z, zq_12, zq_1000, Int32.reduceLT, Int32.reduceLE, Int32.reduceToInt, Int32.reduceToNatClampNeg, Int32.reduceOfNat, Int.reduceLT, Int.reduceLE, Int.reduceEq, Nat.reduceLeDiff, Nat.reduceEqDiff, zl_2, zl_8, zl_12, zl_50, zl_132, zl_133, zl_134, zl_999, zl_10000, zb_0, zb_1, zb_or, k3, k4, nI_cl (show 6 * p + q ≤ 100000 by omega), nI_cl (show 6 * q + p ≤ 100000 by omega), nI_ti (show 6 * p + q ≤ 100000 by omega), nI_ti (show 6 * q + p ≤ 100000 by omega)]
    simp only [zeqI]
    rw [if_neg (by omega), if_neg (by omega), if_neg (by omega), if_neg (by omega), if_neg (by omega), if_neg (by omega)]
    refine ⟨rfl, ?_⟩
    refine ⟨⟨?_, ?_, ?_, ?_, ?_, ?_, ?_, ?_, ?_, ?_, ?_⟩, ?_, ?_, ?_, ?_, ?_⟩
    all_goals try (first | assumption | (simp only [zi_ne, zi_at, zr_ne, zr_at, zj_ne, zj_at, ↓reduceIte, Nat.reduceEqDiff, not_false_eq_true, eq_self, nI_1]; assumption) | (simp only [zi_ne, zi_at, zr_ne, zr_at, zj_ne, zj_at, ↓reduceIte, Nat.reduceEqDiff, not_false_eq_true, eq_self, nI_1]; exact zRow_nil) | (exact zPas_frame (fun i _ _ => by first | rfl | (repeat rw [zi_ne (by omega)])) (by first | rfl | (simp only [zi_ne, zi_at, zr_ne, zr_at, zj_ne, zj_at, ↓reduceIte, Nat.reduceEqDiff, not_false_eq_true, eq_self, nI_1])) (fun i _ _ => rfl) rfl (by first | rfl | (simp only [zi_ne, zi_at, zr_ne, zr_at, zj_ne, zj_at, ↓reduceIte, Nat.reduceEqDiff, not_false_eq_true, eq_self, nI_1])) (by first | rfl | (simp only [zi_ne, zi_at, zr_ne, zr_at, zj_ne, zj_at, ↓reduceIte, Nat.reduceEqDiff, not_false_eq_true, eq_self, nI_1])) (by first | rfl | (simp only [zi_ne, zi_at, zr_ne, zr_at, zj_ne, zj_at, ↓reduceIte, Nat.reduceEqDiff, not_false_eq_true, eq_self, nI_1])) (by first | rfl | (simp only [zi_ne, zi_at, zr_ne, zr_at, zj_ne, zj_at, ↓reduceIte, Nat.reduceEqDiff, not_false_eq_true, eq_self, nI_1])) c14) | (exact zIma_frame (by first | rfl | (simp only [zi_ne, zi_at, zr_ne, zr_at, zj_ne, zj_at, ↓reduceIte, Nat.reduceEqDiff, not_false_eq_true, eq_self, nI_1])) (fun i _ _ => by first | rfl | (repeat rw [zi_ne (by omega)])) rfl (by first | rfl | (simp only [zi_ne, zi_at, zr_ne, zr_at, zj_ne, zj_at, ↓reduceIte, Nat.reduceEqDiff, not_false_eq_true, eq_self, nI_1])) (by first | rfl | (simp only [zi_ne, zi_at, zr_ne, zr_at, zj_ne, zj_at, ↓reduceIte, Nat.reduceEqDiff, not_false_eq_true, eq_self, nI_1])) c15))
    exact zCos_up (v := v) hp hq (fun j => by simp only [zi_ne, zi_at, zr_ne, zr_at, zj_ne, zj_at, ↓reduceIte, Nat.reduceEqDiff, not_false_eq_true, eq_self, nI_1]) (fun j => by simp only [zi_ne, zi_at, zr_ne, zr_at, zj_ne, zj_at, ↓reduceIte, Nat.reduceEqDiff, not_false_eq_true, eq_self, nI_1]) ⟨g6, g7⟩ c5
  · apply e142_0
    simp only [q124, zsO.2, zmO.2, znO.2, zdO.2, zrO.2, zhO.2, zgO.2, zuO.2, zlH.2, zlU.2, zlS.2, Int32.lt_iff_toInt_lt, Int32.le_iff_toInt_le, true_or, or_true, false_or, or_false, or_self, and_self, true_and, and_true, not_true_eq_false, not_false_eq_true, ↓reduceIte, eq_self, zq_01, zq_10, zq_m0, zq_m1, zq_0m, zq_1m, zq_2, zq_6, zq_8, zq_10z, zq_12, zq_1000, Int32.reduceLT, Int32.reduceLE, Int32.reduceToInt, Int32.reduceToNatClampNeg, Int32.reduceOfNat, Int.reduceLT, Int.reduceLE, Int.reduceEq, Nat.reduceLeDiff, Nat.reduceEqDiff, zl_2, zl_8, zl_12, zl_50, zl_132, zl_133, zl_134, zl_999, zl_10000, zb_0, zb_1, zb_or]
    try simp only [zeqI]
    repeat' split
    all_goals first
      | (exfalso; omega)
      | apply e251_178
    all_goals simp only [q165, zi_ne, zi_at, zsO.2, zmO.2, znO.2, zdO.2, zrO.2, zhO.2, zgO.2, zuO.2, zlH.2, zlU.2, zlS.2, Int32.lt_iff_toInt_lt, Int32.le_iff_toInt_le, true_or, or_true, false_or, or_false, or_self, and_self, true_and, and_true, not_true_eq_false, not_false_eq_true, ↓reduceIte, eq_self, zq_01, zq_10, zq_m0, zq_m1, zq_0m, zq_1m, zq_2, zq_6, zq_8, zq_10z, zq_12, zq_1000, Int32.reduceLT, Int32.reduceLE, Int32.reduceToInt, Int32.reduceToNatClampNeg, Int32.reduceOfNat, Int.reduceLT, Int.reduceLE, Int.reduceEq, Nat.reduceLeDiff, Nat.reduceEqDiff, zl_2, zl_8, zl_12, zl_50, zl_132, zl_133, zl_134, zl_999, zl_10000, zb_0, zb_1, zb_or]
    all_goals try simp only [zeqI]
    all_goals repeat' split
    all_goals first
      | (exfalso; omega)
      | skip
    all_goals refine ⟨rfl, ?_⟩
    all_goals refine ⟨⟨?_, ?_, ?_, ?_, ?_, ?_, ?_, ?_, ?_, ?_, ?_⟩, ?_, ?_, ?_, ?_, ?_⟩
    all_goals try (first | assumption | (simp only [zi_ne, zi_at, zr_ne, zr_at, zj_ne, zj_at, ↓reduceIte, Nat.reduceEqDiff, not_false_eq_true, eq_self, nI_1]; assumption) | (simp only [zi_ne, zi_at, zr_ne, zr_at, zj_ne, zj_at, ↓reduceIte, Nat.reduceEqDiff, not_false_eq_true, eq_self, nI_1]; exact zRow_nil) | (exact zPas_frame (fun i _ _ => by first | rfl | (repeat rw [zi_ne (by omega)])) (by first | rfl | (simp only [zi_ne, zi_at, zr_ne, zr_at, zj_ne, zj_at, ↓reduceIte, Nat.reduceEqDiff, not_false_eq_true, eq_self, nI_1])) (fun i _ _ => rfl) rfl (by first | rfl | (simp only [zi_ne, zi_at, zr_ne, zr_at, zj_ne, zj_at, ↓reduceIte, Nat.reduceEqDiff, not_false_eq_true, eq_self, nI_1])) (by first | rfl | (simp only [zi_ne, zi_at, zr_ne, zr_at, zj_ne, zj_at, ↓reduceIte, Nat.reduceEqDiff, not_false_eq_true, eq_self, nI_1])) (by first | rfl | (simp only [zi_ne, zi_at, zr_ne, zr_at, zj_ne, zj_at, ↓reduceIte, Nat.reduceEqDiff, not_false_eq_true, eq_self, nI_1])) (by first | rfl | (simp only [zi_ne, zi_at, zr_ne, zr_at, zj_ne, zj_at, ↓reduceIte, Nat.reduceEqDiff, not_false_eq_true, eq_self, nI_1])) c14) | (exact zIma_frame (by first | rfl | (simp only [zi_ne, zi_at, zr_ne, zr_at, zj_ne, zj_at, ↓reduceIte, Nat.reduceEqDiff, not_false_eq_true, eq_self, nI_1])) (fun i _ _ => by first | rfl | (repeat rw [zi_ne (by omega)])) rfl (by first | rfl | (simp only [zi_ne, zi_at, zr_ne, zr_at, zj_ne, zj_at, ↓reduceIte, Nat.reduceEqDiff, not_false_eq_true, eq_self, nI_1])) (by first | rfl | (simp only [zi_ne, zi_at, zr_ne, zr_at, zj_ne, zj_at, ↓reduceIte, Nat.reduceEqDiff, not_false_eq_true, eq_self, nI_1])) c15))

/-! series -/
def zfl (x : Int32) : Int32 := if 0 ≤ x ^^^ 12 then x - x / 12 * 12 else if x - x / 12 * 12 = 0 then x - x / 12 * 12 else x - x / 12 * 12 + 12
theorem q289 {X : Nat × (Nat → Int32)} {d : Nat} {f : Nat → Nat → Int32} {g : Nat → Nat → Int64} {K : Int32 → (Nat → Nat → Int32) → (Nat → Nat → Int64) → Prop} {a : Int32} : zCpi X (d + 1) 289 [.int a, .int 12] (zs f g) K = K (zfl a) f g := by
  refine zCpi_eq (fun K hK => e289 ?_)
  unfold zfl at hK
  simp only [zrO.2, zq_12, if_false]
  split
  · next e => rw [if_pos e] at hK; exact hK
  · next e =>
    rw [if_neg e] at hK
    split
    · next e => rw [if_pos e] at hK; exact hK
    · next e => rw [if_neg e] at hK; exact hK
theorem zfl_k : ∀ k, k < 200 → zfl (nI k - 24) = nI (k % 12) := by decide +kernel
theorem zfr_k : ∀ k, k < 200 → nI k - 24 + 24 - (nI k - 24 + 24) / 12 * 12 = nI (k % 12) := by decide +kernel
/-- a row's note, from behind, turned about, moved: a: the numbers, k of them -/
def zno (a : Nat → Nat) (k w t i : Nat) : Nat := if w % 2 = 1 then (2 * a 0 + t + 24 - a (if w < 2 then i else k - 1 - i)) % 12 else (a (if w < 2 then i else k - 1 - i) + t + 24) % 12
theorem znc1 {u v t : Nat} (hv : v ≤ 11) : (2 : Int32) * nI u - nI v + nI t = nI (2 * u + t + 24 - v) - 24 := by
  have e1 : (2 : Int32) * nI u = nI (2 * u) := pk_mul 2 u
  have e2 : nI (2 * u + t + 24 - v) + nI v = nI (2 * u) + nI t + 24 := by
    rw [nI_add, nI_add, show (24 : Int32) = nI 24 from rfl, nI_add]
    congr 1
    omega
  rw [e1]
  have e3 : nI (2 * u + t + 24 - v) = nI (2 * u) + nI t + 24 - nI v := by
    rw [← e2, Int32.add_sub_cancel]
  rw [e3]
  apply Int32.toBitVec_inj.mp
  simp only [Int32.toBitVec_add, Int32.toBitVec_sub]
  generalize (nI (2 * u)).toBitVec = A
  generalize (nI v).toBitVec = B
  generalize (nI t).toBitVec = C
  generalize Int32.toBitVec 24 = D
  apply BitVec.eq_of_toNat_eq
  simp only [BitVec.toNat_add, BitVec.toNat_sub]
  omega
theorem znc0 {v t : Nat} : nI v + nI t = nI (v + t + 24) - 24 := by
  rw [nI_add]
  have e := nI_add (v + t) 24
  rw [← e]
  exact (Int32.add_sub_cancel _ _).symm
section ZSE
variable {X : Nat × (Nat → Int32)} {d : Nat} {f : Nat → Nat → Int32} {g : Nat → Nat → Int64} {K : Int32 → (Nat → Nat → Int32) → (Nat → Nat → Int64) → Prop} {a : Nat → Nat} {k w t i : Nat}
theorem q101 (hk : k ≤ 12) (h : f 25 1 = nI k) (ha : ∀ j, j < k → f 26 j = nI (a j) ∧ a j ≤ 11) (hw : w < 4) (ht : t ≤ 11) (hi : i < k) : zCpi X (d + 2) 101 [.ref 25, .int (nI w), .int (nI t), .int (nI i)] (zs f g) K = K (nI (zno a k w t i)) f g := by
  refine zCpi_eq (fun K hK => e101_25 ?_)
  unfold zno at hK
  obtain ⟨e0, b0⟩ := ha 0 (by omega)
  have q0 : ∀ {K : Int32 → (Nat → Nat → Int32) → (Nat → Nat → Int64) → Prop}, zCpi X (d + 1) 68 [.ref 25, .int 0] (zs f g) K = K (f 26 0) f g := q68_25 (i := 0) hk h (by omega)
  have hr : nI w - nI w / 2 * 2 = nI (w % 2) := zrem2 (by omega)
  by_cases hw2 : w < 2
  · rw [if_pos (show nI w < (2 : Int32) from nI_lt (b := 2) hw2 (by omega)), q68_25 hk h hi]
    obtain ⟨e1, b1⟩ := ha i hi
    simp only [zq_2, if_false, zrO.2, hr, e1, if_pos hw2] at hK ⊢
    by_cases ho : w % 2 = 1
    · rw [if_pos ho] at hK
      rw [if_pos (show nI (w % 2) = (1 : Int32) by rw [ho]; rfl), q0, e0, q289, zmO.2, zsO.2, znc1 b1, zfl_k _ (by omega)]
      exact hK
    · rw [if_neg ho] at hK
      rw [if_neg (show ¬ nI (w % 2) = (1 : Int32) from nI_neq (c := 1) (by omega) (by omega) ho), q289, znc0, zfl_k _ (by omega)]
      exact hK
  · have e9 : nI k - 1 - nI i = nI (k - 1 - i) := by
      have e8 := pk_sub (a := k) (b := 1) (by omega)
      rw [show nI k - 1 = nI (k - 1) from e8, pk_sub (by omega)]
    rw [if_neg (show ¬ nI w < (2 : Int32) from nI_nlt (b := 2) (by omega) (by omega)), h, zsO.2, zsO.2, e9, q68_25 hk h (by omega)]
    obtain ⟨e1, b1⟩ := ha (k - 1 - i) (by omega)
    simp only [zq_2, if_false, zrO.2, hr, e1, if_neg hw2] at hK ⊢
    by_cases ho : w % 2 = 1
    · rw [if_pos ho] at hK
      rw [if_pos (show nI (w % 2) = (1 : Int32) by rw [ho]; rfl), q0, e0, q289, zmO.2, zsO.2, znc1 b1, zfl_k _ (by omega)]
      exact hK
    · rw [if_neg ho] at hK
      rw [if_neg (show ¬ nI (w % 2) = (1 : Int32) from nI_neq (c := 1) (by omega) (by omega) ho), q289, znc0, zfl_k _ (by omega)]
      exact hK
theorem q260 (hk : k ≤ 12) (h : f 178 44 = nI k) (ha : ∀ j, j < k → f 203 j = nI (a j) ∧ a j ≤ 11) (hw : w < 4) (ht : t ≤ 11) (hi : i < k) : zCpi X (d + 1) 260 [.ref 178, .int (nI w), .int (nI t), .int (nI i)] (zs f g) K = K (nI (zno a k w t i)) f g := by
  refine zCpi_eq (fun K hK => e260_178 ?_)
  unfold zno at hK
  obtain ⟨e0, b0⟩ := ha 0 (by omega)
  have hr : nI w - nI w / 2 * 2 = nI (w % 2) := zrem2 (by omega)
  have c0 : ¬ ((0 : Int32) < 0 ∨ 12 ≤ (0 : Int32).toNatClampNeg) := by decide
  by_cases hw2 : w < 2
  · rw [if_pos (show nI w ≤ (1 : Int32) from nI_le (b := 1) (by omega) (by omega)), if_neg (nI_in (by omega) (by omega)), nI_cl (by omega)]
    obtain ⟨e1, b1⟩ := ha i hi
    simp only [zq_2, zq_12, if_false, if_neg c0, zrO.2, zmO.2, zsO.2, hr, e1, e0, if_pos hw2] at hK ⊢
    by_cases ho : w % 2 = 1
    · rw [if_pos ho] at hK
      rw [if_pos (show nI (w % 2) = (1 : Int32) by rw [ho]; rfl), znc1 b1, zfr_k _ (by omega)]
      exact hK
    · rw [if_neg ho] at hK
      rw [if_neg (show ¬ nI (w % 2) = (1 : Int32) from nI_neq (c := 1) (by omega) (by omega) ho), znc0, zfr_k _ (by omega)]
      exact hK
  · have e9 : nI k - 1 - nI i = nI (k - 1 - i) := by
      have e8 := pk_sub (a := k) (b := 1) (by omega)
      rw [show nI k - 1 = nI (k - 1) from e8, pk_sub (by omega)]
    simp only [zsO.2]
    rw [if_neg (show ¬ nI w ≤ (1 : Int32) from nI_ge (a := 1) (by omega) (by omega)), h, e9, if_neg (nI_in (by omega) (by omega)), nI_cl (by omega)]
    obtain ⟨e1, b1⟩ := ha (k - 1 - i) (by omega)
    simp only [zq_2, zq_12, if_false, if_neg c0, zrO.2, zmO.2, zsO.2, hr, e1, e0, if_neg hw2] at hK ⊢
    by_cases ho : w % 2 = 1
    · rw [if_pos ho] at hK
      rw [if_pos (show nI (w % 2) = (1 : Int32) by rw [ho]; rfl), znc1 b1, zfr_k _ (by omega)]
      exact hK
    · rw [if_neg ho] at hK
      rw [if_neg (show ¬ nI (w % 2) = (1 : Int32) from nI_neq (c := 1) (by omega) (by omega) ho), znc0, zfr_k _ (by omega)]
      exact hK
/-- the set of steps -/
def zst8 (a : Nat → Nat) (k w t i s : Nat) : Nat := s ||| 2 ^ ((zno a k w t i + 12 - zno a k w t (i - 1)) % 12)
theorem zno_lt : zno a k w t i < 12 := by
  unfold zno
  split <;> omega
theorem zst8_t (ha : ∀ j, j < k → a j ≤ 11) (hi : i < k) (h0 : 0 < i) {s : Nat} : zst8 a k w t i s = zst8 a k w 0 i s := by
  unfold zst8
  congr 2
  unfold zno
  have h1 := ha i hi
  have h2 := ha (i - 1) (by omega)
  have h3 := ha (k - 1 - i) (by omega)
  have h4 := ha (k - 1 - (i - 1)) (by omega)
  by_cases ho : w % 2 = 1
  · simp only [if_pos ho]
    by_cases hw : w < 2
    · simp only [if_pos hw]; omega
    · simp only [if_neg hw]; omega
  · simp only [if_neg ho]
    by_cases hw : w < 2
    · simp only [if_pos hw]; omega
    · simp only [if_neg hw]; omega
theorem zst8_lt {s : Nat} (hs : s < 4096) : zst8 a k w t i s < 4096 := by
  unfold zst8
  have h1 : 2 ^ ((zno a k w t i + 12 - zno a k w t (i - 1)) % 12) < 2 ^ 12 := Nat.pow_lt_pow_right (by omega) (Nat.mod_lt _ (by omega))
  exact Nat.or_lt_two_pow (n := 12) hs h1
theorem zsd {p q : Nat} (hp : p < 12) (hq : q < 12) : zfl (nI p - nI q) = nI ((p + 12 - q) % 12) := by
  have h : ∀ p, p < 12 → ∀ q, q < 12 → zfl (nI p - nI q) = nI ((p + 12 - q) % 12) := by decide +kernel
  exact h p hp q hq
theorem zse {p q : Nat} (hp : p < 12) (hq : q < 12) : nI p - nI q + 12 - (nI p - nI q + 12) / 12 * 12 = nI ((p + 12 - q) % 12) := by
  have h : ∀ p, p < 12 → ∀ q, q < 12 → nI p - nI q + 12 - (nI p - nI q + 12) / 12 * 12 = nI ((p + 12 - q) % 12) := by decide +kernel
  exact h p hp q hq
theorem q100 (hk : k ≤ 12) (h : f 25 1 = nI k) (ha : ∀ j, j < k → f 26 j = nI (a j) ∧ a j ≤ 11) (hw : w < 4) : zCpi X (d + 3) 100 [.ref 25, .int (nI w)] (zs f g) K = K (nI (zpc 12 (zfold (zst8 a k w 0) (k - 1) 1 0))) f g := by
  refine zCpi_eq (fun K hK => e100_25 ?_)
  by_cases hk0 : k = 0
  · subst hk0
    apply s100_4_25
    rw [h, if_pos (show nI 0 ≤ (1 : Int32) from by decide)]
    have q0 : ∀ {K : Int32 → (Nat → Nat → Int32) → (Nat → Nat → Int64) → Prop}, zCpi X (d + 1 + 1) 284 [.int 0] (zs f g) K = K (nI (zpc 12 0)) f g := q284n (n := 0) (by omega)
    rw [q0]
    exact hK
  refine zloop (st := zst8 a k w 0) (W := fun i s => 0 < i → s < 4096 → zWp X (d + 2) zm100 4 [.ref 25, .int (nI w), .int (nI s), .int (nI i), .null] [] (zs f g) (zQi K)) (E := fun s => K (nI (zpc 12 s)) f g) k ?_ ?_ (k - 1) 1 0 (by omega) hK (by omega) (by omega)
  · intro s hs _ hs4
    apply s100_4_25
    rw [h, if_pos (nI_le (by omega) (by omega)), q284n hs4]
    exact hs
  · intro i s hi hs h0 hs4
    have q0 : ∀ {j : Nat} {K : Int32 → (Nat → Nat → Int32) → (Nat → Nat → Int64) → Prop}, j < k → zCpi X (d + 1 + 1) 101 [.ref 25, .int (nI w), .int 0, .int (nI j)] (zs f g) K = K (nI (zno a k w 0 j)) f g := fun hj => q101 (t := 0) (d := d) hk h ha hw (by omega) hj
    have e8 : nI i - 1 = nI (i - 1) := pk_sub (a := i) (b := 1) (by omega)
    apply s100_4_25
    rw [h, if_neg (nI_ge (by omega) (by omega)), q0 hi, zsO.2, e8, q0 (by omega), zsO.2, q289, zsd zno_lt zno_lt, zhO.2, zsh1 _ (by omega), nx_or, nI_1]
    exact hs (by omega) (zst8_lt hs4)
theorem l259 {x3 : Int32} (hk : k ≤ 12) (h : f 178 44 = nI k) (ha : ∀ j, j < k → f 203 j = nI (a j) ∧ a j ≤ 11) (hw : w < 4) (ht : t ≤ 11) (hK : K (nI (zpc 12 (zfold (zst8 a k w 0) (k - 1) 1 0))) f g) : zWp X (d + 2) zm259 62 [.ref 178, .int (nI w), .int (nI t), .int x3, .int 0, .int 1] [] (zs f g) (zQi K) := by
  by_cases hk0 : k = 0
  · subst hk0
    apply s259_62_178
    rw [h, if_pos (show nI 0 ≤ (1 : Int32) from by decide)]
    have q0 : ∀ {K : Int32 → (Nat → Nat → Int32) → (Nat → Nat → Int64) → Prop}, zCpi X (d + 1 + 1) 238 [.ref 178, .int 0] (zs f g) K = K (nI (zpc 12 0)) f g := q238 (n := 0) (by omega)
    rw [q0]
    exact hK
  refine zloop (st := zst8 a k w 0) (W := fun i s => 0 < i → s < 4096 → zWp X (d + 2) zm259 62 [.ref 178, .int (nI w), .int (nI t), .int x3, .int (nI s), .int (nI i)] [] (zs f g) (zQi K)) (E := fun s => K (nI (zpc 12 s)) f g) k ?_ ?_ (k - 1) 1 0 (by omega) hK (by omega) (by omega)
  · intro s hs _ hs4
    apply s259_62_178
    rw [h, if_pos (nI_le (by omega) (by omega)), q238 hs4]
    exact hs
  · intro i s hi hs h0 hs4
    have e8 : nI i - 1 = nI (i - 1) := pk_sub (a := i) (b := 1) (by omega)
    apply s259_62_178
    rw [h, if_neg (nI_ge (by omega) (by omega)), q260 hk h ha hw ht hi, zsO.2, e8, q260 hk h ha hw ht (by omega), if_neg (by decide), zsO.2, zrO.2, zse zno_lt zno_lt, zhO.2, zsh1 _ (by omega), nx_or, nI_1]
    have z := hs (by omega) (zst8_lt hs4)
    rw [← zst8_t (t := t) (fun j hj => (ha j hj).2) hi h0] at z
    exact z
end ZSE
set_option maxHeartbeats 1000000 in
theorem op_series {X : Nat × (Nat → Int32)} {d : Nat} {a b v : Int32} : zOp X (d + 4) 146 259 [.int a, .int b, .int v] := by
  intro fc fr gc gr hR
  obtain ⟨⟨c1, c2, c3, c4, c5, c6, c7, c8, c9, c10, c11⟩, c12, c13, c14, c15, c16⟩ := hR
  have hR0 : zRel fc gc (zuI fr 178 0 0) := by
    refine ⟨⟨?_, ?_, ?_, ?_, ?_, ?_, ?_, ?_, ?_, ?_, ?_⟩, ?_, ?_, ?_, ?_, ?_⟩
    all_goals try (first | assumption | (simp only [zi_ne, zi_at, zr_ne, zr_at, zj_ne, zj_at, ↓reduceIte, Nat.reduceEqDiff, not_false_eq_true, eq_self, nI_1]; assumption) | (simp only [zi_ne, zi_at, zr_ne, zr_at, zj_ne, zj_at, ↓reduceIte, Nat.reduceEqDiff, not_false_eq_true, eq_self, nI_1]; exact zRow_nil) | (exact zPas_frame (fun i _ _ => by first | rfl | (repeat (first | rw [zi_ne (by omega)] | rw [zr_ne (by omega)]))) (by first | rfl | (simp only [zi_ne, zi_at, zr_ne, zr_at, zj_ne, zj_at, ↓reduceIte, Nat.reduceEqDiff, not_false_eq_true, eq_self, nI_1])) (fun i _ _ => rfl) rfl (by first | rfl | (simp only [zi_ne, zi_at, zr_ne, zr_at, zj_ne, zj_at, ↓reduceIte, Nat.reduceEqDiff, not_false_eq_true, eq_self, nI_1])) (by first | rfl | (simp only [zi_ne, zi_at, zr_ne, zr_at, zj_ne, zj_at, ↓reduceIte, Nat.reduceEqDiff, not_false_eq_true, eq_self, nI_1])) (by first | rfl | (simp only [zi_ne, zi_at, zr_ne, zr_at, zj_ne, zj_at, ↓reduceIte, Nat.reduceEqDiff, not_false_eq_true, eq_self, nI_1])) (by first | rfl | (simp only [zi_ne, zi_at, zr_ne, zr_at, zj_ne, zj_at, ↓reduceIte, Nat.reduceEqDiff, not_false_eq_true, eq_self, nI_1])) c14) | (exact zIma_frame (by first | rfl | (simp only [zi_ne, zi_at, zr_ne, zr_at, zj_ne, zj_at, ↓reduceIte, Nat.reduceEqDiff, not_false_eq_true, eq_self, nI_1])) (fun i _ _ => by first | rfl | (repeat (first | rw [zi_ne (by omega)] | rw [zr_ne (by omega)]))) rfl (by first | rfl | (simp only [zi_ne, zi_at, zr_ne, zr_at, zj_ne, zj_at, ↓reduceIte, Nat.reduceEqDiff, not_false_eq_true, eq_self, nI_1])) (by first | rfl | (simp only [zi_ne, zi_at, zr_ne, zr_at, zj_ne, zj_at, ↓reduceIte, Nat.reduceEqDiff, not_false_eq_true, eq_self, nI_1])) c15))
  obtain ⟨k, hk, e1, e2, e3⟩ := id c2
  have hst := nI_st (k := k) (by omega)
  have e2' : zuI fr 178 0 0 178 44 = nI k := by simp only [zi_ne, zi_at, zr_ne, zr_at, zj_ne, zj_at, ↓reduceIte, Nat.reduceEqDiff, not_false_eq_true, eq_self, nI_1]; exact e2
  have r203 : zuI fr 178 0 0 203 = fr 203 := by simp only [zi_ne, zi_at, zr_ne, zr_at, zj_ne, zj_at, ↓reduceIte, Nat.reduceEqDiff, not_false_eq_true, eq_self, nI_1]
  have an : ∀ j, j < k → fc 26 j = nI ((fc 26 j).toInt.toNat) ∧ (fc 26 j).toInt.toNat ≤ 11 := fun j hj => by
    obtain ⟨y1, y2, y3⟩ := e3 j hj
    refine ⟨?_, by omega⟩
    rw [zeqI, nI_ti (by omega)]
    omega
  have bn : ∀ j, j < k → zuI fr 178 0 0 203 j = nI ((fc 26 j).toInt.toNat) ∧ (fc 26 j).toInt.toNat ≤ 11 := fun j hj => by
    rw [r203, ← (e3 j hj).1]
    exact an j hj
  by_cases ha : 0 ≤ a.toInt ∧ a.toInt ≤ 3
  · by_cases hb : 0 ≤ b.toInt ∧ b.toInt ≤ 11
    · by_cases hv : -1 ≤ v.toInt ∧ v.toInt ≤ k - 1
      · obtain ⟨w, hw, ew⟩ := zixn (x := a) (n := 4) (by omega) (by omega) (by omega)
        obtain ⟨t, ht, et⟩ := zixn (x := b) (n := 12) (by omega) (by omega) (by omega)
        subst ew
        subst et
        by_cases hv1 : v = -1
        · subst hv1
          have hn1 : (-1 : Int) ≤ (k : Int) - 1 := by omega
          apply e146_0
          simp only [q124, ha, hb, hn1, e1, hst, q100 hk e1 an hw, true_or, or_true, false_or, or_false, or_self, and_self, true_and, and_true, not_true_eq_false, not_false_eq_true, ↓reduceIte, eq_self, zq_01, zq_10, zq_m0, zq_m1, zq_0m, zq_1m, zq_2, zq_6, zq_8, zq_10z, zq_12, zq_1000, Int32.reduceLT, Int32.reduceLE, Int32.reduceToInt, Int32.reduceToNatClampNeg, Int32.reduceOfNat, Int.reduceLT, Int.reduceLE, Int.reduceEq, Nat.reduceLeDiff, Nat.reduceEqDiff, zl_2, zl_8, zl_12, zl_50, zl_132, zl_133, zl_134, zl_999, zl_10000, zb_0, zb_1, zsO.2, zmO.2, znO.2, zdO.2, zrO.2, zhO.2, zgO.2, zuO.2, zlH.2, zlU.2, zlS.2]
          apply e259_178
          simp only [q165, ha, hb, hn1, e2', hst, true_or, or_true, false_or, or_false, or_self, and_self, true_and, and_true, not_true_eq_false, not_false_eq_true, ↓reduceIte, eq_self, zq_01, zq_10, zq_m0, zq_m1, zq_0m, zq_1m, zq_2, zq_6, zq_8, zq_10z, zq_12, zq_1000, Int32.reduceLT, Int32.reduceLE, Int32.reduceToInt, Int32.reduceToNatClampNeg, Int32.reduceOfNat, Int.reduceLT, Int.reduceLE, Int.reduceEq, Nat.reduceLeDiff, Nat.reduceEqDiff, zl_2, zl_8, zl_12, zl_50, zl_132, zl_133, zl_134, zl_999, zl_10000, zb_0, zb_1, zsO.2, zmO.2, znO.2, zdO.2, zrO.2, zhO.2, zgO.2, zuO.2, zlH.2, zlU.2, zlS.2]
          refine l259 (d := d + 1) hk e2' bn hw (by omega) ?_
          exact ⟨rfl, hR0⟩
        · obtain ⟨i, hi, ei⟩ := zixn (x := v) (n := k) (by have : ¬ v.toInt = -1 := fun z => hv1 (zeqI.mpr z); omega) (by omega) (by omega)
          subst ei
          apply e146_0
          simp only [q124, ha, hb, hv, hv1, e1, hst, q101 hk e1 an hw (show t ≤ 11 by omega) hi, true_or, or_true, false_or, or_false, or_self, and_self, true_and, and_true, not_true_eq_false, not_false_eq_true, ↓reduceIte, eq_self, zq_01, zq_10, zq_m0, zq_m1, zq_0m, zq_1m, zq_2, zq_6, zq_8, zq_10z, zq_12, zq_1000, Int32.reduceLT, Int32.reduceLE, Int32.reduceToInt, Int32.reduceToNatClampNeg, Int32.reduceOfNat, Int.reduceLT, Int.reduceLE, Int.reduceEq, Nat.reduceLeDiff, Nat.reduceEqDiff, zl_2, zl_8, zl_12, zl_50, zl_132, zl_133, zl_134, zl_999, zl_10000, zb_0, zb_1, zsO.2, zmO.2, znO.2, zdO.2, zrO.2, zhO.2, zgO.2, zuO.2, zlH.2, zlU.2, zlS.2]
          apply e259_178
          simp only [q165, ha, hb, hv, hv1, e2', hst, q260 hk e2' bn hw (show t ≤ 11 by omega) hi, true_or, or_true, false_or, or_false, or_self, and_self, true_and, and_true, not_true_eq_false, not_false_eq_true, ↓reduceIte, eq_self, zq_01, zq_10, zq_m0, zq_m1, zq_0m, zq_1m, zq_2, zq_6, zq_8, zq_10z, zq_12, zq_1000, Int32.reduceLT, Int32.reduceLE, Int32.reduceToInt, Int32.reduceToNatClampNeg, Int32.reduceOfNat, Int.reduceLT, Int.reduceLE, Int.reduceEq, Nat.reduceLeDiff, Nat.reduceEqDiff, zl_2, zl_8, zl_12, zl_50, zl_132, zl_133, zl_134, zl_999, zl_10000, zb_0, zb_1, zsO.2, zmO.2, znO.2, zdO.2, zrO.2, zhO.2, zgO.2, zuO.2, zlH.2, zlU.2, zlS.2]
          exact ⟨rfl, hR0⟩
      · apply e146_0
        simp only [q124, ha, hb, hv, e1, hst, true_or, or_true, false_or, or_false, or_self, and_self, true_and, and_true, not_true_eq_false, not_false_eq_true, ↓reduceIte, eq_self, zq_01, zq_10, zq_m0, zq_m1, zq_0m, zq_1m, zq_2, zq_6, zq_8, zq_10z, zq_12, zq_1000, Int32.reduceLT, Int32.reduceLE, Int32.reduceToInt, Int32.reduceToNatClampNeg, Int32.reduceOfNat, Int.reduceLT, Int.reduceLE, Int.reduceEq, Nat.reduceLeDiff, Nat.reduceEqDiff, zl_2, zl_8, zl_12, zl_50, zl_132, zl_133, zl_134, zl_999, zl_10000, zb_0, zb_1, zsO.2, zmO.2, znO.2, zdO.2, zrO.2, zhO.2, zgO.2, zuO.2, zlH.2, zlU.2, zlS.2]
        apply e259_178
        simp only [q165, ha, hb, hv, e2', hst, true_or, or_true, false_or, or_false, or_self, and_self, true_and, and_true, not_true_eq_false, not_false_eq_true, ↓reduceIte, eq_self, zq_01, zq_10, zq_m0, zq_m1, zq_0m, zq_1m, zq_2, zq_6, zq_8, zq_10z, zq_12, zq_1000, Int32.reduceLT, Int32.reduceLE, Int32.reduceToInt, Int32.reduceToNatClampNeg, Int32.reduceOfNat, Int.reduceLT, Int.reduceLE, Int.reduceEq, Nat.reduceLeDiff, Nat.reduceEqDiff, zl_2, zl_8, zl_12, zl_50, zl_132, zl_133, zl_134, zl_999, zl_10000, zb_0, zb_1, zsO.2, zmO.2, znO.2, zdO.2, zrO.2, zhO.2, zgO.2, zuO.2, zlH.2, zlU.2, zlS.2]
        exact ⟨rfl, hR0⟩
    · apply e146_0
      simp only [q124, ha, hb, true_or, or_true, false_or, or_false, or_self, and_self, true_and, and_true, not_true_eq_false, not_false_eq_true, ↓reduceIte, eq_self, zq_01, zq_10, zq_m0, zq_m1, zq_0m, zq_1m, zq_2, zq_6, zq_8, zq_10z, zq_12, zq_1000, Int32.reduceLT, Int32.reduceLE, Int32.reduceToInt, Int32.reduceToNatClampNeg, Int32.reduceOfNat, Int.reduceLT, Int.reduceLE, Int.reduceEq, Nat.reduceLeDiff, Nat.reduceEqDiff, zl_2, zl_8, zl_12, zl_50, zl_132, zl_133, zl_134, zl_999, zl_10000, zb_0, zb_1, zsO.2, zmO.2, znO.2, zdO.2, zrO.2, zhO.2, zgO.2, zuO.2, zlH.2, zlU.2, zlS.2]
      apply e259_178
      simp only [q165, ha, hb, true_or, or_true, false_or, or_false, or_self, and_self, true_and, and_true, not_true_eq_false, not_false_eq_true, ↓reduceIte, eq_self, zq_01, zq_10, zq_m0, zq_m1, zq_0m, zq_1m, zq_2, zq_6, zq_8, zq_10z, zq_12, zq_1000, Int32.reduceLT, Int32.reduceLE, Int32.reduceToInt, Int32.reduceToNatClampNeg, Int32.reduceOfNat, Int.reduceLT, Int.reduceLE, Int.reduceEq, Nat.reduceLeDiff, Nat.reduceEqDiff, zl_2, zl_8, zl_12, zl_50, zl_132, zl_133, zl_134, zl_999, zl_10000, zb_0, zb_1, zsO.2, zmO.2, znO.2, zdO.2, zrO.2, zhO.2, zgO.2, zuO.2, zlH.2, zlU.2, zlS.2]
      exact ⟨rfl, hR0⟩
  · apply e146_0
    simp only [q124, ha, true_or, or_true, false_or, or_false, or_self, and_self, true_and, and_true, not_true_eq_false, not_false_eq_true, ↓reduceIte, eq_self, zq_01, zq_10, zq_m0, zq_m1, zq_0m, zq_1m, zq_2, zq_6, zq_8, zq_10z, zq_12, zq_1000, Int32.reduceLT, Int32.reduceLE, Int32.reduceToInt, Int32.reduceToNatClampNeg, Int32.reduceOfNat, Int.reduceLT, Int.reduceLE, Int.reduceEq, Nat.reduceLeDiff, Nat.reduceEqDiff, zl_2, zl_8, zl_12, zl_50, zl_132, zl_133, zl_134, zl_999, zl_10000, zb_0, zb_1, zsO.2, zmO.2, znO.2, zdO.2, zrO.2, zhO.2, zgO.2, zuO.2, zlH.2, zlU.2, zlS.2]
    apply e259_178
    simp only [q165, ha, true_or, or_true, false_or, or_false, or_self, and_self, true_and, and_true, not_true_eq_false, not_false_eq_true, ↓reduceIte, eq_self, zq_01, zq_10, zq_m0, zq_m1, zq_0m, zq_1m, zq_2, zq_6, zq_8, zq_10z, zq_12, zq_1000, Int32.reduceLT, Int32.reduceLE, Int32.reduceToInt, Int32.reduceToNatClampNeg, Int32.reduceOfNat, Int.reduceLT, Int.reduceLE, Int.reduceEq, Nat.reduceLeDiff, Nat.reduceEqDiff, zl_2, zl_8, zl_12, zl_50, zl_132, zl_133, zl_134, zl_999, zl_10000, zb_0, zb_1, zsO.2, zmO.2, znO.2, zdO.2, zrO.2, zhO.2, zgO.2, zuO.2, zlH.2, zlU.2, zlS.2]
    exact ⟨rfl, hR0⟩

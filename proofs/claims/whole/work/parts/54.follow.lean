/-! to follow one; what is written; what slips -/
section ZEX
variable {X : Nat × (Nat → Int32)} {d a : Nat} {As : List Value} {S : zSt}
/-- where a run ends -/
theorem zCpi_en {Q : Int32 → (Nat → Nat → Int32) → (Nat → Nat → Int64) → Prop} (h : zCpi X d a As S Q) : ∃ v f1 g1, Q v f1 g1 ∧ ∀ K : Int32 → (Nat → Nat → Int32) → (Nat → Nat → Int64) → Prop, zCpi X d a As S K = K v f1 g1 := by
  obtain ⟨n, r, S1, h1, h2, v1, f1, g1, e1, e2, e3⟩ := h
  exact ⟨v1, f1, g1, e3, fun K => zCpi_eq (fun K hK => ⟨n, r, S1, h1, h2, v1, f1, g1, e1, e2, hK⟩)⟩
theorem zCpv_en {Q : (Nat → Nat → Int32) → (Nat → Nat → Int64) → Prop} (h : zCpv X d a As S Q) : ∃ f1 g1, Q f1 g1 ∧ ∀ K : (Nat → Nat → Int32) → (Nat → Nat → Int64) → Prop, zCpv X d a As S K = K f1 g1 := by
  obtain ⟨n, r, S1, h1, h2, f1, g1, e1, e2, e3⟩ := h
  exact ⟨f1, g1, e3, fun K => zCpv_eq (fun K hK => ⟨n, r, S1, h1, h2, f1, g1, e1, e2, hK⟩)⟩
end ZEX
theorem zt_add {a b : Int32} (h1 : -1000000 ≤ a.toInt + b.toInt) (h2 : a.toInt + b.toInt ≤ 1000000) : (a + b).toInt = a.toInt + b.toInt := by
  rw [Int32.toInt_add, Int.bmod_eq_of_le] <;> omega
theorem zt_sub {a b : Int32} (h1 : -1000000 ≤ a.toInt - b.toInt) (h2 : a.toInt - b.toInt ≤ 1000000) : (a - b).toInt = a.toInt - b.toInt := by
  rw [Int32.toInt_sub, Int.bmod_eq_of_le] <;> omega
theorem zt_neg {a : Int32} (h1 : -1000000 ≤ a.toInt) (h2 : a.toInt ≤ 1000000) : (-a).toInt = -a.toInt := by
  rw [Int32.toInt_neg, Int.bmod_eq_of_le] <;> omega
theorem zt_dbl {a : Int32} (h1 : 0 ≤ a.toInt) (h2 : a.toInt ≤ 1000000) : (2 * a).toInt = 2 * a.toInt := by
  rw [Int32.toInt_mul]
  show (2 * a.toInt).bmod (2 ^ 32) = 2 * a.toInt
  rw [Int.bmod_eq_of_le] <;> omega
theorem zfo_eq {a b : Int32} (hb : 0 ≤ b.toInt) (hb2 : b.toInt ≤ 1000) (ha : -1000 ≤ a.toInt) (ha2 : a.toInt ≤ 1000) : (0 ≤ a → zmn (zab a) b = zhe a (-b) b) ∧ (¬ 0 ≤ a → -(zmn (zab a) b) = zhe a (-b) b) := by
  have tb := zt_neg (a := b) (by omega) (by omega)
  have ta := zt_neg (a := a) (by omega) (by omega)
  have t0 : (0 : Int32).toInt = 0 := rfl
  constructor
  · intro h
    unfold zmn zab zhe
    rw [if_pos h]
    simp only [Int32.lt_iff_toInt_lt, Int32.le_iff_toInt_le, t0, tb] at h ⊢
    by_cases h2 : b.toInt < a.toInt
    · rw [if_pos h2, if_neg (by omega)]
    · rw [if_neg h2, if_neg (by omega)]
  · intro h
    unfold zmn zab zhe
    rw [if_neg h]
    simp only [Int32.lt_iff_toInt_lt, Int32.le_iff_toInt_le, t0, tb, ta] at h ⊢
    by_cases h2 : b.toInt < -a.toInt
    · rw [if_pos h2, if_pos (by omega)]
    · rw [if_neg h2, if_neg (by omega), if_neg (by omega), Int32.neg_neg]
theorem zfo_in {x y b : Int32} (hb : 0 ≤ b.toInt) (hb2 : b.toInt ≤ 1000) (hx : -50 ≤ x.toInt ∧ x.toInt ≤ 50) (hy : -50 ≤ y.toInt ∧ y.toInt ≤ 50) : -50 ≤ (x + zhe (y - x) (-b) b).toInt ∧ (x + zhe (y - x) (-b) b).toInt ≤ 50 := by
  have tb := zt_neg (a := b) (by omega) (by omega)
  have ts := zt_sub (a := y) (b := x) (by omega) (by omega)
  unfold zhe
  simp only [Int32.lt_iff_toInt_lt, Int32.le_iff_toInt_le, tb, ts]
  split
  · rw [zt_add] <;> rw [tb] <;> omega
  · split
    · rw [zt_add] <;> omega
    · rw [zt_add] <;> rw [ts] <;> omega
theorem zhe_in {v lo hi : Int32} (h : lo.toInt ≤ hi.toInt) : lo.toInt ≤ (zhe v lo hi).toInt ∧ (zhe v lo hi).toInt ≤ hi.toInt := by
  unfold zhe
  simp only [Int32.lt_iff_toInt_lt, Int32.le_iff_toInt_le]
  split
  · omega
  · split <;> omega
theorem zu_id {f : Nat → Nat → Int32} {i k : Nat} : zuI f i k (f i k) = f := by
  funext a b
  by_cases h : a = i
  · subst h
    rw [zi_at]
    split
    · next e => rw [e]
    · rfl
  · rw [zi_ne h]
/-- a real beat: lines go into the book; one in thought -/
def zPr_147 (f r : Nat → Nat → Int32) : Prop := f 147 2 = 1 ∧ r 178 5 = 0 ∧ zBoo (f 11 1) (f 12) (r 179 2) (r 184)
def zPr_158 (f r : Nat → Nat → Int32) : Prop := f 158 2 = 0 ∧ r 178 5 = 1
def zBk_147 (f _r F _R : Nat → Nat → Int32) : Prop := ∃ s s' : Nat, f 11 1 = nI s ∧ F 11 1 = nI s' ∧ s ≤ s' ∧ s' ≤ 150
def zBk_158 (f r F R : Nat → Nat → Int32) : Prop := F 11 = f 11 ∧ F 12 = f 12 ∧ R 184 = r 184 ∧ R 179 2 = r 179 2
theorem zBk_147_rf {f r : Nat → Nat → Int32} (h : zPr_147 f r) : zBk_147 f r f r := by
  obtain ⟨-, -, k, hk, h1, h2, -⟩ := h
  exact ⟨k, k, h1, h1, Nat.le_refl _, hk⟩
theorem zBk_158_rf {f r : Nat → Nat → Int32} (_ : zPr_158 f r) : zBk_158 f r f r := ⟨rfl, rfl, rfl, rfl⟩
theorem zBk_147_tr {f r F R G S : Nat → Nat → Int32} (h1 : zBk_147 f r F R) (h2 : zBk_147 F R G S) : zBk_147 f r G S := by
  obtain ⟨a, b, e1, e2, e3, e4⟩ := h1
  obtain ⟨a', b', e1', e2', e3', e4'⟩ := h2
  have e : b = a' := (nI_eq (by omega) (by omega)).mp (e2.symm.trans e1')
  exact ⟨a, b', e1, e2', by omega, e4'⟩
theorem zBk_158_tr {f r F R G S : Nat → Nat → Int32} (h1 : zBk_158 f r F R) (h2 : zBk_158 F R G S) : zBk_158 f r G S := ⟨h2.1.trans h1.1, h2.2.1.trans h1.2.1, h2.2.2.1.trans h1.2.2.1, h2.2.2.2.trans h1.2.2.2⟩
section ZFO
variable {X : Nat × (Nat → Int32)} {d e : Nat} {f r : Nat → Nat → Int32} {g gr : Nat → Nat → Int64} {K : Int32 → (Nat → Nat → Int32) → (Nat → Nat → Int64) → Prop}
/-- only the book may have grown -/
def zWt_147 (f r F R : Nat → Nat → Int32) : Prop := (∀ i, ¬ i = 11 → ¬ i = 12 → F i = f i) ∧ (∀ i, ¬ i = 179 → ¬ i = 184 → R i = r i) ∧ (∀ j, ¬ j = 2 → R 179 j = r 179 j) ∧ zBk_147 f r F R ∧ zPr_147 F R
/-- only the book may have grown -/
def zWt_158 (f r F R : Nat → Nat → Int32) : Prop := (∀ i, ¬ i = 11 → ¬ i = 12 → F i = f i) ∧ (∀ i, ¬ i = 179 → ¬ i = 184 → R i = r i) ∧ (∀ j, ¬ j = 2 → R 179 j = r 179 j) ∧ zBk_158 f r F R ∧ zPr_158 F R
theorem wr_147 {a1 a2 a3 : Int32} (hp : zPr_147 f r) (hb : f 148 11 = r 179 0) : ∃ F R, (∀ K : (Nat → Nat → Int32) → (Nat → Nat → Int64) → Prop, zCpv X (d + 2) 14 [.ref 147, .int a1, .int a2, .int a3] (zs f g) K = K F g) ∧ (∀ K : (Nat → Nat → Int32) → (Nat → Nat → Int64) → Prop, zCpv X (e + 1) 235 [.ref 178, .int a1, .int a2, .int a3] (zs r gr) K = K R gr) ∧ zWt_147 f r F R := by
  obtain ⟨p1, p2, k, hk, b1, b2, b3⟩ := id hp
  refine ⟨if k = 150 then f else zuI (zbl f 12 k (f 148 11) a1 a2 a3) 11 1 (nI (k + 1)), if k = 150 then r else zuI (zbl r 184 k (r 179 0) a1 a2 a3) 179 2 (nI (k + 1)), fun K => zCpv_eq (fun K hK => ?_), fun K => ?_, ?_⟩
  · apply e14_147
    rw [p1, if_neg (by decide), q1 hk b1]
    exact hK
  · rw [q235 hk b2 p2]
  · by_cases e : k = 150
    · rw [if_pos e, if_pos e]
      exact ⟨fun _ _ _ => rfl, fun _ _ _ => rfl, fun _ _ => rfl, zBk_147_rf hp, hp⟩
    · rw [if_neg e, if_neg e]
      refine ⟨fun i i1 i2 => by rw [zi_ne i1, zbl_ne i2], fun i i1 i2 => by rw [zi_ne i1, zbl_ne i2], fun j hj => by rw [zi_at, if_neg hj, zbl_ne (by omega)], ⟨k, k + 1, b1, by rw [zi_at, if_pos rfl], by omega, by omega⟩, ?_, ?_, k + 1, by omega, by rw [zi_at, if_pos rfl], by rw [zi_at, if_pos rfl], fun j hj => ?_⟩
      · rw [zi_ne (by omega), zbl_ne (by omega)]; exact p1
      · rw [zi_ne (by omega), zbl_ne (by omega)]; exact p2
      · rw [zi_ne (by omega), zi_ne (by omega), zbl_at, zbl_at, hb]
        by_cases h3 : j = 4 * k + 3
        · rw [if_pos h3, if_pos h3]
        · rw [if_neg h3, if_neg h3]
          by_cases h2 : j = 4 * k + 2
          · rw [if_pos h2, if_pos h2]
          · rw [if_neg h2, if_neg h2]
            by_cases h1 : j = 4 * k + 1
            · rw [if_pos h1, if_pos h1]
            · rw [if_neg h1, if_neg h1]
              by_cases h0 : j = 4 * k
              · rw [if_pos h0, if_pos h0]
              · rw [if_neg h0, if_neg h0]
                exact b3 j (by omega)
theorem wr_158 {a1 a2 a3 : Int32} (hp : zPr_158 f r) (_ : f 159 11 = r 179 0) : ∃ F R, (∀ K : (Nat → Nat → Int32) → (Nat → Nat → Int64) → Prop, zCpv X (d + 2) 14 [.ref 158, .int a1, .int a2, .int a3] (zs f g) K = K F g) ∧ (∀ K : (Nat → Nat → Int32) → (Nat → Nat → Int64) → Prop, zCpv X (e + 1) 235 [.ref 178, .int a1, .int a2, .int a3] (zs r gr) K = K R gr) ∧ zWt_158 f r F R := by
  refine ⟨f, r, fun K => zCpv_eq (fun K hK => ?_), fun K => q235_0 hp.2, fun _ _ _ => rfl, fun _ _ _ => rfl, fun _ _ => rfl, zBk_158_rf hp, hp⟩
  apply e14_158
  rw [hp.1, if_pos rfl]
  exact hK
theorem hp_147 {l : Int32} (hp : zPr_147 f r) (hst : f 2 9 = r 179 1) (_ : 0 ≤ l.toInt) (_ : l.toInt ≤ 1000) : ∃ v st : Int32, (v = 0 ∨ v = 1) ∧ (∀ K : Int32 → (Nat → Nat → Int32) → (Nat → Nat → Int64) → Prop, zCpi X (d + 2) 13 [.ref 147, .int l] (zs f g) K = K v (zuI f 2 9 st) g) ∧ (∀ K : Int32 → (Nat → Nat → Int32) → (Nat → Nat → Int64) → Prop, zCpi X (e + 2) 232 [.ref 178, .int l] (zs r gr) K = K v (zuI r 179 1 st) gr) := by
  have z1 : ¬ ((1 : Int32) < 0 ∨ 76 ≤ (1 : Int32).toNatClampNeg) := by decide
  by_cases h0 : l ≤ 0
  · refine ⟨0, f 2 9, Or.inl rfl, fun K => zCpi_eq (fun K hK => ?_), fun K => zCpi_eq (fun K hK => ?_)⟩
    · rw [zu_id] at hK
      apply e13_147
      rw [hp.1, if_neg (by decide), if_pos h0]
      simp only [true_or, or_true, false_or, or_false, or_self, and_self, true_and, and_true, not_true_eq_false, not_false_eq_true, ↓reduceIte, eq_self, zq_01, zq_10, zq_m0, zq_m1, zq_0m, zq_1m, zq_2, zq_6, zq_8, zq_10z, zq_12, zq_1000, Int32.reduceLT, Int32.reduceLE, Int32.reduceToInt, Int32.reduceToNatClampNeg, Int32.reduceOfNat, Int.reduceLT, Int.reduceLE, Int.reduceEq, Nat.reduceLeDiff, Nat.reduceEqDiff, zl_2, zl_8, zl_12, zl_50, zl_132, zl_133, zl_134, zl_999, zl_10000]
      exact hK
    · rw [hst, zu_id] at hK
      apply e232_178
      rw [hp.2.1, if_pos rfl, if_pos h0]
      simp only [true_or, or_true, false_or, or_false, or_self, and_self, true_and, and_true, not_true_eq_false, not_false_eq_true, ↓reduceIte, eq_self, zq_01, zq_10, zq_m0, zq_m1, zq_0m, zq_1m, zq_2, zq_6, zq_8, zq_10z, zq_12, zq_1000, Int32.reduceLT, Int32.reduceLE, Int32.reduceToInt, Int32.reduceToNatClampNeg, Int32.reduceOfNat, Int.reduceLT, Int.reduceLE, Int.reduceEq, Nat.reduceLeDiff, Nat.reduceEqDiff, zl_2, zl_8, zl_12, zl_50, zl_132, zl_133, zl_134, zl_999, zl_10000]
      exact hK
  · by_cases h1 : l ≤ (zrO.1 (zuO.1 ((zmO.1 (Int32.ofNat 1664525) (f 2 9)) + (Int32.ofNat 1013904223)) 8) 1000)
    · refine ⟨0, (zmO.1 (Int32.ofNat 1664525) (f 2 9)) + (Int32.ofNat 1013904223), Or.inl rfl, fun K => zCpi_eq (fun K hK => ?_), fun K => zCpi_eq (fun K hK => ?_)⟩
      · apply e13_147
        rw [hp.1, if_neg (by decide), if_neg h0]
        apply e27_2
        rw [if_neg (by decide), if_neg (by decide), if_pos h1]
        simp only [true_or, or_true, false_or, or_false, or_self, and_self, true_and, and_true, not_true_eq_false, not_false_eq_true, ↓reduceIte, eq_self, zq_01, zq_10, zq_m0, zq_m1, zq_0m, zq_1m, zq_2, zq_6, zq_8, zq_10z, zq_12, zq_1000, Int32.reduceLT, Int32.reduceLE, Int32.reduceToInt, Int32.reduceToNatClampNeg, Int32.reduceOfNat, Int.reduceLT, Int.reduceLE, Int.reduceEq, Nat.reduceLeDiff, Nat.reduceEqDiff, zl_2, zl_8, zl_12, zl_50, zl_132, zl_133, zl_134, zl_999, zl_10000]
        exact hK
      · apply e232_178
        rw [hp.2.1, if_pos rfl, if_neg h0]
        apply e233_178
        rw [← hst, if_neg z1, if_neg z1, if_neg z1, if_neg (by decide), if_pos h1]
        simp only [true_or, or_true, false_or, or_false, or_self, and_self, true_and, and_true, not_true_eq_false, not_false_eq_true, ↓reduceIte, eq_self, zq_01, zq_10, zq_m0, zq_m1, zq_0m, zq_1m, zq_2, zq_6, zq_8, zq_10z, zq_12, zq_1000, Int32.reduceLT, Int32.reduceLE, Int32.reduceToInt, Int32.reduceToNatClampNeg, Int32.reduceOfNat, Int.reduceLT, Int.reduceLE, Int.reduceEq, Nat.reduceLeDiff, Nat.reduceEqDiff, zl_2, zl_8, zl_12, zl_50, zl_132, zl_133, zl_134, zl_999, zl_10000]
        exact hK
    · refine ⟨1, (zmO.1 (Int32.ofNat 1664525) (f 2 9)) + (Int32.ofNat 1013904223), Or.inr rfl, fun K => zCpi_eq (fun K hK => ?_), fun K => zCpi_eq (fun K hK => ?_)⟩
      · apply e13_147
        rw [hp.1, if_neg (by decide), if_neg h0]
        apply e27_2
        rw [if_neg (by decide), if_neg (by decide), if_neg h1]
        simp only [true_or, or_true, false_or, or_false, or_self, and_self, true_and, and_true, not_true_eq_false, not_false_eq_true, ↓reduceIte, eq_self, zq_01, zq_10, zq_m0, zq_m1, zq_0m, zq_1m, zq_2, zq_6, zq_8, zq_10z, zq_12, zq_1000, Int32.reduceLT, Int32.reduceLE, Int32.reduceToInt, Int32.reduceToNatClampNeg, Int32.reduceOfNat, Int.reduceLT, Int.reduceLE, Int.reduceEq, Nat.reduceLeDiff, Nat.reduceEqDiff, zl_2, zl_8, zl_12, zl_50, zl_132, zl_133, zl_134, zl_999, zl_10000]
        exact hK
      · apply e232_178
        rw [hp.2.1, if_pos rfl, if_neg h0]
        apply e233_178
        rw [← hst, if_neg z1, if_neg z1, if_neg z1, if_neg (by decide), if_neg h1]
        simp only [true_or, or_true, false_or, or_false, or_self, and_self, true_and, and_true, not_true_eq_false, not_false_eq_true, ↓reduceIte, eq_self, zq_01, zq_10, zq_m0, zq_m1, zq_0m, zq_1m, zq_2, zq_6, zq_8, zq_10z, zq_12, zq_1000, Int32.reduceLT, Int32.reduceLE, Int32.reduceToInt, Int32.reduceToNatClampNeg, Int32.reduceOfNat, Int.reduceLT, Int.reduceLE, Int.reduceEq, Nat.reduceLeDiff, Nat.reduceEqDiff, zl_2, zl_8, zl_12, zl_50, zl_132, zl_133, zl_134, zl_999, zl_10000]
        exact hK
theorem hp_158 {l : Int32} (hp : zPr_158 f r) (hst : f 138 9 = r 179 1) (hl0 : 0 ≤ l.toInt) (hl : l.toInt ≤ 1000) : ∃ v st : Int32, (v = 0 ∨ v = 1) ∧ (∀ K : Int32 → (Nat → Nat → Int32) → (Nat → Nat → Int64) → Prop, zCpi X (d + 2) 13 [.ref 158, .int l] (zs f g) K = K v (zuI f 138 9 st) g) ∧ (∀ K : Int32 → (Nat → Nat → Int32) → (Nat → Nat → Int64) → Prop, zCpi X (e + 2) 232 [.ref 178, .int l] (zs r gr) K = K v (zuI r 179 1 st) gr) := by
  have hd := zt_dbl hl0 (by omega)
  have e1 : (l < 500) = (l.toInt < 500) := by simp only [Int32.lt_iff_toInt_lt, Int32.le_iff_toInt_le, Int32.reduceToInt]
  have e2 : (2 * l < 1000) = (2 * l.toInt < 1000) := by simp only [Int32.lt_iff_toInt_lt, Int32.le_iff_toInt_le, hd, Int32.reduceToInt]
  refine ⟨if l.toInt < 500 then 0 else 1, f 138 9, by split <;> simp, fun K => zCpi_eq (fun K hK => ?_), fun K => zCpi_eq (fun K hK => ?_)⟩
  · rw [zu_id] at hK
    apply e13_158
    rw [hp.1, if_pos rfl]
    simp only [e1, true_or, or_true, false_or, or_false, or_self, and_self, true_and, and_true, not_true_eq_false, not_false_eq_true, ↓reduceIte, eq_self, zq_01, zq_10, zq_m0, zq_m1, zq_0m, zq_1m, zq_2, zq_6, zq_8, zq_10z, zq_12, zq_1000, Int32.reduceLT, Int32.reduceLE, Int32.reduceToInt, Int32.reduceToNatClampNeg, Int32.reduceOfNat, Int.reduceLT, Int.reduceLE, Int.reduceEq, Nat.reduceLeDiff, Nat.reduceEqDiff, zl_2, zl_8, zl_12, zl_50, zl_132, zl_133, zl_134, zl_999, zl_10000]
    split
    · next h => rw [if_pos h] at hK; exact hK
    · next h => rw [if_neg h] at hK; exact hK
  · rw [hst, zu_id] at hK
    apply e232_178
    rw [hp.2, if_neg (by decide)]
    simp only [zmO.2, e2, true_or, or_true, false_or, or_false, or_self, and_self, true_and, and_true, not_true_eq_false, not_false_eq_true, ↓reduceIte, eq_self, zq_01, zq_10, zq_m0, zq_m1, zq_0m, zq_1m, zq_2, zq_6, zq_8, zq_10z, zq_12, zq_1000, Int32.reduceLT, Int32.reduceLE, Int32.reduceToInt, Int32.reduceToNatClampNeg, Int32.reduceOfNat, Int.reduceLT, Int.reduceLE, Int.reduceEq, Nat.reduceLeDiff, Nat.reduceEqDiff, zl_2, zl_8, zl_12, zl_50, zl_132, zl_133, zl_134, zl_999, zl_10000]
    split
    · next h => rw [if_pos (by omega)] at hK; exact hK
    · next h => rw [if_neg (by omega)] at hK; exact hK
end ZFO

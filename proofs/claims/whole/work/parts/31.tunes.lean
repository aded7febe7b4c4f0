/-! loops as folds; canon, twice -/
def zfold {S : Type} (st : Nat → S → S) : Nat → Nat → S → S
  | 0, _, s => s
  | m + 1, i, s => zfold st m (i + 1) (st i s)
theorem zfold_congr {S : Type} {st st2 : Nat → S → S} : ∀ m i s, (∀ j s, i ≤ j → j < i + m → st j s = st2 j s) → zfold st m i s = zfold st2 m i s
  | 0, _, _, _ => rfl
  | m + 1, i, s, h => by
    unfold zfold
    rw [h i s (by omega) (by omega)]
    exact zfold_congr m (i + 1) _ (fun j s h1 h2 => h j s (by omega) (by omega))
theorem zloop {S : Type} {st : Nat → S → S} {W : Nat → S → Prop} {E : S → Prop} (n : Nat) (he : ∀ s, E s → W n s) (hs : ∀ i s, i < n → W (i + 1) (st i s) → W i s) : ∀ m i s, i + m = n → E (zfold st m i s) → W i s := by
  intro m
  induction m with
  | zero =>
    intro i s hi h
    have e : i = n := by omega
    subst e
    exact he s h
  | succ m ih =>
    intro i s hi h
    exact hs i s (by omega) (ih (i + 1) (st i s) (by omega) h)
theorem zfold_inv {S : Type} {st : Nat → S → S} {I : Nat → S → Prop} (n : Nat) (hs : ∀ i s, i < n → I i s → I (i + 1) (st i s)) : ∀ m i s, i + m = n → I i s → I n (zfold st m i s) := by
  intro m
  induction m with
  | zero =>
    intro i s hi h
    have e : i = n := by omega
    subst e
    exact h
  | succ m ih =>
    intro i s hi h
    exact ih (i + 1) (st i s) (by omega) (hs i s (by omega) h)
theorem q68_25 {X : Nat × (Nat → Int32)} {d : Nat} {f : Nat → Nat → Int32} {g : Nat → Nat → Int64} {K : Int32 → (Nat → Nat → Int32) → (Nat → Nat → Int64) → Prop} {i k : Nat} (hk : k ≤ 12) (h : f 25 1 = nI k) (hi : i < k) : zCpi X (d + 1) 68 [.ref 25, .int (nI i)] (zs f g) K = K (f 26 i) f g := by
  refine zCpi_eq (fun K hK => e68_25 ?_)
  rw [if_neg (nI_pos (by omega)), h, if_neg (nI_ge hi (by omega)), if_neg (nI_in (by omega) (by omega)), nI_cl (by omega)]
  exact hK
theorem q68_27 {X : Nat × (Nat → Int32)} {d : Nat} {f : Nat → Nat → Int32} {g : Nat → Nat → Int64} {K : Int32 → (Nat → Nat → Int32) → (Nat → Nat → Int64) → Prop} {i k : Nat} (hk : k ≤ 12) (h : f 27 1 = nI k) (hi : i < k) : zCpi X (d + 1) 68 [.ref 27, .int (nI i)] (zs f g) K = K (f 28 i) f g := by
  refine zCpi_eq (fun K hK => e68_27 ?_)
  rw [if_neg (nI_pos (by omega)), h, if_neg (nI_ge hi (by omega)), if_neg (nI_in (by omega) (by omega)), nI_cl (by omega)]
  exact hK
theorem q68_29 {X : Nat × (Nat → Int32)} {d : Nat} {f : Nat → Nat → Int32} {g : Nat → Nat → Int64} {K : Int32 → (Nat → Nat → Int32) → (Nat → Nat → Int64) → Prop} {i k : Nat} (hk : k ≤ 10) (h : f 29 1 = nI k) (hi : i < k) : zCpi X (d + 1) 68 [.ref 29, .int (nI i)] (zs f g) K = K (f 30 i) f g := by
  refine zCpi_eq (fun K hK => e68_29 ?_)
  rw [if_neg (nI_pos (by omega)), h, if_neg (nI_ge hi (by omega)), if_neg (nI_in (by omega) (by omega)), nI_cl (by omega)]
  exact hK
theorem q68_31 {X : Nat × (Nat → Int32)} {d : Nat} {f : Nat → Nat → Int32} {g : Nat → Nat → Int64} {K : Int32 → (Nat → Nat → Int32) → (Nat → Nat → Int64) → Prop} {i k : Nat} (hk : k ≤ 16) (h : f 31 1 = nI k) (hi : i < k) : zCpi X (d + 1) 68 [.ref 31, .int (nI i)] (zs f g) K = K (f 32 i) f g := by
  refine zCpi_eq (fun K hK => e68_31 ?_)
  rw [if_neg (nI_pos (by omega)), h, if_neg (nI_ge hi (by omega)), if_neg (nI_in (by omega) (by omega)), nI_cl (by omega)]
  exact hK
/-- what goes well together -/
def zwl (v : Int32) : Prop := v - v / 12 * 12 = 0 ∨ v - v / 12 * 12 = 3 ∨ v - v / 12 * 12 = 4 ∨ (7 ≤ (v - v / 12 * 12).toInt ∧ (v - v / 12 * 12).toInt ≤ 9)
theorem zwl_ite {v : Int32} {A B : Prop} (h1 : zwl v → A) (h0 : ¬ zwl v → B) : if v - v / 12 * 12 = 0 then A else if v - v / 12 * 12 = 3 then A else if v - v / 12 * 12 = 4 then A else if ¬ (7 ≤ (v - v / 12 * 12).toInt ∧ (v - v / 12 * 12).toInt ≤ 9) then B else A := by
  by_cases h : zwl v
  · have hA := h1 h
    unfold zwl at h
    split
    · exact hA
    · split
      · exact hA
      · split
        · exact hA
        · rw [if_neg]
          · exact hA
          · intro z
            rcases h with h | h | h | h <;> contradiction
  · have hB := h0 h
    unfold zwl at h
    rw [if_neg (fun z => h (Or.inl z)), if_neg (fun z => h (Or.inr (Or.inl z))), if_neg (fun z => h (Or.inr (Or.inr (Or.inl z)))), if_pos (fun z => h (Or.inr (Or.inr (Or.inr z))))]
    exact hB
/-- how many go well, d apart, moved by t -/
noncomputable def zwa (a : Nat → Int32) (d : Nat) (t : Int32) (i : Nat) (c : Nat) : Nat := @ite Nat (zwl (zab (a (i + d) - a i - t))) (Classical.propDecidable _) (c + 1) c
theorem zwa_1 {a : Nat → Int32} {d : Nat} {t : Int32} {i c : Nat} (h : zwl (zab (a (i + d) - a i - t))) : zwa a d t i c = c + 1 := if_pos h
theorem zwa_0 {a : Nat → Int32} {d : Nat} {t : Int32} {i c : Nat} (h : ¬ zwl (zab (a (i + d) - a i - t))) : zwa a d t i c = c := if_neg h
noncomputable def zwn (a : Nat → Int32) (k : Nat) (t : Int32) (d : Nat) : Nat := zfold (zwa a d t) (k - d) 0 0
theorem zwn_le {a : Nat → Int32} {k : Nat} {t : Int32} {d : Nat} : zwn a k t d ≤ k := by
  have h := zfold_inv (st := zwa a d t) (I := fun i c => c ≤ i) (k - d) (fun i c _ h => by
    by_cases hw : zwl (zab (a (i + d) - a i - t))
    · rw [zwa_1 hw]; omega
    · rw [zwa_0 hw]; omega) (k - d) 0 0 (by omega) (Nat.le_refl _)
  unfold zwn
  omega
section ZTU
variable {X : Nat × (Nat → Int32)} {d : Nat} {f : Nat → Nat → Int32} {g : Nat → Nat → Int64} {K : Int32 → (Nat → Nat → Int32) → (Nat → Nat → Int64) → Prop}
theorem q103 {k b : Nat} {t : Int32} (hk : k ≤ 12) (h : f 27 1 = nI k) (hb : 1 ≤ b) (hb2 : b ≤ 12) : zCpi X (d + 2) 103 [.ref 27, .int (nI b), .int t] (zs f g) K = K (nI (zwn (f 28) k t b)) f g := by
  refine zCpi_eq (fun K hK => e103_27 ?_)
  refine zloop (st := zwa (f 28) b t) (W := fun i c => zWp X (d + 1) zm103 5 [.ref 27, .int (nI b), .int t, .int (nI c), .int (nI i), .null] [] (zs f g) (zQi K)) (E := fun c => K (nI c) f g) (k - b) ?_ ?_ (k - b) 0 0 (by omega) hK
  · intro c hc
    apply s103_5_27
    rw [h, nI_add, if_pos (nI_le (by omega) (by omega))]
    exact hc
  · intro i c hi hc
    apply s103_5_27
    rw [h, nI_add, if_neg (nI_ge (by omega) (by omega))]
    simp only [q68_27 hk h (show i + b < k by omega), q68_27 hk h (show i < k by omega), q286, q124, zb_0, zsO.2, zrO.2, nI_1, true_or, or_true, false_or, or_false, or_self, and_self, true_and, and_true, not_true_eq_false, not_false_eq_true, ↓reduceIte, eq_self, zq_01, zq_10, zq_m0, zq_m1, zq_0m, zq_1m, zq_2, zq_6, zq_8, zq_10z, zq_12, zq_1000, Int32.reduceLT, Int32.reduceLE, Int32.reduceToInt, Int32.reduceToNatClampNeg, Int32.reduceOfNat, Int.reduceLT, Int.reduceLE, Int.reduceEq, Nat.reduceLeDiff, Nat.reduceEqDiff, zl_2, zl_8, zl_12, zl_50, zl_132, zl_133, zl_134, zl_999, zl_10000]
    refine zwl_ite (fun hw => ?_) (fun hw => ?_)
    · rw [zwa_1 hw] at hc
      exact hc
    · rw [zwa_0 hw] at hc
      exact hc
theorem q263 {k b : Nat} {t : Int32} (hk : k ≤ 12) (h : f 178 46 = nI k) (hb : 1 ≤ b) (hb2 : b ≤ 12) : zCpi X (d + 2) 263 [.ref 178, .int (nI b), .int t] (zs f g) K = K (nI (zwn (f 204) k t b)) f g := by
  refine zCpi_eq (fun K hK => e263_178 ?_)
  have z := zloop (st := zwa (f 204) b t) (W := fun i c => zWp X (d + 1) zm263 5 [.ref 178, .int (nI b), .int t, .int (nI c), .int (nI (i + b)), .null] [] (zs f g) (zQi K)) (E := fun c => K (nI c) f g) (k - b) ?_ ?_ (k - b) 0 0 (by omega) hK
  · rw [Nat.zero_add] at z
    exact z
  · intro c hc
    apply s263_5_178
    rw [h, if_pos (nI_le (by omega) (by omega))]
    exact hc
  · intro i c hi hc
    apply s263_5_178
    rw [h, if_neg (nI_ge (by omega) (by omega)), if_neg (nI_in (by omega) (by omega)), zsO.2, pk_sub (by omega), show i + b - b = i by omega, if_neg (nI_in (by omega) (by omega)), nI_cl (k := i + b) (by omega), nI_cl (k := i) (by omega)]
    simp only [q220, q165, zb_0, zsO.2, zrO.2, nI_1, true_or, or_true, false_or, or_false, or_self, and_self, true_and, and_true, not_true_eq_false, not_false_eq_true, ↓reduceIte, eq_self, zq_01, zq_10, zq_m0, zq_m1, zq_0m, zq_1m, zq_2, zq_6, zq_8, zq_10z, zq_12, zq_1000, Int32.reduceLT, Int32.reduceLE, Int32.reduceToInt, Int32.reduceToNatClampNeg, Int32.reduceOfNat, Int.reduceLT, Int.reduceLE, Int.reduceEq, Nat.reduceLeDiff, Nat.reduceEqDiff, zl_2, zl_8, zl_12, zl_50, zl_132, zl_133, zl_134, zl_999, zl_10000]
    rw [show i + 1 + b = i + b + 1 by omega] at hc
    refine zwl_ite (fun hw => ?_) (fun hw => ?_)
    · rw [zwa_1 hw] at hc
      exact hc
    · rw [zwa_0 hw] at hc
      exact hc
/-- the first of those with the most -/
def zbe (W : Nat → Nat) (i b : Nat) : Nat := if b = 0 ∨ W b < W i then i else b
theorem q102 {k : Nat} {t : Int32} (hk : k ≤ 12) (h : f 27 1 = nI k) : zCpi X (d + 3) 102 [.ref 27, .int t] (zs f g) K = K (if zfold (zbe (zwn (f 28) k t)) (k - 1) 1 0 = 0 then -1 else nI (zfold (zbe (zwn (f 28) k t)) (k - 1) 1 0)) f g := by
  refine zCpi_eq (fun K hK => e102_27 ?_)
  by_cases hk0 : k = 0
  · subst hk0
    apply s102_7_27
    rw [h, if_pos (show nI 0 ≤ (1 : Int32) from by decide)]
    exact hK
  refine zloop (st := zbe (zwn (f 28) k t)) (W := fun i b => b < i → zWp X (d + 2) zm102 7 [.ref 27, .int t, .int (if b = 0 then -1 else nI b), .int (if b = 0 then -1 else nI (zwn (f 28) k t b)), .int (nI i), .null] [] (zs f g) (zQi K)) (E := fun b => K (if b = 0 then -1 else nI b) f g) k ?_ ?_ (k - 1) 1 0 (by omega) hK (by omega)
  · intro b hb _
    apply s102_7_27
    rw [h, if_pos (nI_le (by omega) (by omega))]
    exact hb
  · intro i b hi hb hbi
    apply s102_7_27
    rw [h, if_neg (nI_ge (by omega) (by omega))]
    by_cases hi0 : i = 0
    · omega
    rw [q103 hk h (by omega) (by omega)]
    have hn := zwn_le (a := f 28) (k := k) (t := t) (d := i)
    have hn2 := zwn_le (a := f 28) (k := k) (t := t) (d := b)
    simp only [nI_1]
    unfold zbe at hb
    by_cases hb0 : b = 0
    · rw [if_pos (Or.inl hb0), if_neg hi0, if_neg hi0] at hb
      rw [if_pos hb0, if_pos hb0, if_neg (by simp only [Int32.lt_iff_toInt_lt, Int32.le_iff_toInt_le, nI_ti (show zwn (f 28) k t i ≤ 100000 by omega), Int32.reduceToInt]; omega)]
      exact hb (by omega)
    · rw [if_neg hb0, if_neg hb0]
      by_cases hw : zwn (f 28) k t b < zwn (f 28) k t i
      · rw [if_pos (Or.inr hw), if_neg hi0, if_neg hi0] at hb
        rw [if_neg (nI_ge hw (by omega))]
        exact hb (by omega)
      · rw [if_neg (by omega), if_neg hb0, if_neg hb0] at hb
        rw [if_pos (nI_le (by omega) (by omega))]
        exact hb (by omega)
theorem l262 {k : Nat} {x1 x3 t : Int32} (hk : k ≤ 12) (h : f 178 46 = nI k) (hK : K (if zfold (zbe (zwn (f 204) k t)) (k - 1) 1 0 = 0 then -1 else nI (zfold (zbe (zwn (f 204) k t)) (k - 1) 1 0)) f g) : zWp X (d + 2) zm262 79 [.ref 178, .int x1, .int t, .int x3, .int (-1), .int 1] [] (zs f g) (zQi K) := by
  by_cases hk0 : k = 0
  · subst hk0
    apply s262_79_178
    rw [h, if_pos (show nI 0 ≤ (1 : Int32) from by decide)]
    exact hK
  refine zloop (st := zbe (zwn (f 204) k t)) (W := fun i b => b < i → zWp X (d + 2) zm262 79 [.ref 178, .int x1, .int t, .int x3, .int (if b = 0 then -1 else nI b), .int (nI i)] [] (zs f g) (zQi K)) (E := fun b => K (if b = 0 then -1 else nI b) f g) k ?_ ?_ (k - 1) 1 0 (by omega) hK (by omega)
  · intro b hb _
    apply s262_79_178
    rw [h, if_pos (nI_le (by omega) (by omega))]
    exact hb
  · intro i b hi hb hbi
    apply s262_79_178
    rw [h, if_neg (nI_ge (by omega) (by omega))]
    have hn := zwn_le (a := f 204) (k := k) (t := t) (d := i)
    have hn2 := zwn_le (a := f 204) (k := k) (t := t) (d := b)
    simp only [nI_1]
    unfold zbe at hb
    have hi0 : ¬ i = 0 := by omega
    by_cases hb0 : b = 0
    · rw [if_pos (Or.inl hb0), if_neg hi0] at hb
      rw [if_pos hb0, if_pos rfl]
      exact hb (by omega)
    · rw [if_neg hb0, if_neg (nI_nem (by omega)), q263 hk h (by omega) (by omega), q263 hk h (by omega) (by omega)]
      by_cases hw : zwn (f 204) k t b < zwn (f 204) k t i
      · rw [if_pos (Or.inr hw), if_neg hi0] at hb
        rw [if_neg (nI_ge hw (by omega))]
        exact hb (by omega)
      · rw [if_neg (by omega), if_neg hb0] at hb
        rw [if_pos (nI_le (by omega) (by omega))]
        exact hb (by omega)
end ZTU
theorem zwn_congr {a b : Nat → Int32} {k d : Nat} {t : Int32} (h : ∀ j, j < k → a j = b j) : zwn a k t d = zwn b k t d := by
  unfold zwn
  refine zfold_congr _ _ _ (fun j s h1 h2 => ?_)
  unfold zwa
  rw [h (j + d) (by omega), h j (by omega)]

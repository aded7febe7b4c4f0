/-! the note that all who sound have -/
def zcm (N : Nat → Int32) : Nat → Nat → Int32 → Nat → Int32
  | 0, _, c, s => if s < 2 then -1 else c
  | m + 1, i, c, s => if N i = -1 then zcm N m (i + 1) c s else if s = 0 ∨ N i = c then zcm N m (i + 1) (N i) (s + 1) else -1
theorem zcm_congr {N N' : Nat → Int32} : ∀ m i c s, (∀ p, i ≤ p → p < i + m → N p = N' p) → zcm N m i c s = zcm N' m i c s
  | 0, _, _, _, _ => rfl
  | m + 1, i, c, s, h => by
    unfold zcm
    rw [h i (by omega) (by omega), zcm_congr m (i + 1) c s (fun p h1 h2 => h p (by omega) (by omega)), zcm_congr m (i + 1) (N' i) (s + 1) (fun p h1 h2 => h p (by omega) (by omega))]
section ZUN
variable {X : Nat × (Nat → Int32)} {d : Nat} {f : Nat → Nat → Int32} {g : Nat → Nat → Int64} {K : Int32 → (Nat → Nat → Int32) → (Nat → Nat → Int64) → Prop}
theorem l28_2 {n : Nat} (h : f 2 8 = nI n) (hn : n ≤ 12) : ∀ m i c s, i + m = n → s ≤ i → K (zcm (f 7) m i c s) f g → zWp X (d + 0) zm28 6 [.ref 2, .int c, .int (nI s), .int (nI i)] [] (zs f g) (zQi K) := by
  intro m
  induction m with
  | zero =>
    intro i c s hi hs hK
    unfold zcm at hK
    apply s28_6_2
    rw [h, if_pos (nI_le (by omega) (by omega))]
    by_cases e : s < 2
    · rw [if_pos e] at hK
      rw [if_pos (show nI s < (2 : Int32) from nI_lt (b := 2) e (by omega))]
      exact hK
    · rw [if_neg e] at hK
      rw [if_neg (show ¬ nI s < (2 : Int32) by simp only [Int32.lt_iff_toInt_lt, Int32.le_iff_toInt_le, Int32.reduceToInt, nI_ti (show s ≤ 100000 by omega)]; omega)]
      exact hK
  | succ m ih =>
    intro i c s hi hs hK
    unfold zcm at hK
    apply s28_6_2
    simp only [h, if_neg (nI_ge (show i < n by omega) (by omega)), nI_cl (show i ≤ 100000 by omega), if_neg (nI_in' (show i < 12 by omega) (by omega)), nI_1]
    by_cases e : f 7 i = -1
    · rw [if_pos e] at hK
      rw [if_pos e]
      exact ih (i + 1) c s (by omega) (by omega) hK
    · rw [if_neg e] at hK
      rw [if_neg e]
      by_cases e0 : s = 0
      · rw [if_pos (Or.inl e0)] at hK
        rw [if_pos (show nI s ≤ 0 by rw [e0]; decide)]
        exact ih (i + 1) (f 7 i) (s + 1) (by omega) (by omega) hK
      · rw [if_neg (nI_nle (by omega) (by omega))]
        by_cases e1 : f 7 i = c
        · rw [if_pos (Or.inr e1)] at hK
          rw [if_pos e1]
          exact ih (i + 1) (f 7 i) (s + 1) (by omega) (by omega) hK
        · rw [if_neg (fun z => z.elim e0 e1)] at hK
          rw [if_neg e1]
          exact hK
theorem q28_2 {n : Nat} (hn : n ≤ 12) (h : f 2 8 = nI n) : zCpi X (d + 1) 28 [.ref 2] (zs f g) K = K (zcm (f 7) n 0 (-1) 0) f g := zCpi_eq (fun K hK => e28_2 (l28_2 h hn n 0 (-1) 0 (by omega) (by omega) hK))
theorem l28_138 {n : Nat} (h : f 138 8 = nI n) (hn : n ≤ 12) : ∀ m i c s, i + m = n → s ≤ i → K (zcm (f 143) m i c s) f g → zWp X (d + 0) zm28 6 [.ref 138, .int c, .int (nI s), .int (nI i)] [] (zs f g) (zQi K) := by
  intro m
  induction m with
  | zero =>
    intro i c s hi hs hK
    unfold zcm at hK
    apply s28_6_138
    rw [h, if_pos (nI_le (by omega) (by omega))]
    by_cases e : s < 2
    · rw [if_pos e] at hK
      rw [if_pos (show nI s < (2 : Int32) from nI_lt (b := 2) e (by omega))]
      exact hK
    · rw [if_neg e] at hK
      rw [if_neg (show ¬ nI s < (2 : Int32) by simp only [Int32.lt_iff_toInt_lt, Int32.le_iff_toInt_le, Int32.reduceToInt, nI_ti (show s ≤ 100000 by omega)]; omega)]
      exact hK
  | succ m ih =>
    intro i c s hi hs hK
    unfold zcm at hK
    apply s28_6_138
    simp only [h, if_neg (nI_ge (show i < n by omega) (by omega)), nI_cl (show i ≤ 100000 by omega), if_neg (nI_in' (show i < 12 by omega) (by omega)), nI_1]
    by_cases e : f 143 i = -1
    · rw [if_pos e] at hK
      rw [if_pos e]
      exact ih (i + 1) c s (by omega) (by omega) hK
    · rw [if_neg e] at hK
      rw [if_neg e]
      by_cases e0 : s = 0
      · rw [if_pos (Or.inl e0)] at hK
        rw [if_pos (show nI s ≤ 0 by rw [e0]; decide)]
        exact ih (i + 1) (f 143 i) (s + 1) (by omega) (by omega) hK
      · rw [if_neg (nI_nle (by omega) (by omega))]
        by_cases e1 : f 143 i = c
        · rw [if_pos (Or.inr e1)] at hK
          rw [if_pos e1]
          exact ih (i + 1) (f 143 i) (s + 1) (by omega) (by omega) hK
        · rw [if_neg (fun z => z.elim e0 e1)] at hK
          rw [if_neg e1]
          exact hK
theorem q28_138 {n : Nat} (hn : n ≤ 12) (h : f 138 8 = nI n) : zCpi X (d + 1) 28 [.ref 138] (zs f g) K = K (zcm (f 143) n 0 (-1) 0) f g := zCpi_eq (fun K hK => e28_138 (l28_138 h hn n 0 (-1) 0 (by omega) (by omega) hK))
theorem l236 {n : Nat} (h : f 178 7 = nI n) (hn : n ≤ 12) : ∀ m i c s, i + m = n → s ≤ i → (c = -1 ↔ s = 0) → zfold (zsd2 (fun p => f 179 (28 + p) - 1)) m i s = zpc 12 (zfold (zso (fun p => f 179 (28 + p) - 1)) n 0 0) → K (zcm (fun p => f 179 (28 + p) - 1) m i c s) f g → zWp X (d + 2) zm236 4 [.ref 178, .int c, .int (nI i)] [] (zs f g) (zQi K) := by
  intro m
  induction m with
  | zero =>
    intro i c s hi hs hc ht hK
    have ht' : s = zpc 12 (zfold (zso (fun p => f 179 (28 + p) - 1)) n 0 0) := ht
    unfold zcm at hK
    apply s236_4_178
    rw [h, if_pos (nI_le (by omega) (by omega)), q237 hn h, q238 (by have := zso_lt (N := fun p => f 179 (28 + p) - 1) hn; omega), ← ht']
    by_cases e : s < 2
    · rw [if_pos e] at hK
      rw [if_neg (show ¬ (2 : Int32) ≤ nI s from nI_ge (b := 2) e (by omega))]
      exact hK
    · rw [if_neg e] at hK
      rw [if_pos (show (2 : Int32) ≤ nI s from nI_le (a := 2) (by omega) (by omega))]
      exact hK
  | succ m ih =>
    intro i c s hi hs hc ht hK
    have ht' : zfold (zsd2 (fun p => f 179 (28 + p) - 1)) m (i + 1) (zsd2 (fun p => f 179 (28 + p) - 1) i s) = zpc 12 (zfold (zso (fun p => f 179 (28 + p) - 1)) n 0 0) := ht
    unfold zcm at hK
    conv at ht' => lhs; arg 4; unfold zsd2
    apply s236_4_178
    simp only [h, if_neg (nI_ge (show i < n by omega) (by omega)), q234 (show i < 12 by omega), nI_1]
    by_cases e : f 179 (28 + i) - 1 = -1
    · rw [if_pos e] at hK ht'
      rw [if_pos e]
      exact ih (i + 1) c s (by omega) (by omega) hc ht' hK
    · rw [if_neg e] at hK ht'
      rw [if_neg e]
      by_cases e0 : s = 0
      · rw [if_pos (Or.inl e0)] at hK
        rw [if_pos (hc.mpr e0)]
        exact ih (i + 1) (f 179 (28 + i) - 1) (s + 1) (by omega) (by omega) ⟨fun z => absurd z e, fun z => by omega⟩ ht' hK
      · rw [if_neg (fun z => e0 (hc.mp z))]
        by_cases e1 : f 179 (28 + i) - 1 = c
        · rw [if_pos (Or.inr e1)] at hK
          rw [if_pos e1]
          exact ih (i + 1) (f 179 (28 + i) - 1) (s + 1) (by omega) (by omega) ⟨fun z => absurd z e, fun z => by omega⟩ ht' hK
        · rw [if_neg (fun z => z.elim e0 e1)] at hK
          rw [if_neg e1]
          exact hK
theorem q236 {n : Nat} (hn : n ≤ 12) (h : f 178 7 = nI n) : zCpi X (d + 3) 236 [.ref 178] (zs f g) K = K (zcm (fun p => f 179 (28 + p) - 1) n 0 (-1) 0) f g := zCpi_eq (fun K hK => e236_178 (l236 h hn n 0 (-1) 0 (by omega) (by omega) ⟨fun _ => rfl, fun _ => rfl⟩ (zsd_pc hn) hK))
end ZUN
theorem zHm_cm {c st un bt pl : Int32} {L E Xs Ys N O A W w er : Nat → Int32} {B : Int} {n i : Nat} (h : zHm c st un bt L E Xs Ys N O A W w pl er B i) (hc : c = nI n) (hn : n ≤ 12) : zcm (fun p => w (28 + p) - 1) n 0 (-1) 0 = zcm N n 0 (-1) 0 := by
  obtain ⟨n', hn', h1, h2, h3, h4, h5, h6, h7, h8⟩ := h
  have en : n' = n := (nI_eq (by omega) (by omega)).mp (h1.symm.trans hc)
  subst en
  refine zcm_congr _ _ _ _ (fun p _ hp => ?_)
  obtain ⟨-, -, -, ⟨k, hk, e1, e2⟩, -⟩ := h8 p (by omega)
  simp only [e1, e2]

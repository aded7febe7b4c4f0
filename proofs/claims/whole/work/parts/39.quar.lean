/-! quarrels -/
/-- whether nobody of a set quarrels: by the couples -/
def zpa (v : Nat → Nat) (S : Nat) : Nat → Nat → Bool
  | 0, _ => true
  | m + 1, i => if S.testBit (v i / 10) = true ∧ S.testBit (v i % 10) = true then false else zpa v S m (i + 1)
/-- the same, by whom each one hates -/
def zpb (H : Nat → Nat) (S : Nat) : Nat → Nat → Bool
  | 0, _ => true
  | m + 1, i => if S.testBit i = true ∧ ¬ H i &&& S = 0 then false else zpb H S m (i + 1)
theorem zpa_t {v : Nat → Nat} {S : Nat} : ∀ m i, zpa v S m i = true ↔ ∀ j, i ≤ j → j < i + m → ¬ (S.testBit (v j / 10) = true ∧ S.testBit (v j % 10) = true)
  | 0, i => by
    constructor
    · intro _ j h1 h2; omega
    · intro _; rfl
  | m + 1, i => by
    unfold zpa
    have ih := zpa_t (v := v) (S := S) m (i + 1)
    split
    · next h =>
      constructor
      · intro z; cases z
      · intro z; exact absurd h (z i (by omega) (by omega))
    · next h =>
      rw [ih]
      constructor
      · intro z j h1 h2
        by_cases e : j = i
        · rw [e]; exact h
        · exact z j (by omega) (by omega)
      · intro z j h1 h2
        exact z j (by omega) (by omega)
theorem zpb_t {H : Nat → Nat} {S : Nat} : ∀ m i, zpb H S m i = true ↔ ∀ j, i ≤ j → j < i + m → ¬ (S.testBit j = true ∧ ¬ H j &&& S = 0)
  | 0, i => by
    constructor
    · intro _ j h1 h2; omega
    · intro _; rfl
  | m + 1, i => by
    unfold zpb
    have ih := zpb_t (H := H) (S := S) m (i + 1)
    split
    · next h =>
      constructor
      · intro z; cases z
      · intro z; exact absurd h (z i (by omega) (by omega))
    · next h =>
      rw [ih]
      constructor
      · intro z j h1 h2
        by_cases e : j = i
        · rw [e]; exact h
        · exact z j (by omega) (by omega)
      · intro z j h1 h2
        exact z j (by omega) (by omega)
def zha (v : Nat → Nat) (j : Nat) (H : Nat → Nat) : Nat → Nat := fun i => if i = v j / 10 then H i ||| 2 ^ (v j % 10) else H i
theorem zha_i {v : Nat → Nat} {k : Nat} : ∀ i b, (zfold (zha v) k 0 (fun _ => 0) i).testBit b = true ↔ ∃ j, j < k ∧ v j / 10 = i ∧ v j % 10 = b := by
  have h := zfold_inv (st := zha v) (I := fun m H => ∀ i b, (H i).testBit b = true ↔ ∃ j, j < m ∧ v j / 10 = i ∧ v j % 10 = b) k (fun m H hm h i b => by
    unfold zha
    by_cases e : i = v m / 10
    · rw [if_pos e, Nat.testBit_or, Nat.testBit_two_pow, Bool.or_eq_true, h, decide_eq_true_iff]
      constructor
      · rintro (⟨j, j1, j2, j3⟩ | z)
        · exact ⟨j, by omega, j2, j3⟩
        · exact ⟨m, by omega, e.symm, z⟩
      · rintro ⟨j, j1, j2, j3⟩
        by_cases ej : j = m
        · subst ej; exact Or.inr j3
        · exact Or.inl ⟨j, by omega, j2, j3⟩
    · rw [if_neg e, h]
      constructor
      · rintro ⟨j, j1, j2, j3⟩; exact ⟨j, by omega, j2, j3⟩
      · rintro ⟨j, j1, j2, j3⟩
        refine ⟨j, ?_, j2, j3⟩
        by_cases ej : j = m
        · subst ej; exact absurd j2.symm e
        · omega) k 0 (fun _ => 0) (by omega) (fun i b => by
    constructor
    · intro z; rw [Nat.zero_testBit] at z; cases z
    · rintro ⟨j, j1, -⟩; omega)
  exact h
theorem zha_lt {v : Nat → Nat} {k : Nat} : ∀ i, zfold (zha v) k 0 (fun _ => 0) i < 1024 := by
  have h := zfold_inv (st := zha v) (I := fun _ H => ∀ i, H i < 1024) k (fun m H hm h i => by
    unfold zha
    split
    · have h1 : 2 ^ (v m % 10) < 2 ^ 10 := Nat.pow_lt_pow_right (by omega) (Nat.mod_lt _ (by omega))
      exact Nat.or_lt_two_pow (n := 10) (h i) h1
    · exact h i) k 0 (fun _ => 0) (by omega) (fun _ => by omega)
  exact h
theorem zpab {v : Nat → Nat} {k S : Nat} (hv : ∀ j, j < k → v j < 100) : zpb (zfold (zha v) k 0 (fun _ => 0)) S 10 0 = zpa v S k 0 := by
  have h : zpb (zfold (zha v) k 0 (fun _ => 0)) S 10 0 = true ↔ zpa v S k 0 = true := by
    rw [zpa_t, zpb_t]
    constructor
    · rintro z j _ hj ⟨z1, z2⟩
      refine z (v j / 10) (by omega) (by have := hv j (by omega); omega) ⟨z1, fun e => ?_⟩
      have e1 : (zfold (zha v) k 0 (fun _ => 0) (v j / 10)).testBit (v j % 10) = true := (zha_i _ _).mpr ⟨j, by omega, rfl, rfl⟩
      have e2 : (zfold (zha v) k 0 (fun _ => 0) (v j / 10) &&& S).testBit (v j % 10) = true := by rw [Nat.testBit_and, e1, z2]; rfl
      rw [e, Nat.zero_testBit] at e2
      cases e2
    · rintro z i _ hi ⟨z1, z2⟩
      apply z2
      apply Nat.eq_of_testBit_eq
      intro b
      rw [Nat.zero_testBit, Nat.testBit_and]
      cases h1 : (zfold (zha v) k 0 (fun _ => 0) i).testBit b with
      | false => rfl
      | true =>
        obtain ⟨j, j1, j2, j3⟩ := (zha_i _ _).mp h1
        cases h2 : S.testBit b with
        | false => rfl
        | true => exact absurd ⟨by rw [j2]; exact z1, by rw [j3]; exact h2⟩ (z j (by omega) (by omega))
  cases h1 : zpb (zfold (zha v) k 0 (fun _ => 0)) S 10 0 <;> cases h2 : zpa v S k 0 <;> simp_all
/-- most, in how many ways, the least set -/
def zqs (P : Nat → Bool) (S : Nat) (s : Nat × Nat × Nat) : Nat × Nat × Nat := if P S = true ∧ s.1 ≤ zpc 12 S then (zpc 12 S, if s.1 < zpc 12 S then 1 else s.2.1 + 1, if s.1 < zpc 12 S then S else s.2.2) else s
def zqa (w : Int32) (s : Nat × Nat × Nat) : Int32 := if w = 0 then nI s.1 else if w = 1 then nI s.2.1 else nI s.2.2
theorem zqs_le {P : Nat → Bool} {S : Nat} {s : Nat × Nat × Nat} (h : s.1 ≤ 12) : (zqs P S s).1 ≤ 12 := by
  unfold zqs
  split
  · exact zpc_le _ _
  · exact h
section ZQU
variable {X : Nat × (Nat → Int32)} {d : Nat} {f : Nat → Nat → Int32} {g : Nat → Nat → Int64} {K : Int32 → (Nat → Nat → Int32) → (Nat → Nat → Int64) → Prop}
theorem q112 {H : Nat → Nat} {S : Nat} (hH : ∀ i, i < 10 → f 174 i = nI (H i)) (hS : S < 1024) : zCpi X (d + 1) 112 [.ref 169, .int (nI S)] (zs f g) K = K (zbi (zpb H S 10 0)) f g := by
  refine zCpi_eq (fun K hK => e112_169 ?_)
  have z : ∀ m i, i + m = 10 → K (zbi (zpb H S m i)) f g → zWp X (d + 0) zm112 2 [.ref 169, .int (nI S), .int (nI i)] [] (zs f g) (zQi K) := by
    intro m
    induction m with
    | zero =>
      intro i hi hK
      have e : i = 10 := by omega
      subst e
      apply s112_2_169
      rw [if_pos (show (10 : Int32) ≤ nI 10 from by decide)]
      simp only [true_or, or_true, false_or, or_false, or_self, and_self, true_and, and_true, not_true_eq_false, not_false_eq_true, ↓reduceIte, eq_self, zq_01, zq_10, zq_m0, zq_m1, zq_0m, zq_1m, zq_2, zq_6, zq_8, zq_10z, zq_12, zq_1000, Int32.reduceLT, Int32.reduceLE, Int32.reduceToInt, Int32.reduceToNatClampNeg, Int32.reduceOfNat, Int.reduceLT, Int.reduceLE, Int.reduceEq, Nat.reduceLeDiff, Nat.reduceEqDiff, zl_2, zl_8, zl_12, zl_50, zl_132, zl_133, zl_134, zl_999, zl_10000]
      exact hK
    | succ m ih =>
      intro i hi hK
      unfold zpb at hK
      have hle : H i &&& S ≤ S := Nat.and_le_right
      apply s112_2_169
      rw [if_neg (show ¬ (10 : Int32) ≤ nI i from nI_ge (b := 10) (by omega) (by omega)), zuO.2, nx_ush (by omega) (by omega), nx_b1 (by omega), nI_cl (by omega), if_neg (nI_in' (by omega) (by omega)), hH i (by omega), nx_and, nI_1]
      by_cases h1 : S.testBit i = true
      · rw [if_pos h1, if_pos rfl]
        by_cases h2 : H i &&& S = 0
        · rw [if_neg (fun z => z.2 h2)] at hK
          rw [h2, if_pos (show nI 0 = (0 : Int32) from rfl)]
          exact ih (i + 1) (by omega) hK
        · rw [if_pos ⟨h1, h2⟩] at hK
          rw [if_neg (nI_ne0 (by omega) (by omega))]
          simp only [true_or, or_true, false_or, or_false, or_self, and_self, true_and, and_true, not_true_eq_false, not_false_eq_true, ↓reduceIte, eq_self, zq_01, zq_10, zq_m0, zq_m1, zq_0m, zq_1m, zq_2, zq_6, zq_8, zq_10z, zq_12, zq_1000, Int32.reduceLT, Int32.reduceLE, Int32.reduceToInt, Int32.reduceToNatClampNeg, Int32.reduceOfNat, Int.reduceLT, Int.reduceLE, Int.reduceEq, Nat.reduceLeDiff, Nat.reduceEqDiff, zl_2, zl_8, zl_12, zl_50, zl_132, zl_133, zl_134, zl_999, zl_10000]
          exact hK
      · rw [if_neg (fun z => h1 z.1)] at hK
        rw [if_neg h1, if_neg (by decide)]
        exact ih (i + 1) (by omega) hK
  exact z 10 0 (by omega) hK
theorem q274 {v : Nat → Nat} {k S : Nat} (hk : k ≤ 16) (h : f 178 52 = nI k) (hv : ∀ j, j < k → f 208 j = nI (2 ^ (v j / 10) ||| 2 ^ (v j % 10)) ∧ v j < 100) (hS : S < 1024) : zCpi X (d + 1) 274 [.ref 178, .int (nI S)] (zs f g) K = K (zbi (zpa v S k 0)) f g := by
  refine zCpi_eq (fun K hK => e274_178 ?_)
  have z : ∀ m i, i + m = k → K (zbi (zpa v S m i)) f g → zWp X (d + 0) zm274 2 [.ref 178, .int (nI S), .int (nI i)] [] (zs f g) (zQi K) := by
    intro m
    induction m with
    | zero =>
      intro i hi hK
      apply s274_2_178
      rw [h, if_pos (nI_le (by omega) (by omega))]
      simp only [true_or, or_true, false_or, or_false, or_self, and_self, true_and, and_true, not_true_eq_false, not_false_eq_true, ↓reduceIte, eq_self, zq_01, zq_10, zq_m0, zq_m1, zq_0m, zq_1m, zq_2, zq_6, zq_8, zq_10z, zq_12, zq_1000, Int32.reduceLT, Int32.reduceLE, Int32.reduceToInt, Int32.reduceToNatClampNeg, Int32.reduceOfNat, Int.reduceLT, Int.reduceLE, Int.reduceEq, Nat.reduceLeDiff, Nat.reduceEqDiff, zl_2, zl_8, zl_12, zl_50, zl_132, zl_133, zl_134, zl_999, zl_10000]
      exact hK
    | succ m ih =>
      intro i hi hK
      unfold zpa at hK
      obtain ⟨v1, v2⟩ := hv i (by omega)
      have hp : 2 ^ (v i / 10) < 2 ^ 10 := Nat.pow_lt_pow_right (by omega) (by omega)
      have hq : 2 ^ (v i % 10) < 2 ^ 10 := Nat.pow_lt_pow_right (by omega) (by omega)
      have ho := Nat.or_lt_two_pow hp hq
      have hle : S &&& (2 ^ (v i / 10) ||| 2 ^ (v i % 10)) ≤ S := Nat.and_le_left
      apply s274_2_178
      rw [h, if_neg (nI_ge (by omega) (by omega)), nI_cl (by omega), if_neg (nI_in' (by omega) (by omega)), if_neg (nI_in' (by omega) (by omega)), v1, nx_and, nI_1]
      have key : S &&& (2 ^ (v i / 10) ||| 2 ^ (v i % 10)) = 2 ^ (v i / 10) ||| 2 ^ (v i % 10) ↔ S.testBit (v i / 10) = true ∧ S.testBit (v i % 10) = true := by
        constructor
        · intro e
          have t : ∀ b, (2 ^ (v i / 10) ||| 2 ^ (v i % 10)).testBit b = true → S.testBit b = true := fun b hb => by
            rw [← e, Nat.testBit_and, Bool.and_eq_true] at hb
            exact hb.1
          exact ⟨t _ (by rw [Nat.testBit_or, Nat.testBit_two_pow]; simp), t _ (by rw [Nat.testBit_or, Nat.testBit_two_pow, Nat.testBit_two_pow]; simp)⟩
        · rintro ⟨e1, e2⟩
          apply Nat.eq_of_testBit_eq
          intro b
          rw [Nat.testBit_and, Nat.testBit_or, Nat.testBit_two_pow, Nat.testBit_two_pow]
          by_cases b1 : v i / 10 = b
          · rw [← b1, e1]; simp
          · by_cases b2 : v i % 10 = b
            · rw [← b2, e2]; simp
            · rw [decide_eq_false b1, decide_eq_false b2]; simp
      by_cases hc : S.testBit (v i / 10) = true ∧ S.testBit (v i % 10) = true
      · rw [if_pos hc] at hK
        rw [if_pos (congrArg nI (key.mpr hc))]
        simp only [true_or, or_true, false_or, or_false, or_self, and_self, true_and, and_true, not_true_eq_false, not_false_eq_true, ↓reduceIte, eq_self, zq_01, zq_10, zq_m0, zq_m1, zq_0m, zq_1m, zq_2, zq_6, zq_8, zq_10z, zq_12, zq_1000, Int32.reduceLT, Int32.reduceLE, Int32.reduceToInt, Int32.reduceToNatClampNeg, Int32.reduceOfNat, Int.reduceLT, Int.reduceLE, Int.reduceEq, Nat.reduceLeDiff, Nat.reduceEqDiff, zl_2, zl_8, zl_12, zl_50, zl_132, zl_133, zl_134, zl_999, zl_10000]
        exact hK
      · rw [if_neg hc] at hK
        rw [if_neg (fun z => hc (key.mp ((nI_eq (by omega) (by omega)).mp z)))]
        exact ih (i + 1) (by omega) hK
  exact z k 0 (by omega) hK
theorem l111c {H : Nat → Nat} {w : Int32} (hH : ∀ i, i < 10 → f 174 i = nI (H i)) (hK : K (zqa w (zfold (zqs (fun S => zpb H S 10 0)) 1023 1 (0, 1, 0))) f g) : zWp X (d + 2) zm111 90 [.ref 169, .ref 31, .int w, .int (-1), .int 0, .int 0, .int 0, .null] [] (zs f g) (zQi K) := by
  have h00 : zpb H 0 10 0 = true := by
    rw [zpb_t]
    rintro j _ _ ⟨z1, -⟩
    rw [Nat.zero_testBit] at z1
    cases z1
  have q0 : ∀ {K : Int32 → (Nat → Nat → Int32) → (Nat → Nat → Int64) → Prop}, zCpi X (d + 1 + 1) 284 [.int 0] (zs f g) K = K (nI (zpc 12 0)) f g := q284n (n := 0) (by omega)
  have q1 : ∀ {K : Int32 → (Nat → Nat → Int32) → (Nat → Nat → Int64) → Prop}, zCpi X (d + 1 + 1) 112 [.ref 169, .int 0] (zs f g) K = K (zbi (zpb H 0 10 0)) f g := q112 (S := 0) hH (by omega)
  apply s111_90_169_31
  rw [if_neg (by decide), q0, if_neg (show ¬ nI (zpc 12 0) < (-1 : Int32) from by decide), q1, h00]
  rw [if_neg (show ¬ zbi true = (0 : Int32) from by decide), if_neg (show ¬ nI (zpc 12 0) ≤ (-1 : Int32) from by decide), if_neg (show ¬ nI (zpc 12 0) ≤ (-1 : Int32) from by decide)]
  refine zloop (st := zqs (fun S => zpb H S 10 0)) (W := fun S s => s.1 ≤ 12 → zWp X (d + 2) zm111 90 [.ref 169, .ref 31, .int w, .int (nI s.1), .int (nI s.2.1), .int (nI s.2.2), .int (nI S), .null] [] (zs f g) (zQi K)) (E := fun s => K (zqa w s) f g) 1024 ?_ ?_ 1023 1 (0, 1, 0) (by omega) hK (by simp)
  · intro s hs _
    unfold zqa at hs
    apply s111_90_169_31
    rw [if_pos (show (1024 : Int32) ≤ nI 1024 from by decide)]
    split
    · next e => rw [if_pos e] at hs; exact hs
    · next e =>
      rw [if_neg e] at hs
      split
      · next e => rw [if_pos e] at hs; exact hs
      · next e => rw [if_neg e] at hs; exact hs
  · intro S s hS hs h12
    have hs' := hs (zqs_le h12)
    have hp := zpc_le 12 S
    unfold zqs at hs'
    apply s111_90_169_31
    rw [if_neg (show ¬ (1024 : Int32) ≤ nI S from nI_ge (b := 1024) (by omega) (by omega)), q284n (by omega)]
    by_cases h1 : zpc 12 S < s.1
    · rw [if_neg (by omega)] at hs'
      rw [if_pos (nI_lt h1 (by omega)), nI_1]
      exact hs'
    · rw [if_neg (nI_nlt (by omega) (by omega)), q112 hH hS]
      simp only [zbi_0]
      cases h2 : zpb H S 10 0 with
      | false =>
        simp only [h2] at hs'
        rw [if_pos rfl, nI_1]
        exact hs'
      | true =>
        simp only [h2, true_and, if_pos (show s.1 ≤ zpc 12 S by omega)] at hs'
        rw [if_neg (by decide)]
        by_cases h3 : s.1 < zpc 12 S
        · simp only [if_pos h3] at hs'
          rw [if_neg (nI_ge h3 (by omega)), if_neg (nI_ge h3 (by omega)), nI_1]
          exact hs'
        · simp only [if_neg h3] at hs'
          rw [if_pos (nI_le (by omega) (by omega)), if_pos (nI_le (by omega) (by omega)), nI_1, nI_1]
          exact hs'
theorem l273 {v : Nat → Nat} {k : Nat} {w : Int32} (hk : k ≤ 16) (h : f 178 52 = nI k) (hv : ∀ j, j < k → f 208 j = nI (2 ^ (v j / 10) ||| 2 ^ (v j % 10)) ∧ v j < 100) (hK : K (zqa w (zfold (zqs (fun S => zpa v S k 0)) 1023 1 (0, 0, 0))) f g) : zWp X (d + 1) zm273 27 [.ref 178, .int w, .int 0, .int 0, .int 0, .int 1] [] (zs f g) (zQi K) := by
  refine zloop (st := zqs (fun S => zpa v S k 0)) (W := fun S s => s.1 ≤ 12 → zWp X (d + 1) zm273 27 [.ref 178, .int w, .int (nI s.1), .int (nI s.2.1), .int (nI s.2.2), .int (nI S)] [] (zs f g) (zQi K)) (E := fun s => K (zqa w s) f g) 1024 ?_ ?_ 1023 1 (0, 0, 0) (by omega) hK (by simp)
  · intro s hs _
    unfold zqa at hs
    apply s273_27_178
    rw [if_pos (show (1024 : Int32) ≤ nI 1024 from by decide)]
    split
    · next e => rw [if_pos e] at hs; exact hs
    · next e =>
      rw [if_neg e] at hs
      split
      · next e => rw [if_pos e] at hs; exact hs
      · next e => rw [if_neg e] at hs; exact hs
  · intro S s hS hs h12
    have hs' := hs (zqs_le h12)
    have hp := zpc_le 12 S
    unfold zqs at hs'
    apply s273_27_178
    rw [if_neg (show ¬ (1024 : Int32) ≤ nI S from nI_ge (b := 1024) (by omega) (by omega)), q274 hk h hv hS]
    simp only [zbi_0]
    cases h2 : zpa v S k 0 with
    | false =>
      simp only [h2] at hs'
      rw [if_pos rfl, nI_1]
      exact hs'
    | true =>
      rw [if_neg (by decide), q238 (by omega)]
      by_cases h1 : s.1 ≤ zpc 12 S
      · simp only [h2, true_and, if_pos h1] at hs'
        rw [if_pos (nI_le h1 (by omega)), q238 (by omega)]
        by_cases h3 : s.1 < zpc 12 S
        · simp only [if_pos h3] at hs'
          rw [if_neg (nI_ge h3 (by omega)), q238 (by omega), nI_1]
          exact hs'
        · simp only [if_neg h3] at hs'
          have e : zpc 12 S = s.1 := by omega
          rw [e] at hs'
          rw [if_pos (nI_le (by omega) (by omega)), nI_1, nI_1]
          exact hs'
      · simp only [h2, true_and, if_neg h1] at hs'
        rw [if_neg (nI_ge (by omega) (by omega)), nI_1]
        exact hs'
theorem zr10 {c : Nat} (hc : c < 100) : nI c / 10 - nI c / 10 / 10 * 10 = nI (c / 10) ∧ nI c - nI c / 10 * 10 = nI (c % 10) := by
  have e1 : nI c / 10 = nI (c / 10) := pk_div (d := 10) (by omega) (by omega) (by omega)
  refine ⟨?_, pk_rem (d := 10) (by omega) (by omega) (by omega)⟩
  rw [e1]
  have e2 : nI (c / 10) - nI (c / 10) / 10 * 10 = nI (c / 10 % 10) := pk_rem (d := 10) (by omega) (by omega) (by omega)
  rw [e2, Nat.mod_eq_of_lt (by omega)]
theorem l111 {v : Nat → Nat} {k : Nat} {w : Int32} (hk : k ≤ 16) (h : f 31 1 = nI k) (hv : ∀ j, j < k → f 32 j = nI (v j) ∧ v j < 100) (hK : ∀ r, K (zqa w (zfold (zqs (fun S => zpa v S k 0)) 1023 1 (0, 1, 0))) (zrI f 174 r) g) : zCpi X (d + 3) 111 [.ref 169, .ref 31, .int w] (zs f g) K := by
  apply e111_169_31
  have z := zloop (st := fun i (r : Nat → Int32) => zup r i 0) (W := fun i r => (∀ j, j < i → r j = 0) → zWp X (d + 2) zm111 2 [.ref 169, .ref 31, .int w, .int (nI i), .null, .null, .null, .null] [] (zs (zrI f 174 r) g) (zQi K)) (E := fun _ => True) 10 ?_ ?_ 10 0 (f 174) (by omega) trivial (fun j hj => by omega)
  · rw [zr_id] at z
    exact z
  · intro r _ hr
    apply s111_2_169_31
    rw [if_pos (show (10 : Int32) ≤ nI 10 from by decide)]
    refine zloop (st := zha v) (W := fun j H => ∀ r, (∀ i, i < 10 → r i = nI (H i)) → zWp X (d + 2) zm111 23 [.ref 169, .ref 31, .int w, .int (nI j), .null, .null, .null, .null] [] (zs (zrI f 174 r) g) (zQi K)) (E := fun H => H = zfold (zha v) k 0 (fun _ => 0)) k ?_ ?_ k 0 (fun _ => 0) (by omega) rfl r (fun i hi => hr i hi)
    · intro H hH r hr
      subst hH
      apply s111_23_169_31
      rw [zr_ne (by omega), h, if_pos (nI_le (by omega) (by omega))]
      refine l111c (H := zfold (zha v) k 0 (fun _ => 0)) (fun i hi => by rw [zr_ati]; exact hr i hi) ?_
      rw [show (fun S => zpb (zfold (zha v) k 0 fun x => 0) S 10 0) = fun S => zpa v S k 0 from funext (fun S => zpab (fun j hj => (hv j hj).2))]
      exact hK r
    · intro j H hj hH r hr
      obtain ⟨v1, v2⟩ := hv j hj
      have hm : zmx 0 (nI (v j)) = nI (v j) := by
        rw [zeqI, zmx_t, nI_ti (by omega), show (0 : Int32).toInt = 0 from rfl]
        omega
      apply s111_23_169_31
      rw [zr_ne (by omega), h, if_neg (nI_ge (by omega) (by omega)), q68_31 (k := k) hk (by rw [zr_ne (by omega)]; exact h) hj, zr_ne (by omega), v1, q287, hm]
      simp only [zrO.2, zdO.2, (zr10 v2).1, (zr10 v2).2, zq_10z, if_false, nI_1]
      rw [if_neg (nI_in (c := v j / 10) (by omega) (by omega)), if_neg (nI_in (c := v j / 10) (by omega) (by omega)), nI_cl (k := v j / 10) (by omega), zr_up, zr_ati, zhO.2, zsh1 _ (by omega)]
      refine hH _ (fun i hi => ?_)
      unfold zup zha
      by_cases e : i = v j / 10
      · rw [if_pos e, if_pos e, ← e, hr i hi, nx_or]
      · rw [if_neg e, if_neg e]
        exact hr i hi
  · intro i r hi hr hr2
    apply s111_2_169_31
    rw [if_neg (show ¬ (10 : Int32) ≤ nI i from nI_ge (b := 10) (by omega) (by omega)), if_neg (nI_in (by omega) (by omega)), nI_cl (by omega), zr_up, nI_1]
    refine hr (fun j hj => ?_)
    unfold zup
    by_cases e : j = i
    · rw [if_pos e]
    · rw [if_neg e]
      exact hr2 j (by omega)
end ZQU
theorem zfold_s {S : Type} {st : Nat → S → S} (m i : Nat) (s : S) : zfold st (m + 1) i s = zfold st m (i + 1) (st i s) := rfl
theorem zqs_1 {v : Nat → Nat} {k : Nat} (hv : ∀ j, j < k → ¬ v j / 10 = v j % 10) : zfold (zqs (fun S => zpa v S k 0)) 1023 1 (0, 1, 0) = zfold (zqs (fun S => zpa v S k 0)) 1023 1 (0, 0, 0) := by
  have h1 : zpa v 1 k 0 = true := by
    rw [zpa_t]
    rintro j _ hj ⟨z1, z2⟩
    have t : ∀ b, (1 : Nat).testBit b = true → b = 0 := fun b hb => by
      have e := Nat.testBit_two_pow (n := 0) (m := b)
      rw [Nat.pow_zero] at e
      rw [e] at hb
      exact (of_decide_eq_true hb).symm
    exact hv j (by omega) (by rw [t _ z1, t _ z2])
  have e : ∀ s, zfold (zqs (fun S => zpa v S k 0)) 1023 1 s = zfold (zqs (fun S => zpa v S k 0)) 1022 2 (zqs (fun S => zpa v S k 0) 1 s) := fun s => zfold_s 1022 1 s
  rw [e, e]
  have e1 : zqs (fun S => zpa v S k 0) 1 (0, 1, 0) = (1, 1, 1) := by
    unfold zqs
    rw [if_pos (show zpa v 1 k 0 = true ∧ 0 ≤ zpc 12 1 from ⟨h1, by decide⟩)]
    rfl
  have e2 : zqs (fun S => zpa v S k 0) 1 (0, 0, 0) = (1, 1, 1) := by
    unfold zqs
    rw [if_pos (show zpa v 1 k 0 = true ∧ 0 ≤ zpc 12 1 from ⟨h1, by decide⟩)]
    rfl
  rw [e1, e2]
theorem op_quarrels {X : Nat × (Nat → Int32)} {d : Nat} {w : Int32} : zOp X (d + 4) 154 273 [.int w] := by
  intro fc fr gc gr hR
  obtain ⟨⟨c1, c2, c3, c4, c5, c6, c7, c8, c9, c10, c11⟩, c12, c13, c14, c15, c16⟩ := hR
  have hR0 : ∀ r, zRel (zrI fc 174 r) gc (zuI fr 178 0 0) := fun r => by
    refine ⟨⟨?_, ?_, ?_, ?_, ?_, ?_, ?_, ?_, ?_, ?_, ?_⟩, ?_, ?_, ?_, ?_, ?_⟩
    all_goals try (first | assumption | (simp only [zi_ne, zi_at, zr_ne, zr_at, zj_ne, zj_at, ↓reduceIte, Nat.reduceEqDiff, not_false_eq_true, eq_self, nI_1]; assumption) | (simp only [zi_ne, zi_at, zr_ne, zr_at, zj_ne, zj_at, ↓reduceIte, Nat.reduceEqDiff, not_false_eq_true, eq_self, nI_1]; exact zRow_nil) | (exact zPas_frame (fun i _ _ => by first | rfl | (repeat (first | rw [zi_ne (by omega)] | rw [zr_ne (by omega)]))) (by first | rfl | (simp only [zi_ne, zi_at, zr_ne, zr_at, zj_ne, zj_at, ↓reduceIte, Nat.reduceEqDiff, not_false_eq_true, eq_self, nI_1])) (fun i _ _ => rfl) rfl (by first | rfl | (simp only [zi_ne, zi_at, zr_ne, zr_at, zj_ne, zj_at, ↓reduceIte, Nat.reduceEqDiff, not_false_eq_true, eq_self, nI_1])) (by first | rfl | (simp only [zi_ne, zi_at, zr_ne, zr_at, zj_ne, zj_at, ↓reduceIte, Nat.reduceEqDiff, not_false_eq_true, eq_self, nI_1])) (by first | rfl | (simp only [zi_ne, zi_at, zr_ne, zr_at, zj_ne, zj_at, ↓reduceIte, Nat.reduceEqDiff, not_false_eq_true, eq_self, nI_1])) (by first | rfl | (simp only [zi_ne, zi_at, zr_ne, zr_at, zj_ne, zj_at, ↓reduceIte, Nat.reduceEqDiff, not_false_eq_true, eq_self, nI_1])) c14) | (exact zIma_frame (by first | rfl | (simp only [zi_ne, zi_at, zr_ne, zr_at, zj_ne, zj_at, ↓reduceIte, Nat.reduceEqDiff, not_false_eq_true, eq_self, nI_1])) (fun i _ _ => by first | rfl | (repeat (first | rw [zi_ne (by omega)] | rw [zr_ne (by omega)]))) rfl (by first | rfl | (simp only [zi_ne, zi_at, zr_ne, zr_at, zj_ne, zj_at, ↓reduceIte, Nat.reduceEqDiff, not_false_eq_true, eq_self, nI_1])) (by first | rfl | (simp only [zi_ne, zi_at, zr_ne, zr_at, zj_ne, zj_at, ↓reduceIte, Nat.reduceEqDiff, not_false_eq_true, eq_self, nI_1])) c15))
  have hR1 : zRel fc gc (zuI fr 178 0 0) := by
    have := hR0 (fc 174)
    rw [zr_id] at this
    exact this
  obtain ⟨k, hk, e1, e2, e3⟩ := id c4
  have e2' : zuI fr 178 0 0 178 52 = nI k := by simp only [zi_ne, zi_at, zr_ne, zr_at, zj_ne, zj_at, ↓reduceIte, Nat.reduceEqDiff, not_false_eq_true, eq_self, nI_1]; exact e2
  have hv : ∀ j, j < k → (fc 32 j = nI ((fc 32 j).toInt.toNat) ∧ (fc 32 j).toInt.toNat < 100) ∧ (zuI fr 178 0 0 208 j = nI (2 ^ ((fc 32 j).toInt.toNat / 10) ||| 2 ^ ((fc 32 j).toInt.toNat % 10)) ∧ (fc 32 j).toInt.toNat < 100) ∧ ¬ (fc 32 j).toInt.toNat / 10 = (fc 32 j).toInt.toNat % 10 := fun j hj => by
    obtain ⟨p, q, hp, hq, hpq, y1, y2⟩ := e3 j hj
    have e : (fc 32 j).toInt.toNat = 10 * p + q := by rw [y1, nI_ti (by omega)]; omega
    rw [e, show (10 * p + q) / 10 = p by omega, show (10 * p + q) % 10 = q by omega, zi_ne (by omega)]
    exact ⟨⟨y1, by omega⟩, ⟨y2, by omega⟩, hpq⟩
  by_cases hw : 0 ≤ w.toInt ∧ w.toInt ≤ 2
  · apply e154_0
    simp only [q124, hw, true_or, or_true, false_or, or_false, or_self, and_self, true_and, and_true, not_true_eq_false, not_false_eq_true, ↓reduceIte, eq_self, zq_01, zq_10, zq_m0, zq_m1, zq_0m, zq_1m, zq_2, zq_6, zq_8, zq_10z, zq_12, zq_1000, Int32.reduceLT, Int32.reduceLE, Int32.reduceToInt, Int32.reduceToNatClampNeg, Int32.reduceOfNat, Int.reduceLT, Int.reduceLE, Int.reduceEq, Nat.reduceLeDiff, Nat.reduceEqDiff, zl_2, zl_8, zl_12, zl_50, zl_132, zl_133, zl_134, zl_999, zl_10000, zb_0, zb_1]
    refine l111 (d := d) (v := fun j => (fc 32 j).toInt.toNat) hk e1 (fun j hj => (hv j hj).1) (fun r => ?_)
    apply e273_178
    simp only [q165, hw, true_or, or_true, false_or, or_false, or_self, and_self, true_and, and_true, not_true_eq_false, not_false_eq_true, ↓reduceIte, eq_self, zq_01, zq_10, zq_m0, zq_m1, zq_0m, zq_1m, zq_2, zq_6, zq_8, zq_10z, zq_12, zq_1000, Int32.reduceLT, Int32.reduceLE, Int32.reduceToInt, Int32.reduceToNatClampNeg, Int32.reduceOfNat, Int.reduceLT, Int.reduceLE, Int.reduceEq, Nat.reduceLeDiff, Nat.reduceEqDiff, zl_2, zl_8, zl_12, zl_50, zl_132, zl_133, zl_134, zl_999, zl_10000, zb_0, zb_1]
    refine l273 (d := d + 2) (v := fun j => (fc 32 j).toInt.toNat) hk e2' (fun j hj => (hv j hj).2.1) ?_
    rw [zqs_1 (fun j hj => (hv j hj).2.2)]
    exact ⟨rfl, hR0 r⟩
  · apply e154_0
    simp only [q124, hw, true_or, or_true, false_or, or_false, or_self, and_self, true_and, and_true, not_true_eq_false, not_false_eq_true, ↓reduceIte, eq_self, zq_01, zq_10, zq_m0, zq_m1, zq_0m, zq_1m, zq_2, zq_6, zq_8, zq_10z, zq_12, zq_1000, Int32.reduceLT, Int32.reduceLE, Int32.reduceToInt, Int32.reduceToNatClampNeg, Int32.reduceOfNat, Int.reduceLT, Int.reduceLE, Int.reduceEq, Nat.reduceLeDiff, Nat.reduceEqDiff, zl_2, zl_8, zl_12, zl_50, zl_132, zl_133, zl_134, zl_999, zl_10000, zb_0, zb_1]
    apply e273_178
    simp only [q165, hw, true_or, or_true, false_or, or_false, or_self, and_self, true_and, and_true, not_true_eq_false, not_false_eq_true, ↓reduceIte, eq_self, zq_01, zq_10, zq_m0, zq_m1, zq_0m, zq_1m, zq_2, zq_6, zq_8, zq_10z, zq_12, zq_1000, Int32.reduceLT, Int32.reduceLE, Int32.reduceToInt, Int32.reduceToNatClampNeg, Int32.reduceOfNat, Int.reduceLT, Int.reduceLE, Int.reduceEq, Nat.reduceLeDiff, Nat.reduceEqDiff, zl_2, zl_8, zl_12, zl_50, zl_132, zl_133, zl_134, zl_999, zl_10000, zb_0, zb_1]
    exact ⟨rfl, hR1⟩

/-! round: the reference's side -/
def zlm (S : Nat → Nat) (k : Nat) : Nat := min (min (if 0 < k % 8 then S (k - 1) else 100000000) (if k % 8 < 7 then S (k + 1) else 100000000)) (min (if 8 ≤ k then S (k - 8) else 100000000) (if k < 40 then S (k + 8) else 100000000))
theorem zlm_le {S : Nat → Nat} {j k : Nat} (hk : k < 48) (hj : j < 48) (h : znb j k) : zlm S k ≤ S j := by
  unfold zlm
  rcases h with h | ⟨h, h2⟩ | ⟨h, h2⟩ | ⟨h, h2⟩
  · have e : (if k < 40 then S (k + 8) else 100000000) = S j := by rw [if_pos (by omega), h]
    rw [e]
    exact Nat.le_trans (Nat.min_le_right _ _) (Nat.min_le_right _ _)
  · have e : (if 0 < k % 8 then S (k - 1) else 100000000) = S j := by rw [if_pos (by omega)]; congr 1; omega
    rw [e]
    exact Nat.le_trans (Nat.min_le_left _ _) (Nat.min_le_left _ _)
  · have e : (if 8 ≤ k then S (k - 8) else 100000000) = S j := by rw [if_pos (by omega)]; congr 1; omega
    rw [e]
    exact Nat.le_trans (Nat.min_le_right _ _) (Nat.min_le_left _ _)
  · have e : (if k % 8 < 7 then S (k + 1) else 100000000) = S j := by rw [if_pos (by omega), h]
    rw [e]
    exact Nat.le_trans (Nat.min_le_left _ _) (Nat.min_le_right _ _)
theorem zlm_at {S : Nat → Nat} {k : Nat} (hk : k < 48) (h : zlm S k < 100000000) : ∃ j, j < 48 ∧ znb j k ∧ zlm S k = S j := by
  have h1 : zlm S k = (if 0 < k % 8 then S (k - 1) else 100000000) ∨ zlm S k = (if k % 8 < 7 then S (k + 1) else 100000000) ∨ zlm S k = (if 8 ≤ k then S (k - 8) else 100000000) ∨ zlm S k = (if k < 40 then S (k + 8) else 100000000) := by
    unfold zlm
    generalize (if 0 < k % 8 then S (k - 1) else 100000000) = a
    generalize (if k % 8 < 7 then S (k + 1) else 100000000) = b
    generalize (if 8 ≤ k then S (k - 8) else 100000000) = c
    generalize (if k < 40 then S (k + 8) else 100000000) = e
    omega
  rcases h1 with z | z | z | z
  · by_cases e : 0 < k % 8
    · rw [if_pos e] at z
      exact ⟨k - 1, by omega, by unfold znb; omega, z⟩
    · rw [if_neg e] at z
      omega
  · by_cases e : k % 8 < 7
    · rw [if_pos e] at z
      exact ⟨k + 1, by omega, by unfold znb; omega, z⟩
    · rw [if_neg e] at z
      omega
  · by_cases e : 8 ≤ k
    · rw [if_pos e] at z
      exact ⟨k - 8, by omega, by unfold znb; omega, z⟩
    · rw [if_neg e] at z
      omega
  · by_cases e : k < 40
    · rw [if_pos e] at z
      exact ⟨k + 8, by omega, by unfold znb; omega, z⟩
    · rw [if_neg e] at z
      omega
/-- after r rounds, and in the next one as far as k -/
def zWlk (P a : Nat) (S : Nat → Nat) (r k : Nat) : Prop := (∀ j, j < 48 → S j ≤ 100000000) ∧ (∀ j, j < 48 → S j < 100000000 → zRt P a (S j) j) ∧ (∀ t, t ≤ r → ∀ j, j < 48 → zRt P a t j → S j ≤ t) ∧ ∀ j, j < k → j < 48 → ∀ t, t ≤ r → zRt P a (t + 1) j → S j ≤ t + 1
theorem zWlk_skip {P a r k : Nat} {S : Nat → Nat} (hk : k < 48) (hp : P.testBit k = true) (h : zWlk P a S r k) : zWlk P a S r (k + 1) := by
  obtain ⟨h1, h2, h3, h4⟩ := h
  refine ⟨h1, h2, h3, fun j hj hj2 t ht hz => ?_⟩
  by_cases e : j = k
  · subst e
    rcases hz with z | ⟨-, z, -⟩
    · have := h3 t ht j hj2 z
      omega
    · rw [hp] at z
      exact absurd z (by decide)
  · exact h4 j (by omega) hj2 t ht hz
theorem zWlk_step {P a r k : Nat} {S : Nat → Nat} (hk : k < 48) (hp : P.testBit k = false) (h : zWlk P a S r k) : zWlk P a (zupn S k (min (S k) (zlm S k + 1))) r (k + 1) := by
  obtain ⟨h1, h2, h3, h4⟩ := h
  have hne : ∀ j, ¬ j = k → zupn S k (min (S k) (zlm S k + 1)) j = S j := fun j hj => by unfold zupn; rw [if_neg hj]
  have hat : zupn S k (min (S k) (zlm S k + 1)) k = min (S k) (zlm S k + 1) := by unfold zupn; rw [if_pos rfl]
  have hle : ∀ j, zupn S k (min (S k) (zlm S k + 1)) j ≤ S j := fun j => by
    by_cases e : j = k
    · rw [e, hat]
      exact Nat.min_le_left _ _
    · rw [hne j e]
      exact Nat.le_refl _
  refine ⟨fun j hj => Nat.le_trans (hle j) (h1 j hj), fun j hj hz => ?_, fun t ht j hj hz => Nat.le_trans (hle j) (h3 t ht j hj hz), fun j hj hj2 t ht hz => ?_⟩
  · by_cases e : j = k
    · subst e
      rw [hat] at hz ⊢
      by_cases e2 : S j ≤ zlm S j + 1
      · rw [Nat.min_eq_left e2] at hz ⊢
        exact h2 j hj hz
      · rw [Nat.min_eq_right (by omega)] at hz ⊢
        obtain ⟨i, hi, hn, ei⟩ := zlm_at hk (show zlm S j < 100000000 by omega)
        rw [ei] at hz ⊢
        exact Or.inr ⟨hj, hp, i, hi, h2 i hi (by omega), hn⟩
    · rw [hne j e] at hz ⊢
      exact h2 j hj hz
  · by_cases e : j = k
    · subst e
      rw [hat]
      rcases hz with z | ⟨-, -, i, hi, z, hn⟩
      · have := h3 t ht j hj2 z
        omega
      · have y1 := zlm_le (S := S) hj2 hi hn
        have y2 := h3 t ht i hi z
        omega
    · rw [hne j e]
      exact h4 j (by omega) hj2 t ht hz
theorem zWlk_next {P a r : Nat} {S : Nat → Nat} (h : zWlk P a S r 48) : zWlk P a S (r + 1) 0 := by
  obtain ⟨h1, h2, h3, h4⟩ := h
  refine ⟨h1, h2, fun t ht j hj hz => ?_, fun j hj => absurd hj (Nat.not_lt_zero j)⟩
  cases t with
  | zero => exact h3 0 (by omega) j hj hz
  | succ t => exact h4 j hj hj t (by omega) hz
section ZWB
variable {X : Nat × (Nat → Int32)} {d : Nat} {g : Nat → Nat → Int64} {P a : Nat} {K : (Nat → Nat → Int32) → (Nat → Nat → Int64) → Prop}
theorem l250_s {F : Nat → Nat → Int32} {S : Nat → Nat} {x1 x2 : Int32} {k : Nat} (hk : k < 48) (hS : ∀ j, j < 48 → F 200 j = nI (S j) ∧ S j ≤ 100000000) (hp : ¬ F 197 k = 1) (h : zWp X (d + 2) zm250 42 [.ref 178, .int x1, .int x2, .int (nI (k + 1)), .null] [] (zs (zuI F 200 k (nI (min (S k) (zlm S k + 1)))) g) (zQv K)) : zWp X (d + 2) zm250 42 [.ref 178, .int x1, .int x2, .int (nI k), .null] [] (zs F g) (zQv K) := by
  have hrm : nI k - nI k / 8 * 8 = nI (k % 8) := nI_r8 hk
  have kk := nI_cl (k := k) (by omega)
  have ik := nI_in' (c := k) (N := 48) (by omega) (by omega)
  have ik96 := nI_in' (c := k) (N := 96) (by omega) (by omega)
  have far : Int32.ofNat 100000000 = nI 100000000 := rfl
  have e8 : (8 : Int32) = nI 8 := rfl
  have hin : ∀ (L R U D : Nat), zlm S k = min (min L R) (min U D) → L ≤ 100000000 → R ≤ 100000000 → U ≤ 100000000 → D ≤ 100000000 → zWp X (d + 2) zm250 42 [.ref 178, .int x1, .int x2, .int (nI (k + 1)), .null] [] (zs (zuI F 200 k (zmn (nI (S k)) (zmn (zmn (nI L) (nI R)) (zmn (nI U) (nI D)) + 1))) g) (zQv K) := fun L R U D e l1 l2 l3 l4 => by
    have s1 := (hS k hk).2
    rw [zmn_nI (a := L) (by omega) (by omega), zmn_nI (a := U) (by omega) (by omega), zmn_nI (by omega) (by omega), nI_1, zmn_nI (by omega) (by omega), ← e]
    exact h
  apply s250_42_178
  rw [if_neg (show ¬ (48 : Int32) ≤ nI k from nI_ge (b := 48) hk (by omega)), kk, if_neg ik96, if_neg hp, if_neg (by decide), zrO.2, hrm]
  by_cases c1 : k % 8 = 0
  · rw [if_pos (show nI (k % 8) ≤ 0 by rw [c1]; decide)]
    by_cases c3 : k < 8
    · rw [if_neg (by decide), if_neg (show ¬ (7 : Int32) ≤ nI (k % 8) from nI_ge (b := 7) (by omega) (by omega)), show nI k + (1 : Int32) = nI (k + 1) from nI_1 k, if_neg (nI_in (c := k + 1) (by omega) (by omega)), nI_cl (k := k + 1) (by omega), q222, if_pos (show nI k < (8 : Int32) from nI_lt (b := 8) (by omega) (by omega)), if_neg (show ¬ (40 : Int32) ≤ nI k from nI_ge (b := 40) (by omega) (by omega)), show nI k + (8 : Int32) = nI (k + 8) from nI_add k 8, if_neg (nI_in (c := k + 8) (by omega) (by omega)), nI_cl (k := k + 8) (by omega), q222, q222, if_neg ik, q222, if_neg ik, far]
      rw [(hS (k + 1) (by omega)).1, (hS (k + 8) (by omega)).1, (hS k hk).1]
      exact hin 100000000 (S (k + 1)) 100000000 (S (k + 8)) (by unfold zlm; rw [if_neg (by omega), if_pos (by omega), if_neg (by omega), if_pos (by omega)]) (by omega) (hS (k + 1) (by omega)).2 (by omega) (hS (k + 8) (by omega)).2
    · by_cases c4 : 40 ≤ k
      · rw [if_neg (by decide), if_neg (show ¬ (7 : Int32) ≤ nI (k % 8) from nI_ge (b := 7) (by omega) (by omega)), show nI k + (1 : Int32) = nI (k + 1) from nI_1 k, if_neg (nI_in (c := k + 1) (by omega) (by omega)), nI_cl (k := k + 1) (by omega), q222, if_neg (show ¬ nI k < (8 : Int32) by simp only [Int32.lt_iff_toInt_lt, Int32.le_iff_toInt_le, Int32.reduceToInt, nI_ti (show k ≤ 100000 by omega)]; omega), zsO.2, show nI k - (8 : Int32) = nI (k - 8) from pk_sub (b := 8) (by omega), if_neg (nI_in (c := k - 8) (by omega) (by omega)), nI_cl (k := k - 8) (by omega), if_pos (show (40 : Int32) ≤ nI k from nI_le (a := 40) (by omega) (by omega)), q222, q222, if_neg ik, q222, if_neg ik, far]
        rw [(hS (k + 1) (by omega)).1, (hS (k - 8) (by omega)).1, (hS k hk).1]
        exact hin 100000000 (S (k + 1)) (S (k - 8)) 100000000 (by unfold zlm; rw [if_neg (by omega), if_pos (by omega), if_pos (by omega), if_neg (by omega)]) (by omega) (hS (k + 1) (by omega)).2 (hS (k - 8) (by omega)).2 (by omega)
      · rw [if_neg (by decide), if_neg (show ¬ (7 : Int32) ≤ nI (k % 8) from nI_ge (b := 7) (by omega) (by omega)), show nI k + (1 : Int32) = nI (k + 1) from nI_1 k, if_neg (nI_in (c := k + 1) (by omega) (by omega)), nI_cl (k := k + 1) (by omega), q222, if_neg (show ¬ nI k < (8 : Int32) by simp only [Int32.lt_iff_toInt_lt, Int32.le_iff_toInt_le, Int32.reduceToInt, nI_ti (show k ≤ 100000 by omega)]; omega), zsO.2, show nI k - (8 : Int32) = nI (k - 8) from pk_sub (b := 8) (by omega), if_neg (nI_in (c := k - 8) (by omega) (by omega)), nI_cl (k := k - 8) (by omega), if_neg (show ¬ (40 : Int32) ≤ nI k from nI_ge (b := 40) (by omega) (by omega)), show nI k + (8 : Int32) = nI (k + 8) from nI_add k 8, if_neg (nI_in (c := k + 8) (by omega) (by omega)), nI_cl (k := k + 8) (by omega), q222, q222, if_neg ik, q222, if_neg ik, far]
        rw [(hS (k + 1) (by omega)).1, (hS (k - 8) (by omega)).1, (hS (k + 8) (by omega)).1, (hS k hk).1]
        exact hin 100000000 (S (k + 1)) (S (k - 8)) (S (k + 8)) (by unfold zlm; rw [if_neg (by omega), if_pos (by omega), if_pos (by omega), if_pos (by omega)]) (by omega) (hS (k + 1) (by omega)).2 (hS (k - 8) (by omega)).2 (hS (k + 8) (by omega)).2
  · rw [if_neg (nI_nle (by omega) (by omega))]
    by_cases c2 : 7 ≤ k % 8
    · by_cases c3 : k < 8
      · rw [zsO.2, (nI_m1 (show 0 < k by omega)).2, if_neg (nI_in (c := k - 1) (by omega) (by omega)), nI_cl (k := k - 1) (by omega), if_neg (by decide), if_pos (show (7 : Int32) ≤ nI (k % 8) from nI_le (a := 7) (by omega) (by omega)), q222, if_pos (show nI k < (8 : Int32) from nI_lt (b := 8) (by omega) (by omega)), if_neg (show ¬ (40 : Int32) ≤ nI k from nI_ge (b := 40) (by omega) (by omega)), show nI k + (8 : Int32) = nI (k + 8) from nI_add k 8, if_neg (nI_in (c := k + 8) (by omega) (by omega)), nI_cl (k := k + 8) (by omega), q222, q222, if_neg ik, q222, if_neg ik, far]
        rw [(hS (k - 1) (by omega)).1, (hS (k + 8) (by omega)).1, (hS k hk).1]
        rw [nI_1]
        exact hin (S (k - 1)) 100000000 100000000 (S (k + 8)) (by unfold zlm; rw [if_pos (by omega), if_neg (by omega), if_neg (by omega), if_pos (by omega)]) (hS (k - 1) (by omega)).2 (by omega) (by omega) (hS (k + 8) (by omega)).2
      · by_cases c4 : 40 ≤ k
        · rw [zsO.2, (nI_m1 (show 0 < k by omega)).2, if_neg (nI_in (c := k - 1) (by omega) (by omega)), nI_cl (k := k - 1) (by omega), if_neg (by decide), if_pos (show (7 : Int32) ≤ nI (k % 8) from nI_le (a := 7) (by omega) (by omega)), q222, if_neg (show ¬ nI k < (8 : Int32) by simp only [Int32.lt_iff_toInt_lt, Int32.le_iff_toInt_le, Int32.reduceToInt, nI_ti (show k ≤ 100000 by omega)]; omega), zsO.2, show nI k - (8 : Int32) = nI (k - 8) from pk_sub (b := 8) (by omega), if_neg (nI_in (c := k - 8) (by omega) (by omega)), nI_cl (k := k - 8) (by omega), if_pos (show (40 : Int32) ≤ nI k from nI_le (a := 40) (by omega) (by omega)), q222, q222, if_neg ik, q222, if_neg ik, far]
          rw [(hS (k - 1) (by omega)).1, (hS (k - 8) (by omega)).1, (hS k hk).1]
          rw [nI_1]
          exact hin (S (k - 1)) 100000000 (S (k - 8)) 100000000 (by unfold zlm; rw [if_pos (by omega), if_neg (by omega), if_pos (by omega), if_neg (by omega)]) (hS (k - 1) (by omega)).2 (by omega) (hS (k - 8) (by omega)).2 (by omega)
        · rw [zsO.2, (nI_m1 (show 0 < k by omega)).2, if_neg (nI_in (c := k - 1) (by omega) (by omega)), nI_cl (k := k - 1) (by omega), if_neg (by decide), if_pos (show (7 : Int32) ≤ nI (k % 8) from nI_le (a := 7) (by omega) (by omega)), q222, if_neg (show ¬ nI k < (8 : Int32) by simp only [Int32.lt_iff_toInt_lt, Int32.le_iff_toInt_le, Int32.reduceToInt, nI_ti (show k ≤ 100000 by omega)]; omega), zsO.2, show nI k - (8 : Int32) = nI (k - 8) from pk_sub (b := 8) (by omega), if_neg (nI_in (c := k - 8) (by omega) (by omega)), nI_cl (k := k - 8) (by omega), if_neg (show ¬ (40 : Int32) ≤ nI k from nI_ge (b := 40) (by omega) (by omega)), show nI k + (8 : Int32) = nI (k + 8) from nI_add k 8, if_neg (nI_in (c := k + 8) (by omega) (by omega)), nI_cl (k := k + 8) (by omega), q222, q222, if_neg ik, q222, if_neg ik, far]
          rw [(hS (k - 1) (by omega)).1, (hS (k - 8) (by omega)).1, (hS (k + 8) (by omega)).1, (hS k hk).1]
          rw [nI_1]
          exact hin (S (k - 1)) 100000000 (S (k - 8)) (S (k + 8)) (by unfold zlm; rw [if_pos (by omega), if_neg (by omega), if_pos (by omega), if_pos (by omega)]) (hS (k - 1) (by omega)).2 (by omega) (hS (k - 8) (by omega)).2 (hS (k + 8) (by omega)).2
    · by_cases c3 : k < 8
      · rw [zsO.2, (nI_m1 (show 0 < k by omega)).2, if_neg (nI_in (c := k - 1) (by omega) (by omega)), nI_cl (k := k - 1) (by omega), if_neg (by decide), if_neg (show ¬ (7 : Int32) ≤ nI (k % 8) from nI_ge (b := 7) (by omega) (by omega)), show nI k + (1 : Int32) = nI (k + 1) from nI_1 k, if_neg (nI_in (c := k + 1) (by omega) (by omega)), nI_cl (k := k + 1) (by omega), q222, if_pos (show nI k < (8 : Int32) from nI_lt (b := 8) (by omega) (by omega)), if_neg (show ¬ (40 : Int32) ≤ nI k from nI_ge (b := 40) (by omega) (by omega)), show nI k + (8 : Int32) = nI (k + 8) from nI_add k 8, if_neg (nI_in (c := k + 8) (by omega) (by omega)), nI_cl (k := k + 8) (by omega), q222, q222, if_neg ik, q222, if_neg ik, far]
        rw [(hS (k - 1) (by omega)).1, (hS (k + 1) (by omega)).1, (hS (k + 8) (by omega)).1, (hS k hk).1]
        exact hin (S (k - 1)) (S (k + 1)) 100000000 (S (k + 8)) (by unfold zlm; rw [if_pos (by omega), if_pos (by omega), if_neg (by omega), if_pos (by omega)]) (hS (k - 1) (by omega)).2 (hS (k + 1) (by omega)).2 (by omega) (hS (k + 8) (by omega)).2
      · by_cases c4 : 40 ≤ k
        · rw [zsO.2, (nI_m1 (show 0 < k by omega)).2, if_neg (nI_in (c := k - 1) (by omega) (by omega)), nI_cl (k := k - 1) (by omega), if_neg (by decide), if_neg (show ¬ (7 : Int32) ≤ nI (k % 8) from nI_ge (b := 7) (by omega) (by omega)), show nI k + (1 : Int32) = nI (k + 1) from nI_1 k, if_neg (nI_in (c := k + 1) (by omega) (by omega)), nI_cl (k := k + 1) (by omega), q222, if_neg (show ¬ nI k < (8 : Int32) by simp only [Int32.lt_iff_toInt_lt, Int32.le_iff_toInt_le, Int32.reduceToInt, nI_ti (show k ≤ 100000 by omega)]; omega), zsO.2, show nI k - (8 : Int32) = nI (k - 8) from pk_sub (b := 8) (by omega), if_neg (nI_in (c := k - 8) (by omega) (by omega)), nI_cl (k := k - 8) (by omega), if_pos (show (40 : Int32) ≤ nI k from nI_le (a := 40) (by omega) (by omega)), q222, q222, if_neg ik, q222, if_neg ik, far]
          rw [(hS (k - 1) (by omega)).1, (hS (k + 1) (by omega)).1, (hS (k - 8) (by omega)).1, (hS k hk).1]
          exact hin (S (k - 1)) (S (k + 1)) (S (k - 8)) 100000000 (by unfold zlm; rw [if_pos (by omega), if_pos (by omega), if_pos (by omega), if_neg (by omega)]) (hS (k - 1) (by omega)).2 (hS (k + 1) (by omega)).2 (hS (k - 8) (by omega)).2 (by omega)
        · rw [zsO.2, (nI_m1 (show 0 < k by omega)).2, if_neg (nI_in (c := k - 1) (by omega) (by omega)), nI_cl (k := k - 1) (by omega), if_neg (by decide), if_neg (show ¬ (7 : Int32) ≤ nI (k % 8) from nI_ge (b := 7) (by omega) (by omega)), show nI k + (1 : Int32) = nI (k + 1) from nI_1 k, if_neg (nI_in (c := k + 1) (by omega) (by omega)), nI_cl (k := k + 1) (by omega), q222, if_neg (show ¬ nI k < (8 : Int32) by simp only [Int32.lt_iff_toInt_lt, Int32.le_iff_toInt_le, Int32.reduceToInt, nI_ti (show k ≤ 100000 by omega)]; omega), zsO.2, show nI k - (8 : Int32) = nI (k - 8) from pk_sub (b := 8) (by omega), if_neg (nI_in (c := k - 8) (by omega) (by omega)), nI_cl (k := k - 8) (by omega), if_neg (show ¬ (40 : Int32) ≤ nI k from nI_ge (b := 40) (by omega) (by omega)), show nI k + (8 : Int32) = nI (k + 8) from nI_add k 8, if_neg (nI_in (c := k + 8) (by omega) (by omega)), nI_cl (k := k + 8) (by omega), q222, q222, if_neg ik, q222, if_neg ik]
          rw [(hS (k - 1) (by omega)).1, (hS (k + 1) (by omega)).1, (hS (k - 8) (by omega)).1, (hS (k + 8) (by omega)).1, (hS k hk).1]
          exact hin (S (k - 1)) (S (k + 1)) (S (k - 8)) (S (k + 8)) (by unfold zlm; rw [if_pos (by omega), if_pos (by omega), if_pos (by omega), if_pos (by omega)]) (hS (k - 1) (by omega)).2 (hS (k + 1) (by omega)).2 (hS (k - 8) (by omega)).2 (hS (k + 8) (by omega)).2
theorem l250 {f : Nat → Nat → Int32} (ha : a < 48) (hpl : ∀ k, k < 48 → f 197 k = if P.testBit k = true then 1 else 0) (hK : ∀ (F : Nat → Nat → Int32) (S : Nat → Nat), (∀ j, j < 48 → F 200 j = nI (S j)) → zWlk P a S 48 0 → (∀ i, ¬ i = 200 → F i = f i) → K F g) : zCpv X (d + 3) 250 [.ref 178, .int (nI a)] (zs f g) K := by
  have hrow : ∀ r, r < 48 → (∀ (F : Nat → Nat → Int32) (S : Nat → Nat), (∀ j, j < 48 → F 200 j = nI (S j)) → zWlk P a S (r + 1) 0 → (∀ i, ¬ i = 200 → F i = f i) → zWp X (d + 2) zm250 34 [.ref 178, .int (nI a), .int (nI (r + 1)), .null, .null] [] (zs F g) (zQv K)) → ∀ m k, k + m = 48 → ∀ (F : Nat → Nat → Int32) (S : Nat → Nat), (∀ j, j < 48 → F 200 j = nI (S j)) → zWlk P a S r k → (∀ i, ¬ i = 200 → F i = f i) → zWp X (d + 2) zm250 42 [.ref 178, .int (nI a), .int (nI r), .int (nI k), .null] [] (zs F g) (zQv K) := by
    intro r hr h m
    induction m with
    | zero =>
      intro k hk F S hS hW hF
      have ek : k = 48 := by omega
      subst ek
      apply s250_42_178
      rw [if_pos (show (48 : Int32) ≤ nI 48 from by decide), nI_1]
      exact h F S hS (zWlk_next hW) hF
    | succ m ih =>
      intro k hk F S hS hW hF
      by_cases hp : P.testBit k = true
      · apply s250_42_178
        rw [if_neg (show ¬ (48 : Int32) ≤ nI k from nI_ge (b := 48) (by omega) (by omega)), if_neg (nI_in (by omega) (by omega)), nI_cl (by omega), hF 197 (by omega), hpl k (by omega), if_pos hp, if_pos rfl, nI_1]
        exact ih (k + 1) (by omega) F S hS (zWlk_skip (by omega) hp hW) hF
      · have hp' : P.testBit k = false := by
          rcases hb : P.testBit k with _ | _
          · rfl
          · exact absurd hb hp
        refine l250_s (d := d) (S := S) (by omega) (fun j hj => ⟨hS j hj, hW.1 j hj⟩) (by rw [hF 197 (by omega), hpl k (by omega), if_neg hp]; decide) ?_
        refine ih (k + 1) (by omega) _ (zupn S k (min (S k) (zlm S k + 1))) (fun j hj => ?_) (zWlk_step (by omega) hp' hW) (fun i hi => by rw [zi_ne hi, hF i hi])
        rw [zi_at]
        unfold zupn
        by_cases e : j = k
        · rw [if_pos e, if_pos e]
        · rw [if_neg e, if_neg e]
          exact hS j hj
  have hall : ∀ m r, r + m = 48 → ∀ (F : Nat → Nat → Int32) (S : Nat → Nat), (∀ j, j < 48 → F 200 j = nI (S j)) → zWlk P a S r 0 → (∀ i, ¬ i = 200 → F i = f i) → zWp X (d + 2) zm250 34 [.ref 178, .int (nI a), .int (nI r), .null, .null] [] (zs F g) (zQv K) := by
    intro m
    induction m with
    | zero =>
      intro r hr F S hS hW hF
      have er : r = 48 := by omega
      subst er
      apply s250_34_178
      rw [if_pos (show (48 : Int32) ≤ nI 48 from by decide)]
      exact hK F S hS hW hF
    | succ m ih =>
      intro r hr F S hS hW hF
      apply s250_34_178
      rw [if_neg (show ¬ (48 : Int32) ≤ nI r from nI_ge (b := 48) (by omega) (by omega))]
      exact hrow r (by omega) (fun F S h1 h2 h3 => ih (r + 1) (by omega) F S h1 h2 h3) 48 0 (by omega) F S hS hW hF
  have hini : ∀ m k, k + m = 48 → ∀ F : Nat → Nat → Int32, (∀ j, j < k → F 200 j = nI (if j = a then 0 else 100000000)) → (∀ i, ¬ i = 200 → F i = f i) → zWp X (d + 2) zm250 2 [.ref 178, .int (nI a), .int (nI k), .null, .null] [] (zs F g) (zQv K) := by
    intro m
    induction m with
    | zero =>
      intro k hk F hS hF
      have ek : k = 48 := by omega
      subst ek
      apply s250_2_178
      rw [if_pos (show (48 : Int32) ≤ nI 48 from by decide)]
      refine hall 48 0 (by omega) F (fun j => if j = a then 0 else 100000000) hS ⟨fun j hj => ?_, fun j hj hz => ?_, fun t ht j hj hz => ?_, fun j hj => absurd hj (Nat.not_lt_zero j)⟩ hF
      · show (if j = a then 0 else 100000000) ≤ 100000000
        split <;> omega
      · by_cases e : j = a
        · show zRt P a (if j = a then 0 else 100000000) j
          rw [if_pos e]
          exact e
        · have hz' : (if j = a then 0 else 100000000) < 100000000 := hz
          rw [if_neg e] at hz'
          omega
      · have et : t = 0 := by omega
        subst et
        show (if j = a then 0 else 100000000) ≤ 0
        rw [if_pos (show j = a from hz)]
        omega
    | succ m ih =>
      intro k hk F hS hF
      have hnew : ∀ v : Int32, v = nI (if k = a then 0 else 100000000) → zWp X (d + 2) zm250 2 [.ref 178, .int (nI a), .int (nI (k + 1)), .null, .null] [] (zs (zuI F 200 k v) g) (zQv K) := fun v hv => by
        refine ih (k + 1) (by omega) _ (fun j hj => ?_) (fun i hi => by rw [zi_ne hi, hF i hi])
        rw [zi_at]
        by_cases e : j = k
        · rw [if_pos e, hv, e]
        · rw [if_neg e]
          exact hS j (by omega)
      apply s250_2_178
      rw [if_neg (show ¬ (48 : Int32) ≤ nI k from nI_ge (b := 48) (by omega) (by omega)), nI_1]
      by_cases e : k = a
      · rw [if_pos (by rw [e]), if_neg (nI_in (by omega) (by omega)), nI_cl (by omega)]
        exact hnew 0 (by rw [if_pos e]; rfl)
      · rw [if_neg (nI_neq (by omega) (by omega) e), if_neg (nI_in (by omega) (by omega)), nI_cl (by omega)]
        exact hnew _ (by rw [if_neg e]; rfl)
  apply e250_178
  exact hini 48 0 (by omega) f (fun j hj => absurd hj (Nat.not_lt_zero j)) (fun _ _ => rfl)
end ZWB

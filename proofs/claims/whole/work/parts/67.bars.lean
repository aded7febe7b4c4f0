/-! bars -/
def zT1 (j : Nat) : Nat := [0, 0, 0, 0, 0, 0, 1, 0, 0, 0, 1, 0, 0, 0, 1, 1, 1, 0, 1, 0, 1, 1, 1, 1, 1, 1, 0, 2, 2, 2, 1, 2, 1, 4, 1, 2, 3, 4, 2, 3, 2, 4, 6, 6, 3, 6, 5, 5, 9, 7, 7, 10, 9, 5, 14, 11, 12, 14, 16, 11, 23, 15, 16, 27, 26, 19, 31, 25, 25, 45, 39, 30, 50, 46, 38, 69, 56, 53, 84, 75, 56, 109, 88, 84, 131, 122, 96, 172, 140, 125, 218, 193, 159, 265, 227, 197, 352, 297, 253, 424, 377, 312, 550, 462, 411, 689, 605, 492, 873, 736, 649, 1097, 961, 801, 1385, 1181, 1012, 1762, 1522, 1294, 2193, 1898, 1609].getD j 0
def zT2 (j : Nat) : Nat := [1000000, 1000000, 1000000, 1000000, 1000000, 1000000, 1, 1000000, 1000000, 1000000, 1, 1000000, 1000000, 1000000, 1, 2, 2, 1000000, 2, 1000000, 2, 3, 2, 2, 3, 3, 1000000, 3, 3, 3, 4, 3, 3, 4, 4, 3, 4, 4, 4, 4, 4, 4, 5, 4, 4, 5, 5, 5, 5, 5, 5, 6, 5, 5, 6, 6, 5, 6, 6, 6, 6, 6, 6, 7, 6, 6, 7, 7, 7, 7, 7, 7, 8, 7, 7, 8, 8, 7, 8, 8, 8, 8, 8, 8, 9, 8, 8, 9, 9, 9, 9, 9, 9, 10, 9, 9, 10, 10, 9, 10, 10, 10, 10, 10, 10, 11, 10, 10, 11, 11, 11, 11, 11, 11, 12, 11, 11, 12, 12, 11, 12, 12, 12].getD j 0
def zT3 (j : Nat) : Nat := [1, 0, 0, 0, 0, 0, 0, 0, 0, 0, 0, 0, 1, 0, 0, 0, 0, 0, 1, 0, 0, 0, 0, 0, 1, 0, 0, 1, 1, 0, 0, 0, 1, 0, 1, 0, 0, 1, 1, 1, 0, 0, 1, 1, 0, 0, 0, 2, 2, 2, 0, 0, 1, 2, 1, 0, 0, 4, 1, 2, 0, 0, 3, 4, 2, 0, 0, 3, 2, 4, 0, 0, 6, 6, 3, 0, 0, 6, 5, 5, 0, 0, 9, 7, 7, 0, 0, 10, 9, 5, 0, 0, 14, 11, 12, 0, 0, 14, 16, 11, 0, 0, 23, 15, 16, 0, 0, 27, 26, 19, 0, 0, 31, 25, 25, 0, 0, 45, 39, 30, 0, 0, 50, 46, 38, 0, 0, 69, 56, 53, 0, 0, 84, 75, 56, 0, 0, 109, 88, 84, 0, 0, 131, 122, 96, 0, 0, 172, 140, 125, 0, 0, 218, 193, 159, 0, 0, 265, 227, 197, 0, 0, 352, 297, 253, 0, 0, 424, 377, 312, 0, 0, 550, 462, 411, 0, 0, 689, 605, 492, 0, 0, 873, 736, 649, 0, 0, 1097, 961, 801, 0, 0, 1385, 1181, 1012, 0, 0, 1762, 1522, 1294, 0, 0, 2193, 1898, 1609].getD j 0
def zT4 (j : Nat) : Nat := [0, 100000000, 100000000, 100000000, 100000000, 100000000, 100000000, 100000000, 100000000, 100000000, 100000000, 100000000, 1, 100000000, 100000000, 100000000, 100000000, 100000000, 1, 100000000, 100000000, 100000000, 100000000, 100000000, 1, 100000000, 100000000, 2, 2, 100000000, 100000000, 100000000, 2, 100000000, 2, 100000000, 100000000, 3, 2, 2, 100000000, 100000000, 3, 3, 100000000, 100000000, 100000000, 3, 3, 3, 100000000, 100000000, 4, 3, 3, 100000000, 100000000, 4, 4, 3, 100000000, 100000000, 4, 4, 4, 100000000, 100000000, 4, 4, 4, 100000000, 100000000, 5, 4, 4, 100000000, 100000000, 5, 5, 5, 100000000, 100000000, 5, 5, 5, 100000000, 100000000, 6, 5, 5, 100000000, 100000000, 6, 6, 5, 100000000, 100000000, 6, 6, 6, 100000000, 100000000, 6, 6, 6, 100000000, 100000000, 7, 6, 6, 100000000, 100000000, 7, 7, 7, 100000000, 100000000, 7, 7, 7, 100000000, 100000000, 8, 7, 7, 100000000, 100000000, 8, 8, 7, 100000000, 100000000, 8, 8, 8, 100000000, 100000000, 8, 8, 8, 100000000, 100000000, 9, 8, 8, 100000000, 100000000, 9, 9, 9, 100000000, 100000000, 9, 9, 9, 100000000, 100000000, 10, 9, 9, 100000000, 100000000, 10, 10, 9, 100000000, 100000000, 10, 10, 10, 100000000, 100000000, 10, 10, 10, 100000000, 100000000, 11, 10, 10, 100000000, 100000000, 11, 11, 11, 100000000, 100000000, 11, 11, 11, 100000000, 100000000, 12, 11, 11, 100000000, 100000000, 12, 12, 11, 100000000, 100000000, 12, 12, 12].getD j 0
def zbs1 (T : Nat → Nat) (k r o w : Nat) : Nat := if o = k then w else w + T (3 * r + o)
def zbs2 (T : Nat → Nat) (k r o w : Nat) : Nat := if o = k then w else min w (1 + T (3 * r + o))
def zbs3 (T : Nat → Nat) (k r o w : Nat) : Nat := if o = k then w else w + T (5 * r + o)
def zbs4 (T : Nat → Nat) (k r o w : Nat) : Nat := if o = k then w else min w (T (5 * r + o) + 1)
theorem zT1_rec : ∀ i, i < 41 → ∀ k, k < 3 → zT1 (3 * i + k) = if i < 2 + k then 0 else if i = 2 + k then 1 else zbs1 zT1 k (i - 2 - k) 2 (zbs1 zT1 k (i - 2 - k) 1 (zbs1 zT1 k (i - 2 - k) 0 0)) := by decide +kernel
theorem zT2_rec : ∀ i, i < 41 → ∀ k, k < 3 → zT2 (3 * i + k) = if i < 2 + k then 1000000 else if i = 2 + k then 1 else zbs2 zT2 k (i - 2 - k) 2 (zbs2 zT2 k (i - 2 - k) 1 (zbs2 zT2 k (i - 2 - k) 0 1000000)) := by decide +kernel
theorem zT3_rec : ∀ i, i < 41 → ∀ k, k < 5 → zT3 (5 * i + k) = if k ≤ 1 ∨ i < k then (if i = 0 ∧ k = 0 then 1 else 0) else zbs3 zT3 k (i - k) 4 (zbs3 zT3 k (i - k) 3 (zbs3 zT3 k (i - k) 2 (zbs3 zT3 k (i - k) 1 (zbs3 zT3 k (i - k) 0 0)))) := by decide +kernel
theorem zT4_rec : ∀ i, i < 41 → ∀ k, k < 5 → zT4 (5 * i + k) = if k ≤ 1 ∨ i < k then (if i = 0 ∧ k = 0 then 0 else 100000000) else zbs4 zT4 k (i - k) 4 (zbs4 zT4 k (i - k) 3 (zbs4 zT4 k (i - k) 2 (zbs4 zT4 k (i - k) 1 (zbs4 zT4 k (i - k) 0 100000000)))) := by decide +kernel
theorem zT2_le : ∀ j, j < 123 → zT2 j ≤ 1000000 := by decide +kernel
theorem zT4_le : ∀ j, j < 205 → zT4 j ≤ 100000000 := by decide +kernel
def zA1 (n : Nat) : Nat := (if n = 0 then 1 else 0) + zT1 (3 * n + 0) + zT1 (3 * n + 1) + zT1 (3 * n + 2)
def zA2 (n : Nat) : Nat := min (min (min (if n = 0 then 0 else 1000000) (zT2 (3 * n + 0))) (zT2 (3 * n + 1))) (zT2 (3 * n + 2))
def zA3 (n : Nat) : Nat := 0 + zT3 (5 * n + 0) + zT3 (5 * n + 1) + zT3 (5 * n + 2) + zT3 (5 * n + 3) + zT3 (5 * n + 4)
def zA4 (n : Nat) : Nat := min (min (min (min (min 100000000 (zT4 (5 * n + 0))) (zT4 (5 * n + 1))) (zT4 (5 * n + 2))) (zT4 (5 * n + 3))) (zT4 (5 * n + 4))
theorem zA13 : ∀ n, n < 41 → zA1 n = zA3 n := by decide +kernel
theorem zA24 : ∀ n, n < 41 → (zA2 n < 1000000 ∧ zA4 n < 100000000 ∧ zA2 n = zA4 n) ∨ (¬ zA2 n < 1000000 ∧ ¬ zA4 n < 100000000) := by decide +kernel
theorem zA2_le : ∀ n, n < 41 → zA2 n ≤ 1000000 := by decide +kernel
theorem zA4_le : ∀ n, n < 41 → zA4 n ≤ 100000000 := by decide +kernel
theorem zmn_nI {a b : Nat} (ha : a < 2 ^ 31) (hb : b < 2 ^ 31) : zmn (nI a) (nI b) = nI (min a b) := by
  unfold zmn
  by_cases h : b < a
  · rw [if_pos (nI_lt h ha), Nat.min_eq_right (by omega)]
  · rw [if_neg (by simp only [Int32.lt_iff_toInt_lt, Int32.le_iff_toInt_le, nI_toInt ha, nI_toInt hb]; omega), Nat.min_eq_left (by omega)]
theorem zrest {i k : Nat} (hi : i ≤ 40) (hk : k < 3) : (i < 2 + k → ¬ nI i - 2 - nI k = 0 ∧ nI i - 2 - nI k ≤ 0) ∧ (2 + k ≤ i → nI i - 2 - nI k = nI (i - 2 - k)) := by
  have t1 : (nI i - 2).toInt = (i : Int) - 2 := by
    rw [zt_sub (by rw [nI_ti (by omega)]; have : (2 : Int32).toInt = 2 := rfl; omega) (by rw [nI_ti (by omega)]; have : (2 : Int32).toInt = 2 := rfl; omega), nI_ti (by omega)]
    rfl
  have t2 : (nI i - 2 - nI k).toInt = (i : Int) - 2 - k := by
    rw [zt_sub (by rw [t1, nI_ti (by omega)]; omega) (by rw [t1, nI_ti (by omega)]; omega), t1, nI_ti (by omega)]
  have t0 : (0 : Int32).toInt = 0 := rfl
  refine ⟨fun h => ⟨fun z => ?_, ?_⟩, fun h => ?_⟩
  · rw [z, t0] at t2
    omega
  · simp only [Int32.lt_iff_toInt_lt, Int32.le_iff_toInt_le, t2, t0]
    omega
  · apply Int32.toInt_inj.mp
    rw [t2, nI_ti (by omega)]
    omega
theorem zfi_le {i : Nat} : (if i = 0 then 0 else 1000000) ≤ 1000000 := by split <;> omega
section ZBA
variable {X : Nat × (Nat → Int32)} {d : Nat} {f : Nat → Nat → Int32} {g : Nat → Nat → Int64} {K : Int32 → (Nat → Nat → Int32) → (Nat → Nat → Int64) → Prop}
theorem b113_s {x1 x2 : Int32} {i k r o w : Nat} (hr0 : 0 < r) (hr : r ≤ 40) (hk : k < 3) (ho : o < 3) (hT : f 177 (3 * r + o) = nI (zT1 (3 * r + o))) (h : zWp X (d + 2) zm113 56 [.ref 169, .int x1, .int x2, .int (nI i), .int (nI k), .int (nI r), .int (nI (zbs1 zT1 k r o w)), .int (nI (o + 1))] [] (zs f g) (zQi K)) : zWp X (d + 2) zm113 56 [.ref 169, .int x1, .int x2, .int (nI i), .int (nI k), .int (nI r), .int (nI w), .int (nI o)] [] (zs f g) (zQi K) := by
  apply s113_56_169
  rw [if_neg (show ¬ (3 : Int32) ≤ nI o from nI_ge (b := 3) ho (by omega)), if_neg (nI_nle hr0 (by omega)), nI_1, zmO.2, show (3 : Int32) * nI r + nI o = nI (3 * r + o) from nI_mb r 3 o]
  unfold zbs1 at h
  by_cases e : o = k
  · rw [if_pos e] at h
    rw [if_pos (by rw [e]), Int32.add_zero]
    exact h
  · rw [if_neg e] at h
    rw [if_neg (nI_neq (by omega) (by omega) e), if_neg (nI_in (by omega) (by omega)), nI_cl (by omega), hT, nI_add]
    exact h
theorem b113_e {x1 x2 x5 : Int32} {i k o w : Nat} (hi : i ≤ 40) (hk : k < 3) (ho : o = 3 ∨ (o < 3 ∧ x5 ≤ 0)) (h : zWp X (d + 2) zm113 27 [.ref 169, .int x1, .int (x2 + nI w), .int (nI i), .int (nI (k + 1)), .null, .null, .null] [] (zs (zuI f 177 (3 * i + k) (nI w)) g) (zQi K)) : zWp X (d + 2) zm113 56 [.ref 169, .int x1, .int x2, .int (nI i), .int (nI k), .int x5, .int (nI w), .int (nI o)] [] (zs f g) (zQi K) := by
  apply s113_56_169
  have e1 : (3 : Int32) * nI i + nI k = nI (3 * i + k) := nI_mb i 3 k
  rcases ho with rfl | ⟨ho, hx⟩
  · rw [if_pos (show (3 : Int32) ≤ nI 3 from by decide)]
    rw [zmO.2, e1, if_neg (nI_in (by omega) (by omega)), nI_cl (by omega), nI_1]
    exact h
  · rw [if_neg (show ¬ (3 : Int32) ≤ nI o from nI_ge (b := 3) ho (by omega)), if_pos hx]
    rw [zmO.2, e1, if_neg (nI_in (by omega) (by omega)), nI_cl (by omega), nI_1]
    exact h
theorem b113_k {x1 : Int32} {i k s : Nat} (hi : i ≤ 40) (hk : k < 3) (hB : ∀ j, j < 3 * i → f 177 j = nI (zT1 j)) (h : zWp X (d + 2) zm113 27 [.ref 169, .int x1, .int (nI (s + (zT1 (3 * i + k)))), .int (nI i), .int (nI (k + 1)), .null, .null, .null] [] (zs (zuI f 177 (3 * i + k) (nI (zT1 (3 * i + k)))) g) (zQi K)) : zWp X (d + 2) zm113 27 [.ref 169, .int x1, .int (nI s), .int (nI i), .int (nI k), .null, .null, .null] [] (zs f g) (zQi K) := by
  have hrec := zT1_rec i (by omega) k hk
  obtain ⟨z1, z2⟩ := zrest hi hk
  have hh : zWp X (d + 2) zm113 27 [.ref 169, .int x1, .int ((nI s) + nI (zT1 (3 * i + k))), .int (nI i), .int (nI (k + 1)), .null, .null, .null] [] (zs (zuI f 177 (3 * i + k) (nI (zT1 (3 * i + k)))) g) (zQi K) := by
    rw [nI_add]
    exact h
  apply s113_27_169
  rw [if_neg (show ¬ (3 : Int32) ≤ nI k from nI_ge (b := 3) hk (by omega)), zsO.2, zsO.2]
  rcases Nat.lt_trichotomy i (2 + k) with hl | hl | hl
  · rw [if_pos hl] at hrec
    obtain ⟨y1, y2⟩ := z1 hl
    rw [if_neg y1]
    refine b113_e (d := d) (o := 0) (w := 0) hi hk (Or.inr ⟨by omega, y2⟩) ?_
    rw [hrec] at hh
    exact hh
  · rw [if_neg (by omega), if_pos hl] at hrec
    have e0 : nI i - 2 - nI k = 0 := by rw [z2 (by omega), show i - 2 - k = 0 by omega]; rfl
    rw [if_pos e0]
    refine b113_e (d := d) (o := 0) (w := 1) hi hk (Or.inr ⟨by omega, by rw [e0]; decide⟩) ?_
    rw [hrec] at hh
    exact hh
  · rw [if_neg (by omega), if_neg (by omega)] at hrec
    rw [z2 (by omega), if_neg (nI_z (by omega) (by omega))]
    refine b113_s (d := d) (o := 0) (w := 0) (by omega) (by omega) hk (by omega) (hB (3 * (i - 2 - k) + 0) (by omega))  ?_
    refine b113_s (d := d) (o := 1) (w := _) (by omega) (by omega) hk (by omega) (hB (3 * (i - 2 - k) + 1) (by omega))  ?_
    refine b113_s (d := d) (o := 2) (w := _) (by omega) (by omega) hk (by omega) (hB (3 * (i - 2 - k) + 2) (by omega))  ?_
    refine b113_e (d := d) (o := 3) hi hk (Or.inl rfl) ?_
    rw [hrec] at hh
    exact hh
theorem b113 {n : Nat} (hn : n ≤ 40) (hK : ∀ F : Nat → Nat → Int32, (∀ i, ¬ i = 177 → F i = f i) → K (nI (zA1 n)) F g) : zCpi X (d + 3) 113 [.ref 169, .int (nI n)] (zs f g) K := by
  apply e113_169
  have hrow : ∀ (i : Nat) (F : Nat → Nat → Int32) (x2 : Int32), i ≤ n → (∀ j, j < 3 * i → F 177 j = nI (zT1 j)) → (∀ G : Nat → Nat → Int32, (∀ j, j < 3 * (i + 1) → G 177 j = nI (zT1 j)) → (∀ c, ¬ c = 177 → G c = F c) → zWp X (d + 2) zm113 4 [.ref 169, .int (nI n), .int (nI (zA1 i)), .int (nI (i + 1)), .null, .null, .null, .null] [] (zs G g) (zQi K)) → zWp X (d + 2) zm113 4 [.ref 169, .int (nI n), .int x2, .int (nI i), .null, .null, .null, .null] [] (zs F g) (zQi K) := by
    intro i F x2 hi hB h
    have hgo : zWp X (d + 2) zm113 27 [.ref 169, .int (nI n), .int (nI (if i = 0 then 1 else 0)), .int (nI i), .int 0, .null, .null, .null] [] (zs F g) (zQi K) := by
      refine b113_k (d := d) (k := 0) (s := (if i = 0 then 1 else 0)) (by omega) (by omega) hB ?_
      refine b113_k (d := d) (k := 1) (by omega) (by omega) (fun j hj => by rw [zi_at, if_neg (by omega)]; exact hB j hj) ?_
      refine b113_k (d := d) (k := 2) (by omega) (by omega) (fun j hj => by rw [zi_at, if_neg (by omega), zi_at, if_neg (by omega)]; exact hB j hj) ?_
      apply s113_27_169
      rw [if_pos (show (3 : Int32) ≤ nI (2 + 1) from by decide), nI_1]
      refine h _ (fun j hj => ?_) (fun c hc => by rw [zi_ne hc, zi_ne hc, zi_ne hc])
      rw [zi_at]
      by_cases e2 : j = 3 * i + 2
      · rw [if_pos e2, e2]
      · rw [if_neg e2, zi_at]
        by_cases e1 : j = 3 * i + 1
        · rw [if_pos e1, e1]
        · rw [if_neg e1, zi_at]
          by_cases e0 : j = 3 * i + 0
          · rw [if_pos e0, e0]
          · rw [if_neg e0]
            exact hB j (by omega)
    apply s113_4_169
    rw [q288, show (40 : Int32) = nI 40 from rfl, zmn_nI (by omega) (by omega), Nat.min_eq_left (by omega), if_neg (by simp only [Int32.lt_iff_toInt_lt, Int32.le_iff_toInt_le, nI_ti (show n ≤ 100000 by omega), nI_ti (show i ≤ 100000 by omega)]; omega)]
    by_cases e : i = 0
    · rw [if_pos (by rw [e]; rfl)]
      rw [if_pos e] at hgo
      exact hgo
    · rw [if_neg (nI_z (by omega) (by omega))]
      rw [if_neg e] at hgo
      exact hgo
  have hall : ∀ m i, i + m = n → ∀ (F : Nat → Nat → Int32) (x2 : Int32), (∀ j, j < 3 * i → F 177 j = nI (zT1 j)) → (∀ c, ¬ c = 177 → F c = f c) → zWp X (d + 2) zm113 4 [.ref 169, .int (nI n), .int x2, .int (nI i), .null, .null, .null, .null] [] (zs F g) (zQi K) := by
    intro m
    induction m with
    | zero =>
      intro i hi F x2 hB hF
      refine hrow i F x2 (by omega) hB (fun G hG hc => ?_)
      have ei : i = n := by omega
      subst ei
      apply s113_4_169
      rw [q288, show (40 : Int32) = nI 40 from rfl, zmn_nI (by omega) (by omega), Nat.min_eq_left (by omega), if_pos (nI_lt (by omega) (by omega))]
      exact hK G (fun c h => by rw [hc c h, hF c h])
    | succ m ih =>
      intro i hi F x2 hB hF
      refine hrow i F x2 (by omega) hB (fun G hG hc => ?_)
      exact ih (i + 1) (by omega) G _ hG (fun c h => by rw [hc c h, hF c h])
  exact hall n 0 (by omega) f _ (fun j hj => absurd hj (by omega)) (fun _ _ => rfl)
theorem b114_s {x1 x2 : Int32} {i k r o w : Nat} (hr0 : 0 < r) (hr : r ≤ 40) (hk : k < 3) (ho : o < 3) (hw : w ≤ 1000000) (hT : f 177 (3 * r + o) = nI (zT2 (3 * r + o))) (h : zWp X (d + 2) zm114 58 [.ref 169, .int x1, .int x2, .int (nI i), .int (nI k), .int (nI r), .int (nI (zbs2 zT2 k r o w)), .int (nI (o + 1))] [] (zs f g) (zQi K)) : zWp X (d + 2) zm114 58 [.ref 169, .int x1, .int x2, .int (nI i), .int (nI k), .int (nI r), .int (nI w), .int (nI o)] [] (zs f g) (zQi K) := by
  apply s114_58_169
  rw [if_neg (show ¬ (3 : Int32) ≤ nI o from nI_ge (b := 3) ho (by omega)), if_neg (nI_nle hr0 (by omega)), nI_1, zmO.2, show (3 : Int32) * nI r + nI o = nI (3 * r + o) from nI_mb r 3 o]
  unfold zbs2 at h
  by_cases e : o = k
  · rw [if_pos e] at h
    rw [if_pos (by rw [e])]
    exact h
  · rw [if_neg e] at h
    rw [if_neg (nI_neq (by omega) (by omega) e), if_neg (nI_in (by omega) (by omega)), nI_cl (by omega), hT, q288, show (1 : Int32) + nI (zT2 (3 * r + o)) = nI (1 + zT2 (3 * r + o)) from nI_add 1 _, zmn_nI (by omega) (by have := zT2_le (3 * r + o) (by omega); omega)]
    exact h
theorem b114_e {x1 x2 x5 : Int32} {i k o w : Nat} (hi : i ≤ 40) (hk : k < 3) (ho : o = 3 ∨ (o < 3 ∧ x5 ≤ 0)) (h : zWp X (d + 2) zm114 28 [.ref 169, .int x1, .int (zmn x2 (nI w)), .int (nI i), .int (nI (k + 1)), .null, .null, .null] [] (zs (zuI f 177 (3 * i + k) (nI w)) g) (zQi K)) : zWp X (d + 2) zm114 58 [.ref 169, .int x1, .int x2, .int (nI i), .int (nI k), .int x5, .int (nI w), .int (nI o)] [] (zs f g) (zQi K) := by
  apply s114_58_169
  have e1 : (3 : Int32) * nI i + nI k = nI (3 * i + k) := nI_mb i 3 k
  rcases ho with rfl | ⟨ho, hx⟩
  · rw [if_pos (show (3 : Int32) ≤ nI 3 from by decide)]
    rw [zmO.2, e1, if_neg (nI_in (by omega) (by omega)), nI_cl (by omega), nI_1]
    rw [q288]
    exact h
  · rw [if_neg (show ¬ (3 : Int32) ≤ nI o from nI_ge (b := 3) ho (by omega)), if_pos hx]
    rw [zmO.2, e1, if_neg (nI_in (by omega) (by omega)), nI_cl (by omega), nI_1]
    rw [q288]
    exact h
theorem zbs2_le {T : Nat → Nat} {k r o w : Nat} (h : w ≤ 1000000) : zbs2 T k r o w ≤ 1000000 := by
  unfold zbs2
  split <;> omega
theorem b114_k {x1 : Int32} {i k s : Nat} (hi : i ≤ 40) (hk : k < 3) (hs : s ≤ 1000000) (hB : ∀ j, j < 3 * i → f 177 j = nI (zT2 j)) (h : zWp X (d + 2) zm114 28 [.ref 169, .int x1, .int (nI (min s (zT2 (3 * i + k)))), .int (nI i), .int (nI (k + 1)), .null, .null, .null] [] (zs (zuI f 177 (3 * i + k) (nI (zT2 (3 * i + k)))) g) (zQi K)) : zWp X (d + 2) zm114 28 [.ref 169, .int x1, .int (nI s), .int (nI i), .int (nI k), .null, .null, .null] [] (zs f g) (zQi K) := by
  have hrec := zT2_rec i (by omega) k hk
  obtain ⟨z1, z2⟩ := zrest hi hk
  have hh : zWp X (d + 2) zm114 28 [.ref 169, .int x1, .int (zmn (nI s) (nI (zT2 (3 * i + k)))), .int (nI i), .int (nI (k + 1)), .null, .null, .null] [] (zs (zuI f 177 (3 * i + k) (nI (zT2 (3 * i + k)))) g) (zQi K) := by
    rw [zmn_nI (by omega) (by have := zT2_le (3 * i + k) (by omega); omega)]
    exact h
  apply s114_28_169
  rw [if_neg (show ¬ (3 : Int32) ≤ nI k from nI_ge (b := 3) hk (by omega)), zsO.2, zsO.2]
  rcases Nat.lt_trichotomy i (2 + k) with hl | hl | hl
  · rw [if_pos hl] at hrec
    obtain ⟨y1, y2⟩ := z1 hl
    rw [if_neg y1]
    refine b114_e (d := d) (o := 0) (w := 1000000) hi hk (Or.inr ⟨by omega, y2⟩) ?_
    rw [hrec] at hh
    exact hh
  · rw [if_neg (by omega), if_pos hl] at hrec
    have e0 : nI i - 2 - nI k = 0 := by rw [z2 (by omega), show i - 2 - k = 0 by omega]; rfl
    rw [if_pos e0]
    refine b114_e (d := d) (o := 0) (w := 1) hi hk (Or.inr ⟨by omega, by rw [e0]; decide⟩) ?_
    rw [hrec] at hh
    exact hh
  · rw [if_neg (by omega), if_neg (by omega)] at hrec
    rw [z2 (by omega), if_neg (nI_z (by omega) (by omega))]
    refine b114_s (d := d) (o := 0) (w := 1000000) (by omega) (by omega) hk (by omega) (by omega) (hB (3 * (i - 2 - k) + 0) (by omega))  ?_
    refine b114_s (d := d) (o := 1) (w := _) (by omega) (by omega) hk (by omega) (zbs2_le (by omega)) (hB (3 * (i - 2 - k) + 1) (by omega))  ?_
    refine b114_s (d := d) (o := 2) (w := _) (by omega) (by omega) hk (by omega) (zbs2_le (zbs2_le (by omega))) (hB (3 * (i - 2 - k) + 2) (by omega))  ?_
    refine b114_e (d := d) (o := 3) hi hk (Or.inl rfl) ?_
    rw [hrec] at hh
    exact hh
theorem b114 {n : Nat} (hn : n ≤ 40) (hK : ∀ F : Nat → Nat → Int32, (∀ i, ¬ i = 177 → F i = f i) → K (if zA2 n < 1000000 then nI (zA2 n) else -1) F g) : zCpi X (d + 3) 114 [.ref 169, .int (nI n)] (zs f g) K := by
  apply e114_169
  have hrow : ∀ (i : Nat) (F : Nat → Nat → Int32) (x2 : Int32), i ≤ n → (∀ j, j < 3 * i → F 177 j = nI (zT2 j)) → (∀ G : Nat → Nat → Int32, (∀ j, j < 3 * (i + 1) → G 177 j = nI (zT2 j)) → (∀ c, ¬ c = 177 → G c = F c) → zWp X (d + 2) zm114 4 [.ref 169, .int (nI n), .int (nI (zA2 i)), .int (nI (i + 1)), .null, .null, .null, .null] [] (zs G g) (zQi K)) → zWp X (d + 2) zm114 4 [.ref 169, .int (nI n), .int x2, .int (nI i), .null, .null, .null, .null] [] (zs F g) (zQi K) := by
    intro i F x2 hi hB h
    have hgo : zWp X (d + 2) zm114 28 [.ref 169, .int (nI n), .int (nI (if i = 0 then 0 else 1000000)), .int (nI i), .int 0, .null, .null, .null] [] (zs F g) (zQi K) := by
      refine b114_k (d := d) (k := 0) (s := (if i = 0 then 0 else 1000000)) (by omega) (by omega) zfi_le hB ?_
      refine b114_k (d := d) (k := 1) (by omega) (by omega) (Nat.le_trans (Nat.min_le_left _ _) zfi_le) (fun j hj => by rw [zi_at, if_neg (by omega)]; exact hB j hj) ?_
      refine b114_k (d := d) (k := 2) (by omega) (by omega) (Nat.le_trans (Nat.min_le_left _ _) (Nat.le_trans (Nat.min_le_left _ _) zfi_le)) (fun j hj => by rw [zi_at, if_neg (by omega), zi_at, if_neg (by omega)]; exact hB j hj) ?_
      apply s114_28_169
      rw [if_pos (show (3 : Int32) ≤ nI (2 + 1) from by decide), nI_1]
      refine h _ (fun j hj => ?_) (fun c hc => by rw [zi_ne hc, zi_ne hc, zi_ne hc])
      rw [zi_at]
      by_cases e2 : j = 3 * i + 2
      · rw [if_pos e2, e2]
      · rw [if_neg e2, zi_at]
        by_cases e1 : j = 3 * i + 1
        · rw [if_pos e1, e1]
        · rw [if_neg e1, zi_at]
          by_cases e0 : j = 3 * i + 0
          · rw [if_pos e0, e0]
          · rw [if_neg e0]
            exact hB j (by omega)
    apply s114_4_169
    rw [q288, show (40 : Int32) = nI 40 from rfl, zmn_nI (by omega) (by omega), Nat.min_eq_left (by omega), if_neg (by simp only [Int32.lt_iff_toInt_lt, Int32.le_iff_toInt_le, nI_ti (show n ≤ 100000 by omega), nI_ti (show i ≤ 100000 by omega)]; omega)]
    by_cases e : i = 0
    · rw [if_pos (by rw [e]; rfl)]
      rw [if_pos e] at hgo
      exact hgo
    · rw [if_neg (nI_z (by omega) (by omega))]
      rw [if_neg e] at hgo
      exact hgo
  have hall : ∀ m i, i + m = n → ∀ (F : Nat → Nat → Int32) (x2 : Int32), (∀ j, j < 3 * i → F 177 j = nI (zT2 j)) → (∀ c, ¬ c = 177 → F c = f c) → zWp X (d + 2) zm114 4 [.ref 169, .int (nI n), .int x2, .int (nI i), .null, .null, .null, .null] [] (zs F g) (zQi K) := by
    intro m
    induction m with
    | zero =>
      intro i hi F x2 hB hF
      refine hrow i F x2 (by omega) hB (fun G hG hc => ?_)
      have ei : i = n := by omega
      subst ei
      apply s114_4_169
      rw [q288, show (40 : Int32) = nI 40 from rfl, zmn_nI (by omega) (by omega), Nat.min_eq_left (by omega), if_pos (nI_lt (by omega) (by omega))]
      have z := hK G (fun c h => by rw [hc c h, hF c h])
      by_cases e : zA2 i < 1000000
      · rw [if_pos e] at z
        rw [if_pos (show nI (zA2 i) < Int32.ofNat 1000000 from nI_lt e (by omega))]
        exact z
      · rw [if_neg e] at z
        rw [if_neg (show ¬ nI (zA2 i) < Int32.ofNat 1000000 from fun y => e (by
          have := zA2_le i (by omega)
          rw [show zA2 i = 1000000 by omega] at y
          exact absurd y (by decide)))]
        exact z
    | succ m ih =>
      intro i hi F x2 hB hF
      refine hrow i F x2 (by omega) hB (fun G hG hc => ?_)
      exact ih (i + 1) (by omega) G _ hG (fun c h => by rw [hc c h, hF c h])
  exact hall n 0 (by omega) f _ (fun j hj => absurd hj (by omega)) (fun _ _ => rfl)
end ZBA

/-! one beat: what it is made of -/
/-- one player on both sides; e: by how much his wrong notes may pass the beat -/
def zPl (w0 : Int) (L E X Y N O A W w4 er w16 w28 w40 w52 w64 : Int32) (e : Int) : Prop := w4 = L ∧ er = E ∧ (∃ x y : Nat, x < 8 ∧ y < 6 ∧ X = nI x ∧ Y = nI y ∧ w16 = nI (8 * y + x)) ∧ (∃ k : Nat, k ≤ 12 ∧ N = nI k - 1 ∧ w28 = nI k) ∧ w40 = O ∧ -50 ≤ w40.toInt ∧ w40.toInt ≤ 50 ∧ (∃ k : Nat, k ≤ 12 ∧ A = nI k - 1 ∧ w52 = nI k) ∧ w64 = W ∧ 0 ≤ w64.toInt ∧ w64.toInt ≤ w0 + e
/-- a hall in the midst of a beat: the first i have played -/
def zHm (c st un bt : Int32) (L E Xs Ys N O A W : Nat → Int32) (w : Nat → Int32) (pl : Int32) (er : Nat → Int32) (B : Int) (i : Nat) : Prop := ∃ n : Nat, n ≤ 12 ∧ c = nI n ∧ pl = nI n ∧ w 1 = st ∧ w 3 = un ∧ w 0 = bt ∧ 0 ≤ (w 0).toInt ∧ (w 0).toInt ≤ B ∧ ∀ p, p < n → zPl (w 0).toInt (L p) (E p) (Xs p) (Ys p) (N p) (O p) (A p) (W p) (w (4 + p)) (er p) (w (16 + p)) (w (28 + p)) (w (40 + p)) (w (52 + p)) (w (64 + p)) (if p < i then 1 else 0)
section ZHM
variable {c st un bt pl st' un' bt' : Int32} {L E Xs Ys N O A W w er L' E' Xs' Ys' N' O' A' W' w' : Nat → Int32} {B B' : Int} {i i' p : Nat}
theorem zHm_0 (h : zHal c st un bt L E Xs Ys N O A W w pl er B) : zHm c st un bt L E Xs Ys N O A W w pl er B 0 := by
  obtain ⟨n, hn, h1, h2, h3, h4, h5, h6, h7, h8⟩ := h
  refine ⟨n, hn, h1, h2, h3, h4, h5, h6, h7, fun p hp => ?_⟩
  obtain ⟨a1, a2, a3, a4, a5, a6, a7, a8, a9, a10, a11⟩ := h8 p hp
  rw [if_neg (Nat.not_lt_zero p)]
  exact ⟨a1, a2, a3, a4, a5, a6, a7, a8, a9, a10, by omega⟩
theorem zHm_un (h : zHm c st un bt L E Xs Ys N O A W w pl er B 0) : zHal c st un bt L E Xs Ys N O A W w pl er B := by
  obtain ⟨n, hn, h1, h2, h3, h4, h5, h6, h7, h8⟩ := h
  refine ⟨n, hn, h1, h2, h3, h4, h5, h6, h7, fun p hp => ?_⟩
  obtain ⟨a1, a2, a3, a4, a5, a6, a7, a8, a9, a10, a11⟩ := h8 p hp
  rw [if_neg (Nat.not_lt_zero p)] at a11
  exact ⟨a1, a2, a3, a4, a5, a6, a7, a8, a9, a10, by omega⟩
theorem zHal_B (h : zHal c st un bt L E Xs Ys N O A W w pl er B) (hb : (w 0).toInt ≤ B') : zHal c st un bt L E Xs Ys N O A W w pl er B' := by
  obtain ⟨n, hn, h1, h2, h3, h4, h5, h6, h7, h8⟩ := h
  exact ⟨n, hn, h1, h2, h3, h4, h5, h6, hb, h8⟩
/-- one player has changed, and the state -/
theorem zHm_put (h : zHm c st un bt L E Xs Ys N O A W w pl er B i) (hi : i ≤ i')
    (hr : ∀ q, q < 12 → ¬ q = p → L' q = L q ∧ E' q = E q ∧ Xs' q = Xs q ∧ Ys' q = Ys q ∧ N' q = N q ∧ O' q = O q ∧ A' q = A q ∧ W' q = W q)
    (hw : ∀ j, j < 76 → ¬ j = 1 → ¬ j = 2 → ¬ j = 4 + p → ¬ j = 16 + p → ¬ j = 28 + p → ¬ j = 40 + p → ¬ j = 52 + p → ¬ j = 64 + p → w' j = w j) (hs : w' 1 = st') (hp12 : p < 12)
    (hp : zPl (w 0).toInt (L p) (E p) (Xs p) (Ys p) (N p) (O p) (A p) (W p) (w (4 + p)) (er p) (w (16 + p)) (w (28 + p)) (w (40 + p)) (w (52 + p)) (w (64 + p)) (if p < i then 1 else 0) → zPl (w 0).toInt (L' p) (E' p) (Xs' p) (Ys' p) (N' p) (O' p) (A' p) (W' p) (w' (4 + p)) (er p) (w' (16 + p)) (w' (28 + p)) (w' (40 + p)) (w' (52 + p)) (w' (64 + p)) (if p < i' then 1 else 0)) :
    zHm c st' un bt L' E' Xs' Ys' N' O' A' W' w' pl er B i' := by
  obtain ⟨n, hn, h1, h2, h3, h4, h5, h6, h7, h8⟩ := h
  have w0 : w' 0 = w 0 := hw 0 (by omega) (by omega) (by omega) (by omega) (by omega) (by omega) (by omega) (by omega) (by omega)
  refine ⟨n, hn, h1, h2, hs, by rw [hw 3 (by omega) (by omega) (by omega) (by omega) (by omega) (by omega) (by omega) (by omega) (by omega)]; exact h4, by rw [w0]; exact h5, by rw [w0]; exact h6, by rw [w0]; exact h7, fun q hq => ?_⟩
  rw [w0]
  by_cases e : q = p
  · subst e
    exact hp (h8 q hq)
  · obtain ⟨r1, r2, r3, r4, r5, r6, r7, r8⟩ := hr q (by omega) e
    rw [r1, r2, r3, r4, r5, r6, r7, r8, hw (4 + q) (by omega) (by omega) (by omega) (by omega) (by omega) (by omega) (by omega) (by omega) (by omega), hw (16 + q) (by omega) (by omega) (by omega) (by omega) (by omega) (by omega) (by omega) (by omega) (by omega), hw (28 + q) (by omega) (by omega) (by omega) (by omega) (by omega) (by omega) (by omega) (by omega) (by omega), hw (40 + q) (by omega) (by omega) (by omega) (by omega) (by omega) (by omega) (by omega) (by omega) (by omega), hw (52 + q) (by omega) (by omega) (by omega) (by omega) (by omega) (by omega) (by omega) (by omega) (by omega), hw (64 + q) (by omega) (by omega) (by omega) (by omega) (by omega) (by omega) (by omega) (by omega) (by omega)]
    obtain ⟨a1, a2, a3, a4, a5, a6, a7, a8, a9, a10, a11⟩ := h8 q hq
    refine ⟨a1, a2, a3, a4, a5, a6, a7, a8, a9, a10, ?_⟩
    split at a11 <;> split <;> omega
/-- the beat is over -/
theorem zHm_end {n : Nat} (h : zHm c st un bt L E Xs Ys N O A W w pl er B n) (hc : c = nI n) (hn : n ≤ 12) (hB : B ≤ 100000) (hw : ∀ j, j < 76 → ¬ j = 0 → ¬ j = 2 → ¬ j = 3 → w' j = w j) (h0 : w' 0 = w 0 + 1) (hb : bt' = bt + 1) (h3 : w' 3 = un') : zHal c st un' bt' L E Xs Ys N O A W w' pl er (B + 1) := by
  obtain ⟨n', hn', h1, h2, h3', h4, h5, h6, h7, h8⟩ := h
  have en : n' = n := (nI_eq (by omega) (by omega)).mp (h1.symm.trans hc)
  subst en
  have t0 : (w' 0).toInt = (w 0).toInt + 1 := by
    rw [h0, Int32.toInt_add]
    show ((w 0).toInt + 1).bmod (2 ^ 32) = (w 0).toInt + 1
    rw [Int.bmod_eq_of_le] <;> omega
  refine ⟨n', hn, h1, h2, by rw [hw 1 (by omega) (by omega) (by omega) (by omega)]; exact h3', h3, by rw [h0, hb, h5], by omega, by omega, fun p hp => ?_⟩
  obtain ⟨a1, a2, a3, a4, a5, a6, a7, a8, a9, a10, a11⟩ := h8 p hp
  rw [if_pos hp] at a11
  rw [hw (4 + p) (by omega) (by omega) (by omega) (by omega), hw (16 + p) (by omega) (by omega) (by omega) (by omega), hw (28 + p) (by omega) (by omega) (by omega) (by omega), hw (40 + p) (by omega) (by omega) (by omega) (by omega), hw (52 + p) (by omega) (by omega) (by omega) (by omega), hw (64 + p) (by omega) (by omega) (by omega) (by omega)]
  exact ⟨a1, a2, a3, a4, a5, a6, a7, a8, a9, a10, by omega⟩
end ZHM
/-- the last line that is his -/
def zlsn (A W N : Nat → Int32) (bt p : Int32) : Nat → Int32
  | 0 => -1
  | k + 1 => if A k = bt ∧ W k = p then N k else zlsn A W N bt p k
theorem zlsn_congr {A W N A' W' N' : Nat → Int32} {bt p : Int32} : ∀ k, (∀ j, j < k → A j = A' j ∧ W j = W' j ∧ N j = N' j) → zlsn A W N bt p k = zlsn A' W' N' bt p k
  | 0, _ => rfl
  | k + 1, h => by
    unfold zlsn
    obtain ⟨a, b, c⟩ := h k (by omega)
    rw [a, b, c, zlsn_congr k (fun j hj => h j (by omega))]
theorem zlsn_in {A W N : Nat → Int32} {bt p : Int32} : ∀ k, (∀ j, j < k → 0 ≤ (N j).toInt ∧ (N j).toInt ≤ 11) → ∃ m : Nat, m ≤ 12 ∧ zlsn A W N bt p k = nI m - 1
  | 0, _ => ⟨0, by omega, by unfold zlsn; decide⟩
  | k + 1, h => by
    unfold zlsn
    split
    · obtain ⟨h1, h2⟩ := h k (by omega)
      obtain ⟨m, hm, em⟩ := zixn (x := N k) (n := 12) h1 (by omega) (by omega)
      exact ⟨m + 1, by omega, by rw [em, nI_pred]⟩
    · exact zlsn_in k (fun j hj => h j (by omega))
section ZBT
variable {X : Nat × (Nat → Int32)} {d : Nat} {f : Nat → Nat → Int32} {g : Nat → Nat → Int64} {K : Int32 → (Nat → Nat → Int32) → (Nat → Nat → Int64) → Prop} {Kv : (Nat → Nat → Int32) → (Nat → Nat → Int64) → Prop}
theorem q71_20_0 {i : Nat} (hi : i < 16) : zCpi X (d + 1) 71 [.ref 20, .int (nI i), .int 0] (zs f g) K = K (f 21 (5 * i + 0)) f g := by
  refine zCpi_eq (fun K hK => e71_20 ?_)
  have e : nI i * (5 : Int32) + 0 = nI (i * 5 + 0) := nI_ma i 5 0
  rw [zmO.2, e, if_neg (nI_pos (by omega)), if_neg (show ¬ (80 : Int32) ≤ nI (i * 5 + 0) from nI_ge (b := 80) (by omega) (by omega)), if_neg (nI_in (by omega) (by omega)), nI_cl (by omega), Nat.mul_comm i 5]
  exact hK
theorem q71_20_1 {i : Nat} (hi : i < 16) : zCpi X (d + 1) 71 [.ref 20, .int (nI i), .int 1] (zs f g) K = K (f 21 (5 * i + 1)) f g := by
  refine zCpi_eq (fun K hK => e71_20 ?_)
  have e : nI i * (5 : Int32) + 1 = nI (i * 5 + 1) := nI_ma i 5 1
  rw [zmO.2, e, if_neg (nI_pos (by omega)), if_neg (show ¬ (80 : Int32) ≤ nI (i * 5 + 1) from nI_ge (b := 80) (by omega) (by omega)), if_neg (nI_in (by omega) (by omega)), nI_cl (by omega), Nat.mul_comm i 5]
  exact hK
theorem q71_20_2 {i : Nat} (hi : i < 16) : zCpi X (d + 1) 71 [.ref 20, .int (nI i), .int 2] (zs f g) K = K (f 21 (5 * i + 2)) f g := by
  refine zCpi_eq (fun K hK => e71_20 ?_)
  have e : nI i * (5 : Int32) + 2 = nI (i * 5 + 2) := nI_ma i 5 2
  rw [zmO.2, e, if_neg (nI_pos (by omega)), if_neg (show ¬ (80 : Int32) ≤ nI (i * 5 + 2) from nI_ge (b := 80) (by omega) (by omega)), if_neg (nI_in (by omega) (by omega)), nI_cl (by omega), Nat.mul_comm i 5]
  exact hK
theorem q71_20_3 {i : Nat} (hi : i < 16) : zCpi X (d + 1) 71 [.ref 20, .int (nI i), .int 3] (zs f g) K = K (f 21 (5 * i + 3)) f g := by
  refine zCpi_eq (fun K hK => e71_20 ?_)
  have e : nI i * (5 : Int32) + 3 = nI (i * 5 + 3) := nI_ma i 5 3
  rw [zmO.2, e, if_neg (nI_pos (by omega)), if_neg (show ¬ (80 : Int32) ≤ nI (i * 5 + 3) from nI_ge (b := 80) (by omega) (by omega)), if_neg (nI_in (by omega) (by omega)), nI_cl (by omega), Nat.mul_comm i 5]
  exact hK
theorem q71_20_4 {i : Nat} (hi : i < 16) : zCpi X (d + 1) 71 [.ref 20, .int (nI i), .int 4] (zs f g) K = K (f 21 (5 * i + 4)) f g := by
  refine zCpi_eq (fun K hK => e71_20 ?_)
  have e : nI i * (5 : Int32) + 4 = nI (i * 5 + 4) := nI_ma i 5 4
  rw [zmO.2, e, if_neg (nI_pos (by omega)), if_neg (show ¬ (80 : Int32) ≤ nI (i * 5 + 4) from nI_ge (b := 80) (by omega) (by omega)), if_neg (nI_in (by omega) (by omega)), nI_cl (by omega), Nat.mul_comm i 5]
  exact hK
theorem q71_22_0 {i : Nat} (hi : i < 16) : zCpi X (d + 1) 71 [.ref 22, .int (nI i), .int 0] (zs f g) K = K (f 23 (5 * i + 0)) f g := by
  refine zCpi_eq (fun K hK => e71_22 ?_)
  have e : nI i * (5 : Int32) + 0 = nI (i * 5 + 0) := nI_ma i 5 0
  rw [zmO.2, e, if_neg (nI_pos (by omega)), if_neg (show ¬ (80 : Int32) ≤ nI (i * 5 + 0) from nI_ge (b := 80) (by omega) (by omega)), if_neg (nI_in (by omega) (by omega)), nI_cl (by omega), Nat.mul_comm i 5]
  exact hK
theorem q71_22_1 {i : Nat} (hi : i < 16) : zCpi X (d + 1) 71 [.ref 22, .int (nI i), .int 1] (zs f g) K = K (f 23 (5 * i + 1)) f g := by
  refine zCpi_eq (fun K hK => e71_22 ?_)
  have e : nI i * (5 : Int32) + 1 = nI (i * 5 + 1) := nI_ma i 5 1
  rw [zmO.2, e, if_neg (nI_pos (by omega)), if_neg (show ¬ (80 : Int32) ≤ nI (i * 5 + 1) from nI_ge (b := 80) (by omega) (by omega)), if_neg (nI_in (by omega) (by omega)), nI_cl (by omega), Nat.mul_comm i 5]
  exact hK
theorem q71_22_2 {i : Nat} (hi : i < 16) : zCpi X (d + 1) 71 [.ref 22, .int (nI i), .int 2] (zs f g) K = K (f 23 (5 * i + 2)) f g := by
  refine zCpi_eq (fun K hK => e71_22 ?_)
  have e : nI i * (5 : Int32) + 2 = nI (i * 5 + 2) := nI_ma i 5 2
  rw [zmO.2, e, if_neg (nI_pos (by omega)), if_neg (show ¬ (80 : Int32) ≤ nI (i * 5 + 2) from nI_ge (b := 80) (by omega) (by omega)), if_neg (nI_in (by omega) (by omega)), nI_cl (by omega), Nat.mul_comm i 5]
  exact hK
theorem q71_22_3 {i : Nat} (hi : i < 16) : zCpi X (d + 1) 71 [.ref 22, .int (nI i), .int 3] (zs f g) K = K (f 23 (5 * i + 3)) f g := by
  refine zCpi_eq (fun K hK => e71_22 ?_)
  have e : nI i * (5 : Int32) + 3 = nI (i * 5 + 3) := nI_ma i 5 3
  rw [zmO.2, e, if_neg (nI_pos (by omega)), if_neg (show ¬ (80 : Int32) ≤ nI (i * 5 + 3) from nI_ge (b := 80) (by omega) (by omega)), if_neg (nI_in (by omega) (by omega)), nI_cl (by omega), Nat.mul_comm i 5]
  exact hK
theorem q71_22_4 {i : Nat} (hi : i < 16) : zCpi X (d + 1) 71 [.ref 22, .int (nI i), .int 4] (zs f g) K = K (f 23 (5 * i + 4)) f g := by
  refine zCpi_eq (fun K hK => e71_22 ?_)
  have e : nI i * (5 : Int32) + 4 = nI (i * 5 + 4) := nI_ma i 5 4
  rw [zmO.2, e, if_neg (nI_pos (by omega)), if_neg (show ¬ (80 : Int32) ≤ nI (i * 5 + 4) from nI_ge (b := 80) (by omega) (by omega)), if_neg (nI_in (by omega) (by omega)), nI_cl (by omega), Nat.mul_comm i 5]
  exact hK
theorem l72 {p bt : Int32} : ∀ k, k ≤ 16 → K (zlsn (fun j => f 21 (5 * j)) (fun j => f 21 (5 * j + 2)) (fun j => f 21 (5 * j + 3)) bt p k) f g → zWp X (d + 1) zm72 7 [.ref 20, .int p, .int bt, .int (nI k - 1)] [] (zs f g) (zQi K)
  | 0, _, h => by
    apply s72_7_20
    rw [if_pos (show nI 0 - 1 < (0 : Int32) from by decide)]
    exact h
  | k + 1, hk, h => by
    have ih := l72 (p := p) (bt := bt) k (by omega)
    unfold zlsn at h
    rw [nI_pred]
    apply s72_7_20
    rw [if_neg (nI_pos (by omega)), q71_20_0 (by omega), q71_20_2 (by omega), q71_20_3 (by omega), Nat.add_zero]
    have e : nI k + -1 = nI k - 1 := by rw [Int32.sub_eq_add_neg]
    rw [e]
    by_cases h1 : f 21 (5 * k) = bt
    · rw [if_pos h1]
      by_cases h2 : f 21 (5 * k + 2) = p
      · rw [if_pos h2]
        rw [if_pos ⟨h1, h2⟩] at h
        exact h
      · rw [if_neg h2]
        rw [if_neg (fun z => h2 z.2)] at h
        exact ih h
    · rw [if_neg h1]
      rw [if_neg (fun z => h1 z.1)] at h
      exact ih h
theorem q72 {p bt : Int32} {k : Nat} (hk : k ≤ 16) (h : f 20 1 = nI k) : zCpi X (d + 2) 72 [.ref 20, .int p, .int bt] (zs f g) K = K (zlsn (fun j => f 21 (5 * j)) (fun j => f 21 (5 * j + 2)) (fun j => f 21 (5 * j + 3)) bt p k) f g := by
  refine zCpi_eq (fun K hK => e72_20 ?_)
  rw [zsO.2, h]
  exact l72 k hk hK
theorem q215 {p : Int32} {k : Nat} (hk : k ≤ 16) (h : f 178 33 = nI k) : zCpi X (d + 1) 215 [.ref 178, .int p] (zs f g) K = K (zlsn (fun j => f 195 (3 * j)) (fun j => f 195 (3 * j + 1)) (fun j => f 195 (3 * j + 2)) (f 179 0) p k) f g := by
  refine zCpi_eq (fun K hK => e215_178 ?_)
  have z0 : ¬ ((0 : Int32) < 0 ∨ 76 ≤ (0 : Int32).toNatClampNeg) := by decide
  have hl : ∀ m i, i + m = k → zWp X (d + 0) zm215 4 [.ref 178, .int p, .int (zlsn (fun j => f 195 (3 * j)) (fun j => f 195 (3 * j + 1)) (fun j => f 195 (3 * j + 2)) (f 179 0) p i), .int (nI (3 * i))] [] (zs f g) (zQi K) := by
    intro m
    induction m with
    | zero =>
      intro i hi
      have ei : i = k := by omega
      subst ei
      apply s215_4_178
      rw [h, zmO.2, show (3 : Int32) * nI i = nI (3 * i) from pk_mul 3 i, if_pos (nI_le (by omega) (by omega))]
      exact hK
    | succ m ih =>
      intro i hi
      have z := ih (i + 1) (by omega)
      conv at z => arg 5; unfold zlsn
      apply s215_4_178
      rw [h, zmO.2, show (3 : Int32) * nI k = nI (3 * k) from pk_mul 3 k, if_neg (nI_ge (by omega) (by omega)), if_neg (nI_in (by omega) (by omega)), nI_cl (by omega), if_neg z0]
      rw [show nI (3 * i) + (1 : Int32) = nI (3 * i + 1) from nI_add _ 1, show nI (3 * i) + (2 : Int32) = nI (3 * i + 2) from nI_add _ 2, show nI (3 * i) + (3 : Int32) = nI (3 * (i + 1)) from nI_add _ 3, if_neg (nI_in (by omega) (by omega)), if_neg (nI_in (by omega) (by omega)), nI_cl (by omega), nI_cl (by omega)]
      by_cases h1 : f 195 (3 * i) = f 179 0
      · rw [if_pos h1]
        by_cases h2 : f 195 (3 * i + 1) = p
        · rw [if_pos h2]
          rw [if_pos ⟨h1, h2⟩] at z
          exact z
        · rw [if_neg h2]
          rw [if_neg (fun z => h2 z.2)] at z
          exact z
      · rw [if_neg h1]
        rw [if_neg (fun z => h1 z.1)] at z
        exact z
  exact hl k 0 (by omega)
/-- a line for the book -/
def zbl (f : Nat → Nat → Int32) (c s : Nat) (a1 a2 a3 a4 : Int32) : Nat → Nat → Int32 := zuI (zuI (zuI (zuI f c (4 * s) a1) c (4 * s + 1) a2) c (4 * s + 2) a3) c (4 * s + 3) a4
theorem zbl_ne {c s i : Nat} {a1 a2 a3 a4 : Int32} (h : ¬ i = c) : zbl f c s a1 a2 a3 a4 i = f i := by
  unfold zbl
  rw [zi_ne h, zi_ne h, zi_ne h, zi_ne h]
theorem zbl_at {c s j : Nat} {a1 a2 a3 a4 : Int32} : zbl f c s a1 a2 a3 a4 c j = if j = 4 * s + 3 then a4 else if j = 4 * s + 2 then a3 else if j = 4 * s + 1 then a2 else if j = 4 * s then a1 else f c j := by
  unfold zbl
  simp only [zi_at]
theorem q1 {s : Nat} {a1 a2 a3 a4 : Int32} (hs : s ≤ 150) (h : f 11 1 = nI s) : zCpv X (d + 1) 1 [.ref 11, .int a1, .int a2, .int a3, .int a4] (zs f g) Kv = Kv (if s = 150 then f else zuI (zbl f 12 s a1 a2 a3 a4) 11 1 (nI (s + 1))) g := by
  refine zCpv_eq (fun K hK => e1_11 ?_)
  rw [h]
  by_cases e : s = 150
  · subst e
    rw [if_pos rfl] at hK
    rw [if_pos (by decide)]
    exact hK
  · rw [if_neg e] at hK
    rw [if_neg (show ¬ (150 : Int32) ≤ nI s from nI_ge (b := 150) (by omega) (by omega)), zmO.2, show nI s * (4 : Int32) = nI (4 * s) by rw [Nat.mul_comm 4 s]; exact pk_mul s 4]
    rw [show nI (4 * s) + (1 : Int32) = nI (4 * s + 1) from nI_add _ 1, show nI (4 * s) + (2 : Int32) = nI (4 * s + 2) from nI_add _ 2, show nI (4 * s) + (3 : Int32) = nI (4 * s + 3) from nI_add _ 3, if_neg (nI_in (by omega) (by omega)), if_neg (nI_in (by omega) (by omega)), if_neg (nI_in (by omega) (by omega)), if_neg (nI_in (by omega) (by omega)), nI_cl (by omega), nI_cl (by omega), nI_cl (by omega), nI_cl (by omega), nI_1]
    exact hK
theorem q235 {s : Nat} {a1 a2 a3 : Int32} (hs : s ≤ 150) (h : f 179 2 = nI s) (h5 : f 178 5 = 0) : zCpv X (d + 1) 235 [.ref 178, .int a1, .int a2, .int a3] (zs f g) Kv = Kv (if s = 150 then f else zuI (zbl f 184 s (f 179 0) a1 a2 a3) 179 2 (nI (s + 1))) g := by
  refine zCpv_eq (fun K hK => e235_178 ?_)
  have z0 : ¬ ((0 : Int32) < 0 ∨ 76 ≤ (0 : Int32).toNatClampNeg) := by decide
  have z2 : ¬ ((2 : Int32) < 0 ∨ 76 ≤ (2 : Int32).toNatClampNeg) := by decide
  rw [h5, if_pos rfl, if_neg z2, h]
  by_cases e : s = 150
  · subst e
    rw [if_pos rfl] at hK
    rw [if_pos (by decide)]
    exact hK
  · rw [if_neg e] at hK
    rw [if_neg (show ¬ nI s = (150 : Int32) from nI_neq (c := 150) (by omega) (by omega) e), if_neg z2, if_neg z0, zmO.2, show (4 : Int32) * nI s = nI (4 * s) from pk_mul 4 s]
    rw [show nI (4 * s) + (1 : Int32) = nI (4 * s + 1) from nI_add _ 1, show nI (4 * s) + (2 : Int32) = nI (4 * s + 2) from nI_add _ 2, show nI (4 * s) + (3 : Int32) = nI (4 * s + 3) from nI_add _ 3, if_neg (nI_in (by omega) (by omega)), if_neg (nI_in (by omega) (by omega)), if_neg (nI_in (by omega) (by omega)), if_neg (nI_in (by omega) (by omega)), nI_cl (by omega), nI_cl (by omega), nI_cl (by omega), nI_cl (by omega), nI_1, if_neg z2, if_neg z2]
    exact hK
theorem q235_0 {a1 a2 a3 : Int32} (h5 : f 178 5 = 1) : zCpv X (d + 1) 235 [.ref 178, .int a1, .int a2, .int a3] (zs f g) Kv = Kv f g := by
  refine zCpv_eq (fun K hK => e235_178 ?_)
  rw [h5, if_neg (by decide)]
  exact hK
end ZBT

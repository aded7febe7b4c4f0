/-! the stage, before a beat -/
/-- one line of the stage, on both sides -/
def zSl (a b : Nat → Int32) (j n : Nat) : Prop := a (5 * j) = b (4 * j) ∧ (∃ p : Nat, p < n ∧ a (5 * j + 2) = nI p ∧ b (4 * j + 2) = nI p) ∧
  ((a (5 * j + 1) = 146 ∧ b (4 * j + 1) = 0 ∧ ∃ x y : Nat, x < 8 ∧ y < 6 ∧ a (5 * j + 3) = nI x ∧ a (5 * j + 4) = nI y ∧ b (4 * j + 3) = nI (8 * y + x)) ∨ (a (5 * j + 1) = 135 ∧ b (4 * j + 1) = 1 ∧ a (5 * j + 3) = b (4 * j + 3)) ∨ (a (5 * j + 1) = 147 ∧ b (4 * j + 1) = 2) ∨ (a (5 * j + 1) = 148 ∧ b (4 * j + 1) = 3))
section ZST
variable {X : Nat × (Nat → Int32)} {d e : Nat} {g gr : Nat → Nat → Int64} {n P k : Nat} {B : Int}
theorem dl_147 {f r : Nat → Nat → Int32} {a b : Nat → Int32} {j p : Nat} (hn : n ≤ 12) (hP : P < 2 ^ 48) (hg : g 2 12 = lN P) (hj : j < 16) (h8 : f 2 8 = nI n) (hH : zHal (f 2 8) (f 2 9) (f 2 10) (f 2 11) (f 3) (f 4) (f 5) (f 6) (f 7) (f 8) (f 9) (f 10) (r 179) (r 178 7) (r 183) B) (hpl : ∀ k, k < 48 → r 197 k = if P.testBit k = true then 1 else 0) (h196 : r 196 = b) (hp : p < n) (hb2 : b (4 * j + 2) = nI p)
    (hl : (a (5 * j + 1) = 146 ∧ b (4 * j + 1) = 0 ∧ ∃ x y : Nat, x < 8 ∧ y < 6 ∧ a (5 * j + 3) = nI x ∧ a (5 * j + 4) = nI y ∧ b (4 * j + 3) = nI (8 * y + x)) ∨ (a (5 * j + 1) = 135 ∧ b (4 * j + 1) = 1 ∧ a (5 * j + 3) = b (4 * j + 3)) ∨ (a (5 * j + 1) = 147 ∧ b (4 * j + 1) = 2) ∨ (a (5 * j + 1) = 148 ∧ b (4 * j + 1) = 3)) :
    ∃ F R : Nat → Nat → Int32, zHal (F 2 8) (F 2 9) (F 2 10) (F 2 11) (F 3) (F 4) (F 5) (F 6) (F 7) (F 8) (F 9) (F 10) (R 179) (R 178 7) (R 183) B ∧ (∀ i, ¬ (2 < i ∧ i ≤ 10) → F i = f i) ∧ (∀ i, ¬ i = 179 → R i = r i) ∧ (∀ j, j < 4 → R 179 j = r 179 j) ∧ (∀ K : (Nat → Nat → Int32) → (Nat → Nat → Int64) → Prop, zCpv X (d + 4) 7 [.ref 147, .int (a (5 * j + 1)), .int (nI p), .int (a (5 * j + 3)), .int (a (5 * j + 4))] (zs f g) K = K F g) ∧ (∀ K : (Nat → Nat → Int32) → (Nat → Nat → Int64) → Prop, zCpv X (e + 3) 212 [.ref 178, .int (nI (4 * j))] (zs r gr) K = K R gr) := by
  have hst : r 179 1 = f 2 9 := hH.choose_spec.2.2.2.1
  have hpn : r 178 7 = nI n := by
    obtain ⟨n', hn', h1, h2, -⟩ := hH
    have en : n' = n := (nI_eq (by omega) (by omega)).mp (h1.symm.trans h8)
    rw [h2, en]
  subst h196
  have k1 := nI_cl (k := 4 * j + 1) (by omega)
  have k2 := nI_cl (k := 4 * j + 2) (by omega)
  have k3 := nI_cl (k := 4 * j + 3) (by omega)
  have n3 : nI (4 * j) + (3 : Int32) = nI (4 * j + 3) := nI_add _ 3
  have i1 := nI_in' (c := 4 * j + 1) (N := 128) (by omega) (by omega)
  have i2 := nI_in' (c := 4 * j + 2) (N := 128) (by omega) (by omega)
  have i3 := nI_in' (c := 4 * j + 3) (N := 128) (by omega) (by omega)
  have j4 := nI_in' (c := 4 + p) (N := 76) (by omega) (by omega)
  have j16 := nI_in' (c := 16 + p) (N := 76) (by omega) (by omega)
  have j28 := nI_in' (c := 28 + p) (N := 76) (by omega) (by omega)
  have j40 := nI_in' (c := 40 + p) (N := 76) (by omega) (by omega)
  have y1 := nI_cl (k := 4 + p) (by omega)
  have y2 := nI_cl (k := 16 + p) (by omega)
  have y3 := nI_cl (k := 28 + p) (by omega)
  have y4 := nI_cl (k := 40 + p) (by omega)
  have jp := nI_in (c := p) (N := 12) (by omega) (by omega)
  have kp := nI_cl (k := p) (by omega)
  have u13 : ¬ (1 : Int32) = 3 := by decide
  rcases hl with ⟨ha1, hb1, x, y, hx, hy, ha3, ha4, hb3⟩ | ⟨ha1, hb1, ha3⟩ | ⟨ha1, hb1⟩ | ⟨ha1, hb1⟩
  · rw [ha1, ha3, ha4]
    have hon := zHal_on hH h8 hn hx hy
    by_cases fr : ¬ P.testBit (8 * y + x) = true ∧ zfs (fun p => decide (f 5 p = nI x ∧ f 6 p = nI y)) n 0 = -1
    case neg =>
      refine ⟨f, r, hH, fun _ _ => rfl, fun _ _ => rfl, fun _ _ => rfl, ?_, ?_⟩
      · intro K
        refine zCpv_eq (fun K hK => e7_147 ?_)
        rw [if_pos rfl, q16_2 hP hg hx hy h8 hn, if_pos (by rw [zb_0]; exact fr)]
        exact hK
      · intro K
        refine zCpv_eq (fun K hK => e212_178 ?_)
        simp only [nI_1, nI_p2, n3, k1, k2, k3, nI_l4, nI_l16, nI_l28, nI_l40, y1, y2, y3, y4, if_neg i1, if_neg i2, if_neg i3, if_neg j4, if_neg j16, if_neg j28, if_neg j40, hb1, hb2, hb3, eq_self, ↓reduceIte, zq_01, zq_02, show ((0 : Int32) = 3) = False from by decide]
        rw [q166 (P := P) (n := n) (by omega) (hpl _ (by omega)) hpn hn, if_pos (by rw [zb_0, hon]; exact fr)]
        exact hK
    case pos =>
      · refine ⟨(zuI (zuI f 5 p (nI x)) 6 p (nI y)), (zuI r 179 (16 + p) (nI (8 * y + x))), ?_, fun i hi => ?_, fun i hi => ?_, fun i hi => ?_, ?_, ?_⟩
        · simp only [zi_ne, Nat.reduceEqDiff, not_false_eq_true]
          have w4 : zuI r 179 (16 + p) (nI (8 * y + x)) 179 (4 + p) = r 179 (4 + p) := by rw [zi_at, if_neg (by omega)]
          have w16 : zuI r 179 (16 + p) (nI (8 * y + x)) 179 (16 + p) = (nI (8 * y + x)) := by rw [zi_at, if_pos rfl]
          have w28 : zuI r 179 (16 + p) (nI (8 * y + x)) 179 (28 + p) = r 179 (28 + p) := by rw [zi_at, if_neg (by omega)]
          have w40 : zuI r 179 (16 + p) (nI (8 * y + x)) 179 (40 + p) = r 179 (40 + p) := by rw [zi_at, if_neg (by omega)]
          have w52 : zuI r 179 (16 + p) (nI (8 * y + x)) 179 (52 + p) = r 179 (52 + p) := by rw [zi_at, if_neg (by omega)]
          have w64 : zuI r 179 (16 + p) (nI (8 * y + x)) 179 (64 + p) = r 179 (64 + p) := by rw [zi_at, if_neg (by omega)]
          refine zHm_un (zHm_put (p := p) (i := 0) (i' := 0) (zHm_0 hH) (Nat.le_refl _) (fun q _ hq => ?_) (fun j _ a1 a2 a3 a4 a5 a6 a7 a8 => ?_) ?_ (by omega) (fun z => ?_))
          · simp only [zi_at, if_neg hq, zi_ne, Nat.reduceEqDiff, not_false_eq_true, and_self]
          · rw [zi_at, if_neg a4]
          · rw [zi_at, if_neg (by omega)]; exact hst
          · obtain ⟨b1, b2, b3, b4, b5, b6, b7, b8, b9, b10, b11⟩ := z
            rw [w4, w16, w28, w40, w52, w64]
            simp only [zi_at, zi_ne, Nat.reduceEqDiff, not_false_eq_true, ↓reduceIte]
            exact ⟨b1, b2, ⟨x, y, hx, hy, rfl, rfl, rfl⟩, b4, b5, b6, b7, b8, b9, b10, b11⟩
        · rw [zi_ne (by omega), zi_ne (by omega)]
        · rw [zi_ne hi]
        · rw [zi_at, if_neg (by omega)]
        · intro K
          refine zCpv_eq (fun K hK => e7_147 ?_)
          rw [if_pos rfl, q16_2 hP hg hx hy h8 hn, if_neg (by rw [zb_0]; exact fun z => z fr), if_neg jp, if_neg jp, kp]
          exact hK
        · intro K
          refine zCpv_eq (fun K hK => e212_178 ?_)
          simp only [nI_1, nI_p2, n3, k1, k2, k3, nI_l4, nI_l16, nI_l28, nI_l40, y1, y2, y3, y4, if_neg i1, if_neg i2, if_neg i3, if_neg j4, if_neg j16, if_neg j28, if_neg j40, hb1, hb2, hb3, eq_self, ↓reduceIte, zq_01, zq_02, show ((0 : Int32) = 3) = False from by decide]
          rw [q166 (P := P) (n := n) (by omega) (hpl _ (by omega)) hpn hn, if_neg (by rw [zb_0, hon]; exact fun z => z fr)]
          exact hK
  · rw [ha1]
    · refine ⟨(zuI f 3 p (a (5 * j + 3))), (zuI r 179 (4 + p) (a (5 * j + 3))), ?_, fun i hi => ?_, fun i hi => ?_, fun i hi => ?_, ?_, ?_⟩
      · simp only [zi_ne, Nat.reduceEqDiff, not_false_eq_true]
        have w4 : zuI r 179 (4 + p) (a (5 * j + 3)) 179 (4 + p) = (a (5 * j + 3)) := by rw [zi_at, if_pos rfl]
        have w16 : zuI r 179 (4 + p) (a (5 * j + 3)) 179 (16 + p) = r 179 (16 + p) := by rw [zi_at, if_neg (by omega)]
        have w28 : zuI r 179 (4 + p) (a (5 * j + 3)) 179 (28 + p) = r 179 (28 + p) := by rw [zi_at, if_neg (by omega)]
        have w40 : zuI r 179 (4 + p) (a (5 * j + 3)) 179 (40 + p) = r 179 (40 + p) := by rw [zi_at, if_neg (by omega)]
        have w52 : zuI r 179 (4 + p) (a (5 * j + 3)) 179 (52 + p) = r 179 (52 + p) := by rw [zi_at, if_neg (by omega)]
        have w64 : zuI r 179 (4 + p) (a (5 * j + 3)) 179 (64 + p) = r 179 (64 + p) := by rw [zi_at, if_neg (by omega)]
        refine zHm_un (zHm_put (p := p) (i := 0) (i' := 0) (zHm_0 hH) (Nat.le_refl _) (fun q _ hq => ?_) (fun j _ a1 a2 a3 a4 a5 a6 a7 a8 => ?_) ?_ (by omega) (fun z => ?_))
        · simp only [zi_at, if_neg hq, zi_ne, Nat.reduceEqDiff, not_false_eq_true, and_self]
        · rw [zi_at, if_neg a3]
        · rw [zi_at, if_neg (by omega)]; exact hst
        · obtain ⟨b1, b2, b3, b4, b5, b6, b7, b8, b9, b10, b11⟩ := z
          rw [w4, w16, w28, w40, w52, w64]
          simp only [zi_at, zi_ne, Nat.reduceEqDiff, not_false_eq_true, ↓reduceIte]
          exact ⟨rfl, b2, b3, b4, b5, b6, b7, b8, b9, b10, b11⟩
      · rw [zi_ne (by omega)]
      · rw [zi_ne hi]
      · rw [zi_at, if_neg (by omega)]
      · intro K
        refine zCpv_eq (fun K hK => e7_147 ?_)
        rw [if_neg (by decide), if_pos rfl, if_neg jp, kp]
        exact hK
      · intro K
        refine zCpv_eq (fun K hK => e212_178 ?_)
        simp only [nI_1, nI_p2, n3, k1, k2, k3, nI_l4, nI_l16, nI_l28, nI_l40, y1, y2, y3, y4, if_neg i1, if_neg i2, if_neg i3, if_neg j4, if_neg j16, if_neg j28, if_neg j40, hb1, hb2, eq_self, ↓reduceIte, zq_10, zq_12', u13]
        rw [← ha3]
        exact hK
  · rw [ha1]
    · refine ⟨(zuI f 8 p 0), (zuI r 179 (40 + p) 0), ?_, fun i hi => ?_, fun i hi => ?_, fun i hi => ?_, ?_, ?_⟩
      · simp only [zi_ne, Nat.reduceEqDiff, not_false_eq_true]
        have w4 : zuI r 179 (40 + p) 0 179 (4 + p) = r 179 (4 + p) := by rw [zi_at, if_neg (by omega)]
        have w16 : zuI r 179 (40 + p) 0 179 (16 + p) = r 179 (16 + p) := by rw [zi_at, if_neg (by omega)]
        have w28 : zuI r 179 (40 + p) 0 179 (28 + p) = r 179 (28 + p) := by rw [zi_at, if_neg (by omega)]
        have w40 : zuI r 179 (40 + p) 0 179 (40 + p) = 0 := by rw [zi_at, if_pos rfl]
        have w52 : zuI r 179 (40 + p) 0 179 (52 + p) = r 179 (52 + p) := by rw [zi_at, if_neg (by omega)]
        have w64 : zuI r 179 (40 + p) 0 179 (64 + p) = r 179 (64 + p) := by rw [zi_at, if_neg (by omega)]
        refine zHm_un (zHm_put (p := p) (i := 0) (i' := 0) (zHm_0 hH) (Nat.le_refl _) (fun q _ hq => ?_) (fun j _ a1 a2 a3 a4 a5 a6 a7 a8 => ?_) ?_ (by omega) (fun z => ?_))
        · simp only [zi_at, if_neg hq, zi_ne, Nat.reduceEqDiff, not_false_eq_true, and_self]
        · rw [zi_at, if_neg a6]
        · rw [zi_at, if_neg (by omega)]; exact hst
        · obtain ⟨b1, b2, b3, b4, b5, b6, b7, b8, b9, b10, b11⟩ := z
          rw [w4, w16, w28, w40, w52, w64]
          simp only [zi_at, zi_ne, Nat.reduceEqDiff, not_false_eq_true, ↓reduceIte]
          exact ⟨b1, b2, b3, b4, rfl, by decide, by decide, b8, b9, b10, b11⟩
      · rw [zi_ne (by omega)]
      · rw [zi_ne hi]
      · rw [zi_at, if_neg (by omega)]
      · intro K
        refine zCpv_eq (fun K hK => e7_147 ?_)
        rw [if_neg (by decide), if_neg (by decide), if_pos rfl, if_neg jp, kp]
        exact hK
      · intro K
        refine zCpv_eq (fun K hK => e212_178 ?_)
        simp only [nI_1, nI_p2, n3, k1, k2, k3, nI_l4, nI_l16, nI_l28, nI_l40, y1, y2, y3, y4, if_neg i1, if_neg i2, if_neg i3, if_neg j4, if_neg j16, if_neg j28, if_neg j40, hb1, hb2, eq_self, ↓reduceIte, zq_20, zq_21, zq_23]
        exact hK
  · rw [ha1]
    · refine ⟨(zuI f 7 p (-1)), (zuI r 179 (28 + p) 0), ?_, fun i hi => ?_, fun i hi => ?_, fun i hi => ?_, ?_, ?_⟩
      · simp only [zi_ne, Nat.reduceEqDiff, not_false_eq_true]
        have w4 : zuI r 179 (28 + p) 0 179 (4 + p) = r 179 (4 + p) := by rw [zi_at, if_neg (by omega)]
        have w16 : zuI r 179 (28 + p) 0 179 (16 + p) = r 179 (16 + p) := by rw [zi_at, if_neg (by omega)]
        have w28 : zuI r 179 (28 + p) 0 179 (28 + p) = 0 := by rw [zi_at, if_pos rfl]
        have w40 : zuI r 179 (28 + p) 0 179 (40 + p) = r 179 (40 + p) := by rw [zi_at, if_neg (by omega)]
        have w52 : zuI r 179 (28 + p) 0 179 (52 + p) = r 179 (52 + p) := by rw [zi_at, if_neg (by omega)]
        have w64 : zuI r 179 (28 + p) 0 179 (64 + p) = r 179 (64 + p) := by rw [zi_at, if_neg (by omega)]
        refine zHm_un (zHm_put (p := p) (i := 0) (i' := 0) (zHm_0 hH) (Nat.le_refl _) (fun q _ hq => ?_) (fun j _ a1 a2 a3 a4 a5 a6 a7 a8 => ?_) ?_ (by omega) (fun z => ?_))
        · simp only [zi_at, if_neg hq, zi_ne, Nat.reduceEqDiff, not_false_eq_true, and_self]
        · rw [zi_at, if_neg a5]
        · rw [zi_at, if_neg (by omega)]; exact hst
        · obtain ⟨b1, b2, b3, b4, b5, b6, b7, b8, b9, b10, b11⟩ := z
          rw [w4, w16, w28, w40, w52, w64]
          simp only [zi_at, zi_ne, Nat.reduceEqDiff, not_false_eq_true, ↓reduceIte]
          exact ⟨b1, b2, b3, ⟨0, by omega, by decide, rfl⟩, b5, b6, b7, b8, b9, b10, b11⟩
      · rw [zi_ne (by omega)]
      · rw [zi_ne hi]
      · rw [zi_at, if_neg (by omega)]
      · intro K
        refine zCpv_eq (fun K hK => e7_147 ?_)
        rw [if_neg (by decide), if_neg (by decide), if_neg (by decide), if_neg jp, kp]
        exact hK
      · intro K
        refine zCpv_eq (fun K hK => e212_178 ?_)
        simp only [nI_1, nI_p2, n3, k1, k2, k3, nI_l4, nI_l16, nI_l28, nI_l40, y1, y2, y3, y4, if_neg i1, if_neg i2, if_neg i3, if_neg j4, if_neg j16, if_neg j28, if_neg j40, hb1, hb2, eq_self, ↓reduceIte, zq_30, zq_31, zq_32]
        exact hK
theorem st_147 {a b : Nat → Int32} (hn : n ≤ 12) (hP : P < 2 ^ 48) (hg : g 2 12 = lN P) (hk : k ≤ 16) (hl : ∀ j, j < k → zSl a b j n) : ∀ m j, j + m = k → ∀ f r : Nat → Nat → Int32, f 2 8 = nI n → f 22 1 = nI k → f 23 = a → r 178 35 = nI k → r 196 = b → (∀ k, k < 48 → r 197 k = if P.testBit k = true then 1 else 0) → zHal (f 2 8) (f 2 9) (f 2 10) (f 2 11) (f 3) (f 4) (f 5) (f 6) (f 7) (f 8) (f 9) (f 10) (r 179) (r 178 7) (r 183) B →
    ∃ F R : Nat → Nat → Int32, zHal (F 2 8) (F 2 9) (F 2 10) (F 2 11) (F 3) (F 4) (F 5) (F 6) (F 7) (F 8) (F 9) (F 10) (R 179) (R 178 7) (R 183) B ∧ (∀ i, ¬ (2 < i ∧ i ≤ 10) → F i = f i) ∧ (∀ i, ¬ i = 179 → R i = r i) ∧ (∀ j, j < 4 → R 179 j = r 179 j) ∧ (∀ K : (Nat → Nat → Int32) → (Nat → Nat → Int64) → Prop, K F g → zWp X (d + 4) zm6 10 [.ref 147, .ref 22, .int (nI j), .null] [] (zs f g) (zQv K)) ∧ (∀ K : Int32 → (Nat → Nat → Int32) → (Nat → Nat → Int64) → Prop, zCpv X (e + 3) 213 [.ref 178] (zs R gr) (fun f1 g2 => zWp X (e + 3) zm211 47 [.ref 178, .int 0, .int 0] [] (zs f1 g2) (zQi K)) → zWp X (e + 3) zm211 2 [.ref 178, .int (nI (4 * j)), .null] [] (zs r gr) (zQi K)) := by
  have z0 : ¬ ((0 : Int32) < 0 ∨ 76 ≤ (0 : Int32).toNatClampNeg) := by decide
  intro m
  induction m with
  | zero =>
    intro j hj f r h8 h22 h23 h35 h196 hpl hH
    have ej : j = k := by omega
    subst ej
    refine ⟨f, r, hH, fun _ _ => rfl, fun _ _ => rfl, fun _ _ => rfl, fun K hK => ?_, fun K hK => ?_⟩
    · apply s6_10_147
      rw [h22, if_pos (nI_le (by omega) (by omega))]
      exact hK
    · apply s211_2_178
      rw [h35, zmO.2, show (4 : Int32) * nI j = nI (4 * j) from pk_mul 4 j, if_pos (nI_le (by omega) (by omega))]
      exact hK
  | succ m ih =>
    intro j hj f r h8 h22 h23 h35 h196 hpl hH
    obtain ⟨hl0, ⟨p, hp, hl1, hl2⟩, hl3⟩ := hl j (by omega)
    have h11 : r 179 0 = f 2 11 := hH.choose_spec.2.2.2.2.2.1
    have e4 : nI (4 * j) + (4 : Int32) = nI (4 * (j + 1)) := nI_add _ 4
    have hc : ∀ K : (Nat → Nat → Int32) → (Nat → Nat → Int64) → Prop, (if a (5 * j) = f 2 11 then zCpv X (d + 4) 7 [.ref 147, .int (a (5 * j + 1)), .int (nI p), .int (a (5 * j + 3)), .int (a (5 * j + 4))] (zs f g) (fun f19 g20 => zWp X (d + 4) zm6 10 [.ref 147, .ref 22, .int (nI (j + 1)), .null] [] (zs f19 g20) (zQv K)) else zWp X (d + 4) zm6 10 [.ref 147, .ref 22, .int (nI (j + 1)), .null] [] (zs f g) (zQv K)) → zWp X (d + 4) zm6 10 [.ref 147, .ref 22, .int (nI j), .null] [] (zs f g) (zQv K) := fun K hK => by
      apply s6_10_147
      rw [h22, if_neg (nI_ge (by omega) (by omega)), q71_22_2 (by omega), q71_22_0 (by omega), Nat.add_zero, h23, nI_1]
      by_cases eb : a (5 * j) = f 2 11
      · rw [if_pos eb] at hK
        rw [if_pos eb, q20_2, if_neg (by rw [zb_0, h8, hl1, nI_ti (by omega), nI_ti (by omega)]; omega), q71_22_1 (by omega), q71_22_3 (by omega), q71_22_4 (by omega), h23, hl1]
        exact hK
      · rw [if_neg eb] at hK
        rw [if_neg eb]
        exact hK
    have hr : ∀ K : Int32 → (Nat → Nat → Int32) → (Nat → Nat → Int64) → Prop, (if a (5 * j) = f 2 11 then zCpv X (e + 3) 212 [.ref 178, .int (nI (4 * j))] (zs r gr) (fun f3 g4 => zWp X (e + 3) zm211 2 [.ref 178, .int (nI (4 * (j + 1))), .null] [] (zs f3 g4) (zQi K)) else zWp X (e + 3) zm211 2 [.ref 178, .int (nI (4 * (j + 1))), .null] [] (zs r gr) (zQi K)) → zWp X (e + 3) zm211 2 [.ref 178, .int (nI (4 * j)), .null] [] (zs r gr) (zQi K) := fun K hK => by
      apply s211_2_178
      rw [h35, zmO.2, show (4 : Int32) * nI k = nI (4 * k) from pk_mul 4 k, if_neg (nI_ge (by omega) (by omega)), if_neg (nI_in (by omega) (by omega)), nI_cl (by omega), if_neg z0, h196, ← hl0, h11, e4]
      exact hK
    by_cases eb : a (5 * j) = f 2 11
    · obtain ⟨F, R, d1, d2, d3, d4, d5, d6⟩ := dl_147 (X := X) (d := d) (e := e) (gr := gr) (a := a) (b := b) (j := j) (p := p) hn hP hg (by omega) h8 hH hpl h196 hp hl2 hl3
      obtain ⟨F', R', e1, e2, e3, e4', e5, e6⟩ := ih (j + 1) (by omega) F R (by rw [d2 2 (by omega)]; exact h8) (by rw [d2 22 (by omega)]; exact h22) (by rw [d2 23 (by omega)]; exact h23) (by rw [d3 178 (by omega)]; exact h35) (by rw [d3 196 (by omega)]; exact h196) (fun k hk => by rw [d3 197 (by omega)]; exact hpl k hk) d1
      refine ⟨F', R', e1, fun i hi => by rw [e2 i hi, d2 i hi], fun i hi => by rw [e3 i hi, d3 i hi], fun i hi => by rw [e4' i hi, d4 i hi], fun K hK => hc K ?_, fun K hK => hr K ?_⟩
      · rw [if_pos eb, d5]
        exact e5 K hK
      · rw [if_pos eb, d6]
        exact e6 K hK
    · obtain ⟨F', R', e1, e2, e3, e4', e5, e6⟩ := ih (j + 1) (by omega) f r h8 h22 h23 h35 h196 hpl hH
      refine ⟨F', R', e1, e2, e3, e4', fun K hK => hc K ?_, fun K hK => hr K ?_⟩
      · rw [if_neg eb]
        exact e5 K hK
      · rw [if_neg eb]
        exact e6 K hK
theorem dl_158 {f r : Nat → Nat → Int32} {a b : Nat → Int32} {j p : Nat} (hn : n ≤ 12) (hP : P < 2 ^ 48) (hg : g 138 12 = lN P) (hj : j < 16) (h8 : f 138 8 = nI n) (hH : zHal (f 138 8) (f 138 9) (f 138 10) (f 138 11) (f 139) (f 140) (f 141) (f 142) (f 143) (f 144) (f 145) (f 146) (r 179) (r 178 7) (r 183) B) (hpl : ∀ k, k < 48 → r 197 k = if P.testBit k = true then 1 else 0) (h196 : r 196 = b) (hp : p < n) (hb2 : b (4 * j + 2) = nI p)
    (hl : (a (5 * j + 1) = 146 ∧ b (4 * j + 1) = 0 ∧ ∃ x y : Nat, x < 8 ∧ y < 6 ∧ a (5 * j + 3) = nI x ∧ a (5 * j + 4) = nI y ∧ b (4 * j + 3) = nI (8 * y + x)) ∨ (a (5 * j + 1) = 135 ∧ b (4 * j + 1) = 1 ∧ a (5 * j + 3) = b (4 * j + 3)) ∨ (a (5 * j + 1) = 147 ∧ b (4 * j + 1) = 2) ∨ (a (5 * j + 1) = 148 ∧ b (4 * j + 1) = 3)) :
    ∃ F R : Nat → Nat → Int32, zHal (F 138 8) (F 138 9) (F 138 10) (F 138 11) (F 139) (F 140) (F 141) (F 142) (F 143) (F 144) (F 145) (F 146) (R 179) (R 178 7) (R 183) B ∧ (∀ i, ¬ (138 < i ∧ i ≤ 146) → F i = f i) ∧ (∀ i, ¬ i = 179 → R i = r i) ∧ (∀ j, j < 4 → R 179 j = r 179 j) ∧ (∀ K : (Nat → Nat → Int32) → (Nat → Nat → Int64) → Prop, zCpv X (d + 4) 7 [.ref 158, .int (a (5 * j + 1)), .int (nI p), .int (a (5 * j + 3)), .int (a (5 * j + 4))] (zs f g) K = K F g) ∧ (∀ K : (Nat → Nat → Int32) → (Nat → Nat → Int64) → Prop, zCpv X (e + 3) 212 [.ref 178, .int (nI (4 * j))] (zs r gr) K = K R gr) := by
  have hst : r 179 1 = f 138 9 := hH.choose_spec.2.2.2.1
  have hpn : r 178 7 = nI n := by
    obtain ⟨n', hn', h1, h2, -⟩ := hH
    have en : n' = n := (nI_eq (by omega) (by omega)).mp (h1.symm.trans h8)
    rw [h2, en]
  subst h196
  have k1 := nI_cl (k := 4 * j + 1) (by omega)
  have k2 := nI_cl (k := 4 * j + 2) (by omega)
  have k3 := nI_cl (k := 4 * j + 3) (by omega)
  have n3 : nI (4 * j) + (3 : Int32) = nI (4 * j + 3) := nI_add _ 3
  have i1 := nI_in' (c := 4 * j + 1) (N := 128) (by omega) (by omega)
  have i2 := nI_in' (c := 4 * j + 2) (N := 128) (by omega) (by omega)
  have i3 := nI_in' (c := 4 * j + 3) (N := 128) (by omega) (by omega)
  have j4 := nI_in' (c := 4 + p) (N := 76) (by omega) (by omega)
  have j16 := nI_in' (c := 16 + p) (N := 76) (by omega) (by omega)
  have j28 := nI_in' (c := 28 + p) (N := 76) (by omega) (by omega)
  have j40 := nI_in' (c := 40 + p) (N := 76) (by omega) (by omega)
  have y1 := nI_cl (k := 4 + p) (by omega)
  have y2 := nI_cl (k := 16 + p) (by omega)
  have y3 := nI_cl (k := 28 + p) (by omega)
  have y4 := nI_cl (k := 40 + p) (by omega)
  have jp := nI_in (c := p) (N := 12) (by omega) (by omega)
  have kp := nI_cl (k := p) (by omega)
  have u13 : ¬ (1 : Int32) = 3 := by decide
  rcases hl with ⟨ha1, hb1, x, y, hx, hy, ha3, ha4, hb3⟩ | ⟨ha1, hb1, ha3⟩ | ⟨ha1, hb1⟩ | ⟨ha1, hb1⟩
  · rw [ha1, ha3, ha4]
    have hon := zHal_on hH h8 hn hx hy
    by_cases fr : ¬ P.testBit (8 * y + x) = true ∧ zfs (fun p => decide (f 141 p = nI x ∧ f 142 p = nI y)) n 0 = -1
    case neg =>
      refine ⟨f, r, hH, fun _ _ => rfl, fun _ _ => rfl, fun _ _ => rfl, ?_, ?_⟩
      · intro K
        refine zCpv_eq (fun K hK => e7_158 ?_)
        rw [if_pos rfl, q16_138 hP hg hx hy h8 hn, if_pos (by rw [zb_0]; exact fr)]
        exact hK
      · intro K
        refine zCpv_eq (fun K hK => e212_178 ?_)
        simp only [nI_1, nI_p2, n3, k1, k2, k3, nI_l4, nI_l16, nI_l28, nI_l40, y1, y2, y3, y4, if_neg i1, if_neg i2, if_neg i3, if_neg j4, if_neg j16, if_neg j28, if_neg j40, hb1, hb2, hb3, eq_self, ↓reduceIte, zq_01, zq_02, show ((0 : Int32) = 3) = False from by decide]
        rw [q166 (P := P) (n := n) (by omega) (hpl _ (by omega)) hpn hn, if_pos (by rw [zb_0, hon]; exact fr)]
        exact hK
    case pos =>
      · refine ⟨(zuI (zuI f 141 p (nI x)) 142 p (nI y)), (zuI r 179 (16 + p) (nI (8 * y + x))), ?_, fun i hi => ?_, fun i hi => ?_, fun i hi => ?_, ?_, ?_⟩
        · simp only [zi_ne, Nat.reduceEqDiff, not_false_eq_true]
          have w4 : zuI r 179 (16 + p) (nI (8 * y + x)) 179 (4 + p) = r 179 (4 + p) := by rw [zi_at, if_neg (by omega)]
          have w16 : zuI r 179 (16 + p) (nI (8 * y + x)) 179 (16 + p) = (nI (8 * y + x)) := by rw [zi_at, if_pos rfl]
          have w28 : zuI r 179 (16 + p) (nI (8 * y + x)) 179 (28 + p) = r 179 (28 + p) := by rw [zi_at, if_neg (by omega)]
          have w40 : zuI r 179 (16 + p) (nI (8 * y + x)) 179 (40 + p) = r 179 (40 + p) := by rw [zi_at, if_neg (by omega)]
          have w52 : zuI r 179 (16 + p) (nI (8 * y + x)) 179 (52 + p) = r 179 (52 + p) := by rw [zi_at, if_neg (by omega)]
          have w64 : zuI r 179 (16 + p) (nI (8 * y + x)) 179 (64 + p) = r 179 (64 + p) := by rw [zi_at, if_neg (by omega)]
          refine zHm_un (zHm_put (p := p) (i := 0) (i' := 0) (zHm_0 hH) (Nat.le_refl _) (fun q _ hq => ?_) (fun j _ a1 a2 a3 a4 a5 a6 a7 a8 => ?_) ?_ (by omega) (fun z => ?_))
          · simp only [zi_at, if_neg hq, zi_ne, Nat.reduceEqDiff, not_false_eq_true, and_self]
          · rw [zi_at, if_neg a4]
          · rw [zi_at, if_neg (by omega)]; exact hst
          · obtain ⟨b1, b2, b3, b4, b5, b6, b7, b8, b9, b10, b11⟩ := z
            rw [w4, w16, w28, w40, w52, w64]
            simp only [zi_at, zi_ne, Nat.reduceEqDiff, not_false_eq_true, ↓reduceIte]
            exact ⟨b1, b2, ⟨x, y, hx, hy, rfl, rfl, rfl⟩, b4, b5, b6, b7, b8, b9, b10, b11⟩
        · rw [zi_ne (by omega), zi_ne (by omega)]
        · rw [zi_ne hi]
        · rw [zi_at, if_neg (by omega)]
        · intro K
          refine zCpv_eq (fun K hK => e7_158 ?_)
          rw [if_pos rfl, q16_138 hP hg hx hy h8 hn, if_neg (by rw [zb_0]; exact fun z => z fr), if_neg jp, if_neg jp, kp]
          exact hK
        · intro K
          refine zCpv_eq (fun K hK => e212_178 ?_)
          simp only [nI_1, nI_p2, n3, k1, k2, k3, nI_l4, nI_l16, nI_l28, nI_l40, y1, y2, y3, y4, if_neg i1, if_neg i2, if_neg i3, if_neg j4, if_neg j16, if_neg j28, if_neg j40, hb1, hb2, hb3, eq_self, ↓reduceIte, zq_01, zq_02, show ((0 : Int32) = 3) = False from by decide]
          rw [q166 (P := P) (n := n) (by omega) (hpl _ (by omega)) hpn hn, if_neg (by rw [zb_0, hon]; exact fun z => z fr)]
          exact hK
  · rw [ha1]
    · refine ⟨(zuI f 139 p (a (5 * j + 3))), (zuI r 179 (4 + p) (a (5 * j + 3))), ?_, fun i hi => ?_, fun i hi => ?_, fun i hi => ?_, ?_, ?_⟩
      · simp only [zi_ne, Nat.reduceEqDiff, not_false_eq_true]
        have w4 : zuI r 179 (4 + p) (a (5 * j + 3)) 179 (4 + p) = (a (5 * j + 3)) := by rw [zi_at, if_pos rfl]
        have w16 : zuI r 179 (4 + p) (a (5 * j + 3)) 179 (16 + p) = r 179 (16 + p) := by rw [zi_at, if_neg (by omega)]
        have w28 : zuI r 179 (4 + p) (a (5 * j + 3)) 179 (28 + p) = r 179 (28 + p) := by rw [zi_at, if_neg (by omega)]
        have w40 : zuI r 179 (4 + p) (a (5 * j + 3)) 179 (40 + p) = r 179 (40 + p) := by rw [zi_at, if_neg (by omega)]
        have w52 : zuI r 179 (4 + p) (a (5 * j + 3)) 179 (52 + p) = r 179 (52 + p) := by rw [zi_at, if_neg (by omega)]
        have w64 : zuI r 179 (4 + p) (a (5 * j + 3)) 179 (64 + p) = r 179 (64 + p) := by rw [zi_at, if_neg (by omega)]
        refine zHm_un (zHm_put (p := p) (i := 0) (i' := 0) (zHm_0 hH) (Nat.le_refl _) (fun q _ hq => ?_) (fun j _ a1 a2 a3 a4 a5 a6 a7 a8 => ?_) ?_ (by omega) (fun z => ?_))
        · simp only [zi_at, if_neg hq, zi_ne, Nat.reduceEqDiff, not_false_eq_true, and_self]
        · rw [zi_at, if_neg a3]
        · rw [zi_at, if_neg (by omega)]; exact hst
        · obtain ⟨b1, b2, b3, b4, b5, b6, b7, b8, b9, b10, b11⟩ := z
          rw [w4, w16, w28, w40, w52, w64]
          simp only [zi_at, zi_ne, Nat.reduceEqDiff, not_false_eq_true, ↓reduceIte]
          exact ⟨rfl, b2, b3, b4, b5, b6, b7, b8, b9, b10, b11⟩
      · rw [zi_ne (by omega)]
      · rw [zi_ne hi]
      · rw [zi_at, if_neg (by omega)]
      · intro K
        refine zCpv_eq (fun K hK => e7_158 ?_)
        rw [if_neg (by decide), if_pos rfl, if_neg jp, kp]
        exact hK
      · intro K
        refine zCpv_eq (fun K hK => e212_178 ?_)
        simp only [nI_1, nI_p2, n3, k1, k2, k3, nI_l4, nI_l16, nI_l28, nI_l40, y1, y2, y3, y4, if_neg i1, if_neg i2, if_neg i3, if_neg j4, if_neg j16, if_neg j28, if_neg j40, hb1, hb2, eq_self, ↓reduceIte, zq_10, zq_12', u13]
        rw [← ha3]
        exact hK
  · rw [ha1]
    · refine ⟨(zuI f 144 p 0), (zuI r 179 (40 + p) 0), ?_, fun i hi => ?_, fun i hi => ?_, fun i hi => ?_, ?_, ?_⟩
      · simp only [zi_ne, Nat.reduceEqDiff, not_false_eq_true]
        have w4 : zuI r 179 (40 + p) 0 179 (4 + p) = r 179 (4 + p) := by rw [zi_at, if_neg (by omega)]
        have w16 : zuI r 179 (40 + p) 0 179 (16 + p) = r 179 (16 + p) := by rw [zi_at, if_neg (by omega)]
        have w28 : zuI r 179 (40 + p) 0 179 (28 + p) = r 179 (28 + p) := by rw [zi_at, if_neg (by omega)]
        have w40 : zuI r 179 (40 + p) 0 179 (40 + p) = 0 := by rw [zi_at, if_pos rfl]
        have w52 : zuI r 179 (40 + p) 0 179 (52 + p) = r 179 (52 + p) := by rw [zi_at, if_neg (by omega)]
        have w64 : zuI r 179 (40 + p) 0 179 (64 + p) = r 179 (64 + p) := by rw [zi_at, if_neg (by omega)]
        refine zHm_un (zHm_put (p := p) (i := 0) (i' := 0) (zHm_0 hH) (Nat.le_refl _) (fun q _ hq => ?_) (fun j _ a1 a2 a3 a4 a5 a6 a7 a8 => ?_) ?_ (by omega) (fun z => ?_))
        · simp only [zi_at, if_neg hq, zi_ne, Nat.reduceEqDiff, not_false_eq_true, and_self]
        · rw [zi_at, if_neg a6]
        · rw [zi_at, if_neg (by omega)]; exact hst
        · obtain ⟨b1, b2, b3, b4, b5, b6, b7, b8, b9, b10, b11⟩ := z
          rw [w4, w16, w28, w40, w52, w64]
          simp only [zi_at, zi_ne, Nat.reduceEqDiff, not_false_eq_true, ↓reduceIte]
          exact ⟨b1, b2, b3, b4, rfl, by decide, by decide, b8, b9, b10, b11⟩
      · rw [zi_ne (by omega)]
      · rw [zi_ne hi]
      · rw [zi_at, if_neg (by omega)]
      · intro K
        refine zCpv_eq (fun K hK => e7_158 ?_)
        rw [if_neg (by decide), if_neg (by decide), if_pos rfl, if_neg jp, kp]
        exact hK
      · intro K
        refine zCpv_eq (fun K hK => e212_178 ?_)
        simp only [nI_1, nI_p2, n3, k1, k2, k3, nI_l4, nI_l16, nI_l28, nI_l40, y1, y2, y3, y4, if_neg i1, if_neg i2, if_neg i3, if_neg j4, if_neg j16, if_neg j28, if_neg j40, hb1, hb2, eq_self, ↓reduceIte, zq_20, zq_21, zq_23]
        exact hK
  · rw [ha1]
    · refine ⟨(zuI f 143 p (-1)), (zuI r 179 (28 + p) 0), ?_, fun i hi => ?_, fun i hi => ?_, fun i hi => ?_, ?_, ?_⟩
      · simp only [zi_ne, Nat.reduceEqDiff, not_false_eq_true]
        have w4 : zuI r 179 (28 + p) 0 179 (4 + p) = r 179 (4 + p) := by rw [zi_at, if_neg (by omega)]
        have w16 : zuI r 179 (28 + p) 0 179 (16 + p) = r 179 (16 + p) := by rw [zi_at, if_neg (by omega)]
        have w28 : zuI r 179 (28 + p) 0 179 (28 + p) = 0 := by rw [zi_at, if_pos rfl]
        have w40 : zuI r 179 (28 + p) 0 179 (40 + p) = r 179 (40 + p) := by rw [zi_at, if_neg (by omega)]
        have w52 : zuI r 179 (28 + p) 0 179 (52 + p) = r 179 (52 + p) := by rw [zi_at, if_neg (by omega)]
        have w64 : zuI r 179 (28 + p) 0 179 (64 + p) = r 179 (64 + p) := by rw [zi_at, if_neg (by omega)]
        refine zHm_un (zHm_put (p := p) (i := 0) (i' := 0) (zHm_0 hH) (Nat.le_refl _) (fun q _ hq => ?_) (fun j _ a1 a2 a3 a4 a5 a6 a7 a8 => ?_) ?_ (by omega) (fun z => ?_))
        · simp only [zi_at, if_neg hq, zi_ne, Nat.reduceEqDiff, not_false_eq_true, and_self]
        · rw [zi_at, if_neg a5]
        · rw [zi_at, if_neg (by omega)]; exact hst
        · obtain ⟨b1, b2, b3, b4, b5, b6, b7, b8, b9, b10, b11⟩ := z
          rw [w4, w16, w28, w40, w52, w64]
          simp only [zi_at, zi_ne, Nat.reduceEqDiff, not_false_eq_true, ↓reduceIte]
          exact ⟨b1, b2, b3, ⟨0, by omega, by decide, rfl⟩, b5, b6, b7, b8, b9, b10, b11⟩
      · rw [zi_ne (by omega)]
      · rw [zi_ne hi]
      · rw [zi_at, if_neg (by omega)]
      · intro K
        refine zCpv_eq (fun K hK => e7_158 ?_)
        rw [if_neg (by decide), if_neg (by decide), if_neg (by decide), if_neg jp, kp]
        exact hK
      · intro K
        refine zCpv_eq (fun K hK => e212_178 ?_)
        simp only [nI_1, nI_p2, n3, k1, k2, k3, nI_l4, nI_l16, nI_l28, nI_l40, y1, y2, y3, y4, if_neg i1, if_neg i2, if_neg i3, if_neg j4, if_neg j16, if_neg j28, if_neg j40, hb1, hb2, eq_self, ↓reduceIte, zq_30, zq_31, zq_32]
        exact hK
theorem st_158 {a b : Nat → Int32} (hn : n ≤ 12) (hP : P < 2 ^ 48) (hg : g 138 12 = lN P) (hk : k ≤ 16) (hl : ∀ j, j < k → zSl a b j n) : ∀ m j, j + m = k → ∀ f r : Nat → Nat → Int32, f 138 8 = nI n → f 22 1 = nI k → f 23 = a → r 178 35 = nI k → r 196 = b → (∀ k, k < 48 → r 197 k = if P.testBit k = true then 1 else 0) → zHal (f 138 8) (f 138 9) (f 138 10) (f 138 11) (f 139) (f 140) (f 141) (f 142) (f 143) (f 144) (f 145) (f 146) (r 179) (r 178 7) (r 183) B →
    ∃ F R : Nat → Nat → Int32, zHal (F 138 8) (F 138 9) (F 138 10) (F 138 11) (F 139) (F 140) (F 141) (F 142) (F 143) (F 144) (F 145) (F 146) (R 179) (R 178 7) (R 183) B ∧ (∀ i, ¬ (138 < i ∧ i ≤ 146) → F i = f i) ∧ (∀ i, ¬ i = 179 → R i = r i) ∧ (∀ j, j < 4 → R 179 j = r 179 j) ∧ (∀ K : (Nat → Nat → Int32) → (Nat → Nat → Int64) → Prop, K F g → zWp X (d + 4) zm6 10 [.ref 158, .ref 22, .int (nI j), .null] [] (zs f g) (zQv K)) ∧ (∀ K : Int32 → (Nat → Nat → Int32) → (Nat → Nat → Int64) → Prop, zCpv X (e + 3) 213 [.ref 178] (zs R gr) (fun f1 g2 => zWp X (e + 3) zm211 47 [.ref 178, .int 0, .int 0] [] (zs f1 g2) (zQi K)) → zWp X (e + 3) zm211 2 [.ref 178, .int (nI (4 * j)), .null] [] (zs r gr) (zQi K)) := by
  have z0 : ¬ ((0 : Int32) < 0 ∨ 76 ≤ (0 : Int32).toNatClampNeg) := by decide
  intro m
  induction m with
  | zero =>
    intro j hj f r h8 h22 h23 h35 h196 hpl hH
    have ej : j = k := by omega
    subst ej
    refine ⟨f, r, hH, fun _ _ => rfl, fun _ _ => rfl, fun _ _ => rfl, fun K hK => ?_, fun K hK => ?_⟩
    · apply s6_10_158
      rw [h22, if_pos (nI_le (by omega) (by omega))]
      exact hK
    · apply s211_2_178
      rw [h35, zmO.2, show (4 : Int32) * nI j = nI (4 * j) from pk_mul 4 j, if_pos (nI_le (by omega) (by omega))]
      exact hK
  | succ m ih =>
    intro j hj f r h8 h22 h23 h35 h196 hpl hH
    obtain ⟨hl0, ⟨p, hp, hl1, hl2⟩, hl3⟩ := hl j (by omega)
    have h11 : r 179 0 = f 138 11 := hH.choose_spec.2.2.2.2.2.1
    have e4 : nI (4 * j) + (4 : Int32) = nI (4 * (j + 1)) := nI_add _ 4
    have hc : ∀ K : (Nat → Nat → Int32) → (Nat → Nat → Int64) → Prop, (if a (5 * j) = f 138 11 then zCpv X (d + 4) 7 [.ref 158, .int (a (5 * j + 1)), .int (nI p), .int (a (5 * j + 3)), .int (a (5 * j + 4))] (zs f g) (fun f19 g20 => zWp X (d + 4) zm6 10 [.ref 158, .ref 22, .int (nI (j + 1)), .null] [] (zs f19 g20) (zQv K)) else zWp X (d + 4) zm6 10 [.ref 158, .ref 22, .int (nI (j + 1)), .null] [] (zs f g) (zQv K)) → zWp X (d + 4) zm6 10 [.ref 158, .ref 22, .int (nI j), .null] [] (zs f g) (zQv K) := fun K hK => by
      apply s6_10_158
      rw [h22, if_neg (nI_ge (by omega) (by omega)), q71_22_2 (by omega), q71_22_0 (by omega), Nat.add_zero, h23, nI_1]
      by_cases eb : a (5 * j) = f 138 11
      · rw [if_pos eb] at hK
        rw [if_pos eb, q20_138, if_neg (by rw [zb_0, h8, hl1, nI_ti (by omega), nI_ti (by omega)]; omega), q71_22_1 (by omega), q71_22_3 (by omega), q71_22_4 (by omega), h23, hl1]
        exact hK
      · rw [if_neg eb] at hK
        rw [if_neg eb]
        exact hK
    have hr : ∀ K : Int32 → (Nat → Nat → Int32) → (Nat → Nat → Int64) → Prop, (if a (5 * j) = f 138 11 then zCpv X (e + 3) 212 [.ref 178, .int (nI (4 * j))] (zs r gr) (fun f3 g4 => zWp X (e + 3) zm211 2 [.ref 178, .int (nI (4 * (j + 1))), .null] [] (zs f3 g4) (zQi K)) else zWp X (e + 3) zm211 2 [.ref 178, .int (nI (4 * (j + 1))), .null] [] (zs r gr) (zQi K)) → zWp X (e + 3) zm211 2 [.ref 178, .int (nI (4 * j)), .null] [] (zs r gr) (zQi K) := fun K hK => by
      apply s211_2_178
      rw [h35, zmO.2, show (4 : Int32) * nI k = nI (4 * k) from pk_mul 4 k, if_neg (nI_ge (by omega) (by omega)), if_neg (nI_in (by omega) (by omega)), nI_cl (by omega), if_neg z0, h196, ← hl0, h11, e4]
      exact hK
    by_cases eb : a (5 * j) = f 138 11
    · obtain ⟨F, R, d1, d2, d3, d4, d5, d6⟩ := dl_158 (X := X) (d := d) (e := e) (gr := gr) (a := a) (b := b) (j := j) (p := p) hn hP hg (by omega) h8 hH hpl h196 hp hl2 hl3
      obtain ⟨F', R', e1, e2, e3, e4', e5, e6⟩ := ih (j + 1) (by omega) F R (by rw [d2 138 (by omega)]; exact h8) (by rw [d2 22 (by omega)]; exact h22) (by rw [d2 23 (by omega)]; exact h23) (by rw [d3 178 (by omega)]; exact h35) (by rw [d3 196 (by omega)]; exact h196) (fun k hk => by rw [d3 197 (by omega)]; exact hpl k hk) d1
      refine ⟨F', R', e1, fun i hi => by rw [e2 i hi, d2 i hi], fun i hi => by rw [e3 i hi, d3 i hi], fun i hi => by rw [e4' i hi, d4 i hi], fun K hK => hc K ?_, fun K hK => hr K ?_⟩
      · rw [if_pos eb, d5]
        exact e5 K hK
      · rw [if_pos eb, d6]
        exact e6 K hK
    · obtain ⟨F', R', e1, e2, e3, e4', e5, e6⟩ := ih (j + 1) (by omega) f r h8 h22 h23 h35 h196 hpl hH
      refine ⟨F', R', e1, e2, e3, e4', fun K hK => hc K ?_, fun K hK => hr K ?_⟩
      · rw [if_neg eb]
        exact e5 K hK
      · rw [if_neg eb]
        exact e6 K hK
end ZST

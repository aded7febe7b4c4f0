/-! the same on the reference's side -/
theorem zpc_z : ∀ k, zpc k 0 = 0
  | 0 => rfl
  | k + 1 => by
    have := zpc_z k
    show 0 % 2 + zpc k (0 / 2) = 0
    rw [Nat.zero_div, this]
theorem zpc_o {i s : Nat} (hi : i < 12) (hs : s < 2 ^ i) : zpc 12 (s ||| 2 ^ i) = zpc 12 s + 1 ∧ (s ||| 2 ^ i) < 2 ^ (i + 1) := by
  have e : s ||| 2 ^ i = 2 ^ i + s := by
    have h := Nat.two_pow_add_eq_or_of_lt hs 1
    rw [Nat.mul_one] at h
    rw [Nat.or_comm]
    exact h.symm
  have h1 := zpc_split i (12 - i) (2 ^ i + s)
  have h2 := zpc_split i (12 - i) s
  have hp : 0 < 2 ^ i := Nat.pow_pos (by omega)
  have d1 : (2 ^ i + s) / 2 ^ i = 1 := by rw [Nat.add_div_left _ hp, Nat.div_eq_of_lt hs]
  have d2 : (2 ^ i + s) % 2 ^ i = s := by rw [Nat.add_mod_left, Nat.mod_eq_of_lt hs]
  have o1 : zpc (12 - i) 1 = 1 := by
    obtain ⟨q, eq⟩ : ∃ q, 12 - i = q + 1 := ⟨12 - i - 1, by omega⟩
    rw [eq]
    show 1 % 2 + zpc q (1 / 2) = 1
    rw [show (1 : Nat) / 2 = 0 from rfl, zpc_z]
  rw [show i + (12 - i) = 12 by omega] at h1 h2
  rw [d1, d2, o1] at h1
  rw [Nat.mod_eq_of_lt hs, Nat.div_eq_of_lt hs, zpc_z] at h2
  rw [e, Nat.pow_succ]
  omega
def zsd2 (N : Nat → Int32) (i c : Nat) : Nat := if N i = -1 then c else c + 1
theorem zsd_pc {N : Nat → Int32} {n : Nat} (hn : n ≤ 12) : zfold (zsd2 N) n 0 0 = zpc 12 (zfold (zso N) n 0 0) := by
  have h : ∀ m i c s, i + m = n → s < 2 ^ i → c = zpc 12 s → zfold (zsd2 N) m i c = zpc 12 (zfold (zso N) m i s) := by
    intro m
    induction m with
    | zero => intro i c s _ _ h; exact h
    | succ m ih =>
      intro i c s hi hs hc
      show zfold (zsd2 N) m (i + 1) (zsd2 N i c) = zpc 12 (zfold (zso N) m (i + 1) (zso N i s))
      unfold zsd2 zso
      by_cases e : N i = -1
      · rw [if_pos e, if_pos e]
        refine ih (i + 1) c s (by omega) ?_ hc
        rw [Nat.pow_succ]; omega
      · rw [if_neg e, if_neg e]
        obtain ⟨h1, h2⟩ := zpc_o (i := i) (s := s) (by omega) hs
        exact ih (i + 1) (c + 1) _ (by omega) h2 (by rw [h1, hc])
  exact h n 0 0 0 (by omega) (by decide) (by rw [zpc_z])
def zSr (f F : Nat → Nat → Int32) : Prop := ∀ i, ¬ i = 198 → ¬ i = 199 → F i = f i
section ZAS
variable {X : Nat × (Nat → Int32)} {d : Nat} {f : Nat → Nat → Int32} {g : Nat → Nat → Int64} {K : Int32 → (Nat → Nat → Int32) → (Nat → Nat → Int64) → Prop} {n P k w p o : Nat} {wl al bl cl : Nat → Nat} {cd : Nat → Int32} {c st un bt pl : Int32} {L E Xs Ys N O A W : Nat → Int32} {B : Int}
theorem q217 {p k : Nat} (hp : p < 12) (hk : k ≤ 12) (h : f 182 (28 + p) = nI k) : zCpi X (d + 1) 217 [.ref 178, .int (nI p)] (zs f g) K = K (zb (¬ k = 0)) f g := by
  refine zCpi_eq (fun K hK => e217_178 ?_)
  rw [nI_l28, if_neg (nI_in (by omega) (by omega)), nI_cl (by omega), h]
  unfold zb at hK
  by_cases e : k = 0
  · rw [if_neg (fun z => z e)] at hK
    subst e
    rw [if_pos (show nI 0 ≤ (0 : Int32) from by decide)]
    simp only [true_or, or_true, false_or, or_false, or_self, and_self, true_and, and_true, not_true_eq_false, not_false_eq_true, ↓reduceIte, eq_self, zq_01, zq_10, zq_m0, zq_m1, zq_0m, zq_1m, zq_2, zq_6, zq_8, zq_10z, zq_12, zq_1000, Int32.reduceLT, Int32.reduceLE, Int32.reduceToInt, Int32.reduceToNatClampNeg, Int32.reduceOfNat, Int.reduceLT, Int.reduceLE, Int.reduceEq, Nat.reduceLeDiff, Nat.reduceEqDiff, zl_2, zl_8, zl_12, zl_50, zl_132, zl_133, zl_134, zl_999, zl_10000]
    exact hK
  · rw [if_pos e] at hK
    rw [if_neg (nI_nle (by omega) (by omega))]
    simp only [true_or, or_true, false_or, or_false, or_self, and_self, true_and, and_true, not_true_eq_false, not_false_eq_true, ↓reduceIte, eq_self, zq_01, zq_10, zq_m0, zq_m1, zq_0m, zq_1m, zq_2, zq_6, zq_8, zq_10z, zq_12, zq_1000, Int32.reduceLT, Int32.reduceLE, Int32.reduceToInt, Int32.reduceToNatClampNeg, Int32.reduceOfNat, Int.reduceLT, Int.reduceLE, Int.reduceEq, Nat.reduceLeDiff, Nat.reduceEqDiff, zl_2, zl_8, zl_12, zl_50, zl_132, zl_133, zl_134, zl_999, zl_10000]
    exact hK
theorem zmm1 {k : Nat} (hk : k ≤ 12) : (nI k - 1 = -1) = (k = 0) := by
  have h : k = 0 ∨ k = 1 ∨ k = 2 ∨ k = 3 ∨ k = 4 ∨ k = 5 ∨ k = 6 ∨ k = 7 ∨ k = 8 ∨ k = 9 ∨ k = 10 ∨ k = 11 ∨ k = 12 := by omega
  rcases h with rfl | rfl | rfl | rfl | rfl | rfl | rfl | rfl | rfl | rfl | rfl | rfl | rfl <;> decide
theorem l219 {Kv : (Nat → Nat → Int32) → (Nat → Nat → Int64) → Prop} (hH : zHal c st un bt L E Xs Ys N O A W (f 182) (f 178 7) (f 183) B) (hc : c = nI n) (hn : n ≤ 12) (hpl : ∀ k, k < 48 → f 197 k = if P.testBit k = true then 1 else 0) (hp : p < n) (ho : o < n) (hK : ∀ r, (∀ j, j < 9 → r j = zVv L E Xs Ys N O W bt n P p o j) → Kv (zrI f 198 r) g) : zCpv X (d + 3) 219 [.ref 178, .int (nI p), .int (nI o)] (zs f g) Kv := by
  obtain ⟨n', hn', h1, h2, h3, h4, h5, h6, h7, h8⟩ := hH
  have en : n' = n := (nI_eq (by omega) (by omega)).mp (h1.symm.trans hc)
  subst en
  obtain ⟨p1, p2, ⟨x1, y1, hx1, hy1, ex1, ey1, es1⟩, ⟨kp, hkp, ekp, ewp⟩, p5, p6, p7, p8, p9, p10, p11⟩ := h8 p hp
  obtain ⟨o1, o2, ⟨x2, y2, hx2, hy2, ex2, ey2, es2⟩, ⟨ko, hko, eko, ewo⟩, o5, o6, o7, o8, o9, o10, o11⟩ := h8 o ho
  apply e219_178
  rw [nI_l16, nI_l16, if_neg (nI_in (by omega) (by omega)), if_neg (nI_in (by omega) (by omega)), nI_cl (k := 16 + p) (by omega), nI_cl (k := 16 + o) (by omega), es1, es2]
  have a1 : nI (8 * y1 + x1) / 8 = nI y1 := by rw [nI_d8 (by omega), show (8 * y1 + x1) / 8 = y1 by omega]
  have a2 : nI (8 * y2 + x2) / 8 = nI y2 := by rw [nI_d8 (by omega), show (8 * y2 + x2) / 8 = y2 by omega]
  have a3 : nI (8 * y1 + x1) - nI y1 * 8 = nI x1 := by
    have := nI_r8 (k := 8 * y1 + x1) (by omega)
    rw [a1, show (8 * y1 + x1) % 8 = x1 by omega] at this
    exact this
  have a4 : nI (8 * y2 + x2) - nI y2 * 8 = nI x2 := by
    have := nI_r8 (k := 8 * y2 + x2) (by omega)
    rw [a2, show (8 * y2 + x2) % 8 = x2 by omega] at this
    exact this
  refine zloop (st := zsd2 N) (W := fun i s => zWp X (d + 2) zm219 27 [.ref 178, .int (nI p), .int (nI o), .int (nI (8 * y1 + x1)), .int (nI (8 * y2 + x2)), .int (nI s), .int (nI i)] [] (zs f g) (zQv Kv)) (E := fun s => s = zpc 12 (zfold (zso N) n' 0 0)) n' ?_ ?_ n' 0 0 (by omega) (zsd_pc hn)
  · intro s hs
    subst hs
    apply s219_27_178
    have z0 : ¬ ((0 : Int32) < 0 ∨ 9 ≤ (0 : Int32).toNatClampNeg) := by decide
    have z1 : ¬ ((1 : Int32) < 0 ∨ 9 ≤ (1 : Int32).toNatClampNeg) := by decide
    have z2 : ¬ ((2 : Int32) < 0 ∨ 9 ≤ (2 : Int32).toNatClampNeg) := by decide
    have z3 : ¬ ((3 : Int32) < 0 ∨ 9 ≤ (3 : Int32).toNatClampNeg) := by decide
    have z4 : ¬ ((4 : Int32) < 0 ∨ 9 ≤ (4 : Int32).toNatClampNeg) := by decide
    have z5 : ¬ ((5 : Int32) < 0 ∨ 9 ≤ (5 : Int32).toNatClampNeg) := by decide
    have z6 : ¬ ((6 : Int32) < 0 ∨ 9 ≤ (6 : Int32).toNatClampNeg) := by decide
    have z7 : ¬ ((7 : Int32) < 0 ∨ 9 ≤ (7 : Int32).toNatClampNeg) := by decide
    have z8 : ¬ ((8 : Int32) < 0 ∨ 9 ≤ (8 : Int32).toNatClampNeg) := by decide
    have zz : ¬ ((0 : Int32) < 0 ∨ 76 ≤ (0 : Int32).toNatClampNeg) := by decide
    rw [h2, if_pos (nI_le (by omega) (by omega))]
    simp only [nI_l4, nI_l28, nI_l40, nI_l64, nI_cl (show 4 + o ≤ 100000 by omega), nI_cl (show 28 + o ≤ 100000 by omega), nI_cl (show 40 + p ≤ 100000 by omega), nI_cl (show 40 + o ≤ 100000 by omega), nI_cl (show 64 + p ≤ 100000 by omega), nI_cl (show p ≤ 100000 by omega), if_neg (nI_in' (c := 4 + o) (N := 76) (by omega) (by omega)), if_neg (nI_in' (c := 28 + o) (N := 76) (by omega) (by omega)), if_neg (nI_in' (c := 40 + p) (N := 76) (by omega) (by omega)), if_neg (nI_in' (c := 40 + o) (N := 76) (by omega) (by omega)), if_neg (nI_in' (c := 64 + p) (N := 76) (by omega) (by omega)), if_neg (nI_in' (c := p) (N := 12) (by omega) (by omega)), if_neg z0, if_neg z1, if_neg z2, if_neg z3, if_neg z4, if_neg z5, if_neg z6, if_neg z7, if_neg z8, if_neg zz, zq_8, if_false, q220, zsO.2, zrO.2, zdO.2, a1, a2, a3, a4, zi_ne, Nat.reduceEqDiff, not_false_eq_true]
    rw [q221 (P := P) hx1 hx2 hy1 hy2 (fun k hk => by simp only [zi_ne, Nat.reduceEqDiff, not_false_eq_true]; exact hpl k hk)]
    simp only [q220, zi_ne, Nat.reduceEqDiff, not_false_eq_true]
    have e0 : f = zrI f 198 (f 198) := zr_id.symm
    have e1 : ∀ F : Nat → Nat → Int32, zuI F 198 0 = zuI F 198 0 := fun _ => rfl
    rw [show zuI f 198 0 (f 182 (4 + o)) = zrI f 198 (zup (f 198) 0 (f 182 (4 + o))) by conv => lhs; rw [e0]
                                                                                        exact zr_up]
    simp only [zr_up]
    refine hK _ (fun j hj => ?_)
    have tx1 : (Xs p).toInt.toNat = x1 := by rw [ex1, nI_ti (by omega)]; omega
    have tx2 : (Xs o).toInt.toNat = x2 := by rw [ex2, nI_ti (by omega)]; omega
    have ty1 : (Ys p).toInt.toNat = y1 := by rw [ey1, nI_ti (by omega)]; omega
    have ty2 : (Ys o).toInt.toNat = y2 := by rw [ey2, nI_ti (by omega)]; omega
    have hh : j = 0 ∨ j = 1 ∨ j = 2 ∨ j = 3 ∨ j = 4 ∨ j = 5 ∨ j = 6 ∨ j = 7 ∨ j = 8 := by omega
    unfold zVv zup
    rw [tx1, tx2, ty1, ty2]
    rcases hh with rfl | rfl | rfl | rfl | rfl | rfl | rfl | rfl | rfl
    all_goals simp only [Nat.reduceEqDiff, ↓reduceIte, o1, p2, ex1, ex2, ey1, ey2, p5, o5, eko, ewo, p9, h5]
  · intro i s hi hs
    obtain ⟨q1, q2, q3, ⟨ki, hki, eki, ewi⟩, q5⟩ := h8 i hi
    apply s219_27_178
    rw [h2, if_neg (nI_ge (by omega) (by omega)), q217 (by omega) hki ewi]
    simp only [zb_0, nI_1]
    unfold zsd2 at hs
    simp only [eki, zmm1 hki] at hs
    by_cases e : ki = 0
    · rw [if_pos e] at hs
      rw [if_pos (fun z => z e)]
      exact hs
    · rw [if_neg e] at hs
      rw [if_neg (fun z => z e)]
      exact hs
theorem l218 (hH : zHal c st un bt L E Xs Ys N O A W (f 182) (f 178 7) (f 183) B) (hc : c = nI n) (hn : n ≤ 12) (hpl : ∀ k, k < 48 → f 197 k = if P.testBit k = true then 1 else 0) (hL : zLj f cd k wl al bl cl) (hp : p < n) (ho : o < n) (hK : ∀ F, zSr f F → K (zLa cd wl al bl cl k 0 (zVv L E Xs Ys N O W bt n P p o)) F g) : zCpi X (d + 5) 218 [.ref 178, .int (nI p), .int (nI o)] (zs f g) K := by
  apply e218_178
  refine l219 (n := n) (P := P) hH hc hn hpl hp ho (fun r hr => ?_)
  have z0 : ¬ ((0 : Int32) < 0 ∨ 9 ≤ (0 : Int32).toNatClampNeg) := by decide
  have z1 : ¬ ((1 : Int32) < 0 ∨ 9 ≤ (1 : Int32).toNatClampNeg) := by decide
  have z2 : ¬ ((2 : Int32) < 0 ∨ 9 ≤ (2 : Int32).toNatClampNeg) := by decide
  have z3 : ¬ ((3 : Int32) < 0 ∨ 9 ≤ (3 : Int32).toNatClampNeg) := by decide
  simp only [if_neg z0, if_neg z1, if_neg z2, if_neg z3, zsO.2, zmO.2, zr_ati, zl_999]
  refine l224 (d := d) (w := 0) (cd := cd) (v1 := zVv L E Xs Ys N O W bt n P p o) (k := k) (wl := wl) (al := al) (bl := bl) (cl := cl) ?_ (fun j hj => by rw [zr_ati]; exact hr j hj) (by omega) (fun r2 => ?_)
  · obtain ⟨l1, l2, l3⟩ := hL
    unfold zLj
    simp only [zr_ne (show ¬ 187 = 198 by omega), zr_ne (show ¬ 188 = 198 by omega), zr_ne (show ¬ 189 = 198 by omega), zr_ne (show ¬ 190 = 198 by omega), zr_ne (show ¬ 191 = 198 by omega), zr_ne (show ¬ 192 = 198 by omega), zr_ne (show ¬ 193 = 198 by omega)]
    exact ⟨l1, l2, l3⟩
  · have hz := hK (zrI (zrI f 198 r) 199 r2) (fun i a b => by rw [zr_ne b, zr_ne a])
    unfold zLa at hz
    rw [← zdf_v (w := 0) hr] at hz
    exact hz
theorem l231 (hH : zHal c st un bt L E Xs Ys N O A W (f 182) (f 178 7) (f 183) B) (hc : c = nI n) (hn : n ≤ 12) (hpl : ∀ k, k < 48 → f 197 k = if P.testBit k = true then 1 else 0) (hL : zLj f cd k wl al bl cl) (hp : p < n) (ho : o < n) (hK : ∀ F, zSr f F → K (zLa cd wl al bl cl k 1 (zVv L E Xs Ys N O W bt n P p o)) F g) : zCpi X (d + 5) 231 [.ref 178, .int (nI p), .int (nI o)] (zs f g) K := by
  apply e231_178
  refine l219 (n := n) (P := P) hH hc hn hpl hp ho (fun r hr => ?_)
  have z0 : ¬ ((0 : Int32) < 0 ∨ 9 ≤ (0 : Int32).toNatClampNeg) := by decide
  have z1 : ¬ ((1 : Int32) < 0 ∨ 9 ≤ (1 : Int32).toNatClampNeg) := by decide
  have z2 : ¬ ((2 : Int32) < 0 ∨ 9 ≤ (2 : Int32).toNatClampNeg) := by decide
  have z3 : ¬ ((3 : Int32) < 0 ∨ 9 ≤ (3 : Int32).toNatClampNeg) := by decide
  simp only [if_neg z0, if_neg z1, if_neg z2, if_neg z3, zsO.2, zmO.2, zr_ati, zl_999]
  refine l224 (d := d) (w := 1) (cd := cd) (v1 := zVv L E Xs Ys N O W bt n P p o) (k := k) (wl := wl) (al := al) (bl := bl) (cl := cl) ?_ (fun j hj => by rw [zr_ati]; exact hr j hj) (by omega) (fun r2 => ?_)
  · obtain ⟨l1, l2, l3⟩ := hL
    unfold zLj
    simp only [zr_ne (show ¬ 187 = 198 by omega), zr_ne (show ¬ 188 = 198 by omega), zr_ne (show ¬ 189 = 198 by omega), zr_ne (show ¬ 190 = 198 by omega), zr_ne (show ¬ 191 = 198 by omega), zr_ne (show ¬ 192 = 198 by omega), zr_ne (show ¬ 193 = 198 by omega)]
    exact ⟨l1, l2, l3⟩
  · have hz := hK (zrI (zrI f 198 r) 199 r2) (fun i a b => by rw [zr_ne b, zr_ne a])
    unfold zLa at hz
    rw [← zdf_v (w := 1) hr] at hz
    exact hz
theorem l230 (hH : zHal c st un bt L E Xs Ys N O A W (f 182) (f 178 7) (f 183) B) (hc : c = nI n) (hn : n ≤ 12) (hpl : ∀ k, k < 48 → f 197 k = if P.testBit k = true then 1 else 0) (hL : zLj f cd k wl al bl cl) (hp : p < n) (ho : o < n) (hK : ∀ F, zSr f F → K (zLa cd wl al bl cl k 2 (zVv L E Xs Ys N O W bt n P p o)) F g) : zCpi X (d + 5) 230 [.ref 178, .int (nI p), .int (nI o)] (zs f g) K := by
  apply e230_178
  refine l219 (n := n) (P := P) hH hc hn hpl hp ho (fun r hr => ?_)
  have z0 : ¬ ((0 : Int32) < 0 ∨ 9 ≤ (0 : Int32).toNatClampNeg) := by decide
  have z1 : ¬ ((1 : Int32) < 0 ∨ 9 ≤ (1 : Int32).toNatClampNeg) := by decide
  have z2 : ¬ ((2 : Int32) < 0 ∨ 9 ≤ (2 : Int32).toNatClampNeg) := by decide
  have z3 : ¬ ((3 : Int32) < 0 ∨ 9 ≤ (3 : Int32).toNatClampNeg) := by decide
  simp only [if_neg z0, if_neg z1, if_neg z2, if_neg z3, zsO.2, zmO.2, zr_ati, zl_999]
  refine l224 (d := d) (w := 2) (cd := cd) (v1 := zVv L E Xs Ys N O W bt n P p o) (k := k) (wl := wl) (al := al) (bl := bl) (cl := cl) ?_ (fun j hj => by rw [zr_ati]; exact hr j hj) (by omega) (fun r2 => ?_)
  · obtain ⟨l1, l2, l3⟩ := hL
    unfold zLj
    simp only [zr_ne (show ¬ 187 = 198 by omega), zr_ne (show ¬ 188 = 198 by omega), zr_ne (show ¬ 189 = 198 by omega), zr_ne (show ¬ 190 = 198 by omega), zr_ne (show ¬ 191 = 198 by omega), zr_ne (show ¬ 192 = 198 by omega), zr_ne (show ¬ 193 = 198 by omega)]
    exact ⟨l1, l2, l3⟩
  · have hz := hK (zrI (zrI f 198 r) 199 r2) (fun i a b => by rw [zr_ne b, zr_ne a])
    unfold zLa at hz
    rw [← zdf_v (w := 2) hr] at hz
    exact hz
end ZAS

/-! undo, act -/
set_option maxHeartbeats 1000000 in
theorem op_undo {X : Nat × (Nat → Int32)} {d : Nat} : zOp X (d + 3) 158 162 [] := by
  intro fc fr gc gr hR
  obtain ⟨⟨c1, c2, c3, c4, c5, c6, c7, c8, c9, c10, c11⟩, c12, c13, c14, c15, c16⟩ := hR
  obtain ⟨s, p, mm, a1, a2, a3, a4, a5, a6, a6', a7⟩ := id c14
  cases s with
  | zero =>
    apply e158_0
    simp only [q46_0 a3, true_or, or_true, false_or, or_false, or_self, and_self, true_and, and_true, not_true_eq_false, not_false_eq_true, ↓reduceIte, eq_self, zq_01, zq_10, zq_m0, zq_m1, zq_0m, zq_1m, zq_2, zq_6, zq_8, zq_10z, zq_12, zq_1000, Int32.reduceLT, Int32.reduceLE, Int32.reduceToInt, Int32.reduceToNatClampNeg, Int32.reduceOfNat, Int.reduceLT, Int.reduceLE, Int.reduceEq, Nat.reduceLeDiff, Nat.reduceEqDiff, zl_2, zl_8, zl_12, zl_50, zl_132, zl_133, zl_134, zl_999, zl_10000]
    apply e162_178
    rw [a4, if_pos (show nI 0 = (0 : Int32) from rfl)]
    simp only [true_or, or_true, false_or, or_false, or_self, and_self, true_and, and_true, not_true_eq_false, not_false_eq_true, ↓reduceIte, eq_self, zq_01, zq_10, zq_m0, zq_m1, zq_0m, zq_1m, zq_2, zq_6, zq_8, zq_10z, zq_12, zq_1000, Int32.reduceLT, Int32.reduceLE, Int32.reduceToInt, Int32.reduceToNatClampNeg, Int32.reduceOfNat, Int.reduceLT, Int.reduceLE, Int.reduceEq, Nat.reduceLeDiff, Nat.reduceEqDiff, zl_2, zl_8, zl_12, zl_50, zl_132, zl_133, zl_134, zl_999, zl_10000]
    refine ⟨rfl, ?_⟩
    refine ⟨⟨?_, ?_, ?_, ?_, ?_, ?_, ?_, ?_, ?_, ?_, ?_⟩, ?_, ?_, ?_, ?_, ?_⟩
    all_goals try (first | assumption | (simp only [zi_ne, zi_at, zr_ne, zr_at, zj_ne, zj_at, ↓reduceIte, Nat.reduceEqDiff, not_false_eq_true, eq_self, nI_1]; assumption) | (simp only [zi_ne, zi_at, zr_ne, zr_at, zj_ne, zj_at, ↓reduceIte, Nat.reduceEqDiff, not_false_eq_true, eq_self, nI_1]; exact zRow_nil) | (exact zPas_frame (fun i _ _ => by first | rfl | (repeat rw [zi_ne (by omega)])) (by first | rfl | (simp only [zi_ne, zi_at, zr_ne, zr_at, zj_ne, zj_at, ↓reduceIte, Nat.reduceEqDiff, not_false_eq_true, eq_self, nI_1])) (fun i _ _ => rfl) rfl (by first | rfl | (simp only [zi_ne, zi_at, zr_ne, zr_at, zj_ne, zj_at, ↓reduceIte, Nat.reduceEqDiff, not_false_eq_true, eq_self, nI_1])) (by first | rfl | (simp only [zi_ne, zi_at, zr_ne, zr_at, zj_ne, zj_at, ↓reduceIte, Nat.reduceEqDiff, not_false_eq_true, eq_self, nI_1])) (by first | rfl | (simp only [zi_ne, zi_at, zr_ne, zr_at, zj_ne, zj_at, ↓reduceIte, Nat.reduceEqDiff, not_false_eq_true, eq_self, nI_1])) (by first | rfl | (simp only [zi_ne, zi_at, zr_ne, zr_at, zj_ne, zj_at, ↓reduceIte, Nat.reduceEqDiff, not_false_eq_true, eq_self, nI_1])) c14) | (exact zIma_frame (by first | rfl | (simp only [zi_ne, zi_at, zr_ne, zr_at, zj_ne, zj_at, ↓reduceIte, Nat.reduceEqDiff, not_false_eq_true, eq_self, nI_1])) (fun i _ _ => by first | rfl | (repeat rw [zi_ne (by omega)])) rfl (by first | rfl | (simp only [zi_ne, zi_at, zr_ne, zr_at, zj_ne, zj_at, ↓reduceIte, Nat.reduceEqDiff, not_false_eq_true, eq_self, nI_1])) (by first | rfl | (simp only [zi_ne, zi_at, zr_ne, zr_at, zj_ne, zj_at, ↓reduceIte, Nat.reduceEqDiff, not_false_eq_true, eq_self, nI_1])) c15))
  | succ s =>
    obtain ⟨q, b1, b2, b3, b4, b5, b6⟩ := a7 0 (by omega)
    rw [Nat.zero_add] at b4 b5 b6
    rw [Nat.sub_zero] at b1
    have hq : q < 6 := by rw [b1]; exact Nat.mod_lt _ (by omega)
    obtain ⟨n, hn, h1, h2, h3, h4, h5, h6, h7, h8⟩ := id c9
    obtain ⟨kb, hkb, w1, w2, w3⟩ := id c11
    have ebb : mm 0 = kb := (nI_eq (by omega) (by omega)).mp (a6.symm.trans w1)
    apply e158_0
    simp only [q46 (show s < 6 by omega) a2 a3 a5, ← b1, true_or, or_true, false_or, or_false, or_self, and_self, true_and, and_true, not_true_eq_false, not_false_eq_true, ↓reduceIte, eq_self, zq_01, zq_10, zq_m0, zq_m1, zq_0m, zq_1m, zq_2, zq_6, zq_8, zq_10z, zq_12, zq_1000, Int32.reduceLT, Int32.reduceLE, Int32.reduceToInt, Int32.reduceToNatClampNeg, Int32.reduceOfNat, Int.reduceLT, Int.reduceLE, Int.reduceEq, Nat.reduceLeDiff, Nat.reduceEqDiff, zl_2, zl_8, zl_12, zl_50, zl_132, zl_133, zl_134, zl_999, zl_10000]
    apply e162_178
    rw [a4, if_neg (show ¬ nI (s + 1) = (0 : Int32) from nI_neq (c := 0) (by omega) (by omega) (by omega)), zsO.2, nI_pred]
    have z := l162 (X := X) (d := d + 2) (f := zuI (zuI fr 178 0 0) 178 3 (nI s)) (g := gr) (s := s) (K' := fun r' f2 _ => zAn r' 1 ∧ zRel (zuI (zHc (zuI (zuI fc 81 2 (nI q)) 81 3 (nI s)) 2 (84 + 9 * q)) 11 1 (fc 83 q)) (zuL gc 2 12 (gc (84 + 9 * q) 12)) f2) (by omega) (by simp only [zi_ne, zi_at, zr_ne, zr_at, zj_ne, zj_at, ↓reduceIte, Nat.reduceEqDiff, not_false_eq_true, eq_self, nI_1]) ?_ 76 0 (by omega)
    · rw [zCz_0] at z
      exact z
    refine ⟨rfl, ?_⟩
    have fn : ∀ i, ¬ (2 ≤ i ∧ i ≤ 10) → ¬ i = 81 → ¬ i = 11 → zuI (zHc (zuI (zuI fc 81 2 (nI q)) 81 3 (nI s)) 2 (84 + 9 * q)) 11 1 (fc 83 q) i = fc i := fun i i1 i2 i3 => by
      rw [zi_ne i3, zHc_ne (by omega), zi_ne i2, zi_ne i2]
    have fo : ∀ j, 0 < j → j ≤ 8 → ∀ k, k < 12 → zuI (zHc (zuI (zuI fc 81 2 (nI q)) 81 3 (nI s)) 2 (84 + 9 * q)) 11 1 (fc 83 q) (2 + j) k = fc (84 + 9 * q + j) k := fun j j0 j8 k hk => by
      rw [zi_ne (by omega), zHc_r j0 j8 hk, zi_ne (by omega), zi_ne (by omega)]
    have fp : ∀ k, 8 ≤ k ∧ k < 12 → zuI (zHc (zuI (zuI fc 81 2 (nI q)) 81 3 (nI s)) 2 (84 + 9 * q)) 11 1 (fc 83 q) 2 k = fc (84 + 9 * q) k := fun k hk => by
      rw [zi_ne (by omega), zHc_o hk, zi_ne (by omega), zi_ne (by omega)]
    have f11 : zuI (zHc (zuI (zuI fc 81 2 (nI q)) 81 3 (nI s)) 2 (84 + 9 * q)) 11 1 (fc 83 q) 11 1 = nI (mm 1) := by rw [zi_at, if_pos rfl]; exact b4
    have f81 : ∀ k, zuI (zHc (zuI (zuI fc 81 2 (nI q)) 81 3 (nI s)) 2 (84 + 9 * q)) 11 1 (fc 83 q) 81 k = if k = 3 then nI s else if k = 2 then nI q else fc 81 k := fun k => by
      rw [zi_ne (by omega), zHc_ne (by omega), zi_at, zi_at]
    have rn : ∀ i, ¬ i = 179 → ¬ i = 178 → zCz (zuI (zuI fr 178 0 0) 178 3 (nI s)) 179 0 180 (76 * s) 76 i = fr i := fun i i1 i2 => by
      rw [zCz_ne i1, zi_ne i2, zi_ne i2]
    have ro : ∀ k, ¬ k = 0 → ¬ k = 3 → zCz (zuI (zuI fr 178 0 0) 178 3 (nI s)) 179 0 180 (76 * s) 76 178 k = fr 178 k := fun k k1 k2 => by
      rw [zCz_ne (by omega), zi_at, if_neg k2, zi_at, if_neg k1]
    have r3 : zCz (zuI (zuI fr 178 0 0) 178 3 (nI s)) 179 0 180 (76 * s) 76 178 3 = nI s := by
      rw [zCz_ne (by omega), zi_at, if_pos rfl]
    have rw' : ∀ k, k < 76 → zCz (zuI (zuI fr 178 0 0) 178 3 (nI s)) 179 0 180 (76 * s) 76 179 k = fr 180 (76 * s + k) := fun k hk => by
      rw [zCz_at, if_pos (by omega), zi_ne (by omega), zi_ne (by omega)]
      rfl
    have hg2 : ∀ i, ¬ i = 2 → zuL gc 2 12 (gc (84 + 9 * q) 12) i = gc i := fun i hi => zj_ne hi
    have hg0 : zuL gc 2 12 (gc (84 + 9 * q) 12) 2 12 = gc 2 12 := by rw [zj_at, if_pos rfl]; exact b3
    generalize zuI (zHc (zuI (zuI fc 81 2 (nI q)) 81 3 (nI s)) 2 (84 + 9 * q)) 11 1 (fc 83 q) = F at *
    generalize zCz (zuI (zuI fr 178 0 0) 178 3 (nI s)) 179 0 180 (76 * s) 76 = R at *
    generalize zuL gc 2 12 (gc (84 + 9 * q) 12) = G at *
    have e0 : s + 1 - 1 - 0 = s := by omega
    rw [e0] at b2 b5
    refine ⟨⟨?_, ?_, ?_, ?_, ?_, ?_, ?_, ?_, ?_, ?_, ?_⟩, ?_, ?_, ?_, ?_, ?_⟩
    · rw [fn 27 (by omega) (by omega) (by omega), fn 28 (by omega) (by omega) (by omega), ro 46 (by omega) (by omega), rn 204 (by omega) (by omega)]; exact c1
    · rw [fn 25 (by omega) (by omega) (by omega), fn 26 (by omega) (by omega) (by omega), ro 44 (by omega) (by omega), rn 203 (by omega) (by omega)]; exact c2
    · rw [fn 29 (by omega) (by omega) (by omega), fn 30 (by omega) (by omega) (by omega), ro 49 (by omega) (by omega), rn 206 (by omega) (by omega)]; exact c3
    · rw [fn 31 (by omega) (by omega) (by omega), fn 32 (by omega) (by omega) (by omega), ro 52 (by omega) (by omega), rn 208 (by omega) (by omega)]; exact c4
    · rw [fn 24 (by omega) (by omega) (by omega), rn 201 (by omega) (by omega)]; exact c5
    · rw [fn 13 (by omega) (by omega) (by omega), fn 14 (by omega) (by omega) (by omega), fn 15 (by omega) (by omega) (by omega), fn 16 (by omega) (by omega) (by omega), fn 17 (by omega) (by omega) (by omega), fn 18 (by omega) (by omega) (by omega), rn 187 (by omega) (by omega), rn 188 (by omega) (by omega), rn 189 (by omega) (by omega), rn 190 (by omega) (by omega), rn 191 (by omega) (by omega), rn 192 (by omega) (by omega), rn 193 (by omega) (by omega)]; exact c6
    · rw [fn 20 (by omega) (by omega) (by omega), fn 21 (by omega) (by omega) (by omega), ro 33 (by omega) (by omega), rn 195 (by omega) (by omega)]; exact c7
    · rw [fn 22 (by omega) (by omega) (by omega), fn 23 (by omega) (by omega) (by omega), ro 35 (by omega) (by omega), ro 7 (by omega) (by omega), rn 196 (by omega) (by omega)]; exact c8
    · rw [fp 8 (by omega), fp 9 (by omega), fp 10 (by omega), fp 11 (by omega), ro 7 (by omega) (by omega), rn 183 (by omega) (by omega)]
      refine zHal_rows ?_ ?_ ?_ ?_ ?_ ?_ ?_ ?_ (fun k hk => rw' k hk) b2
      · intro k hk; rw [show 85 + 9 * q = 84 + 9 * q + 1 by omega]; exact fo 1 (by omega) (by omega) k hk
      · intro k hk; rw [show 86 + 9 * q = 84 + 9 * q + 2 by omega]; exact fo 2 (by omega) (by omega) k hk
      · intro k hk; rw [show 87 + 9 * q = 84 + 9 * q + 3 by omega]; exact fo 3 (by omega) (by omega) k hk
      · intro k hk; rw [show 88 + 9 * q = 84 + 9 * q + 4 by omega]; exact fo 4 (by omega) (by omega) k hk
      · intro k hk; rw [show 89 + 9 * q = 84 + 9 * q + 5 by omega]; exact fo 5 (by omega) (by omega) k hk
      · intro k hk; rw [show 90 + 9 * q = 84 + 9 * q + 6 by omega]; exact fo 6 (by omega) (by omega) k hk
      · intro k hk; rw [show 91 + 9 * q = 84 + 9 * q + 7 by omega]; exact fo 7 (by omega) (by omega) k hk
      · intro k hk; rw [show 92 + 9 * q = 84 + 9 * q + 8 by omega]; exact fo 8 (by omega) (by omega) k hk
    · rw [hg0, rn 197 (by omega) (by omega), fn 1 (by omega) (by omega) (by omega), ro 37 (by omega) (by omega)]; exact c10
    · rw [f11, fn 12 (by omega) (by omega) (by omega), rn 184 (by omega) (by omega), rw' 2 (by omega), b5]
      exact ⟨mm 1, by omega, rfl, rfl, fun j hj => w3 j (by omega)⟩
    · rw [fn 65 (by omega) (by omega) (by omega), fn 66 (by omega) (by omega) (by omega), ro 11 (by omega) (by omega), rn 185 (by omega) (by omega)]; exact c12
    · rw [fn 70 (by omega) (by omega) (by omega), ro 31 (by omega) (by omega), ro 32 (by omega) (by omega)]; exact c13
    · refine ⟨s, q, fun j => mm (j + 1), by omega, hq, by rw [f81, if_pos rfl], r3, by rw [f81, if_neg (by omega), if_pos rfl], f11, by show mm 1 ≤ 150; omega, fun j hj => ?_⟩
      obtain ⟨q', d1, d2, d3, d4, d5, d6⟩ := a7 (j + 1) (by omega)
      have hq' : q' < 6 := by rw [d1]; exact Nat.mod_lt _ (by omega)
      have ej : s + 1 - 1 - (j + 1) = s - 1 - j := by omega
      rw [ej] at d2 d5
      refine ⟨q', by omega, ?_, ?_, ?_, ?_, d6⟩
      · rw [fn (84 + 9 * q') (by omega) (by omega) (by omega), fn (85 + 9 * q') (by omega) (by omega) (by omega), fn (86 + 9 * q') (by omega) (by omega) (by omega), fn (87 + 9 * q') (by omega) (by omega) (by omega), fn (88 + 9 * q') (by omega) (by omega) (by omega), fn (89 + 9 * q') (by omega) (by omega) (by omega), fn (90 + 9 * q') (by omega) (by omega) (by omega), fn (91 + 9 * q') (by omega) (by omega) (by omega), fn (92 + 9 * q') (by omega) (by omega) (by omega), ro 7 (by omega) (by omega), rn 183 (by omega) (by omega), rn 180 (by omega) (by omega)]
        exact d2
      · rw [hg2 _ (by omega), hg0]; exact d3
      · rw [fn 83 (by omega) (by omega) (by omega)]; exact d4
      · rw [rn 180 (by omega) (by omega)]; exact d5
    · exact zIma_frame (by rw [fn 0 (by omega) (by omega) (by omega)]) (fun i i1 i2 => fn i (by omega) (by omega) (by omega)) (by rw [hg2 34 (by omega)]) (rn 211 (by omega) (by omega)) (ro 57 (by omega) (by omega)) c15
    · rw [fn 147 (by omega) (by omega) (by omega), fn 158 (by omega) (by omega) (by omega), ro 5 (by omega) (by omega), rn 186 (by omega) (by omega)]; exact c16

/-! act -/
theorem zRel_keep {fc fr : Nat → Nat → Int32} {gc : Nat → Nat → Int64} {s p : Nat} (hs : s ≤ 6) (hp : p < 6) (h3 : fc 81 3 = nI s) (h2 : fc 81 2 = nI p) (hR : zRel fc gc fr) : zRel (zuI (zuI (zuI (zHc fc (84 + 9 * p) 2) 83 p (fc 11 1)) 81 2 (nI ((p + 1) % 6))) 81 3 (nI (min 6 (s + 1)))) (zuL gc (84 + 9 * p) 12 (gc 2 12)) (zKr fr s) := by
  obtain ⟨⟨c1, c2, c3, c4, c5, c6, c7, c8, c9, c10, c11⟩, c12, c13, c14, c15, c16⟩ := hR
  obtain ⟨kb, hkb, w1, w2, w3⟩ := id c11
  have fn : ∀ i, ¬ (81 ≤ i ∧ i ≤ 137) → zuI (zuI (zuI (zHc fc (84 + 9 * p) 2) 83 p (fc 11 1)) 81 2 (nI ((p + 1) % 6))) 81 3 (nI (min 6 (s + 1))) i = fc i := fun i hi => by
    rw [zi_ne (by omega), zi_ne (by omega), zi_ne (by omega), zHc_ne (by omega)]
  have hP := zPas_keep (f2 := zuI (zuI (zuI (zHc fc (84 + 9 * p) 2) 83 p (fc 11 1)) 81 2 (nI ((p + 1) % 6))) 81 3 (nI (min 6 (s + 1)))) (g2 := zuL gc (84 + 9 * p) 12 (gc 2 12)) (r2 := zKr fr s) h3 h2 hs hp w1 w2 c9 (fun _ _ _ => rfl) (fun _ _ => rfl) (fn 11 (by omega) ▸ rfl) rfl rfl (zKr_o (by omega)) (zKr_ne (by omega) (by omega)) c14
  have rn : ∀ i, ¬ i = 180 → ¬ i = 178 → zKr fr s i = fr i := fun i i1 i2 => zKr_ne i1 i2
  have ro : ∀ k, ¬ k = 3 → zKr fr s 178 k = fr 178 k := fun k k1 => zKr_o k1
  have gn : ∀ i, ¬ (84 ≤ i ∧ i ≤ 129) → zuL gc (84 + 9 * p) 12 (gc 2 12) i = gc i := fun i hi => zj_ne (by omega)
  generalize zuI (zuI (zuI (zHc fc (84 + 9 * p) 2) 83 p (fc 11 1)) 81 2 (nI ((p + 1) % 6))) 81 3 (nI (min 6 (s + 1))) = F at *
  generalize zKr fr s = R at *
  generalize zuL gc (84 + 9 * p) 12 (gc 2 12) = G at *
  refine ⟨⟨?_, ?_, ?_, ?_, ?_, ?_, ?_, ?_, ?_, ?_, ?_⟩, ?_, ?_, hP, ?_, ?_⟩
  · rw [fn 27 (by omega), fn 28 (by omega), ro 46 (by omega), rn 204 (by omega) (by omega)]; exact c1
  · rw [fn 25 (by omega), fn 26 (by omega), ro 44 (by omega), rn 203 (by omega) (by omega)]; exact c2
  · rw [fn 29 (by omega), fn 30 (by omega), ro 49 (by omega), rn 206 (by omega) (by omega)]; exact c3
  · rw [fn 31 (by omega), fn 32 (by omega), ro 52 (by omega), rn 208 (by omega) (by omega)]; exact c4
  · rw [fn 24 (by omega), rn 201 (by omega) (by omega)]; exact c5
  · rw [fn 13 (by omega), fn 14 (by omega), fn 15 (by omega), fn 16 (by omega), fn 17 (by omega), fn 18 (by omega), rn 187 (by omega) (by omega), rn 188 (by omega) (by omega), rn 189 (by omega) (by omega), rn 190 (by omega) (by omega), rn 191 (by omega) (by omega), rn 192 (by omega) (by omega), rn 193 (by omega) (by omega)]; exact c6
  · rw [fn 20 (by omega), fn 21 (by omega), ro 33 (by omega), rn 195 (by omega) (by omega)]; exact c7
  · rw [fn 22 (by omega), fn 23 (by omega), ro 35 (by omega), ro 7 (by omega), rn 196 (by omega) (by omega)]; exact c8
  · rw [fn 2 (by omega), fn 3 (by omega), fn 4 (by omega), fn 5 (by omega), fn 6 (by omega), fn 7 (by omega), fn 8 (by omega), fn 9 (by omega), fn 10 (by omega), ro 7 (by omega), rn 183 (by omega) (by omega), rn 179 (by omega) (by omega)]; exact c9
  · rw [gn 2 (by omega), rn 197 (by omega) (by omega), fn 1 (by omega), ro 37 (by omega)]; exact c10
  · rw [fn 11 (by omega), fn 12 (by omega), rn 184 (by omega) (by omega), rn 179 (by omega) (by omega)]; exact c11
  · rw [fn 65 (by omega), fn 66 (by omega), ro 11 (by omega), rn 185 (by omega) (by omega)]; exact c12
  · rw [fn 70 (by omega), ro 31 (by omega), ro 32 (by omega)]; exact c13
  · exact zIma_frame (by rw [fn 0 (by omega)]) (fun i i1 i2 => fn i (by omega)) (by rw [gn 34 (by omega)]) (rn 211 (by omega) (by omega)) (ro 57 (by omega)) c15
  · rw [fn 147 (by omega), fn 158 (by omega), ro 5 (by omega), rn 186 (by omega) (by omega)]; exact c16
/-- a player's seat changes -/
theorem zHal_XY {c st un bt pl : Int32} {L E Xs Ys N O A W w er Xs2 Ys2 w2 : Nat → Int32} {B : Int} {p x y : Nat} (hp : p < 12) (hx : x < 8) (hy : y < 6) (hX : ∀ j, Xs2 j = if j = p then nI x else Xs j) (hY : ∀ j, Ys2 j = if j = p then nI y else Ys j) (hw : ∀ j, w2 j = if j = 16 + p then nI (8 * y + x) else w j) (h : zHal c st un bt L E Xs Ys N O A W w pl er B) : zHal c st un bt L E Xs2 Ys2 N O A W w2 pl er B := by
  obtain ⟨n, hn, h1, h2, h3, h4, h5, h6, h7, h8⟩ := h
  have hw0 : ∀ j, ¬ j = 16 + p → w2 j = w j := fun j hj => by rw [hw, if_neg hj]
  refine ⟨n, hn, h1, h2, by rw [hw0 1 (by omega)]; exact h3, by rw [hw0 3 (by omega)]; exact h4, by rw [hw0 0 (by omega)]; exact h5, by rw [hw0 0 (by omega)]; exact h6, by rw [hw0 0 (by omega)]; exact h7, fun q hq => ?_⟩
  have hh := h8 q hq
  rw [hw0 (4 + q) (by omega), hw0 (28 + q) (by omega), hw0 (40 + q) (by omega), hw0 (52 + q) (by omega), hw0 (64 + q) (by omega), hw0 0 (by omega)]
  refine ⟨hh.1, hh.2.1, ?_, hh.2.2.2⟩
  by_cases e : q = p
  · rw [hw, hX, hY, if_pos e, if_pos e, if_pos (by omega)]
    exact ⟨x, y, hx, hy, rfl, rfl, rfl⟩
  · rw [hw0 (16 + q) (by omega), hX, hY, if_neg e, if_neg e]
    exact hh.2.2.1
/-- a player's note changes, after nobody -/
theorem zHal_N {c st un bt pl : Int32} {L E Xs Ys N O A W w er N2 A2 w2 : Nat → Int32} {B : Int} {p k : Nat} (hp : p < 12) (hk : k ≤ 12) (hX : ∀ j, N2 j = if j = p then nI k - 1 else N j) (hY : ∀ j, A2 j = if j = p then -1 else A j) (hw : ∀ j, w2 j = if j = 52 + p then 0 else if j = 28 + p then nI k else w j) (h : zHal c st un bt L E Xs Ys N O A W w pl er B) : zHal c st un bt L E Xs Ys N2 O A2 W w2 pl er B := by
  obtain ⟨n, hn, h1, h2, h3, h4, h5, h6, h7, h8⟩ := h
  have hw0 : ∀ j, ¬ j = 28 + p → ¬ j = 52 + p → w2 j = w j := fun j hj hj2 => by rw [hw, if_neg hj2, if_neg hj]
  have hm : (-1 : Int32) = nI 0 - 1 := by decide
  refine ⟨n, hn, h1, h2, by rw [hw0 1 (by omega) (by omega)]; exact h3, by rw [hw0 3 (by omega) (by omega)]; exact h4, by rw [hw0 0 (by omega) (by omega)]; exact h5, by rw [hw0 0 (by omega) (by omega)]; exact h6, by rw [hw0 0 (by omega) (by omega)]; exact h7, fun q hq => ?_⟩
  have hh := h8 q hq
  rw [hw0 (4 + q) (by omega) (by omega), hw0 (16 + q) (by omega) (by omega), hw0 (40 + q) (by omega) (by omega), hw0 (64 + q) (by omega) (by omega), hw0 0 (by omega) (by omega)]
  by_cases e : q = p
  · have d1 : w2 (28 + q) = nI k := by rw [hw, if_neg (by omega), if_pos (by omega)]
    have d2 : w2 (52 + q) = 0 := by rw [hw, if_pos (by omega)]
    rw [d1, d2, hX, hY, if_pos e, if_pos e]
    exact ⟨hh.1, hh.2.1, hh.2.2.1, ⟨k, hk, rfl, rfl⟩, hh.2.2.2.2.1, hh.2.2.2.2.2.1, hh.2.2.2.2.2.2.1, ⟨0, by omega, hm, rfl⟩, hh.2.2.2.2.2.2.2.2⟩
  · rw [hw0 (28 + q) (by omega) (by omega), hw0 (52 + q) (by omega) (by omega), hX, hY, if_neg e, if_neg e]
    exact hh
section ZCA
variable {X : Nat × (Nat → Int32)} {d : Nat} {f : Nat → Nat → Int32} {g : Nat → Nat → Int64} {K : Int32 → (Nat → Nat → Int32) → (Nat → Nat → Int64) → Prop}
theorem q234 {p : Nat} (hp : p < 12) : zCpi X (d + 1) 234 [.ref 178, .int (nI p)] (zs f g) K = K (f 179 (28 + p) - 1) f g := by
  refine zCpi_eq (fun K hK => e234_178 ?_)
  rw [nI_l28, if_neg (nI_in (by omega) (by omega)), nI_cl (by omega), zsO.2]
  exact hK
theorem nI_d8 {k : Nat} (hk : k < 48) : nI k / 8 = nI (k / 8) := pk_div (d := 8) (by omega) (by omega) (by omega)
theorem nI_r8 {k : Nat} (hk : k < 48) : nI k - nI k / 8 * 8 = nI (k % 8) := pk_rem (d := 8) (by omega) (by omega) (by omega)
theorem nI_r8' {k : Nat} (hk : k < 48) : nI k - nI (k / 8) * 8 = nI (k % 8) := by
  rw [← nI_d8 hk]
  exact nI_r8 hk
theorem zq_23 : ((2 : Int32) = 3) = False := by decide
theorem zq_30 : ((3 : Int32) = 0) = False := by decide
theorem zq_31 : ((3 : Int32) = 1) = False := by decide
theorem zq_32 : ((3 : Int32) = 2) = False := by decide
end ZCA
theorem zRel_XY {fc fr : Nat → Nat → Int32} {gc : Nat → Nat → Int64} {p x y : Nat} (hp : p < 12) (hx : x < 8) (hy : y < 6) (hR : zRel fc gc fr) : zRel (zuI (zuI fc 5 p (nI x)) 6 p (nI y)) gc (zuI fr 179 (16 + p) (nI (8 * y + x))) := by
  obtain ⟨⟨c1, c2, c3, c4, c5, c6, c7, c8, c9, c10, c11⟩, c12, c13, c14, c15, c16⟩ := hR
  refine ⟨⟨?_, ?_, ?_, ?_, ?_, ?_, ?_, ?_, ?_, ?_, ?_⟩, ?_, ?_, ?_, ?_, ?_⟩
  all_goals try (first | assumption | (simp only [zi_ne, zi_at, zr_ne, zr_at, zj_ne, zj_at, ↓reduceIte, Nat.reduceEqDiff, not_false_eq_true, eq_self, nI_1]; assumption) | (simp only [zi_ne, zi_at, zr_ne, zr_at, zj_ne, zj_at, ↓reduceIte, Nat.reduceEqDiff, not_false_eq_true, eq_self, nI_1]; exact zRow_nil) | (exact zPas_frame (fun i _ _ => by first | rfl | (repeat rw [zi_ne (by omega)])) (by first | rfl | (simp only [zi_ne, zi_at, zr_ne, zr_at, zj_ne, zj_at, ↓reduceIte, Nat.reduceEqDiff, not_false_eq_true, eq_self, nI_1])) (fun i _ _ => rfl) rfl (by first | rfl | (simp only [zi_ne, zi_at, zr_ne, zr_at, zj_ne, zj_at, ↓reduceIte, Nat.reduceEqDiff, not_false_eq_true, eq_self, nI_1])) (by first | rfl | (simp only [zi_ne, zi_at, zr_ne, zr_at, zj_ne, zj_at, ↓reduceIte, Nat.reduceEqDiff, not_false_eq_true, eq_self, nI_1])) (by first | rfl | (simp only [zi_ne, zi_at, zr_ne, zr_at, zj_ne, zj_at, ↓reduceIte, Nat.reduceEqDiff, not_false_eq_true, eq_self, nI_1])) (by first | rfl | (simp only [zi_ne, zi_at, zr_ne, zr_at, zj_ne, zj_at, ↓reduceIte, Nat.reduceEqDiff, not_false_eq_true, eq_self, nI_1])) c14) | (exact zIma_frame (by first | rfl | (simp only [zi_ne, zi_at, zr_ne, zr_at, zj_ne, zj_at, ↓reduceIte, Nat.reduceEqDiff, not_false_eq_true, eq_self, nI_1])) (fun i _ _ => by first | rfl | (repeat rw [zi_ne (by omega)])) rfl (by first | rfl | (simp only [zi_ne, zi_at, zr_ne, zr_at, zj_ne, zj_at, ↓reduceIte, Nat.reduceEqDiff, not_false_eq_true, eq_self, nI_1])) (by first | rfl | (simp only [zi_ne, zi_at, zr_ne, zr_at, zj_ne, zj_at, ↓reduceIte, Nat.reduceEqDiff, not_false_eq_true, eq_self, nI_1])) c15))
  · simp only [zi_ne, Nat.reduceEqDiff, not_false_eq_true]
    exact zHal_XY hp hx hy (fun j => by simp only [zi_ne, zi_at, zr_ne, zr_at, zj_ne, zj_at, ↓reduceIte, Nat.reduceEqDiff, not_false_eq_true, eq_self, nI_1]) (fun j => by simp only [zi_ne, zi_at, zr_ne, zr_at, zj_ne, zj_at, ↓reduceIte, Nat.reduceEqDiff, not_false_eq_true, eq_self, nI_1]) (fun j => by simp only [zi_ne, zi_at, zr_ne, zr_at, zj_ne, zj_at, ↓reduceIte, Nat.reduceEqDiff, not_false_eq_true, eq_self, nI_1]) c9
  · simp only [zi_ne, zi_at, zr_ne, zr_at, zj_ne, zj_at, ↓reduceIte, Nat.reduceEqDiff, not_false_eq_true, eq_self, nI_1, show ¬ 2 = 16 + p by omega]
    exact c11
theorem zRel_O {fc fr : Nat → Nat → Int32} {gc : Nat → Nat → Int64} {p : Nat} {v : Int32} (hp : p < 12) (hv : -50 ≤ v.toInt ∧ v.toInt ≤ 50) (hR : zRel fc gc fr) : zRel (zuI fc 8 p v) gc (zuI fr 179 (40 + p) v) := by
  obtain ⟨⟨c1, c2, c3, c4, c5, c6, c7, c8, c9, c10, c11⟩, c12, c13, c14, c15, c16⟩ := hR
  refine ⟨⟨?_, ?_, ?_, ?_, ?_, ?_, ?_, ?_, ?_, ?_, ?_⟩, ?_, ?_, ?_, ?_, ?_⟩
  all_goals try (first | assumption | (simp only [zi_ne, zi_at, zr_ne, zr_at, zj_ne, zj_at, ↓reduceIte, Nat.reduceEqDiff, not_false_eq_true, eq_self, nI_1]; assumption) | (simp only [zi_ne, zi_at, zr_ne, zr_at, zj_ne, zj_at, ↓reduceIte, Nat.reduceEqDiff, not_false_eq_true, eq_self, nI_1]; exact zRow_nil) | (exact zPas_frame (fun i _ _ => by first | rfl | (repeat rw [zi_ne (by omega)])) (by first | rfl | (simp only [zi_ne, zi_at, zr_ne, zr_at, zj_ne, zj_at, ↓reduceIte, Nat.reduceEqDiff, not_false_eq_true, eq_self, nI_1])) (fun i _ _ => rfl) rfl (by first | rfl | (simp only [zi_ne, zi_at, zr_ne, zr_at, zj_ne, zj_at, ↓reduceIte, Nat.reduceEqDiff, not_false_eq_true, eq_self, nI_1])) (by first | rfl | (simp only [zi_ne, zi_at, zr_ne, zr_at, zj_ne, zj_at, ↓reduceIte, Nat.reduceEqDiff, not_false_eq_true, eq_self, nI_1])) (by first | rfl | (simp only [zi_ne, zi_at, zr_ne, zr_at, zj_ne, zj_at, ↓reduceIte, Nat.reduceEqDiff, not_false_eq_true, eq_self, nI_1])) (by first | rfl | (simp only [zi_ne, zi_at, zr_ne, zr_at, zj_ne, zj_at, ↓reduceIte, Nat.reduceEqDiff, not_false_eq_true, eq_self, nI_1])) c14) | (exact zIma_frame (by first | rfl | (simp only [zi_ne, zi_at, zr_ne, zr_at, zj_ne, zj_at, ↓reduceIte, Nat.reduceEqDiff, not_false_eq_true, eq_self, nI_1])) (fun i _ _ => by first | rfl | (repeat rw [zi_ne (by omega)])) rfl (by first | rfl | (simp only [zi_ne, zi_at, zr_ne, zr_at, zj_ne, zj_at, ↓reduceIte, Nat.reduceEqDiff, not_false_eq_true, eq_self, nI_1])) (by first | rfl | (simp only [zi_ne, zi_at, zr_ne, zr_at, zj_ne, zj_at, ↓reduceIte, Nat.reduceEqDiff, not_false_eq_true, eq_self, nI_1])) c15))
  · simp only [zi_ne, Nat.reduceEqDiff, not_false_eq_true]
    exact zHal_O (v := v) hp hv (fun j => by simp only [zi_ne, zi_at, zr_ne, zr_at, zj_ne, zj_at, ↓reduceIte, Nat.reduceEqDiff, not_false_eq_true, eq_self, nI_1]) (fun j => by simp only [zi_ne, zi_at, zr_ne, zr_at, zj_ne, zj_at, ↓reduceIte, Nat.reduceEqDiff, not_false_eq_true, eq_self, nI_1]) c9
  · simp only [zi_ne, zi_at, zr_ne, zr_at, zj_ne, zj_at, ↓reduceIte, Nat.reduceEqDiff, not_false_eq_true, eq_self, nI_1, show ¬ 2 = 40 + p by omega]
    exact c11
theorem zRel_N {fc fr : Nat → Nat → Int32} {gc : Nat → Nat → Int64} {p k : Nat} (hp : p < 12) (hk : k ≤ 12) (hR : zRel fc gc fr) : zRel (zuI (zuI fc 7 p (nI k - 1)) 9 p (-1)) gc (zuI (zuI fr 179 (28 + p) (nI k)) 179 (52 + p) 0) := by
  obtain ⟨⟨c1, c2, c3, c4, c5, c6, c7, c8, c9, c10, c11⟩, c12, c13, c14, c15, c16⟩ := hR
  refine ⟨⟨?_, ?_, ?_, ?_, ?_, ?_, ?_, ?_, ?_, ?_, ?_⟩, ?_, ?_, ?_, ?_, ?_⟩
  all_goals try (first | assumption | (simp only [zi_ne, zi_at, zr_ne, zr_at, zj_ne, zj_at, ↓reduceIte, Nat.reduceEqDiff, not_false_eq_true, eq_self, nI_1]; assumption) | (simp only [zi_ne, zi_at, zr_ne, zr_at, zj_ne, zj_at, ↓reduceIte, Nat.reduceEqDiff, not_false_eq_true, eq_self, nI_1]; exact zRow_nil) | (exact zPas_frame (fun i _ _ => by first | rfl | (repeat rw [zi_ne (by omega)])) (by first | rfl | (simp only [zi_ne, zi_at, zr_ne, zr_at, zj_ne, zj_at, ↓reduceIte, Nat.reduceEqDiff, not_false_eq_true, eq_self, nI_1])) (fun i _ _ => rfl) rfl (by first | rfl | (simp only [zi_ne, zi_at, zr_ne, zr_at, zj_ne, zj_at, ↓reduceIte, Nat.reduceEqDiff, not_false_eq_true, eq_self, nI_1])) (by first | rfl | (simp only [zi_ne, zi_at, zr_ne, zr_at, zj_ne, zj_at, ↓reduceIte, Nat.reduceEqDiff, not_false_eq_true, eq_self, nI_1])) (by first | rfl | (simp only [zi_ne, zi_at, zr_ne, zr_at, zj_ne, zj_at, ↓reduceIte, Nat.reduceEqDiff, not_false_eq_true, eq_self, nI_1])) (by first | rfl | (simp only [zi_ne, zi_at, zr_ne, zr_at, zj_ne, zj_at, ↓reduceIte, Nat.reduceEqDiff, not_false_eq_true, eq_self, nI_1])) c14) | (exact zIma_frame (by first | rfl | (simp only [zi_ne, zi_at, zr_ne, zr_at, zj_ne, zj_at, ↓reduceIte, Nat.reduceEqDiff, not_false_eq_true, eq_self, nI_1])) (fun i _ _ => by first | rfl | (repeat rw [zi_ne (by omega)])) rfl (by first | rfl | (simp only [zi_ne, zi_at, zr_ne, zr_at, zj_ne, zj_at, ↓reduceIte, Nat.reduceEqDiff, not_false_eq_true, eq_self, nI_1])) (by first | rfl | (simp only [zi_ne, zi_at, zr_ne, zr_at, zj_ne, zj_at, ↓reduceIte, Nat.reduceEqDiff, not_false_eq_true, eq_self, nI_1])) c15))
  · simp only [zi_ne, Nat.reduceEqDiff, not_false_eq_true]
    exact zHal_N hp hk (fun j => by simp only [zi_ne, zi_at, zr_ne, zr_at, zj_ne, zj_at, ↓reduceIte, Nat.reduceEqDiff, not_false_eq_true, eq_self, nI_1]) (fun j => by simp only [zi_ne, zi_at, zr_ne, zr_at, zj_ne, zj_at, ↓reduceIte, Nat.reduceEqDiff, not_false_eq_true, eq_self, nI_1]) (fun j => by simp only [zi_ne, zi_at, zr_ne, zr_at, zj_ne, zj_at, ↓reduceIte, Nat.reduceEqDiff, not_false_eq_true, eq_self, nI_1]) c9
  · simp only [zi_ne, zi_at, zr_ne, zr_at, zj_ne, zj_at, ↓reduceIte, Nat.reduceEqDiff, not_false_eq_true, eq_self, nI_1, show ¬ 2 = 28 + p by omega, show ¬ 2 = 52 + p by omega]
    exact c11
set_option maxHeartbeats 4000000 in
theorem op_act {X : Nat × (Nat → Int32)} {d : Nat} {a b v : Int32} : zOp X (d + 6) 127 239 [.int a, .int b, .int v] := by
  intro fc fr gc gr hR
  have hR0 : zRel fc gc (zuI fr 178 0 0) := by
    obtain ⟨⟨c1, c2, c3, c4, c5, c6, c7, c8, c9, c10, c11⟩, c12, c13, c14, c15, c16⟩ := hR
    refine ⟨⟨?_, ?_, ?_, ?_, ?_, ?_, ?_, ?_, ?_, ?_, ?_⟩, ?_, ?_, ?_, ?_, ?_⟩
    all_goals try (first | assumption | (simp only [zi_ne, zi_at, zr_ne, zr_at, zj_ne, zj_at, ↓reduceIte, Nat.reduceEqDiff, not_false_eq_true, eq_self, nI_1]; assumption) | (simp only [zi_ne, zi_at, zr_ne, zr_at, zj_ne, zj_at, ↓reduceIte, Nat.reduceEqDiff, not_false_eq_true, eq_self, nI_1]; exact zRow_nil) | (exact zPas_frame (fun i _ _ => by first | rfl | (repeat rw [zi_ne (by omega)])) (by first | rfl | (simp only [zi_ne, zi_at, zr_ne, zr_at, zj_ne, zj_at, ↓reduceIte, Nat.reduceEqDiff, not_false_eq_true, eq_self, nI_1])) (fun i _ _ => rfl) rfl (by first | rfl | (simp only [zi_ne, zi_at, zr_ne, zr_at, zj_ne, zj_at, ↓reduceIte, Nat.reduceEqDiff, not_false_eq_true, eq_self, nI_1])) (by first | rfl | (simp only [zi_ne, zi_at, zr_ne, zr_at, zj_ne, zj_at, ↓reduceIte, Nat.reduceEqDiff, not_false_eq_true, eq_self, nI_1])) (by first | rfl | (simp only [zi_ne, zi_at, zr_ne, zr_at, zj_ne, zj_at, ↓reduceIte, Nat.reduceEqDiff, not_false_eq_true, eq_self, nI_1])) (by first | rfl | (simp only [zi_ne, zi_at, zr_ne, zr_at, zj_ne, zj_at, ↓reduceIte, Nat.reduceEqDiff, not_false_eq_true, eq_self, nI_1])) c14) | (exact zIma_frame (by first | rfl | (simp only [zi_ne, zi_at, zr_ne, zr_at, zj_ne, zj_at, ↓reduceIte, Nat.reduceEqDiff, not_false_eq_true, eq_self, nI_1])) (fun i _ _ => by first | rfl | (repeat rw [zi_ne (by omega)])) rfl (by first | rfl | (simp only [zi_ne, zi_at, zr_ne, zr_at, zj_ne, zj_at, ↓reduceIte, Nat.reduceEqDiff, not_false_eq_true, eq_self, nI_1])) (by first | rfl | (simp only [zi_ne, zi_at, zr_ne, zr_at, zj_ne, zj_at, ↓reduceIte, Nat.reduceEqDiff, not_false_eq_true, eq_self, nI_1])) c15))
  clear hR
  apply zCpi_mono (K := fun r f1 g1 => zCpi X (d + 6) 239 [.ref 178, .int a, .int b, .int v] (zs fr gr) (fun r' f2 _ => zAn r' r ∧ zRel f1 g1 f2)) (fun _ _ _ z => z)
  have hE : ∀ {K : Int32 → (Nat → Nat → Int32) → (Nat → Nat → Int64) → Prop}, _ → zCpi X (d + 6) 239 [.ref 178, .int a, .int b, .int v] (zs fr gr) K := fun {K} h => e239_178 (K := K) h
  generalize zuI fr 178 0 0 = fr at *
  have hR := hR0
  obtain ⟨⟨c1, c2, c3, c4, c5, c6, c7, c8, c9, c10, c11⟩, c12, c13, c14, c15, c16⟩ := hR0
  obtain ⟨n, hn, h1, h2, h3, h4, h5, h6, h7, h8⟩ := id c9
  obtain ⟨⟨P, hP, p1, p2⟩, p3⟩ := id c10
  obtain ⟨s, pp, mm, a1, a2, a3, a4, a5, a6, a6', a7⟩ := id c14
  have ht := nI_ti (k := n) (by omega)
  by_cases hb : 0 ≤ b.toInt ∧ b.toInt < n
  · obtain ⟨p, hp, ep⟩ := zixn (x := b) (n := n) (by omega) (by omega) (by omega)
    subst ep
    have hcp := nI_cl (k := p) (by omega)
    have htp := nI_ti (k := p) (by omega)
    have hin := nI_in' (c := p) (N := 12) (by omega) (by omega)
    have i16 := nI_in' (c := 16 + p) (N := 76) (by omega) (by omega)
    have i28 := nI_in' (c := 28 + p) (N := 76) (by omega) (by omega)
    have i40 := nI_in' (c := 40 + p) (N := 76) (by omega) (by omega)
    have i52 := nI_in' (c := 52 + p) (N := 76) (by omega) (by omega)
    have k16 := nI_cl (k := 16 + p) (by omega)
    have k28 := nI_cl (k := 28 + p) (by omega)
    have k40 := nI_cl (k := 40 + p) (by omega)
    have k52 := nI_cl (k := 52 + p) (by omega)
    obtain ⟨y1, y2, y3, ⟨kn, y4, y5, y6⟩, y7, y8, y9, y10⟩ := h8 p hp
    have hRK := zRel_keep a1 a2 a3 a5 hR
    by_cases ha0 : a = 0
    · subst ha0
      by_cases hv : 0 ≤ v.toInt ∧ v.toInt ≤ 47
      · obtain ⟨k, hk, ek⟩ := zixn (x := v) (n := 48) (by omega) (by omega) (by omega)
        subst ek
        have hxy : 8 * (k / 8) + k % 8 = k := by omega
        have hx : k % 8 < 8 := by omega
        have hy : k / 8 < 6 := by omega
        have hon := zHal_on c9 h1 hn hx hy
        rw [hxy] at hon
        have q6 : ∀ {K : Int32 → (Nat → Nat → Int32) → (Nat → Nat → Int64) → Prop}, zCpi X (d + 4) 16 [.ref 2, .int (nI (k % 8)), .int (nI (k / 8))] (zs fc gc) K = _ := q16_2 (d := d + 1) hP p1 hx hy h1 hn
        rw [hxy] at q6
        have q7 : ∀ {K : Int32 → (Nat → Nat → Int32) → (Nat → Nat → Int64) → Prop}, zCpi X (d + 4) 166 [.ref 178, .int (nI k)] (zs fr gr) K = _ := q166 (d := d + 2) (P := P) hk (p2 k hk) h2 hn
        rw [hon] at q7
        by_cases hf : ¬ P.testBit k = true ∧ zfs (fun p => decide (fc 5 p = nI (k % 8) ∧ fc 6 p = nI (k / 8))) n 0 = -1
        · apply e127_0
          simp only [q20_2, q124, h1, ht, hb, hcp, hin, q45 a1 a2 a3 a5, y5, zq_02, zq_12', zq_20, zq_21, zq_23, zq_30, zq_31, zq_32, true_or, or_true, false_or, or_false, or_self, and_self, true_and, and_true, not_true_eq_false, not_false_eq_true, ↓reduceIte, eq_self, zq_01, zq_10, zq_m0, zq_m1, zq_0m, zq_1m, zq_2, zq_6, zq_8, zq_10z, zq_12, zq_1000, Int32.reduceLT, Int32.reduceLE, Int32.reduceToInt, Int32.reduceToNatClampNeg, Int32.reduceOfNat, Int.reduceLT, Int.reduceLE, Int.reduceEq, Nat.reduceLeDiff, Nat.reduceEqDiff, zl_2, zl_8, zl_12, zl_50, zl_132, zl_133, zl_134, zl_999, zl_10000, zb_0, zb_1, zb_or, zsO.2, zmO.2, znO.2, zdO.2, zrO.2, zhO.2, zgO.2, zuO.2, zlH.2, zlU.2, zlS.2]
          apply e128_0
          simp only [hv, q6, hf, nI_r8' hk, nI_d8 hk, q20_2, q124, h1, ht, hb, hcp, hin, q45 a1 a2 a3 a5, y5, zq_02, zq_12', zq_20, zq_21, zq_23, zq_30, zq_31, zq_32, true_or, or_true, false_or, or_false, or_self, and_self, true_and, and_true, not_true_eq_false, not_false_eq_true, ↓reduceIte, eq_self, zq_01, zq_10, zq_m0, zq_m1, zq_0m, zq_1m, zq_2, zq_6, zq_8, zq_10z, zq_12, zq_1000, Int32.reduceLT, Int32.reduceLE, Int32.reduceToInt, Int32.reduceToNatClampNeg, Int32.reduceOfNat, Int.reduceLT, Int.reduceLE, Int.reduceEq, Nat.reduceLeDiff, Nat.reduceEqDiff, zl_2, zl_8, zl_12, zl_50, zl_132, zl_133, zl_134, zl_999, zl_10000, zb_0, zb_1, zb_or, zsO.2, zmO.2, znO.2, zdO.2, zrO.2, zhO.2, zgO.2, zuO.2, zlH.2, zlU.2, zlS.2]
          apply hE
          apply e240_178
          simp only [hv, q7, hf, q165, q169, h2, ht, hb, hcp, hin, q210 a1 a4, q234 (show p < 12 by omega), nI_l16, nI_l28, nI_l40, nI_l52, i16, i28, i40, i52, k16, k28, k40, k52, y6, zq_02, zq_12', zq_20, zq_21, zq_23, zq_30, zq_31, zq_32, true_or, or_true, false_or, or_false, or_self, and_self, true_and, and_true, not_true_eq_false, not_false_eq_true, ↓reduceIte, eq_self, zq_01, zq_10, zq_m0, zq_m1, zq_0m, zq_1m, zq_2, zq_6, zq_8, zq_10z, zq_12, zq_1000, Int32.reduceLT, Int32.reduceLE, Int32.reduceToInt, Int32.reduceToNatClampNeg, Int32.reduceOfNat, Int.reduceLT, Int.reduceLE, Int.reduceEq, Nat.reduceLeDiff, Nat.reduceEqDiff, zl_2, zl_8, zl_12, zl_50, zl_132, zl_133, zl_134, zl_999, zl_10000, zb_0, zb_1, zb_or, zsO.2, zmO.2, znO.2, zdO.2, zrO.2, zhO.2, zgO.2, zuO.2, zlH.2, zlU.2, zlS.2]
          refine ⟨rfl, ?_⟩
          have z := zRel_XY (p := p) (by omega) hx hy hRK
          rw [hxy] at z
          exact z
        · apply e127_0
          simp only [q20_2, q124, h1, ht, hb, hcp, hin, q45 a1 a2 a3 a5, y5, zq_02, zq_12', zq_20, zq_21, zq_23, zq_30, zq_31, zq_32, true_or, or_true, false_or, or_false, or_self, and_self, true_and, and_true, not_true_eq_false, not_false_eq_true, ↓reduceIte, eq_self, zq_01, zq_10, zq_m0, zq_m1, zq_0m, zq_1m, zq_2, zq_6, zq_8, zq_10z, zq_12, zq_1000, Int32.reduceLT, Int32.reduceLE, Int32.reduceToInt, Int32.reduceToNatClampNeg, Int32.reduceOfNat, Int.reduceLT, Int.reduceLE, Int.reduceEq, Nat.reduceLeDiff, Nat.reduceEqDiff, zl_2, zl_8, zl_12, zl_50, zl_132, zl_133, zl_134, zl_999, zl_10000, zb_0, zb_1, zb_or, zsO.2, zmO.2, znO.2, zdO.2, zrO.2, zhO.2, zgO.2, zuO.2, zlH.2, zlU.2, zlS.2]
          apply e128_0
          simp only [hv, q6, hf, nI_r8' hk, nI_d8 hk, q20_2, q124, h1, ht, hb, hcp, hin, q45 a1 a2 a3 a5, y5, zq_02, zq_12', zq_20, zq_21, zq_23, zq_30, zq_31, zq_32, true_or, or_true, false_or, or_false, or_self, and_self, true_and, and_true, not_true_eq_false, not_false_eq_true, ↓reduceIte, eq_self, zq_01, zq_10, zq_m0, zq_m1, zq_0m, zq_1m, zq_2, zq_6, zq_8, zq_10z, zq_12, zq_1000, Int32.reduceLT, Int32.reduceLE, Int32.reduceToInt, Int32.reduceToNatClampNeg, Int32.reduceOfNat, Int.reduceLT, Int.reduceLE, Int.reduceEq, Nat.reduceLeDiff, Nat.reduceEqDiff, zl_2, zl_8, zl_12, zl_50, zl_132, zl_133, zl_134, zl_999, zl_10000, zb_0, zb_1, zb_or, zsO.2, zmO.2, znO.2, zdO.2, zrO.2, zhO.2, zgO.2, zuO.2, zlH.2, zlU.2, zlS.2]
          apply hE
          apply e240_178
          simp only [hv, q7, hf, q165, q169, h2, ht, hb, hcp, hin, q210 a1 a4, q234 (show p < 12 by omega), nI_l16, nI_l28, nI_l40, nI_l52, i16, i28, i40, i52, k16, k28, k40, k52, y6, zq_02, zq_12', zq_20, zq_21, zq_23, zq_30, zq_31, zq_32, true_or, or_true, false_or, or_false, or_self, and_self, true_and, and_true, not_true_eq_false, not_false_eq_true, ↓reduceIte, eq_self, zq_01, zq_10, zq_m0, zq_m1, zq_0m, zq_1m, zq_2, zq_6, zq_8, zq_10z, zq_12, zq_1000, Int32.reduceLT, Int32.reduceLE, Int32.reduceToInt, Int32.reduceToNatClampNeg, Int32.reduceOfNat, Int.reduceLT, Int.reduceLE, Int.reduceEq, Nat.reduceLeDiff, Nat.reduceEqDiff, zl_2, zl_8, zl_12, zl_50, zl_132, zl_133, zl_134, zl_999, zl_10000, zb_0, zb_1, zb_or, zsO.2, zmO.2, znO.2, zdO.2, zrO.2, zhO.2, zgO.2, zuO.2, zlH.2, zlU.2, zlS.2]
          exact ⟨rfl, hR⟩
      · apply e127_0
        simp only [q20_2, q124, h1, ht, hb, hcp, hin, q45 a1 a2 a3 a5, y5, zq_02, zq_12', zq_20, zq_21, zq_23, zq_30, zq_31, zq_32, true_or, or_true, false_or, or_false, or_self, and_self, true_and, and_true, not_true_eq_false, not_false_eq_true, ↓reduceIte, eq_self, zq_01, zq_10, zq_m0, zq_m1, zq_0m, zq_1m, zq_2, zq_6, zq_8, zq_10z, zq_12, zq_1000, Int32.reduceLT, Int32.reduceLE, Int32.reduceToInt, Int32.reduceToNatClampNeg, Int32.reduceOfNat, Int.reduceLT, Int.reduceLE, Int.reduceEq, Nat.reduceLeDiff, Nat.reduceEqDiff, zl_2, zl_8, zl_12, zl_50, zl_132, zl_133, zl_134, zl_999, zl_10000, zb_0, zb_1, zb_or, zsO.2, zmO.2, znO.2, zdO.2, zrO.2, zhO.2, zgO.2, zuO.2, zlH.2, zlU.2, zlS.2]
        apply e128_0
        simp only [hv, q20_2, q124, h1, ht, hb, hcp, hin, q45 a1 a2 a3 a5, y5, zq_02, zq_12', zq_20, zq_21, zq_23, zq_30, zq_31, zq_32, true_or, or_true, false_or, or_false, or_self, and_self, true_and, and_true, not_true_eq_false, not_false_eq_true, ↓reduceIte, eq_self, zq_01, zq_10, zq_m0, zq_m1, zq_0m, zq_1m, zq_2, zq_6, zq_8, zq_10z, zq_12, zq_1000, Int32.reduceLT, Int32.reduceLE, Int32.reduceToInt, Int32.reduceToNatClampNeg, Int32.reduceOfNat, Int.reduceLT, Int.reduceLE, Int.reduceEq, Nat.reduceLeDiff, Nat.reduceEqDiff, zl_2, zl_8, zl_12, zl_50, zl_132, zl_133, zl_134, zl_999, zl_10000, zb_0, zb_1, zb_or, zsO.2, zmO.2, znO.2, zdO.2, zrO.2, zhO.2, zgO.2, zuO.2, zlH.2, zlU.2, zlS.2]
        apply hE
        apply e240_178
        simp only [hv, q165, q169, h2, ht, hb, hcp, hin, q210 a1 a4, q234 (show p < 12 by omega), nI_l16, nI_l28, nI_l40, nI_l52, i16, i28, i40, i52, k16, k28, k40, k52, y6, zq_02, zq_12', zq_20, zq_21, zq_23, zq_30, zq_31, zq_32, true_or, or_true, false_or, or_false, or_self, and_self, true_and, and_true, not_true_eq_false, not_false_eq_true, ↓reduceIte, eq_self, zq_01, zq_10, zq_m0, zq_m1, zq_0m, zq_1m, zq_2, zq_6, zq_8, zq_10z, zq_12, zq_1000, Int32.reduceLT, Int32.reduceLE, Int32.reduceToInt, Int32.reduceToNatClampNeg, Int32.reduceOfNat, Int.reduceLT, Int.reduceLE, Int.reduceEq, Nat.reduceLeDiff, Nat.reduceEqDiff, zl_2, zl_8, zl_12, zl_50, zl_132, zl_133, zl_134, zl_999, zl_10000, zb_0, zb_1, zb_or, zsO.2, zmO.2, znO.2, zdO.2, zrO.2, zhO.2, zgO.2, zuO.2, zlH.2, zlU.2, zlS.2]
        exact ⟨rfl, hR⟩
    by_cases ha1 : a = 1
    · subst ha1
      by_cases hf : fc 8 p = 0
      · apply e127_0
        simp only [q20_2, q124, h1, ht, hb, hcp, hin, q45 a1 a2 a3 a5, y5, zq_02, zq_12', zq_20, zq_21, zq_23, zq_30, zq_31, zq_32, true_or, or_true, false_or, or_false, or_self, and_self, true_and, and_true, not_true_eq_false, not_false_eq_true, ↓reduceIte, eq_self, zq_01, zq_10, zq_m0, zq_m1, zq_0m, zq_1m, zq_2, zq_6, zq_8, zq_10z, zq_12, zq_1000, Int32.reduceLT, Int32.reduceLE, Int32.reduceToInt, Int32.reduceToNatClampNeg, Int32.reduceOfNat, Int.reduceLT, Int.reduceLE, Int.reduceEq, Nat.reduceLeDiff, Nat.reduceEqDiff, zl_2, zl_8, zl_12, zl_50, zl_132, zl_133, zl_134, zl_999, zl_10000, zb_0, zb_1, zb_or, zsO.2, zmO.2, znO.2, zdO.2, zrO.2, zhO.2, zgO.2, zuO.2, zlH.2, zlU.2, zlS.2]
        apply e128_0
        simp only [hf, q20_2, q124, h1, ht, hb, hcp, hin, q45 a1 a2 a3 a5, y5, zq_02, zq_12', zq_20, zq_21, zq_23, zq_30, zq_31, zq_32, true_or, or_true, false_or, or_false, or_self, and_self, true_and, and_true, not_true_eq_false, not_false_eq_true, ↓reduceIte, eq_self, zq_01, zq_10, zq_m0, zq_m1, zq_0m, zq_1m, zq_2, zq_6, zq_8, zq_10z, zq_12, zq_1000, Int32.reduceLT, Int32.reduceLE, Int32.reduceToInt, Int32.reduceToNatClampNeg, Int32.reduceOfNat, Int.reduceLT, Int.reduceLE, Int.reduceEq, Nat.reduceLeDiff, Nat.reduceEqDiff, zl_2, zl_8, zl_12, zl_50, zl_132, zl_133, zl_134, zl_999, zl_10000, zb_0, zb_1, zb_or, zsO.2, zmO.2, znO.2, zdO.2, zrO.2, zhO.2, zgO.2, zuO.2, zlH.2, zlU.2, zlS.2]
        apply hE
        apply e240_178
        simp only [y7, hf, q165, q169, h2, ht, hb, hcp, hin, q210 a1 a4, q234 (show p < 12 by omega), nI_l16, nI_l28, nI_l40, nI_l52, i16, i28, i40, i52, k16, k28, k40, k52, y6, zq_02, zq_12', zq_20, zq_21, zq_23, zq_30, zq_31, zq_32, true_or, or_true, false_or, or_false, or_self, and_self, true_and, and_true, not_true_eq_false, not_false_eq_true, ↓reduceIte, eq_self, zq_01, zq_10, zq_m0, zq_m1, zq_0m, zq_1m, zq_2, zq_6, zq_8, zq_10z, zq_12, zq_1000, Int32.reduceLT, Int32.reduceLE, Int32.reduceToInt, Int32.reduceToNatClampNeg, Int32.reduceOfNat, Int.reduceLT, Int.reduceLE, Int.reduceEq, Nat.reduceLeDiff, Nat.reduceEqDiff, zl_2, zl_8, zl_12, zl_50, zl_132, zl_133, zl_134, zl_999, zl_10000, zb_0, zb_1, zb_or, zsO.2, zmO.2, znO.2, zdO.2, zrO.2, zhO.2, zgO.2, zuO.2, zlH.2, zlU.2, zlS.2]
        exact ⟨rfl, hR⟩
      · apply e127_0
        simp only [q20_2, q124, h1, ht, hb, hcp, hin, q45 a1 a2 a3 a5, y5, zq_02, zq_12', zq_20, zq_21, zq_23, zq_30, zq_31, zq_32, true_or, or_true, false_or, or_false, or_self, and_self, true_and, and_true, not_true_eq_false, not_false_eq_true, ↓reduceIte, eq_self, zq_01, zq_10, zq_m0, zq_m1, zq_0m, zq_1m, zq_2, zq_6, zq_8, zq_10z, zq_12, zq_1000, Int32.reduceLT, Int32.reduceLE, Int32.reduceToInt, Int32.reduceToNatClampNeg, Int32.reduceOfNat, Int.reduceLT, Int.reduceLE, Int.reduceEq, Nat.reduceLeDiff, Nat.reduceEqDiff, zl_2, zl_8, zl_12, zl_50, zl_132, zl_133, zl_134, zl_999, zl_10000, zb_0, zb_1, zb_or, zsO.2, zmO.2, znO.2, zdO.2, zrO.2, zhO.2, zgO.2, zuO.2, zlH.2, zlU.2, zlS.2]
        apply e128_0
        simp only [hf, q20_2, q124, h1, ht, hb, hcp, hin, q45 a1 a2 a3 a5, y5, zq_02, zq_12', zq_20, zq_21, zq_23, zq_30, zq_31, zq_32, true_or, or_true, false_or, or_false, or_self, and_self, true_and, and_true, not_true_eq_false, not_false_eq_true, ↓reduceIte, eq_self, zq_01, zq_10, zq_m0, zq_m1, zq_0m, zq_1m, zq_2, zq_6, zq_8, zq_10z, zq_12, zq_1000, Int32.reduceLT, Int32.reduceLE, Int32.reduceToInt, Int32.reduceToNatClampNeg, Int32.reduceOfNat, Int.reduceLT, Int.reduceLE, Int.reduceEq, Nat.reduceLeDiff, Nat.reduceEqDiff, zl_2, zl_8, zl_12, zl_50, zl_132, zl_133, zl_134, zl_999, zl_10000, zb_0, zb_1, zb_or, zsO.2, zmO.2, znO.2, zdO.2, zrO.2, zhO.2, zgO.2, zuO.2, zlH.2, zlU.2, zlS.2]
        apply hE
        apply e240_178
        simp only [y7, hf, q165, q169, h2, ht, hb, hcp, hin, q210 a1 a4, q234 (show p < 12 by omega), nI_l16, nI_l28, nI_l40, nI_l52, i16, i28, i40, i52, k16, k28, k40, k52, y6, zq_02, zq_12', zq_20, zq_21, zq_23, zq_30, zq_31, zq_32, true_or, or_true, false_or, or_false, or_self, and_self, true_and, and_true, not_true_eq_false, not_false_eq_true, ↓reduceIte, eq_self, zq_01, zq_10, zq_m0, zq_m1, zq_0m, zq_1m, zq_2, zq_6, zq_8, zq_10z, zq_12, zq_1000, Int32.reduceLT, Int32.reduceLE, Int32.reduceToInt, Int32.reduceToNatClampNeg, Int32.reduceOfNat, Int.reduceLT, Int.reduceLE, Int.reduceEq, Nat.reduceLeDiff, Nat.reduceEqDiff, zl_2, zl_8, zl_12, zl_50, zl_132, zl_133, zl_134, zl_999, zl_10000, zb_0, zb_1, zb_or, zsO.2, zmO.2, znO.2, zdO.2, zrO.2, zhO.2, zgO.2, zuO.2, zlH.2, zlU.2, zlS.2]
        exact ⟨rfl, zRel_O (by omega) (by decide) hRK⟩
    by_cases ha2 : a = 2
    · subst ha2
      by_cases hv : 0 ≤ v.toInt ∧ v.toInt ≤ 11
      · obtain ⟨k, hk, ek⟩ := zixn (x := v) (n := 12) (by omega) (by omega) (by omega)
        subst ek
        by_cases hf : nI kn - 1 = nI k
        · apply e127_0
          simp only [q20_2, q124, h1, ht, hb, hcp, hin, q45 a1 a2 a3 a5, y5, zq_02, zq_12', zq_20, zq_21, zq_23, zq_30, zq_31, zq_32, true_or, or_true, false_or, or_false, or_self, and_self, true_and, and_true, not_true_eq_false, not_false_eq_true, ↓reduceIte, eq_self, zq_01, zq_10, zq_m0, zq_m1, zq_0m, zq_1m, zq_2, zq_6, zq_8, zq_10z, zq_12, zq_1000, Int32.reduceLT, Int32.reduceLE, Int32.reduceToInt, Int32.reduceToNatClampNeg, Int32.reduceOfNat, Int.reduceLT, Int.reduceLE, Int.reduceEq, Nat.reduceLeDiff, Nat.reduceEqDiff, zl_2, zl_8, zl_12, zl_50, zl_132, zl_133, zl_134, zl_999, zl_10000, zb_0, zb_1, zb_or, zsO.2, zmO.2, znO.2, zdO.2, zrO.2, zhO.2, zgO.2, zuO.2, zlH.2, zlU.2, zlS.2]
          apply e128_0
          simp only [hv, hf, q20_2, q124, h1, ht, hb, hcp, hin, q45 a1 a2 a3 a5, y5, zq_02, zq_12', zq_20, zq_21, zq_23, zq_30, zq_31, zq_32, true_or, or_true, false_or, or_false, or_self, and_self, true_and, and_true, not_true_eq_false, not_false_eq_true, ↓reduceIte, eq_self, zq_01, zq_10, zq_m0, zq_m1, zq_0m, zq_1m, zq_2, zq_6, zq_8, zq_10z, zq_12, zq_1000, Int32.reduceLT, Int32.reduceLE, Int32.reduceToInt, Int32.reduceToNatClampNeg, Int32.reduceOfNat, Int.reduceLT, Int.reduceLE, Int.reduceEq, Nat.reduceLeDiff, Nat.reduceEqDiff, zl_2, zl_8, zl_12, zl_50, zl_132, zl_133, zl_134, zl_999, zl_10000, zb_0, zb_1, zb_or, zsO.2, zmO.2, znO.2, zdO.2, zrO.2, zhO.2, zgO.2, zuO.2, zlH.2, zlU.2, zlS.2]
          apply hE
          apply e240_178
          simp only [hv, hf, q165, q169, h2, ht, hb, hcp, hin, q210 a1 a4, q234 (show p < 12 by omega), nI_l16, nI_l28, nI_l40, nI_l52, i16, i28, i40, i52, k16, k28, k40, k52, y6, zq_02, zq_12', zq_20, zq_21, zq_23, zq_30, zq_31, zq_32, true_or, or_true, false_or, or_false, or_self, and_self, true_and, and_true, not_true_eq_false, not_false_eq_true, ↓reduceIte, eq_self, zq_01, zq_10, zq_m0, zq_m1, zq_0m, zq_1m, zq_2, zq_6, zq_8, zq_10z, zq_12, zq_1000, Int32.reduceLT, Int32.reduceLE, Int32.reduceToInt, Int32.reduceToNatClampNeg, Int32.reduceOfNat, Int.reduceLT, Int.reduceLE, Int.reduceEq, Nat.reduceLeDiff, Nat.reduceEqDiff, zl_2, zl_8, zl_12, zl_50, zl_132, zl_133, zl_134, zl_999, zl_10000, zb_0, zb_1, zb_or, zsO.2, zmO.2, znO.2, zdO.2, zrO.2, zhO.2, zgO.2, zuO.2, zlH.2, zlU.2, zlS.2]
          exact ⟨rfl, hR⟩
        · apply e127_0
          simp only [q20_2, q124, h1, ht, hb, hcp, hin, q45 a1 a2 a3 a5, y5, zq_02, zq_12', zq_20, zq_21, zq_23, zq_30, zq_31, zq_32, true_or, or_true, false_or, or_false, or_self, and_self, true_and, and_true, not_true_eq_false, not_false_eq_true, ↓reduceIte, eq_self, zq_01, zq_10, zq_m0, zq_m1, zq_0m, zq_1m, zq_2, zq_6, zq_8, zq_10z, zq_12, zq_1000, Int32.reduceLT, Int32.reduceLE, Int32.reduceToInt, Int32.reduceToNatClampNeg, Int32.reduceOfNat, Int.reduceLT, Int.reduceLE, Int.reduceEq, Nat.reduceLeDiff, Nat.reduceEqDiff, zl_2, zl_8, zl_12, zl_50, zl_132, zl_133, zl_134, zl_999, zl_10000, zb_0, zb_1, zb_or, zsO.2, zmO.2, znO.2, zdO.2, zrO.2, zhO.2, zgO.2, zuO.2, zlH.2, zlU.2, zlS.2]
          apply e128_0
          simp only [hv, hf, q20_2, q124, h1, ht, hb, hcp, hin, q45 a1 a2 a3 a5, y5, zq_02, zq_12', zq_20, zq_21, zq_23, zq_30, zq_31, zq_32, true_or, or_true, false_or, or_false, or_self, and_self, true_and, and_true, not_true_eq_false, not_false_eq_true, ↓reduceIte, eq_self, zq_01, zq_10, zq_m0, zq_m1, zq_0m, zq_1m, zq_2, zq_6, zq_8, zq_10z, zq_12, zq_1000, Int32.reduceLT, Int32.reduceLE, Int32.reduceToInt, Int32.reduceToNatClampNeg, Int32.reduceOfNat, Int.reduceLT, Int.reduceLE, Int.reduceEq, Nat.reduceLeDiff, Nat.reduceEqDiff, zl_2, zl_8, zl_12, zl_50, zl_132, zl_133, zl_134, zl_999, zl_10000, zb_0, zb_1, zb_or, zsO.2, zmO.2, znO.2, zdO.2, zrO.2, zhO.2, zgO.2, zuO.2, zlH.2, zlU.2, zlS.2]
          apply hE
          apply e240_178
          simp only [hv, hf, q165, q169, h2, ht, hb, hcp, hin, q210 a1 a4, q234 (show p < 12 by omega), nI_l16, nI_l28, nI_l40, nI_l52, i16, i28, i40, i52, k16, k28, k40, k52, y6, zq_02, zq_12', zq_20, zq_21, zq_23, zq_30, zq_31, zq_32, true_or, or_true, false_or, or_false, or_self, and_self, true_and, and_true, not_true_eq_false, not_false_eq_true, ↓reduceIte, eq_self, zq_01, zq_10, zq_m0, zq_m1, zq_0m, zq_1m, zq_2, zq_6, zq_8, zq_10z, zq_12, zq_1000, Int32.reduceLT, Int32.reduceLE, Int32.reduceToInt, Int32.reduceToNatClampNeg, Int32.reduceOfNat, Int.reduceLT, Int.reduceLE, Int.reduceEq, Nat.reduceLeDiff, Nat.reduceEqDiff, zl_2, zl_8, zl_12, zl_50, zl_132, zl_133, zl_134, zl_999, zl_10000, zb_0, zb_1, zb_or, zsO.2, zmO.2, znO.2, zdO.2, zrO.2, zhO.2, zgO.2, zuO.2, zlH.2, zlU.2, zlS.2]
          refine ⟨rfl, ?_⟩
          have z := zRel_N (p := p) (k := k + 1) (by omega) (by omega) hRK
          rw [nI_pred, ← nI_1] at z
          exact z
      · apply e127_0
        simp only [q20_2, q124, h1, ht, hb, hcp, hin, q45 a1 a2 a3 a5, y5, zq_02, zq_12', zq_20, zq_21, zq_23, zq_30, zq_31, zq_32, true_or, or_true, false_or, or_false, or_self, and_self, true_and, and_true, not_true_eq_false, not_false_eq_true, ↓reduceIte, eq_self, zq_01, zq_10, zq_m0, zq_m1, zq_0m, zq_1m, zq_2, zq_6, zq_8, zq_10z, zq_12, zq_1000, Int32.reduceLT, Int32.reduceLE, Int32.reduceToInt, Int32.reduceToNatClampNeg, Int32.reduceOfNat, Int.reduceLT, Int.reduceLE, Int.reduceEq, Nat.reduceLeDiff, Nat.reduceEqDiff, zl_2, zl_8, zl_12, zl_50, zl_132, zl_133, zl_134, zl_999, zl_10000, zb_0, zb_1, zb_or, zsO.2, zmO.2, znO.2, zdO.2, zrO.2, zhO.2, zgO.2, zuO.2, zlH.2, zlU.2, zlS.2]
        apply e128_0
        simp only [hv, q20_2, q124, h1, ht, hb, hcp, hin, q45 a1 a2 a3 a5, y5, zq_02, zq_12', zq_20, zq_21, zq_23, zq_30, zq_31, zq_32, true_or, or_true, false_or, or_false, or_self, and_self, true_and, and_true, not_true_eq_false, not_false_eq_true, ↓reduceIte, eq_self, zq_01, zq_10, zq_m0, zq_m1, zq_0m, zq_1m, zq_2, zq_6, zq_8, zq_10z, zq_12, zq_1000, Int32.reduceLT, Int32.reduceLE, Int32.reduceToInt, Int32.reduceToNatClampNeg, Int32.reduceOfNat, Int.reduceLT, Int.reduceLE, Int.reduceEq, Nat.reduceLeDiff, Nat.reduceEqDiff, zl_2, zl_8, zl_12, zl_50, zl_132, zl_133, zl_134, zl_999, zl_10000, zb_0, zb_1, zb_or, zsO.2, zmO.2, znO.2, zdO.2, zrO.2, zhO.2, zgO.2, zuO.2, zlH.2, zlU.2, zlS.2]
        apply hE
        apply e240_178
        simp only [hv, q165, q169, h2, ht, hb, hcp, hin, q210 a1 a4, q234 (show p < 12 by omega), nI_l16, nI_l28, nI_l40, nI_l52, i16, i28, i40, i52, k16, k28, k40, k52, y6, zq_02, zq_12', zq_20, zq_21, zq_23, zq_30, zq_31, zq_32, true_or, or_true, false_or, or_false, or_self, and_self, true_and, and_true, not_true_eq_false, not_false_eq_true, ↓reduceIte, eq_self, zq_01, zq_10, zq_m0, zq_m1, zq_0m, zq_1m, zq_2, zq_6, zq_8, zq_10z, zq_12, zq_1000, Int32.reduceLT, Int32.reduceLE, Int32.reduceToInt, Int32.reduceToNatClampNeg, Int32.reduceOfNat, Int.reduceLT, Int.reduceLE, Int.reduceEq, Nat.reduceLeDiff, Nat.reduceEqDiff, zl_2, zl_8, zl_12, zl_50, zl_132, zl_133, zl_134, zl_999, zl_10000, zb_0, zb_1, zb_or, zsO.2, zmO.2, znO.2, zdO.2, zrO.2, zhO.2, zgO.2, zuO.2, zlH.2, zlU.2, zlS.2]
        exact ⟨rfl, hR⟩
    by_cases ha3 : a = 3
    · subst ha3
      by_cases hf : nI kn - 1 = -1
      · apply e127_0
        simp only [q20_2, q124, h1, ht, hb, hcp, hin, q45 a1 a2 a3 a5, y5, zq_02, zq_12', zq_20, zq_21, zq_23, zq_30, zq_31, zq_32, true_or, or_true, false_or, or_false, or_self, and_self, true_and, and_true, not_true_eq_false, not_false_eq_true, ↓reduceIte, eq_self, zq_01, zq_10, zq_m0, zq_m1, zq_0m, zq_1m, zq_2, zq_6, zq_8, zq_10z, zq_12, zq_1000, Int32.reduceLT, Int32.reduceLE, Int32.reduceToInt, Int32.reduceToNatClampNeg, Int32.reduceOfNat, Int.reduceLT, Int.reduceLE, Int.reduceEq, Nat.reduceLeDiff, Nat.reduceEqDiff, zl_2, zl_8, zl_12, zl_50, zl_132, zl_133, zl_134, zl_999, zl_10000, zb_0, zb_1, zb_or, zsO.2, zmO.2, znO.2, zdO.2, zrO.2, zhO.2, zgO.2, zuO.2, zlH.2, zlU.2, zlS.2]
        apply e128_0
        simp only [hf, q20_2, q124, h1, ht, hb, hcp, hin, q45 a1 a2 a3 a5, y5, zq_02, zq_12', zq_20, zq_21, zq_23, zq_30, zq_31, zq_32, true_or, or_true, false_or, or_false, or_self, and_self, true_and, and_true, not_true_eq_false, not_false_eq_true, ↓reduceIte, eq_self, zq_01, zq_10, zq_m0, zq_m1, zq_0m, zq_1m, zq_2, zq_6, zq_8, zq_10z, zq_12, zq_1000, Int32.reduceLT, Int32.reduceLE, Int32.reduceToInt, Int32.reduceToNatClampNeg, Int32.reduceOfNat, Int.reduceLT, Int.reduceLE, Int.reduceEq, Nat.reduceLeDiff, Nat.reduceEqDiff, zl_2, zl_8, zl_12, zl_50, zl_132, zl_133, zl_134, zl_999, zl_10000, zb_0, zb_1, zb_or, zsO.2, zmO.2, znO.2, zdO.2, zrO.2, zhO.2, zgO.2, zuO.2, zlH.2, zlU.2, zlS.2]
        apply hE
        apply e240_178
        simp only [hf, q165, q169, h2, ht, hb, hcp, hin, q210 a1 a4, q234 (show p < 12 by omega), nI_l16, nI_l28, nI_l40, nI_l52, i16, i28, i40, i52, k16, k28, k40, k52, y6, zq_02, zq_12', zq_20, zq_21, zq_23, zq_30, zq_31, zq_32, true_or, or_true, false_or, or_false, or_self, and_self, true_and, and_true, not_true_eq_false, not_false_eq_true, ↓reduceIte, eq_self, zq_01, zq_10, zq_m0, zq_m1, zq_0m, zq_1m, zq_2, zq_6, zq_8, zq_10z, zq_12, zq_1000, Int32.reduceLT, Int32.reduceLE, Int32.reduceToInt, Int32.reduceToNatClampNeg, Int32.reduceOfNat, Int.reduceLT, Int.reduceLE, Int.reduceEq, Nat.reduceLeDiff, Nat.reduceEqDiff, zl_2, zl_8, zl_12, zl_50, zl_132, zl_133, zl_134, zl_999, zl_10000, zb_0, zb_1, zb_or, zsO.2, zmO.2, znO.2, zdO.2, zrO.2, zhO.2, zgO.2, zuO.2, zlH.2, zlU.2, zlS.2]
        exact ⟨rfl, hR⟩
      · apply e127_0
        simp only [q20_2, q124, h1, ht, hb, hcp, hin, q45 a1 a2 a3 a5, y5, zq_02, zq_12', zq_20, zq_21, zq_23, zq_30, zq_31, zq_32, true_or, or_true, false_or, or_false, or_self, and_self, true_and, and_true, not_true_eq_false, not_false_eq_true, ↓reduceIte, eq_self, zq_01, zq_10, zq_m0, zq_m1, zq_0m, zq_1m, zq_2, zq_6, zq_8, zq_10z, zq_12, zq_1000, Int32.reduceLT, Int32.reduceLE, Int32.reduceToInt, Int32.reduceToNatClampNeg, Int32.reduceOfNat, Int.reduceLT, Int.reduceLE, Int.reduceEq, Nat.reduceLeDiff, Nat.reduceEqDiff, zl_2, zl_8, zl_12, zl_50, zl_132, zl_133, zl_134, zl_999, zl_10000, zb_0, zb_1, zb_or, zsO.2, zmO.2, znO.2, zdO.2, zrO.2, zhO.2, zgO.2, zuO.2, zlH.2, zlU.2, zlS.2]
        apply e128_0
        simp only [hf, q20_2, q124, h1, ht, hb, hcp, hin, q45 a1 a2 a3 a5, y5, zq_02, zq_12', zq_20, zq_21, zq_23, zq_30, zq_31, zq_32, true_or, or_true, false_or, or_false, or_self, and_self, true_and, and_true, not_true_eq_false, not_false_eq_true, ↓reduceIte, eq_self, zq_01, zq_10, zq_m0, zq_m1, zq_0m, zq_1m, zq_2, zq_6, zq_8, zq_10z, zq_12, zq_1000, Int32.reduceLT, Int32.reduceLE, Int32.reduceToInt, Int32.reduceToNatClampNeg, Int32.reduceOfNat, Int.reduceLT, Int.reduceLE, Int.reduceEq, Nat.reduceLeDiff, Nat.reduceEqDiff, zl_2, zl_8, zl_12, zl_50, zl_132, zl_133, zl_134, zl_999, zl_10000, zb_0, zb_1, zb_or, zsO.2, zmO.2, znO.2, zdO.2, zrO.2, zhO.2, zgO.2, zuO.2, zlH.2, zlU.2, zlS.2]
        apply hE
        apply e240_178
        simp only [hf, q165, q169, h2, ht, hb, hcp, hin, q210 a1 a4, q234 (show p < 12 by omega), nI_l16, nI_l28, nI_l40, nI_l52, i16, i28, i40, i52, k16, k28, k40, k52, y6, zq_02, zq_12', zq_20, zq_21, zq_23, zq_30, zq_31, zq_32, true_or, or_true, false_or, or_false, or_self, and_self, true_and, and_true, not_true_eq_false, not_false_eq_true, ↓reduceIte, eq_self, zq_01, zq_10, zq_m0, zq_m1, zq_0m, zq_1m, zq_2, zq_6, zq_8, zq_10z, zq_12, zq_1000, Int32.reduceLT, Int32.reduceLE, Int32.reduceToInt, Int32.reduceToNatClampNeg, Int32.reduceOfNat, Int.reduceLT, Int.reduceLE, Int.reduceEq, Nat.reduceLeDiff, Nat.reduceEqDiff, zl_2, zl_8, zl_12, zl_50, zl_132, zl_133, zl_134, zl_999, zl_10000, zb_0, zb_1, zb_or, zsO.2, zmO.2, znO.2, zdO.2, zrO.2, zhO.2, zgO.2, zuO.2, zlH.2, zlU.2, zlS.2]
        refine ⟨rfl, ?_⟩
        exact zRel_N (p := p) (k := 0) (by omega) (by omega) hRK
    apply e127_0
    simp only [q20_2, q124, h1, ht, hb, hcp, hin, q45 a1 a2 a3 a5, y5, zq_02, zq_12', zq_20, zq_21, zq_23, zq_30, zq_31, zq_32, true_or, or_true, false_or, or_false, or_self, and_self, true_and, and_true, not_true_eq_false, not_false_eq_true, ↓reduceIte, eq_self, zq_01, zq_10, zq_m0, zq_m1, zq_0m, zq_1m, zq_2, zq_6, zq_8, zq_10z, zq_12, zq_1000, Int32.reduceLT, Int32.reduceLE, Int32.reduceToInt, Int32.reduceToNatClampNeg, Int32.reduceOfNat, Int.reduceLT, Int.reduceLE, Int.reduceEq, Nat.reduceLeDiff, Nat.reduceEqDiff, zl_2, zl_8, zl_12, zl_50, zl_132, zl_133, zl_134, zl_999, zl_10000, zb_0, zb_1, zb_or, zsO.2, zmO.2, znO.2, zdO.2, zrO.2, zhO.2, zgO.2, zuO.2, zlH.2, zlU.2, zlS.2]
    apply e128_0
    simp only [ha0, ha1, ha2, ha3, q20_2, q124, h1, ht, hb, hcp, hin, q45 a1 a2 a3 a5, y5, zq_02, zq_12', zq_20, zq_21, zq_23, zq_30, zq_31, zq_32, true_or, or_true, false_or, or_false, or_self, and_self, true_and, and_true, not_true_eq_false, not_false_eq_true, ↓reduceIte, eq_self, zq_01, zq_10, zq_m0, zq_m1, zq_0m, zq_1m, zq_2, zq_6, zq_8, zq_10z, zq_12, zq_1000, Int32.reduceLT, Int32.reduceLE, Int32.reduceToInt, Int32.reduceToNatClampNeg, Int32.reduceOfNat, Int.reduceLT, Int.reduceLE, Int.reduceEq, Nat.reduceLeDiff, Nat.reduceEqDiff, zl_2, zl_8, zl_12, zl_50, zl_132, zl_133, zl_134, zl_999, zl_10000, zb_0, zb_1, zb_or, zsO.2, zmO.2, znO.2, zdO.2, zrO.2, zhO.2, zgO.2, zuO.2, zlH.2, zlU.2, zlS.2]
    apply hE
    apply e240_178
    simp only [ha0, ha1, ha2, ha3, q165, q169, h2, ht, hb, hcp, hin, q210 a1 a4, q234 (show p < 12 by omega), nI_l16, nI_l28, nI_l40, nI_l52, i16, i28, i40, i52, k16, k28, k40, k52, y6, zq_02, zq_12', zq_20, zq_21, zq_23, zq_30, zq_31, zq_32, true_or, or_true, false_or, or_false, or_self, and_self, true_and, and_true, not_true_eq_false, not_false_eq_true, ↓reduceIte, eq_self, zq_01, zq_10, zq_m0, zq_m1, zq_0m, zq_1m, zq_2, zq_6, zq_8, zq_10z, zq_12, zq_1000, Int32.reduceLT, Int32.reduceLE, Int32.reduceToInt, Int32.reduceToNatClampNeg, Int32.reduceOfNat, Int.reduceLT, Int.reduceLE, Int.reduceEq, Nat.reduceLeDiff, Nat.reduceEqDiff, zl_2, zl_8, zl_12, zl_50, zl_132, zl_133, zl_134, zl_999, zl_10000, zb_0, zb_1, zb_or, zsO.2, zmO.2, znO.2, zdO.2, zrO.2, zhO.2, zgO.2, zuO.2, zlH.2, zlU.2, zlS.2]
    exact ⟨rfl, hR⟩
  · apply e127_0
    simp only [q20_2, h1, ht, hb, true_or, or_true, false_or, or_false, or_self, and_self, true_and, and_true, not_true_eq_false, not_false_eq_true, ↓reduceIte, eq_self, zq_01, zq_10, zq_m0, zq_m1, zq_0m, zq_1m, zq_2, zq_6, zq_8, zq_10z, zq_12, zq_1000, Int32.reduceLT, Int32.reduceLE, Int32.reduceToInt, Int32.reduceToNatClampNeg, Int32.reduceOfNat, Int.reduceLT, Int.reduceLE, Int.reduceEq, Nat.reduceLeDiff, Nat.reduceEqDiff, zl_2, zl_8, zl_12, zl_50, zl_132, zl_133, zl_134, zl_999, zl_10000, zb_0, zb_1, zb_or]
    apply hE
    apply e240_178
    simp only [q169, h2, ht, hb, true_or, or_true, false_or, or_false, or_self, and_self, true_and, and_true, not_true_eq_false, not_false_eq_true, ↓reduceIte, eq_self, zq_01, zq_10, zq_m0, zq_m1, zq_0m, zq_1m, zq_2, zq_6, zq_8, zq_10z, zq_12, zq_1000, Int32.reduceLT, Int32.reduceLE, Int32.reduceToInt, Int32.reduceToNatClampNeg, Int32.reduceOfNat, Int.reduceLT, Int.reduceLE, Int.reduceEq, Nat.reduceLeDiff, Nat.reduceEqDiff, zl_2, zl_8, zl_12, zl_50, zl_132, zl_133, zl_134, zl_999, zl_10000, zb_0, zb_1, zb_or]
    exact ⟨rfl, hR⟩

/-! who sounds; look -/
def zso (N : Nat → Int32) (i s : Nat) : Nat := if N i = -1 then s else s ||| 2 ^ i
theorem zso_lt {N : Nat → Int32} {n : Nat} (hn : n ≤ 12) : zfold (zso N) n 0 0 < 4096 := by
  have h := zfold_inv (st := zso N) (I := fun _ s => s < 4096) n (fun i s hi hs => by
    unfold zso
    split
    · exact hs
    · have h1 : 2 ^ i < 2 ^ 12 := Nat.pow_lt_pow_right (by omega) (by omega)
      exact Nat.or_lt_two_pow (n := 12) hs h1) n 0 0 (by omega) (by omega)
  exact h
theorem q24_2 {X : Nat × (Nat → Int32)} {d : Nat} {f : Nat → Nat → Int32} {g : Nat → Nat → Int64} {K : Int32 → (Nat → Nat → Int32) → (Nat → Nat → Int64) → Prop} {n : Nat} (hn : n ≤ 12) (h : f 2 8 = nI n) : zCpi X (d + 1) 24 [.ref 2] (zs f g) K = K (nI (zfold (zso (f 7)) n 0 0)) f g := by
  refine zCpi_eq (fun K hK => e24_2 ?_)
  refine zloop (st := zso (f 7)) (W := fun i s => zWp X (d + 0) zm24 4 [.ref 2, .int (nI s), .int (nI i)] [] (zs f g) (zQi K)) (E := fun s => K (nI s) f g) n ?_ ?_ n 0 0 (by omega) hK
  · intro s hs
    apply s24_4_2
    rw [h, if_pos (nI_le (by omega) (by omega))]
    exact hs
  · intro i s hi hs
    unfold zso at hs
    apply s24_4_2
    rw [h, if_neg (nI_ge (by omega) (by omega)), if_neg (nI_in (by omega) (by omega)), nI_cl (by omega), nI_1, zhO.2, zsh1 _ (by omega), nx_or]
    split
    · next e => rw [if_pos e] at hs; exact hs
    · next e => rw [if_neg e] at hs; exact hs
theorem q24_138 {X : Nat × (Nat → Int32)} {d : Nat} {f : Nat → Nat → Int32} {g : Nat → Nat → Int64} {K : Int32 → (Nat → Nat → Int32) → (Nat → Nat → Int64) → Prop} {n : Nat} (hn : n ≤ 12) (h : f 138 8 = nI n) : zCpi X (d + 1) 24 [.ref 138] (zs f g) K = K (nI (zfold (zso (f 143)) n 0 0)) f g := by
  refine zCpi_eq (fun K hK => e24_138 ?_)
  refine zloop (st := zso (f 143)) (W := fun i s => zWp X (d + 0) zm24 4 [.ref 138, .int (nI s), .int (nI i)] [] (zs f g) (zQi K)) (E := fun s => K (nI s) f g) n ?_ ?_ n 0 0 (by omega) hK
  · intro s hs
    apply s24_4_138
    rw [h, if_pos (nI_le (by omega) (by omega))]
    exact hs
  · intro i s hi hs
    unfold zso at hs
    apply s24_4_138
    rw [h, if_neg (nI_ge (by omega) (by omega)), if_neg (nI_in (by omega) (by omega)), nI_cl (by omega), nI_1, zhO.2, zsh1 _ (by omega), nx_or]
    split
    · next e => rw [if_pos e] at hs; exact hs
    · next e => rw [if_neg e] at hs; exact hs
theorem q23_138 {X : Nat × (Nat → Int32)} {d : Nat} {f : Nat → Nat → Int32} {g : Nat → Nat → Int64} {K : Int32 → (Nat → Nat → Int32) → (Nat → Nat → Int64) → Prop} {n : Nat} (hn : n ≤ 12) (h : f 138 8 = nI n) : zCpi X (d + 2) 23 [.ref 138] (zs f g) K = K (nI (zpc 12 (zfold (zso (f 143)) n 0 0))) f g := by
  refine zCpi_eq (fun K hK => e23_138 ?_)
  rw [q24_138 hn h, q284n (zso_lt hn)]
  exact hK
theorem q24_148 {X : Nat × (Nat → Int32)} {d : Nat} {f : Nat → Nat → Int32} {g : Nat → Nat → Int64} {K : Int32 → (Nat → Nat → Int32) → (Nat → Nat → Int64) → Prop} {n : Nat} (hn : n ≤ 12) (h : f 148 8 = nI n) : zCpi X (d + 1) 24 [.ref 148] (zs f g) K = K (nI (zfold (zso (f 153)) n 0 0)) f g := by
  refine zCpi_eq (fun K hK => e24_148 ?_)
  refine zloop (st := zso (f 153)) (W := fun i s => zWp X (d + 0) zm24 4 [.ref 148, .int (nI s), .int (nI i)] [] (zs f g) (zQi K)) (E := fun s => K (nI s) f g) n ?_ ?_ n 0 0 (by omega) hK
  · intro s hs
    apply s24_4_148
    rw [h, if_pos (nI_le (by omega) (by omega))]
    exact hs
  · intro i s hi hs
    unfold zso at hs
    apply s24_4_148
    rw [h, if_neg (nI_ge (by omega) (by omega)), if_neg (nI_in (by omega) (by omega)), nI_cl (by omega), nI_1, zhO.2, zsh1 _ (by omega), nx_or]
    split
    · next e => rw [if_pos e] at hs; exact hs
    · next e => rw [if_neg e] at hs; exact hs
theorem q23_148 {X : Nat × (Nat → Int32)} {d : Nat} {f : Nat → Nat → Int32} {g : Nat → Nat → Int64} {K : Int32 → (Nat → Nat → Int32) → (Nat → Nat → Int64) → Prop} {n : Nat} (hn : n ≤ 12) (h : f 148 8 = nI n) : zCpi X (d + 2) 23 [.ref 148] (zs f g) K = K (nI (zpc 12 (zfold (zso (f 153)) n 0 0))) f g := by
  refine zCpi_eq (fun K hK => e23_148 ?_)
  rw [q24_148 hn h, q284n (zso_lt hn)]
  exact hK
theorem q24_159 {X : Nat × (Nat → Int32)} {d : Nat} {f : Nat → Nat → Int32} {g : Nat → Nat → Int64} {K : Int32 → (Nat → Nat → Int32) → (Nat → Nat → Int64) → Prop} {n : Nat} (hn : n ≤ 12) (h : f 159 8 = nI n) : zCpi X (d + 1) 24 [.ref 159] (zs f g) K = K (nI (zfold (zso (f 164)) n 0 0)) f g := by
  refine zCpi_eq (fun K hK => e24_159 ?_)
  refine zloop (st := zso (f 164)) (W := fun i s => zWp X (d + 0) zm24 4 [.ref 159, .int (nI s), .int (nI i)] [] (zs f g) (zQi K)) (E := fun s => K (nI s) f g) n ?_ ?_ n 0 0 (by omega) hK
  · intro s hs
    apply s24_4_159
    rw [h, if_pos (nI_le (by omega) (by omega))]
    exact hs
  · intro i s hi hs
    unfold zso at hs
    apply s24_4_159
    rw [h, if_neg (nI_ge (by omega) (by omega)), if_neg (nI_in (by omega) (by omega)), nI_cl (by omega), nI_1, zhO.2, zsh1 _ (by omega), nx_or]
    split
    · next e => rw [if_pos e] at hs; exact hs
    · next e => rw [if_neg e] at hs; exact hs
theorem q23_159 {X : Nat × (Nat → Int32)} {d : Nat} {f : Nat → Nat → Int32} {g : Nat → Nat → Int64} {K : Int32 → (Nat → Nat → Int32) → (Nat → Nat → Int64) → Prop} {n : Nat} (hn : n ≤ 12) (h : f 159 8 = nI n) : zCpi X (d + 2) 23 [.ref 159] (zs f g) K = K (nI (zpc 12 (zfold (zso (f 164)) n 0 0))) f g := by
  refine zCpi_eq (fun K hK => e23_159 ?_)
  rw [q24_159 hn h, q284n (zso_lt hn)]
  exact hK
theorem q237 {X : Nat × (Nat → Int32)} {d : Nat} {f : Nat → Nat → Int32} {g : Nat → Nat → Int64} {K : Int32 → (Nat → Nat → Int32) → (Nat → Nat → Int64) → Prop} {n : Nat} (hn : n ≤ 12) (h : f 178 7 = nI n) : zCpi X (d + 2) 237 [.ref 178] (zs f g) K = K (nI (zfold (zso (fun p => f 179 (28 + p) - 1)) n 0 0)) f g := by
  refine zCpi_eq (fun K hK => e237_178 ?_)
  refine zloop (st := zso (fun p => f 179 (28 + p) - 1)) (W := fun i s => zWp X (d + 1) zm237 4 [.ref 178, .int (nI s), .int (nI i)] [] (zs f g) (zQi K)) (E := fun s => K (nI s) f g) n ?_ ?_ n 0 0 (by omega) hK
  · intro s hs
    apply s237_4_178
    rw [h, if_pos (nI_le (by omega) (by omega))]
    exact hs
  · intro i s hi hs
    unfold zso at hs
    apply s237_4_178
    rw [h, if_neg (nI_ge (by omega) (by omega)), q234 (by omega), nI_1, zhO.2, zsh1 _ (by omega), nx_or]
    split
    · next e => rw [if_pos e] at hs; exact hs
    · next e => rw [if_neg e] at hs; exact hs
/-- the same ones sound on both sides -/
theorem zHal_so {c st un bt pl : Int32} {L E Xs Ys N O A W w er : Nat → Int32} {B : Int} {n : Nat} (h : zHal c st un bt L E Xs Ys N O A W w pl er B) (hc : c = nI n) (hn : n ≤ 12) : zfold (zso (fun p => w (28 + p) - 1)) n 0 0 = zfold (zso N) n 0 0 := by
  obtain ⟨n', hn', h1, h2, h3, h4, h5, h6, h7, h8⟩ := h
  have en : n' = n := (nI_eq (by omega) (by omega)).mp (h1.symm.trans hc)
  subst en
  refine zfold_congr _ _ _ (fun p s _ hp => ?_)
  obtain ⟨-, -, -, ⟨k, hk, e1, e2⟩, -⟩ := h8 p (by omega)
  unfold zso
  simp only [e1, e2]
def zbk (P k c : Nat) : Nat := if P.testBit k = true then c + 1 else c
theorem zbk_pc {P : Nat} : ∀ m i c, zfold (zbk P) m i c = c + zpc m (P / 2 ^ i)
  | 0, i, c => rfl
  | m + 1, i, c => by
    have ih := zbk_pc (P := P) m (i + 1) (zbk P i c)
    show zfold (zbk P) m (i + 1) (zbk P i c) = c + ((P / 2 ^ i) % 2 + zpc m (P / 2 ^ i / 2))
    rw [ih, show P / 2 ^ i / 2 = P / 2 ^ (i + 1) by rw [Nat.div_div_eq_div_mul, Nat.pow_succ]]
    unfold zbk
    rw [Nat.testBit_eq_decide_div_mod_eq]
    by_cases h : P / 2 ^ i % 2 = 1
    · rw [if_pos (decide_eq_true h), h]; omega
    · rw [if_neg (fun z => h (of_decide_eq_true z)), show P / 2 ^ i % 2 = 0 by omega]; omega
theorem l283 {X : Nat × (Nat → Int32)} {d : Nat} {f : Nat → Nat → Int32} {g : Nat → Nat → Int64} {K : Int32 → (Nat → Nat → Int32) → (Nat → Nat → Int64) → Prop} {P : Nat} {x : Int32} (hp : ∀ k, k < 48 → f 197 k = if P.testBit k = true then 1 else 0) (hK : K (nI (zpc 48 P)) f g) : zWp X (d + 1) zm283 143 [.ref 178, .int x, .int 0, .int 0] [] (zs f g) (zQi K) := by
  have e := zbk_pc (P := P) 48 0 0
  rw [Nat.zero_add, Nat.pow_zero, Nat.div_one] at e
  rw [← e] at hK
  refine zloop (st := zbk P) (W := fun i c => zWp X (d + 1) zm283 143 [.ref 178, .int x, .int (nI c), .int (nI i)] [] (zs f g) (zQi K)) (E := fun c => K (nI c) f g) 48 ?_ ?_ 48 0 0 (by omega) hK
  · intro c hc
    apply s283_143_178
    rw [if_pos (show (48 : Int32) ≤ nI 48 from by decide)]
    exact hc
  · intro i c hi hc
    unfold zbk at hc
    apply s283_143_178
    rw [if_neg (show ¬ (48 : Int32) ≤ nI i from nI_ge (b := 48) (by omega) (by omega)), if_neg (nI_in (by omega) (by omega)), nI_cl (by omega), hp i hi, nI_1]
    by_cases h : P.testBit i = true
    · rw [if_pos h] at hc
      rw [if_pos h, nI_1]
      exact hc
    · rw [if_neg h] at hc
      rw [if_neg h, Int32.add_zero]
      exact hc
set_option maxHeartbeats 2000000 in
theorem op_look {X : Nat × (Nat → Int32)} {d : Nat} {a : Int32} : zOp X (d + 3) 160 283 [.int a] := by
  intro fc fr gc gr hR
  obtain ⟨⟨c1, c2, c3, c4, c5, c6, c7, c8, c9, c10, c11⟩, c12, c13, c14, c15, c16⟩ := hR
  have hR0 : zRel fc gc (zuI fr 178 0 0) := by
    refine ⟨⟨?_, ?_, ?_, ?_, ?_, ?_, ?_, ?_, ?_, ?_, ?_⟩, ?_, ?_, ?_, ?_, ?_⟩
    all_goals try (first | assumption | (simp only [zi_ne, zi_at, zr_ne, zr_at, zj_ne, zj_at, ↓reduceIte, Nat.reduceEqDiff, not_false_eq_true, eq_self, nI_1]; assumption) | (simp only [zi_ne, zi_at, zr_ne, zr_at, zj_ne, zj_at, ↓reduceIte, Nat.reduceEqDiff, not_false_eq_true, eq_self, nI_1]; exact zRow_nil) | (exact zPas_frame (fun i _ _ => by first | rfl | (repeat (first | rw [zi_ne (by omega)] | rw [zr_ne (by omega)]))) (by first | rfl | (simp only [zi_ne, zi_at, zr_ne, zr_at, zj_ne, zj_at, ↓reduceIte, Nat.reduceEqDiff, not_false_eq_true, eq_self, nI_1])) (fun i _ _ => rfl) rfl (by first | rfl | (simp only [zi_ne, zi_at, zr_ne, zr_at, zj_ne, zj_at, ↓reduceIte, Nat.reduceEqDiff, not_false_eq_true, eq_self, nI_1])) (by first | rfl | (simp only [zi_ne, zi_at, zr_ne, zr_at, zj_ne, zj_at, ↓reduceIte, Nat.reduceEqDiff, not_false_eq_true, eq_self, nI_1])) (by first | rfl | (simp only [zi_ne, zi_at, zr_ne, zr_at, zj_ne, zj_at, ↓reduceIte, Nat.reduceEqDiff, not_false_eq_true, eq_self, nI_1])) (by first | rfl | (simp only [zi_ne, zi_at, zr_ne, zr_at, zj_ne, zj_at, ↓reduceIte, Nat.reduceEqDiff, not_false_eq_true, eq_self, nI_1])) c14) | (exact zIma_frame (by first | rfl | (simp only [zi_ne, zi_at, zr_ne, zr_at, zj_ne, zj_at, ↓reduceIte, Nat.reduceEqDiff, not_false_eq_true, eq_self, nI_1])) (fun i _ _ => by first | rfl | (repeat (first | rw [zi_ne (by omega)] | rw [zr_ne (by omega)]))) rfl (by first | rfl | (simp only [zi_ne, zi_at, zr_ne, zr_at, zj_ne, zj_at, ↓reduceIte, Nat.reduceEqDiff, not_false_eq_true, eq_self, nI_1])) (by first | rfl | (simp only [zi_ne, zi_at, zr_ne, zr_at, zj_ne, zj_at, ↓reduceIte, Nat.reduceEqDiff, not_false_eq_true, eq_self, nI_1])) c15))
  obtain ⟨n, hn, h1, h2, h3, h4, h5, h6, h7, h8⟩ := id c9
  obtain ⟨⟨P, hP, p1, p2⟩, p3⟩ := id c10
  obtain ⟨kb, hkb, b1, b2, b3⟩ := id c11
  obtain ⟨kl, hkl, l1, l2, l3⟩ := id c6
  obtain ⟨ks, hks, s1, s2, s3⟩ := id c7
  obtain ⟨kt, nt, hkt, hnt, t1, t2, t3, t4⟩ := id c8
  obtain ⟨sp, pp, mm, y1, y2, y3, y4, y5, y6, y6', y7⟩ := id c14
  have hso := zHal_so c9 h1 hn
  have e2' : zuI fr 178 0 0 178 7 = nI n := by simp only [zi_ne, zi_at, zr_ne, zr_at, zj_ne, zj_at, ↓reduceIte, Nat.reduceEqDiff, not_false_eq_true, eq_self, nI_1]; exact h2
  have r179 : zuI fr 178 0 0 179 = fr 179 := by simp only [zi_ne, zi_at, zr_ne, zr_at, zj_ne, zj_at, ↓reduceIte, Nat.reduceEqDiff, not_false_eq_true, eq_self, nI_1]
  have z3 : ¬ ((3 : Int32) < 0 ∨ 76 ≤ (3 : Int32).toNatClampNeg) := by decide
  have z0 : ¬ ((0 : Int32) < 0 ∨ 76 ≤ (0 : Int32).toNatClampNeg) := by decide
  have z2 : ¬ ((2 : Int32) < 0 ∨ 76 ≤ (2 : Int32).toNatClampNeg) := by decide
  have z1 : ¬ ((1 : Int32) < 0 ∨ 76 ≤ (1 : Int32).toNatClampNeg) := by decide
  have z00 : ¬ ((0 : Int32) < 0 ∨ 2 ≤ (0 : Int32).toNatClampNeg) := by decide
  by_cases n0 : a = 0
  · subst n0
    apply e160_0
    rw [if_pos rfl]
    apply e283_178
    rw [if_pos rfl]
    exact ⟨h2.trans h1.symm, hR0⟩
  by_cases n1 : a = 1
  · subst n1
    apply e160_0
    rw [if_neg (show ¬ (1 : Int32) = 0 from by decide), if_pos rfl]
    rw [q24_2 hn h1]
    apply e283_178
    rw [if_neg (show ¬ (1 : Int32) = 0 from by decide), if_pos rfl]
    rw [q237 hn e2', r179, hso]
    exact ⟨rfl, hR0⟩
  by_cases n2 : a = 2
  · subst n2
    apply e160_0
    rw [if_neg (show ¬ (2 : Int32) = 0 from by decide), if_neg (show ¬ (2 : Int32) = 1 from by decide), if_pos rfl]
    apply e283_178
    rw [if_neg (show ¬ (2 : Int32) = 0 from by decide), if_neg (show ¬ (2 : Int32) = 1 from by decide), if_pos rfl]
    rw [if_neg z3]
    exact ⟨h4, hR0⟩
  by_cases n3 : a = 3
  · subst n3
    apply e160_0
    rw [if_neg (show ¬ (3 : Int32) = 0 from by decide), if_neg (show ¬ (3 : Int32) = 1 from by decide), if_neg (show ¬ (3 : Int32) = 2 from by decide), if_pos rfl]
    apply e283_178
    rw [if_neg (show ¬ (3 : Int32) = 0 from by decide), if_neg (show ¬ (3 : Int32) = 1 from by decide), if_neg (show ¬ (3 : Int32) = 2 from by decide), if_pos rfl]
    rw [if_neg z0]
    exact ⟨h5, hR0⟩
  by_cases n4 : a = 4
  · subst n4
    apply e160_0
    rw [if_neg (show ¬ (4 : Int32) = 0 from by decide), if_neg (show ¬ (4 : Int32) = 1 from by decide), if_neg (show ¬ (4 : Int32) = 2 from by decide), if_neg (show ¬ (4 : Int32) = 3 from by decide), if_pos rfl]
    apply e283_178
    rw [if_neg (show ¬ (4 : Int32) = 0 from by decide), if_neg (show ¬ (4 : Int32) = 1 from by decide), if_neg (show ¬ (4 : Int32) = 2 from by decide), if_neg (show ¬ (4 : Int32) = 3 from by decide), if_pos rfl]
    rw [if_neg z2]
    exact ⟨b2.trans b1.symm, hR0⟩
  by_cases n5 : a = 5
  · subst n5
    apply e160_0
    rw [if_neg (show ¬ (5 : Int32) = 0 from by decide), if_neg (show ¬ (5 : Int32) = 1 from by decide), if_neg (show ¬ (5 : Int32) = 2 from by decide), if_neg (show ¬ (5 : Int32) = 3 from by decide), if_neg (show ¬ (5 : Int32) = 4 from by decide), if_pos rfl]
    apply e283_178
    rw [if_neg (show ¬ (5 : Int32) = 0 from by decide), if_neg (show ¬ (5 : Int32) = 1 from by decide), if_neg (show ¬ (5 : Int32) = 2 from by decide), if_neg (show ¬ (5 : Int32) = 3 from by decide), if_neg (show ¬ (5 : Int32) = 4 from by decide), if_pos rfl]
    rw [if_neg z1]
    exact ⟨h3, hR0⟩
  by_cases n6 : a = 6
  · subst n6
    apply e160_0
    rw [if_neg (show ¬ (6 : Int32) = 0 from by decide), if_neg (show ¬ (6 : Int32) = 1 from by decide), if_neg (show ¬ (6 : Int32) = 2 from by decide), if_neg (show ¬ (6 : Int32) = 3 from by decide), if_neg (show ¬ (6 : Int32) = 4 from by decide), if_neg (show ¬ (6 : Int32) = 5 from by decide), if_pos rfl]
    apply e283_178
    rw [if_neg (show ¬ (6 : Int32) = 0 from by decide), if_neg (show ¬ (6 : Int32) = 1 from by decide), if_neg (show ¬ (6 : Int32) = 2 from by decide), if_neg (show ¬ (6 : Int32) = 3 from by decide), if_neg (show ¬ (6 : Int32) = 4 from by decide), if_neg (show ¬ (6 : Int32) = 5 from by decide), if_pos rfl]
    rw [if_neg z00]
    exact ⟨l2.trans l1.symm, hR0⟩
  by_cases n7 : a = 7
  · subst n7
    apply e160_0
    rw [if_neg (show ¬ (7 : Int32) = 0 from by decide), if_neg (show ¬ (7 : Int32) = 1 from by decide), if_neg (show ¬ (7 : Int32) = 2 from by decide), if_neg (show ¬ (7 : Int32) = 3 from by decide), if_neg (show ¬ (7 : Int32) = 4 from by decide), if_neg (show ¬ (7 : Int32) = 5 from by decide), if_neg (show ¬ (7 : Int32) = 6 from by decide), if_pos rfl]
    apply e283_178
    rw [if_neg (show ¬ (7 : Int32) = 0 from by decide), if_neg (show ¬ (7 : Int32) = 1 from by decide), if_neg (show ¬ (7 : Int32) = 2 from by decide), if_neg (show ¬ (7 : Int32) = 3 from by decide), if_neg (show ¬ (7 : Int32) = 4 from by decide), if_neg (show ¬ (7 : Int32) = 5 from by decide), if_neg (show ¬ (7 : Int32) = 6 from by decide), if_pos rfl]
    exact ⟨s2.trans s1.symm, hR0⟩
  by_cases n8 : a = 8
  · subst n8
    apply e160_0
    rw [if_neg (show ¬ (8 : Int32) = 0 from by decide), if_neg (show ¬ (8 : Int32) = 1 from by decide), if_neg (show ¬ (8 : Int32) = 2 from by decide), if_neg (show ¬ (8 : Int32) = 3 from by decide), if_neg (show ¬ (8 : Int32) = 4 from by decide), if_neg (show ¬ (8 : Int32) = 5 from by decide), if_neg (show ¬ (8 : Int32) = 6 from by decide), if_neg (show ¬ (8 : Int32) = 7 from by decide), if_pos rfl]
    apply e283_178
    rw [if_neg (show ¬ (8 : Int32) = 0 from by decide), if_neg (show ¬ (8 : Int32) = 1 from by decide), if_neg (show ¬ (8 : Int32) = 2 from by decide), if_neg (show ¬ (8 : Int32) = 3 from by decide), if_neg (show ¬ (8 : Int32) = 4 from by decide), if_neg (show ¬ (8 : Int32) = 5 from by decide), if_neg (show ¬ (8 : Int32) = 6 from by decide), if_neg (show ¬ (8 : Int32) = 7 from by decide), if_pos rfl]
    exact ⟨t2.trans t1.symm, hR0⟩
  by_cases n9 : a = 9
  · subst n9
    apply e160_0
    rw [if_neg (show ¬ (9 : Int32) = 0 from by decide), if_neg (show ¬ (9 : Int32) = 1 from by decide), if_neg (show ¬ (9 : Int32) = 2 from by decide), if_neg (show ¬ (9 : Int32) = 3 from by decide), if_neg (show ¬ (9 : Int32) = 4 from by decide), if_neg (show ¬ (9 : Int32) = 5 from by decide), if_neg (show ¬ (9 : Int32) = 6 from by decide), if_neg (show ¬ (9 : Int32) = 7 from by decide), if_neg (show ¬ (9 : Int32) = 8 from by decide), if_pos rfl]
    apply e283_178
    rw [if_neg (show ¬ (9 : Int32) = 0 from by decide), if_neg (show ¬ (9 : Int32) = 1 from by decide), if_neg (show ¬ (9 : Int32) = 2 from by decide), if_neg (show ¬ (9 : Int32) = 3 from by decide), if_neg (show ¬ (9 : Int32) = 4 from by decide), if_neg (show ¬ (9 : Int32) = 5 from by decide), if_neg (show ¬ (9 : Int32) = 6 from by decide), if_neg (show ¬ (9 : Int32) = 7 from by decide), if_neg (show ¬ (9 : Int32) = 8 from by decide), if_pos rfl]
    exact ⟨p3.symm, hR0⟩
  by_cases n10 : a = 10
  · subst n10
    apply e160_0
    rw [if_neg (show ¬ (10 : Int32) = 0 from by decide), if_neg (show ¬ (10 : Int32) = 1 from by decide), if_neg (show ¬ (10 : Int32) = 2 from by decide), if_neg (show ¬ (10 : Int32) = 3 from by decide), if_neg (show ¬ (10 : Int32) = 4 from by decide), if_neg (show ¬ (10 : Int32) = 5 from by decide), if_neg (show ¬ (10 : Int32) = 6 from by decide), if_neg (show ¬ (10 : Int32) = 7 from by decide), if_neg (show ¬ (10 : Int32) = 8 from by decide), if_neg (show ¬ (10 : Int32) = 9 from by decide), if_pos rfl]
    rw [p1, q285n hP]
    apply e283_178
    rw [if_neg (show ¬ (10 : Int32) = 0 from by decide), if_neg (show ¬ (10 : Int32) = 1 from by decide), if_neg (show ¬ (10 : Int32) = 2 from by decide), if_neg (show ¬ (10 : Int32) = 3 from by decide), if_neg (show ¬ (10 : Int32) = 4 from by decide), if_neg (show ¬ (10 : Int32) = 5 from by decide), if_neg (show ¬ (10 : Int32) = 6 from by decide), if_neg (show ¬ (10 : Int32) = 7 from by decide), if_neg (show ¬ (10 : Int32) = 8 from by decide), if_neg (show ¬ (10 : Int32) = 9 from by decide), if_neg (show ¬ (10 : Int32) = 11 from by decide), if_pos rfl]
    exact l283 (P := P) (fun k hk => by rw [zi_ne (by omega)]; exact p2 k hk) ⟨rfl, hR0⟩
  by_cases n11 : a = 11
  · subst n11
    apply e160_0
    rw [if_neg (show ¬ (11 : Int32) = 0 from by decide), if_neg (show ¬ (11 : Int32) = 1 from by decide), if_neg (show ¬ (11 : Int32) = 2 from by decide), if_neg (show ¬ (11 : Int32) = 3 from by decide), if_neg (show ¬ (11 : Int32) = 4 from by decide), if_neg (show ¬ (11 : Int32) = 5 from by decide), if_neg (show ¬ (11 : Int32) = 6 from by decide), if_neg (show ¬ (11 : Int32) = 7 from by decide), if_neg (show ¬ (11 : Int32) = 8 from by decide), if_neg (show ¬ (11 : Int32) = 9 from by decide), if_neg (show ¬ (11 : Int32) = 10 from by decide), if_pos rfl]
    apply e283_178
    rw [if_neg (show ¬ (11 : Int32) = 0 from by decide), if_neg (show ¬ (11 : Int32) = 1 from by decide), if_neg (show ¬ (11 : Int32) = 2 from by decide), if_neg (show ¬ (11 : Int32) = 3 from by decide), if_neg (show ¬ (11 : Int32) = 4 from by decide), if_neg (show ¬ (11 : Int32) = 5 from by decide), if_neg (show ¬ (11 : Int32) = 6 from by decide), if_neg (show ¬ (11 : Int32) = 7 from by decide), if_neg (show ¬ (11 : Int32) = 8 from by decide), if_neg (show ¬ (11 : Int32) = 9 from by decide), if_pos rfl]
    exact ⟨y4.trans y3.symm, hR0⟩
  apply e160_0
  rw [if_neg n0, if_neg n1, if_neg n2, if_neg n3, if_neg n4, if_neg n5, if_neg n6, if_neg n7, if_neg n8, if_neg n9, if_neg n10, if_neg n11]
  apply e283_178
  rw [if_neg n0, if_neg n1, if_neg n2, if_neg n3, if_neg n4, if_neg n5, if_neg n6, if_neg n7, if_neg n8, if_neg n9, if_neg n11, if_neg n10]
  exact ⟨rfl, hR0⟩

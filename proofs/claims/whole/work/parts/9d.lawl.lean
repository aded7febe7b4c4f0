/-! the law's lines -/
section ZLP
variable {X : Nat × (Nat → Int32)} {d e : Nat} {f r : Nat → Nat → Int32} {g gr : Nat → Nat → Int64} {b : Nat → Nat} {n N : Nat}
theorem q49l {F : Nat → Nat → Int32} {v : Int32} {K : Int32 → (Nat → Nat → Int32) → (Nat → Nat → Int64) → Prop} : zCpi X (d + 2) 49 [.int 0, .int v] (zs F g) K = K (zb ((128 : Int32).toInt ≤ v.toInt ∧ v.toInt ≤ (130 : Int32).toInt)) F g := by
  refine zCpi_eq (fun K hK => e49 ?_)
  rw [if_pos rfl, q124, if_pos (by rw [zb_or]; trivial)]
  exact hK
theorem lw_loop : ∀ (m : Nat) {l j c : Nat} {F R : Nat → Nat → Int32}, l + m = 16 → zJ f r b n N F R j → zCs F R c → c ≤ j → zLd F R l c → R 178 26 = 0 → R 178 24 = 0 →
    (∃ F' R' l' c', (∀ K : Int32 → (Nat → Nat → Int32) → (Nat → Nat → Int64) → Prop, K (nI l') F' g → zWp X (d + 22) zm48 54 [.ref 70, .int 0, .int (nI l), .null] [] (zs F g) (zQi K)) ∧ (∀ K : Int32 → (Nat → Nat → Int32) → (Nat → Nat → Int64) → Prop, K (nI l') R' gr → zWp X (e + 9) zm195 2 [.ref 178, .int (nI l), .null] [] (zs R gr) (zQi K)) ∧ zFg f F' ∧ zFb r R' ∧ zCs F' R' c' ∧ c' ≤ 400 ∧ zLd F' R' l' c' ∧ R' 178 24 = 0) ∨
    (∃ F' R', (∀ K : Int32 → (Nat → Nat → Int32) → (Nat → Nat → Int64) → Prop, K (-1) F' g → zWp X (d + 22) zm48 54 [.ref 70, .int 0, .int (nI l), .null] [] (zs F g) (zQi K)) ∧ (∀ K : Int32 → (Nat → Nat → Int32) → (Nat → Nat → Int64) → Prop, K (-1) R' gr → zWp X (e + 9) zm195 2 [.ref 178, .int (nI l), .null] [] (zs R gr) (zQi K)) ∧ zEr f r F' R') := by
  intro m
  have e128 : (128 : Int32).toInt = 128 := rfl
  have e130 : (130 : Int32).toInt = 130 := rfl
  induction m with
  | zero =>
    intro l j c F R hm h hs hcj hd h26 h24
    have hl : l = 16 := by omega
    subst hl
    obtain ⟨x1, x2, x3, x4, x5, x6, x7, x8, x9⟩ := id h
    have kl := zKn_le (b := b) (n := n) (N := N) (j := j)
    have hN : N ≤ 400 := x1.2.1
    by_cases k0 : zKn b n N j = 0
    · refine Or.inl ⟨F, R, 16, c, fun K hK => s48_54_70 ?_, fun K hK => s195_2_178 ?_, x8, x9, hs, by omega, hd, h24⟩
      · rw [if_neg (show ¬ (16 : Int32) < nI 16 by decide), x4, q85 x1 x5, if_pos (by rw [k0]; rfl)]
        exact hK
      · rw [q196n x7 (by omega), if_pos rfl, if_pos (by rw [zRk_end x7]; exact k0)]
        exact hK
    · by_cases k1 : 128 ≤ zKn b n N j ∧ zKn b n N j ≤ 130
      · refine Or.inr ⟨_, _, fun K hK => s48_54_70 ?_, fun K hK => s195_2_178 ?_, zJ_er (c := 3) h⟩
        · rw [if_neg (show ¬ (16 : Int32) < nI 16 by decide), x4, q85 x1 x5, if_neg (nI_z (by omega) (by omega)), q49l, if_neg (by rw [zb_0, nI_ti (by omega), e128, e130]; omega), if_pos (show nI 16 = (16 : Int32) from rfl), q50 x1 x2 x3 x4 x5]
          exact hK
        · rw [q196y (w := zKn b n N j - 128) x7 (by omega) (by omega), if_neg (by decide), if_pos (show nI 16 = (16 : Int32) from rfl), q183]
          exact hK
      · refine Or.inr ⟨_, _, fun K hK => s48_54_70 ?_, fun K hK => s195_2_178 ?_, zJ_er (c := 1) h⟩
        · rw [if_neg (show ¬ (16 : Int32) < nI 16 by decide), x4, q85 x1 x5, if_neg (nI_z (by omega) (by omega)), q49l, if_pos (by rw [zb_0, nI_ti (by omega), e128, e130]; omega), q50 x1 x2 x3 x4 x5]
          exact hK
        · rw [q196n x7 k1, if_pos rfl, if_neg (by rw [zRk_end x7]; exact k0), q183]
          exact hK
  | succ m ih =>
    intro l j c F R hm h hs hcj hd h26 h24
    have hl : l < 16 := by omega
    obtain ⟨x1, x2, x3, x4, x5, x6, x7, x8, x9⟩ := id h
    have kl := zKn_le (b := b) (n := n) (N := N) (j := j)
    have hN : N ≤ 400 := x1.2.1
    have l16 : ¬ (16 : Int32) < nI l := nI_nlt (a := 16) (by omega) (by omega)
    have e16 : ¬ nI l = (16 : Int32) := nI_neq (c := 16) (by omega) (by omega) (by omega)
    by_cases k0 : zKn b n N j = 0
    · refine Or.inl ⟨F, R, l, c, fun K hK => s48_54_70 ?_, fun K hK => s195_2_178 ?_, x8, x9, hs, by omega, hd, h24⟩
      · rw [if_neg l16, x4, q85 x1 x5, if_pos (by rw [k0]; rfl)]
        exact hK
      · rw [q196n x7 (by omega), if_pos rfl, if_pos (by rw [zRk_end x7]; exact k0)]
        exact hK
    · by_cases k1 : 128 ≤ zKn b n N j ∧ zKn b n N j ≤ 130
      · have ek : zKn b n N j = 128 + (zKn b n N j - 128) := by omega
        have hcf : ∀ K : Int32 → (Nat → Nat → Int32) → (Nat → Nat → Int64) → Prop, zCpi X (d + 22) 51 [.ref 70, .int (nI (128 + (zKn b n N j - 128)))] (zs (zuI F 70 3 (nI (j + 1))) g) (fun v15 f13 g14 => if v15 = 0 then (K (-1) f13 g14) else (zWp X (d + 22) zm48 54 [.ref 70, .int 0, .int (nI l + 1), .null] [] (zs f13 g14) (zQi K))) → zWp X (d + 22) zm48 54 [.ref 70, .int 0, .int (nI l), .null] [] (zs F g) (zQi K) := fun K hK => by
          apply s48_54_70
          rw [if_neg l16, x4, q85 x1 x5, if_neg (nI_z (by omega) (by omega)), q49l, if_neg (by rw [zb_0, nI_ti (by omega), e128, e130]; omega), if_neg e16, if_pos rfl, x4, nI_1]
          rw [← ek] at hK
          exact hK
        rcases lw_line (X := X) (d := d) (e := e) (g := g) (gr := gr) (w := zKn b n N j - 128) h (by omega) ek hs hcj hd hl h26 h24 with ⟨F1, R1, j1, c1, cl, rl, h1, hs1, hc1, hd1, a26, a24⟩ | ⟨F1, R1, cl, rl, er⟩
        · rcases ih (l := l + 1) (by omega) h1 hs1 hc1 hd1 a26 a24 with ⟨F', R', l', c', cl', rl', hh⟩ | ⟨F', R', cl', rl', er⟩
          · refine Or.inl ⟨F', R', l', c', fun K hK => hcf K (cl _ ?_), fun K hK => rl K (rl' K hK), hh⟩
            rw [if_neg (by decide), nI_1]
            exact cl' K hK
          · refine Or.inr ⟨F', R', fun K hK => hcf K (cl _ ?_), fun K hK => rl K (rl' K hK), er⟩
            rw [if_neg (by decide), nI_1]
            exact cl' K hK
        · refine Or.inr ⟨F1, R1, fun K hK => hcf K (cl _ ?_), rl, er⟩
          rw [if_pos rfl]
          exact hK
      · refine Or.inr ⟨_, _, fun K hK => s48_54_70 ?_, fun K hK => s195_2_178 ?_, zJ_er (c := 1) h⟩
        · rw [if_neg l16, x4, q85 x1 x5, if_neg (nI_z (by omega) (by omega)), q49l, if_pos (by rw [zb_0, nI_ti (by omega), e128, e130]; omega), q50 x1 x2 x3 x4 x5]
          exact hK
        · rw [q196n x7 k1, if_pos rfl, if_neg (by rw [zRk_end x7]; exact k0), q183]
          exact hK
end ZLP

/-! the sheets' loops: score and stage -/
section ZLO
variable {X : Nat × (Nat → Int32)} {d e : Nat} {f r F R : Nat → Nat → Int32} {g gr : Nat → Nat → Int64} {b : Nat → Nat} {n N j : Nat}
theorem q49s {a v : Int32} {K : Int32 → (Nat → Nat → Int32) → (Nat → Nat → Int64) → Prop} (ha : a = 1 ∨ a = 2) : zCpi X (d + 2) 49 [.int a, .int v] (zs F g) K = K (zb (v = 144)) F g := by
  refine zCpi_eq (fun K hK => e49 ?_)
  rw [if_neg (by rcases ha with rfl | rfl <;> decide), if_neg (by rcases ha with rfl | rfl <;> decide)]
  unfold zb at hK
  by_cases h : v = 144
  · rw [if_pos h] at hK ⊢
    rw [if_pos (Or.inr rfl)]
    exact hK
  · rw [if_neg h] at hK ⊢
    rw [if_pos (Or.inl rfl)]
    exact hK
theorem q49p {v : Int32} {K : Int32 → (Nat → Nat → Int32) → (Nat → Nat → Int64) → Prop} : zCpi X (d + 2) 49 [.int 3, .int v] (zs F g) K = K (zb (v = 149)) F g := by
  refine zCpi_eq (fun K hK => e49 ?_)
  rw [if_neg (by decide), if_pos rfl]
  unfold zb at hK
  by_cases h : v = 149
  · rw [if_pos h] at hK ⊢
    rw [if_pos (Or.inr rfl)]
    exact hK
  · rw [if_neg h] at hK ⊢
    rw [if_pos (Or.inl rfl)]
    exact hK
theorem sc_loop {np : Nat} (hnp : np ≤ 12) (hf8 : f 2 8 = nI np) (hr7 : r 178 7 = nI np) : ∀ (m : Nat) {k j : Nat} {F R : Nat → Nat → Int32}, k + m = 16 → zJ f r b n N F R j → zSd F R k →
    (∃ F' R' k', (∀ K : Int32 → (Nat → Nat → Int32) → (Nat → Nat → Int64) → Prop, K (nI k') F' g → zWp X (d + 6) zm48 54 [.ref 70, .int 1, .int (nI k), .null] [] (zs F g) (zQi K)) ∧ (∀ K : Int32 → (Nat → Nat → Int32) → (Nat → Nat → Int64) → Prop, K (nI k') R' gr → zWp X (e + 7) zm181 2 [.ref 178, .int (nI k)] [] (zs R gr) (zQi K)) ∧ zFg f F' ∧ zFb r R' ∧ zSd F' R' k') ∨ (∃ F' R', (∀ K : Int32 → (Nat → Nat → Int32) → (Nat → Nat → Int64) → Prop, K (-1) F' g → zWp X (d + 6) zm48 54 [.ref 70, .int 1, .int (nI k), .null] [] (zs F g) (zQi K)) ∧ (∀ K : Int32 → (Nat → Nat → Int32) → (Nat → Nat → Int64) → Prop, K (-1) R' gr → zWp X (e + 7) zm181 2 [.ref 178, .int (nI k)] [] (zs R gr) (zQi K)) ∧ zEr f r F' R') := by
  intro m
  induction m with
  | zero =>
    intro k j F R hm h hs
    have hk : k = 16 := by omega
    obtain ⟨x1, x2, x3, x4, x5, x6, x7, x8, x9⟩ := id h
    have kl := zKn_le (b := b) (n := n) (N := N) (j := j)
    subst hk
    by_cases k0 : zKn b n N j = 0
    · refine Or.inl ⟨F, R, 16, fun K hK => s48_54_70 ?_, fun K hK => s181_2_178 ?_, x8, x9, hs⟩
      · rw [if_neg (show ¬ (16 : Int32) < nI 16 by decide), x4, q85 x1 x5, if_pos (by rw [k0]; rfl)]
        exact hK
      · rw [show (16 : Int32) = nI 16 from rfl, q182 (by omega) x7, if_pos (by rw [zb_0]; omega), if_pos (by rw [zRk_end x7]; exact k0)]
        exact hK
    · by_cases k1 : zKn b n N j = 144
      · refine Or.inr ⟨_, _, fun K hK => s48_54_70 ?_, fun K hK => s181_2_178 ?_, zJ_er (c := 3) h⟩
        · rw [if_neg (show ¬ (16 : Int32) < nI 16 by decide), x4, q85 x1 x5, if_neg (nI_z (by omega) (by omega)), q49s (by decide), if_neg (by rw [zb_0]; exact fun z => z (by rw [k1]; rfl)), if_pos (show nI 16 = (16 : Int32) from rfl), q50 x1 x2 x3 x4 x5]
          exact hK
        · rw [show (16 : Int32) = nI 16 from rfl, q182 (by omega) x7, if_neg (by rw [zb_0]; omega), if_pos rfl, q183]
          exact hK
      · refine Or.inr ⟨_, _, fun K hK => s48_54_70 ?_, fun K hK => s181_2_178 ?_, zJ_er (c := 1) h⟩
        · rw [if_neg (show ¬ (16 : Int32) < nI 16 by decide), x4, q85 x1 x5, if_neg (nI_z (by omega) (by omega)), q49s (by decide), if_pos (by rw [zb_0]; exact nI_neq (c := 144) (by omega) (by omega) k1), q50 x1 x2 x3 x4 x5]
          exact hK
        · rw [show (16 : Int32) = nI 16 from rfl, q182 (by omega) x7, if_pos (by rw [zb_0]; omega), if_neg (by rw [zRk_end x7]; exact k0), q183]
          exact hK
  | succ m ih =>
    intro k j F R hm h hs
    have hk : k < 16 := by omega
    obtain ⟨x1, x2, x3, x4, x5, x6, x7, x8, x9⟩ := id h
    have kl := zKn_le (b := b) (n := n) (N := N) (j := j)
    have l16 : ¬ (16 : Int32) < nI k := nI_nlt (a := 16) (by omega) (by omega)
    have e16 : ¬ nI k = (16 : Int32) := nI_neq (c := 16) (by omega) (by omega) (by omega)
    have e3 : (48 : Int32) + zmO.1 3 (nI k) = nI (48 + 3 * k) := by rw [zmO.2, show (3 : Int32) = nI 3 from rfl, pk_mul, show (48 : Int32) = nI 48 from rfl, nI_add]
    by_cases k0 : zKn b n N j = 0
    · refine Or.inl ⟨F, R, k, fun K hK => s48_54_70 ?_, fun K hK => s181_2_178 ?_, x8, x9, hs⟩
      · rw [if_neg l16, x4, q85 x1 x5, if_pos (by rw [k0]; rfl)]
        exact hK
      · rw [show (16 : Int32) = nI 16 from rfl, q182 (by omega) x7, if_pos (by rw [zb_0]; omega), if_pos (by rw [zRk_end x7]; exact k0)]
        exact hK
    · by_cases k1 : zKn b n N j = 144
      · rcases sc_line (X := X) (d := d) (e := e) (g := g) (gr := gr) hnp hf8 hr7 h k1 hs hk with ⟨F1, R1, j1, c1, r1, h1, -, hs1⟩ | ⟨F1, R1, c1, r1, er⟩
        · rcases ih (by omega) h1 hs1 with ⟨F', R', k', c2, r2, y1, y2, y3⟩ | ⟨F', R', c2, r2, er⟩
          · refine Or.inl ⟨F', R', k', fun K hK => s48_54_70 ?_, fun K hK => s181_2_178 ?_, y1, y2, y3⟩
            · rw [if_neg l16, x4, q85 x1 x5, if_neg (nI_z (by omega) (by omega)), q49s (by decide), if_neg (by rw [zb_0]; exact fun z => z (by rw [k1]; rfl)), if_neg e16, if_neg (show ¬ (1 : Int32) = 0 by decide), x4, nI_1]
              apply e58_70
              rw [if_pos rfl]
              refine c1 _ ?_
              rw [if_pos (Or.inr rfl), if_neg (show ¬ (1 : Int32) = 0 by decide), nI_1]
              exact c2 K hK
            · rw [show (16 : Int32) = nI 16 from rfl, q182 (by omega) x7, if_neg (by rw [zb_0]; omega), if_neg (show ¬ nI k = nI 16 from e16), e3]
              refine r1 _ ?_
              rw [if_neg (show ¬ (0 : Int32) = -1 by decide), nI_1]
              exact r2 K hK
          · refine Or.inr ⟨F', R', fun K hK => s48_54_70 ?_, fun K hK => s181_2_178 ?_, er⟩
            · rw [if_neg l16, x4, q85 x1 x5, if_neg (nI_z (by omega) (by omega)), q49s (by decide), if_neg (by rw [zb_0]; exact fun z => z (by rw [k1]; rfl)), if_neg e16, if_neg (show ¬ (1 : Int32) = 0 by decide), x4, nI_1]
              apply e58_70
              rw [if_pos rfl]
              refine c1 _ ?_
              rw [if_pos (Or.inr rfl), if_neg (show ¬ (1 : Int32) = 0 by decide), nI_1]
              exact c2 K hK
            · rw [show (16 : Int32) = nI 16 from rfl, q182 (by omega) x7, if_neg (by rw [zb_0]; omega), if_neg (show ¬ nI k = nI 16 from e16), e3]
              refine r1 _ ?_
              rw [if_neg (show ¬ (0 : Int32) = -1 by decide), nI_1]
              exact r2 K hK
        · refine Or.inr ⟨F1, R1, fun K hK => s48_54_70 ?_, fun K hK => s181_2_178 ?_, er⟩
          · rw [if_neg l16, x4, q85 x1 x5, if_neg (nI_z (by omega) (by omega)), q49s (by decide), if_neg (by rw [zb_0]; exact fun z => z (by rw [k1]; rfl)), if_neg e16, if_neg (show ¬ (1 : Int32) = 0 by decide), x4, nI_1]
            apply e58_70
            rw [if_pos rfl]
            refine c1 _ ?_
            rw [if_pos (Or.inl rfl), if_pos rfl]
            exact hK
          · rw [show (16 : Int32) = nI 16 from rfl, q182 (by omega) x7, if_neg (by rw [zb_0]; omega), if_neg (show ¬ nI k = nI 16 from e16), e3]
            refine r1 _ ?_
            rw [if_pos rfl]
            exact hK
      · refine Or.inr ⟨_, _, fun K hK => s48_54_70 ?_, fun K hK => s181_2_178 ?_, zJ_er (c := 1) h⟩
        · rw [if_neg l16, x4, q85 x1 x5, if_neg (nI_z (by omega) (by omega)), q49s (by decide), if_pos (by rw [zb_0]; exact nI_neq (c := 144) (by omega) (by omega) k1), q50 x1 x2 x3 x4 x5]
          exact hK
        · rw [show (16 : Int32) = nI 16 from rfl, q182 (by omega) x7, if_pos (by rw [zb_0]; omega), if_neg (by rw [zRk_end x7]; exact k0), q183]
          exact hK
theorem st_loop {np : Nat} (hnp : np ≤ 12) (hf8 : f 2 8 = nI np) (hr7 : r 178 7 = nI np) : ∀ (m : Nat) {k j : Nat} {F R : Nat → Nat → Int32}, k + m = 16 → zJ f r b n N F R j → zSg F R np k →
    (∃ F' R' k', (∀ K : Int32 → (Nat → Nat → Int32) → (Nat → Nat → Int64) → Prop, K (nI k') F' g → zWp X (d + 7) zm48 54 [.ref 70, .int 2, .int (nI k), .null] [] (zs F g) (zQi K)) ∧ (∀ K : Int32 → (Nat → Nat → Int32) → (Nat → Nat → Int64) → Prop, K (nI k') R' gr → zWp X (e + 8) zm189 2 [.ref 178, .int (nI k)] [] (zs R gr) (zQi K)) ∧ zFg f F' ∧ zFb r R' ∧ zSg F' R' np k') ∨ (∃ F' R', (∀ K : Int32 → (Nat → Nat → Int32) → (Nat → Nat → Int64) → Prop, K (-1) F' g → zWp X (d + 7) zm48 54 [.ref 70, .int 2, .int (nI k), .null] [] (zs F g) (zQi K)) ∧ (∀ K : Int32 → (Nat → Nat → Int32) → (Nat → Nat → Int64) → Prop, K (-1) R' gr → zWp X (e + 8) zm189 2 [.ref 178, .int (nI k)] [] (zs R gr) (zQi K)) ∧ zEr f r F' R') := by
  intro m
  induction m with
  | zero =>
    intro k j F R hm h hs
    have hk : k = 16 := by omega
    obtain ⟨x1, x2, x3, x4, x5, x6, x7, x8, x9⟩ := id h
    have kl := zKn_le (b := b) (n := n) (N := N) (j := j)
    subst hk
    by_cases k0 : zKn b n N j = 0
    · refine Or.inl ⟨F, R, 16, fun K hK => s48_54_70 ?_, fun K hK => s189_2_178 ?_, x8, x9, hs⟩
      · rw [if_neg (show ¬ (16 : Int32) < nI 16 by decide), x4, q85 x1 x5, if_pos (by rw [k0]; rfl)]
        exact hK
      · rw [show (16 : Int32) = nI 16 from rfl, q182 (by omega) x7, if_pos (by rw [zb_0]; omega), if_pos (by rw [zRk_end x7]; exact k0)]
        exact hK
    · by_cases k1 : zKn b n N j = 144
      · refine Or.inr ⟨_, _, fun K hK => s48_54_70 ?_, fun K hK => s189_2_178 ?_, zJ_er (c := 3) h⟩
        · rw [if_neg (show ¬ (16 : Int32) < nI 16 by decide), x4, q85 x1 x5, if_neg (nI_z (by omega) (by omega)), q49s (by decide), if_neg (by rw [zb_0]; exact fun z => z (by rw [k1]; rfl)), if_pos (show nI 16 = (16 : Int32) from rfl), q50 x1 x2 x3 x4 x5]
          exact hK
        · rw [show (16 : Int32) = nI 16 from rfl, q182 (by omega) x7, if_neg (by rw [zb_0]; omega), if_pos rfl, q183]
          exact hK
      · refine Or.inr ⟨_, _, fun K hK => s48_54_70 ?_, fun K hK => s189_2_178 ?_, zJ_er (c := 1) h⟩
        · rw [if_neg (show ¬ (16 : Int32) < nI 16 by decide), x4, q85 x1 x5, if_neg (nI_z (by omega) (by omega)), q49s (by decide), if_pos (by rw [zb_0]; exact nI_neq (c := 144) (by omega) (by omega) k1), q50 x1 x2 x3 x4 x5]
          exact hK
        · rw [show (16 : Int32) = nI 16 from rfl, q182 (by omega) x7, if_pos (by rw [zb_0]; omega), if_neg (by rw [zRk_end x7]; exact k0), q183]
          exact hK
  | succ m ih =>
    intro k j F R hm h hs
    have hk : k < 16 := by omega
    obtain ⟨x1, x2, x3, x4, x5, x6, x7, x8, x9⟩ := id h
    have kl := zKn_le (b := b) (n := n) (N := N) (j := j)
    have l16 : ¬ (16 : Int32) < nI k := nI_nlt (a := 16) (by omega) (by omega)
    have e16 : ¬ nI k = (16 : Int32) := nI_neq (c := 16) (by omega) (by omega) (by omega)
    have e4 : (64 : Int32) + zmO.1 4 (nI k) = nI (64 + 4 * k) := by rw [zmO.2, show (4 : Int32) = nI 4 from rfl, pk_mul, show (64 : Int32) = nI 64 from rfl, nI_add]
    by_cases k0 : zKn b n N j = 0
    · refine Or.inl ⟨F, R, k, fun K hK => s48_54_70 ?_, fun K hK => s189_2_178 ?_, x8, x9, hs⟩
      · rw [if_neg l16, x4, q85 x1 x5, if_pos (by rw [k0]; rfl)]
        exact hK
      · rw [show (16 : Int32) = nI 16 from rfl, q182 (by omega) x7, if_pos (by rw [zb_0]; omega), if_pos (by rw [zRk_end x7]; exact k0)]
        exact hK
    · by_cases k1 : zKn b n N j = 144
      · rcases st_line (X := X) (d := d) (e := e) (g := g) (gr := gr) hnp hf8 hr7 h k1 hs hk with ⟨F1, R1, j1, c1, r1, h1, -, hs1⟩ | ⟨F1, R1, c1, r1, er⟩
        · rcases ih (by omega) h1 hs1 with ⟨F', R', k', c2, r2, y1, y2, y3⟩ | ⟨F', R', c2, r2, er⟩
          · refine Or.inl ⟨F', R', k', fun K hK => s48_54_70 ?_, fun K hK => s189_2_178 ?_, y1, y2, y3⟩
            · rw [if_neg l16, x4, q85 x1 x5, if_neg (nI_z (by omega) (by omega)), q49s (by decide), if_neg (by rw [zb_0]; exact fun z => z (by rw [k1]; rfl)), if_neg e16, if_neg (show ¬ (2 : Int32) = 0 by decide), x4, nI_1]
              apply e58_70
              rw [if_neg (show ¬ (2 : Int32) = 1 by decide), if_pos rfl]
              refine c1 _ ?_
              rw [if_pos (Or.inr rfl), if_neg (show ¬ (1 : Int32) = 0 by decide), nI_1]
              exact c2 K hK
            · rw [show (16 : Int32) = nI 16 from rfl, q182 (by omega) x7, if_neg (by rw [zb_0]; omega), if_neg (show ¬ nI k = nI 16 from e16), e4]
              refine r1 _ ?_
              rw [if_neg (show ¬ (0 : Int32) = -1 by decide), nI_1]
              exact r2 K hK
          · refine Or.inr ⟨F', R', fun K hK => s48_54_70 ?_, fun K hK => s189_2_178 ?_, er⟩
            · rw [if_neg l16, x4, q85 x1 x5, if_neg (nI_z (by omega) (by omega)), q49s (by decide), if_neg (by rw [zb_0]; exact fun z => z (by rw [k1]; rfl)), if_neg e16, if_neg (show ¬ (2 : Int32) = 0 by decide), x4, nI_1]
              apply e58_70
              rw [if_neg (show ¬ (2 : Int32) = 1 by decide), if_pos rfl]
              refine c1 _ ?_
              rw [if_pos (Or.inr rfl), if_neg (show ¬ (1 : Int32) = 0 by decide), nI_1]
              exact c2 K hK
            · rw [show (16 : Int32) = nI 16 from rfl, q182 (by omega) x7, if_neg (by rw [zb_0]; omega), if_neg (show ¬ nI k = nI 16 from e16), e4]
              refine r1 _ ?_
              rw [if_neg (show ¬ (0 : Int32) = -1 by decide), nI_1]
              exact r2 K hK
        · refine Or.inr ⟨F1, R1, fun K hK => s48_54_70 ?_, fun K hK => s189_2_178 ?_, er⟩
          · rw [if_neg l16, x4, q85 x1 x5, if_neg (nI_z (by omega) (by omega)), q49s (by decide), if_neg (by rw [zb_0]; exact fun z => z (by rw [k1]; rfl)), if_neg e16, if_neg (show ¬ (2 : Int32) = 0 by decide), x4, nI_1]
            apply e58_70
            rw [if_neg (show ¬ (2 : Int32) = 1 by decide), if_pos rfl]
            refine c1 _ ?_
            rw [if_pos (Or.inl rfl), if_pos rfl]
            exact hK
          · rw [show (16 : Int32) = nI 16 from rfl, q182 (by omega) x7, if_neg (by rw [zb_0]; omega), if_neg (show ¬ nI k = nI 16 from e16), e4]
            refine r1 _ ?_
            rw [if_pos rfl]
            exact hK
      · refine Or.inr ⟨_, _, fun K hK => s48_54_70 ?_, fun K hK => s189_2_178 ?_, zJ_er (c := 1) h⟩
        · rw [if_neg l16, x4, q85 x1 x5, if_neg (nI_z (by omega) (by omega)), q49s (by decide), if_pos (by rw [zb_0]; exact nI_neq (c := 144) (by omega) (by omega) k1), q50 x1 x2 x3 x4 x5]
          exact hK
        · rw [show (16 : Int32) = nI 16 from rfl, q182 (by omega) x7, if_pos (by rw [zb_0]; omega), if_neg (by rw [zRk_end x7]; exact k0), q183]
          exact hK
end ZLO

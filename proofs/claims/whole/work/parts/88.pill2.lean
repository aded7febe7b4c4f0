/-! the pillars' loop -/
section ZPQ
variable {X : Nat × (Nat → Int32)} {d e : Nat} {f r F R : Nat → Nat → Int32} {g gr : Nat → Nat → Int64} {b : Nat → Nat} {n N j : Nat}
theorem pl_loop {np : Nat} (hh : zHx f r np) : ∀ (m : Nat) {k j : Nat} {F R : Nat → Nat → Int32} {g : Nat → Nat → Int64}, k + m = 16 → zJ f r b n N F R j → zPd g R →
    (∃ F' g' R' k', k' ≤ 16 ∧ (∀ K : Int32 → (Nat → Nat → Int32) → (Nat → Nat → Int64) → Prop, K (nI k') F' g' → zWp X (d + 5) zm48 54 [.ref 70, .int 3, .int (nI k), .null] [] (zs F g) (zQi K)) ∧ (∀ K : Int32 → (Nat → Nat → Int32) → (Nat → Nat → Int64) → Prop, K (nI k') R' gr → zWp X (e + 7) zm193 26 [.ref 178, .int (nI k)] [] (zs R gr) (zQi K)) ∧ zFg f F' ∧ zFb r R' ∧ zPd g' R' ∧ (∀ i k, ¬ (i = 70 ∧ k = 6) → g' i k = g i k)) ∨ (∃ F' g' R', (∀ K : Int32 → (Nat → Nat → Int32) → (Nat → Nat → Int64) → Prop, K (-1) F' g' → zWp X (d + 5) zm48 54 [.ref 70, .int 3, .int (nI k), .null] [] (zs F g) (zQi K)) ∧ (∀ K : Int32 → (Nat → Nat → Int32) → (Nat → Nat → Int64) → Prop, K (-1) R' gr → zWp X (e + 7) zm193 26 [.ref 178, .int (nI k)] [] (zs R gr) (zQi K)) ∧ zEr f r F' R' ∧ (∀ i k, ¬ (i = 70 ∧ k = 6) → g' i k = g i k)) := by
  intro m
  induction m with
  | zero =>
    intro k j F R g hm h hs
    have hk : k = 16 := by omega
    obtain ⟨x1, x2, x3, x4, x5, x6, x7, x8, x9⟩ := id h
    have kl := zKn_le (b := b) (n := n) (N := N) (j := j)
    subst hk
    by_cases k0 : zKn b n N j = 0
    · refine Or.inl ⟨F, g, R, 16, by omega, fun K hK => s48_54_70 ?_, fun K hK => s193_26_178 ?_, x8, x9, hs, fun _ _ _ => rfl⟩
      · rw [if_neg (show ¬ (16 : Int32) < nI 16 by decide), x4, q85 x1 x5, if_pos (by rw [k0]; rfl)]
        exact hK
      · rw [show (21 : Int32) = nI 21 from rfl, q182 (by omega) x7, if_pos (by rw [zb_0]; omega), if_pos (by rw [zRk_end x7]; exact k0)]
        exact hK
    · by_cases k1 : zKn b n N j = 149
      · refine Or.inr ⟨_, g, _, fun K hK => s48_54_70 ?_, fun K hK => s193_26_178 ?_, zJ_er (c := 3) h, fun _ _ _ => rfl⟩
        · rw [if_neg (show ¬ (16 : Int32) < nI 16 by decide), x4, q85 x1 x5, if_neg (nI_z (by omega) (by omega)), q49p, if_neg (by rw [zb_0]; exact fun z => z (by rw [k1]; rfl)), if_pos (show nI 16 = (16 : Int32) from rfl), q50 x1 x2 x3 x4 x5]
          exact hK
        · rw [show (21 : Int32) = nI 21 from rfl, q182 (by omega) x7, if_neg (by rw [zb_0]; omega), if_pos (show nI 16 = (16 : Int32) from rfl), q183]
          exact hK
      · refine Or.inr ⟨_, g, _, fun K hK => s48_54_70 ?_, fun K hK => s193_26_178 ?_, zJ_er (c := 1) h, fun _ _ _ => rfl⟩
        · rw [if_neg (show ¬ (16 : Int32) < nI 16 by decide), x4, q85 x1 x5, if_neg (nI_z (by omega) (by omega)), q49p, if_pos (by rw [zb_0]; exact nI_neq (c := 149) (by omega) (by omega) k1), q50 x1 x2 x3 x4 x5]
          exact hK
        · rw [show (21 : Int32) = nI 21 from rfl, q182 (by omega) x7, if_pos (by rw [zb_0]; omega), if_neg (by rw [zRk_end x7]; exact k0), q183]
          exact hK
  | succ m ih =>
    intro k j F R g hm h hs
    have hk : k < 16 := by omega
    obtain ⟨x1, x2, x3, x4, x5, x6, x7, x8, x9⟩ := id h
    have kl := zKn_le (b := b) (n := n) (N := N) (j := j)
    have l16 : ¬ (16 : Int32) < nI k := nI_nlt (a := 16) (by omega) (by omega)
    have e16 : ¬ nI k = (16 : Int32) := nI_neq (c := 16) (by omega) (by omega) (by omega)
    by_cases k0 : zKn b n N j = 0
    · refine Or.inl ⟨F, g, R, k, by omega, fun K hK => s48_54_70 ?_, fun K hK => s193_26_178 ?_, x8, x9, hs, fun _ _ _ => rfl⟩
      · rw [if_neg l16, x4, q85 x1 x5, if_pos (by rw [k0]; rfl)]
        exact hK
      · rw [show (21 : Int32) = nI 21 from rfl, q182 (by omega) x7, if_pos (by rw [zb_0]; omega), if_pos (by rw [zRk_end x7]; exact k0)]
        exact hK
    · by_cases k1 : zKn b n N j = 149
      · rcases pl_line (X := X) (d := d) (e := e) (g := g) (gr := gr) hh h k1 hs with ⟨F1, g1, R1, j1, c1, r1, h1, -, hs1, hg1⟩ | ⟨F1, R1, c1, r1, er⟩
        · rcases ih (k := k + 1) (by omega) h1 hs1 with ⟨F', g', R', k', y0, c2, r2, y1, y2, y3, y4⟩ | ⟨F', g', R', c2, r2, er, y4⟩
          · refine Or.inl ⟨F', g', R', k', y0, fun K hK => s48_54_70 ?_, fun K hK => s193_26_178 ?_, y1, y2, y3, fun i k hik => by rw [y4 i k hik, hg1 i k hik]⟩
            · rw [if_neg l16, x4, q85 x1 x5, if_neg (nI_z (by omega) (by omega)), q49p, if_neg (by rw [zb_0]; exact fun z => z (by rw [k1]; rfl)), if_neg e16, if_neg (show ¬ (3 : Int32) = 0 by decide), x4, nI_1]
              apply e58_70
              rw [if_neg (show ¬ (3 : Int32) = 1 by decide), if_neg (show ¬ (3 : Int32) = 2 by decide)]
              refine c1 _ ?_
              rw [if_pos (Or.inr rfl), if_neg (show ¬ (1 : Int32) = 0 by decide), nI_1]
              exact c2 K hK
            · rw [show (21 : Int32) = nI 21 from rfl, q182 (by omega) x7, if_neg (by rw [zb_0]; omega), if_neg e16]
              refine r1 _ ?_
              rw [if_neg (show ¬ (0 : Int32) = -1 by decide), nI_1]
              exact r2 K hK
          · refine Or.inr ⟨F', g', R', fun K hK => s48_54_70 ?_, fun K hK => s193_26_178 ?_, er, fun i k hik => by rw [y4 i k hik, hg1 i k hik]⟩
            · rw [if_neg l16, x4, q85 x1 x5, if_neg (nI_z (by omega) (by omega)), q49p, if_neg (by rw [zb_0]; exact fun z => z (by rw [k1]; rfl)), if_neg e16, if_neg (show ¬ (3 : Int32) = 0 by decide), x4, nI_1]
              apply e58_70
              rw [if_neg (show ¬ (3 : Int32) = 1 by decide), if_neg (show ¬ (3 : Int32) = 2 by decide)]
              refine c1 _ ?_
              rw [if_pos (Or.inr rfl), if_neg (show ¬ (1 : Int32) = 0 by decide), nI_1]
              exact c2 K hK
            · rw [show (21 : Int32) = nI 21 from rfl, q182 (by omega) x7, if_neg (by rw [zb_0]; omega), if_neg e16]
              refine r1 _ ?_
              rw [if_neg (show ¬ (0 : Int32) = -1 by decide), nI_1]
              exact r2 K hK
        · refine Or.inr ⟨F1, g, R1, fun K hK => s48_54_70 ?_, fun K hK => s193_26_178 ?_, er, fun _ _ _ => rfl⟩
          · rw [if_neg l16, x4, q85 x1 x5, if_neg (nI_z (by omega) (by omega)), q49p, if_neg (by rw [zb_0]; exact fun z => z (by rw [k1]; rfl)), if_neg e16, if_neg (show ¬ (3 : Int32) = 0 by decide), x4, nI_1]
            apply e58_70
            rw [if_neg (show ¬ (3 : Int32) = 1 by decide), if_neg (show ¬ (3 : Int32) = 2 by decide)]
            refine c1 _ ?_
            rw [if_pos (Or.inl rfl), if_pos rfl]
            exact hK
          · rw [show (21 : Int32) = nI 21 from rfl, q182 (by omega) x7, if_neg (by rw [zb_0]; omega), if_neg e16]
            refine r1 _ ?_
            rw [if_pos rfl]
            exact hK
      · refine Or.inr ⟨_, g, _, fun K hK => s48_54_70 ?_, fun K hK => s193_26_178 ?_, zJ_er (c := 1) h, fun _ _ _ => rfl⟩
        · rw [if_neg l16, x4, q85 x1 x5, if_neg (nI_z (by omega) (by omega)), q49p, if_pos (by rw [zb_0]; exact nI_neq (c := 149) (by omega) (by omega) k1), q50 x1 x2 x3 x4 x5]
          exact hK
        · rw [show (21 : Int32) = nI 21 from rfl, q182 (by omega) x7, if_pos (by rw [zb_0]; omega), if_neg (by rw [zRk_end x7]; exact k0), q183]
          exact hK
/-- no pillar told yet -/
theorem l193 {K : Int32 → (Nat → Nat → Int32) → (Nat → Nat → Int64) → Prop} : ∀ (m i : Nat) {R : Nat → Nat → Int32}, i + m = 48 → (∀ S : Nat → Nat → Int32, (∀ a, ¬ a = 197 → S a = R a) → (∀ k, S 197 k = if 48 + i ≤ k ∧ k < 96 then 0 else R 197 k) → zWp X (e + 7) zm193 26 [.ref 178, .int 0] [] (zs S gr) (zQi K)) → zWp X (e + 7) zm193 2 [.ref 178, .int (nI i)] [] (zs R gr) (zQi K) := by
  intro m
  induction m with
  | zero =>
    intro i R hi hK
    apply s193_2_178
    rw [if_pos (show (48 : Int32) ≤ nI i from nI_le (a := 48) (by omega) (by omega))]
    exact hK R (fun _ _ => rfl) (fun k => by rw [if_neg (by omega)])
  | succ m ih =>
    intro i R hi hK
    apply s193_2_178
    have e48 : (48 : Int32) + nI i = nI (48 + i) := nI_add 48 i
    rw [if_neg (show ¬ (48 : Int32) ≤ nI i from nI_ge (b := 48) (by omega) (by omega)), e48, if_neg (nI_in (by omega) (by omega)), nI_cl (by omega), nI_1]
    refine ih (i + 1) (by omega) (fun S s1 s2 => hK S (fun a ha => by rw [s1 a ha, zi_ne ha]) (fun k => ?_))
    rw [s2, zi_at]
    by_cases ek : k = 48 + i
    · rw [if_neg (by omega), if_pos ek, if_pos (by omega)]
    · by_cases e2 : 48 + (i + 1) ≤ k ∧ k < 96
      · rw [if_pos e2, if_pos (by omega)]
      · rw [if_neg e2, if_neg ek, if_neg (by omega)]
end ZPQ

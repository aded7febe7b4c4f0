/-! a law's line, whole -/
theorem ld_mk {F R F' R' : Nat → Nat → Int32} {l c c3 c' w : Nat} (hd : zLd F R l c) (hl : l < 16) (hw : w < 3) (h1 : c ≤ c3) (h2 : c3 ≤ c') (h7 : F' 72 7 = nI (l + 1))
    (r74 : ∀ q, F' 74 q = if q = l then nI (128 + w) else F 74 q) (r75 : ∀ q, F' 75 q = if q = l then nI c else F 75 q) (r76 : ∀ q, F' 76 q = if q = l then nI c3 else F 76 q) (r77 : ∀ q, F' 77 q = if q = l then nI c' else F 77 q)
    (s74 : ∀ q, R' 188 (32 + q) = if q = l then nI w else R 188 (32 + q)) (s75 : ∀ q, R' 189 (32 + q) = if q = l then nI c else R 189 (32 + q)) (s76 : ∀ q, R' 190 (32 + q) = if q = l then nI c3 else R 190 (32 + q)) (s77 : ∀ q, R' 191 (32 + q) = if q = l then nI c' else R 191 (32 + q))
    (h73 : ∀ k, k < c → F' 73 k = F 73 k) (t1 : zTyp (F' 73) c (c3 - c) [] = some [false]) (t2 : c3 = c' ∨ zTyp (F' 73) c3 (c' - c3) [] = some [true]) : zLd F' R' (l + 1) c' := by
  refine ⟨h7, by omega, fun q hq => ?_⟩
  rw [r74, r75, r76, r77, s74, s75, s76, s77]
  by_cases e : q = l
  · rw [if_pos e, if_pos e, if_pos e, if_pos e, if_pos e, if_pos e, if_pos e, if_pos e]
    exact ⟨w, c, c3, c', hw, h1, h2, Nat.le_refl _, rfl, rfl, rfl, rfl, rfl, rfl, rfl, rfl, t1, t2⟩
  · rw [if_neg e, if_neg e, if_neg e, if_neg e, if_neg e, if_neg e, if_neg e, if_neg e]
    obtain ⟨w', a, b', e', y1, y2, y3, y4, y5, y6, y7, y8, y9, y10, y11, y12, y13, y14⟩ := hd.2.2 q (by omega)
    refine ⟨w', a, b', e', y1, y2, y3, by omega, y5, y6, y7, y8, y9, y10, y11, y12, ?_, ?_⟩
    · rw [zTyp_congr (c := F 73) _ _ _ (fun k hk => h73 k (by omega))]
      exact y13
    · refine y14.imp id (fun z => ?_)
      rw [zTyp_congr (c := F 73) _ _ _ (fun k hk => h73 k (by omega))]
      exact z
section ZLM
variable {X : Nat × (Nat → Int32)} {d e : Nat} {f r F R : Nat → Nat → Int32} {g gr : Nat → Nat → Int64} {b : Nat → Nat} {n N j c : Nat}
theorem lw_line {l w : Nat} (h : zJ f r b n N F R j) (hw : w < 3) (hk : zKn b n N j = 128 + w) (hs : zCs F R c) (hcj : c ≤ j) (hd : zLd F R l c) (hl : l < 16) (h26 : R 178 26 = 0) (h24 : R 178 24 = 0) :
    (∃ F' R' j' c', (∀ K : Int32 → (Nat → Nat → Int32) → (Nat → Nat → Int64) → Prop, K 1 F' g → zCpi X (d + 22) 51 [.ref 70, .int (nI (128 + w))] (zs (zuI F 70 3 (nI (j + 1))) g) K) ∧ (∀ K : Int32 → (Nat → Nat → Int32) → (Nat → Nat → Int64) → Prop, zWp X (e + 9) zm195 2 [.ref 178, .int (nI (l + 1)), .null] [] (zs R' gr) (zQi K) → zWp X (e + 9) zm195 2 [.ref 178, .int (nI l), .null] [] (zs R gr) (zQi K)) ∧ zJ f r b n N F' R' j' ∧ zCs F' R' c' ∧ c' ≤ j' ∧ zLd F' R' (l + 1) c' ∧ R' 178 26 = 0 ∧ R' 178 24 = 0) ∨
    (∃ F' R', (∀ K : Int32 → (Nat → Nat → Int32) → (Nat → Nat → Int64) → Prop, K 0 F' g → zCpi X (d + 22) 51 [.ref 70, .int (nI (128 + w))] (zs (zuI F 70 3 (nI (j + 1))) g) K) ∧ (∀ K : Int32 → (Nat → Nat → Int32) → (Nat → Nat → Int64) → Prop, K (-1) R' gr → zWp X (e + 9) zm195 2 [.ref 178, .int (nI l), .null] [] (zs R gr) (zQi K)) ∧ zEr f r F' R') := by
  have x7 := h.2.2.2.2.2.2.1
  have hj := zKn_lt (k := 128 + w) (by omega) hk
  have hw2 := (zRk_word (w := w) (by omega) x7).mpr hk
  have e32 : (32 : Int32) + nI l = nI (32 + l) := nI_add 32 l
  have i32 := nI_in (c := 32 + l) (N := 48) (by omega) (by omega)
  have k32 := nI_cl (k := 32 + l) (by omega)
  have i32' : ¬ (nI (32 + l) < 0 ∨ 48 ≤ 32 + l) := nI_in' (by omega) (by omega)
  have il' : ¬ (nI l < 0 ∨ 16 ≤ l) := nI_in' (by omega) (by omega)
  have n16 : ¬ nI l = (16 : Int32) := nI_neq (c := 16) (by omega) (by omega) (by omega)
  have l16 : ¬ (16 : Int32) ≤ nI l := nI_ge (b := 16) hl (by omega)
  have il := nI_in (c := l) (N := 16) (by omega) (by omega)
  have kl := nI_cl (k := l) (by omega)
  obtain ⟨Ra, eRa⟩ : ∃ Ra, Ra = zuI R 188 (32 + l) (nI w) := ⟨_, rfl⟩
  have ha : zJ f r b n N F Ra j := by rw [eRa]; exact zJ_u h (by omega)
  have hsa : zCs F Ra c := by rw [eRa]; exact zCs_V hs (by omega)
  obtain ⟨R1, r1, h1, hs1, lf1, fk1⟩ := jn (X := X) (d := e + 5) (g := gr) ha hsa hj
  obtain ⟨F2, eF2⟩ : ∃ F2, F2 = zuI (zuI (zuI F 70 3 (nI (j + 1))) 74 l (nI (128 + w))) 75 l (nI c) := ⟨_, rfl⟩
  obtain ⟨R2, eR2⟩ : ∃ R2, R2 = zuI R1 189 (32 + l) (nI c) := ⟨_, rfl⟩
  have h2 : zJ f r b n N F2 R2 (j + 1) := by rw [eR2]; exact zJ_u (zJ_F h1 (by rw [eF2, zi_ne (by omega), zi_ne (by omega)]) (fun i hi => by rw [eF2, zi_ne (by omega), zi_ne (by omega)])) (by omega)
  have hs2 : zCs F2 R2 c := by rw [eR2]; exact zCs_V (zCs_F hs1 (by rw [eF2, zi_ne (by omega), zi_ne (by omega)]) (by rw [eF2, zi_ne (by omega), zi_ne (by omega)])) (by omega)
  have h27 : F2 72 7 = nI l := by rw [eF2, zi_ne (by omega), zi_ne (by omega), zi_ne (by omega)]; exact hd.1
  have hc1 : ∀ Kv : (Nat → Nat → Int32) → (Nat → Nat → Int64) → Prop, Kv F2 g → zCpv X (d + 21) 38 [.ref 72, .int (nI (128 + w))] (zs (zuI F 70 3 (nI (j + 1))) g) Kv := fun Kv hK => by
    apply e38_72
    rw [zi_ne (show ¬ 72 = 70 by omega), hd.1, hs.1, if_neg l16, if_neg il, if_neg il, kl, ← eF2]
    exact hK
  rcases su_j (X := X) (d := d + 18) (e := e + 2) (g := g) (gr := gr) h2 hs2 (by omega) with ⟨F3, R3, j3, c3, cl3, rl3, h3, hs3, lf3, b1, b2, b3, ty3⟩ | ⟨F3, R3, cl3, rl3, er⟩
  case inr =>
    refine Or.inr ⟨F3, R3, fun K hK => e51_70 (hc1 _ (cl3 _ ?_)), fun K hK => s195_2_178 ?_, er⟩
    · rw [if_pos rfl, if_pos (Or.inl rfl)]
      exact hK
    · rw [q196y x7 hw hk, if_neg (by decide), if_neg n16, e32, if_neg i32, k32, hw2.2, ← eRa, r1, if_neg i32', hs1.2.1, ← eR2]
      refine rl3 _ ?_
      rw [if_pos rfl]
      exact hK
  have hj3 : j3 ≤ N := h3.2.2.2.2.1
  have hN : N ≤ 400 := h.1.2.1
  obtain ⟨F4, eF4⟩ : ∃ F4, F4 = zuI F3 76 l (nI c3) := ⟨_, rfl⟩
  obtain ⟨R4, eR4⟩ : ∃ R4, R4 = zuI R3 190 (32 + l) (nI c3) := ⟨_, rfl⟩
  have h4 : zJ f r b n N F4 R4 j3 := by rw [eR4]; exact zJ_u (zJ_F h3 (by rw [eF4, zi_ne (by omega)]) (fun i hi => by rw [eF4, zi_ne (by omega)])) (by omega)
  have hs4 : zCs F4 R4 c3 := by rw [eR4]; exact zCs_V (zCs_F hs3 (by rw [eF4, zi_ne (by omega)]) (by rw [eF4, zi_ne (by omega)])) (by omega)
  have h37 : F3 72 7 = nI l := by rw [lf3.2.1]; exact h27
  have h47 : F4 72 7 = nI l := by rw [eF4, zi_ne (by omega)]; exact h37
  obtain ⟨v1, v2, v3, v4, v5, v6, v7, v8, v9⟩ := id h4
  have kl3 := zKn_le (b := b) (n := n) (N := N) (j := j3)
  -- rows so far
  have m73 : ∀ k, k < c → F4 73 k = F 73 k := fun k hk => by rw [eF4, zi_ne (by omega), lf3.2.2.1 k hk, eF2, zi_ne (by omega), zi_ne (by omega), zi_ne (by omega)]
  have m74 : ∀ q, F4 74 q = if q = l then nI (128 + w) else F 74 q := fun q => by rw [eF4, zi_ne (by omega), lf3.1 74 (by omega) (by omega) (by omega), eF2, zi_ne (by omega), zi_at, zi_ne (by omega)]
  have m75 : ∀ q, F4 75 q = if q = l then nI c else F 75 q := fun q => by rw [eF4, zi_ne (by omega), lf3.1 75 (by omega) (by omega) (by omega), eF2, zi_at, zi_ne (by omega), zi_ne (by omega)]
  have m76 : ∀ q, F4 76 q = if q = l then nI c3 else F 76 q := fun q => by rw [eF4, zi_at, lf3.1 76 (by omega) (by omega) (by omega), eF2, zi_ne (by omega), zi_ne (by omega), zi_ne (by omega)]
  have m77 : ∀ q, F4 77 q = F 77 q := fun q => by rw [eF4, zi_ne (by omega), lf3.1 77 (by omega) (by omega) (by omega), eF2, zi_ne (by omega), zi_ne (by omega), zi_ne (by omega)]
  have n74 : ∀ q, R4 188 (32 + q) = if q = l then nI w else R 188 (32 + q) := fun q => by
    rw [eR4, zi_ne (by omega), lf3.2.2.2.1 188 (by omega) (by omega) (by omega), eR2, zi_ne (by omega), fk1.1 188 (by omega), eRa, zi_at]
    by_cases eq : q = l
    · rw [if_pos eq, if_pos (by omega)]
    · rw [if_neg eq, if_neg (by omega)]
  have n75 : ∀ q, R4 189 (32 + q) = if q = l then nI c else R 189 (32 + q) := fun q => by
    rw [eR4, zi_ne (by omega), lf3.2.2.2.1 189 (by omega) (by omega) (by omega), eR2, zi_at, fk1.1 189 (by omega), eRa, zi_ne (by omega)]
    by_cases eq : q = l
    · rw [if_pos eq, if_pos (by omega)]
    · rw [if_neg eq, if_neg (by omega)]
  have n76 : ∀ q, R4 190 (32 + q) = if q = l then nI c3 else R 190 (32 + q) := fun q => by
    rw [eR4, zi_at, lf3.2.2.2.1 190 (by omega) (by omega) (by omega), eR2, zi_ne (by omega), fk1.1 190 (by omega), eRa, zi_ne (by omega)]
    by_cases eq : q = l
    · rw [if_pos eq, if_pos (by omega)]
    · rw [if_neg eq, if_neg (by omega)]
  have n77 : ∀ q, R4 191 (32 + q) = R 191 (32 + q) := fun q => by rw [eR4, zi_ne (by omega), lf3.2.2.2.1 191 (by omega) (by omega) (by omega), eR2, zi_ne (by omega), fk1.1 191 (by omega), eRa, zi_ne (by omega)]
  have o8 : ∀ s, (s = 24 ∨ s = 26) → R4 178 s = R 178 s := fun s hs => by rw [eR4, zi_ne (by omega), lf3.2.2.2.2 s (by omega) (by omega), eR2, zi_ne (by omega), fk1.2 s (by omega), eRa, zi_ne (by omega)]
  have t3 : zTyp (F4 73) c (c3 - c) [] = some [false] := by rw [eF4, zi_ne (by omega)]; exact ty3 [] (by decide)
  by_cases kw : zKn b n N j3 = 131
  · have hj3' := zKn_lt (by omega) kw
    obtain ⟨R6, r6, h6, hs6, lf6, fk6⟩ := jn (X := X) (d := e + 5) (g := gr) h4 hs4 hj3'
    rcases cd_j (X := X) (d := d) (e := e) (g := g) (gr := gr) h6 hs6 (by omega) (by rw [fk6.2 26 (by omega), o8 26 (Or.inr rfl)]; exact h26) with ⟨F7, R7, j7, c7, cl7, rl7, h7, hs7, lg7, lh7, u26, b4, b5, b6, ty7⟩ | ⟨F7, R7, cl7, rl7, er⟩
    case inr =>
      refine Or.inr ⟨F7, R7, fun K hK => e51_70 (hc1 _ (cl3 _ ?_)), fun K hK => s195_2_178 ?_, er⟩
      · rw [if_neg (by decide)]
        apply e40_72
        rw [h37, if_neg l16, if_neg il, kl, hs3.1, ← eF4, v4, q85 v1 v5, if_pos (by rw [kw]; rfl), v4, nI_1]
        refine cl7 _ ?_
        rw [if_pos rfl, if_pos (Or.inl rfl)]
        exact hK
      · rw [q196y x7 hw hk, if_neg (by decide), if_neg n16, e32, if_neg i32, k32, hw2.2, ← eRa, r1, if_neg i32', hs1.2.1, ← eR2]
        refine rl3 _ ?_
        rw [if_neg (by decide), if_neg i32', hs3.2.1, ← eR4, show (3 : Int32) = nI 3 from rfl, q182 (by omega) v7, if_neg (by rw [zb_0]; omega), r6]
        refine rl7 _ ?_
        rw [if_pos rfl]
        exact hK
    have h77 : F7 72 7 = nI l := by rw [lg7.2.1, zi_ne (by omega)]; exact h47
    obtain ⟨FS, eFS⟩ : ∃ FS, FS = zuI (zuI F7 77 l (nI c7)) 72 7 (nI (l + 1)) := ⟨_, rfl⟩
    obtain ⟨RS, eRS⟩ : ∃ RS, RS = zuI R7 191 (32 + l) (nI c7) := ⟨_, rfl⟩
    have hS : zJ f r b n N FS RS j7 := by rw [eRS]; exact zJ_u (zJ_F h7 (by rw [eFS, zi_ne (by omega), zi_ne (by omega)]) (fun i hi => by rw [eFS, zi_ne (by omega), zi_ne (by omega)])) (by omega)
    have hsS : zCs FS RS c7 := by rw [eRS]; exact zCs_V (zCs_F hs7 (by rw [eFS, zi_at, if_neg (by omega), zi_ne (by omega)]) (by rw [eFS, zi_ne (by omega), zi_ne (by omega)])) (by omega)
    rcases le_j (X := X) (d := d + 19) (e := e) (g := g) (gr := gr) (l := l) hS hsS with ⟨R', cl, rl, hE, hsE, fkE⟩ | ⟨F', R', cl, rl, er⟩
    · refine Or.inl ⟨_, R', j7 + 1, c7, fun K hK => e51_70 (hc1 _ (cl3 _ ?_)), fun K hK => s195_2_178 ?_, hE, hsE, by omega, ld_mk hd hl hw (c3 := c3) (by omega) (by omega) ?_ (fun q => ?_) (fun q => ?_) (fun q => ?_) (fun q => ?_) (fun q => ?_) (fun q => ?_) (fun q => ?_) (fun q => ?_) (fun k hk => ?_) ?_ ?_, ?_, ?_⟩
      · rw [if_neg (by decide)]
        apply e40_72
        rw [h37, if_neg l16, if_neg il, kl, hs3.1, ← eF4, v4, q85 v1 v5, if_pos (by rw [kw]; rfl), v4, nI_1]
        refine cl7 _ ?_
        rw [if_neg (by decide)]
        apply e41_72
        rw [h77, if_neg l16, if_neg il, kl, hs7.1, nI_1, ← eFS]
        exact cl K hK
      · rw [q196y x7 hw hk, if_neg (by decide), if_neg n16, e32, if_neg i32, k32, hw2.2, ← eRa, r1, if_neg i32', hs1.2.1, ← eR2]
        refine rl3 _ ?_
        rw [if_neg (by decide), if_neg i32', hs3.2.1, ← eR4, show (3 : Int32) = nI 3 from rfl, q182 (by omega) v7, if_neg (by rw [zb_0]; omega), r6]
        refine rl7 _ ?_
        rw [if_neg (by decide), if_neg i32', hs7.2.1, ← eRS]
        exact rl K hK
      · rw [zi_ne (by omega), eFS, zi_at, if_pos rfl]
      · rw [zi_ne (by omega), eFS, zi_ne (by omega), zi_ne (by omega), lg7.1 74 (by omega) (by omega) (by omega), zi_ne (by omega), m74]
      · rw [zi_ne (by omega), eFS, zi_ne (by omega), zi_ne (by omega), lg7.1 75 (by omega) (by omega) (by omega), zi_ne (by omega), m75]
      · rw [zi_ne (by omega), eFS, zi_ne (by omega), zi_ne (by omega), lg7.1 76 (by omega) (by omega) (by omega), zi_ne (by omega), m76]
      · rw [zi_ne (by omega), eFS, zi_ne (by omega), zi_at, lg7.1 77 (by omega) (by omega) (by omega), zi_ne (by omega), m77]
      · rw [fkE.1 188 (by omega), eRS, zi_ne (by omega), lh7.1 188 (by omega) (by omega) (by omega) (by omega), fk6.1 188 (by omega), n74]
      · rw [fkE.1 189 (by omega), eRS, zi_ne (by omega), lh7.1 189 (by omega) (by omega) (by omega) (by omega), fk6.1 189 (by omega), n75]
      · rw [fkE.1 190 (by omega), eRS, zi_ne (by omega), lh7.1 190 (by omega) (by omega) (by omega) (by omega), fk6.1 190 (by omega), n76]
      · rw [fkE.1 191 (by omega), eRS, zi_at, lh7.1 191 (by omega) (by omega) (by omega) (by omega), fk6.1 191 (by omega), n77]
        by_cases eq : q = l
        · rw [if_pos eq, if_pos (by omega)]
        · rw [if_neg eq, if_neg (by omega)]
      · rw [zi_ne (by omega), eFS, zi_ne (by omega), zi_ne (by omega), lg7.2.2 k (by omega), zi_ne (by omega), m73 k hk]
      · rw [zi_ne (by omega), eFS, zi_ne (by omega), zi_ne (by omega)]
        rw [zTyp_congr (c := F4 73) _ _ _ (fun k hk => by rw [lg7.2.2 k (by omega), zi_ne (by omega)])]
        exact t3
      · refine Or.inr ?_
        rw [zi_ne (by omega), eFS, zi_ne (by omega), zi_ne (by omega)]
        exact ty7
      · rw [fkE.2 26 (by omega), eRS, zi_ne (by omega)]
        exact u26
      · rw [fkE.2 24 (by omega), eRS, zi_ne (by omega)]
        rw [lh7.2.1 24 (by omega) (by omega) (by omega) (by omega), fk6.2 24 (by omega), o8 24 (Or.inl rfl)]; exact h24
    · refine Or.inr ⟨F', R', fun K hK => e51_70 (hc1 _ (cl3 _ ?_)), fun K hK => s195_2_178 ?_, er⟩
      · rw [if_neg (by decide)]
        apply e40_72
        rw [h37, if_neg l16, if_neg il, kl, hs3.1, ← eF4, v4, q85 v1 v5, if_pos (by rw [kw]; rfl), v4, nI_1]
        refine cl7 _ ?_
        rw [if_neg (by decide)]
        apply e41_72
        rw [h77, if_neg l16, if_neg il, kl, hs7.1, nI_1, ← eFS]
        exact cl K hK
      · rw [q196y x7 hw hk, if_neg (by decide), if_neg n16, e32, if_neg i32, k32, hw2.2, ← eRa, r1, if_neg i32', hs1.2.1, ← eR2]
        refine rl3 _ ?_
        rw [if_neg (by decide), if_neg i32', hs3.2.1, ← eR4, show (3 : Int32) = nI 3 from rfl, q182 (by omega) v7, if_neg (by rw [zb_0]; omega), r6]
        refine rl7 _ ?_
        rw [if_neg (by decide), if_neg i32', hs7.2.1, ← eRS]
        exact rl K hK
  · have n131 : ¬ nI (zKn b n N j3) = (131 : Int32) := nI_neq (c := 131) (by omega) (by omega) kw
    obtain ⟨FS, eFS⟩ : ∃ FS, FS = zuI (zuI F4 77 l (nI c3)) 72 7 (nI (l + 1)) := ⟨_, rfl⟩
    obtain ⟨RS, eRS⟩ : ∃ RS, RS = zuI R4 191 (32 + l) (nI c3) := ⟨_, rfl⟩
    have hS : zJ f r b n N FS RS j3 := by rw [eRS]; exact zJ_u (zJ_F h4 (by rw [eFS, zi_ne (by omega), zi_ne (by omega)]) (fun i hi => by rw [eFS, zi_ne (by omega), zi_ne (by omega)])) (by omega)
    have hsS : zCs FS RS c3 := by rw [eRS]; exact zCs_V (zCs_F hs4 (by rw [eFS, zi_at, if_neg (by omega), zi_ne (by omega)]) (by rw [eFS, zi_ne (by omega), zi_ne (by omega)])) (by omega)
    rcases le_j (X := X) (d := d + 19) (e := e) (g := g) (gr := gr) (l := l) hS hsS with ⟨R', cl, rl, hE, hsE, fkE⟩ | ⟨F', R', cl, rl, er⟩
    · refine Or.inl ⟨_, R', j3 + 1, c3, fun K hK => e51_70 (hc1 _ (cl3 _ ?_)), fun K hK => s195_2_178 ?_, hE, hsE, by omega, ld_mk hd hl hw (c3 := c3) (by omega) (by omega) ?_ (fun q => ?_) (fun q => ?_) (fun q => ?_) (fun q => ?_) (fun q => ?_) (fun q => ?_) (fun q => ?_) (fun q => ?_) (fun k hk => ?_) ?_ ?_, ?_, ?_⟩
      · rw [if_neg (by decide)]
        apply e40_72
        rw [h37, if_neg l16, if_neg il, kl, hs3.1, ← eF4, v4, q85 v1 v5, if_neg n131]
        apply e41_72
        rw [h47, if_neg l16, if_neg il, kl, hs4.1, nI_1, ← eFS]
        exact cl K hK
      · rw [q196y x7 hw hk, if_neg (by decide), if_neg n16, e32, if_neg i32, k32, hw2.2, ← eRa, r1, if_neg i32', hs1.2.1, ← eR2]
        refine rl3 _ ?_
        rw [if_neg (by decide), if_neg i32', hs3.2.1, ← eR4, show (3 : Int32) = nI 3 from rfl, q182 (by omega) v7, if_pos (by rw [zb_0]; omega), if_neg i32', hs4.2.1, ← eRS]
        exact rl K hK
      · rw [zi_ne (by omega), eFS, zi_at, if_pos rfl]
      · rw [zi_ne (by omega), eFS, zi_ne (by omega), zi_ne (by omega), m74]
      · rw [zi_ne (by omega), eFS, zi_ne (by omega), zi_ne (by omega), m75]
      · rw [zi_ne (by omega), eFS, zi_ne (by omega), zi_ne (by omega), m76]
      · rw [zi_ne (by omega), eFS, zi_ne (by omega), zi_at, m77]
      · rw [fkE.1 188 (by omega), eRS, zi_ne (by omega), n74]
      · rw [fkE.1 189 (by omega), eRS, zi_ne (by omega), n75]
      · rw [fkE.1 190 (by omega), eRS, zi_ne (by omega), n76]
      · rw [fkE.1 191 (by omega), eRS, zi_at, n77]
        by_cases eq : q = l
        · rw [if_pos eq, if_pos (by omega)]
        · rw [if_neg eq, if_neg (by omega)]
      · rw [zi_ne (by omega), eFS, zi_ne (by omega), zi_ne (by omega), m73 k hk]
      · rw [zi_ne (by omega), eFS, zi_ne (by omega), zi_ne (by omega)]
        exact t3
      · exact Or.inl rfl
      · rw [fkE.2 26 (by omega), eRS, zi_ne (by omega)]
        rw [o8 26 (Or.inr rfl)]; exact h26
      · rw [fkE.2 24 (by omega), eRS, zi_ne (by omega)]
        rw [o8 24 (Or.inl rfl)]; exact h24
    · refine Or.inr ⟨F', R', fun K hK => e51_70 (hc1 _ (cl3 _ ?_)), fun K hK => s195_2_178 ?_, er⟩
      · rw [if_neg (by decide)]
        apply e40_72
        rw [h37, if_neg l16, if_neg il, kl, hs3.1, ← eF4, v4, q85 v1 v5, if_neg n131]
        apply e41_72
        rw [h47, if_neg l16, if_neg il, kl, hs4.1, nI_1, ← eFS]
        exact cl K hK
      · rw [q196y x7 hw hk, if_neg (by decide), if_neg n16, e32, if_neg i32, k32, hw2.2, ← eRa, r1, if_neg i32', hs1.2.1, ← eR2]
        refine rl3 _ ?_
        rw [if_neg (by decide), if_neg i32', hs3.2.1, ← eR4, show (3 : Int32) = nI 3 from rfl, q182 (by omega) v7, if_pos (by rw [zb_0]; omega), if_neg i32', hs4.2.1, ← eRS]
        exact rl K hK
end ZLM

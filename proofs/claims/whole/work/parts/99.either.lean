/-! clauses joined by and, and these by or -/
section ZEI
variable {X : Nat × (Nat → Int32)} {e : Nat} {f r : Nat → Nat → Int32} {g gr : Nat → Nat → Int64} {b : Nat → Nat} {n N : Nat}
theorem ei_step {m : Nat} (hC : zCla X e f r g gr b n N m) (ihE : ∀ m', m' < m → zEit X e f r g gr b n N m') : zEit X e f r g gr b n N m := by
  intro d o t x1 i fi fa a F R j c hm ho hx hfi hfa h hs hcj hij hac hty h28 h26 h11 h10 hb ht3
  have hN : N ≤ 400 := h.1.2.1
  have hjN : j ≤ N := h.2.2.2.2.1
  have h400 : ¬ (400 : Int32) ≤ nI i := nI_ge (b := 400) (by omega) (by omega)
  have ed : d + 2 * (8 - o) + 4 = (d + 2 * (8 - o) + 3) + 1 := by omega
  have x2n : ¬ (1 : Int32) = 0 := by decide
  by_cases ef00 : fi = 0 ∧ fa = 0
  · obtain ⟨rfl, rfl⟩ := ef00
    have H28 : R 178 28 = nI (t + 1 + 1 + 0) := h28
    rcases hC d o 0 (t + 1 + 1) x1 F R j c hm ho (Nat.zero_le _) hx h hs (by omega) H28 h26 (fun i i1 i2 => absurd i2 (by omega)) (Or.inr (show ¬ R 194 (t + 1) = 9 by rw [show R 194 (t + 1) = 10 from h10 rfl]; decide)) (by omega) with ⟨F1, R1, j1, c1, cl, rl, y1, y2, y3, y4, y5, y6, y7, y8, y9, y10, y11⟩ | ⟨F1, R1, cl, rl, er⟩
    case inr =>
      refine Or.inr ⟨F1, R1, fun K hK => ?_, rl, er⟩
      rw [ed]
      apply s55_7_70
      rw [if_neg h400, ← ed]
      refine cl _ ?_
      rw [if_pos rfl, if_pos (Or.inl rfl)]
      exact hK
    have y1 : zJ f r b n N F1 R1 j1 := y1
    have y2 : zCs F1 R1 c1 := y2
    have y7 : R1 178 26 = nI o := y7
    have hj1 : j1 ≤ N := y1.2.2.2.2.1
    have kl := zKn_le (b := b) (n := n) (N := N) (j := j1)
    have t1 : ∀ s : List Bool, s.length + (7 + 2 * (8 - o)) ≤ 32 → zTyp (F1 73) a (c1 - a) s = some (true :: zPq 0 0 s) := fun s hs => by
      have q1 := hty s hs
      rw [← zTyp_congr (c2 := F1 73) _ _ _ (fun k hk => y4.2.2 k (by omega))] at q1
      refine zTyp_q hac y8 q1 (y11 _ ?_)
      show (true :: true :: s).length + _ ≤ 32
      rw [List.length_cons, List.length_cons]
      omega
    have o94 : ∀ i, i < t + 1 + 1 → R1 194 i = R 194 i := y5.2.2
    have hz10 : t = 0 ∨ ¬ R1 194 (t - 1) = 10 := by
      by_cases t0 : t = 0
      · exact Or.inl t0
      · exact Or.inr (by rw [o94 _ (by omega), hb.resolve_left t0]; decide)
    have e10 : R1 194 (t + 1) = 10 := by rw [o94 _ (by omega)]; exact h10 rfl
    have n10 : t + 1 = 0 ∨ ¬ R1 194 (t + 1 - 1) = 10 := by
      exact Or.inr (by rw [Nat.add_sub_cancel, o94 _ (by omega), h11 rfl]; decide)
    obtain ⟨p1, p2, p3, p4⟩ := jp (zJ_T (s := 28) (x := nI (t + 1)) y1 (by omega) (by omega)) (zCs_T (s := 28) (x := nI (t + 1)) y2 (by omega)) (Or.inr (Or.inr (Or.inr (Or.inr (Or.inr (Or.inr (Or.inr (Or.inr (Or.inr (Or.inr (Or.inl ⟨rfl, rfl⟩)))))))))) : zCod (-133) 10 0)
    have s10 : ∀ Kv : (Nat → Nat → Int32) → (Nat → Nat → Int64) → Prop, zCpv X (e + 8) 205 [.ref 178, .int 10] (zs R1 gr) Kv = Kv (zEmi (zuI R1 178 28 (nI (t + 1))) c1 10 0) gr := fun Kv => st_one (X := X) (d := e + 6) (by decide) y6 (by omega) e10 n10 y2.2.1 (by omega)
    obtain ⟨F2, eF2⟩ : ∃ F2, F2 = zPut F1 c1 (-133) := ⟨_, rfl⟩
    obtain ⟨R2, eR2⟩ : ∃ R2, R2 = zEmi (zuI R1 178 28 (nI (t + 1))) c1 10 0 := ⟨_, rfl⟩
    rw [← eF2] at p1 p2 p3 p4
    rw [← eR2] at p1 p2 p3 s10
    have lg2 : zLg F F2 c := zLg_tr y4 (zLg_f p3) y8
    have lh2 : zLh R R2 (t + 1) := zLh_tr (zLh_tr (zLh_le y5 (by omega)) (zLh_T (s := 28) (Or.inr rfl)) (Nat.le_refl _)) (zLh_f p3) (Nat.le_refl _)
    have b28 : R2 178 28 = nI (t + 1) := by rw [p3.2.2.2.2 28 (by omega) (by omega), zi_at, if_pos rfl]
    have b26 : R2 178 26 = nI o := by rw [p3.2.2.2.2 26 (by omega) (by omega), zi_at, if_neg (by omega)]; exact y7
    have t2 : ∀ s : List Bool, s.length + (7 + 2 * (8 - o)) ≤ 32 → zTyp (F2 73) a (c1 + 1 - a) s = some (true :: zPq 1 0 s) := fun s hs => by
      have q1 := t1 s hs
      rw [← zTyp_congr (c2 := F2 73) _ _ _ (fun k hk => p3.2.2.1 k (by omega))] at q1
      refine zTyp_p (by omega) q1 (zyS_b (u := zPq 1 0 s) ?_ (Or.inl (by rw [p4]; rfl)))
      show (true :: s).length + 2 < 32
      rw [List.length_cons]
      omega
    obtain ⟨v1, v2, v3, v4, v5, v6, v7, v8, v9⟩ := id p1
    have w7 := y1.2.2.2.2.2.2.1
    have o94' : ∀ i, i < t + 1 → R2 194 i = R 194 i := lh2.2.2
    by_cases k133 : zKn b n N j1 = 133
    · have hj := zKn_lt (by omega) k133
      obtain ⟨R3, eR3⟩ : ∃ R3, R3 = zuI (zuI R2 194 (t + 1) 10) 178 28 (nI (t + 1 + 1)) := ⟨_, rfl⟩
      have hJ3 : zJ f r b n N F2 R3 j1 := by rw [eR3]; exact zJ_T (zJ_U p1) (by omega) (by omega)
      have hC3 : zCs F2 R3 (c1 + 1) := by rw [eR3]; exact zCs_T (zCs_U p2) (by omega)
      have hL3 : zLh R2 R3 (t + 1) := by rw [eR3]; exact zLh_tr (zLh_U (Nat.le_refl _)) (zLh_T (Or.inr rfl)) (Nat.le_refl _)
      obtain ⟨R4, r4, h4, hs4, lf4, fk4⟩ := jn (X := X) (d := e + 4) (g := gr) hJ3 hC3 hj
      have a94 : ∀ i, R4 194 i = if i = t + 1 then 10 else R2 194 i := fun i => by rw [fk4.1 194 (by omega), eR3, zi_ne (by omega), zi_at]
      have a28 : R4 178 28 = nI (t + 1 + 1) := by rw [fk4.2 28 (by omega), eR3, zi_at, if_pos rfl]
      have a26 : R4 178 26 = nI o := by rw [fk4.2 26 (by omega), eR3, zi_at, if_neg (by omega), zi_ne (by omega)]; exact b26
      have lh4 : zLh R R4 t := zLh_le (zLh_tr (zLh_tr lh2 hL3 (Nat.le_refl _)) (zLh_f lf4) (Nat.le_refl _)) (by omega)
      have lg4 : zLg F (zuI F2 70 3 (nI (j1 + 1))) c := zLg_tr lg2 (zLg_f lf4) (by omega)
      have hrf : ∀ K : Int32 → (Nat → Nat → Int32) → (Nat → Nat → Int64) → Prop, zWp X (e + 8) zm202 9 [.ref 178, .int (nI x1), .int 1, .null] [] (zs R4 gr) (zQi K) → zWp X (e + 8) zm202 9 [.ref 178, .int (nI x1), .int 1, .null] [] (zs R gr) (zQi K) := fun K hK => by
        refine rl K (s202_9_178 ?_)
        rw [if_pos rfl, show (5 : Int32) = nI 5 from rfl, q182 (by omega) w7, if_neg (by rw [zb_0]; omega), s10, q203 b28 (by omega), ← eR3, r4]
        exact hK
      have hcf : ∀ K : Int32 → (Nat → Nat → Int32) → (Nat → Nat → Int64) → Prop, zWp X (d + 2 * (8 - o) + 4) zm55 7 [.ref 70, .int (nI o), .int (nI 0), .int (nI 0), .int (nI (i + 1)), .null] [] (zs (zuI F2 70 3 (nI (j1 + 1))) g) (zQi K) → zWp X (d + 2 * (8 - o) + 4) zm55 7 [.ref 70, .int (nI o), .int (nI 0), .int (nI 0), .int (nI i), .null] [] (zs F g) (zQi K) := fun K hK => by
        rw [ed]
        apply s55_7_70
        rw [if_neg h400, ← ed]
        refine cl _ ?_
        rw [if_neg x2n, if_pos (show nI 0 = (0 : Int32) from rfl), zl_133, q39 y3 (by omega), ← eF2, v4, q85 v1 v5, if_pos (by rw [k133]; rfl), v4, nI_1, nI_1]
        exact hK
      rcases ihE (m - 1) (by omega) d o t x1 (i + 1) 0 0 a _ R4 (j1 + 1) (c1 + 1) (by omega) ho hx (Or.inl rfl) hfa h4 hs4 (by omega) (by omega) (by omega) (fun s hs => by
          have := t2 s hs
          rw [zi_ne (by omega)]
          exact this) a28 a26 (fun _ => by rw [a94, if_neg (by omega), o94' t (by omega)]; exact h11 rfl) (fun _ => (by rw [a94]; exact if_pos rfl)) (by
          by_cases t0 : t = 0
          · exact Or.inl t0
          · refine Or.inr ?_
            rw [a94, if_neg (by omega), o94' (t - 1) (by omega)]
            exact hb.resolve_left t0) ht3 with ⟨F', R', j', c', cl', rl', z1, z2, z3, z4, z5, z6, z7, z8, z9, z10⟩ | ⟨F', R', cl', rl', er⟩
      · exact Or.inl ⟨F', R', j', c', fun K hK => hcf K (cl' K hK), fun K hK => hrf K (rl' K hK), z1, z2, zLg_tr lg4 z3 (by omega), zLh_tr lh4 z4 (Nat.le_refl _), z5, z6, by omega, by omega, by omega, z10⟩
      · exact Or.inr ⟨F', R', fun K hK => hcf K (cl' K hK), fun K hK => hrf K (rl' K hK), er⟩
    · have n133 : ¬ nI (zKn b n N j1) = (133 : Int32) := nI_neq (c := 133) (by omega) (by omega) k133
      have hz11 : t = 0 ∨ ¬ R2 194 (t - 1) = 11 := by
        by_cases t0 : t = 0
        · exact Or.inl t0
        · exact Or.inr (by rw [o94' _ (by omega), hb.resolve_left t0]; decide)
      obtain ⟨q1, q2, q3, q4⟩ := jp (zJ_T (s := 28) (x := nI t) p1 (by omega) (by omega)) (zCs_T (s := 28) (x := nI t) p2 (by omega)) (Or.inr (Or.inr (Or.inr (Or.inr (Or.inr (Or.inr (Or.inr (Or.inr (Or.inr (Or.inr (Or.inr ⟨rfl, rfl⟩)))))))))) : zCod (-132) 11 0)
      have s11 : ∀ Kv : (Nat → Nat → Int32) → (Nat → Nat → Int64) → Prop, zCpv X (e + 8) 205 [.ref 178, .int 11] (zs R2 gr) Kv = Kv (zEmi (zuI R2 178 28 (nI t)) (c1 + 1) 11 0) gr := fun Kv => st_one (X := X) (d := e + 6) (by decide) b28 (by omega) (by rw [o94' _ (by omega)]; exact h11 rfl) hz11 p2.2.1 (by omega)
      obtain ⟨F3, eF3⟩ : ∃ F3, F3 = zPut F2 (c1 + 1) (-132) := ⟨_, rfl⟩
      obtain ⟨R3, eR3⟩ : ∃ R3, R3 = zEmi (zuI R2 178 28 (nI t)) (c1 + 1) 11 0 := ⟨_, rfl⟩
      rw [← eF3] at q1 q2 q3 q4
      rw [← eR3] at q1 q2 q3 s11
      have lg3 : zLg F F3 c := zLg_tr lg2 (zLg_f q3) (by omega)
      have lh3 : zLh R R3 t := zLh_tr (zLh_tr (zLh_le lh2 (by omega)) (zLh_T (s := 28) (Or.inr rfl)) (Nat.le_refl _)) (zLh_f q3) (Nat.le_refl _)
      have g28 : R3 178 28 = nI t := by rw [q3.2.2.2.2 28 (by omega) (by omega), zi_at, if_pos rfl]
      have g26 : R3 178 26 = nI o := by rw [q3.2.2.2.2 26 (by omega) (by omega), zi_at, if_neg (by omega)]; exact b26
      have t3 : ∀ s : List Bool, s.length + (7 + 2 * (8 - o)) ≤ 32 → zTyp (F3 73) a (c1 + 1 + 1 - a) s = some (true :: s) := fun s hs => by
        have r1 := t2 s hs
        rw [← zTyp_congr (c2 := F3 73) _ _ _ (fun k hk => q3.2.2.1 k (by omega))] at r1
        exact zTyp_p (by omega) r1 (zyS_b (u := s) (by omega) (Or.inr (by rw [q4]; rfl)))
      have m4 : F3 70 3 = nI j1 := q1.2.2.2.1
      by_cases k132 : zKn b n N j1 = 132
      · have hj := zKn_lt (by omega) k132
        obtain ⟨R4, eR4⟩ : ∃ R4, R4 = zuI (zuI R3 194 t 11) 178 28 (nI (t + 1)) := ⟨_, rfl⟩
        have hJ4 : zJ f r b n N F3 R4 j1 := by rw [eR4]; exact zJ_T (zJ_U q1) (by omega) (by omega)
        have hC4 : zCs F3 R4 (c1 + 1 + 1) := by rw [eR4]; exact zCs_T (zCs_U q2) (by omega)
        have hL4 : zLh R3 R4 t := by rw [eR4]; exact zLh_tr (zLh_U (Nat.le_refl _)) (zLh_T (Or.inr rfl)) (Nat.le_refl _)
        obtain ⟨R5, r5, h5, hs5, lf5, fk5⟩ := jn (X := X) (d := e + 4) (g := gr) hJ4 hC4 hj
        have a94 : ∀ i, R5 194 i = if i = t then 11 else R3 194 i := fun i => by rw [fk5.1 194 (by omega), eR4, zi_ne (by omega), zi_at]
        have a28 : R5 178 28 = nI (t + 1) := by rw [fk5.2 28 (by omega), eR4, zi_at, if_pos rfl]
        have a26 : R5 178 26 = nI o := by rw [fk5.2 26 (by omega), eR4, zi_at, if_neg (by omega), zi_ne (by omega)]; exact g26
        have lh5 : zLh R R5 t := zLh_tr (zLh_tr lh3 hL4 (Nat.le_refl _)) (zLh_f lf5) (Nat.le_refl _)
        have lg5 : zLg F (zuI F3 70 3 (nI (j1 + 1))) c := zLg_tr lg3 (zLg_f lf5) (by omega)
        have hrf : ∀ K : Int32 → (Nat → Nat → Int32) → (Nat → Nat → Int64) → Prop, zWp X (e + 8) zm202 9 [.ref 178, .int (nI x1), .int 1, .null] [] (zs R5 gr) (zQi K) → zWp X (e + 8) zm202 9 [.ref 178, .int (nI x1), .int 1, .null] [] (zs R gr) (zQi K) := fun K hK => by
          refine rl K (s202_9_178 ?_)
          rw [if_pos rfl, show (5 : Int32) = nI 5 from rfl, q182 (by omega) w7, if_pos (by rw [zb_0]; omega), show (4 : Int32) = nI 4 from rfl, q182 (by omega) w7, if_neg (by rw [zb_0]; omega), s10, s11, q203 g28 (by omega), ← eR4, r5]
          exact hK
        have hcf : ∀ K : Int32 → (Nat → Nat → Int32) → (Nat → Nat → Int64) → Prop, zWp X (d + 2 * (8 - o) + 4) zm55 7 [.ref 70, .int (nI o), .int (nI 1), .int (nI 0), .int (nI (i + 1)), .null] [] (zs (zuI F3 70 3 (nI (j1 + 1))) g) (zQi K) → zWp X (d + 2 * (8 - o) + 4) zm55 7 [.ref 70, .int (nI o), .int (nI 0), .int (nI 0), .int (nI i), .null] [] (zs F g) (zQi K) := fun K hK => by
          rw [ed]
          apply s55_7_70
          rw [if_neg h400, ← ed]
          refine cl _ ?_
          rw [if_neg x2n, if_pos (show nI 0 = (0 : Int32) from rfl), zl_133, q39 y3 (by omega), ← eF2, v4, q85 v1 v5, if_neg n133, if_pos (show nI 0 = (0 : Int32) from rfl), zl_132, q39 p2.1 (by omega), ← eF3, if_pos (by rw [k132]; rfl), m4, nI_1, nI_1]
          exact hK
        rcases ihE (m - 1) (by omega) d o t x1 (i + 1) 1 0 a _ R5 (j1 + 1) (c1 + 1 + 1) (by omega) ho hx (Or.inr rfl) (Or.inl rfl) h5 hs5 (by omega) (by omega) (by omega) (fun s hs => by
            have := t3 s hs
            rw [zi_ne (by omega)]
            exact this) a28 a26 (fun _ => (by rw [a94]; exact if_pos rfl)) (fun z => absurd z (by decide)) (by
            by_cases t0 : t = 0
            · exact Or.inl t0
            · refine Or.inr ?_
              rw [a94, if_neg (by omega), lh3.2.2 (t - 1) (by omega)]
              exact hb.resolve_left t0) ht3 with ⟨F', R', j', c', cl', rl', z1, z2, z3, z4, z5, z6, z7, z8, z9, z10⟩ | ⟨F', R', cl', rl', er⟩
        · exact Or.inl ⟨F', R', j', c', fun K hK => hcf K (cl' K hK), fun K hK => hrf K (rl' K hK), z1, z2, zLg_tr lg5 z3 (by omega), zLh_tr lh5 z4 (Nat.le_refl _), z5, z6, by omega, by omega, by omega, z10⟩
        · exact Or.inr ⟨F', R', fun K hK => hcf K (cl' K hK), fun K hK => hrf K (rl' K hK), er⟩
      · refine Or.inl ⟨F3, R3, j1, c1 + 1 + 1, fun K hK => ?_, fun K hK => rl K (s202_9_178 ?_), q1, q2, lg3, lh3, g28, g26, by omega, by omega, by omega, t3⟩
        · rw [ed]
          apply s55_7_70
          rw [if_neg h400, ← ed]
          refine cl _ ?_
          rw [if_neg x2n, if_pos (show nI 0 = (0 : Int32) from rfl), zl_133, q39 y3 (by omega), ← eF2, v4, q85 v1 v5, if_neg n133, if_pos (show nI 0 = (0 : Int32) from rfl), zl_132, q39 p2.1 (by omega), ← eF3, if_neg (show ¬ nI (zKn b n N j1) = (132 : Int32) from nI_neq (c := 132) (by omega) (by omega) k132), if_pos (Or.inr rfl)]
          exact hK
        · rw [if_pos rfl, show (5 : Int32) = nI 5 from rfl, q182 (by omega) w7, if_pos (by rw [zb_0]; omega), show (4 : Int32) = nI 4 from rfl, q182 (by omega) w7, if_pos (by rw [zb_0]; omega), s10, s11]
          exact hK
  by_cases ef01 : fi = 0 ∧ fa = 1
  · obtain ⟨rfl, rfl⟩ := ef01
    have H28 : R 178 28 = nI (t + 1 + 0) := h28
    rcases hC d o 0 (t + 1) x1 F R j c hm ho (Nat.zero_le _) hx h hs (by omega) H28 h26 (fun i i1 i2 => absurd i2 (by omega)) (Or.inr (show ¬ R 194 (t) = 9 by rw [show R 194 (t) = 10 from h10 rfl]; decide)) (by omega) with ⟨F1, R1, j1, c1, cl, rl, y1, y2, y3, y4, y5, y6, y7, y8, y9, y10, y11⟩ | ⟨F1, R1, cl, rl, er⟩
    case inr =>
      refine Or.inr ⟨F1, R1, fun K hK => ?_, rl, er⟩
      rw [ed]
      apply s55_7_70
      rw [if_neg h400, ← ed]
      refine cl _ ?_
      rw [if_pos rfl, if_pos (Or.inl rfl)]
      exact hK
    have y1 : zJ f r b n N F1 R1 j1 := y1
    have y2 : zCs F1 R1 c1 := y2
    have y7 : R1 178 26 = nI o := y7
    have hj1 : j1 ≤ N := y1.2.2.2.2.1
    have kl := zKn_le (b := b) (n := n) (N := N) (j := j1)
    have t1 : ∀ s : List Bool, s.length + (7 + 2 * (8 - o)) ≤ 32 → zTyp (F1 73) a (c1 - a) s = some (true :: zPq 0 1 s) := fun s hs => by
      have q1 := hty s hs
      rw [← zTyp_congr (c2 := F1 73) _ _ _ (fun k hk => y4.2.2 k (by omega))] at q1
      refine zTyp_q hac y8 q1 (y11 _ ?_)
      show (true :: s).length + _ ≤ 32
      rw [List.length_cons]
      omega
    have o94 : ∀ i, i < t + 1 → R1 194 i = R 194 i := y5.2.2
    have hz10 : t = 0 ∨ ¬ R1 194 (t - 1) = 10 := by
      by_cases t0 : t = 0
      · exact Or.inl t0
      · exact Or.inr (by rw [o94 _ (by omega), hb.resolve_left t0]; decide)
    have e10 : R1 194 (t) = 10 := by rw [o94 _ (by omega)]; exact h10 rfl
    have n10 : t = 0 ∨ ¬ R1 194 (t - 1) = 10 := by
      exact hz10
    obtain ⟨p1, p2, p3, p4⟩ := jp (zJ_T (s := 28) (x := nI (t)) y1 (by omega) (by omega)) (zCs_T (s := 28) (x := nI (t)) y2 (by omega)) (Or.inr (Or.inr (Or.inr (Or.inr (Or.inr (Or.inr (Or.inr (Or.inr (Or.inr (Or.inr (Or.inl ⟨rfl, rfl⟩)))))))))) : zCod (-133) 10 0)
    have s10 : ∀ Kv : (Nat → Nat → Int32) → (Nat → Nat → Int64) → Prop, zCpv X (e + 8) 205 [.ref 178, .int 10] (zs R1 gr) Kv = Kv (zEmi (zuI R1 178 28 (nI (t))) c1 10 0) gr := fun Kv => st_one (X := X) (d := e + 6) (by decide) y6 (by omega) e10 n10 y2.2.1 (by omega)
    obtain ⟨F2, eF2⟩ : ∃ F2, F2 = zPut F1 c1 (-133) := ⟨_, rfl⟩
    obtain ⟨R2, eR2⟩ : ∃ R2, R2 = zEmi (zuI R1 178 28 (nI (t))) c1 10 0 := ⟨_, rfl⟩
    rw [← eF2] at p1 p2 p3 p4
    rw [← eR2] at p1 p2 p3 s10
    have lg2 : zLg F F2 c := zLg_tr y4 (zLg_f p3) y8
    have lh2 : zLh R R2 (t) := zLh_tr (zLh_tr (zLh_le y5 (by omega)) (zLh_T (s := 28) (Or.inr rfl)) (Nat.le_refl _)) (zLh_f p3) (Nat.le_refl _)
    have b28 : R2 178 28 = nI (t) := by rw [p3.2.2.2.2 28 (by omega) (by omega), zi_at, if_pos rfl]
    have b26 : R2 178 26 = nI o := by rw [p3.2.2.2.2 26 (by omega) (by omega), zi_at, if_neg (by omega)]; exact y7
    have t2 : ∀ s : List Bool, s.length + (7 + 2 * (8 - o)) ≤ 32 → zTyp (F2 73) a (c1 + 1 - a) s = some (true :: zPq 1 1 s) := fun s hs => by
      have q1 := t1 s hs
      rw [← zTyp_congr (c2 := F2 73) _ _ _ (fun k hk => p3.2.2.1 k (by omega))] at q1
      refine zTyp_p (by omega) q1 (zyS_b (u := zPq 1 1 s) ?_ (Or.inl (by rw [p4]; rfl)))
      show (s).length + 2 < 32
      skip
      omega
    obtain ⟨v1, v2, v3, v4, v5, v6, v7, v8, v9⟩ := id p1
    have w7 := y1.2.2.2.2.2.2.1
    have o94' : ∀ i, i < t → R2 194 i = R 194 i := lh2.2.2
    by_cases k133 : zKn b n N j1 = 133
    · have hj := zKn_lt (by omega) k133
      obtain ⟨R3, eR3⟩ : ∃ R3, R3 = zuI (zuI R2 194 (t) 10) 178 28 (nI (t + 1)) := ⟨_, rfl⟩
      have hJ3 : zJ f r b n N F2 R3 j1 := by rw [eR3]; exact zJ_T (zJ_U p1) (by omega) (by omega)
      have hC3 : zCs F2 R3 (c1 + 1) := by rw [eR3]; exact zCs_T (zCs_U p2) (by omega)
      have hL3 : zLh R2 R3 (t) := by rw [eR3]; exact zLh_tr (zLh_U (Nat.le_refl _)) (zLh_T (Or.inr rfl)) (Nat.le_refl _)
      obtain ⟨R4, r4, h4, hs4, lf4, fk4⟩ := jn (X := X) (d := e + 4) (g := gr) hJ3 hC3 hj
      have a94 : ∀ i, R4 194 i = if i = t then 10 else R2 194 i := fun i => by rw [fk4.1 194 (by omega), eR3, zi_ne (by omega), zi_at]
      have a28 : R4 178 28 = nI (t + 1) := by rw [fk4.2 28 (by omega), eR3, zi_at, if_pos rfl]
      have a26 : R4 178 26 = nI o := by rw [fk4.2 26 (by omega), eR3, zi_at, if_neg (by omega), zi_ne (by omega)]; exact b26
      have lh4 : zLh R R4 t := zLh_le (zLh_tr (zLh_tr lh2 hL3 (Nat.le_refl _)) (zLh_f lf4) (Nat.le_refl _)) (by omega)
      have lg4 : zLg F (zuI F2 70 3 (nI (j1 + 1))) c := zLg_tr lg2 (zLg_f lf4) (by omega)
      have hrf : ∀ K : Int32 → (Nat → Nat → Int32) → (Nat → Nat → Int64) → Prop, zWp X (e + 8) zm202 9 [.ref 178, .int (nI x1), .int 1, .null] [] (zs R4 gr) (zQi K) → zWp X (e + 8) zm202 9 [.ref 178, .int (nI x1), .int 1, .null] [] (zs R gr) (zQi K) := fun K hK => by
        refine rl K (s202_9_178 ?_)
        rw [if_pos rfl, show (5 : Int32) = nI 5 from rfl, q182 (by omega) w7, if_neg (by rw [zb_0]; omega), s10, q203 b28 (by omega), ← eR3, r4]
        exact hK
      have hcf : ∀ K : Int32 → (Nat → Nat → Int32) → (Nat → Nat → Int64) → Prop, zWp X (d + 2 * (8 - o) + 4) zm55 7 [.ref 70, .int (nI o), .int (nI 0), .int (nI 1), .int (nI (i + 1)), .null] [] (zs (zuI F2 70 3 (nI (j1 + 1))) g) (zQi K) → zWp X (d + 2 * (8 - o) + 4) zm55 7 [.ref 70, .int (nI o), .int (nI 0), .int (nI 1), .int (nI i), .null] [] (zs F g) (zQi K) := fun K hK => by
        rw [ed]
        apply s55_7_70
        rw [if_neg h400, ← ed]
        refine cl _ ?_
        rw [if_neg x2n, if_pos (show nI 0 = (0 : Int32) from rfl), zl_133, q39 y3 (by omega), ← eF2, v4, q85 v1 v5, if_pos (by rw [k133]; rfl), v4, nI_1, nI_1]
        exact hK
      rcases ihE (m - 1) (by omega) d o t x1 (i + 1) 0 1 a _ R4 (j1 + 1) (c1 + 1) (by omega) ho hx (Or.inl rfl) hfa h4 hs4 (by omega) (by omega) (by omega) (fun s hs => by
          have := t2 s hs
          rw [zi_ne (by omega)]
          exact this) a28 a26 (fun z => absurd z (by decide)) (fun _ => (by rw [a94]; exact if_pos rfl)) (by
          by_cases t0 : t = 0
          · exact Or.inl t0
          · refine Or.inr ?_
            rw [a94, if_neg (by omega), o94' (t - 1) (by omega)]
            exact hb.resolve_left t0) ht3 with ⟨F', R', j', c', cl', rl', z1, z2, z3, z4, z5, z6, z7, z8, z9, z10⟩ | ⟨F', R', cl', rl', er⟩
      · exact Or.inl ⟨F', R', j', c', fun K hK => hcf K (cl' K hK), fun K hK => hrf K (rl' K hK), z1, z2, zLg_tr lg4 z3 (by omega), zLh_tr lh4 z4 (Nat.le_refl _), z5, z6, by omega, by omega, by omega, z10⟩
      · exact Or.inr ⟨F', R', fun K hK => hcf K (cl' K hK), fun K hK => hrf K (rl' K hK), er⟩
    · have n133 : ¬ nI (zKn b n N j1) = (133 : Int32) := nI_neq (c := 133) (by omega) (by omega) k133
      have hz11 : t = 0 ∨ ¬ R2 194 (t - 1) = 11 := by
        by_cases t0 : t = 0
        · exact Or.inl t0
        · exact Or.inr (by rw [o94' _ (by omega), hb.resolve_left t0]; decide)
      have s11 : ∀ Kv : (Nat → Nat → Int32) → (Nat → Nat → Int64) → Prop, zCpv X (e + 8) 205 [.ref 178, .int 11] (zs R2 gr) Kv = Kv R2 gr := fun Kv => st_no (X := X) (d := e + 6) b28 (by omega) hz11
      obtain ⟨F3, eF3⟩ : ∃ F3, F3 = F2 := ⟨_, rfl⟩
      obtain ⟨R3, eR3⟩ : ∃ R3, R3 = R2 := ⟨_, rfl⟩
      have q1 : zJ f r b n N F3 R3 j1 := by rw [eF3, eR3]; exact p1
      have q2 : zCs F3 R3 (c1 + 1) := by rw [eF3, eR3]; exact p2
      have s11 : ∀ Kv : (Nat → Nat → Int32) → (Nat → Nat → Int64) → Prop, zCpv X (e + 8) 205 [.ref 178, .int 11] (zs R2 gr) Kv = Kv R3 gr := by rw [eR3]; exact s11
      have lg3 : zLg F F3 c := by rw [eF3]; exact lg2
      have lh3 : zLh R R3 t := by rw [eR3]; exact lh2
      have g28 : R3 178 28 = nI t := by rw [eR3]; exact b28
      have g26 : R3 178 26 = nI o := by rw [eR3]; exact b26
      have t3 : ∀ s : List Bool, s.length + (7 + 2 * (8 - o)) ≤ 32 → zTyp (F3 73) a (c1 + 1 - a) s = some (true :: s) := by rw [eF3]; exact t2
      have m4 : F3 70 3 = nI j1 := q1.2.2.2.1
      by_cases k132 : zKn b n N j1 = 132
      · have hj := zKn_lt (by omega) k132
        obtain ⟨R4, eR4⟩ : ∃ R4, R4 = zuI (zuI R3 194 t 11) 178 28 (nI (t + 1)) := ⟨_, rfl⟩
        have hJ4 : zJ f r b n N F3 R4 j1 := by rw [eR4]; exact zJ_T (zJ_U q1) (by omega) (by omega)
        have hC4 : zCs F3 R4 (c1 + 1) := by rw [eR4]; exact zCs_T (zCs_U q2) (by omega)
        have hL4 : zLh R3 R4 t := by rw [eR4]; exact zLh_tr (zLh_U (Nat.le_refl _)) (zLh_T (Or.inr rfl)) (Nat.le_refl _)
        obtain ⟨R5, r5, h5, hs5, lf5, fk5⟩ := jn (X := X) (d := e + 4) (g := gr) hJ4 hC4 hj
        have a94 : ∀ i, R5 194 i = if i = t then 11 else R3 194 i := fun i => by rw [fk5.1 194 (by omega), eR4, zi_ne (by omega), zi_at]
        have a28 : R5 178 28 = nI (t + 1) := by rw [fk5.2 28 (by omega), eR4, zi_at, if_pos rfl]
        have a26 : R5 178 26 = nI o := by rw [fk5.2 26 (by omega), eR4, zi_at, if_neg (by omega), zi_ne (by omega)]; exact g26
        have lh5 : zLh R R5 t := zLh_tr (zLh_tr lh3 hL4 (Nat.le_refl _)) (zLh_f lf5) (Nat.le_refl _)
        have lg5 : zLg F (zuI F3 70 3 (nI (j1 + 1))) c := zLg_tr lg3 (zLg_f lf5) (by omega)
        have hrf : ∀ K : Int32 → (Nat → Nat → Int32) → (Nat → Nat → Int64) → Prop, zWp X (e + 8) zm202 9 [.ref 178, .int (nI x1), .int 1, .null] [] (zs R5 gr) (zQi K) → zWp X (e + 8) zm202 9 [.ref 178, .int (nI x1), .int 1, .null] [] (zs R gr) (zQi K) := fun K hK => by
          refine rl K (s202_9_178 ?_)
          rw [if_pos rfl, show (5 : Int32) = nI 5 from rfl, q182 (by omega) w7, if_pos (by rw [zb_0]; omega), show (4 : Int32) = nI 4 from rfl, q182 (by omega) w7, if_neg (by rw [zb_0]; omega), s10, s11, q203 g28 (by omega), ← eR4, r5]
          exact hK
        have hcf : ∀ K : Int32 → (Nat → Nat → Int32) → (Nat → Nat → Int64) → Prop, zWp X (d + 2 * (8 - o) + 4) zm55 7 [.ref 70, .int (nI o), .int (nI 1), .int (nI 0), .int (nI (i + 1)), .null] [] (zs (zuI F3 70 3 (nI (j1 + 1))) g) (zQi K) → zWp X (d + 2 * (8 - o) + 4) zm55 7 [.ref 70, .int (nI o), .int (nI 0), .int (nI 1), .int (nI i), .null] [] (zs F g) (zQi K) := fun K hK => by
          rw [ed]
          apply s55_7_70
          rw [if_neg h400, ← ed]
          refine cl _ ?_
          rw [if_neg x2n, if_pos (show nI 0 = (0 : Int32) from rfl), zl_133, q39 y3 (by omega), ← eF2, v4, q85 v1 v5, if_neg n133, if_neg (show ¬ nI 1 = (0 : Int32) by decide), ← eF3, if_pos (by rw [k132]; rfl), m4, nI_1, nI_1]
          exact hK
        rcases ihE (m - 1) (by omega) d o t x1 (i + 1) 1 0 a _ R5 (j1 + 1) (c1 + 1) (by omega) ho hx (Or.inr rfl) (Or.inl rfl) h5 hs5 (by omega) (by omega) (by omega) (fun s hs => by
            have := t3 s hs
            rw [zi_ne (by omega)]
            exact this) a28 a26 (fun _ => (by rw [a94]; exact if_pos rfl)) (fun z => absurd z (by decide)) (by
            by_cases t0 : t = 0
            · exact Or.inl t0
            · refine Or.inr ?_
              rw [a94, if_neg (by omega), lh3.2.2 (t - 1) (by omega)]
              exact hb.resolve_left t0) ht3 with ⟨F', R', j', c', cl', rl', z1, z2, z3, z4, z5, z6, z7, z8, z9, z10⟩ | ⟨F', R', cl', rl', er⟩
        · exact Or.inl ⟨F', R', j', c', fun K hK => hcf K (cl' K hK), fun K hK => hrf K (rl' K hK), z1, z2, zLg_tr lg5 z3 (by omega), zLh_tr lh5 z4 (Nat.le_refl _), z5, z6, by omega, by omega, by omega, z10⟩
        · exact Or.inr ⟨F', R', fun K hK => hcf K (cl' K hK), fun K hK => hrf K (rl' K hK), er⟩
      · refine Or.inl ⟨F3, R3, j1, c1 + 1, fun K hK => ?_, fun K hK => rl K (s202_9_178 ?_), q1, q2, lg3, lh3, g28, g26, by omega, by omega, by omega, t3⟩
        · rw [ed]
          apply s55_7_70
          rw [if_neg h400, ← ed]
          refine cl _ ?_
          rw [if_neg x2n, if_pos (show nI 0 = (0 : Int32) from rfl), zl_133, q39 y3 (by omega), ← eF2, v4, q85 v1 v5, if_neg n133, if_neg (show ¬ nI 1 = (0 : Int32) by decide), ← eF3, if_neg (show ¬ nI (zKn b n N j1) = (132 : Int32) from nI_neq (c := 132) (by omega) (by omega) k132), if_pos (Or.inr rfl)]
          exact hK
        · rw [if_pos rfl, show (5 : Int32) = nI 5 from rfl, q182 (by omega) w7, if_pos (by rw [zb_0]; omega), show (4 : Int32) = nI 4 from rfl, q182 (by omega) w7, if_pos (by rw [zb_0]; omega), s10, s11]
          exact hK
  by_cases ef10 : fi = 1 ∧ fa = 0
  · obtain ⟨rfl, rfl⟩ := ef10
    have H28 : R 178 28 = nI (t + 1 + 0) := h28
    rcases hC d o 0 (t + 1) x1 F R j c hm ho (Nat.zero_le _) hx h hs (by omega) H28 h26 (fun i i1 i2 => absurd i2 (by omega)) (Or.inr (show ¬ R 194 (t) = 9 by rw [show R 194 t = 11 from h11 rfl]; decide)) (by omega) with ⟨F1, R1, j1, c1, cl, rl, y1, y2, y3, y4, y5, y6, y7, y8, y9, y10, y11⟩ | ⟨F1, R1, cl, rl, er⟩
    case inr =>
      refine Or.inr ⟨F1, R1, fun K hK => ?_, rl, er⟩
      rw [ed]
      apply s55_7_70
      rw [if_neg h400, ← ed]
      refine cl _ ?_
      rw [if_pos rfl, if_pos (Or.inl rfl)]
      exact hK
    have y1 : zJ f r b n N F1 R1 j1 := y1
    have y2 : zCs F1 R1 c1 := y2
    have y7 : R1 178 26 = nI o := y7
    have hj1 : j1 ≤ N := y1.2.2.2.2.1
    have kl := zKn_le (b := b) (n := n) (N := N) (j := j1)
    have t1 : ∀ s : List Bool, s.length + (7 + 2 * (8 - o)) ≤ 32 → zTyp (F1 73) a (c1 - a) s = some (true :: zPq 1 0 s) := fun s hs => by
      have q1 := hty s hs
      rw [← zTyp_congr (c2 := F1 73) _ _ _ (fun k hk => y4.2.2 k (by omega))] at q1
      refine zTyp_q hac y8 q1 (y11 _ ?_)
      show (true :: s).length + _ ≤ 32
      rw [List.length_cons]
      omega
    have o94 : ∀ i, i < t + 1 → R1 194 i = R 194 i := y5.2.2
    have hz10 : t = 0 ∨ ¬ R1 194 (t - 1) = 10 := by
      by_cases t0 : t = 0
      · exact Or.inl t0
      · exact Or.inr (by rw [o94 _ (by omega), hb.resolve_left t0]; decide)
    have s10 : ∀ Kv : (Nat → Nat → Int32) → (Nat → Nat → Int64) → Prop, zCpv X (e + 8) 205 [.ref 178, .int 10] (zs R1 gr) Kv = Kv R1 gr := fun Kv => st_no (X := X) (d := e + 6) y6 (by omega) (Or.inr (by rw [Nat.add_sub_cancel, o94 _ (by omega), h11 rfl]; decide))
    obtain ⟨F2, eF2⟩ : ∃ F2, F2 = F1 := ⟨_, rfl⟩
    obtain ⟨R2, eR2⟩ : ∃ R2, R2 = R1 := ⟨_, rfl⟩
    have p1 : zJ f r b n N F2 R2 j1 := by rw [eF2, eR2]; exact y1
    have p2 : zCs F2 R2 c1 := by rw [eF2, eR2]; exact y2
    have s10 : ∀ Kv : (Nat → Nat → Int32) → (Nat → Nat → Int64) → Prop, zCpv X (e + 8) 205 [.ref 178, .int 10] (zs R1 gr) Kv = Kv R2 gr := by rw [eR2]; exact s10
    have lg2 : zLg F F2 c := by rw [eF2]; exact y4
    have lh2 : zLh R R2 (t + 1) := by rw [eR2]; exact y5
    have b28 : R2 178 28 = nI (t + 1) := by rw [eR2]; exact y6
    have b26 : R2 178 26 = nI o := by rw [eR2]; exact y7
    have t2 : ∀ s : List Bool, s.length + (7 + 2 * (8 - o)) ≤ 32 → zTyp (F2 73) a (c1 - a) s = some (true :: zPq 1 0 s) := by rw [eF2]; exact t1
    obtain ⟨v1, v2, v3, v4, v5, v6, v7, v8, v9⟩ := id p1
    have w7 := y1.2.2.2.2.2.2.1
    have o94' : ∀ i, i < t + 1 → R2 194 i = R 194 i := lh2.2.2
    by_cases k133 : zKn b n N j1 = 133
    · have hj := zKn_lt (by omega) k133
      obtain ⟨R3, eR3⟩ : ∃ R3, R3 = zuI (zuI R2 194 (t + 1) 10) 178 28 (nI (t + 1 + 1)) := ⟨_, rfl⟩
      have hJ3 : zJ f r b n N F2 R3 j1 := by rw [eR3]; exact zJ_T (zJ_U p1) (by omega) (by omega)
      have hC3 : zCs F2 R3 (c1) := by rw [eR3]; exact zCs_T (zCs_U p2) (by omega)
      have hL3 : zLh R2 R3 (t + 1) := by rw [eR3]; exact zLh_tr (zLh_U (Nat.le_refl _)) (zLh_T (Or.inr rfl)) (Nat.le_refl _)
      obtain ⟨R4, r4, h4, hs4, lf4, fk4⟩ := jn (X := X) (d := e + 4) (g := gr) hJ3 hC3 hj
      have a94 : ∀ i, R4 194 i = if i = t + 1 then 10 else R2 194 i := fun i => by rw [fk4.1 194 (by omega), eR3, zi_ne (by omega), zi_at]
      have a28 : R4 178 28 = nI (t + 1 + 1) := by rw [fk4.2 28 (by omega), eR3, zi_at, if_pos rfl]
      have a26 : R4 178 26 = nI o := by rw [fk4.2 26 (by omega), eR3, zi_at, if_neg (by omega), zi_ne (by omega)]; exact b26
      have lh4 : zLh R R4 t := zLh_le (zLh_tr (zLh_tr lh2 hL3 (Nat.le_refl _)) (zLh_f lf4) (Nat.le_refl _)) (by omega)
      have lg4 : zLg F (zuI F2 70 3 (nI (j1 + 1))) c := zLg_tr lg2 (zLg_f lf4) (by omega)
      have hrf : ∀ K : Int32 → (Nat → Nat → Int32) → (Nat → Nat → Int64) → Prop, zWp X (e + 8) zm202 9 [.ref 178, .int (nI x1), .int 1, .null] [] (zs R4 gr) (zQi K) → zWp X (e + 8) zm202 9 [.ref 178, .int (nI x1), .int 1, .null] [] (zs R gr) (zQi K) := fun K hK => by
        refine rl K (s202_9_178 ?_)
        rw [if_pos rfl, show (5 : Int32) = nI 5 from rfl, q182 (by omega) w7, if_neg (by rw [zb_0]; omega), s10, q203 b28 (by omega), ← eR3, r4]
        exact hK
      have hcf : ∀ K : Int32 → (Nat → Nat → Int32) → (Nat → Nat → Int64) → Prop, zWp X (d + 2 * (8 - o) + 4) zm55 7 [.ref 70, .int (nI o), .int (nI 0), .int (nI 0), .int (nI (i + 1)), .null] [] (zs (zuI F2 70 3 (nI (j1 + 1))) g) (zQi K) → zWp X (d + 2 * (8 - o) + 4) zm55 7 [.ref 70, .int (nI o), .int (nI 1), .int (nI 0), .int (nI i), .null] [] (zs F g) (zQi K) := fun K hK => by
        rw [ed]
        apply s55_7_70
        rw [if_neg h400, ← ed]
        refine cl _ ?_
        rw [if_neg x2n, if_neg (show ¬ nI 1 = (0 : Int32) by decide), ← eF2, v4, q85 v1 v5, if_pos (by rw [k133]; rfl), v4, nI_1, nI_1]
        exact hK
      rcases ihE (m - 1) (by omega) d o t x1 (i + 1) 0 0 a _ R4 (j1 + 1) (c1) (by omega) ho hx (Or.inl rfl) hfa h4 hs4 (by omega) (by omega) (by omega) (fun s hs => by
          have := t2 s hs
          rw [zi_ne (by omega)]
          exact this) a28 a26 (fun _ => by rw [a94, if_neg (by omega), o94' t (by omega)]; exact h11 rfl) (fun _ => (by rw [a94]; exact if_pos rfl)) (by
          by_cases t0 : t = 0
          · exact Or.inl t0
          · refine Or.inr ?_
            rw [a94, if_neg (by omega), o94' (t - 1) (by omega)]
            exact hb.resolve_left t0) ht3 with ⟨F', R', j', c', cl', rl', z1, z2, z3, z4, z5, z6, z7, z8, z9, z10⟩ | ⟨F', R', cl', rl', er⟩
      · exact Or.inl ⟨F', R', j', c', fun K hK => hcf K (cl' K hK), fun K hK => hrf K (rl' K hK), z1, z2, zLg_tr lg4 z3 (by omega), zLh_tr lh4 z4 (Nat.le_refl _), z5, z6, by omega, by omega, by omega, z10⟩
      · exact Or.inr ⟨F', R', fun K hK => hcf K (cl' K hK), fun K hK => hrf K (rl' K hK), er⟩
    · have n133 : ¬ nI (zKn b n N j1) = (133 : Int32) := nI_neq (c := 133) (by omega) (by omega) k133
      have hz11 : t = 0 ∨ ¬ R2 194 (t - 1) = 11 := by
        by_cases t0 : t = 0
        · exact Or.inl t0
        · exact Or.inr (by rw [o94' _ (by omega), hb.resolve_left t0]; decide)
      obtain ⟨q1, q2, q3, q4⟩ := jp (zJ_T (s := 28) (x := nI t) p1 (by omega) (by omega)) (zCs_T (s := 28) (x := nI t) p2 (by omega)) (Or.inr (Or.inr (Or.inr (Or.inr (Or.inr (Or.inr (Or.inr (Or.inr (Or.inr (Or.inr (Or.inr ⟨rfl, rfl⟩)))))))))) : zCod (-132) 11 0)
      have s11 : ∀ Kv : (Nat → Nat → Int32) → (Nat → Nat → Int64) → Prop, zCpv X (e + 8) 205 [.ref 178, .int 11] (zs R2 gr) Kv = Kv (zEmi (zuI R2 178 28 (nI t)) (c1) 11 0) gr := fun Kv => st_one (X := X) (d := e + 6) (by decide) b28 (by omega) (by rw [o94' _ (by omega)]; exact h11 rfl) hz11 p2.2.1 (by omega)
      obtain ⟨F3, eF3⟩ : ∃ F3, F3 = zPut F2 (c1) (-132) := ⟨_, rfl⟩
      obtain ⟨R3, eR3⟩ : ∃ R3, R3 = zEmi (zuI R2 178 28 (nI t)) (c1) 11 0 := ⟨_, rfl⟩
      rw [← eF3] at q1 q2 q3 q4
      rw [← eR3] at q1 q2 q3 s11
      have lg3 : zLg F F3 c := zLg_tr lg2 (zLg_f q3) (by omega)
      have lh3 : zLh R R3 t := zLh_tr (zLh_tr (zLh_le lh2 (by omega)) (zLh_T (s := 28) (Or.inr rfl)) (Nat.le_refl _)) (zLh_f q3) (Nat.le_refl _)
      have g28 : R3 178 28 = nI t := by rw [q3.2.2.2.2 28 (by omega) (by omega), zi_at, if_pos rfl]
      have g26 : R3 178 26 = nI o := by rw [q3.2.2.2.2 26 (by omega) (by omega), zi_at, if_neg (by omega)]; exact b26
      have t3 : ∀ s : List Bool, s.length + (7 + 2 * (8 - o)) ≤ 32 → zTyp (F3 73) a (c1 + 1 - a) s = some (true :: s) := fun s hs => by
        have r1 := t2 s hs
        rw [← zTyp_congr (c2 := F3 73) _ _ _ (fun k hk => q3.2.2.1 k (by omega))] at r1
        exact zTyp_p (by omega) r1 (zyS_b (u := s) (by omega) (Or.inr (by rw [q4]; rfl)))
      have m4 : F3 70 3 = nI j1 := q1.2.2.2.1
      by_cases k132 : zKn b n N j1 = 132
      · have hj := zKn_lt (by omega) k132
        obtain ⟨R4, eR4⟩ : ∃ R4, R4 = zuI (zuI R3 194 t 11) 178 28 (nI (t + 1)) := ⟨_, rfl⟩
        have hJ4 : zJ f r b n N F3 R4 j1 := by rw [eR4]; exact zJ_T (zJ_U q1) (by omega) (by omega)
        have hC4 : zCs F3 R4 (c1 + 1) := by rw [eR4]; exact zCs_T (zCs_U q2) (by omega)
        have hL4 : zLh R3 R4 t := by rw [eR4]; exact zLh_tr (zLh_U (Nat.le_refl _)) (zLh_T (Or.inr rfl)) (Nat.le_refl _)
        obtain ⟨R5, r5, h5, hs5, lf5, fk5⟩ := jn (X := X) (d := e + 4) (g := gr) hJ4 hC4 hj
        have a94 : ∀ i, R5 194 i = if i = t then 11 else R3 194 i := fun i => by rw [fk5.1 194 (by omega), eR4, zi_ne (by omega), zi_at]
        have a28 : R5 178 28 = nI (t + 1) := by rw [fk5.2 28 (by omega), eR4, zi_at, if_pos rfl]
        have a26 : R5 178 26 = nI o := by rw [fk5.2 26 (by omega), eR4, zi_at, if_neg (by omega), zi_ne (by omega)]; exact g26
        have lh5 : zLh R R5 t := zLh_tr (zLh_tr lh3 hL4 (Nat.le_refl _)) (zLh_f lf5) (Nat.le_refl _)
        have lg5 : zLg F (zuI F3 70 3 (nI (j1 + 1))) c := zLg_tr lg3 (zLg_f lf5) (by omega)
        have hrf : ∀ K : Int32 → (Nat → Nat → Int32) → (Nat → Nat → Int64) → Prop, zWp X (e + 8) zm202 9 [.ref 178, .int (nI x1), .int 1, .null] [] (zs R5 gr) (zQi K) → zWp X (e + 8) zm202 9 [.ref 178, .int (nI x1), .int 1, .null] [] (zs R gr) (zQi K) := fun K hK => by
          refine rl K (s202_9_178 ?_)
          rw [if_pos rfl, show (5 : Int32) = nI 5 from rfl, q182 (by omega) w7, if_pos (by rw [zb_0]; omega), show (4 : Int32) = nI 4 from rfl, q182 (by omega) w7, if_neg (by rw [zb_0]; omega), s10, s11, q203 g28 (by omega), ← eR4, r5]
          exact hK
        have hcf : ∀ K : Int32 → (Nat → Nat → Int32) → (Nat → Nat → Int64) → Prop, zWp X (d + 2 * (8 - o) + 4) zm55 7 [.ref 70, .int (nI o), .int (nI 1), .int (nI 0), .int (nI (i + 1)), .null] [] (zs (zuI F3 70 3 (nI (j1 + 1))) g) (zQi K) → zWp X (d + 2 * (8 - o) + 4) zm55 7 [.ref 70, .int (nI o), .int (nI 1), .int (nI 0), .int (nI i), .null] [] (zs F g) (zQi K) := fun K hK => by
          rw [ed]
          apply s55_7_70
          rw [if_neg h400, ← ed]
          refine cl _ ?_
          rw [if_neg x2n, if_neg (show ¬ nI 1 = (0 : Int32) by decide), ← eF2, v4, q85 v1 v5, if_neg n133, if_pos (show nI 0 = (0 : Int32) from rfl), zl_132, q39 p2.1 (by omega), ← eF3, if_pos (by rw [k132]; rfl), m4, nI_1, nI_1]
          exact hK
        rcases ihE (m - 1) (by omega) d o t x1 (i + 1) 1 0 a _ R5 (j1 + 1) (c1 + 1) (by omega) ho hx (Or.inr rfl) (Or.inl rfl) h5 hs5 (by omega) (by omega) (by omega) (fun s hs => by
            have := t3 s hs
            rw [zi_ne (by omega)]
            exact this) a28 a26 (fun _ => (by rw [a94]; exact if_pos rfl)) (fun z => absurd z (by decide)) (by
            by_cases t0 : t = 0
            · exact Or.inl t0
            · refine Or.inr ?_
              rw [a94, if_neg (by omega), lh3.2.2 (t - 1) (by omega)]
              exact hb.resolve_left t0) ht3 with ⟨F', R', j', c', cl', rl', z1, z2, z3, z4, z5, z6, z7, z8, z9, z10⟩ | ⟨F', R', cl', rl', er⟩
        · exact Or.inl ⟨F', R', j', c', fun K hK => hcf K (cl' K hK), fun K hK => hrf K (rl' K hK), z1, z2, zLg_tr lg5 z3 (by omega), zLh_tr lh5 z4 (Nat.le_refl _), z5, z6, by omega, by omega, by omega, z10⟩
        · exact Or.inr ⟨F', R', fun K hK => hcf K (cl' K hK), fun K hK => hrf K (rl' K hK), er⟩
      · refine Or.inl ⟨F3, R3, j1, c1 + 1, fun K hK => ?_, fun K hK => rl K (s202_9_178 ?_), q1, q2, lg3, lh3, g28, g26, by omega, by omega, by omega, t3⟩
        · rw [ed]
          apply s55_7_70
          rw [if_neg h400, ← ed]
          refine cl _ ?_
          rw [if_neg x2n, if_neg (show ¬ nI 1 = (0 : Int32) by decide), ← eF2, v4, q85 v1 v5, if_neg n133, if_pos (show nI 0 = (0 : Int32) from rfl), zl_132, q39 p2.1 (by omega), ← eF3, if_neg (show ¬ nI (zKn b n N j1) = (132 : Int32) from nI_neq (c := 132) (by omega) (by omega) k132), if_pos (Or.inr rfl)]
          exact hK
        · rw [if_pos rfl, show (5 : Int32) = nI 5 from rfl, q182 (by omega) w7, if_pos (by rw [zb_0]; omega), show (4 : Int32) = nI 4 from rfl, q182 (by omega) w7, if_pos (by rw [zb_0]; omega), s10, s11]
          exact hK
  by_cases ef11 : fi = 1 ∧ fa = 1
  · obtain ⟨rfl, rfl⟩ := ef11
    have H28 : R 178 28 = nI (t + 0) := h28
    rcases hC d o 0 (t) x1 F R j c hm ho (Nat.zero_le _) hx h hs (by omega) H28 h26 (fun i i1 i2 => absurd i2 (by omega)) (hb.imp id (fun z => by rw [z]; decide)) (by omega) with ⟨F1, R1, j1, c1, cl, rl, y1, y2, y3, y4, y5, y6, y7, y8, y9, y10, y11⟩ | ⟨F1, R1, cl, rl, er⟩
    case inr =>
      refine Or.inr ⟨F1, R1, fun K hK => ?_, rl, er⟩
      rw [ed]
      apply s55_7_70
      rw [if_neg h400, ← ed]
      refine cl _ ?_
      rw [if_pos rfl, if_pos (Or.inl rfl)]
      exact hK
    have y1 : zJ f r b n N F1 R1 j1 := y1
    have y2 : zCs F1 R1 c1 := y2
    have y7 : R1 178 26 = nI o := y7
    have hj1 : j1 ≤ N := y1.2.2.2.2.1
    have kl := zKn_le (b := b) (n := n) (N := N) (j := j1)
    have t1 : ∀ s : List Bool, s.length + (7 + 2 * (8 - o)) ≤ 32 → zTyp (F1 73) a (c1 - a) s = some (true :: zPq 1 1 s) := fun s hs => by
      have q1 := hty s hs
      rw [← zTyp_congr (c2 := F1 73) _ _ _ (fun k hk => y4.2.2 k (by omega))] at q1
      refine zTyp_q hac y8 q1 (y11 _ ?_)
      show (s).length + _ ≤ 32
      skip
      omega
    have o94 : ∀ i, i < t → R1 194 i = R 194 i := y5.2.2
    have hz10 : t = 0 ∨ ¬ R1 194 (t - 1) = 10 := by
      by_cases t0 : t = 0
      · exact Or.inl t0
      · exact Or.inr (by rw [o94 _ (by omega), hb.resolve_left t0]; decide)
    have s10 : ∀ Kv : (Nat → Nat → Int32) → (Nat → Nat → Int64) → Prop, zCpv X (e + 8) 205 [.ref 178, .int 10] (zs R1 gr) Kv = Kv R1 gr := fun Kv => st_no (X := X) (d := e + 6) y6 (by omega) (hz10)
    obtain ⟨F2, eF2⟩ : ∃ F2, F2 = F1 := ⟨_, rfl⟩
    obtain ⟨R2, eR2⟩ : ∃ R2, R2 = R1 := ⟨_, rfl⟩
    have p1 : zJ f r b n N F2 R2 j1 := by rw [eF2, eR2]; exact y1
    have p2 : zCs F2 R2 c1 := by rw [eF2, eR2]; exact y2
    have s10 : ∀ Kv : (Nat → Nat → Int32) → (Nat → Nat → Int64) → Prop, zCpv X (e + 8) 205 [.ref 178, .int 10] (zs R1 gr) Kv = Kv R2 gr := by rw [eR2]; exact s10
    have lg2 : zLg F F2 c := by rw [eF2]; exact y4
    have lh2 : zLh R R2 (t) := by rw [eR2]; exact y5
    have b28 : R2 178 28 = nI (t) := by rw [eR2]; exact y6
    have b26 : R2 178 26 = nI o := by rw [eR2]; exact y7
    have t2 : ∀ s : List Bool, s.length + (7 + 2 * (8 - o)) ≤ 32 → zTyp (F2 73) a (c1 - a) s = some (true :: zPq 1 1 s) := by rw [eF2]; exact t1
    obtain ⟨v1, v2, v3, v4, v5, v6, v7, v8, v9⟩ := id p1
    have w7 := y1.2.2.2.2.2.2.1
    have o94' : ∀ i, i < t → R2 194 i = R 194 i := lh2.2.2
    by_cases k133 : zKn b n N j1 = 133
    · have hj := zKn_lt (by omega) k133
      obtain ⟨R3, eR3⟩ : ∃ R3, R3 = zuI (zuI R2 194 (t) 10) 178 28 (nI (t + 1)) := ⟨_, rfl⟩
      have hJ3 : zJ f r b n N F2 R3 j1 := by rw [eR3]; exact zJ_T (zJ_U p1) (by omega) (by omega)
      have hC3 : zCs F2 R3 (c1) := by rw [eR3]; exact zCs_T (zCs_U p2) (by omega)
      have hL3 : zLh R2 R3 (t) := by rw [eR3]; exact zLh_tr (zLh_U (Nat.le_refl _)) (zLh_T (Or.inr rfl)) (Nat.le_refl _)
      obtain ⟨R4, r4, h4, hs4, lf4, fk4⟩ := jn (X := X) (d := e + 4) (g := gr) hJ3 hC3 hj
      have a94 : ∀ i, R4 194 i = if i = t then 10 else R2 194 i := fun i => by rw [fk4.1 194 (by omega), eR3, zi_ne (by omega), zi_at]
      have a28 : R4 178 28 = nI (t + 1) := by rw [fk4.2 28 (by omega), eR3, zi_at, if_pos rfl]
      have a26 : R4 178 26 = nI o := by rw [fk4.2 26 (by omega), eR3, zi_at, if_neg (by omega), zi_ne (by omega)]; exact b26
      have lh4 : zLh R R4 t := zLh_le (zLh_tr (zLh_tr lh2 hL3 (Nat.le_refl _)) (zLh_f lf4) (Nat.le_refl _)) (by omega)
      have lg4 : zLg F (zuI F2 70 3 (nI (j1 + 1))) c := zLg_tr lg2 (zLg_f lf4) (by omega)
      have hrf : ∀ K : Int32 → (Nat → Nat → Int32) → (Nat → Nat → Int64) → Prop, zWp X (e + 8) zm202 9 [.ref 178, .int (nI x1), .int 1, .null] [] (zs R4 gr) (zQi K) → zWp X (e + 8) zm202 9 [.ref 178, .int (nI x1), .int 1, .null] [] (zs R gr) (zQi K) := fun K hK => by
        refine rl K (s202_9_178 ?_)
        rw [if_pos rfl, show (5 : Int32) = nI 5 from rfl, q182 (by omega) w7, if_neg (by rw [zb_0]; omega), s10, q203 b28 (by omega), ← eR3, r4]
        exact hK
      have hcf : ∀ K : Int32 → (Nat → Nat → Int32) → (Nat → Nat → Int64) → Prop, zWp X (d + 2 * (8 - o) + 4) zm55 7 [.ref 70, .int (nI o), .int (nI 0), .int (nI 1), .int (nI (i + 1)), .null] [] (zs (zuI F2 70 3 (nI (j1 + 1))) g) (zQi K) → zWp X (d + 2 * (8 - o) + 4) zm55 7 [.ref 70, .int (nI o), .int (nI 1), .int (nI 1), .int (nI i), .null] [] (zs F g) (zQi K) := fun K hK => by
        rw [ed]
        apply s55_7_70
        rw [if_neg h400, ← ed]
        refine cl _ ?_
        rw [if_neg x2n, if_neg (show ¬ nI 1 = (0 : Int32) by decide), ← eF2, v4, q85 v1 v5, if_pos (by rw [k133]; rfl), v4, nI_1, nI_1]
        exact hK
      rcases ihE (m - 1) (by omega) d o t x1 (i + 1) 0 1 a _ R4 (j1 + 1) (c1) (by omega) ho hx (Or.inl rfl) hfa h4 hs4 (by omega) (by omega) (by omega) (fun s hs => by
          have := t2 s hs
          rw [zi_ne (by omega)]
          exact this) a28 a26 (fun z => absurd z (by decide)) (fun _ => (by rw [a94]; exact if_pos rfl)) (by
          by_cases t0 : t = 0
          · exact Or.inl t0
          · refine Or.inr ?_
            rw [a94, if_neg (by omega), o94' (t - 1) (by omega)]
            exact hb.resolve_left t0) ht3 with ⟨F', R', j', c', cl', rl', z1, z2, z3, z4, z5, z6, z7, z8, z9, z10⟩ | ⟨F', R', cl', rl', er⟩
      · exact Or.inl ⟨F', R', j', c', fun K hK => hcf K (cl' K hK), fun K hK => hrf K (rl' K hK), z1, z2, zLg_tr lg4 z3 (by omega), zLh_tr lh4 z4 (Nat.le_refl _), z5, z6, by omega, by omega, by omega, z10⟩
      · exact Or.inr ⟨F', R', fun K hK => hcf K (cl' K hK), fun K hK => hrf K (rl' K hK), er⟩
    · have n133 : ¬ nI (zKn b n N j1) = (133 : Int32) := nI_neq (c := 133) (by omega) (by omega) k133
      have hz11 : t = 0 ∨ ¬ R2 194 (t - 1) = 11 := by
        by_cases t0 : t = 0
        · exact Or.inl t0
        · exact Or.inr (by rw [o94' _ (by omega), hb.resolve_left t0]; decide)
      have s11 : ∀ Kv : (Nat → Nat → Int32) → (Nat → Nat → Int64) → Prop, zCpv X (e + 8) 205 [.ref 178, .int 11] (zs R2 gr) Kv = Kv R2 gr := fun Kv => st_no (X := X) (d := e + 6) b28 (by omega) hz11
      obtain ⟨F3, eF3⟩ : ∃ F3, F3 = F2 := ⟨_, rfl⟩
      obtain ⟨R3, eR3⟩ : ∃ R3, R3 = R2 := ⟨_, rfl⟩
      have q1 : zJ f r b n N F3 R3 j1 := by rw [eF3, eR3]; exact p1
      have q2 : zCs F3 R3 (c1) := by rw [eF3, eR3]; exact p2
      have s11 : ∀ Kv : (Nat → Nat → Int32) → (Nat → Nat → Int64) → Prop, zCpv X (e + 8) 205 [.ref 178, .int 11] (zs R2 gr) Kv = Kv R3 gr := by rw [eR3]; exact s11
      have lg3 : zLg F F3 c := by rw [eF3]; exact lg2
      have lh3 : zLh R R3 t := by rw [eR3]; exact lh2
      have g28 : R3 178 28 = nI t := by rw [eR3]; exact b28
      have g26 : R3 178 26 = nI o := by rw [eR3]; exact b26
      have t3 : ∀ s : List Bool, s.length + (7 + 2 * (8 - o)) ≤ 32 → zTyp (F3 73) a (c1 - a) s = some (true :: s) := by rw [eF3]; exact t2
      have m4 : F3 70 3 = nI j1 := q1.2.2.2.1
      by_cases k132 : zKn b n N j1 = 132
      · have hj := zKn_lt (by omega) k132
        obtain ⟨R4, eR4⟩ : ∃ R4, R4 = zuI (zuI R3 194 t 11) 178 28 (nI (t + 1)) := ⟨_, rfl⟩
        have hJ4 : zJ f r b n N F3 R4 j1 := by rw [eR4]; exact zJ_T (zJ_U q1) (by omega) (by omega)
        have hC4 : zCs F3 R4 (c1) := by rw [eR4]; exact zCs_T (zCs_U q2) (by omega)
        have hL4 : zLh R3 R4 t := by rw [eR4]; exact zLh_tr (zLh_U (Nat.le_refl _)) (zLh_T (Or.inr rfl)) (Nat.le_refl _)
        obtain ⟨R5, r5, h5, hs5, lf5, fk5⟩ := jn (X := X) (d := e + 4) (g := gr) hJ4 hC4 hj
        have a94 : ∀ i, R5 194 i = if i = t then 11 else R3 194 i := fun i => by rw [fk5.1 194 (by omega), eR4, zi_ne (by omega), zi_at]
        have a28 : R5 178 28 = nI (t + 1) := by rw [fk5.2 28 (by omega), eR4, zi_at, if_pos rfl]
        have a26 : R5 178 26 = nI o := by rw [fk5.2 26 (by omega), eR4, zi_at, if_neg (by omega), zi_ne (by omega)]; exact g26
        have lh5 : zLh R R5 t := zLh_tr (zLh_tr lh3 hL4 (Nat.le_refl _)) (zLh_f lf5) (Nat.le_refl _)
        have lg5 : zLg F (zuI F3 70 3 (nI (j1 + 1))) c := zLg_tr lg3 (zLg_f lf5) (by omega)
        have hrf : ∀ K : Int32 → (Nat → Nat → Int32) → (Nat → Nat → Int64) → Prop, zWp X (e + 8) zm202 9 [.ref 178, .int (nI x1), .int 1, .null] [] (zs R5 gr) (zQi K) → zWp X (e + 8) zm202 9 [.ref 178, .int (nI x1), .int 1, .null] [] (zs R gr) (zQi K) := fun K hK => by
          refine rl K (s202_9_178 ?_)
          rw [if_pos rfl, show (5 : Int32) = nI 5 from rfl, q182 (by omega) w7, if_pos (by rw [zb_0]; omega), show (4 : Int32) = nI 4 from rfl, q182 (by omega) w7, if_neg (by rw [zb_0]; omega), s10, s11, q203 g28 (by omega), ← eR4, r5]
          exact hK
        have hcf : ∀ K : Int32 → (Nat → Nat → Int32) → (Nat → Nat → Int64) → Prop, zWp X (d + 2 * (8 - o) + 4) zm55 7 [.ref 70, .int (nI o), .int (nI 1), .int (nI 0), .int (nI (i + 1)), .null] [] (zs (zuI F3 70 3 (nI (j1 + 1))) g) (zQi K) → zWp X (d + 2 * (8 - o) + 4) zm55 7 [.ref 70, .int (nI o), .int (nI 1), .int (nI 1), .int (nI i), .null] [] (zs F g) (zQi K) := fun K hK => by
          rw [ed]
          apply s55_7_70
          rw [if_neg h400, ← ed]
          refine cl _ ?_
          rw [if_neg x2n, if_neg (show ¬ nI 1 = (0 : Int32) by decide), ← eF2, v4, q85 v1 v5, if_neg n133, if_neg (show ¬ nI 1 = (0 : Int32) by decide), ← eF3, if_pos (by rw [k132]; rfl), m4, nI_1, nI_1]
          exact hK
        rcases ihE (m - 1) (by omega) d o t x1 (i + 1) 1 0 a _ R5 (j1 + 1) (c1) (by omega) ho hx (Or.inr rfl) (Or.inl rfl) h5 hs5 (by omega) (by omega) (by omega) (fun s hs => by
            have := t3 s hs
            rw [zi_ne (by omega)]
            exact this) a28 a26 (fun _ => (by rw [a94]; exact if_pos rfl)) (fun z => absurd z (by decide)) (by
            by_cases t0 : t = 0
            · exact Or.inl t0
            · refine Or.inr ?_
              rw [a94, if_neg (by omega), lh3.2.2 (t - 1) (by omega)]
              exact hb.resolve_left t0) ht3 with ⟨F', R', j', c', cl', rl', z1, z2, z3, z4, z5, z6, z7, z8, z9, z10⟩ | ⟨F', R', cl', rl', er⟩
        · exact Or.inl ⟨F', R', j', c', fun K hK => hcf K (cl' K hK), fun K hK => hrf K (rl' K hK), z1, z2, zLg_tr lg5 z3 (by omega), zLh_tr lh5 z4 (Nat.le_refl _), z5, z6, by omega, by omega, by omega, z10⟩
        · exact Or.inr ⟨F', R', fun K hK => hcf K (cl' K hK), fun K hK => hrf K (rl' K hK), er⟩
      · refine Or.inl ⟨F3, R3, j1, c1, fun K hK => ?_, fun K hK => rl K (s202_9_178 ?_), q1, q2, lg3, lh3, g28, g26, by omega, by omega, by omega, t3⟩
        · rw [ed]
          apply s55_7_70
          rw [if_neg h400, ← ed]
          refine cl _ ?_
          rw [if_neg x2n, if_neg (show ¬ nI 1 = (0 : Int32) by decide), ← eF2, v4, q85 v1 v5, if_neg n133, if_neg (show ¬ nI 1 = (0 : Int32) by decide), ← eF3, if_neg (show ¬ nI (zKn b n N j1) = (132 : Int32) from nI_neq (c := 132) (by omega) (by omega) k132), if_pos (Or.inr rfl)]
          exact hK
        · rw [if_pos rfl, show (5 : Int32) = nI 5 from rfl, q182 (by omega) w7, if_pos (by rw [zb_0]; omega), show (4 : Int32) = nI 4 from rfl, q182 (by omega) w7, if_pos (by rw [zb_0]; omega), s10, s11]
          exact hK
  exfalso
  omega
end ZEI

/-! a clause: not, bracket, or two sums compared -/
theorem zPn_c {x : Int32} : ∀ (k : Nat) {F : Nat → Nat → Int32} {c : Nat}, zPn k (zuI F 70 3 x) c = zuI (zPn k F c) 70 3 x
  | 0, _, _ => rfl
  | k + 1, F, c => by
    unfold zPn
    rw [zPut_c]
    exact zPn_c k
/-- where the reference stands behind clauses joined by and, or -/
def zEn (X : Nat × (Nat → Int32)) (e x1 : Nat) (K : Int32 → (Nat → Nat → Int32) → (Nat → Nat → Int64) → Prop) (f9 : Nat → Nat → Int32) (g10 : Nat → Nat → Int64) : Prop := if nI x1 = 0 then (K 0 f9 g10) else (zCpi X (e + 8) 188 [.ref 178, .int 41] (zs f9 g10) (fun v13 f11 g12 => if v13 = 0 then (zCpi X (e + 8) 183 [.ref 178, .int 1] (zs f11 g12) (fun v16 f14 g15 => K v16 f14 g15)) else (zCpv X (e + 8) 205 [.ref 178, .int 9] (zs (zuI (zuI f11 178 28 (zsO.1 (f11 178 28) 1)) 178 26 (zsO.1 (f11 178 26) 1)) g12) (fun f17 g18 => zCpv X (e + 8) 175 [.ref 178] (zs f17 g18) (fun f19 g20 => zWp X (e + 8) zm202 9 [.ref 178, .int (zsO.1 (nI x1) 1), .int 0, .null] [] (zs f19 g20) (zQi K))))))
def zCla (X : Nat × (Nat → Int32)) (e : Nat) (f r : Nat → Nat → Int32) (g gr : Nat → Nat → Int64) (b : Nat → Nat) (n N m : Nat) : Prop := ∀ (d o k t x1 : Nat) (F R : Nat → Nat → Int32) (j c : Nat), N - j ≤ m → o ≤ 8 → k ≤ o → x1 ≤ o → zJ f r b n N F R j → zCs F R c → c + k ≤ j → R 178 28 = nI (t + k) → R 178 26 = nI o → (∀ i, t ≤ i → i < t + k → R 194 i = 9) → (t = 0 ∨ ¬ R 194 (t - 1) = 9) → t + k ≤ 3 * o + 2 →
  (∃ F' R' j' c', (∀ K : Int32 → (Nat → Nat → Int32) → (Nat → Nat → Int64) → Prop, K 1 F' g → zCpi X (d + 2 * (8 - o) + 4) 56 [.ref 70, .int (nI o)] (zs F g) K) ∧ (∀ K : Int32 → (Nat → Nat → Int32) → (Nat → Nat → Int64) → Prop, zWp X (e + 8) zm202 9 [.ref 178, .int (nI x1), .int 0, .null] [] (zs R' gr) (zQi K) → zWp X (e + 8) zm202 9 [.ref 178, .int (nI x1), .int 1, .null] [] (zs R gr) (zQi K)) ∧ zJ f r b n N (zPn k F' c') R' j' ∧ zCs (zPn k F' c') R' (c' + k) ∧ F' 72 6 = nI c' ∧ zLg F F' c ∧ zLh R R' t ∧ R' 178 28 = nI t ∧ R' 178 26 = nI (o - k) ∧ c ≤ c' ∧ j < j' ∧ c' + j ≤ c + j' ∧ ∀ s : List Bool, s.length + (5 + 2 * (8 - o)) ≤ 32 → zTyp (F' 73) c (c' - c) s = some (true :: s)) ∨
  (∃ F' R', (∀ K : Int32 → (Nat → Nat → Int32) → (Nat → Nat → Int64) → Prop, K 0 F' g → zCpi X (d + 2 * (8 - o) + 4) 56 [.ref 70, .int (nI o)] (zs F g) K) ∧ (∀ K : Int32 → (Nat → Nat → Int32) → (Nat → Nat → Int64) → Prop, K (-1) R' gr → zWp X (e + 8) zm202 9 [.ref 178, .int (nI x1), .int 1, .null] [] (zs R gr) (zQi K)) ∧ zEr f r F' R')
/-- what of these clauses waits: an or, an and -/
def zPq (fi fa : Nat) (s : List Bool) : List Bool := if fi = 0 then (if fa = 0 then true :: true :: s else true :: s) else (if fa = 0 then true :: s else s)
def zEit (X : Nat × (Nat → Int32)) (e : Nat) (f r : Nat → Nat → Int32) (g gr : Nat → Nat → Int64) (b : Nat → Nat) (n N m : Nat) : Prop := ∀ (d o t x1 i fi fa a : Nat) (F R : Nat → Nat → Int32) (j c : Nat), N - j ≤ m → o ≤ 8 → x1 ≤ o → (fi = 0 ∨ fi = 1) → (fa = 0 ∨ fa = 1) → zJ f r b n N F R j → zCs F R c → c + (1 - fa) + (1 - fi) ≤ j → (i < j ∨ i = 0) → a ≤ c → (∀ s : List Bool, s.length + (7 + 2 * (8 - o)) ≤ 32 → zTyp (F 73) a (c - a) s = some (zPq fi fa s)) → R 178 28 = nI (t + (1 - fa) + (1 - fi)) → R 178 26 = nI o → (fa = 0 → R 194 t = 11) → (fi = 0 → R 194 (t + (1 - fa)) = 10) → (t = 0 ∨ R 194 (t - 1) = 12) → t ≤ 3 * o →
  (∃ F' R' j' c', (∀ K : Int32 → (Nat → Nat → Int32) → (Nat → Nat → Int64) → Prop, K 1 F' g → zWp X (d + 2 * (8 - o) + 4) zm55 7 [.ref 70, .int (nI o), .int (nI fi), .int (nI fa), .int (nI i), .null] [] (zs F g) (zQi K)) ∧ (∀ K : Int32 → (Nat → Nat → Int32) → (Nat → Nat → Int64) → Prop, zEn X e x1 K R' gr → zWp X (e + 8) zm202 9 [.ref 178, .int (nI x1), .int 1, .null] [] (zs R gr) (zQi K)) ∧ zJ f r b n N F' R' j' ∧ zCs F' R' c' ∧ zLg F F' c ∧ zLh R R' t ∧ R' 178 28 = nI t ∧ R' 178 26 = nI o ∧ c ≤ c' ∧ j < j' ∧ c' + j ≤ c + (1 - fa) + (1 - fi) + j' ∧ ∀ s : List Bool, s.length + (7 + 2 * (8 - o)) ≤ 32 → zTyp (F' 73) a (c' - a) s = some (true :: s)) ∨
  (∃ F' R', (∀ K : Int32 → (Nat → Nat → Int32) → (Nat → Nat → Int64) → Prop, K 0 F' g → zWp X (d + 2 * (8 - o) + 4) zm55 7 [.ref 70, .int (nI o), .int (nI fi), .int (nI fa), .int (nI i), .null] [] (zs F g) (zQi K)) ∧ (∀ K : Int32 → (Nat → Nat → Int32) → (Nat → Nat → Int64) → Prop, K (-1) R' gr → zWp X (e + 8) zm202 9 [.ref 178, .int (nI x1), .int 1, .null] [] (zs R gr) (zQi K)) ∧ zEr f r F' R')
section ZCL
variable {X : Nat × (Nat → Int32)} {d e : Nat} {f r F R : Nat → Nat → Int32} {g gr : Nat → Nat → Int64} {b : Nat → Nat} {n N j c : Nat}
theorem q203 {x : Int32} {h : Nat} {K : (Nat → Nat → Int32) → (Nat → Nat → Int64) → Prop} (hh : R 178 28 = nI h) (h40 : h < 40) : zCpv X (d + 1) 203 [.ref 178, .int x] (zs R g) K = K (zuI (zuI R 194 h x) 178 28 (nI (h + 1))) g := by
  refine zCpv_eq (fun K hK => e203_178 ?_)
  rw [hh, if_neg (nI_in (by omega) (by omega)), nI_cl (by omega), nI_1]
  exact hK
theorem cl_step {m : Nat} (ihC : ∀ m', m' < m → zCla X e f r g gr b n N m') (ihE : ∀ m', m' < m → zEit X e f r g gr b n N m') : zCla X e f r g gr b n N m := by
  intro d o k t x1 F R j c hm ho hko hx h hs hck h28 h26 h9 hb htk
  obtain ⟨x1', x2, x3, x4, x5, x6, x7, x8, x9⟩ := id h
  obtain ⟨s1, s2, s3⟩ := id hs
  have kl := zKn_le (b := b) (n := n) (N := N) (j := j)
  have hN : N ≤ 400 := x1'.2.1
  have ed : d + 2 * (8 - o) + 4 = (d + 2 * (8 - o) + 2) + 2 := by omega
  have x2n : ¬ (1 : Int32) = 0 := by decide
  by_cases k1 : zKn b n N j = 134
  · have hj := zKn_lt (by omega) k1
    have z6 : ¬ zb (zKn b n N j = 128 + 6) = 0 := by rw [zb_0]; omega
    by_cases o8 : o = 8
    · subst o8
      refine Or.inr ⟨_, _, fun K hK => ?_, fun K hK => s202_9_178 ?_, zJ_er (c := 3) h⟩
      · rw [ed]
        apply e56_70
        rw [x4, q85 x1' x5, k1, if_pos (by decide), if_neg (by decide), q50 x1' x2 x3 x4 x5, if_pos (Or.inl rfl)]
        exact hK
      · rw [if_neg x2n, show (6 : Int32) = nI 6 from rfl, q182 (by omega) x7, if_neg z6, h26, if_pos (show nI 8 = (8 : Int32) from rfl), q183]
        exact hK
    · have n8 : ¬ nI o = (8 : Int32) := nI_neq (c := 8) (by omega) (by omega) o8
      have l8 : nI o < (8 : Int32) := nI_lt (a := o) (b := 8) (by omega) (by omega)
      have hJ1 := zJ_T (s := 28) (x := nI (t + k + 1)) (zJ_U (s := t + k) (x := 9) (zJ_T (s := 26) (x := nI (o + 1)) h (by omega) (by omega))) (by omega) (by omega)
      have hC1 := zCs_T (s := 28) (x := nI (t + k + 1)) (zCs_U (s := t + k) (x := 9) (zCs_T (s := 26) (x := nI (o + 1)) hs (by omega))) (by omega)
      have hL1 : zLh R (zuI (zuI (zuI R 178 26 (nI (o + 1))) 194 (t + k) 9) 178 28 (nI (t + k + 1))) t := zLh_tr (zLh_tr (zLh_T (s := 26) (Or.inl rfl)) (zLh_U (by omega)) (Nat.le_refl _)) (zLh_T (s := 28) (Or.inr rfl)) (Nat.le_refl _)
      obtain ⟨R1, eR1⟩ : ∃ R1, R1 = zuI (zuI (zuI R 178 26 (nI (o + 1))) 194 (t + k) 9) 178 28 (nI (t + k + 1)) := ⟨_, rfl⟩
      rw [← eR1] at hJ1 hC1 hL1
      obtain ⟨R2, r2, h2, hs2, lf2, fk2⟩ := jn (X := X) (d := e + 4) (g := gr) hJ1 hC1 hj
      have a28 : R2 178 28 = nI (t + (k + 1)) := by rw [fk2.2 28 (by omega), eR1, zi_at, if_pos rfl]; rfl
      have a26 : R2 178 26 = nI (o + 1) := by rw [fk2.2 26 (by omega), eR1, zi_at, if_neg (by omega), zi_ne (by omega), zi_at, if_pos rfl]
      have a94 : ∀ i, R2 194 i = if i = t + k then 9 else R 194 i := fun i => by rw [fk2.1 194 (by omega), eR1, zi_ne (by omega), zi_at, zi_ne (by omega)]
      have hde : d + 1 + 2 * (8 - (o + 1)) + 4 = d + 2 * (8 - o) + 2 + 1 := by omega
      have hrp : ∀ K : Int32 → (Nat → Nat → Int32) → (Nat → Nat → Int64) → Prop, zWp X (e + 8) zm202 9 [.ref 178, .int (nI x1), .int 1, .null] [] (zs R2 gr) (zQi K) → zWp X (e + 8) zm202 9 [.ref 178, .int (nI x1), .int 1, .null] [] (zs R gr) (zQi K) := fun K hK => by
        apply s202_9_178
        rw [if_neg x2n, show (6 : Int32) = nI 6 from rfl, q182 (by omega) x7, if_neg z6, h26, if_neg n8, if_neg z6, if_neg z6, nI_1, q203 (h := t + k) (by rw [zi_at, if_neg (by omega)]; exact h28) (by omega), ← eR1, r2]
        exact hK
      rcases ihC (m - 1) (by omega) (d + 1) (o + 1) (k + 1) t x1 _ R2 (j + 1) c (by omega) (by omega) (by omega) (by omega) h2 hs2 (by omega) a28 a26 (fun i i1 i2 => by
          rw [a94]
          by_cases ei : i = t + k
          · rw [if_pos ei]
          · rw [if_neg ei]; exact h9 i i1 (by omega)) (by
          by_cases t0 : t = 0
          · exact Or.inl t0
          · refine Or.inr ?_
            rw [a94, if_neg (by omega)]
            exact hb.resolve_left t0) (by omega) with ⟨F', R', j', c', cl, rl, y1, y2, y3, y4, y5, y6, y7, y8, y9, y10, y11⟩ | ⟨F', R', cl, rl, er⟩
      · have hj' : j' ≤ N := y1.2.2.2.2.1
        refine Or.inl ⟨zPut F' c' (-134), R', j', c' + 1, fun K hK => ?_, fun K hK => hrp K (rl K hK), y1, by rw [show c' + 1 + k = c' + (k + 1) by omega]; exact y2, by unfold zPut; rw [zi_at, if_pos rfl], zLg_tr (zLg_tr ⟨fun i y1 _ _ => zi_ne y1, by rw [zi_ne (by omega)], fun k _ => by rw [zi_ne (by omega)]⟩ y4 (Nat.le_refl _)) zLg_pn (by omega), zLh_tr (zLh_tr hL1 (zLh_f lf2) (Nat.le_refl _)) y5 (Nat.le_refl _), y6, by rw [y7, show o + 1 - (k + 1) = o - k by omega], by omega, by omega, by omega, fun s hs => ?_⟩
        · rw [ed]
          apply e56_70
          rw [x4, q85 x1' x5, k1, if_pos (by decide), if_pos l8, if_pos (by decide), x4, nI_1, nI_1, ← hde]
          refine cl _ ?_
          rw [if_neg x2n, zl_134, hde, q39 y3 (by omega), if_neg x2n, if_pos (Or.inr rfl)]
          exact hK
        · have t1 := y11 s (by omega)
          rw [← zTyp_congr (c2 := zPut F' c' (-134) 73) _ _ _ (fun k hk => zLg_pn.2.2 k (by omega))] at t1
          exact zTyp_p (by omega) t1 (zyS_n (by omega) (by unfold zPut; rw [zi_ne (by omega), zi_at, if_pos rfl]; rfl))
      · refine Or.inr ⟨F', R', fun K hK => ?_, fun K hK => hrp K (rl K hK), er⟩
        rw [ed]
        apply e56_70
        rw [x4, q85 x1' x5, k1, if_pos (by decide), if_pos l8, if_pos (by decide), x4, nI_1, nI_1, ← hde]
        refine cl _ ?_
        rw [if_pos rfl, if_pos (Or.inl rfl)]
        exact hK
  · have z6 : zb (zKn b n N j = 128 + 6) = 0 := by rw [zb_0]; omega
    by_cases k2 : zKn b n N j = 40
    · have hj := zKn_lt (by omega) k2
      have z40 : ¬ zb (zKn b n N j = 40) = 0 := by rw [zb_0]; exact fun z => z k2
      by_cases o8 : o = 8
      · subst o8
        refine Or.inr ⟨_, _, fun K hK => ?_, fun K hK => s202_9_178 ?_, zJ_er (c := 3) h⟩
        · rw [ed]
          apply e56_70
          rw [x4, q85 x1' x5, k2, if_neg (by decide), if_pos (by decide), if_neg (by decide), q50 x1' x2 x3 x4 x5, if_pos (Or.inl rfl)]
          exact hK
        · rw [if_neg x2n, show (6 : Int32) = nI 6 from rfl, q182 (by omega) x7, if_pos z6, show (40 : Int32) = nI 40 from rfl, q188 (by decide) x7, if_neg z40, h26, if_pos (show nI 8 = (8 : Int32) from rfl), q183]
          exact hK
      · have n8 : ¬ nI o = (8 : Int32) := nI_neq (c := 8) (by omega) (by omega) o8
        have l8 : nI o < (8 : Int32) := nI_lt (a := o) (b := 8) (by omega) (by omega)
        have hJ1 := zJ_T (s := 28) (x := nI (t + k + 1)) (zJ_U (s := t + k) (x := 12) (zJ_T (s := 26) (x := nI (o + 1)) h (by omega) (by omega))) (by omega) (by omega)
        have hC1 := zCs_T (s := 28) (x := nI (t + k + 1)) (zCs_U (s := t + k) (x := 12) (zCs_T (s := 26) (x := nI (o + 1)) hs (by omega))) (by omega)
        have hL1 : zLh R (zuI (zuI (zuI R 178 26 (nI (o + 1))) 194 (t + k) 12) 178 28 (nI (t + k + 1))) t := zLh_tr (zLh_tr (zLh_T (s := 26) (Or.inl rfl)) (zLh_U (by omega)) (Nat.le_refl _)) (zLh_T (s := 28) (Or.inr rfl)) (Nat.le_refl _)
        obtain ⟨R1, eR1⟩ : ∃ R1, R1 = zuI (zuI (zuI R 178 26 (nI (o + 1))) 194 (t + k) 12) 178 28 (nI (t + k + 1)) := ⟨_, rfl⟩
        rw [← eR1] at hJ1 hC1 hL1
        obtain ⟨R2, r2, h2, hs2, lf2, fk2⟩ := jn (X := X) (d := e + 4) (g := gr) hJ1 hC1 hj
        have a28 : R2 178 28 = nI (t + k + 1) := by rw [fk2.2 28 (by omega), eR1, zi_at, if_pos rfl]
        have a26 : R2 178 26 = nI (o + 1) := by rw [fk2.2 26 (by omega), eR1, zi_at, if_neg (by omega), zi_ne (by omega), zi_at, if_pos rfl]
        have a94 : ∀ i, R2 194 i = if i = t + k then 12 else R 194 i := fun i => by rw [fk2.1 194 (by omega), eR1, zi_ne (by omega), zi_at, zi_ne (by omega)]
        have hrp : ∀ K : Int32 → (Nat → Nat → Int32) → (Nat → Nat → Int64) → Prop, zWp X (e + 8) zm202 9 [.ref 178, .int (nI (x1 + 1)), .int 1, .null] [] (zs R2 gr) (zQi K) → zWp X (e + 8) zm202 9 [.ref 178, .int (nI x1), .int 1, .null] [] (zs R gr) (zQi K) := fun K hK => by
          apply s202_9_178
          rw [if_neg x2n, show (6 : Int32) = nI 6 from rfl, q182 (by omega) x7, if_pos z6, show (40 : Int32) = nI 40 from rfl, q188 (by decide) x7, if_neg z40, h26, if_neg n8, if_pos z6, if_pos z6, nI_1, nI_1, q203 (h := t + k) (by rw [zi_at, if_neg (by omega)]; exact h28) (by omega), ← eR1, r2]
          exact hK
        have d1 : d + 2 * (8 - o) + 2 + 1 = (d + 2 * (8 - o) + 1) + 2 := by omega
        have d2 : d + 2 * (8 - o) + 1 + 1 = d + 2 * (8 - (o + 1)) + 4 := by omega
        rcases ihE (m - 1) (by omega) d (o + 1) (t + k + 1) (x1 + 1) 0 1 1 c _ R2 (j + 1) c (by omega) (by omega) (by omega) (Or.inr rfl) (Or.inr rfl) h2 hs2 (by omega) (Or.inr rfl) (Nat.le_refl c) (fun s _ => by rw [Nat.sub_self]; rfl) a28 a26 (fun z => absurd z (by decide)) (fun z => absurd z (by decide)) (Or.inr (by rw [a94, if_pos (by omega)])) (by omega) with ⟨F', R', j', c', cl, rl, y1, y2, y3, y4, y5, y6, y7, y8, y9, y10⟩ | ⟨F', R', cl, rl, er⟩
        · obtain ⟨v1, v2, v3, v4, v5, v6, v7, v8, v9⟩ := id y1
          have nx : ¬ nI (x1 + 1) = (0 : Int32) := nI_z (by omega) (by omega)
          by_cases k41 : zKn b n N j' = 41
          · have hj' := zKn_lt (by omega) k41
            have z41 : ¬ zb (zKn b n N j' = 41) = 0 := by rw [zb_0]; exact fun z => z k41
            have b94 : ∀ i, i < t + k → R' 194 i = R 194 i := fun i hi => by rw [y4.2.2 i (by omega), a94, if_neg (by omega)]
            obtain ⟨S, g1, g2, g3, g4, g5, g6⟩ := st_9 (X := X) (d := e + 6) (g := gr) k (t := t) (o := o) (zJ_T (s := 26) (x := nI o) (zJ_T (s := 28) (x := nI (t + k)) y1 (by omega) (by omega)) (by omega) (by omega)) (zCs_T (s := 26) (x := nI o) (zCs_T (s := 28) (x := nI (t + k)) y2 (by omega)) (by omega)) (by omega) hko ho (by omega) (by rw [zi_at, if_neg (by omega), zi_at, if_pos rfl]) (by rw [zi_at, if_pos rfl]) (fun i i1 i2 => by rw [zi_ne (by omega), zi_ne (by omega), b94 i i2]; exact h9 i i1 i2) (by
              by_cases t0 : t = 0
              · exact Or.inl t0
              · refine Or.inr ?_
                rw [zi_ne (by omega), zi_ne (by omega), b94 (t - 1) (by omega)]
                exact hb.resolve_left t0)
            obtain ⟨S2, w1, w2, w3, w4, w5⟩ := jn (X := X) (d := e + 4) (g := gr) g2 g3 hj'
            refine Or.inl ⟨zuI F' 70 3 (nI (j' + 1)), S2, j' + 1, c', fun K hK => ?_, fun K hK => hrp K (rl K ?_), by rw [zPn_c]; exact w2, by rw [zPn_c]; exact w3, by rw [zi_ne (by omega)]; exact y2.1, zLg_tr (zLg_tr ⟨fun i y1 _ _ => zi_ne y1, by rw [zi_ne (by omega)], fun k _ => by rw [zi_ne (by omega)]⟩ y3 (Nat.le_refl _)) ⟨fun i y1 _ _ => zi_ne y1, by rw [zi_ne (by omega)], fun k _ => by rw [zi_ne (by omega)]⟩ (Nat.le_refl _), zLh_tr (zLh_tr (zLh_tr (zLh_tr (zLh_tr (zLh_tr hL1 (zLh_f lf2) (Nat.le_refl _)) (zLh_le y4 (by omega)) (Nat.le_refl _)) (zLh_T (s := 28) (Or.inr rfl)) (Nat.le_refl _)) (zLh_T (s := 26) (Or.inl rfl)) (Nat.le_refl _)) g6 (Nat.le_refl _)) (zLh_f w4) (Nat.le_refl _), by rw [w5.2 28 (by omega)]; exact g4, by rw [w5.2 26 (by omega)]; exact g5, by omega, by omega, by omega, fun s hs => ?_⟩
            · rw [ed]
              apply e56_70
              rw [x4, q85 x1' x5, k2, if_neg (by decide), if_pos (by decide), if_pos l8, if_neg (by decide), x4, nI_1, nI_1, d1]
              apply e55_70
              rw [d2]
              refine cl _ ?_
              rw [if_neg x2n, show (41 : Int32) = nI 41 from rfl, q57 y1 (by omega), if_pos k41, if_neg x2n, if_pos (Or.inr rfl)]
              exact hK
            · unfold zEn
              rw [if_neg nx, show (41 : Int32) = nI 41 from rfl, q188 (by decide) v7, if_neg z41, y5, y6, nI_s1 (by omega) (by omega), nI_s1 (by omega) (by omega), nI_s1 (by omega) (by omega), Nat.add_sub_cancel, Nat.add_sub_cancel, Nat.add_sub_cancel]
              refine e205_178 (g1 _ ?_)
              rw [w1]
              exact hK
            · rw [zi_ne (by omega)]
              exact y10 s (by omega)
          · refine Or.inr ⟨_, _, fun K hK => ?_, fun K hK => hrp K (rl K ?_), zJ_er (c := 1) y1⟩
            · rw [ed]
              apply e56_70
              rw [x4, q85 x1' x5, k2, if_neg (by decide), if_pos (by decide), if_pos l8, if_neg (by decide), x4, nI_1, nI_1, d1]
              apply e55_70
              rw [d2]
              refine cl _ ?_
              rw [if_neg x2n, show (41 : Int32) = nI 41 from rfl, q57 y1 (by omega), if_neg k41, if_pos rfl, if_pos (Or.inl rfl)]
              exact hK
            · unfold zEn
              rw [if_neg nx, show (41 : Int32) = nI 41 from rfl, q188 (by decide) v7, if_pos (by rw [zb_0]; exact k41), q183]
              exact hK
        · refine Or.inr ⟨F', R', fun K hK => ?_, fun K hK => hrp K (rl K hK), er⟩
          rw [ed]
          apply e56_70
          rw [x4, q85 x1' x5, k2, if_neg (by decide), if_pos (by decide), if_pos l8, if_neg (by decide), x4, nI_1, nI_1, d1]
          apply e55_70
          rw [d2]
          refine cl _ ?_
          rw [if_pos rfl, if_pos (Or.inl rfl)]
          exact hK
    · rcases cm_j (X := X) (d := d + 2 * (8 - o)) (e := e) (g := g) (gr := gr) (o := nI o) h hs (by omega) k1 k2 with ⟨F1, R1, j1, c1, cl, rl, h1, hs1, lf1, a1, a2, a3, ty1⟩ | ⟨F1, R1, cl, rl, er⟩
      · have hj1 : j1 ≤ N := h1.2.2.2.2.1
        have e94 : R1 194 = R 194 := lf1.2.2.2.1 194 (by omega) (by omega) (by omega)
        obtain ⟨S, g1, g2, g3, g4, g5, g6⟩ := st_9 (X := X) (d := e + 6) (g := gr) k (t := t) (o := o) h1 hs1 (by omega) hko ho (by omega) (by rw [lf1.2.2.2.2 28 (by omega) (by omega)]; exact h28) (by rw [lf1.2.2.2.2 26 (by omega) (by omega)]; exact h26) (fun i i1 i2 => by rw [e94]; exact h9 i i1 i2) (by rw [e94]; exact hb)
        refine Or.inl ⟨F1, S, j1, c1, cl, fun K hK => s202_9_178 ?_, g2, g3, hs1.1, zLg_f lf1, zLh_tr (zLh_f lf1) g6 (Nat.le_refl _), g4, g5, by omega, a2, a3, fun s hs => ty1 s (by omega)⟩
        rw [if_neg x2n, show (6 : Int32) = nI 6 from rfl, q182 (by omega) x7, if_pos z6, show (40 : Int32) = nI 40 from rfl, q188 (by decide) x7, if_pos (by rw [zb_0]; exact k2)]
        refine rl _ ?_
        rw [if_neg (show ¬ (0 : Int32) = -1 by decide)]
        exact e205_178 (g1 _ hK)
      · refine Or.inr ⟨F1, R1, cl, fun K hK => s202_9_178 ?_, er⟩
        rw [if_neg x2n, show (6 : Int32) = nI 6 from rfl, q182 (by omega) x7, if_pos z6, show (40 : Int32) = nI 40 from rfl, q188 (by decide) x7, if_pos (by rw [zb_0]; exact k2)]
        refine rl _ ?_
        rw [if_pos rfl]
        exact hK
end ZCL

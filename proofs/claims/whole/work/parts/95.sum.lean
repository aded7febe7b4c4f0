/-! a sum -/
section ZSU
variable {X : Nat × (Nat → Int32)} {d e : Nat} {f r F R : Nat → Nat → Int32} {g gr : Nat → Nat → Int64} {b : Nat → Nat} {n N j c : Nat}
theorem q53n {K : Int32 → (Nat → Nat → Int32) → (Nat → Nat → Int64) → Prop} (h : zJ f r b n N F R j) (h6 : F 72 6 = nI c) (hc : c < 400) (k2 : zKn b n N j = 2) : zCpi X (d + 2) 53 [.ref 70] (zs F g) K = K 1 (zuI (zPut F c (nI (zVl b n j))) 70 3 (nI (j + 1))) g := by
  obtain ⟨x1, x2, x3, x4, x5, x6, x7, x8, x9⟩ := h
  refine zCpi_eq (fun K hK => e53_70 ?_)
  have h3 : zPut F c (nI (zVl b n j)) 70 3 = nI j := by
    unfold zPut
    rw [zi_ne (by omega), zi_ne (by omega)]
    exact x4
  rw [x4, q85 x1 x5, if_pos (by rw [k2]; rfl), x4, q86 x1 (zKn_lt (by omega) k2), q39 h6 hc, if_pos (Or.inr rfl), h3, nI_1]
  exact hK
theorem q54n {K : Int32 → (Nat → Nat → Int32) → (Nat → Nat → Int64) → Prop} (h : zJ f r b n N F R j) (h6 : F 72 6 = nI c) (hc : c < 400) (k2 : zKn b n N j = 2) (hv : ¬ zVl b n j = 0) (hv2 : zVl b n j ≤ 9999) : zCpi X (d + 2) 54 [.ref 70] (zs F g) K = K 1 (zuI (zPut F c (nI (zVl b n j))) 70 3 (nI (j + 1))) g := by
  obtain ⟨x1, x2, x3, x4, x5, x6, x7, x8, x9⟩ := h
  refine zCpi_eq (fun K hK => e54_70 ?_)
  have h3 : zPut F c (nI (zVl b n j)) 70 3 = nI j := by
    unfold zPut
    rw [zi_ne (by omega), zi_ne (by omega)]
    exact x4
  rw [x4, q85 x1 x5, if_pos (by rw [k2]; rfl), x4, q86 x1 (zKn_lt (by omega) k2), if_neg (nI_z (by omega) (by omega)), x4, q86 x1 (zKn_lt (by omega) k2), q39 h6 hc, if_pos (Or.inr rfl), h3, nI_1]
  exact hK
theorem s52e {p i : Int32} {K : Int32 → (Nat → Nat → Int32) → (Nat → Nat → Int64) → Prop} (hK : K 0 F g) : zWp X (d + 2) zm52 9 [.ref 70, .int p, .int 0, .int i, .null] [] (zs F g) (zQi K) := by
  apply s52_9_70
  by_cases h : (400 : Int32) ≤ i
  · rw [if_pos h, if_pos rfl, if_pos (Or.inl rfl)]
    exact hK
  · rw [if_neg h, if_pos rfl, if_pos rfl, if_pos (Or.inl rfl)]
    exact hK
theorem zPut_c {x v : Int32} : zPut (zuI F 70 3 x) c v = zuI (zPut F c v) 70 3 x := by
  unfold zPut
  funext i k
  simp only [zu_ap]
  by_cases h1 : i = 70
  · subst h1
    have h72 : ¬ (70 = 72 ∧ k = 6) := by omega
    have h73 : ¬ (70 = 73 ∧ k = c) := by omega
    rw [if_neg h72, if_neg h73, if_neg h72, if_neg h73]
  · rw [if_neg (show ¬ (i = 70 ∧ k = 3) by omega), if_neg (show ¬ (i = 70 ∧ k = 3) by omega)]
theorem zF7_lit {p : Nat} (hp : p = 43 ∨ p = 45) : -(nI p) = (if p = 43 then (-43 : Int32) else -45) := by
  rcases hp with rfl | rfl <;> decide
/-- what the reference does behind a product -/
def zTl (X : Nat × (Nat → Int32)) (e p : Nat) (K : Int32 → (Nat → Nat → Int32) → (Nat → Nat → Int64) → Prop) : Int32 → (Nat → Nat → Int32) → (Nat → Nat → Int64) → Prop := fun v f g => if v = -1 then K (-1) f g else (if p = 0 then (zWp X (e + 6) zm197 10 [.ref 178, .null] [] (zs f g) (zQi K)) else (zCpv X (e + 6) 201 [.ref 178, .int (if p = 43 then 2 else 3), .int 0] (zs f g) (fun f1 g1 => zWp X (e + 6) zm197 10 [.ref 178, .null] [] (zs f1 g1) (zQi K))))
def zpd (p : Nat) : Nat := if p = 0 then 0 else 1
/-- a waiting sign is written -/
theorem sm_put {a p : Nat} (hp : p = 0 ∨ p = 43 ∨ p = 45) (h : zJ f r b n N F R j) (hs : zCs F R c) (hcj : c + zpd p ≤ j) (hac : a ≤ c) (hty : ∀ s : List Bool, s.length + 4 ≤ 32 → zTyp (F 73) a (c - a) s = some (if p = 0 then false :: s else false :: false :: s)) : ∃ F1 R1, (p = 0 → F1 = F ∧ R1 = R) ∧ (¬ p = 0 → F1 = zPut F c (-(nI p)) ∧ R1 = zEmi R c (if p = 43 then 2 else 3) 0) ∧ zJ f r b n N F1 R1 j ∧ zCs F1 R1 (c + zpd p) ∧ zLf F F1 R R1 c ∧ ∀ s : List Bool, s.length + 4 ≤ 32 → zTyp (F1 73) a (c + zpd p - a) s = some (false :: s) := by
  by_cases p0 : p = 0
  · refine ⟨F, R, fun _ => ⟨rfl, rfl⟩, fun z => absurd p0 z, h, ?_, zLf_rf, ?_⟩
    · rw [show zpd p = 0 by unfold zpd; rw [if_pos p0], Nat.add_zero]
      exact hs
    · rw [show zpd p = 0 by unfold zpd; rw [if_pos p0], Nat.add_zero]
      intro s hs
      have := hty s hs
      rw [if_pos p0] at this
      exact this
  · have e1 : zpd p = 1 := by unfold zpd; rw [if_neg p0]
    have hv : zCod (-(nI p)) (if p = 43 then 2 else 3) 0 := by
      rcases hp with z | rfl | rfl
      · exact absurd z p0
      · exact Or.inr (Or.inr (Or.inl ⟨by decide, rfl⟩))
      · exact Or.inr (Or.inr (Or.inr (Or.inl ⟨by decide, rfl⟩)))
    have hvi : (-(nI p)).toInt = -43 ∨ (-(nI p)).toInt = -45 := by
      rcases hp with z | rfl | rfl
      · exact absurd z p0
      · exact Or.inl (by decide)
      · exact Or.inr (by decide)
    obtain ⟨p1, p2, p3, p4⟩ := jp h hs hv
    refine ⟨_, _, fun z => absurd z p0, fun _ => ⟨rfl, rfl⟩, p1, by rw [e1]; exact p2, p3, ?_⟩
    rw [e1]
    intro s hs
    have t1 := hty s hs
    rw [if_neg p0, ← zTyp_congr (c2 := zPut F c (-(nI p)) 73) _ _ _ (fun k hk => p3.2.2.1 k (by omega))] at t1
    exact zTyp_p hac t1 (zyS_o (by omega) (by rw [p4]; omega))
/-- the sum ends here -/
theorem sm_end {a i p : Nat} (hp : p = 0 ∨ p = 43 ∨ p = 45) (h : zJ f r b n N F R j) (hs : zCs F R c) (hcj : c + zpd p ≤ j) (hij : i < j) (hac : a ≤ c) (hty : ∀ s : List Bool, s.length + 4 ≤ 32 → zTyp (F 73) a (c - a) s = some (if p = 0 then false :: s else false :: false :: s)) (k42 : ¬ zKn b n N j = 42) (k43 : ¬ zKn b n N j = 43) (k45 : ¬ zKn b n N j = 45) (k47 : ¬ zKn b n N j = 47) :
    (∃ F' R' j' c', (∀ K : Int32 → (Nat → Nat → Int32) → (Nat → Nat → Int64) → Prop, K 1 F' g → zWp X (d + 2) zm52 9 [.ref 70, .int (nI p), .int 1, .int (nI i), .null] [] (zs F g) (zQi K)) ∧ (∀ K : Int32 → (Nat → Nat → Int32) → (Nat → Nat → Int64) → Prop, K 0 R' gr → zWp X (e + 5) zm198 10 [.ref 178, .null] [] (zs R gr) (zQi (zTl X e p K))) ∧ zJ f r b n N F' R' j' ∧ zCs F' R' c' ∧ zLf F F' R R' c ∧ c ≤ c' ∧ j ≤ j' ∧ c' + j ≤ c + zpd p + j' ∧ ∀ s : List Bool, s.length + 4 ≤ 32 → zTyp (F' 73) a (c' - a) s = some (false :: s)) ∨
    (∃ F' R', (∀ K : Int32 → (Nat → Nat → Int32) → (Nat → Nat → Int64) → Prop, K 0 F' g → zWp X (d + 2) zm52 9 [.ref 70, .int (nI p), .int 1, .int (nI i), .null] [] (zs F g) (zQi K)) ∧ (∀ K : Int32 → (Nat → Nat → Int32) → (Nat → Nat → Int64) → Prop, K (-1) R' gr → zWp X (e + 5) zm198 10 [.ref 178, .null] [] (zs R gr) (zQi (zTl X e p K))) ∧ zEr f r F' R') := by
  obtain ⟨x1, x2, x3, x4, x5, x6, x7, x8, x9⟩ := id h
  obtain ⟨s1, s2, s3⟩ := id hs
  have kl := zKn_le (b := b) (n := n) (N := N) (j := j)
  have hN : N ≤ 400 := x1.2.1
  have h400 : ¬ (400 : Int32) ≤ nI i := nI_ge (b := 400) (by omega) (by omega)
  obtain ⟨F1, R1, w1, w2, w3, w4, w5, w6⟩ := sm_put hp h hs hcj hac hty
  have x7' := w3.2.2.2.2.2.2.1
  have n42 : ¬ nI (zKn b n N j) = (42 : Int32) := nI_neq (c := 42) (by omega) (by omega) k42
  have n43 : ¬ nI (zKn b n N j) = (43 : Int32) := nI_neq (c := 43) (by omega) (by omega) k43
  have n45 : ¬ nI (zKn b n N j) = (45 : Int32) := nI_neq (c := 45) (by omega) (by omega) k45
  have n47 : ¬ nI (zKn b n N j) = (47 : Int32) := nI_neq (c := 47) (by omega) (by omega) k47
  refine Or.inl ⟨F1, R1, j, c + zpd p, fun K hK => s52_9_70 ?_, fun K hK => s198_10_178 ?_, w3, w4, w5, by omega, by omega, by omega, w6⟩
  · rw [if_neg h400, if_neg (by decide), x4, q85 x1 x5, if_neg n43, if_neg n45, if_neg n42, if_neg n47, if_neg (by decide)]
    by_cases p0 : p = 0
    · rw [if_pos (by rw [p0]; rfl), if_pos (Or.inr rfl), ← (w1 p0).1]
      exact hK
    · have e1 : zpd p = 1 := by unfold zpd; rw [if_neg p0]
      rw [if_neg (nI_z (by omega) (by omega)), znO.2, q39 s1 (by omega), if_pos (Or.inr rfl), ← (w2 p0).1]
      exact hK
  · rw [show (42 : Int32) = nI 42 from rfl, q188 (by decide) x7, if_pos (by rw [zb_0]; exact k42), show (47 : Int32) = nI 47 from rfl, q188 (by decide) x7, if_pos (by rw [zb_0]; exact k47)]
    have hl : zWp X (e + 6) zm197 10 [.ref 178, .null] [] (zs R1 gr) (zQi K) := by
      apply s197_10_178
      rw [show (43 : Int32) = nI 43 from rfl, q188 (by decide) x7', if_pos (by rw [zb_0]; exact k43), show (45 : Int32) = nI 45 from rfl, q188 (by decide) x7', if_pos (by rw [zb_0]; exact k45)]
      exact hK
    unfold zTl
    rw [if_neg (by decide)]
    by_cases p0 : p = 0
    · rw [if_pos p0, ← (w1 p0).2]
      exact hl
    · have e1 : zpd p = 1 := by unfold zpd; rw [if_neg p0]
      rw [if_neg p0, q201 s2 (by omega), ← (w2 p0).2]
      exact hl
theorem sm_loop {a : Nat} : ∀ (m : Nat) {F R : Nat → Nat → Int32} {j c i p : Nat}, N - j ≤ m → (p = 0 ∨ p = 43 ∨ p = 45) → zJ f r b n N F R j → zCs F R c → c + zpd p ≤ j → i < j → a ≤ c → (∀ s : List Bool, s.length + 4 ≤ 32 → zTyp (F 73) a (c - a) s = some (if p = 0 then false :: s else false :: false :: s)) →
    (∃ F' R' j' c', (∀ K : Int32 → (Nat → Nat → Int32) → (Nat → Nat → Int64) → Prop, K 1 F' g → zWp X (d + 2) zm52 9 [.ref 70, .int (nI p), .int 1, .int (nI i), .null] [] (zs F g) (zQi K)) ∧ (∀ K : Int32 → (Nat → Nat → Int32) → (Nat → Nat → Int64) → Prop, K 0 R' gr → zWp X (e + 5) zm198 10 [.ref 178, .null] [] (zs R gr) (zQi (zTl X e p K))) ∧ zJ f r b n N F' R' j' ∧ zCs F' R' c' ∧ zLf F F' R R' c ∧ c ≤ c' ∧ j ≤ j' ∧ c' + j ≤ c + zpd p + j' ∧ ∀ s : List Bool, s.length + 4 ≤ 32 → zTyp (F' 73) a (c' - a) s = some (false :: s)) ∨
    (∃ F' R', (∀ K : Int32 → (Nat → Nat → Int32) → (Nat → Nat → Int64) → Prop, K 0 F' g → zWp X (d + 2) zm52 9 [.ref 70, .int (nI p), .int 1, .int (nI i), .null] [] (zs F g) (zQi K)) ∧ (∀ K : Int32 → (Nat → Nat → Int32) → (Nat → Nat → Int64) → Prop, K (-1) R' gr → zWp X (e + 5) zm198 10 [.ref 178, .null] [] (zs R gr) (zQi (zTl X e p K))) ∧ zEr f r F' R') := by
  intro m
  induction m with
  | zero =>
    intro F R j c i p hm hp h hs hcj hij hac hty
    have k0 : zKn b n N j = 0 := by
      unfold zKn
      rw [if_neg (by omega)]
    exact sm_end hp h hs hcj hij hac hty (by omega) (by omega) (by omega) (by omega)
  | succ m ih =>
    intro F R j c i p hm hp h hs hcj hij hac hty
    obtain ⟨x1, x2, x3, x4, x5, x6, x7, x8, x9⟩ := id h
    obtain ⟨s1, s2, s3⟩ := id hs
    have kl := zKn_le (b := b) (n := n) (N := N) (j := j)
    have hN : N ≤ 400 := x1.2.1
    have h400 : ¬ (400 : Int32) ≤ nI i := nI_ge (b := 400) (by omega) (by omega)
    have hpl : c ≤ j := by omega
    by_cases k42 : zKn b n N j = 42
    · have hj := zKn_lt (by omega) k42
      have z42 : ¬ zb (zKn b n N j = 42) = 0 := by rw [zb_0]; exact fun z => z k42
      obtain ⟨R1, r1, j1, cs1, lf1, -⟩ := jn (X := X) (d := e + 1) (g := gr) h hs hj
      rcases un_j (X := X) (d := d) (e := e) (g := g) (gr := gr) j1 cs1 (by omega) with ⟨F2, R2, c2, r2, hj1, j2, cs2, lf2, pu, -⟩ | ⟨F2, R2, c2, r2, er⟩
      · obtain ⟨p1, p2, p3, p4⟩ := jp j2 cs2 (Or.inr (Or.inr (Or.inr (Or.inr (Or.inl ⟨rfl, rfl⟩)))) : zCod (-42) 4 0)
        have hF2 : ∀ k, k < c → F2 73 k = F 73 k := fun k hk => by rw [lf2.2.2.1 k hk, lf1.2.2.1 k hk]
        have hF3 : ∀ k, k < c + 1 → zPut F2 (c + 1) (-42) 73 k = F2 73 k := fun k hk => p3.2.2.1 k hk
        have hty2 : ∀ s : List Bool, s.length + 4 ≤ 32 → zTyp (zPut F2 (c + 1) (-42) 73) a (c + 1 + 1 - a) s = some (if p = 0 then false :: s else false :: false :: s) := fun s hs => by
          have t1 := hty s hs
          rw [← zTyp_congr (c2 := zPut F2 (c + 1) (-42) 73) _ _ _ (fun k hk => by rw [hF3 k (by omega), hF2 k (by omega)])] at t1
          have hlen : (if p = 0 then false :: s else false :: false :: s).length ≤ s.length + 2 := by
            split
            · rw [List.length_cons]; omega
            · rw [List.length_cons, List.length_cons]; omega
          have t2 := zTyp_p hac t1 (zyS_u (by omega) (by rw [hF3 c (by omega)]; exact pu))
          refine zTyp_p (by omega) t2 ?_
          by_cases p0 : p = 0
          · rw [if_pos p0]
            exact zyS_o (by omega) (Or.inl (by rw [p4]; rfl))
          · rw [if_neg p0]
            exact zyS_o (by rw [List.length_cons]; omega) (Or.inl (by rw [p4]; rfl))
        rcases ih (i := i + 1) (p := p) (by omega) hp p1 p2 (by omega) (by omega) (by omega) hty2 with ⟨F', R', j', c', cl, rl, y1, y2, y3, y4, y5, y6, y7⟩ | ⟨F', R', cl, rl, er⟩
        · refine Or.inl ⟨F', R', j', c', fun K hK => s52_9_70 ?_, fun K hK => s198_10_178 ?_, y1, y2, zLf_tr (zLf_tr (zLf_tr lf1 lf2 (by omega)) p3 (by omega)) y3 (by omega), by omega, by omega, by omega, y7⟩
          · rw [if_neg h400, if_neg (by decide), x4, q85 x1 x5, k42, if_neg (by decide), if_neg (by decide), if_pos (by decide), if_pos (by decide), x4, nI_1, c2, if_neg (by decide), znO.2, show -(nI 42) = (-42 : Int32) by decide, q39 cs2.1 (by omega), if_neg (by decide), nI_1]
            exact cl K hK
          · rw [show (42 : Int32) = nI 42 from rfl, q188 (by decide) x7, if_neg z42, q188 (by decide) x7, r1, if_neg z42, if_neg z42, r2, if_neg (by decide), if_neg z42, q201 cs2.2.1 (by omega)]
            exact rl K hK
        · refine Or.inr ⟨F', R', fun K hK => s52_9_70 ?_, fun K hK => s198_10_178 ?_, er⟩
          · rw [if_neg h400, if_neg (by decide), x4, q85 x1 x5, k42, if_neg (by decide), if_neg (by decide), if_pos (by decide), if_pos (by decide), x4, nI_1, c2, if_neg (by decide), znO.2, show -(nI 42) = (-42 : Int32) by decide, q39 cs2.1 (by omega), if_neg (by decide), nI_1]
            exact cl K hK
          · rw [show (42 : Int32) = nI 42 from rfl, q188 (by decide) x7, if_neg z42, q188 (by decide) x7, r1, if_neg z42, if_neg z42, r2, if_neg (by decide), if_neg z42, q201 cs2.2.1 (by omega)]
            exact rl K hK
      · refine Or.inr ⟨F2, R2, fun K hK => s52_9_70 ?_, fun K hK => s198_10_178 ?_, er⟩
        · rw [if_neg h400, if_neg (by decide), x4, q85 x1 x5, k42, if_neg (by decide), if_neg (by decide), if_pos (by decide), if_pos (by decide), x4, nI_1, c2, if_pos rfl]
          exact s52e hK
        · rw [show (42 : Int32) = nI 42 from rfl, q188 (by decide) x7, if_neg z42, q188 (by decide) x7, r1, if_neg z42, if_neg z42, r2, if_pos rfl]
          unfold zTl
          rw [if_pos rfl]
          exact hK
    · by_cases k47 : zKn b n N j = 47
      · have hj := zKn_lt (by omega) k47
        have z42 : zb (zKn b n N j = 42) = 0 := by rw [zb_0]; exact k42
        have z47 : ¬ zb (zKn b n N j = 47) = 0 := by rw [zb_0]; exact fun z => z k47
        obtain ⟨R1, r1, j1, cs1, lf1, -⟩ := jn (X := X) (d := e + 1) (g := gr) h hs hj
        obtain ⟨v1, v2, v3, v4, v5, v6, v7, v8, v9⟩ := id j1
        obtain ⟨u1, u2⟩ := zRk_num v7
        have kl1 := zKn_le (b := b) (n := n) (N := N) (j := j + 1)
        by_cases kk : zKn b n N (j + 1) = 2
        · have hj1 := zKn_lt (by omega) kk
          have hv : zVl b n (j + 1) ≤ 9999 := zVl_le (by unfold zKn at kk; rw [if_pos hj1] at kk; exact kk)
          have h14 : R1 178 14 = 3 := by rw [u1]; exact kk
          by_cases hv0 : zVl b n (j + 1) = 0
          · refine Or.inr ⟨_, _, fun K hK => s52_9_70 ?_, fun K hK => s198_10_178 ?_, zJ_er (c := 2) j1⟩
            · rw [if_neg h400, if_neg (by decide), x4, q85 x1 x5, k47, if_neg (by decide), if_neg (by decide), if_neg (by decide), if_pos (by decide), if_neg (by decide), if_pos (by decide), x4, nI_1]
              apply e54_70
              rw [v4, q85 v1 v5, if_pos (by rw [kk]; rfl), v4, q86 v1 hj1, if_pos (by rw [hv0]; rfl), q50 v1 v2 v3 v4 v5, if_pos (Or.inl rfl), if_pos rfl]
              exact s52e hK
            · rw [show (42 : Int32) = nI 42 from rfl, q188 (by decide) x7, if_pos z42, show (47 : Int32) = nI 47 from rfl, q188 (by decide) x7, if_neg z47, q188 (by decide) x7, r1, if_pos z42, if_pos h14, if_pos z42, if_pos (by rw [u2 kk, hv0]; rfl), q183]
              unfold zTl
              rw [if_pos rfl]
              exact hK
          · have h15 : ¬ R1 178 15 = 0 := by rw [u2 kk]; exact nI_z (by omega) (by omega)
            rcases un_j (X := X) (d := d) (e := e) (g := g) (gr := gr) j1 cs1 (by omega) with ⟨F2, R2, c2, r2, -, j2, cs2, lf2, pu, pv⟩ | ⟨F2, R2, c2, r2, er⟩
            · have eF2 : F2 = zuI (zPut (zuI F 70 3 (nI (j + 1))) c (nI (zVl b n (j + 1)))) 70 3 (nI (j + 1 + 1)) := by
                have z := (c2 (fun _ f1 _ => f1 = F2)).mpr rfl
                rw [q53n j1 cs1.1 (by omega) kk] at z
                exact z.symm
              obtain ⟨p1, p2, p3, p4⟩ := jp j2 cs2 (Or.inr (Or.inr (Or.inr (Or.inr (Or.inr (Or.inl ⟨rfl, rfl⟩))))) : zCod (-47) 5 0)
              have hF2 : ∀ k, k < c → F2 73 k = F 73 k := fun k hk => by rw [lf2.2.2.1 k hk, lf1.2.2.1 k hk]
              have hF3 : ∀ k, k < c + 1 → zPut F2 (c + 1) (-47) 73 k = F2 73 k := fun k hk => p3.2.2.1 k hk
              have hty2 : ∀ s : List Bool, s.length + 4 ≤ 32 → zTyp (zPut F2 (c + 1) (-47) 73) a (c + 1 + 1 - a) s = some (if p = 0 then false :: s else false :: false :: s) := fun s hs => by
                have t1 := hty s hs
                rw [← zTyp_congr (c2 := zPut F2 (c + 1) (-47) 73) _ _ _ (fun k hk => by rw [hF3 k (by omega), hF2 k (by omega)])] at t1
                have hlen : (if p = 0 then false :: s else false :: false :: s).length ≤ s.length + 2 := by
                  split
                  · rw [List.length_cons]; omega
                  · rw [List.length_cons, List.length_cons]; omega
                have t2 := zTyp_p hac t1 (zyS_u (by omega) (by rw [hF3 c (by omega)]; exact pu))
                refine zTyp_p (by omega) t2 ?_
                by_cases p0 : p = 0
                · rw [if_pos p0]
                  exact zyS_o (by omega) (Or.inr (Or.inr (Or.inr ⟨by rw [p4]; rfl, by omega, by rw [Nat.add_sub_cancel, hF3 c (by omega), pv kk, nI_ti (by omega)]; omega⟩)))
                · rw [if_neg p0]
                  exact zyS_o (by rw [List.length_cons]; omega) (Or.inr (Or.inr (Or.inr ⟨by rw [p4]; rfl, by omega, by rw [Nat.add_sub_cancel, hF3 c (by omega), pv kk, nI_ti (by omega)]; omega⟩)))
              rcases ih (i := i + 1) (p := p) (by omega) hp p1 p2 (by omega) (by omega) (by omega) hty2 with ⟨F', R', j', c', cl, rl, y1, y2, y3, y4, y5, y6, y7⟩ | ⟨F', R', cl, rl, er⟩
              · refine Or.inl ⟨F', R', j', c', fun K hK => s52_9_70 ?_, fun K hK => s198_10_178 ?_, y1, y2, zLf_tr (zLf_tr (zLf_tr lf1 lf2 (by omega)) p3 (by omega)) y3 (by omega), by omega, by omega, by omega, y7⟩
                · rw [if_neg h400, if_neg (by decide), x4, q85 x1 x5, k47, if_neg (by decide), if_neg (by decide), if_neg (by decide), if_pos (by decide), if_neg (by decide), if_pos (by decide), x4, nI_1, q54n j1 cs1.1 (by omega) kk hv0 hv, ← eF2, if_neg (by decide), znO.2, show -(nI 47) = (-47 : Int32) by decide, q39 cs2.1 (by omega), if_neg (by decide), nI_1]
                  exact cl K hK
                · rw [show (42 : Int32) = nI 42 from rfl, q188 (by decide) x7, if_pos z42, show (47 : Int32) = nI 47 from rfl, q188 (by decide) x7, if_neg z47, q188 (by decide) x7, r1, if_pos z42, if_pos h14, if_pos z42, if_neg h15, r2, if_neg (by decide), if_pos z42, q201 cs2.2.1 (by omega)]
                  exact rl K hK
              · refine Or.inr ⟨F', R', fun K hK => s52_9_70 ?_, fun K hK => s198_10_178 ?_, er⟩
                · rw [if_neg h400, if_neg (by decide), x4, q85 x1 x5, k47, if_neg (by decide), if_neg (by decide), if_neg (by decide), if_pos (by decide), if_neg (by decide), if_pos (by decide), x4, nI_1, q54n j1 cs1.1 (by omega) kk hv0 hv, ← eF2, if_neg (by decide), znO.2, show -(nI 47) = (-47 : Int32) by decide, q39 cs2.1 (by omega), if_neg (by decide), nI_1]
                  exact cl K hK
                · rw [show (42 : Int32) = nI 42 from rfl, q188 (by decide) x7, if_pos z42, show (47 : Int32) = nI 47 from rfl, q188 (by decide) x7, if_neg z47, q188 (by decide) x7, r1, if_pos z42, if_pos h14, if_pos z42, if_neg h15, r2, if_neg (by decide), if_pos z42, q201 cs2.2.1 (by omega)]
                  exact rl K hK
            · exfalso
              have z := (c2 (fun v _ _ => v = 0)).mpr rfl
              rw [q53n j1 cs1.1 (by omega) kk] at z
              exact absurd z (by decide)
        · have h14 : ¬ R1 178 14 = 3 := by rw [u1]; exact kk
          refine Or.inr ⟨_, _, fun K hK => s52_9_70 ?_, fun K hK => s198_10_178 ?_, zJ_er (c := 1) j1⟩
          · rw [if_neg h400, if_neg (by decide), x4, q85 x1 x5, k47, if_neg (by decide), if_neg (by decide), if_neg (by decide), if_pos (by decide), if_neg (by decide), if_pos (by decide), x4, nI_1]
            apply e54_70
            rw [v4, q85 v1 v5, if_neg (show ¬ nI (zKn b n N (j + 1)) = (2 : Int32) from nI_neq (c := 2) (by omega) (by omega) kk), q50 v1 v2 v3 v4 v5, if_pos (Or.inl rfl), if_pos rfl]
            exact s52e hK
          · rw [show (42 : Int32) = nI 42 from rfl, q188 (by decide) x7, if_pos z42, show (47 : Int32) = nI 47 from rfl, q188 (by decide) x7, if_neg z47, q188 (by decide) x7, r1, if_pos z42, if_neg h14, q183]
            unfold zTl
            rw [if_pos rfl]
            exact hK
      · by_cases k43 : zKn b n N j = 43
        · have hj := zKn_lt (by omega) k43
          obtain ⟨Fp, Rp, w1, w2, w3, w4, w5, w6⟩ := sm_put hp h hs hcj hac hty
          have x7p := w3.2.2.2.2.2.2.1
          have z43 : ¬ zb (zKn b n N j = 43) = 0 := by rw [zb_0]; exact fun z => z k43
          have z45 : True := trivial
          have h15 : Rp 178 15 = nI 43 := ((zRk_sign (c := 43) (by decide) x7p).mpr k43).2
          obtain ⟨R1, r1, j1, cs1, lf1, -⟩ := jn (X := X) (d := e + 2) (g := gr) w3 w4 hj
          have hzp : zpd 43 = 1 := by decide
          have hcp : ∀ K : Int32 → (Nat → Nat → Int32) → (Nat → Nat → Int64) → Prop, zCpi X (d + 2) 53 [.ref 70] (zs (zuI Fp 70 3 (nI (j + 1))) g) (fun v24 f22 g23 => zWp X (d + 2) zm52 9 [.ref 70, .int (nI 43), .int v24, .int (nI i + 1), .null] [] (zs f22 g23) (zQi K)) → (if nI p = 0 then (zCpi X (d + 2) 53 [.ref 70] (zs (zuI F 70 3 ((F 70 3) + 1)) g) (fun v24 f22 g23 => zWp X (d + 2) zm52 9 [.ref 70, .int (nI 43), .int v24, .int (nI i + 1), .null] [] (zs f22 g23) (zQi K))) else (zCpi X (d + 2) 39 [.ref 72, .int (znO.1 (nI p))] (zs (zuI F 70 3 ((F 70 3) + 1)) g) (fun v27 f25 g26 => zCpi X (d + 2) 53 [.ref 70] (zs f25 g26) (fun v30 f28 g29 => zWp X (d + 2) zm52 9 [.ref 70, .int (nI 43), .int v30, .int (nI i + 1), .null] [] (zs f28 g29) (zQi K))))) := fun K hK => by
            rw [x4, nI_1]
            by_cases p0 : p = 0
            · rw [if_pos (by rw [p0]; rfl), ← (w1 p0).1]
              exact hK
            · have e1 : zpd p = 1 := by unfold zpd; rw [if_neg p0]
              rw [if_neg (nI_z (by omega) (by omega)), znO.2, q39 (c := c) (by rw [zi_ne (by omega)]; exact s1) (by omega), zPut_c, ← (w2 p0).1]
              exact hK
          have hrp : ∀ K : Int32 → (Nat → Nat → Int32) → (Nat → Nat → Int64) → Prop, zCpi X (e + 5) 199 [.ref 178] (zs R1 gr) (fun v3 f1 g2 => if v3 = -1 then (zTl X e 43 K (-1) f1 g2) else (zWp X (e + 5) zm198 10 [.ref 178, .null] [] (zs f1 g2) (zQi (zTl X e 43 K)))) → zWp X (e + 5) zm198 10 [.ref 178, .null] [] (zs R gr) (zQi (zTl X e p K)) := fun K hK => by
            apply s198_10_178
            rw [show (42 : Int32) = nI 42 from rfl, q188 (by decide) x7, if_pos (by rw [zb_0]; exact k42), show (47 : Int32) = nI 47 from rfl, q188 (by decide) x7, if_pos (by rw [zb_0]; omega)]
            have hl : zWp X (e + 6) zm197 10 [.ref 178, .null] [] (zs Rp gr) (zQi K) := by
              apply s197_10_178
              rw [show (43 : Int32) = nI 43 from rfl, q188 (by decide) x7p, if_neg z43, if_pos h15, r1]
              exact e198_178 hK
            unfold zTl
            rw [if_neg (by decide)]
            by_cases p0 : p = 0
            · rw [if_pos p0, ← (w1 p0).2]
              exact hl
            · have e1 : zpd p = 1 := by unfold zpd; rw [if_neg p0]
              rw [if_neg p0, q201 s2 (by omega), ← (w2 p0).2]
              exact hl
          rcases un_j (X := X) (d := d) (e := e) (g := g) (gr := gr) j1 cs1 (by omega) with ⟨F2, R2, c2, r2, hj1, j2, cs2, lf2, pu, -⟩ | ⟨F2, R2, c2, r2, er⟩
          · have hty2 : ∀ s : List Bool, s.length + 4 ≤ 32 → zTyp (F2 73) a (c + zpd p + 1 - a) s = some (if 43 = 0 then false :: s else false :: false :: s) := fun s hs => by
              have t1 := w6 s hs
              rw [← zTyp_congr (c2 := F2 73) _ _ _ (fun k hk => by rw [lf2.2.2.1 k (by omega), lf1.2.2.1 k (by omega)])] at t1
              exact zTyp_p (by omega) t1 (zyS_u (by rw [List.length_cons]; omega) pu)
            rcases ih (i := i + 1) (p := 43) (by omega) (by omega) j2 cs2 (by omega) (by omega) (by omega) hty2 with ⟨F', R', j', c', cl, rl, y1, y2, y3, y4, y5, y6, y7⟩ | ⟨F', R', cl, rl, er⟩
            · refine Or.inl ⟨F', R', j', c', fun K hK => s52_9_70 ?_, fun K hK => hrp K ?_, y1, y2, zLf_tr (zLf_tr (zLf_tr w5 lf1 (by omega)) lf2 (by omega)) y3 (by omega), by omega, by omega, by omega, y7⟩
              · rw [if_neg h400, if_neg (by decide), x4, q85 x1 x5, k43, if_pos (by decide), if_neg (by decide), if_neg (by decide)]
                refine hcp _ ?_
                rw [c2, nI_1]
                exact cl K hK
              · rw [r2, if_neg (by decide)]
                exact rl K hK
            · refine Or.inr ⟨F', R', fun K hK => s52_9_70 ?_, fun K hK => hrp K ?_, er⟩
              · rw [if_neg h400, if_neg (by decide), x4, q85 x1 x5, k43, if_pos (by decide), if_neg (by decide), if_neg (by decide)]
                refine hcp _ ?_
                rw [c2, nI_1]
                exact cl K hK
              · rw [r2, if_neg (by decide)]
                exact rl K hK
          · refine Or.inr ⟨F2, R2, fun K hK => s52_9_70 ?_, fun K hK => hrp K ?_, er⟩
            · rw [if_neg h400, if_neg (by decide), x4, q85 x1 x5, k43, if_pos (by decide), if_neg (by decide), if_neg (by decide)]
              refine hcp _ ?_
              rw [c2]
              exact s52e hK
            · rw [r2, if_pos rfl]
              unfold zTl
              rw [if_pos rfl]
              exact hK
        · by_cases k45 : zKn b n N j = 45
          · have hj := zKn_lt (by omega) k45
            obtain ⟨Fp, Rp, w1, w2, w3, w4, w5, w6⟩ := sm_put hp h hs hcj hac hty
            have x7p := w3.2.2.2.2.2.2.1
            have z43 : zb (zKn b n N j = 43) = 0 := by rw [zb_0]; omega
            have z45 : ¬ zb (zKn b n N j = 45) = 0 := by rw [zb_0]; exact fun z => z k45
            have h15 : ¬ Rp 178 15 = nI 43 := by rw [((zRk_sign (c := 45) (by decide) x7p).mpr k45).2]; decide
            obtain ⟨R1, r1, j1, cs1, lf1, -⟩ := jn (X := X) (d := e + 2) (g := gr) w3 w4 hj
            have hzp : zpd 45 = 1 := by decide
            have hcp : ∀ K : Int32 → (Nat → Nat → Int32) → (Nat → Nat → Int64) → Prop, zCpi X (d + 2) 53 [.ref 70] (zs (zuI Fp 70 3 (nI (j + 1))) g) (fun v24 f22 g23 => zWp X (d + 2) zm52 9 [.ref 70, .int (nI 45), .int v24, .int (nI i + 1), .null] [] (zs f22 g23) (zQi K)) → (if nI p = 0 then (zCpi X (d + 2) 53 [.ref 70] (zs (zuI F 70 3 ((F 70 3) + 1)) g) (fun v24 f22 g23 => zWp X (d + 2) zm52 9 [.ref 70, .int (nI 45), .int v24, .int (nI i + 1), .null] [] (zs f22 g23) (zQi K))) else (zCpi X (d + 2) 39 [.ref 72, .int (znO.1 (nI p))] (zs (zuI F 70 3 ((F 70 3) + 1)) g) (fun v27 f25 g26 => zCpi X (d + 2) 53 [.ref 70] (zs f25 g26) (fun v30 f28 g29 => zWp X (d + 2) zm52 9 [.ref 70, .int (nI 45), .int v30, .int (nI i + 1), .null] [] (zs f28 g29) (zQi K))))) := fun K hK => by
              rw [x4, nI_1]
              by_cases p0 : p = 0
              · rw [if_pos (by rw [p0]; rfl), ← (w1 p0).1]
                exact hK
              · have e1 : zpd p = 1 := by unfold zpd; rw [if_neg p0]
                rw [if_neg (nI_z (by omega) (by omega)), znO.2, q39 (c := c) (by rw [zi_ne (by omega)]; exact s1) (by omega), zPut_c, ← (w2 p0).1]
                exact hK
            have hrp : ∀ K : Int32 → (Nat → Nat → Int32) → (Nat → Nat → Int64) → Prop, zCpi X (e + 5) 199 [.ref 178] (zs R1 gr) (fun v3 f1 g2 => if v3 = -1 then (zTl X e 45 K (-1) f1 g2) else (zWp X (e + 5) zm198 10 [.ref 178, .null] [] (zs f1 g2) (zQi (zTl X e 45 K)))) → zWp X (e + 5) zm198 10 [.ref 178, .null] [] (zs R gr) (zQi (zTl X e p K)) := fun K hK => by
              apply s198_10_178
              rw [show (42 : Int32) = nI 42 from rfl, q188 (by decide) x7, if_pos (by rw [zb_0]; exact k42), show (47 : Int32) = nI 47 from rfl, q188 (by decide) x7, if_pos (by rw [zb_0]; omega)]
              have hl : zWp X (e + 6) zm197 10 [.ref 178, .null] [] (zs Rp gr) (zQi K) := by
                apply s197_10_178
                rw [show (43 : Int32) = nI 43 from rfl, q188 (by decide) x7p, if_pos z43, show (45 : Int32) = nI 45 from rfl, q188 (by decide) x7p, if_neg z45, if_neg h15, r1]
                exact e198_178 hK
              unfold zTl
              rw [if_neg (by decide)]
              by_cases p0 : p = 0
              · rw [if_pos p0, ← (w1 p0).2]
                exact hl
              · have e1 : zpd p = 1 := by unfold zpd; rw [if_neg p0]
                rw [if_neg p0, q201 s2 (by omega), ← (w2 p0).2]
                exact hl
            rcases un_j (X := X) (d := d) (e := e) (g := g) (gr := gr) j1 cs1 (by omega) with ⟨F2, R2, c2, r2, hj1, j2, cs2, lf2, pu, -⟩ | ⟨F2, R2, c2, r2, er⟩
            · have hty2 : ∀ s : List Bool, s.length + 4 ≤ 32 → zTyp (F2 73) a (c + zpd p + 1 - a) s = some (if 45 = 0 then false :: s else false :: false :: s) := fun s hs => by
                have t1 := w6 s hs
                rw [← zTyp_congr (c2 := F2 73) _ _ _ (fun k hk => by rw [lf2.2.2.1 k (by omega), lf1.2.2.1 k (by omega)])] at t1
                exact zTyp_p (by omega) t1 (zyS_u (by rw [List.length_cons]; omega) pu)
              rcases ih (i := i + 1) (p := 45) (by omega) (by omega) j2 cs2 (by omega) (by omega) (by omega) hty2 with ⟨F', R', j', c', cl, rl, y1, y2, y3, y4, y5, y6, y7⟩ | ⟨F', R', cl, rl, er⟩
              · refine Or.inl ⟨F', R', j', c', fun K hK => s52_9_70 ?_, fun K hK => hrp K ?_, y1, y2, zLf_tr (zLf_tr (zLf_tr w5 lf1 (by omega)) lf2 (by omega)) y3 (by omega), by omega, by omega, by omega, y7⟩
                · rw [if_neg h400, if_neg (by decide), x4, q85 x1 x5, k45, if_neg (by decide), if_pos (by decide), if_neg (by decide), if_neg (by decide)]
                  refine hcp _ ?_
                  rw [c2, nI_1]
                  exact cl K hK
                · rw [r2, if_neg (by decide)]
                  exact rl K hK
              · refine Or.inr ⟨F', R', fun K hK => s52_9_70 ?_, fun K hK => hrp K ?_, er⟩
                · rw [if_neg h400, if_neg (by decide), x4, q85 x1 x5, k45, if_neg (by decide), if_pos (by decide), if_neg (by decide), if_neg (by decide)]
                  refine hcp _ ?_
                  rw [c2, nI_1]
                  exact cl K hK
                · rw [r2, if_neg (by decide)]
                  exact rl K hK
            · refine Or.inr ⟨F2, R2, fun K hK => s52_9_70 ?_, fun K hK => hrp K ?_, er⟩
              · rw [if_neg h400, if_neg (by decide), x4, q85 x1 x5, k45, if_neg (by decide), if_pos (by decide), if_neg (by decide), if_neg (by decide)]
                refine hcp _ ?_
                rw [c2]
                exact s52e hK
              · rw [r2, if_pos rfl]
                unfold zTl
                rw [if_pos rfl]
                exact hK
          · exact sm_end hp h hs hcj hij hac hty k42 k43 k45 k47
end ZSU

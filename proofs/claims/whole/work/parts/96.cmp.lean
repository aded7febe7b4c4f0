/-! a whole sum; two of them compared -/
section ZCM
variable {X : Nat × (Nat → Int32)} {d e : Nat} {f r F R : Nat → Nat → Int32} {g gr : Nat → Nat → Int64} {b : Nat → Nat} {n N j c : Nat}
theorem su_j (h : zJ f r b n N F R j) (hs : zCs F R c) (hcj : c ≤ j) :
    (∃ F' R' j' c', (∀ K : Int32 → (Nat → Nat → Int32) → (Nat → Nat → Int64) → Prop, K 1 F' g → zCpi X (d + 3) 52 [.ref 70] (zs F g) K) ∧ (∀ K : Int32 → (Nat → Nat → Int32) → (Nat → Nat → Int64) → Prop, K 0 R' gr → zCpi X (e + 7) 197 [.ref 178] (zs R gr) K) ∧ zJ f r b n N F' R' j' ∧ zCs F' R' c' ∧ zLf F F' R R' c ∧ c < c' ∧ j < j' ∧ c' + j ≤ c + j' ∧ ∀ s : List Bool, s.length + 4 ≤ 32 → zTyp (F' 73) c (c' - c) s = some (false :: s)) ∨
    (∃ F' R', (∀ K : Int32 → (Nat → Nat → Int32) → (Nat → Nat → Int64) → Prop, K 0 F' g → zCpi X (d + 3) 52 [.ref 70] (zs F g) K) ∧ (∀ K : Int32 → (Nat → Nat → Int32) → (Nat → Nat → Int64) → Prop, K (-1) R' gr → zCpi X (e + 7) 197 [.ref 178] (zs R gr) K) ∧ zEr f r F' R') := by
  rcases un_j (X := X) (d := d) (e := e) (g := g) (gr := gr) h hs hcj with ⟨F1, R1, c1, r1, hj, j1, cs1, lf1, pu, -⟩ | ⟨F1, R1, c1, r1, er⟩
  · have hz0 : zpd 0 = 0 := rfl
    have hty : ∀ s : List Bool, s.length + 4 ≤ 32 → zTyp (F1 73) c (c + 1 - c) s = some (if 0 = 0 then false :: s else false :: false :: s) := fun s hs => by
      rw [if_pos rfl]
      refine zTyp_p (Nat.le_refl c) (t := s) ?_ (zyS_u (by omega) pu)
      rw [Nat.sub_self]
      rfl
    rcases sm_loop (X := X) (d := d) (e := e) (g := g) (gr := gr) (N - (j + 1)) (i := 0) (p := 0) (Nat.le_refl _) (Or.inl rfl) j1 cs1 (by omega) (by omega) (by omega) hty with ⟨F', R', j', c', cl, rl, y1, y2, y3, y4, y5, y6, y7⟩ | ⟨F', R', cl, rl, er⟩
    · refine Or.inl ⟨F', R', j', c', fun K hK => e52_70 ?_, fun K hK => e197_178 (e198_178 ?_), y1, y2, zLf_tr lf1 y3 (by omega), by omega, by omega, by omega, y7⟩
      · rw [c1]
        exact cl K hK
      · rw [r1, if_neg (by decide)]
        exact rl K hK
    · refine Or.inr ⟨F', R', fun K hK => e52_70 ?_, fun K hK => e197_178 (e198_178 ?_), er⟩
      · rw [c1]
        exact cl K hK
      · rw [r1, if_neg (by decide)]
        exact rl K hK
  · refine Or.inr ⟨F1, R1, fun K hK => e52_70 ?_, fun K hK => e197_178 (e198_178 ?_), er⟩
    · rw [c1]
      exact s52e hK
    · rw [r1, if_pos rfl, if_pos rfl]
      exact hK
/-- two sums compared: the class's clause without not and bracket -/
theorem cm_j {o : Int32} (h : zJ f r b n N F R j) (hs : zCs F R c) (hcj : c ≤ j) (k1 : ¬ zKn b n N j = 134) (k2 : ¬ zKn b n N j = 40) :
    (∃ F' R' j' c', (∀ K : Int32 → (Nat → Nat → Int32) → (Nat → Nat → Int64) → Prop, K 1 F' g → zCpi X (d + 4) 56 [.ref 70, .int o] (zs F g) K) ∧ (∀ K : Int32 → (Nat → Nat → Int32) → (Nat → Nat → Int64) → Prop, K 0 R' gr → zCpi X (e + 8) 204 [.ref 178] (zs R gr) K) ∧ zJ f r b n N F' R' j' ∧ zCs F' R' c' ∧ zLf F F' R R' c ∧ c < c' ∧ j < j' ∧ c' + j ≤ c + j' ∧ ∀ s : List Bool, s.length + 5 ≤ 32 → zTyp (F' 73) c (c' - c) s = some (true :: s)) ∨
    (∃ F' R', (∀ K : Int32 → (Nat → Nat → Int32) → (Nat → Nat → Int64) → Prop, K 0 F' g → zCpi X (d + 4) 56 [.ref 70, .int o] (zs F g) K) ∧ (∀ K : Int32 → (Nat → Nat → Int32) → (Nat → Nat → Int64) → Prop, K (-1) R' gr → zCpi X (e + 8) 204 [.ref 178] (zs R gr) K) ∧ zEr f r F' R') := by
  obtain ⟨x1, x2, x3, x4, x5, x6, x7, x8, x9⟩ := id h
  have kl := zKn_le (b := b) (n := n) (N := N) (j := j)
  have hN : N ≤ 400 := x1.2.1
  have n1 : ¬ nI (zKn b n N j) = (134 : Int32) := nI_neq (c := 134) (by omega) (by omega) k1
  have n2 : ¬ nI (zKn b n N j) = (40 : Int32) := nI_neq (c := 40) (by omega) (by omega) k2
  rcases su_j (X := X) (d := d) (e := e) (g := g) (gr := gr) h hs hcj with ⟨F1, R1, j1, c1, cl1, rl1, h1, hs1, lf1, a1, a2, a3, ty1⟩ | ⟨F1, R1, cl1, rl1, er⟩
  case inr =>
    refine Or.inr ⟨F1, R1, fun K hK => e56_70 ?_, fun K hK => e204_178 (rl1 _ ?_), er⟩
    · rw [x4, q85 x1 x5, if_neg n1, if_neg n2]
      refine cl1 _ ?_
      rw [if_pos rfl, if_pos (Or.inl rfl)]
      exact hK
    · rw [if_pos rfl]
      exact hK
  obtain ⟨y1, y2, y3, y4, y5, y6, y7, y8, y9⟩ := id h1
  have kl1 := zKn_le (b := b) (n := n) (N := N) (j := j1)
  have hcl : ∀ K : Int32 → (Nat → Nat → Int32) → (Nat → Nat → Int64) → Prop, (if nI (zKn b n N j1) = 60 then (zCpi X (d + 3) 52 [.ref 70] (zs (zuI F1 70 3 (nI (j1 + 1))) g) (fun v42 f40 g41 => if v42 = 0 then (if (0 : Int32) = 0 ∨ (0 : Int32) = 1 then (K 0 f40 g41) else False) else (zCpi X (d + 3) 39 [.ref 72, .int (znO.1 (nI (zKn b n N j1)))] (zs f40 g41) (fun v45 f43 g44 => if v45 = 0 then (if (0 : Int32) = 0 ∨ (0 : Int32) = 1 then (K 0 f43 g44) else False) else (if (1 : Int32) = 0 ∨ (1 : Int32) = 1 then (K 1 f43 g44) else False))))) else (if nI (zKn b n N j1) = 61 then (zCpi X (d + 3) 52 [.ref 70] (zs (zuI F1 70 3 (nI (j1 + 1))) g) (fun v42 f40 g41 => if v42 = 0 then (if (0 : Int32) = 0 ∨ (0 : Int32) = 1 then (K 0 f40 g41) else False) else (zCpi X (d + 3) 39 [.ref 72, .int (znO.1 (nI (zKn b n N j1)))] (zs f40 g41) (fun v45 f43 g44 => if v45 = 0 then (if (0 : Int32) = 0 ∨ (0 : Int32) = 1 then (K 0 f43 g44) else False) else (if (1 : Int32) = 0 ∨ (1 : Int32) = 1 then (K 1 f43 g44) else False))))) else (if nI (zKn b n N j1) = 62 then (zCpi X (d + 3) 52 [.ref 70] (zs (zuI F1 70 3 (nI (j1 + 1))) g) (fun v42 f40 g41 => if v42 = 0 then (if (0 : Int32) = 0 ∨ (0 : Int32) = 1 then (K 0 f40 g41) else False) else (zCpi X (d + 3) 39 [.ref 72, .int (znO.1 (nI (zKn b n N j1)))] (zs f40 g41) (fun v45 f43 g44 => if v45 = 0 then (if (0 : Int32) = 0 ∨ (0 : Int32) = 1 then (K 0 f43 g44) else False) else (if (1 : Int32) = 0 ∨ (1 : Int32) = 1 then (K 1 f43 g44) else False))))) else (zCpi X (d + 3) 50 [.ref 70, .int 1] (zs F1 g) (fun v60 f58 g59 => if v60 = 0 ∨ v60 = 1 then (K v60 f58 g59) else False))))) → zCpi X (d + 4) 56 [.ref 70, .int o] (zs F g) K := fun K hK => by
    apply e56_70
    rw [x4, q85 x1 x5, if_neg n1, if_neg n2]
    refine cl1 _ ?_
    rw [if_neg (by decide), y4, q85 y1 y5, y4, nI_1]
    exact hK
  have hgo : ∀ (k q : Nat), ((k = 60 ∧ q = 6) ∨ (k = 61 ∧ q = 7) ∨ (k = 62 ∧ q = 8)) → zKn b n N j1 = k → ∃ R2, (∀ Kv : (Nat → Nat → Int32) → (Nat → Nat → Int64) → Prop, zCpv X (e + 7) 175 [.ref 178] (zs R1 gr) Kv = Kv R2 gr) ∧ ((∃ F' R' j' c', (∀ K : Int32 → (Nat → Nat → Int32) → (Nat → Nat → Int64) → Prop, K 1 F' g → zCpi X (d + 3) 52 [.ref 70] (zs (zuI F1 70 3 (nI (j1 + 1))) g) (fun v42 f40 g41 => if v42 = 0 then (if (0 : Int32) = 0 ∨ (0 : Int32) = 1 then (K 0 f40 g41) else False) else (zCpi X (d + 3) 39 [.ref 72, .int (znO.1 (nI k))] (zs f40 g41) (fun v45 f43 g44 => if v45 = 0 then (if (0 : Int32) = 0 ∨ (0 : Int32) = 1 then (K 0 f43 g44) else False) else (if (1 : Int32) = 0 ∨ (1 : Int32) = 1 then (K 1 f43 g44) else False))))) ∧ (∀ K : Int32 → (Nat → Nat → Int32) → (Nat → Nat → Int64) → Prop, K 0 R' gr → zCpi X (e + 7) 197 [.ref 178] (zs R2 gr) (fun v20 f18 g19 => if v20 = -1 then (K (-1) f18 g19) else (zCpv X (e + 7) 201 [.ref 178, .int (nI q), .int 0] (zs f18 g19) (fun f21 g22 => K 0 f21 g22)))) ∧ zJ f r b n N F' R' j' ∧ zCs F' R' c' ∧ zLf F F' R R' c ∧ c < c' ∧ j < j' ∧ c' + j ≤ c + j' ∧ ∀ s : List Bool, s.length + 5 ≤ 32 → zTyp (F' 73) c (c' - c) s = some (true :: s)) ∨ (∃ F' R', (∀ K : Int32 → (Nat → Nat → Int32) → (Nat → Nat → Int64) → Prop, K 0 F' g → zCpi X (d + 3) 52 [.ref 70] (zs (zuI F1 70 3 (nI (j1 + 1))) g) (fun v42 f40 g41 => if v42 = 0 then (if (0 : Int32) = 0 ∨ (0 : Int32) = 1 then (K 0 f40 g41) else False) else (zCpi X (d + 3) 39 [.ref 72, .int (znO.1 (nI k))] (zs f40 g41) (fun v45 f43 g44 => if v45 = 0 then (if (0 : Int32) = 0 ∨ (0 : Int32) = 1 then (K 0 f43 g44) else False) else (if (1 : Int32) = 0 ∨ (1 : Int32) = 1 then (K 1 f43 g44) else False))))) ∧ (∀ K : Int32 → (Nat → Nat → Int32) → (Nat → Nat → Int64) → Prop, K (-1) R' gr → zCpi X (e + 7) 197 [.ref 178] (zs R2 gr) (fun v20 f18 g19 => if v20 = -1 then (K (-1) f18 g19) else (zCpv X (e + 7) 201 [.ref 178, .int (nI q), .int 0] (zs f18 g19) (fun f21 g22 => K 0 f21 g22)))) ∧ zEr f r F' R')) := by
    intro k q hkq hkn
    have hj1 := zKn_lt (k := k) (by omega) hkn
    obtain ⟨R2, r2, h2, hs2, lf2, -⟩ := jn (X := X) (d := e + 3) (g := gr) h1 hs1 hj1
    refine ⟨R2, r2, ?_⟩
    rcases su_j (X := X) (d := d) (e := e) (g := g) (gr := gr) h2 hs2 (by omega) with ⟨F3, R3, j3, c3, cl3, rl3, h3, hs3, lf3, b1, b2, b3, ty3⟩ | ⟨F3, R3, cl3, rl3, er⟩
    · have hj3 : j3 ≤ N := h3.2.2.2.2.1
      have hcod : zCod (-(nI k)) (nI q) 0 := by
        rcases hkq with ⟨rfl, rfl⟩ | ⟨rfl, rfl⟩ | ⟨rfl, rfl⟩
        · exact Or.inr (Or.inr (Or.inr (Or.inr (Or.inr (Or.inr (Or.inl ⟨by decide, by decide⟩))))))
        · exact Or.inr (Or.inr (Or.inr (Or.inr (Or.inr (Or.inr (Or.inr (Or.inl ⟨by decide, by decide⟩)))))))
        · exact Or.inr (Or.inr (Or.inr (Or.inr (Or.inr (Or.inr (Or.inr (Or.inr (Or.inl ⟨by decide, by decide⟩))))))))
      have hvi : (-(nI k)).toInt = -60 ∨ (-(nI k)).toInt = -61 ∨ (-(nI k)).toInt = -62 := by
        rcases hkq with ⟨rfl, rfl⟩ | ⟨rfl, rfl⟩ | ⟨rfl, rfl⟩
        · exact Or.inl (by decide)
        · exact Or.inr (Or.inl (by decide))
        · exact Or.inr (Or.inr (by decide))
      obtain ⟨p1, p2, p3, p4⟩ := jp h3 hs3 hcod
      refine Or.inl ⟨_, _, j3, c3 + 1, fun K hK => cl3 _ ?_, fun K hK => rl3 _ ?_, p1, p2, zLf_tr (zLf_tr (zLf_tr lf1 lf2 (by omega)) lf3 (by omega)) p3 (by omega), by omega, by omega, by omega, fun s hs => ?_⟩
      · rw [if_neg (by decide), znO.2, q39 hs3.1 (by omega), if_neg (by decide), if_pos (Or.inr rfl)]
        exact hK
      · rw [if_neg (by decide), q201 hs3.2.1 (by omega)]
        exact hK
      · have t1 := ty1 s (by omega)
        rw [← zTyp_congr (c2 := zPut F3 c3 (-(nI k)) 73) _ _ _ (fun k hk => by rw [p3.2.2.1 k (by omega), lf3.2.2.1 k (by omega), lf2.2.2.1 k (by omega)])] at t1
        have t2 := ty3 (false :: s) (by rw [List.length_cons]; omega)
        rw [← zTyp_congr (c2 := zPut F3 c3 (-(nI k)) 73) _ _ _ (fun k hk => by rw [p3.2.2.1 k (by omega)])] at t2
        exact zTyp_p (by omega) (zTyp_q (by omega) (by omega) t1 t2) (zyS_c (by omega) (by rw [p4]; exact hvi))
    · refine Or.inr ⟨F3, R3, fun K hK => cl3 _ ?_, fun K hK => rl3 _ ?_, er⟩
      · rw [if_pos rfl, if_pos (Or.inl rfl)]
        exact hK
      · rw [if_pos rfl]
        exact hK
  by_cases k60 : zKn b n N j1 = 60
  · have h15 : R1 178 15 = nI 60 := ((zRk_sign (c := 60) (by decide) y7).mpr k60).2
    obtain ⟨R2, r2, hh⟩ := hgo 60 6 (by omega) k60
    rcases hh with ⟨F', R', j', c', cl, rl, hh⟩ | ⟨F', R', cl, rl, er⟩
    · refine Or.inl ⟨F', R', j', c', fun K hK => hcl K ?_, fun K hK => e204_178 (rl1 _ ?_), hh⟩
      · rw [k60, if_pos (by decide)]
        exact cl K hK
      · rw [if_neg (by decide), show (60 : Int32) = nI 60 from rfl, q188 (by decide) y7, if_neg (by rw [zb_0]; exact fun z => z k60), if_pos h15, r2]
        exact rl K hK
    · refine Or.inr ⟨F', R', fun K hK => hcl K ?_, fun K hK => e204_178 (rl1 _ ?_), er⟩
      · rw [k60, if_pos (by decide)]
        exact cl K hK
      · rw [if_neg (by decide), show (60 : Int32) = nI 60 from rfl, q188 (by decide) y7, if_neg (by rw [zb_0]; exact fun z => z k60), if_pos h15, r2]
        exact rl K hK
  · by_cases k61 : zKn b n N j1 = 61
    · have h15 : R1 178 15 = nI 61 := ((zRk_sign (c := 61) (by decide) y7).mpr k61).2
      obtain ⟨R2, r2, hh⟩ := hgo 61 7 (by omega) k61
      rcases hh with ⟨F', R', j', c', cl, rl, hh⟩ | ⟨F', R', cl, rl, er⟩
      · refine Or.inl ⟨F', R', j', c', fun K hK => hcl K ?_, fun K hK => e204_178 (rl1 _ ?_), hh⟩
        · rw [k61, if_neg (by decide), if_pos (by decide)]
          exact cl K hK
        · rw [if_neg (by decide), show (60 : Int32) = nI 60 from rfl, q188 (by decide) y7, if_pos (by rw [zb_0]; omega), show (61 : Int32) = nI 61 from rfl, q188 (by decide) y7, if_neg (by rw [zb_0]; exact fun z => z k61), if_neg (by rw [h15]; decide), if_pos h15, r2]
          exact rl K hK
      · refine Or.inr ⟨F', R', fun K hK => hcl K ?_, fun K hK => e204_178 (rl1 _ ?_), er⟩
        · rw [k61, if_neg (by decide), if_pos (by decide)]
          exact cl K hK
        · rw [if_neg (by decide), show (60 : Int32) = nI 60 from rfl, q188 (by decide) y7, if_pos (by rw [zb_0]; omega), show (61 : Int32) = nI 61 from rfl, q188 (by decide) y7, if_neg (by rw [zb_0]; exact fun z => z k61), if_neg (by rw [h15]; decide), if_pos h15, r2]
          exact rl K hK
    · by_cases k62 : zKn b n N j1 = 62
      · have h15 : R1 178 15 = nI 62 := ((zRk_sign (c := 62) (by decide) y7).mpr k62).2
        obtain ⟨R2, r2, hh⟩ := hgo 62 8 (by omega) k62
        rcases hh with ⟨F', R', j', c', cl, rl, hh⟩ | ⟨F', R', cl, rl, er⟩
        · refine Or.inl ⟨F', R', j', c', fun K hK => hcl K ?_, fun K hK => e204_178 (rl1 _ ?_), hh⟩
          · rw [k62, if_neg (by decide), if_neg (by decide), if_pos (by decide)]
            exact cl K hK
          · rw [if_neg (by decide), show (60 : Int32) = nI 60 from rfl, q188 (by decide) y7, if_pos (by rw [zb_0]; omega), show (61 : Int32) = nI 61 from rfl, q188 (by decide) y7, if_pos (by rw [zb_0]; omega), show (62 : Int32) = nI 62 from rfl, q188 (by decide) y7, if_neg (by rw [zb_0]; exact fun z => z k62), if_neg (by rw [h15]; decide), if_neg (by rw [h15]; decide), r2]
            exact rl K hK
        · refine Or.inr ⟨F', R', fun K hK => hcl K ?_, fun K hK => e204_178 (rl1 _ ?_), er⟩
          · rw [k62, if_neg (by decide), if_neg (by decide), if_pos (by decide)]
            exact cl K hK
          · rw [if_neg (by decide), show (60 : Int32) = nI 60 from rfl, q188 (by decide) y7, if_pos (by rw [zb_0]; omega), show (61 : Int32) = nI 61 from rfl, q188 (by decide) y7, if_pos (by rw [zb_0]; omega), show (62 : Int32) = nI 62 from rfl, q188 (by decide) y7, if_neg (by rw [zb_0]; exact fun z => z k62), if_neg (by rw [h15]; decide), if_neg (by rw [h15]; decide), r2]
            exact rl K hK
      · refine Or.inr ⟨_, _, fun K hK => hcl K ?_, fun K hK => e204_178 (rl1 _ ?_), zJ_er (c := 1) h1⟩
        · rw [if_neg (show ¬ nI (zKn b n N j1) = (60 : Int32) from nI_neq (c := 60) (by omega) (by omega) k60), if_neg (show ¬ nI (zKn b n N j1) = (61 : Int32) from nI_neq (c := 61) (by omega) (by omega) k61), if_neg (show ¬ nI (zKn b n N j1) = (62 : Int32) from nI_neq (c := 62) (by omega) (by omega) k62), q50 y1 y2 y3 y4 y5, if_pos (Or.inl rfl)]
          exact hK
        · rw [if_neg (by decide), show (60 : Int32) = nI 60 from rfl, q188 (by decide) y7, if_pos (by rw [zb_0]; omega), show (61 : Int32) = nI 61 from rfl, q188 (by decide) y7, if_pos (by rw [zb_0]; omega), show (62 : Int32) = nI 62 from rfl, q188 (by decide) y7, if_pos (by rw [zb_0]; omega), q183]
          exact hK
end ZCM

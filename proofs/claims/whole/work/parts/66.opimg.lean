/-! image: both sides -/
theorem zK8_no {k : Nat} (h : zK8 k = true) : ¬ k = 0 ∧ ¬ k = 56 ∧ ¬ k = 57 ∧ ¬ k = 58 ∧ ¬ k = 3 := by
  refine ⟨?_, ?_, ?_, ?_, ?_⟩
  all_goals
    rintro rfl
    exact absurd h (by decide)
theorem zPas_er {f : Nat → Nat → Int32} {g : Nat → Nat → Int64} {r r2 : Nat → Nat → Int32} (hi : ∀ i, ¬ i = 183 → r2 i = r i) (he : ∀ j, j < 12 → r2 183 j = r 183 j) (h : zPas f g r) : zPas f g r2 := by
  obtain ⟨s, p, mm, a1, a2, a3, a4, a5, a6, a6', a7⟩ := h
  refine ⟨s, p, mm, a1, a2, a3, by rw [hi 178 (by omega)]; exact a4, a5, a6, a6', fun j hj => ?_⟩
  obtain ⟨q, b1, b2, b3, b4, b5, b6⟩ := a7 j hj
  refine ⟨q, b1, ?_, b3, b4, by rw [hi 180 (by omega)]; exact b5, b6⟩
  rw [hi 180 (by omega), hi 178 (by omega)]
  exact zHal_er he b2
section ZOI
variable {X : Nat × (Nat → Int32)} {d : Nat}
theorem l279 {fr : Nat → Nat → Int32} {gr : Nat → Nat → Int64} {t : Int32} {K : Int32 → (Nat → Nat → Int32) → (Nat → Nat → Int64) → Prop} (ht : t = 0 ∨ t = 1) (hi : t = 0 → ¬ fr 178 57 = 0) (hK : ∀ R, zIv t (zuI (zuI (zuI (zuI fr 178 0 0) 178 56 t) 178 57 1) 178 58 0) R 1807 → K 1 (if t = 0 then zuI R 178 3 0 else R) gr) : zCpi X (d + 4) 279 [.ref 178, .int t] (zs fr gr) K := by
  have hS : zIv t (zuI (zuI (zuI (zuI fr 178 0 0) 178 56 t) 178 57 1) 178 58 0) (zuI (zuI (zuI (zuI fr 178 0 0) 178 56 t) 178 57 1) 178 58 0) 0 := by
    refine ⟨by rw [zi_at, if_pos rfl]; rfl, by rw [zi_at, if_neg (by omega), zi_at, if_neg (by omega), zi_at, if_pos rfl], fun _ _ _ _ => rfl, fun _ _ _ => rfl, ?_, ?_⟩
    · exact Or.inr ⟨fun _ _ _ => rfl, fun i k _ h => absurd h (Nat.not_lt_zero _)⟩
    · exact Or.inr ⟨rfl, fun i k _ h => absurd h (Nat.not_lt_zero _)⟩
  have hgo : zWp X (d + 3) zm279 35 [.ref 178, .int t, .int 0] [] (zs (zuI (zuI (zuI (zuI fr 178 0 0) 178 56 t) 178 57 1) 178 58 0) gr) (zQi K) := by
    refine k279_35 (d := d + 2) (r := zuI (zuI (zuI (zuI fr 178 0 0) 178 56 t) 178 57 1) 178 58 0) ht (fun R s => ?_) 76 0 (by omega) _ hS
    refine k281 (d := d + 1) ht (fun R s => ?_) s
    refine k279_69 (d := d + 2) ht (fun R s => ?_) 600 0 (by omega) R s
    refine k282 (d := d + 1) ht (fun R s => ?_) s
    have z := hK R s
    rcases ht with rfl | rfl
    · rw [if_pos rfl] at z
      rw [if_pos rfl, if_pos (Or.inr rfl)]
      exact z
    · rw [if_neg (by decide)] at z
      rw [if_neg (by decide), if_pos (Or.inr rfl)]
      exact z
  apply e279_178
  rcases ht with rfl | rfl
  · rw [if_pos rfl, if_neg (hi rfl), if_pos (Or.inl rfl), if_pos (Or.inr rfl)]
    exact hgo
  · rw [if_neg (by decide), if_pos (Or.inr rfl), if_pos (Or.inr rfl)]
    exact hgo
theorem op_image {a : Int32} (ha : a = 0 ∨ a = 1) : zOp X (d + 5) 159 279 [.int a] := by
  intro fc fr gc gr hR
  obtain ⟨c0, c12, c13, c14, ⟨ci1, ci2⟩, c16⟩ := id hR
  obtain ⟨r0, hr0⟩ : ∃ r0, r0 = zuI (zuI (zuI (zuI fr 178 0 0) 178 56 a) 178 57 1) 178 58 0 := ⟨_, rfl⟩
  have r0i : ∀ i, ¬ i = 178 → r0 i = fr i := fun i hi => by rw [hr0, zi_ne hi, zi_ne hi, zi_ne hi, zi_ne hi]
  have r08 : ∀ j, ¬ j = 0 → ¬ j = 56 → ¬ j = 57 → ¬ j = 58 → r0 178 j = fr 178 j := fun j a b c d' => by rw [hr0, zi_at, if_neg d', zi_at, if_neg c, zi_at, if_neg b, zi_at, if_neg a]
  have r057 : r0 178 57 = 1 := by rw [hr0, zi_at, if_neg (by omega), zi_at, if_pos rfl]
  have r0k : ∀ i k, zKt i k → r0 i k = fr i k := fun i k hk => by
    rcases hk with ⟨rfl, h⟩ | h
    · obtain ⟨x1, x2, x3, x4, x5⟩ := zK8_no h
      exact r08 k x1 x2 x3 x4
    · rw [r0i i (by rintro rfl; exact Nat.not_lt_zero _ h)]
  rcases ha with rfl | rfl
  · -- given back
    by_cases h0 : fc 0 9 = 0
    · apply e159_0
      rw [if_pos rfl, if_pos h0, if_pos (Or.inl rfl)]
      apply e279_178
      rw [if_pos rfl, if_pos (by rw [← ci1]; exact h0), if_pos (Or.inl rfl)]
      refine ⟨rfl, ?_⟩
      exact zRel_scr (fun _ _ _ => rfl) rfl rfl (fun _ _ => rfl) (fun i a1 _ _ _ _ => zi_ne a1) (fun j hj => by rw [zi_at, if_neg hj]) hR
    · obtain ⟨h1, hW⟩ := ci2.resolve_left h0
      obtain ⟨F, e1, e2, e3⟩ := cw_1_33 (X := X) (d := d) (f := fc) (g := gc)
      apply e159_0
      rw [if_pos rfl, if_neg h0, e1, q44, if_pos (Or.inr rfl)]
      refine l279 (d := d + 1) (Or.inl rfl) (fun _ => by rw [← ci1]; exact h0) (fun R s => ?_)
      rw [← hr0] at s
      obtain ⟨s1, s2, s3, s4, s5, s6⟩ := s
      obtain ⟨b1, b2⟩ := s6.resolve_left (by decide)
      rw [if_pos rfl]
      refine ⟨rfl, ?_⟩
      have R8 : ∀ j, ¬ j = 58 → ¬ j = 0 → ¬ j = 56 → ¬ j = 57 → zK8 j = false → R 178 j = fr 178 j := fun j a b c d' e => by rw [s4 j a e, r08 j b c d' a]
      have Ri : ∀ i, ¬ i = 178 → ¬ i = 211 → zKth i = 0 → R i = fr i := fun i a b c => by rw [s3 i a b c, r0i i a]
      have R211 : R 211 = fr 211 := by rw [b1, r0i 211 (by omega)]
      have hW2 : zWld (zuI F 81 3 0) (zuL gc 2 12 (gc 34 12)) (zuI R 178 3 0) := by
        refine zWld_congr (fun i k hk => ?_) (fun i k hk => ?_) (by rw [zj_at, if_pos rfl]) hW
        · rw [zi_ne (by rintro rfl; exact Nat.not_lt_zero _ hk.2)]
          exact e3 i k hk
        · rw [zImg_ix, zu_ap, if_neg (by rintro ⟨rfl, rfl⟩; rcases hk with ⟨-, z⟩ | z; exact absurd z (by decide); exact Nat.not_lt_zero _ z), b2 i k hk (zcel_ix hk).2, r0i 211 (by omega)]
      obtain ⟨bk, hbk, y1, -⟩ := id hW2.2.2.2.2.2.2.2.2.2.2
      refine ⟨hW2, ?_, ?_, ?_, ?_, ?_⟩
      · rw [zi_ne (by omega), zi_ne (by omega), e2 65 (by omega), e2 66 (by omega), zi_at, if_neg (by omega), zi_ne (by omega), R8 11 (by omega) (by omega) (by omega) (by omega) rfl, Ri 185 (by omega) (by omega) rfl]
        exact c12
      · rw [zi_ne (by omega), e2 70 (by omega), zi_at, if_neg (by omega), zi_at, if_neg (by omega), R8 31 (by omega) (by omega) (by omega) (by omega) rfl, R8 32 (by omega) (by omega) (by omega) (by omega) rfl]
        exact c13
      · exact zPas_nil (by rw [zi_at, if_neg (by omega), e2 81 (by omega)]) (by rw [zi_at, if_pos rfl]) (by rw [zi_at, if_pos rfl]) y1 hbk c14
      · exact zIma_frame (by rw [zi_ne (by omega), e2 0 (by omega)]) (fun i _ _ => by rw [zi_ne (by omega), e2 i (by omega)]) (by rw [zj_ne (by omega)]) (by rw [zi_ne (by omega)]; exact R211) (by rw [zi_at, if_neg (by omega), s4 57 (by omega) rfl, r057, ← ci1]; exact h1.symm) ⟨ci1, ci2⟩
      · rw [zi_ne (by omega), zi_ne (by omega), e2 147 (by omega), e2 158 (by omega), zi_at, if_neg (by omega), zi_ne (by omega), R8 5 (by omega) (by omega) (by omega) (by omega) rfl, Ri 186 (by omega) (by omega) rfl]
        exact c16
  · -- taken
    obtain ⟨F, e1, e2, e3⟩ := cw_33_1 (X := X) (d := d) (f := fc) (g := gc)
    apply e159_0
    rw [if_neg (by decide), e1, if_pos (Or.inr rfl), if_pos (Or.inr rfl)]
    refine l279 (d := d + 1) (Or.inr rfl) (fun z => absurd z (by decide)) (fun R s => ?_)
    rw [← hr0] at s
    obtain ⟨s1, s2, s3, s4, s5, s6⟩ := s
    obtain ⟨b1, b2⟩ := s5.resolve_left (by decide)
    rw [if_neg (by decide)]
    refine ⟨rfl, ?_⟩
    have R8 : ∀ j, ¬ j = 58 → ¬ j = 0 → ¬ j = 56 → ¬ j = 57 → zK8 j = false → R 178 j = fr 178 j := fun j a b c d' e => by rw [s4 j a e, r08 j b c d' a]
    have Ri : ∀ i, ¬ i = 178 → ¬ i = 211 → zKth i = 0 → R i = fr i := fun i a b c => by rw [s3 i a b c, r0i i a]
    have Rk : ∀ i k, zKt i k → R i k = fr i k := fun i k hk => by rw [b1 i k hk, r0k i k hk]
    have hW2 : zWld (zuI F 0 9 1) (zuL gc 34 12 (gc 2 12)) R := by
      refine zWld_congr (fun i k hk => ?_) (fun i k hk => Rk i k hk) (by rw [zj_ne (by omega)]) c0
      have h32 : i ≤ 32 := by
        rcases Nat.lt_or_ge 32 i with h | h
        · have z : zKhi i = 0 := by
            unfold zKhi
            split <;> first | (exfalso; omega) | rfl
          have := hk.2
          rw [z] at this
          exact absurd this (Nat.not_lt_zero k)
        · exact h
      rw [zi_ne (by rintro rfl; exact Nat.not_lt_zero _ hk.2), e2 i (by omega)]
    have hW3 : zWld (fun i => zuI F 0 9 1 (i + 32)) (fun i => zuL gc 34 12 (gc 2 12) (i + 32)) (zImg (R 211)) := by
      refine zWld_congr (fun i k hk => ?_) (fun i k hk => ?_) (by rw [zj_at, if_pos rfl]) c0
      · rw [zi_ne (by omega)]
        exact e3 i k hk
      · rw [zImg_ix, b2 i k hk (zcel_ix hk).2, r0k i k hk]
    refine ⟨hW2, ?_, ?_, ?_, ⟨?_, Or.inr ⟨?_, hW3⟩⟩, ?_⟩
    · rw [zi_ne (by omega), zi_ne (by omega), e2 65 (by omega), e2 66 (by omega), R8 11 (by omega) (by omega) (by omega) (by omega) rfl, Ri 185 (by omega) (by omega) rfl]
      exact c12
    · rw [zi_ne (by omega), e2 70 (by omega), R8 31 (by omega) (by omega) (by omega) (by omega) rfl, R8 32 (by omega) (by omega) (by omega) (by omega) rfl]
      exact c13
    · refine zPas_er (r := zrI R 183 (fr 183)) (fun i hi => (zr_ne hi).symm) (fun j hj => by rw [zr_at]; exact Rk 183 j (Or.inr hj)) ?_
      exact zPas_frame (fun i _ _ => by rw [zi_ne (by omega), e2 i (by omega)]) (by rw [zi_ne (by omega), e2 11 (by omega)]) (fun i _ _ => by rw [zj_ne (by omega)]) (by rw [zj_ne (by omega)]) (by rw [zr_ne (by omega)]; exact Ri 180 (by omega) (by omega) rfl) (by rw [zr_ne (by omega)]; exact R8 3 (by omega) (by omega) (by omega) (by omega) rfl) (by rw [zr_ne (by omega)]; exact Rk 178 7 (Or.inl ⟨rfl, rfl⟩)) (by rw [zr_at]) c14
    · rw [zi_at, if_pos rfl, s4 57 (by omega) rfl, r057]
    · rw [zi_at, if_pos rfl]
    · rw [zi_ne (by omega), zi_ne (by omega), e2 147 (by omega), e2 158 (by omega), R8 5 (by omega) (by omega) (by omega) (by omega) rfl, Ri 186 (by omega) (by omega) rfl]
      exact c16
end ZOI

/-! a text: score, stage, pillars -/
theorem zcp80 {a b : Nat → Int32} {j : Nat} (h : j < 80) : va_cpy a b 0 0 80 j = a j := by
  unfold va_cpy
  rw [if_pos ⟨Nat.zero_le _, by omega⟩, Nat.sub_zero, Nat.zero_add]
theorem zF0_n {f : Nat → Nat → Int32} {i : Nat} (h : ¬ i = 70) : zF0 f i = f i := by unfold zF0; rw [zi_ne h, zi_ne h]
theorem zF0_f {f : Nat → Nat → Int32} : zF0 f 70 7 = 0 ∧ zF0 f 70 8 = -1 := by
  unfold zF0
  exact ⟨by rw [zi_at, if_neg (by omega), zi_at, if_pos rfl], by rw [zi_at, if_pos rfl]⟩
theorem zR0_f {r : Nat → Nat → Int32} : zR0 r 178 31 = 0 ∧ zR0 r 178 32 = -1 ∧ zR0 r 178 7 = r 178 7 := by
  unfold zR0
  refine ⟨?_, ?_, ?_⟩
  · rw [zi_at, if_neg (by omega), zi_at, if_neg (by omega), zi_at, if_neg (by omega), zi_at, if_neg (by omega), zi_at, if_pos rfl]
  · rw [zi_at, if_neg (by omega), zi_at, if_neg (by omega), zi_at, if_neg (by omega), zi_at, if_pos rfl]
  · rw [zi_at, if_neg (by omega), zi_at, if_neg (by omega), zi_at, if_neg (by omega), zi_at, if_neg (by omega), zi_at, if_neg (by omega), zi_at, if_neg (by omega)]
theorem zR0_n {r : Nat → Nat → Int32} {i : Nat} (h : ¬ i = 178) : zR0 r i = r i := by unfold zR0; rw [zi_ne h, zi_ne h, zi_ne h, zi_ne h, zi_ne h, zi_ne h]
/-- a text with a fault -/
theorem tx_fail {f F : Nat → Nat → Int32} {g G : Nat → Nat → Int64} {r R : Nat → Nat → Int32} (hR : zRel f g r) (er : zEr (zF0 f) (zR0 r) F R) (hG : ∀ i k, ¬ (i = 70 ∧ k = 6) → G i k = g i k) : zRel (zuI F 65 5 0) G (zuI (zuI (zuI R 178 31 (R 178 29)) 178 32 (R 178 30)) 178 11 0) := by
  obtain ⟨a1, a2, a3, a4⟩ := er
  refine tx_same hR (fun i hi => ?_) a2 (fun i hi => by rw [zi_ne hi, zi_ne hi, zi_ne hi]) (fun s hs => by rw [zi_at, if_neg (by omega), zi_at, if_neg (by omega), zi_at, if_neg (by omega)]) hG (by rw [zi_at, if_pos rfl]) (by rw [zi_at, if_pos rfl]) ⟨?_, ?_⟩
  · rw [zi_ne (by omega), a1.1 i (by omega), zF0_n (by omega)]
  · rw [zi_ne (by omega), a3, zi_at, if_neg (by omega), zi_at, if_neg (by omega), zi_at, if_pos rfl]
  · rw [zi_ne (by omega), a4, zi_at, if_neg (by omega), zi_at, if_pos rfl]
/-- a text without one, before it is taken over -/
theorem tx_good {f F : Nat → Nat → Int32} {g G : Nat → Nat → Int64} {r R : Nat → Nat → Int32} (hR : zRel f g r) (h1 : zFg (zF0 f) F) (h2 : zFb (zR0 r) R) (hG : ∀ i k, ¬ (i = 70 ∧ k = 6) → G i k = g i k) : zRel (zuI F 65 5 0) G (zuI R 178 11 0) := by
  refine tx_same hR (fun i hi => ?_) h2 (fun i hi => by rw [zi_ne hi]) (fun s hs => by rw [zi_at, if_neg (by omega)]) hG (by rw [zi_at, if_pos rfl]) (by rw [zi_at, if_pos rfl]) ⟨?_, ?_⟩
  · rw [zi_ne (by omega), h1.1 i (by omega), zF0_n (by omega)]
  · rw [zi_ne (by omega), h1.2.2.1, zF0_f.1, zi_at, if_neg (by omega), h2.2.1 31 (by omega), zR0_f.1]
  · rw [zi_ne (by omega), h1.2.2.2, zF0_f.2, zi_at, if_neg (by omega), h2.2.1 32 (by omega), zR0_f.2.1]
/-- a score that is taken over -/
theorem tx_sco {f F : Nat → Nat → Int32} {g : Nat → Nat → Int64} {r R : Nat → Nat → Int32} {k : Nat} (hM : zRel f g r) (h65 : f 65 5 = 0) (h11 : r 178 11 = 0) (hs : zSd f r k)
    (hF : ∀ i, ¬ i = 81 → ¬ i = 20 → ¬ i = 21 → F i = f i) (h81 : F 81 2 = f 81 2 ∧ F 81 3 = 0) (h20 : F 20 1 = f 79 1) (h21 : ∀ j, j < 80 → F 21 j = f 80 j)
    (hr : ∀ i, ¬ i = 178 → ¬ i = 195 → R i = r i) (h8 : ∀ s, ¬ s = 3 → ¬ s = 33 → R 178 s = r 178 s) (h3 : R 178 3 = 0) (h33 : R 178 33 = nI k) (h195 : ∀ j, j < 3 * k → R 195 j = r 195 (48 + j)) : zRel F g R := by
  obtain ⟨⟨c1, c2, c3, c4, c5, c6, c7, c8, c9, c10, c11⟩, c12, c13, c14, c15, c16⟩ := id hM
  obtain ⟨s1, s2, s3⟩ := hs
  refine zRel_tx hM (fun i _ y1 y2 _ _ => hF i y1 (by omega) (by omega)) (fun i y1 y2 => hr i y1 (by omega)) (fun s hs => h8 s (by omega) (by omega)) (fun _ _ _ => rfl) ?_ ⟨k, s2, by rw [h20]; exact s1, h33, fun j hj => ?_⟩ ?_ ⟨?_, ?_⟩ (by rw [hF 65 (by omega) (by omega) (by omega)]; exact h65) (by rw [h8 11 (by omega) (by omega)]; exact h11) (by rw [hF 70 (by omega) (by omega) (by omega), h8 31 (by omega) (by omega), h8 32 (by omega) (by omega)]; exact c13) ?_
  · rw [hF 13 (by omega) (by omega) (by omega), hF 14 (by omega) (by omega) (by omega), hF 15 (by omega) (by omega) (by omega), hF 16 (by omega) (by omega) (by omega), hF 17 (by omega) (by omega) (by omega), hF 18 (by omega) (by omega) (by omega), hr 187 (by omega) (by omega), hr 188 (by omega) (by omega), hr 189 (by omega) (by omega), hr 190 (by omega) (by omega), hr 191 (by omega) (by omega), hr 192 (by omega) (by omega), hr 193 (by omega) (by omega)]
    exact c6
  · rw [h21 (5 * j) (by omega), h21 (5 * j + 2) (by omega), h21 (5 * j + 3) (by omega), h195 (3 * j) (by omega), h195 (3 * j + 1) (by omega), h195 (3 * j + 2) (by omega)]
    exact s3 j hj
  · rw [hF 22 (by omega) (by omega) (by omega), hF 23 (by omega) (by omega) (by omega), h8 35 (by omega) (by omega), h8 7 (by omega) (by omega), hr 196 (by omega) (by omega)]
    exact c8
  · rw [hr 197 (by omega) (by omega)]
    exact c10.1
  · rw [hF 1 (by omega) (by omega) (by omega), h8 37 (by omega) (by omega)]
    exact c10.2
  · obtain ⟨kb, hkb, eb, -⟩ := c11
    exact zPas_nil h81.1 h81.2 h3 (by rw [hF 11 (by omega) (by omega) (by omega)]; exact eb) hkb c14
/-- a stage that is taken over -/
theorem tx_sta {f F : Nat → Nat → Int32} {g : Nat → Nat → Int64} {r R : Nat → Nat → Int32} {k np : Nat} (hM : zRel f g r) (h65 : f 65 5 = 0) (h11 : r 178 11 = 0) (hnp : np ≤ 12) (hr7 : r 178 7 = nI np) (hs : zSg f r np k)
    (hF : ∀ i, ¬ i = 81 → ¬ i = 22 → ¬ i = 23 → F i = f i) (h81 : F 81 2 = f 81 2 ∧ F 81 3 = 0) (h20 : F 22 1 = f 79 1) (h21 : ∀ j, j < 80 → F 23 j = f 80 j)
    (hr : ∀ i, ¬ i = 178 → ¬ i = 196 → R i = r i) (h8 : ∀ s, ¬ s = 3 → ¬ s = 35 → R 178 s = r 178 s) (h3 : R 178 3 = 0) (h33 : R 178 35 = nI k) (h195 : ∀ j, j < 4 * k → R 196 j = r 196 (64 + j)) : zRel F g R := by
  obtain ⟨⟨c1, c2, c3, c4, c5, c6, c7, c8, c9, c10, c11⟩, c12, c13, c14, c15, c16⟩ := id hM
  obtain ⟨s1, s2, s3⟩ := hs
  refine zRel_tx hM (fun i _ y1 y2 _ _ => hF i y1 (by omega) (by omega)) (fun i y1 y2 => hr i y1 (by omega)) (fun s hs => h8 s (by omega) (by omega)) (fun _ _ _ => rfl) ?_ ?_ ⟨k, np, s2, hnp, by rw [h20]; exact s1, h33, by rw [h8 7 (by omega) (by omega)]; exact hr7, fun j hj => ?_⟩ ⟨?_, ?_⟩ (by rw [hF 65 (by omega) (by omega) (by omega)]; exact h65) (by rw [h8 11 (by omega) (by omega)]; exact h11) (by rw [hF 70 (by omega) (by omega) (by omega), h8 31 (by omega) (by omega), h8 32 (by omega) (by omega)]; exact c13) ?_
  · rw [hF 13 (by omega) (by omega) (by omega), hF 14 (by omega) (by omega) (by omega), hF 15 (by omega) (by omega) (by omega), hF 16 (by omega) (by omega) (by omega), hF 17 (by omega) (by omega) (by omega), hF 18 (by omega) (by omega) (by omega), hr 187 (by omega) (by omega), hr 188 (by omega) (by omega), hr 189 (by omega) (by omega), hr 190 (by omega) (by omega), hr 191 (by omega) (by omega), hr 192 (by omega) (by omega), hr 193 (by omega) (by omega)]
    exact c6
  · rw [hF 20 (by omega) (by omega) (by omega), hF 21 (by omega) (by omega) (by omega), h8 33 (by omega) (by omega), hr 195 (by omega) (by omega)]
    exact c7
  · rw [h21 (5 * j) (by omega), h21 (5 * j + 1) (by omega), h21 (5 * j + 2) (by omega), h21 (5 * j + 3) (by omega), h21 (5 * j + 4) (by omega), h195 (4 * j) (by omega), h195 (4 * j + 1) (by omega), h195 (4 * j + 2) (by omega), h195 (4 * j + 3) (by omega)]
    exact s3 j hj
  · rw [hr 197 (by omega) (by omega)]
    exact c10.1
  · rw [hF 1 (by omega) (by omega) (by omega), h8 37 (by omega) (by omega)]
    exact c10.2
  · obtain ⟨kb, hkb, eb, -⟩ := c11
    exact zPas_nil h81.1 h81.2 h3 (by rw [hF 11 (by omega) (by omega) (by omega)]; exact eb) hkb c14
/-- pillars that are taken over -/
theorem tx_pil {f F : Nat → Nat → Int32} {g G : Nat → Nat → Int64} {r R : Nat → Nat → Int32} {k : Nat} (hM : zRel f g r) (h65 : f 65 5 = 0) (h11 : r 178 11 = 0) (hs : zPd g r)
    (hF : ∀ i, ¬ i = 81 → ¬ i = 1 → F i = f i) (h81 : F 81 2 = f 81 2 ∧ F 81 3 = 0) (h1 : F 1 10 = nI k) (hG : ∀ i, ¬ i = 2 → G i = g i) (h2 : G 2 12 = g 70 6)
    (hr : ∀ i, ¬ i = 178 → ¬ i = 197 → R i = r i) (h8 : ∀ s, ¬ s = 3 → ¬ s = 37 → R 178 s = r 178 s) (h3 : R 178 3 = 0) (h33 : R 178 37 = nI k) (h195 : ∀ j, j < 48 → R 197 j = r 197 (48 + j)) : zRel F G R := by
  obtain ⟨⟨c1, c2, c3, c4, c5, c6, c7, c8, c9, c10, c11⟩, c12, c13, c14, c15, c16⟩ := id hM
  obtain ⟨P, s1, s2, s3⟩ := hs
  refine zRel_tx hM (fun i _ y1 y2 y3 _ => hF i y1 y3) (fun i y1 y2 => hr i y1 (by omega)) (fun s hs => h8 s (by omega) (by omega)) (fun i _ y => hG i y) ?_ ?_ ?_ ⟨⟨P, s1, by rw [h2]; exact s2, fun j hj => by rw [h195 j hj]; exact s3 j hj⟩, by rw [h1, h33]⟩ (by rw [hF 65 (by omega) (by omega)]; exact h65) (by rw [h8 11 (by omega) (by omega)]; exact h11) (by rw [hF 70 (by omega) (by omega), h8 31 (by omega) (by omega), h8 32 (by omega) (by omega)]; exact c13) ?_
  · rw [hF 13 (by omega) (by omega), hF 14 (by omega) (by omega), hF 15 (by omega) (by omega), hF 16 (by omega) (by omega), hF 17 (by omega) (by omega), hF 18 (by omega) (by omega), hr 187 (by omega) (by omega), hr 188 (by omega) (by omega), hr 189 (by omega) (by omega), hr 190 (by omega) (by omega), hr 191 (by omega) (by omega), hr 192 (by omega) (by omega), hr 193 (by omega) (by omega)]
    exact c6
  · rw [hF 20 (by omega) (by omega), hF 21 (by omega) (by omega), h8 33 (by omega) (by omega), hr 195 (by omega) (by omega)]
    exact c7
  · rw [hF 22 (by omega) (by omega), hF 23 (by omega) (by omega), h8 35 (by omega) (by omega), h8 7 (by omega) (by omega), hr 196 (by omega) (by omega)]
    exact c8
  · obtain ⟨kb, hkb, eb, -⟩ := c11
    exact zPas_nil h81.1 h81.2 h3 (by rw [hF 11 (by omega) (by omega)]; exact eb) hkb c14

/-! a text that changes nothing; a sheet that is taken over -/
theorem tx_same {f F : Nat → Nat → Int32} {g G : Nat → Nat → Int64} {r R : Nat → Nat → Int32} (hR : zRel f g r) (hF : ∀ i, ¬ (65 ≤ i ∧ i ≤ 80) → F i = f i) (hb : zFb (zR0 r) R) {S : Nat → Nat → Int32} (hS : ∀ i, ¬ i = 178 → S i = R i) (hS8 : ∀ s, (s < 11 ∨ 33 ≤ s) → S 178 s = R 178 s) (hG : ∀ i k, ¬ (i = 70 ∧ k = 6) → G i k = g i k) (ta : F 65 5 = 0) (tb : S 178 11 = 0) (fa : F 70 7 = S 178 31 ∧ F 70 8 = S 178 32) : zRel F G S := by
  obtain ⟨⟨c1, c2, c3, c4, c5, c6, c7, c8, c9, c10, c11⟩, c12, c13, c14, c15, c16⟩ := id hR
  obtain ⟨b1, b2, b3, b4, b5, b6, b7⟩ := hb
  have r0 : ∀ i, ¬ i = 178 → zR0 r i = r i := fun i y => by unfold zR0; rw [zi_ne y, zi_ne y, zi_ne y, zi_ne y, zi_ne y, zi_ne y]
  have r8 : ∀ s, ¬ s = 0 → (s < 11 ∨ 33 ≤ s) → S 178 s = r 178 s := fun s s0 hs => by
    rw [hS8 s hs, b2 s (by omega)]
    unfold zR0
    rw [zi_at, if_neg (by omega), zi_at, if_neg (by omega), zi_at, if_neg (by omega), zi_at, if_neg (by omega), zi_at, if_neg (by omega), zi_at, if_neg s0]
  have h1 : ∀ i, ¬ i = 178 → ¬ (188 ≤ i ∧ i ≤ 197) → S i = r i := fun i y1 y2 => by rw [hS i y1, b1 i y1 y2, r0 i y1]
  have h3 : ∀ i, 188 ≤ i → i ≤ 191 → ∀ j, j < 16 → S i j = r i j := fun i y1 y2 j hj => by rw [hS i (by omega), b3 i y1 y2 j (by omega), r0 i (by omega)]
  have h4 : ∀ i, 192 ≤ i → i ≤ 193 → ∀ j, j < 400 → S i j = r i j := fun i y1 y2 j hj => by rw [hS i (by omega), b4 i y1 y2 j (by omega), r0 i (by omega)]
  have hGi : ∀ i, ¬ i = 70 → G i = g i := fun i hi => funext (fun k => hG i k (fun z => hi z.1))
  refine zRel_tx hR (fun i y1 _ _ _ _ => hF i y1) (fun i y1 y2 => h1 i y1 (by omega)) (fun s hs => r8 s (by omega) (by omega)) (fun i y1 _ => hGi i y1) ?_ ?_ ?_ ⟨?_, ?_⟩ ta tb fa ?_
  · rw [hF 13 (by omega), hF 14 (by omega), hF 15 (by omega), hF 16 (by omega), hF 17 (by omega), hF 18 (by omega), h1 187 (by omega) (by omega)]
    exact zLaw_congr (fun _ _ => rfl) (fun _ _ => rfl) (fun _ _ => rfl) (fun _ _ => rfl) (fun _ _ => rfl) (h3 188 (by omega) (by omega)) (h3 189 (by omega) (by omega)) (h3 190 (by omega) (by omega)) (h3 191 (by omega) (by omega)) (h4 192 (by omega) (by omega)) (h4 193 (by omega) (by omega)) c6
  · rw [hF 20 (by omega), hF 21 (by omega), r8 33 (by omega) (by omega)]
    exact zSco_congr (fun _ _ => rfl) (fun j hj => by rw [hS 195 (by omega), b5 j hj, r0 195 (by omega)]) c7
  · rw [hF 22 (by omega), hF 23 (by omega), r8 35 (by omega) (by omega), r8 7 (by omega) (by omega)]
    exact zSta_congr (fun _ _ => rfl) (fun j hj => by rw [hS 196 (by omega), b6 j hj, r0 196 (by omega)]) c8
  · rw [hG 2 12 (by omega)]
    exact zPil_congr (fun j hj => by rw [hS 197 (by omega), b7 j hj, r0 197 (by omega)]) c10.1
  · rw [hF 1 (by omega), r8 37 (by omega) (by omega)]
    exact c10.2
  · exact zPas_frame (fun i _ _ => hF i (by omega)) (by rw [hF 11 (by omega)]) (fun i _ _ => hG i 12 (by omega)) (hG 2 12 (by omega)) (h1 180 (by omega) (by omega)) (r8 3 (by omega) (by omega)) (r8 7 (by omega) (by omega)) (h1 183 (by omega) (by omega)) c14
section ZSI
variable {X : Nat × (Nat → Int32)} {d : Nat} {g : Nat → Nat → Int64} {K : (Nat → Nat → Int32) → (Nat → Nat → Int64) → Prop}
theorem s207e {R : Nat → Nat → Int32} {k : Nat} {x : Int32} (hk : k ≤ 16) (hx : x = 1 ∨ x = 2) (hK : K (zuI (zuI R 178 (if x = 1 then 33 else 35) (nI k)) 178 3 0) g) : zWp X (d + 0) zm207 72 [.ref 178, .int x, .int (nI k), .int 0] [] (zs R g) (zQv K) := by
  apply s207_72_178
  rw [if_neg (show ¬ (48 : Int32) ≤ 0 by decide)]
  rcases hx with rfl | rfl
  · rw [if_pos rfl] at hK
    rw [if_neg (show ¬ (1 : Int32) = 3 by decide), if_pos rfl, if_neg (show ¬ (1 : Int32) = 2 by decide), if_neg (show ¬ (1 : Int32) = 3 by decide)]
    exact hK
  · rw [if_neg (by decide)] at hK
    rw [if_neg (show ¬ (2 : Int32) = 3 by decide), if_neg (show ¬ (2 : Int32) = 1 by decide), if_pos rfl, if_neg (show ¬ (2 : Int32) = 3 by decide)]
    exact hK
theorem s207m {R : Nat → Nat → Int32} {k : Nat} {x : Int32} (hx : ¬ x = 2) (hK : zWp X (d + 0) zm207 72 [.ref 178, .int x, .int (nI k), .int 0] [] (zs R g) (zQv K)) : zWp X (d + 0) zm207 37 [.ref 178, .int x, .int (nI k), .int 0] [] (zs R g) (zQv K) := by
  apply s207_37_178
  rw [if_neg hx]
  split
  · exact hK
  · exact hK
theorem s207b {R : Nat → Nat → Int32} {k : Nat} {x : Int32} (hx : ¬ x = 1) (hK : zWp X (d + 0) zm207 37 [.ref 178, .int x, .int (nI k), .int 0] [] (zs R g) (zQv K)) : zWp X (d + 0) zm207 2 [.ref 178, .int x, .int (nI k), .int 0] [] (zs R g) (zQv K) := by
  apply s207_2_178
  rw [if_neg hx]
  split
  · exact hK
  · exact hK
theorem l207a {k : Nat} (hk : k ≤ 16) : ∀ (m i : Nat) {R : Nat → Nat → Int32}, i + m = 3 * k → (∀ S : Nat → Nat → Int32, (∀ a, ¬ a = 195 → S a = R a) → (∀ j, S 195 j = if i ≤ j ∧ j < 3 * k then R 195 (48 + j) else R 195 j) → zWp X (d + 0) zm207 37 [.ref 178, .int 1, .int (nI k), .int 0] [] (zs S g) (zQv K)) → zWp X (d + 0) zm207 2 [.ref 178, .int 1, .int (nI k), .int (nI i)] [] (zs R g) (zQv K) := by
  intro m
  have em : zmO.1 3 (nI k) = nI (3 * k) := by rw [zmO.2, show (3 : Int32) = nI 3 from rfl, pk_mul]
  induction m with
  | zero =>
    intro i R hi hK
    apply s207_2_178
    rw [em, if_pos (nI_le (by omega) (by omega))]
    exact hK R (fun _ _ => rfl) (fun j => by rw [if_neg (by omega)])
  | succ m ih =>
    intro i R hi hK
    apply s207_2_178
    have eb : (48 : Int32) + nI i = nI (48 + i) := nI_add 48 i
    rw [em, if_neg (nI_ge (by omega) (by omega)), if_pos rfl, eb, if_neg (nI_in (by omega) (by omega)), if_neg (nI_in (by omega) (by omega)), nI_cl (by omega), nI_cl (by omega), nI_1]
    refine ih (i + 1) (by omega) (fun S s1 s2 => hK S (fun a ha => by rw [s1 a ha, zi_ne ha]) (fun j => ?_))
    rw [s2, zi_at, zi_at]
    by_cases ej : j = i
    · subst ej
      rw [if_neg (by omega), if_pos rfl, if_pos (by omega)]
    · by_cases e2 : i + 1 ≤ j ∧ j < 3 * k
      · rw [if_pos e2, if_neg (by omega), if_pos (by omega)]
      · rw [if_neg e2, if_neg ej, if_neg (by omega)]
theorem l207b {k : Nat} (hk : k ≤ 16) : ∀ (m i : Nat) {R : Nat → Nat → Int32}, i + m = 4 * k → (∀ S : Nat → Nat → Int32, (∀ a, ¬ a = 196 → S a = R a) → (∀ j, S 196 j = if i ≤ j ∧ j < 4 * k then R 196 (64 + j) else R 196 j) → zWp X (d + 0) zm207 72 [.ref 178, .int 2, .int (nI k), .int 0] [] (zs S g) (zQv K)) → zWp X (d + 0) zm207 37 [.ref 178, .int 2, .int (nI k), .int (nI i)] [] (zs R g) (zQv K) := by
  intro m
  have em : zmO.1 4 (nI k) = nI (4 * k) := by rw [zmO.2, show (4 : Int32) = nI 4 from rfl, pk_mul]
  induction m with
  | zero =>
    intro i R hi hK
    apply s207_37_178
    rw [em, if_pos (nI_le (by omega) (by omega))]
    exact hK R (fun _ _ => rfl) (fun j => by rw [if_neg (by omega)])
  | succ m ih =>
    intro i R hi hK
    apply s207_37_178
    have eb : (64 : Int32) + nI i = nI (64 + i) := nI_add 64 i
    rw [em, if_neg (nI_ge (by omega) (by omega)), if_pos rfl, eb, if_neg (nI_in (by omega) (by omega)), if_neg (nI_in (by omega) (by omega)), nI_cl (by omega), nI_cl (by omega), nI_1]
    refine ih (i + 1) (by omega) (fun S s1 s2 => hK S (fun a ha => by rw [s1 a ha, zi_ne ha]) (fun j => ?_))
    rw [s2, zi_at, zi_at]
    by_cases ej : j = i
    · subst ej
      rw [if_neg (by omega), if_pos rfl, if_pos (by omega)]
    · by_cases e2 : i + 1 ≤ j ∧ j < 4 * k
      · rw [if_pos e2, if_neg (by omega), if_pos (by omega)]
      · rw [if_neg e2, if_neg ej, if_neg (by omega)]
theorem l207c {k : Nat} (hk : k ≤ 16) : ∀ (m i : Nat) {R : Nat → Nat → Int32}, i + m = 48 → (∀ S : Nat → Nat → Int32, (∀ a, ¬ a = 197 → S a = R a) → (∀ j, S 197 j = if i ≤ j ∧ j < 48 then R 197 (48 + j) else R 197 j) → K (zuI (zuI S 178 37 (nI k)) 178 3 0) g) → zWp X (d + 0) zm207 72 [.ref 178, .int 3, .int (nI k), .int (nI i)] [] (zs R g) (zQv K) := by
  intro m
  induction m with
  | zero =>
    intro i R hi hK
    apply s207_72_178
    rw [if_pos (show (48 : Int32) ≤ nI i from nI_le (a := 48) (by omega) (by omega)), if_neg (show ¬ (3 : Int32) = 1 by decide), if_neg (show ¬ (3 : Int32) = 2 by decide), if_pos rfl]
    exact hK R (fun _ _ => rfl) (fun j => by rw [if_neg (by omega)])
  | succ m ih =>
    intro i R hi hK
    apply s207_72_178
    have eb : (48 : Int32) + nI i = nI (48 + i) := nI_add 48 i
    rw [if_neg (show ¬ (48 : Int32) ≤ nI i from nI_ge (b := 48) (by omega) (by omega)), if_pos rfl, eb, if_neg (nI_in (by omega) (by omega)), if_neg (nI_in (by omega) (by omega)), nI_cl (by omega), nI_cl (by omega), nI_1]
    refine ih (i + 1) (by omega) (fun S s1 s2 => hK S (fun a ha => by rw [s1 a ha, zi_ne ha]) (fun j => ?_))
    rw [s2, zi_at, zi_at]
    by_cases ej : j = i
    · subst ej
      rw [if_neg (by omega), if_pos rfl, if_pos (by omega)]
    · by_cases e2 : i + 1 ≤ j ∧ j < 48
      · rw [if_pos e2, if_neg (by omega), if_pos (by omega)]
      · rw [if_neg e2, if_neg ej, if_neg (by omega)]
end ZSI

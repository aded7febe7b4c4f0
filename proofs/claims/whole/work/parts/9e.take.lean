/-! a law that is taken over -/
section ZTK
variable {X : Nat × (Nat → Int32)} {d : Nat} {g : Nat → Nat → Int64} {K : (Nat → Nat → Int32) → (Nat → Nat → Int64) → Prop}
theorem zmz {a : Int32} {i : Nat} : zmO.1 a 0 + nI i = nI i := by rw [zmO.2, Int32.mul_zero, Int32.zero_add]
theorem l206a {l : Nat} (hl : l ≤ 16) : ∀ (m i : Nat) {R : Nat → Nat → Int32}, i + m = l → R 178 24 = 0 → (∀ S : Nat → Nat → Int32, (∀ a, ¬ (188 ≤ a ∧ a ≤ 191) → S a = R a) → (∀ a, 188 ≤ a → a ≤ 191 → ∀ q, S a q = if i ≤ q ∧ q < l then R a (32 + q) else R a q) → zWp X (d + 0) zm206 107 [.ref 178, .int (nI l), .int 0] [] (zs S g) (zQv K)) → zWp X (d + 0) zm206 2 [.ref 178, .int (nI l), .int (nI i)] [] (zs R g) (zQv K) := by
  intro m
  induction m with
  | zero =>
    intro i R hi h24 hK
    apply s206_2_178
    rw [if_pos (nI_le (by omega) (by omega))]
    exact hK R (fun _ _ => rfl) (fun a _ _ q => by rw [if_neg (by omega)])
  | succ m ih =>
    intro i R hi h24 hK
    apply s206_2_178
    have eb : (32 : Int32) + nI i = nI (32 + i) := nI_add 32 i
    rw [if_neg (nI_ge (by omega) (by omega)), h24, zmz, eb, nI_cl (k := 32 + i) (by omega), nI_cl (k := i) (by omega), if_neg (nI_in' (by omega) (by omega)), if_neg (nI_in' (by omega) (by omega)), if_neg (nI_in' (by omega) (by omega)), if_neg (nI_in' (by omega) (by omega)), if_neg (nI_in' (by omega) (by omega)), if_neg (nI_in' (by omega) (by omega)), if_neg (nI_in' (by omega) (by omega)), if_neg (nI_in' (by omega) (by omega)), nI_1]
    refine ih (i + 1) (by omega) (by rw [zi_ne (by omega), zi_ne (by omega), zi_ne (by omega), zi_ne (by omega)]; exact h24) (fun S s1 s2 => hK S (fun a ha => by rw [s1 a ha, zi_ne (by omega), zi_ne (by omega), zi_ne (by omega), zi_ne (by omega)]) (fun a a1 a2 q => ?_))
    have hz : ∀ x, zuI (zuI (zuI (zuI R 188 i (R 188 (32 + i))) 189 i (R 189 (32 + i))) 190 i (R 190 (32 + i))) 191 i (R 191 (32 + i)) a x = if x = i then R a (32 + i) else R a x := fun x => by
      rcases (show a = 188 ∨ a = 189 ∨ a = 190 ∨ a = 191 by omega) with rfl | rfl | rfl | rfl
      · rw [zi_ne (by omega), zi_ne (by omega), zi_ne (by omega), zi_at]
      · rw [zi_ne (by omega), zi_ne (by omega), zi_at, zi_ne (by omega)]
      · rw [zi_ne (by omega), zi_at, zi_ne (by omega), zi_ne (by omega)]
      · rw [zi_at, zi_ne (by omega), zi_ne (by omega), zi_ne (by omega)]
    rw [s2 a a1 a2, hz, hz]
    by_cases ej : q = i
    · subst ej
      rw [if_neg (by omega), if_pos rfl, if_pos (by omega)]
    · by_cases e2 : i + 1 ≤ q ∧ q < l
      · rw [if_pos e2, if_neg (by omega), if_pos (by omega)]
      · rw [if_neg e2, if_neg ej, if_neg (by omega)]
theorem l206b {l c : Nat} (hc : c ≤ 400) : ∀ (m i : Nat) {R : Nat → Nat → Int32}, i + m = c → R 178 24 = 0 → R 178 25 = nI c → (∀ S : Nat → Nat → Int32, (∀ a, ¬ (192 ≤ a ∧ a ≤ 193) → S a = R a) → (∀ a, 192 ≤ a → a ≤ 193 → ∀ q, S a q = if i ≤ q ∧ q < c then R a (800 + q) else R a q) → K (zuI S 187 0 (nI l)) g) → zWp X (d + 0) zm206 107 [.ref 178, .int (nI l), .int (nI i)] [] (zs R g) (zQv K) := by
  intro m
  have z0 : (0 : Int32).toNatClampNeg = 0 := by decide
  induction m with
  | zero =>
    intro i R hi h24 h25 hK
    apply s206_107_178
    rw [h25, if_pos (nI_le (by omega) (by omega)), h24, if_neg (by decide), z0]
    exact hK R (fun _ _ => rfl) (fun a _ _ q => by rw [if_neg (by omega)])
  | succ m ih =>
    intro i R hi h24 h25 hK
    apply s206_107_178
    have eb : (800 : Int32) + nI i = nI (800 + i) := nI_add 800 i
    rw [h25, if_neg (nI_ge (by omega) (by omega)), h24, zmz, eb, nI_cl (k := 800 + i) (by omega), nI_cl (k := i) (by omega), if_neg (nI_in' (by omega) (by omega)), if_neg (nI_in' (by omega) (by omega)), if_neg (nI_in' (by omega) (by omega)), if_neg (nI_in' (by omega) (by omega)), nI_1]
    refine ih (i + 1) (by omega) (by rw [zi_ne (by omega), zi_ne (by omega)]; exact h24) (by rw [zi_ne (by omega), zi_ne (by omega)]; exact h25) (fun S s1 s2 => hK S (fun a ha => by rw [s1 a ha, zi_ne (by omega), zi_ne (by omega)]) (fun a a1 a2 q => ?_))
    have hz : ∀ x, zuI (zuI R 192 i (R 192 (800 + i))) 193 i (R 193 (800 + i)) a x = if x = i then R a (800 + i) else R a x := fun x => by
      rcases (show a = 192 ∨ a = 193 by omega) with rfl | rfl
      · rw [zi_ne (by omega), zi_at]
      · rw [zi_at, zi_ne (by omega)]
    rw [s2 a a1 a2, hz, hz]
    by_cases ej : q = i
    · subst ej
      rw [if_neg (by omega), if_pos rfl, if_pos (by omega)]
    · by_cases e2 : i + 1 ≤ q ∧ q < c
      · rw [if_pos e2, if_neg (by omega), if_pos (by omega)]
      · rw [if_neg e2, if_neg ej, if_neg (by omega)]
end ZTK

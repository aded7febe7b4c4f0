/-! a law's line -/
def zLd (F R : Nat → Nat → Int32) (l c : Nat) : Prop := F 72 7 = nI l ∧ l ≤ 16 ∧ ∀ q, q < l → ∃ w a b' e' : Nat, w < 3 ∧ a ≤ b' ∧ b' ≤ e' ∧ e' ≤ c ∧ F 74 q = nI (128 + w) ∧ R 188 (32 + q) = nI w ∧ F 75 q = nI a ∧ R 189 (32 + q) = nI a ∧ F 76 q = nI b' ∧ R 190 (32 + q) = nI b' ∧ F 77 q = nI e' ∧ R 191 (32 + q) = nI e' ∧ zTyp (F 73) a (b' - a) [] = some [false] ∧ (b' = e' ∨ zTyp (F 73) b' (e' - b') [] = some [true])
theorem zCs_V {F R : Nat → Nat → Int32} {c i s : Nat} {x : Int32} (h : zCs F R c) (hi : 188 ≤ i ∧ i ≤ 191) : zCs F (zuI R i s x) c := ⟨h.1, by rw [zi_ne (by omega)]; exact h.2.1, fun k hk => by rw [zi_ne (by omega), zi_ne (by omega)]; exact h.2.2 k hk⟩
theorem zCs_F {F G R : Nat → Nat → Int32} {c : Nat} (h : zCs F R c) (h1 : G 72 6 = F 72 6) (h2 : G 73 = F 73) : zCs G R c := ⟨by rw [h1]; exact h.1, h.2.1, fun k hk => by rw [h2]; exact h.2.2 k hk⟩
section ZLN
variable {X : Nat × (Nat → Int32)} {d e : Nat} {f r F R : Nat → Nat → Int32} {g gr : Nat → Nat → Int64} {b : Nat → Nat} {n N j c : Nat}
theorem q196y {w : Nat} {K : Int32 → (Nat → Nat → Int32) → (Nat → Nat → Int64) → Prop} (h : zRk R b n N j) (hw : w < 3) (hk : zKn b n N j = 128 + w) : zCpi X (d + 2) 196 [.ref 178] (zs R g) K = K 1 R g := by
  refine zCpi_eq (fun K hK => e196_178 ?_)
  have z := (zRk_word (w := w) (by omega) h).mpr hk
  rw [if_pos z.1, z.2, q165, if_neg (by rw [zb_0, nI_ti (by omega)]; exact fun y => y ⟨by rw [show (0 : Int32).toInt = 0 from rfl]; omega, by rw [show (2 : Int32).toInt = 2 from rfl]; omega⟩), if_pos (Or.inr rfl)]
  exact hK
theorem q196n {K : Int32 → (Nat → Nat → Int32) → (Nat → Nat → Int64) → Prop} (h : zRk R b n N j) (hk : ¬ (128 ≤ zKn b n N j ∧ zKn b n N j ≤ 130)) : zCpi X (d + 2) 196 [.ref 178] (zs R g) K = K 0 R g := by
  refine zCpi_eq (fun K hK => e196_178 ?_)
  by_cases h2 : R 178 14 = 2
  · have hin : ¬ ((0 : Int32).toInt ≤ (R 178 15).toInt ∧ (R 178 15).toInt ≤ (2 : Int32).toInt) := fun z => by
      have e0 : (0 : Int32).toInt = 0 := rfl
      have e2 : (2 : Int32).toInt = 2 := rfl
      have ew : R 178 15 = nI (R 178 15).toInt.toNat := by
        apply Int32.toInt_inj.mp
        rw [nI_toInt (by omega)]
        omega
      have := zRk_word (w := (R 178 15).toInt.toNat) (by omega) h
      rw [← ew] at this
      have z3 := this.mp ⟨h2, rfl⟩
      omega
    rw [if_pos h2, q165, if_pos (by rw [zb_0]; exact hin), if_pos (Or.inl rfl)]
    exact hK
  · rw [if_neg h2, if_pos (Or.inl rfl)]
    exact hK
/-- the mark at the line's end -/
theorem le_j {l c : Nat} (h : zJ f r b n N F R j) (hs : zCs F R c) :
    (∃ R', (∀ K : Int32 → (Nat → Nat → Int32) → (Nat → Nat → Int64) → Prop, K 1 (zuI F 70 3 (nI (j + 1))) g → zCpi X (d + 2) 57 [.ref 70, .int 59] (zs F g) (fun v18 f16 g17 => if v18 = 0 ∨ v18 = 1 then (K v18 f16 g17) else False)) ∧ (∀ K : Int32 → (Nat → Nat → Int32) → (Nat → Nat → Int64) → Prop, zWp X (e + 9) zm195 2 [.ref 178, .int (nI (l + 1)), .null] [] (zs R' gr) (zQi K) → zCpi X (e + 9) 188 [.ref 178, .int 59] (zs R gr) (fun v20 f18 g19 => if v20 = 0 then (zCpi X (e + 9) 183 [.ref 178, .int 1] (zs f18 g19) (fun v23 f21 g22 => K v23 f21 g22)) else (zCpv X (e + 9) 175 [.ref 178] (zs f18 g19) (fun f24 g25 => zWp X (e + 9) zm195 2 [.ref 178, .int (nI l + 1), .null] [] (zs f24 g25) (zQi K))))) ∧ zJ f r b n N (zuI F 70 3 (nI (j + 1))) R' (j + 1) ∧ zCs (zuI F 70 3 (nI (j + 1))) R' c ∧ zFk R R') ∨
    (∃ F' R', (∀ K : Int32 → (Nat → Nat → Int32) → (Nat → Nat → Int64) → Prop, K 0 F' g → zCpi X (d + 2) 57 [.ref 70, .int 59] (zs F g) (fun v18 f16 g17 => if v18 = 0 ∨ v18 = 1 then (K v18 f16 g17) else False)) ∧ (∀ K : Int32 → (Nat → Nat → Int32) → (Nat → Nat → Int64) → Prop, K (-1) R' gr → zCpi X (e + 9) 188 [.ref 178, .int 59] (zs R gr) (fun v20 f18 g19 => if v20 = 0 then (zCpi X (e + 9) 183 [.ref 178, .int 1] (zs f18 g19) (fun v23 f21 g22 => K v23 f21 g22)) else (zCpv X (e + 9) 175 [.ref 178] (zs f18 g19) (fun f24 g25 => zWp X (e + 9) zm195 2 [.ref 178, .int (nI l + 1), .null] [] (zs f24 g25) (zQi K))))) ∧ zEr f r F' R') := by
  have x7 := h.2.2.2.2.2.2.1
  by_cases k : zKn b n N j = 59
  · have hj := zKn_lt (by omega) k
    obtain ⟨S, w1, w2, w3, w4, w5⟩ := jn (X := X) (d := e + 5) (g := gr) h hs hj
    refine Or.inl ⟨S, fun K hK => ?_, fun K hK => ?_, w2, w3, w5⟩
    · rw [show (59 : Int32) = nI 59 from rfl, q57 h (by omega), if_pos k, if_pos (Or.inr rfl)]
      exact hK
    · rw [show (59 : Int32) = nI 59 from rfl, q188 (by decide) x7, if_neg (by rw [zb_0]; exact fun z => z k), w1, nI_1]
      exact hK
  · refine Or.inr ⟨_, _, fun K hK => ?_, fun K hK => ?_, zJ_er (c := 1) h⟩
    · rw [show (59 : Int32) = nI 59 from rfl, q57 h (by omega), if_neg k, if_pos (Or.inl rfl)]
      exact hK
    · rw [show (59 : Int32) = nI 59 from rfl, q188 (by decide) x7, if_pos (by rw [zb_0]; exact k), q183]
      exact hK
end ZLN

/-! a whole condition -/
section ZCN
variable {X : Nat × (Nat → Int32)} {d e : Nat} {f r F R : Nat → Nat → Int32} {g gr : Nat → Nat → Int64} {b : Nat → Nat} {n N j c : Nat}
theorem ce_all (m : Nat) : zCla X e f r g gr b n N m ∧ zEit X e f r g gr b n N m := by
  induction m using Nat.strongRecOn with
  | ind m ih =>
    have h1 := cl_step (X := X) (e := e) (f := f) (r := r) (g := g) (gr := gr) (b := b) (n := n) (N := N) (m := m) (fun m' hm' => (ih m' hm').1) (fun m' hm' => (ih m' hm').2)
    exact ⟨h1, ei_step h1 (fun m' hm' => (ih m' hm').2)⟩
theorem cd_j (h : zJ f r b n N F R j) (hs : zCs F R c) (hcj : c ≤ j) (h26 : R 178 26 = 0) :
    (∃ F' R' j' c', (∀ K : Int32 → (Nat → Nat → Int32) → (Nat → Nat → Int64) → Prop, K 1 F' g → zCpi X (d + 21) 55 [.ref 70, .int 0] (zs F g) K) ∧ (∀ K : Int32 → (Nat → Nat → Int32) → (Nat → Nat → Int64) → Prop, K 0 R' gr → zCpi X (e + 9) 202 [.ref 178] (zs R gr) K) ∧ zJ f r b n N F' R' j' ∧ zCs F' R' c' ∧ zLg F F' c ∧ zLh R R' 0 ∧ R' 178 26 = 0 ∧ c ≤ c' ∧ j < j' ∧ c' + j ≤ c + j' ∧ zTyp (F' 73) c (c' - c) [] = some [true]) ∨
    (∃ F' R', (∀ K : Int32 → (Nat → Nat → Int32) → (Nat → Nat → Int64) → Prop, K 0 F' g → zCpi X (d + 21) 55 [.ref 70, .int 0] (zs F g) K) ∧ (∀ K : Int32 → (Nat → Nat → Int32) → (Nat → Nat → Int64) → Prop, K (-1) R' gr → zCpi X (e + 9) 202 [.ref 178] (zs R gr) K) ∧ zEr f r F' R') := by
  rcases (ce_all (X := X) (e := e) (f := f) (r := r) (g := g) (gr := gr) (b := b) (n := n) (N := N) (N - j)).2 d 0 0 0 0 1 1 c F (zuI R 178 28 0) j c (Nat.le_refl _) (by omega) (by omega) (Or.inr rfl) (Or.inr rfl) (zJ_T h (by omega) (by omega)) (zCs_T hs (by omega)) (by omega) (Or.inr rfl) (Nat.le_refl _) (fun s _ => by rw [Nat.sub_self]; rfl) (by rw [zi_at, if_pos rfl]; rfl) (by rw [zi_at, if_neg (by omega)]; exact h26) (fun z => absurd z (by decide)) (fun z => absurd z (by decide)) (Or.inl rfl) (by omega) with ⟨F', R', j', c', cl, rl, y1, y2, y3, y4, y5, y6, y7, y8, y9, y10⟩ | ⟨F', R', cl, rl, er⟩
  · refine Or.inl ⟨F', R', j', c', fun K hK => e55_70 (cl K hK), fun K hK => e202_178 (rl K ?_), y1, y2, y3, zLh_tr (zLh_T (s := 28) (Or.inr rfl)) y4 (Nat.le_refl _), y6, y7, y8, by omega, y10 [] (by decide)⟩
    unfold zEn
    rw [if_pos (show nI 0 = (0 : Int32) from rfl)]
    exact hK
  · exact Or.inr ⟨F', R', fun K hK => e55_70 (cl K hK), fun K hK => e202_178 (rl K hK), er⟩
end ZCN

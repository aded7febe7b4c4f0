/-! image: the reference's side -/
def zxi (i k : Nat) : Nat :=
  if i = 179 then k else if i = 178 then (if k = 7 then 76 else if k = 33 then 77 else if k = 35 then 78 else if k = 37 then 79 else if k = 44 then 80 else if k = 46 then 81 else if k = 49 then 82 else 83)
  else if i = 183 then 84 + 3 * k else if i = 203 then 85 + 3 * k else if i = 204 then 86 + 3 * k else if i = 195 then 120 + 2 * k else if i = 197 then 121 + 2 * k else if i = 196 then 216 + k else if i = 201 then 280 + k else if i = 206 then 316 + k else if i = 208 then 326 + k else if i = 184 then 342 + k else if i = 187 then 942 else if i = 188 then 943 + 4 * k else if i = 189 then 944 + 4 * k else if i = 190 then 945 + 4 * k else if i = 191 then 946 + 4 * k else if i = 192 then 1007 + 2 * k else 1008 + 2 * k
theorem zImg_ix {im : Nat → Int32} {i k : Nat} : zImg im i k = im (zxi i k) := by
  unfold zImg zxi
  simp only [apply_ite im]
/-- which number lies at a place -/
def zcel (p : Nat) : Nat × Nat := if p < 76 then (179, p) else if p < 84 then (178, [7, 33, 35, 37, 44, 46, 49, 52].getD (p - 76) 0) else if p < 120 then ([183, 203, 204].getD ((p - 84) % 3) 0, (p - 84) / 3) else if p < 216 then ([195, 197].getD ((p - 120) % 2) 0, (p - 120) / 2) else if p < 280 then (196, p - 216) else if p < 316 then (201, p - 280) else if p < 326 then (206, p - 316) else if p < 342 then (208, p - 326) else if p < 942 then (184, p - 342) else if p = 942 then (187, 0) else if p < 1007 then ([188, 189, 190, 191].getD ((p - 943) % 4) 0, (p - 943) / 4) else ([192, 193].getD ((p - 1007) % 2) 0, (p - 1007) / 2)
theorem zcel_179 {k : Nat} (h : k < 76) : zcel (zxi 179 k) = (179, k) ∧ zxi 179 k < 1807 := by
  have e : zxi 179 k = k := rfl
  rw [e]
  refine ⟨?_, by omega⟩
  unfold zcel
  rw [if_pos (by omega)]
theorem zcel_183 {k : Nat} (h : k < 12) : zcel (zxi 183 k) = (183, k) ∧ zxi 183 k < 1807 := by
  have e : zxi 183 k = 84 + 3 * k := rfl
  rw [e]
  refine ⟨?_, by omega⟩
  unfold zcel
  rw [if_neg (by omega), if_neg (by omega), if_pos (by omega)]
  rw [show (84 + 3 * k - 84) % 3 = 0 by omega, show (84 + 3 * k - 84) / 3 = k by omega]
  rfl
theorem zcel_203 {k : Nat} (h : k < 12) : zcel (zxi 203 k) = (203, k) ∧ zxi 203 k < 1807 := by
  have e : zxi 203 k = 85 + 3 * k := rfl
  rw [e]
  refine ⟨?_, by omega⟩
  unfold zcel
  rw [if_neg (by omega), if_neg (by omega), if_pos (by omega)]
  rw [show (85 + 3 * k - 84) % 3 = 1 by omega, show (85 + 3 * k - 84) / 3 = k by omega]
  rfl
theorem zcel_204 {k : Nat} (h : k < 12) : zcel (zxi 204 k) = (204, k) ∧ zxi 204 k < 1807 := by
  have e : zxi 204 k = 86 + 3 * k := rfl
  rw [e]
  refine ⟨?_, by omega⟩
  unfold zcel
  rw [if_neg (by omega), if_neg (by omega), if_pos (by omega)]
  rw [show (86 + 3 * k - 84) % 3 = 2 by omega, show (86 + 3 * k - 84) / 3 = k by omega]
  rfl
theorem zcel_195 {k : Nat} (h : k < 48) : zcel (zxi 195 k) = (195, k) ∧ zxi 195 k < 1807 := by
  have e : zxi 195 k = 120 + 2 * k := rfl
  rw [e]
  refine ⟨?_, by omega⟩
  unfold zcel
  rw [if_neg (by omega), if_neg (by omega), if_neg (by omega), if_pos (by omega)]
  rw [show (120 + 2 * k - 120) % 2 = 0 by omega, show (120 + 2 * k - 120) / 2 = k by omega]
  rfl
theorem zcel_197 {k : Nat} (h : k < 48) : zcel (zxi 197 k) = (197, k) ∧ zxi 197 k < 1807 := by
  have e : zxi 197 k = 121 + 2 * k := rfl
  rw [e]
  refine ⟨?_, by omega⟩
  unfold zcel
  rw [if_neg (by omega), if_neg (by omega), if_neg (by omega), if_pos (by omega)]
  rw [show (121 + 2 * k - 120) % 2 = 1 by omega, show (121 + 2 * k - 120) / 2 = k by omega]
  rfl
theorem zcel_196 {k : Nat} (h : k < 64) : zcel (zxi 196 k) = (196, k) ∧ zxi 196 k < 1807 := by
  have e : zxi 196 k = 216 + k := rfl
  rw [e]
  refine ⟨?_, by omega⟩
  unfold zcel
  rw [if_neg (by omega), if_neg (by omega), if_neg (by omega), if_neg (by omega), if_pos (by omega)]
  rw [show 216 + k - 216 = k by omega]
theorem zcel_201 {k : Nat} (h : k < 36) : zcel (zxi 201 k) = (201, k) ∧ zxi 201 k < 1807 := by
  have e : zxi 201 k = 280 + k := rfl
  rw [e]
  refine ⟨?_, by omega⟩
  unfold zcel
  rw [if_neg (by omega), if_neg (by omega), if_neg (by omega), if_neg (by omega), if_neg (by omega), if_pos (by omega)]
  rw [show 280 + k - 280 = k by omega]
theorem zcel_206 {k : Nat} (h : k < 10) : zcel (zxi 206 k) = (206, k) ∧ zxi 206 k < 1807 := by
  have e : zxi 206 k = 316 + k := rfl
  rw [e]
  refine ⟨?_, by omega⟩
  unfold zcel
  rw [if_neg (by omega), if_neg (by omega), if_neg (by omega), if_neg (by omega), if_neg (by omega), if_neg (by omega), if_pos (by omega)]
  rw [show 316 + k - 316 = k by omega]
theorem zcel_208 {k : Nat} (h : k < 16) : zcel (zxi 208 k) = (208, k) ∧ zxi 208 k < 1807 := by
  have e : zxi 208 k = 326 + k := rfl
  rw [e]
  refine ⟨?_, by omega⟩
  unfold zcel
  rw [if_neg (by omega), if_neg (by omega), if_neg (by omega), if_neg (by omega), if_neg (by omega), if_neg (by omega), if_neg (by omega), if_pos (by omega)]
  rw [show 326 + k - 326 = k by omega]
theorem zcel_184 {k : Nat} (h : k < 600) : zcel (zxi 184 k) = (184, k) ∧ zxi 184 k < 1807 := by
  have e : zxi 184 k = 342 + k := rfl
  rw [e]
  refine ⟨?_, by omega⟩
  unfold zcel
  rw [if_neg (by omega), if_neg (by omega), if_neg (by omega), if_neg (by omega), if_neg (by omega), if_neg (by omega), if_neg (by omega), if_neg (by omega), if_pos (by omega)]
  rw [show 342 + k - 342 = k by omega]
theorem zcel_188 {k : Nat} (h : k < 16) : zcel (zxi 188 k) = (188, k) ∧ zxi 188 k < 1807 := by
  have e : zxi 188 k = 943 + 4 * k := rfl
  rw [e]
  refine ⟨?_, by omega⟩
  unfold zcel
  rw [if_neg (by omega), if_neg (by omega), if_neg (by omega), if_neg (by omega), if_neg (by omega), if_neg (by omega), if_neg (by omega), if_neg (by omega), if_neg (by omega), if_neg (by omega), if_pos (by omega)]
  rw [show (943 + 4 * k - 943) % 4 = 0 by omega, show (943 + 4 * k - 943) / 4 = k by omega]
  rfl
theorem zcel_189 {k : Nat} (h : k < 16) : zcel (zxi 189 k) = (189, k) ∧ zxi 189 k < 1807 := by
  have e : zxi 189 k = 944 + 4 * k := rfl
  rw [e]
  refine ⟨?_, by omega⟩
  unfold zcel
  rw [if_neg (by omega), if_neg (by omega), if_neg (by omega), if_neg (by omega), if_neg (by omega), if_neg (by omega), if_neg (by omega), if_neg (by omega), if_neg (by omega), if_neg (by omega), if_pos (by omega)]
  rw [show (944 + 4 * k - 943) % 4 = 1 by omega, show (944 + 4 * k - 943) / 4 = k by omega]
  rfl
theorem zcel_190 {k : Nat} (h : k < 16) : zcel (zxi 190 k) = (190, k) ∧ zxi 190 k < 1807 := by
  have e : zxi 190 k = 945 + 4 * k := rfl
  rw [e]
  refine ⟨?_, by omega⟩
  unfold zcel
  rw [if_neg (by omega), if_neg (by omega), if_neg (by omega), if_neg (by omega), if_neg (by omega), if_neg (by omega), if_neg (by omega), if_neg (by omega), if_neg (by omega), if_neg (by omega), if_pos (by omega)]
  rw [show (945 + 4 * k - 943) % 4 = 2 by omega, show (945 + 4 * k - 943) / 4 = k by omega]
  rfl
theorem zcel_191 {k : Nat} (h : k < 16) : zcel (zxi 191 k) = (191, k) ∧ zxi 191 k < 1807 := by
  have e : zxi 191 k = 946 + 4 * k := rfl
  rw [e]
  refine ⟨?_, by omega⟩
  unfold zcel
  rw [if_neg (by omega), if_neg (by omega), if_neg (by omega), if_neg (by omega), if_neg (by omega), if_neg (by omega), if_neg (by omega), if_neg (by omega), if_neg (by omega), if_neg (by omega), if_pos (by omega)]
  rw [show (946 + 4 * k - 943) % 4 = 3 by omega, show (946 + 4 * k - 943) / 4 = k by omega]
  rfl
theorem zcel_192 {k : Nat} (h : k < 400) : zcel (zxi 192 k) = (192, k) ∧ zxi 192 k < 1807 := by
  have e : zxi 192 k = 1007 + 2 * k := rfl
  rw [e]
  refine ⟨?_, by omega⟩
  unfold zcel
  rw [if_neg (by omega), if_neg (by omega), if_neg (by omega), if_neg (by omega), if_neg (by omega), if_neg (by omega), if_neg (by omega), if_neg (by omega), if_neg (by omega), if_neg (by omega), if_neg (by omega)]
  rw [show (1007 + 2 * k - 1007) % 2 = 0 by omega, show (1007 + 2 * k - 1007) / 2 = k by omega]
  rfl
theorem zcel_193 {k : Nat} (h : k < 400) : zcel (zxi 193 k) = (193, k) ∧ zxi 193 k < 1807 := by
  have e : zxi 193 k = 1008 + 2 * k := rfl
  rw [e]
  refine ⟨?_, by omega⟩
  unfold zcel
  rw [if_neg (by omega), if_neg (by omega), if_neg (by omega), if_neg (by omega), if_neg (by omega), if_neg (by omega), if_neg (by omega), if_neg (by omega), if_neg (by omega), if_neg (by omega), if_neg (by omega)]
  rw [show (1008 + 2 * k - 1007) % 2 = 1 by omega, show (1008 + 2 * k - 1007) / 2 = k by omega]
  rfl
theorem zcel_ix {i k : Nat} (h : zKt i k) : zcel (zxi i k) = (i, k) ∧ zxi i k < 1807 := by
  rcases h with ⟨rfl, h⟩ | h
  · unfold zK8 at h
    split at h
    all_goals first | exact absurd h (by decide) | exact ⟨rfl, by decide⟩
  · unfold zKth at h
    split at h
    all_goals first | exact absurd h (Nat.not_lt_zero _) | exact zcel_179 h | exact zcel_183 h | exact zcel_203 h | exact zcel_204 h | exact zcel_195 h | exact zcel_197 h | exact zcel_196 h | exact zcel_201 h | exact zcel_206 h | exact zcel_208 h | exact zcel_184 h | exact zcel_188 h | exact zcel_189 h | exact zcel_190 h | exact zcel_191 h | exact zcel_192 h | exact zcel_193 h | (cases (show k = 0 by omega); exact ⟨rfl, by decide⟩)
theorem zu_ap {f : Nat → Nat → Int32} {i k a b : Nat} {x : Int32} : zuI f i k x a b = if a = i ∧ b = k then x else f a b := by
  unfold zuI
  by_cases h1 : a = i
  · by_cases h2 : b = k
    · rw [if_pos h1, if_pos h2, if_pos ⟨h1, h2⟩]
    · rw [if_pos h1, if_neg h2, if_neg (fun z => h2 z.2)]
  · rw [if_neg h1, if_neg (fun z => h1 z.1)]
def zkpv (t : Int32) (R : Nat → Nat → Int32) (p : Nat) (a : Int32) : Int32 := if t = 0 then R 211 p else a
def zkps (t : Int32) (R : Nat → Nat → Int32) (p : Nat) (a : Int32) : Nat → Nat → Int32 := if t = 0 then zuI R 178 58 (nI (p + 1)) else zuI (zuI R 178 58 (nI (p + 1))) 211 p a
/-- the first p numbers are kept, or given back -/
def zIv (t : Int32) (r R : Nat → Nat → Int32) (p : Nat) : Prop := R 178 58 = nI p ∧ R 178 56 = t ∧ (∀ i, ¬ i = 178 → ¬ i = 211 → zKth i = 0 → R i = r i) ∧ (∀ j, ¬ j = 58 → zK8 j = false → R 178 j = r 178 j) ∧ (t = 0 ∨ ((∀ i k, zKt i k → R i k = r i k) ∧ ∀ i k, zKt i k → zxi i k < p → R 211 (zxi i k) = r i k)) ∧ (t = 1 ∨ (R 211 = r 211 ∧ ∀ i k, zKt i k → zxi i k < p → R i k = r 211 (zxi i k)))
theorem zKt_211 {k : Nat} : ¬ zKt 211 k := by
  rintro (⟨h, -⟩ | h)
  · omega
  · exact Nat.not_lt_zero k h
theorem zKt_58 : ¬ zKt 178 58 := by
  rintro (⟨-, h⟩ | h)
  · exact absurd h (by decide)
  · exact Nat.not_lt_zero _ h
theorem zKt_56 : ¬ zKt 178 56 := by
  rintro (⟨-, h⟩ | h)
  · exact absurd h (by decide)
  · exact Nat.not_lt_zero _ h
theorem zIv_step {t : Int32} {r R : Nat → Nat → Int32} {p i0 k0 : Nat} (ht : t = 0 ∨ t = 1) (h : zIv t r R p) (hk : zKt i0 k0) (hp : zxi i0 k0 = p) : zIv t r (zuI (zkps t R p (R i0 k0)) i0 k0 (zkpv t R p (R i0 k0))) (p + 1) := by
  obtain ⟨a1, a2, a3, a4, a5, a6⟩ := h
  have n58 : ¬ (178 = i0 ∧ 58 = k0) := by
    rintro ⟨rfl, rfl⟩
    exact zKt_58 hk
  have n56 : ¬ (178 = i0 ∧ 56 = k0) := by
    rintro ⟨rfl, rfl⟩
    exact zKt_56 hk
  have n211 : ¬ 211 = i0 := by
    rintro rfl
    exact zKt_211 hk
  have ni : ∀ i, ¬ i = 178 → zKth i = 0 → ¬ i = i0 := fun i h1 h2 e => by
    subst e
    rcases hk with ⟨z, -⟩ | z
    · exact h1 z
    · rw [h2] at z
      exact Nat.not_lt_zero _ z
  have nj : ∀ j, zK8 j = false → ¬ (178 = i0 ∧ j = k0) := fun j h1 e => by
    obtain ⟨rfl, rfl⟩ := e
    rcases hk with ⟨-, z⟩ | z
    · rw [h1] at z
      exact absurd z (by decide)
    · exact Nat.not_lt_zero _ z
  have inj : ∀ i k, zKt i k → zxi i k = p → i = i0 ∧ k = k0 := fun i k h1 h2 => by
    have e1 := (zcel_ix h1).1
    have e2 := (zcel_ix hk).1
    rw [h2] at e1
    rw [hp] at e2
    have e3 := e1.symm.trans e2
    rw [Prod.mk.injEq] at e3
    exact e3
  rcases ht with rfl | rfl
  · obtain ⟨b1, b2⟩ := a6.resolve_left (by decide)
    unfold zkps zkpv
    rw [if_pos rfl, if_pos rfl]
    refine ⟨?_, ?_, fun i h1 h2 h3 => ?_, fun j h1 h2 => ?_, Or.inl rfl, Or.inr ⟨?_, fun i k h1 h2 => ?_⟩⟩
    · rw [zu_ap, if_neg n58, zi_at, if_pos rfl]
    · rw [zu_ap, if_neg n56, zi_at, if_neg (by omega)]
      exact a2
    · rw [zi_ne (ni i h1 h3), zi_ne h1]
      exact a3 i h1 h2 h3
    · rw [zu_ap, if_neg (nj j h2), zi_at, if_neg h1]
      exact a4 j h1 h2
    · rw [zi_ne n211, zi_ne (by omega)]
      exact b1
    · rw [zu_ap]
      by_cases e : i = i0 ∧ k = k0
      · rw [if_pos e, b1, ← hp, e.1, e.2]
      · rw [if_neg e, zu_ap, if_neg (by rintro ⟨rfl, rfl⟩; exact zKt_58 h1)]
        refine b2 i k h1 ?_
        have : ¬ zxi i k = p := fun z => e (inj i k h1 z)
        omega
  · obtain ⟨b1, b2⟩ := a5.resolve_left (by decide)
    unfold zkps zkpv
    rw [if_neg (by decide), if_neg (by decide)]
    have e0 : zuI (zuI (zuI R 178 58 (nI (p + 1))) 211 p (R i0 k0)) i0 k0 (R i0 k0) = zuI (zuI R 178 58 (nI (p + 1))) 211 p (R i0 k0) := by
      funext a b
      rw [zu_ap]
      by_cases e : a = i0 ∧ b = k0
      · rw [if_pos e, e.1, e.2, zi_ne (fun z => n211 z.symm), zu_ap, if_neg (fun z => n58 ⟨z.1.symm, z.2.symm⟩)]
      · rw [if_neg e]
    rw [e0]
    refine ⟨?_, ?_, fun i h1 h2 h3 => ?_, fun j h1 h2 => ?_, Or.inr ⟨fun i k h1 => ?_, fun i k h1 h2 => ?_⟩, Or.inl rfl⟩
    · rw [zi_ne (by omega), zi_at, if_pos rfl]
    · rw [zi_ne (by omega), zi_at, if_neg (by omega)]
      exact a2
    · rw [zi_ne h2, zi_ne h1]
      exact a3 i h1 h2 h3
    · rw [zi_ne (by omega), zi_at, if_neg h1]
      exact a4 j h1 h2
    · rw [zi_ne (by rintro rfl; exact zKt_211 h1), zu_ap, if_neg (by rintro ⟨rfl, rfl⟩; exact zKt_58 h1)]
      exact b1 i k h1
    · rw [zi_at]
      by_cases e : zxi i k = p
      · obtain ⟨rfl, rfl⟩ := inj i k h1 e
        rw [if_pos e]
        exact b1 i k h1
      · rw [if_neg e, zi_ne (by omega)]
        exact b2 i k h1 (by omega)
section ZIM
variable {X : Nat × (Nat → Int32)} {d : Nat} {r : Nat → Nat → Int32} {g : Nat → Nat → Int64} {t : Int32}
theorem q280 {R : Nat → Nat → Int32} {p : Nat} {a : Int32} {K : Int32 → (Nat → Nat → Int32) → (Nat → Nat → Int64) → Prop} (h1 : R 178 58 = nI p) (h2 : R 178 56 = t) (hp : p < 2200) : zCpi X (d + 1) 280 [.ref 178, .int a] (zs R g) K = K (zkpv t R p a) (zkps t R p a) g := by
  refine zCpi_eq (fun K hK => e280_178 ?_)
  unfold zkpv zkps at hK
  rw [h1, h2, nI_1, zsO.2, nI_pred]
  by_cases e : t = 0
  · rw [if_pos e, if_pos e] at hK
    rw [if_pos e, if_neg (nI_in hp (by omega)), nI_cl (by omega)]
    exact hK
  · rw [if_neg e, if_neg e] at hK
    rw [if_neg e, if_neg (nI_in hp (by omega)), nI_cl (by omega)]
    exact hK
theorem k281_296 (ht : t = 0 ∨ t = 1) {K : (Nat → Nat → Int32) → (Nat → Nat → Int64) → Prop} (hK : ∀ R, zIv t r R 342 → K R g) : ∀ m j, j + m = 16 → ∀ R, zIv t r R (326 + j) → zWp X (d + 1) zm281 296 [.ref 178, .int (nI j)] [] (zs R g) (zQv K) := by
  intro m
  induction m with
  | zero =>
    intro j hj R s0
    have ej : j = 16 := by omega
    subst ej
    apply s281_296_178
    rw [if_pos (show (16 : Int32) ≤ nI 16 from by decide)]
    exact hK R s0
  | succ m ih =>
    intro j hj R s0
    apply s281_296_178
    rw [if_neg (show ¬ (16 : Int32) ≤ nI j from nI_ge (b := 16) (by omega) (by omega))]
    have kj := nI_cl (k := j) (by omega)
    have ij := nI_in (c := j) (N := 16) (by omega) (by omega)
    rw [if_neg ij, kj]
    have ij' := nI_in' (c := j) (N := 16) (by omega) (by omega)
    rw [q280 (t := t) (p := (326 + j)) s0.1 s0.2.1 (by omega)]
    have s1 : zIv t r (zuI (zkps t R (326 + j) (R 208 j)) 208 j (zkpv t R (326 + j) (R 208 j))) (326 + j + 1) := zIv_step ht s0 (Or.inr (show j < 16 by omega)) (by first | rfl | (show 326 + j = _; omega))
    rw [if_neg ij']
    obtain ⟨R1, hR1⟩ : ∃ R1, R1 = zuI (zkps t R (326 + j) (R 208 j)) 208 j (zkpv t R (326 + j) (R 208 j)) := ⟨_, rfl⟩
    rw [← hR1]
    rw [← hR1] at s1
    rw [nI_1]
    refine ih (j + 1) (by omega) R1 ?_
    rw [show 326 + (j + 1) = 326 + j + 1 by omega]
    exact s1
theorem k281_266 (ht : t = 0 ∨ t = 1) {K : (Nat → Nat → Int32) → (Nat → Nat → Int64) → Prop} (hK : ∀ R, zIv t r R 326 → zWp X (d + 1) zm281 296 [.ref 178, .int 0] [] (zs R g) (zQv K)) : ∀ m j, j + m = 10 → ∀ R, zIv t r R (316 + j) → zWp X (d + 1) zm281 266 [.ref 178, .int (nI j)] [] (zs R g) (zQv K) := by
  intro m
  induction m with
  | zero =>
    intro j hj R s0
    have ej : j = 10 := by omega
    subst ej
    apply s281_266_178
    rw [if_pos (show (10 : Int32) ≤ nI 10 from by decide)]
    exact hK R s0
  | succ m ih =>
    intro j hj R s0
    apply s281_266_178
    rw [if_neg (show ¬ (10 : Int32) ≤ nI j from nI_ge (b := 10) (by omega) (by omega))]
    have kj := nI_cl (k := j) (by omega)
    have ij := nI_in (c := j) (N := 10) (by omega) (by omega)
    rw [if_neg ij, kj]
    have ij' := nI_in' (c := j) (N := 10) (by omega) (by omega)
    rw [q280 (t := t) (p := (316 + j)) s0.1 s0.2.1 (by omega)]
    have s1 : zIv t r (zuI (zkps t R (316 + j) (R 206 j)) 206 j (zkpv t R (316 + j) (R 206 j))) (316 + j + 1) := zIv_step ht s0 (Or.inr (show j < 10 by omega)) (by first | rfl | (show 316 + j = _; omega))
    rw [if_neg ij']
    obtain ⟨R1, hR1⟩ : ∃ R1, R1 = zuI (zkps t R (316 + j) (R 206 j)) 206 j (zkpv t R (316 + j) (R 206 j)) := ⟨_, rfl⟩
    rw [← hR1]
    rw [← hR1] at s1
    rw [nI_1]
    refine ih (j + 1) (by omega) R1 ?_
    rw [show 316 + (j + 1) = 316 + j + 1 by omega]
    exact s1
theorem k281_236 (ht : t = 0 ∨ t = 1) {K : (Nat → Nat → Int32) → (Nat → Nat → Int64) → Prop} (hK : ∀ R, zIv t r R 316 → zWp X (d + 1) zm281 266 [.ref 178, .int 0] [] (zs R g) (zQv K)) : ∀ m j, j + m = 36 → ∀ R, zIv t r R (280 + j) → zWp X (d + 1) zm281 236 [.ref 178, .int (nI j)] [] (zs R g) (zQv K) := by
  intro m
  induction m with
  | zero =>
    intro j hj R s0
    have ej : j = 36 := by omega
    subst ej
    apply s281_236_178
    rw [if_pos (show (36 : Int32) ≤ nI 36 from by decide)]
    exact hK R s0
  | succ m ih =>
    intro j hj R s0
    apply s281_236_178
    rw [if_neg (show ¬ (36 : Int32) ≤ nI j from nI_ge (b := 36) (by omega) (by omega))]
    have kj := nI_cl (k := j) (by omega)
    have ij := nI_in (c := j) (N := 36) (by omega) (by omega)
    rw [if_neg ij, kj]
    have ij' := nI_in' (c := j) (N := 36) (by omega) (by omega)
    rw [q280 (t := t) (p := (280 + j)) s0.1 s0.2.1 (by omega)]
    have s1 : zIv t r (zuI (zkps t R (280 + j) (R 201 j)) 201 j (zkpv t R (280 + j) (R 201 j))) (280 + j + 1) := zIv_step ht s0 (Or.inr (show j < 36 by omega)) (by first | rfl | (show 280 + j = _; omega))
    rw [if_neg ij']
    obtain ⟨R1, hR1⟩ : ∃ R1, R1 = zuI (zkps t R (280 + j) (R 201 j)) 201 j (zkpv t R (280 + j) (R 201 j)) := ⟨_, rfl⟩
    rw [← hR1]
    rw [← hR1] at s1
    rw [nI_1]
    refine ih (j + 1) (by omega) R1 ?_
    rw [show 280 + (j + 1) = 280 + j + 1 by omega]
    exact s1
theorem k281_206 (ht : t = 0 ∨ t = 1) {K : (Nat → Nat → Int32) → (Nat → Nat → Int64) → Prop} (hK : ∀ R, zIv t r R 280 → zWp X (d + 1) zm281 236 [.ref 178, .int 0] [] (zs R g) (zQv K)) : ∀ m j, j + m = 64 → ∀ R, zIv t r R (216 + j) → zWp X (d + 1) zm281 206 [.ref 178, .int (nI j)] [] (zs R g) (zQv K) := by
  intro m
  induction m with
  | zero =>
    intro j hj R s0
    have ej : j = 64 := by omega
    subst ej
    apply s281_206_178
    rw [if_pos (show (64 : Int32) ≤ nI 64 from by decide)]
    exact hK R s0
  | succ m ih =>
    intro j hj R s0
    apply s281_206_178
    rw [if_neg (show ¬ (64 : Int32) ≤ nI j from nI_ge (b := 64) (by omega) (by omega))]
    have kj := nI_cl (k := j) (by omega)
    have ij := nI_in (c := j) (N := 128) (by omega) (by omega)
    rw [if_neg ij, kj]
    have ij' := nI_in' (c := j) (N := 128) (by omega) (by omega)
    rw [q280 (t := t) (p := (216 + j)) s0.1 s0.2.1 (by omega)]
    have s1 : zIv t r (zuI (zkps t R (216 + j) (R 196 j)) 196 j (zkpv t R (216 + j) (R 196 j))) (216 + j + 1) := zIv_step ht s0 (Or.inr (show j < 64 by omega)) (by first | rfl | (show 216 + j = _; omega))
    rw [if_neg ij']
    obtain ⟨R1, hR1⟩ : ∃ R1, R1 = zuI (zkps t R (216 + j) (R 196 j)) 196 j (zkpv t R (216 + j) (R 196 j)) := ⟨_, rfl⟩
    rw [← hR1]
    rw [← hR1] at s1
    rw [nI_1]
    refine ih (j + 1) (by omega) R1 ?_
    rw [show 216 + (j + 1) = 216 + j + 1 by omega]
    exact s1
theorem k281_160 (ht : t = 0 ∨ t = 1) {K : (Nat → Nat → Int32) → (Nat → Nat → Int64) → Prop} (hK : ∀ R, zIv t r R 216 → zWp X (d + 1) zm281 206 [.ref 178, .int 0] [] (zs R g) (zQv K)) : ∀ m j, j + m = 48 → ∀ R, zIv t r R (120 + 2 * j) → zWp X (d + 1) zm281 160 [.ref 178, .int (nI j)] [] (zs R g) (zQv K) := by
  intro m
  induction m with
  | zero =>
    intro j hj R s0
    have ej : j = 48 := by omega
    subst ej
    apply s281_160_178
    rw [if_pos (show (48 : Int32) ≤ nI 48 from by decide)]
    exact hK R s0
  | succ m ih =>
    intro j hj R s0
    apply s281_160_178
    rw [if_neg (show ¬ (48 : Int32) ≤ nI j from nI_ge (b := 48) (by omega) (by omega))]
    have kj := nI_cl (k := j) (by omega)
    have ij := nI_in (c := j) (N := 96) (by omega) (by omega)
    rw [if_neg ij, kj]
    have ij' := nI_in' (c := j) (N := 96) (by omega) (by omega)
    rw [q280 (t := t) (p := (120 + 2 * j)) s0.1 s0.2.1 (by omega)]
    have s1 : zIv t r (zuI (zkps t R (120 + 2 * j) (R 195 j)) 195 j (zkpv t R (120 + 2 * j) (R 195 j))) (120 + 2 * j + 1) := zIv_step ht s0 (Or.inr (show j < 48 by omega)) (by first | rfl | (show 120 + 2 * j = _; omega))
    rw [if_neg ij', if_neg ij']
    obtain ⟨R1, hR1⟩ : ∃ R1, R1 = zuI (zkps t R (120 + 2 * j) (R 195 j)) 195 j (zkpv t R (120 + 2 * j) (R 195 j)) := ⟨_, rfl⟩
    have x1 : zkps t R (120 + 2 * j) (R 195 j) 197 j = R1 197 j := by rw [hR1, zi_ne (by omega)]
    rw [x1, ← hR1]
    rw [← hR1] at s1
    rw [q280 (t := t) (p := (120 + 2 * j + 1)) s1.1 s1.2.1 (by omega)]
    have s2 : zIv t r (zuI (zkps t R1 (120 + 2 * j + 1) (R1 197 j)) 197 j (zkpv t R1 (120 + 2 * j + 1) (R1 197 j))) (120 + 2 * j + 2) := zIv_step ht s1 (Or.inr (show j < 48 by omega)) (by first | rfl | (show 121 + 2 * j = _; omega))
    rw [if_neg ij']
    obtain ⟨R2, hR2⟩ : ∃ R2, R2 = zuI (zkps t R1 (120 + 2 * j + 1) (R1 197 j)) 197 j (zkpv t R1 (120 + 2 * j + 1) (R1 197 j)) := ⟨_, rfl⟩
    rw [← hR2]
    rw [← hR2] at s2
    rw [nI_1]
    refine ih (j + 1) (by omega) R2 ?_
    rw [show 120 + 2 * (j + 1) = 120 + 2 * j + 2 by omega]
    exact s2
theorem k281_98 (ht : t = 0 ∨ t = 1) {K : (Nat → Nat → Int32) → (Nat → Nat → Int64) → Prop} (hK : ∀ R, zIv t r R 120 → zWp X (d + 1) zm281 160 [.ref 178, .int 0] [] (zs R g) (zQv K)) : ∀ m j, j + m = 12 → ∀ R, zIv t r R (84 + 3 * j) → zWp X (d + 1) zm281 98 [.ref 178, .int (nI j)] [] (zs R g) (zQv K) := by
  intro m
  induction m with
  | zero =>
    intro j hj R s0
    have ej : j = 12 := by omega
    subst ej
    apply s281_98_178
    rw [if_pos (show (12 : Int32) ≤ nI 12 from by decide)]
    exact hK R s0
  | succ m ih =>
    intro j hj R s0
    apply s281_98_178
    rw [if_neg (show ¬ (12 : Int32) ≤ nI j from nI_ge (b := 12) (by omega) (by omega))]
    have kj := nI_cl (k := j) (by omega)
    have ij := nI_in (c := j) (N := 12) (by omega) (by omega)
    rw [if_neg ij, kj]
    have ij' := nI_in' (c := j) (N := 12) (by omega) (by omega)
    rw [q280 (t := t) (p := (84 + 3 * j)) s0.1 s0.2.1 (by omega)]
    have s1 : zIv t r (zuI (zkps t R (84 + 3 * j) (R 183 j)) 183 j (zkpv t R (84 + 3 * j) (R 183 j))) (84 + 3 * j + 1) := zIv_step ht s0 (Or.inr (show j < 12 by omega)) (by first | rfl | (show 84 + 3 * j = _; omega))
    rw [if_neg ij', if_neg ij']
    obtain ⟨R1, hR1⟩ : ∃ R1, R1 = zuI (zkps t R (84 + 3 * j) (R 183 j)) 183 j (zkpv t R (84 + 3 * j) (R 183 j)) := ⟨_, rfl⟩
    have x1 : zkps t R (84 + 3 * j) (R 183 j) 203 j = R1 203 j := by rw [hR1, zi_ne (by omega)]
    rw [x1, ← hR1]
    rw [← hR1] at s1
    rw [q280 (t := t) (p := (84 + 3 * j + 1)) s1.1 s1.2.1 (by omega)]
    have s2 : zIv t r (zuI (zkps t R1 (84 + 3 * j + 1) (R1 203 j)) 203 j (zkpv t R1 (84 + 3 * j + 1) (R1 203 j))) (84 + 3 * j + 2) := zIv_step ht s1 (Or.inr (show j < 12 by omega)) (by first | rfl | (show 85 + 3 * j = _; omega))
    rw [if_neg ij', if_neg ij']
    obtain ⟨R2, hR2⟩ : ∃ R2, R2 = zuI (zkps t R1 (84 + 3 * j + 1) (R1 203 j)) 203 j (zkpv t R1 (84 + 3 * j + 1) (R1 203 j)) := ⟨_, rfl⟩
    have x2 : zkps t R1 (84 + 3 * j + 1) (R1 203 j) 204 j = R2 204 j := by rw [hR2, zi_ne (by omega)]
    rw [x2, ← hR2]
    rw [← hR2] at s2
    rw [q280 (t := t) (p := (84 + 3 * j + 2)) s2.1 s2.2.1 (by omega)]
    have s3 : zIv t r (zuI (zkps t R2 (84 + 3 * j + 2) (R2 204 j)) 204 j (zkpv t R2 (84 + 3 * j + 2) (R2 204 j))) (84 + 3 * j + 3) := zIv_step ht s2 (Or.inr (show j < 12 by omega)) (by first | rfl | (show 86 + 3 * j = _; omega))
    rw [if_neg ij']
    obtain ⟨R3, hR3⟩ : ∃ R3, R3 = zuI (zkps t R2 (84 + 3 * j + 2) (R2 204 j)) 204 j (zkpv t R2 (84 + 3 * j + 2) (R2 204 j)) := ⟨_, rfl⟩
    rw [← hR3]
    rw [← hR3] at s3
    rw [nI_1]
    refine ih (j + 1) (by omega) R3 ?_
    rw [show 84 + 3 * (j + 1) = 84 + 3 * j + 3 by omega]
    exact s3
theorem k281 (ht : t = 0 ∨ t = 1) {K : (Nat → Nat → Int32) → (Nat → Nat → Int64) → Prop} (hK : ∀ R, zIv t r R 342 → K R g) {R : Nat → Nat → Int32} (s0 : zIv t r R 76) : zCpv X (d + 2) 281 [.ref 178] (zs R g) K := by
  apply e281_178
  rw [q280 (t := t) (p := (76)) s0.1 s0.2.1 (by omega)]
  have s1 : zIv t r (zuI (zkps t R (76) (R 178 7)) 178 7 (zkpv t R (76) (R 178 7))) (76 + 1) := zIv_step ht s0 (Or.inl ⟨rfl, rfl⟩) rfl
  obtain ⟨R1, hR1⟩ : ∃ R1, R1 = zuI (zkps t R (76) (R 178 7)) 178 7 (zkpv t R (76) (R 178 7)) := ⟨_, rfl⟩
  have x1 : zkps t R (76) (R 178 7) 178 33 = R1 178 33 := by rw [hR1, zi_at, if_neg (by omega)]
  rw [x1, ← hR1]
  rw [← hR1] at s1
  rw [q280 (t := t) (p := (76 + 1)) s1.1 s1.2.1 (by omega)]
  have s2 : zIv t r (zuI (zkps t R1 (76 + 1) (R1 178 33)) 178 33 (zkpv t R1 (76 + 1) (R1 178 33))) (76 + 2) := zIv_step ht s1 (Or.inl ⟨rfl, rfl⟩) rfl
  obtain ⟨R2, hR2⟩ : ∃ R2, R2 = zuI (zkps t R1 (76 + 1) (R1 178 33)) 178 33 (zkpv t R1 (76 + 1) (R1 178 33)) := ⟨_, rfl⟩
  have x2 : zkps t R1 (76 + 1) (R1 178 33) 178 35 = R2 178 35 := by rw [hR2, zi_at, if_neg (by omega)]
  rw [x2, ← hR2]
  rw [← hR2] at s2
  rw [q280 (t := t) (p := (76 + 2)) s2.1 s2.2.1 (by omega)]
  have s3 : zIv t r (zuI (zkps t R2 (76 + 2) (R2 178 35)) 178 35 (zkpv t R2 (76 + 2) (R2 178 35))) (76 + 3) := zIv_step ht s2 (Or.inl ⟨rfl, rfl⟩) rfl
  obtain ⟨R3, hR3⟩ : ∃ R3, R3 = zuI (zkps t R2 (76 + 2) (R2 178 35)) 178 35 (zkpv t R2 (76 + 2) (R2 178 35)) := ⟨_, rfl⟩
  have x3 : zkps t R2 (76 + 2) (R2 178 35) 178 37 = R3 178 37 := by rw [hR3, zi_at, if_neg (by omega)]
  rw [x3, ← hR3]
  rw [← hR3] at s3
  rw [q280 (t := t) (p := (76 + 3)) s3.1 s3.2.1 (by omega)]
  have s4 : zIv t r (zuI (zkps t R3 (76 + 3) (R3 178 37)) 178 37 (zkpv t R3 (76 + 3) (R3 178 37))) (76 + 4) := zIv_step ht s3 (Or.inl ⟨rfl, rfl⟩) rfl
  obtain ⟨R4, hR4⟩ : ∃ R4, R4 = zuI (zkps t R3 (76 + 3) (R3 178 37)) 178 37 (zkpv t R3 (76 + 3) (R3 178 37)) := ⟨_, rfl⟩
  have x4 : zkps t R3 (76 + 3) (R3 178 37) 178 44 = R4 178 44 := by rw [hR4, zi_at, if_neg (by omega)]
  rw [x4, ← hR4]
  rw [← hR4] at s4
  rw [q280 (t := t) (p := (76 + 4)) s4.1 s4.2.1 (by omega)]
  have s5 : zIv t r (zuI (zkps t R4 (76 + 4) (R4 178 44)) 178 44 (zkpv t R4 (76 + 4) (R4 178 44))) (76 + 5) := zIv_step ht s4 (Or.inl ⟨rfl, rfl⟩) rfl
  obtain ⟨R5, hR5⟩ : ∃ R5, R5 = zuI (zkps t R4 (76 + 4) (R4 178 44)) 178 44 (zkpv t R4 (76 + 4) (R4 178 44)) := ⟨_, rfl⟩
  have x5 : zkps t R4 (76 + 4) (R4 178 44) 178 46 = R5 178 46 := by rw [hR5, zi_at, if_neg (by omega)]
  rw [x5, ← hR5]
  rw [← hR5] at s5
  rw [q280 (t := t) (p := (76 + 5)) s5.1 s5.2.1 (by omega)]
  have s6 : zIv t r (zuI (zkps t R5 (76 + 5) (R5 178 46)) 178 46 (zkpv t R5 (76 + 5) (R5 178 46))) (76 + 6) := zIv_step ht s5 (Or.inl ⟨rfl, rfl⟩) rfl
  obtain ⟨R6, hR6⟩ : ∃ R6, R6 = zuI (zkps t R5 (76 + 5) (R5 178 46)) 178 46 (zkpv t R5 (76 + 5) (R5 178 46)) := ⟨_, rfl⟩
  have x6 : zkps t R5 (76 + 5) (R5 178 46) 178 49 = R6 178 49 := by rw [hR6, zi_at, if_neg (by omega)]
  rw [x6, ← hR6]
  rw [← hR6] at s6
  rw [q280 (t := t) (p := (76 + 6)) s6.1 s6.2.1 (by omega)]
  have s7 : zIv t r (zuI (zkps t R6 (76 + 6) (R6 178 49)) 178 49 (zkpv t R6 (76 + 6) (R6 178 49))) (76 + 7) := zIv_step ht s6 (Or.inl ⟨rfl, rfl⟩) rfl
  obtain ⟨R7, hR7⟩ : ∃ R7, R7 = zuI (zkps t R6 (76 + 6) (R6 178 49)) 178 49 (zkpv t R6 (76 + 6) (R6 178 49)) := ⟨_, rfl⟩
  have x7 : zkps t R6 (76 + 6) (R6 178 49) 178 52 = R7 178 52 := by rw [hR7, zi_at, if_neg (by omega)]
  rw [x7, ← hR7]
  rw [← hR7] at s7
  rw [q280 (t := t) (p := (76 + 7)) s7.1 s7.2.1 (by omega)]
  have s8 : zIv t r (zuI (zkps t R7 (76 + 7) (R7 178 52)) 178 52 (zkpv t R7 (76 + 7) (R7 178 52))) (76 + 8) := zIv_step ht s7 (Or.inl ⟨rfl, rfl⟩) rfl
  obtain ⟨R8, hR8⟩ : ∃ R8, R8 = zuI (zkps t R7 (76 + 7) (R7 178 52)) 178 52 (zkpv t R7 (76 + 7) (R7 178 52)) := ⟨_, rfl⟩
  rw [← hR8]
  rw [← hR8] at s8
  refine k281_98 ht (fun R s => k281_160 ht (fun R s => k281_206 ht (fun R s => k281_236 ht (fun R s => k281_266 ht (fun R s => k281_296 ht hK 16 0 (by omega) R s) 10 0 (by omega) R s) 36 0 (by omega) R s) 64 0 (by omega) R s) 48 0 (by omega) R s) 12 0 (by omega) R8 s8
theorem k282_96 (ht : t = 0 ∨ t = 1) {K : (Nat → Nat → Int32) → (Nat → Nat → Int64) → Prop} (hK : ∀ R, zIv t r R 1807 → K R g) : ∀ m j, j + m = 400 → ∀ R, zIv t r R (1007 + 2 * j) → zWp X (d + 1) zm282 96 [.ref 178, .int (nI j)] [] (zs R g) (zQv K) := by
  intro m
  induction m with
  | zero =>
    intro j hj R s0
    have ej : j = 400 := by omega
    subst ej
    apply s282_96_178
    rw [if_pos (show (400 : Int32) ≤ nI 400 from by decide)]
    exact hK R s0
  | succ m ih =>
    intro j hj R s0
    apply s282_96_178
    rw [if_neg (show ¬ (400 : Int32) ≤ nI j from nI_ge (b := 400) (by omega) (by omega))]
    have kj := nI_cl (k := j) (by omega)
    have ij := nI_in (c := j) (N := 1200) (by omega) (by omega)
    rw [if_neg ij, kj]
    have ij' := nI_in' (c := j) (N := 1200) (by omega) (by omega)
    rw [q280 (t := t) (p := (1007 + 2 * j)) s0.1 s0.2.1 (by omega)]
    have s1 : zIv t r (zuI (zkps t R (1007 + 2 * j) (R 192 j)) 192 j (zkpv t R (1007 + 2 * j) (R 192 j))) (1007 + 2 * j + 1) := zIv_step ht s0 (Or.inr (show j < 400 by omega)) (by first | rfl | (show 1007 + 2 * j = _; omega))
    rw [if_neg ij', if_neg ij']
    obtain ⟨R1, hR1⟩ : ∃ R1, R1 = zuI (zkps t R (1007 + 2 * j) (R 192 j)) 192 j (zkpv t R (1007 + 2 * j) (R 192 j)) := ⟨_, rfl⟩
    have x1 : zkps t R (1007 + 2 * j) (R 192 j) 193 j = R1 193 j := by rw [hR1, zi_ne (by omega)]
    rw [x1, ← hR1]
    rw [← hR1] at s1
    rw [q280 (t := t) (p := (1007 + 2 * j + 1)) s1.1 s1.2.1 (by omega)]
    have s2 : zIv t r (zuI (zkps t R1 (1007 + 2 * j + 1) (R1 193 j)) 193 j (zkpv t R1 (1007 + 2 * j + 1) (R1 193 j))) (1007 + 2 * j + 2) := zIv_step ht s1 (Or.inr (show j < 400 by omega)) (by first | rfl | (show 1008 + 2 * j = _; omega))
    rw [if_neg ij']
    obtain ⟨R2, hR2⟩ : ∃ R2, R2 = zuI (zkps t R1 (1007 + 2 * j + 1) (R1 193 j)) 193 j (zkpv t R1 (1007 + 2 * j + 1) (R1 193 j)) := ⟨_, rfl⟩
    rw [← hR2]
    rw [← hR2] at s2
    rw [nI_1]
    refine ih (j + 1) (by omega) R2 ?_
    rw [show 1007 + 2 * (j + 1) = 1007 + 2 * j + 2 by omega]
    exact s2
theorem k282_18 (ht : t = 0 ∨ t = 1) {K : (Nat → Nat → Int32) → (Nat → Nat → Int64) → Prop} (hK : ∀ R, zIv t r R 1007 → zWp X (d + 1) zm282 96 [.ref 178, .int 0] [] (zs R g) (zQv K)) : ∀ m j, j + m = 16 → ∀ R, zIv t r R (943 + 4 * j) → zWp X (d + 1) zm282 18 [.ref 178, .int (nI j)] [] (zs R g) (zQv K) := by
  intro m
  induction m with
  | zero =>
    intro j hj R s0
    have ej : j = 16 := by omega
    subst ej
    apply s282_18_178
    rw [if_pos (show (16 : Int32) ≤ nI 16 from by decide)]
    exact hK R s0
  | succ m ih =>
    intro j hj R s0
    apply s282_18_178
    rw [if_neg (show ¬ (16 : Int32) ≤ nI j from nI_ge (b := 16) (by omega) (by omega))]
    have kj := nI_cl (k := j) (by omega)
    have ij := nI_in (c := j) (N := 48) (by omega) (by omega)
    rw [if_neg ij, kj]
    have ij' := nI_in' (c := j) (N := 48) (by omega) (by omega)
    rw [q280 (t := t) (p := (943 + 4 * j)) s0.1 s0.2.1 (by omega)]
    have s1 : zIv t r (zuI (zkps t R (943 + 4 * j) (R 188 j)) 188 j (zkpv t R (943 + 4 * j) (R 188 j))) (943 + 4 * j + 1) := zIv_step ht s0 (Or.inr (show j < 16 by omega)) (by first | rfl | (show 943 + 4 * j = _; omega))
    rw [if_neg ij', if_neg ij']
    obtain ⟨R1, hR1⟩ : ∃ R1, R1 = zuI (zkps t R (943 + 4 * j) (R 188 j)) 188 j (zkpv t R (943 + 4 * j) (R 188 j)) := ⟨_, rfl⟩
    have x1 : zkps t R (943 + 4 * j) (R 188 j) 189 j = R1 189 j := by rw [hR1, zi_ne (by omega)]
    rw [x1, ← hR1]
    rw [← hR1] at s1
    rw [q280 (t := t) (p := (943 + 4 * j + 1)) s1.1 s1.2.1 (by omega)]
    have s2 : zIv t r (zuI (zkps t R1 (943 + 4 * j + 1) (R1 189 j)) 189 j (zkpv t R1 (943 + 4 * j + 1) (R1 189 j))) (943 + 4 * j + 2) := zIv_step ht s1 (Or.inr (show j < 16 by omega)) (by first | rfl | (show 944 + 4 * j = _; omega))
    rw [if_neg ij', if_neg ij']
    obtain ⟨R2, hR2⟩ : ∃ R2, R2 = zuI (zkps t R1 (943 + 4 * j + 1) (R1 189 j)) 189 j (zkpv t R1 (943 + 4 * j + 1) (R1 189 j)) := ⟨_, rfl⟩
    have x2 : zkps t R1 (943 + 4 * j + 1) (R1 189 j) 190 j = R2 190 j := by rw [hR2, zi_ne (by omega)]
    rw [x2, ← hR2]
    rw [← hR2] at s2
    rw [q280 (t := t) (p := (943 + 4 * j + 2)) s2.1 s2.2.1 (by omega)]
    have s3 : zIv t r (zuI (zkps t R2 (943 + 4 * j + 2) (R2 190 j)) 190 j (zkpv t R2 (943 + 4 * j + 2) (R2 190 j))) (943 + 4 * j + 3) := zIv_step ht s2 (Or.inr (show j < 16 by omega)) (by first | rfl | (show 945 + 4 * j = _; omega))
    rw [if_neg ij', if_neg ij']
    obtain ⟨R3, hR3⟩ : ∃ R3, R3 = zuI (zkps t R2 (943 + 4 * j + 2) (R2 190 j)) 190 j (zkpv t R2 (943 + 4 * j + 2) (R2 190 j)) := ⟨_, rfl⟩
    have x3 : zkps t R2 (943 + 4 * j + 2) (R2 190 j) 191 j = R3 191 j := by rw [hR3, zi_ne (by omega)]
    rw [x3, ← hR3]
    rw [← hR3] at s3
    rw [q280 (t := t) (p := (943 + 4 * j + 3)) s3.1 s3.2.1 (by omega)]
    have s4 : zIv t r (zuI (zkps t R3 (943 + 4 * j + 3) (R3 191 j)) 191 j (zkpv t R3 (943 + 4 * j + 3) (R3 191 j))) (943 + 4 * j + 4) := zIv_step ht s3 (Or.inr (show j < 16 by omega)) (by first | rfl | (show 946 + 4 * j = _; omega))
    rw [if_neg ij']
    obtain ⟨R4, hR4⟩ : ∃ R4, R4 = zuI (zkps t R3 (943 + 4 * j + 3) (R3 191 j)) 191 j (zkpv t R3 (943 + 4 * j + 3) (R3 191 j)) := ⟨_, rfl⟩
    rw [← hR4]
    rw [← hR4] at s4
    rw [nI_1]
    refine ih (j + 1) (by omega) R4 ?_
    rw [show 943 + 4 * (j + 1) = 943 + 4 * j + 4 by omega]
    exact s4
theorem k282 (ht : t = 0 ∨ t = 1) {K : (Nat → Nat → Int32) → (Nat → Nat → Int64) → Prop} (hK : ∀ R, zIv t r R 1807 → K R g) {R : Nat → Nat → Int32} (s0 : zIv t r R 942) : zCpv X (d + 2) 282 [.ref 178] (zs R g) K := by
  apply e282_178
  have z0 : ¬ ((0 : Int32) < 0 ∨ 2 ≤ (0 : Int32).toNatClampNeg) := by decide
  rw [if_neg z0]
  rw [q280 (t := t) (p := (942)) s0.1 s0.2.1 (by omega)]
  have s1 : zIv t r (zuI (zkps t R (942) (R 187 0)) 187 0 (zkpv t R (942) (R 187 0))) (942 + 1) := zIv_step ht s0 (Or.inr (by decide)) rfl
  rw [if_neg z0]
  obtain ⟨R1, hR1⟩ : ∃ R1, R1 = zuI (zkps t R (942) (R 187 0)) 187 0 (zkpv t R (942) (R 187 0)) := ⟨_, rfl⟩
  rw [← hR1]
  rw [← hR1] at s1
  refine k282_18 ht (fun R s => k282_96 ht hK 400 0 (by omega) R s) 16 0 (by omega) R1 s1
theorem k279_69 (ht : t = 0 ∨ t = 1) {K : Int32 → (Nat → Nat → Int32) → (Nat → Nat → Int64) → Prop} {x : Int32} (hK : ∀ R, zIv t r R 942 → zCpv X (d + 1) 282 [.ref 178] (zs R g) (fun f1 g2 => if x = 0 then (if (1 : Int32) = 0 ∨ (1 : Int32) = 1 then (K 1 (zuI f1 178 3 0) g2) else False) else (if (1 : Int32) = 0 ∨ (1 : Int32) = 1 then (K 1 f1 g2) else False))) : ∀ m j, j + m = 600 → ∀ R, zIv t r R (342 + j) → zWp X (d + 1) zm279 69 [.ref 178, .int x, .int (nI j)] [] (zs R g) (zQi K) := by
  intro m
  induction m with
  | zero =>
    intro j hj R s0
    have ej : j = 600 := by omega
    subst ej
    apply s279_69_178
    rw [if_pos (show (600 : Int32) ≤ nI 600 from by decide)]
    exact hK R s0
  | succ m ih =>
    intro j hj R s0
    apply s279_69_178
    rw [if_neg (show ¬ (600 : Int32) ≤ nI j from nI_ge (b := 600) (by omega) (by omega))]
    have kj := nI_cl (k := j) (by omega)
    have ij := nI_in (c := j) (N := 600) (by omega) (by omega)
    rw [if_neg ij, kj]
    have ij' := nI_in' (c := j) (N := 600) (by omega) (by omega)
    rw [q280 (t := t) (p := (342 + j)) s0.1 s0.2.1 (by omega)]
    have s1 : zIv t r (zuI (zkps t R (342 + j) (R 184 j)) 184 j (zkpv t R (342 + j) (R 184 j))) (342 + j + 1) := zIv_step ht s0 (Or.inr (show j < 600 by omega)) (by first | rfl | (show 342 + j = _; omega))
    rw [if_neg ij']
    obtain ⟨R1, hR1⟩ : ∃ R1, R1 = zuI (zkps t R (342 + j) (R 184 j)) 184 j (zkpv t R (342 + j) (R 184 j)) := ⟨_, rfl⟩
    rw [← hR1]
    rw [← hR1] at s1
    rw [nI_1]
    refine ih (j + 1) (by omega) R1 ?_
    rw [show 342 + (j + 1) = 342 + j + 1 by omega]
    exact s1
theorem k279_35 (ht : t = 0 ∨ t = 1) {K : Int32 → (Nat → Nat → Int32) → (Nat → Nat → Int64) → Prop} {x : Int32} (hK : ∀ R, zIv t r R 76 → zCpv X (d + 1) 281 [.ref 178] (zs R g) (fun f1 g2 => zWp X (d + 1) zm279 69 [.ref 178, .int x, .int 0] [] (zs f1 g2) (zQi K))) : ∀ m j, j + m = 76 → ∀ R, zIv t r R (0 + j) → zWp X (d + 1) zm279 35 [.ref 178, .int x, .int (nI j)] [] (zs R g) (zQi K) := by
  intro m
  induction m with
  | zero =>
    intro j hj R s0
    have ej : j = 76 := by omega
    subst ej
    apply s279_35_178
    rw [if_pos (show (76 : Int32) ≤ nI 76 from by decide)]
    exact hK R s0
  | succ m ih =>
    intro j hj R s0
    apply s279_35_178
    rw [if_neg (show ¬ (76 : Int32) ≤ nI j from nI_ge (b := 76) (by omega) (by omega))]
    have kj := nI_cl (k := j) (by omega)
    have ij := nI_in (c := j) (N := 76) (by omega) (by omega)
    rw [if_neg ij, kj]
    have ij' := nI_in' (c := j) (N := 76) (by omega) (by omega)
    rw [q280 (t := t) (p := (0 + j)) s0.1 s0.2.1 (by omega)]
    have s1 : zIv t r (zuI (zkps t R (0 + j) (R 179 j)) 179 j (zkpv t R (0 + j) (R 179 j))) (0 + j + 1) := zIv_step ht s0 (Or.inr (show j < 76 by omega)) (by first | rfl | (show j = _; omega))
    rw [if_neg ij']
    obtain ⟨R1, hR1⟩ : ∃ R1, R1 = zuI (zkps t R (0 + j) (R 179 j)) 179 j (zkpv t R (0 + j) (R 179 j)) := ⟨_, rfl⟩
    rw [← hR1]
    rw [← hR1] at s1
    rw [nI_1]
    refine ih (j + 1) (by omega) R1 ?_
    rw [show 0 + (j + 1) = 0 + j + 1 by omega]
    exact s1
end ZIM

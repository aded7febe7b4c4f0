/-! both sides at the same token -/
/-- what reading may change, from f (class) and from r (reference) -/
def zFa (f F : Nat → Nat → Int32) : Prop := (∀ i, (i < 65 ∨ 80 < i ∨ i = 66) → F i = f i) ∧ F 65 5 = f 65 5
def zFb (r R : Nat → Nat → Int32) : Prop := (∀ i, ¬ i = 178 → ¬ (188 ≤ i ∧ i ≤ 197) → R i = r i) ∧ (∀ s, (s < 12 ∨ s = 31 ∨ 32 < s ∨ s = 32) → R 178 s = r 178 s) ∧ (∀ i, 188 ≤ i → i ≤ 191 → ∀ j, j < 32 → R i j = r i j) ∧ (∀ i, 192 ≤ i → i ≤ 193 → ∀ j, j < 800 → R i j = r i j) ∧ (∀ j, j < 48 → R 195 j = r 195 j) ∧ (∀ j, j < 64 → R 196 j = r 196 j) ∧ ∀ j, j < 48 → R 197 j = r 197 j
/-- what reading may change as long as nothing is at fault -/
def zFg (f F : Nat → Nat → Int32) : Prop := (∀ i, (i < 65 ∨ 80 < i ∨ i = 66) → F i = f i) ∧ F 65 5 = f 65 5 ∧ F 70 7 = f 70 7 ∧ F 70 8 = f 70 8
theorem zFg_a {f F : Nat → Nat → Int32} (h : zFg f F) : zFa f F := ⟨h.1, h.2.1⟩
theorem zFa_rf {f : Nat → Nat → Int32} : zFa f f := ⟨fun _ _ => rfl, rfl⟩
theorem zFb_rf {r : Nat → Nat → Int32} : zFb r r := ⟨fun _ _ _ => rfl, fun _ _ => rfl, fun _ _ _ _ _ => rfl, fun _ _ _ _ _ => rfl, fun _ _ => rfl, fun _ _ => rfl, fun _ _ => rfl⟩
theorem zFa_i {f F G : Nat → Nat → Int32} (h : zFa f F) (hG : ∀ i, (i < 65 ∨ 80 < i ∨ i = 66) → G i = F i) (h5 : G 65 5 = F 65 5) : zFa f G := ⟨fun i hi => by rw [hG i hi, h.1 i hi], by rw [h5, h.2]⟩
theorem zFa_u {f F : Nat → Nat → Int32} {i k : Nat} {x : Int32} (h : zFa f F) (hi : 67 ≤ i) (hi2 : i ≤ 80) : zFa f (zuI F i k x) := zFa_i h (fun j hj => zi_ne (by omega)) (by rw [zi_ne (by omega)])
theorem zFb_k {r R S : Nat → Nat → Int32} (h : zFb r R) (hk : zFk R S) : zFb r S := by
  obtain ⟨h1, h2, h3, h4, h5, h6, h7⟩ := h
  exact ⟨fun i a b => by rw [hk.1 i a, h1 i a b], fun s hs => by rw [hk.2 s (by omega), h2 s hs], fun i a b j hj => by rw [hk.1 i (by omega), h3 i a b j hj], fun i a b j hj => by rw [hk.1 i (by omega), h4 i a b j hj], fun j hj => by rw [hk.1 195 (by omega), h5 j hj], fun j hj => by rw [hk.1 196 (by omega), h6 j hj], fun j hj => by rw [hk.1 197 (by omega), h7 j hj]⟩
theorem zFb_s {r R : Nat → Nat → Int32} {s : Nat} {x : Int32} (h : zFb r R) (h1 : 12 ≤ s) (h2 : s ≤ 30) : zFb r (zuI R 178 s x) := by
  obtain ⟨k1, k2, k3, k4, k5, k6, k7⟩ := h
  exact ⟨fun i a b => by rw [zi_ne a, k1 i a b], fun t ht => by rw [zi_at, if_neg (by omega), k2 t ht], fun i a b j hj => by rw [zi_ne (by omega), k3 i a b j hj], fun i a b j hj => by rw [zi_ne (by omega), k4 i a b j hj], fun j hj => by rw [zi_ne (by omega), k5 j hj], fun j hj => by rw [zi_ne (by omega), k6 j hj], fun j hj => by rw [zi_ne (by omega), k7 j hj]⟩
/-- a number beyond what is in force -/
theorem zFb_r {r R : Nat → Nat → Int32} {i k : Nat} {x : Int32} (h : zFb r R) (hi : (188 ≤ i ∧ i ≤ 191 ∧ 32 ≤ k) ∨ (192 ≤ i ∧ i ≤ 193 ∧ 800 ≤ k) ∨ i = 194 ∨ (i = 195 ∧ 48 ≤ k) ∨ (i = 196 ∧ 64 ≤ k) ∨ (i = 197 ∧ 48 ≤ k)) : zFb r (zuI R i k x) := by
  obtain ⟨k1, k2, k3, k4, k5, k6, k7⟩ := h
  refine ⟨fun i' a b => by rw [zi_ne (by omega), k1 i' a b], fun t ht => by rw [zi_ne (by omega), k2 t ht], fun i' a b j hj => ?_, fun i' a b j hj => ?_, fun j hj => ?_, fun j hj => ?_, fun j hj => ?_⟩
  · rw [zu_ap, if_neg (by omega), k3 i' a b j hj]
  · rw [zu_ap, if_neg (by omega), k4 i' a b j hj]
  · rw [zu_ap, if_neg (by omega), k5 j hj]
  · rw [zu_ap, if_neg (by omega), k6 j hj]
  · rw [zu_ap, if_neg (by omega), k7 j hj]
def zJ (f r : Nat → Nat → Int32) (b : Nat → Nat) (n N : Nat) (F R : Nat → Nat → Int32) (j : Nat) : Prop := zTs F b n N ∧ ztp b n N = n ∧ F 65 5 = nI n ∧ F 70 3 = nI j ∧ j ≤ N ∧ zBr R b n ∧ zRk R b n N j ∧ zFg f F ∧ zFb r R
/-- a fault is told on both sides -/
def zEr (f r F R : Nat → Nat → Int32) : Prop := zFa f F ∧ zFb r R ∧ F 70 7 = R 178 29 ∧ F 70 8 = R 178 30
def zKn (b : Nat → Nat) (n N j : Nat) : Nat := if j < N then zKd b n j else 0
theorem zKd_in {b : Nat → Nat} {n j : Nat} : zKd b n j = 1 ∨ zKd b n j = 2 ∨ (128 ≤ zKd b n j ∧ zKd b n j < 150) ∨ zsgs.contains (zKd b n j) = true := by
  unfold zKd ztkd
  split
  · rcases zwix_in (b := b) (p := ztp b n j) (q := zbhd b n (ztp b n j)) zwrds 128 with z | ⟨z1, z2⟩
    · exact Or.inl z
    · have := zwrds_ok.2.2
      exact Or.inr (Or.inr (Or.inl ⟨z1, by omega⟩))
  · split
    · split
      · exact Or.inr (Or.inl rfl)
      · exact Or.inl rfl
    · split
      · next h => exact Or.inr (Or.inr (Or.inr h))
      · exact Or.inl rfl
theorem zsgs_in {c : Nat} (h : zsgs.contains c = true) : 40 ≤ c ∧ c ≤ 62 := by
  unfold zsgs at h
  simp only [List.contains_cons, List.contains_nil, Bool.or_false, Bool.or_eq_true, beq_iff_eq] at h
  omega
theorem zKn_le {b : Nat → Nat} {n N j : Nat} : zKn b n N j ≤ 150 := by
  unfold zKn
  split
  · rcases zKd_in (b := b) (n := n) (j := j) with z | z | z | z
    · omega
    · omega
    · omega
    · have := zsgs_in z
      omega
  · omega
theorem zVl_le {b : Nat → Nat} {n j : Nat} (h : zKd b n j = 2) : zVl b n j ≤ 9999 := by
  unfold zKd ztkd at h
  unfold zVl ztvl
  by_cases e : zlB (b (ztp b n j)) = true
  · rw [if_pos e]
    omega
  · rw [if_neg e] at h ⊢
    by_cases e2 : zdB (b (ztp b n j)) = true
    · rw [if_pos e2] at h ⊢
      by_cases e3 : zbhd b n (ztp b n j) - ztp b n j ≤ 4
      · rw [if_pos e3]
        have hd : ∀ i, ztp b n j ≤ i → i < zbhd b n (ztp b n j) → zdB (b i) = true := fun i h1 h2 => by
          by_cases ei : i = ztp b n j
          · rw [ei]
            exact e2
          · have ez : zbhd b n (ztp b n j) = zxt zdB b n 400 (ztp b n j + 1) := by
              unfold zbhd
              rw [if_neg e, if_pos e2]
            rw [ez] at h2
            exact zxt_in 400 _ i (by omega) h2
        rcases Nat.lt_or_ge (zbhd b n (ztp b n j)) (ztp b n j) with hlt | hge
        · rw [show zbhd b n (ztp b n j) - ztp b n j = 0 by omega]
          show 0 ≤ 9999
          omega
        · have h1 := znv_lt hd (zbhd b n (ztp b n j) - ztp b n j) (by omega)
          have h2 : 10 ^ (zbhd b n (ztp b n j) - ztp b n j) ≤ 10 ^ 4 := Nat.pow_le_pow_right (by omega) e3
          have h3 : (10 : Nat) ^ 4 = 10000 := by decide
          omega
      · rw [if_neg e3]
        omega
    · rw [if_neg e2]
      omega
section ZST2
variable {X : Nat × (Nat → Int32)} {d : Nat} {f r F R : Nat → Nat → Int32} {g : Nat → Nat → Int64} {b : Nat → Nat} {n N j : Nat}
theorem zRk_num (h : zRk R b n N j) : (R 178 14 = 3) = (zKn b n N j = 2) ∧ (zKn b n N j = 2 → R 178 15 = nI (zVl b n j)) := by
  unfold zKn
  rcases h.2 with ⟨hj, -, ht⟩ | ⟨hj, ht⟩
  · rw [if_pos hj]
    rcases ht with ⟨k1, k2⟩ | ⟨k1, k2, k3⟩ | ⟨k1, k2, k3, k4⟩ | ⟨k1, k2, k3⟩
    · rw [k1, k2]
      exact ⟨(eq_false (by decide)).trans (eq_false (by decide)).symm, fun z => absurd z (by decide)⟩
    · rw [k1, k2]
      exact ⟨(eq_true rfl).trans (eq_true rfl).symm, fun _ => k3⟩
    · rw [k3]
      exact ⟨(eq_false (by decide)).trans (eq_false (by omega)).symm, fun z => by omega⟩
    · have := zsgs_in k1
      rw [k2]
      exact ⟨(eq_false (by decide)).trans (eq_false (by omega)).symm, fun z => by omega⟩
  · rw [if_neg (by omega), ht]
    exact ⟨(eq_false (by decide)).trans (eq_false (by decide)).symm, fun z => absurd z (by decide)⟩
theorem zRk_word {w : Nat} (hw : w < 22) (h : zRk R b n N j) : (R 178 14 = 2 ∧ R 178 15 = nI w) = (zKn b n N j = 128 + w) := by
  unfold zKn
  rcases h.2 with ⟨hj, -, ht⟩ | ⟨hj, ht⟩
  · rw [if_pos hj]
    rcases ht with ⟨k1, k2⟩ | ⟨k1, k2, k3⟩ | ⟨k1, k2, k3, k4⟩ | ⟨k1, k2, k3⟩
    · rw [k1, k2]
      exact (eq_false (fun z => absurd z.1 (by decide))).trans (eq_false (by omega)).symm
    · rw [k1, k2]
      exact (eq_false (fun z => absurd z.1 (by decide))).trans (eq_false (by omega)).symm
    · rw [k3, k4]
      refine propext ⟨fun z => ?_, fun z => ⟨rfl, by rw [z, show 128 + w - 128 = w by omega]⟩⟩
      have := (nI_eq (by omega) (by omega)).mp z.2
      omega
    · have := zsgs_in k1
      rw [k2]
      exact (eq_false (fun z => absurd z.1 (by decide))).trans (eq_false (by omega)).symm
  · rw [if_neg (by omega), ht]
    exact (eq_false (fun z => absurd z.1 (by decide))).trans (eq_false (by omega)).symm
theorem zRk_sign {c : Nat} (hc : zsgs.contains c = true) (h : zRk R b n N j) : (R 178 14 = 4 ∧ R 178 15 = nI c) = (zKn b n N j = c) := by
  have hcc := zsgs_in hc
  unfold zKn
  rcases h.2 with ⟨hj, -, ht⟩ | ⟨hj, ht⟩
  · rw [if_pos hj]
    rcases ht with ⟨k1, k2⟩ | ⟨k1, k2, k3⟩ | ⟨k1, k2, k3, k4⟩ | ⟨k1, k2, k3⟩
    · rw [k1, k2]
      exact (eq_false (fun z => absurd z.1 (by decide))).trans (eq_false (by omega)).symm
    · rw [k1, k2]
      exact (eq_false (fun z => absurd z.1 (by decide))).trans (eq_false (by omega)).symm
    · rw [k3]
      exact (eq_false (fun z => absurd z.1 (by decide))).trans (eq_false (by omega)).symm
    · have := zsgs_in k1
      rw [k2, k3]
      refine propext ⟨fun z => (nI_eq (by omega) (by omega)).mp z.2, fun z => ⟨rfl, by rw [z]⟩⟩
  · rw [if_neg (by omega), ht]
    exact (eq_false (fun z => absurd z.1 (by decide))).trans (eq_false (by omega)).symm
theorem zRk_end (h : zRk R b n N j) : (R 178 14 = 0) = (zKn b n N j = 0) := by
  unfold zKn
  rcases h.2 with ⟨hj, -, ht⟩ | ⟨hj, ht⟩
  · rw [if_pos hj]
    rcases ht with ⟨k1, k2⟩ | ⟨k1, k2, k3⟩ | ⟨k1, k2, k3, k4⟩ | ⟨k1, k2, k3⟩
    · rw [k1, k2]
      exact (eq_false (by decide)).trans (eq_false (by decide)).symm
    · rw [k1, k2]
      exact (eq_false (by decide)).trans (eq_false (by decide)).symm
    · rw [k3]
      exact (eq_false (by decide)).trans (eq_false (by omega)).symm
    · have := zsgs_in k1
      rw [k2]
      exact (eq_false (by decide)).trans (eq_false (by omega)).symm
  · rw [if_neg (by omega), ht]
    exact (eq_true rfl).trans (eq_true rfl).symm
theorem q182 {w : Nat} {K : Int32 → (Nat → Nat → Int32) → (Nat → Nat → Int64) → Prop} (hw : w < 22) (h : zRk R b n N j) : zCpi X (d + 1) 182 [.ref 178, .int (nI w)] (zs R g) K = K (zb (zKn b n N j = 128 + w)) R g := by
  refine zCpi_eq (fun K hK => e182_178 ?_)
  have e := zRk_word hw h
  unfold zb at hK
  by_cases h1 : R 178 14 = 2
  · rw [if_pos h1]
    by_cases h2 : R 178 15 = nI w
    · rw [if_pos (by rw [← e]; exact ⟨h1, h2⟩)] at hK
      rw [if_pos h2, if_pos (Or.inr rfl)]
      exact hK
    · rw [if_neg (by rw [← e]; exact fun z => h2 z.2)] at hK
      rw [if_neg h2, if_pos (Or.inl rfl)]
      exact hK
  · rw [if_neg (by rw [← e]; exact fun z => h1 z.1)] at hK
    rw [if_neg h1, if_pos (Or.inl rfl)]
    exact hK
theorem q188 {c : Nat} {K : Int32 → (Nat → Nat → Int32) → (Nat → Nat → Int64) → Prop} (hc : zsgs.contains c = true) (h : zRk R b n N j) : zCpi X (d + 1) 188 [.ref 178, .int (nI c)] (zs R g) K = K (zb (zKn b n N j = c)) R g := by
  refine zCpi_eq (fun K hK => e188_178 ?_)
  have e := zRk_sign hc h
  unfold zb at hK
  by_cases h1 : R 178 14 = 4
  · rw [if_pos h1]
    by_cases h2 : R 178 15 = nI c
    · rw [if_pos (by rw [← e]; exact ⟨h1, h2⟩)] at hK
      rw [if_pos h2, if_pos (Or.inr rfl)]
      exact hK
    · rw [if_neg (by rw [← e]; exact fun z => h2 z.2)] at hK
      rw [if_neg h2, if_pos (Or.inl rfl)]
      exact hK
  · rw [if_neg (by rw [← e]; exact fun z => h1 z.1)] at hK
    rw [if_neg h1, if_pos (Or.inl rfl)]
    exact hK
theorem q183 {a : Int32} {K : Int32 → (Nat → Nat → Int32) → (Nat → Nat → Int64) → Prop} : zCpi X (d + 1) 183 [.ref 178, .int a] (zs R g) K = K (-1) (zuI (zuI R 178 29 a) 178 30 (R 178 13)) g := zCpi_eq (fun K hK => e183_178 hK)
theorem q85 {K : Int32 → (Nat → Nat → Int32) → (Nat → Nat → Int64) → Prop} (hT : zTs F b n N) (hj : j ≤ N) : zCpi X (d + 1) 85 [.ref 65, .int (nI j)] (zs F g) K = K (nI (zKn b n N j)) F g := by
  obtain ⟨t1, t2, t3⟩ := hT
  refine zCpi_eq (fun K hK => e85_65 ?_)
  unfold zKn at hK
  rw [if_neg (nI_pos (by omega)), t1]
  by_cases h : j < N
  · rw [if_pos h] at hK
    rw [if_neg (nI_ge h (by omega)), if_neg (nI_in (by omega) (by omega)), nI_cl (by omega), (t3 j h).2.1]
    exact hK
  · rw [if_neg h] at hK
    rw [if_pos (nI_le (by omega) (by omega))]
    exact hK
theorem q86 {K : Int32 → (Nat → Nat → Int32) → (Nat → Nat → Int64) → Prop} (hT : zTs F b n N) (hj : j < N) : zCpi X (d + 1) 86 [.ref 65, .int (nI j)] (zs F g) K = K (nI (zVl b n j)) F g := by
  obtain ⟨t1, t2, t3⟩ := hT
  refine zCpi_eq (fun K hK => e86_65 ?_)
  rw [if_neg (nI_pos (by omega)), t1, if_neg (nI_ge hj (by omega)), if_neg (nI_in (by omega) (by omega)), nI_cl (by omega), (t3 j hj).2.2.2]
  exact hK
theorem q50 {a : Int32} {K : Int32 → (Nat → Nat → Int32) → (Nat → Nat → Int64) → Prop} (hT : zTs F b n N) (hN : ztp b n N = n) (h5 : F 65 5 = nI n) (h3 : F 70 3 = nI j) (hj : j ≤ N) : zCpi X (d + 1) 50 [.ref 70, .int a] (zs F g) K = K 0 (zuI (zuI F 70 7 a) 70 8 (nI (ztp b n j))) g := by
  obtain ⟨t1, t2, t3⟩ := hT
  refine zCpi_eq (fun K hK => e50_70 ?_)
  rw [t1, h3]
  by_cases h : j < N
  · rw [if_neg (nI_ge h (by omega)), if_neg (nI_in (by omega) (by omega)), nI_cl (by omega), (t3 j h).2.2.1, if_pos (Or.inl rfl)]
    exact hK
  · have ej : j = N := by omega
    rw [if_pos (nI_le (by omega) (by omega)), if_pos (Or.inl rfl), h5]
    rw [ej, hN] at hK
    exact hK
/-- the fault is told -/
theorem zJ_er {c : Int32} (h : zJ f r b n N F R j) : zEr f r (zuI (zuI F 70 7 c) 70 8 (nI (ztp b n j))) (zuI (zuI R 178 29 c) 178 30 (R 178 13)) := by
  obtain ⟨h1, h2, h3, h4, h5, h6, h7, h8, h9⟩ := h
  refine ⟨zFa_u (zFa_u (zFg_a h8) (by omega) (by omega)) (by omega) (by omega), zFb_s (zFb_s h9 (by omega) (by omega)) (by omega) (by omega), ?_, ?_⟩
  · rw [zi_at, if_neg (by omega), zi_at, if_pos rfl, zi_at, if_neg (by omega), zi_at, if_pos rfl]
  · rw [zi_at, if_pos rfl, zi_at, if_pos rfl]
    exact h7.1.symm
/-- on to the next token -/
theorem zJ_rd (h : zJ f r b n N F R j) (hj : j < N) : ∃ S, zFk R S ∧ zRk S b n N (j + 1) ∧ ∀ Kv : (Nat → Nat → Int32) → (Nat → Nat → Int64) → Prop, zCpv X (d + 4) 175 [.ref 178] (zs R g) Kv = Kv S g := by
  obtain ⟨⟨t1, t2, t3⟩, h2, h3, h4, h5, h6, h7, h8, h9⟩ := h
  have h12 : R 178 12 = nI (zbhd b n (ztp b n j)) := by
    rcases h7.2 with ⟨-, z, -⟩ | ⟨z, -⟩
    · exact z
    · omega
  have hb := zbhd_lt (b := b) (t3 j hj).1
  have hl := l175 (X := X) (d := d) (g := g) (N := N) (j := j + 1) (Kv := fun S g' => zRk S b n N (j + 1) ∧ zFk R S ∧ g = g') h6 h12 hb.2 rfl (by
    by_cases e : j + 1 < N
    · exact Or.inl ⟨e, (t3 (j + 1) e).1⟩
    · have e2 : j + 1 = N := by omega
      exact Or.inr ⟨e2, by rw [e2]; exact h2⟩) (fun S s1 s2 => ⟨s1, s2, rfl⟩)
  obtain ⟨S, g', ⟨s1, s2, s3⟩, s4⟩ := zCpv_en hl
  subst s3
  exact ⟨S, s2, s1, s4⟩
/-- where both stand afterwards -/
theorem zJ_go {G S : Nat → Nat → Int32} (h : zJ f r b n N F R j) (hj : j < N) (hk : zFk R S) (hr : zRk S b n N (j + 1)) (hG : ∀ i, ¬ i = 70 → ¬ (71 ≤ i ∧ i ≤ 80) → G i = F i) (h3 : G 70 3 = nI (j + 1)) (h70 : ∀ k, ¬ k = 3 → G 70 k = F 70 k) : zJ f r b n N G S (j + 1) := by
  obtain ⟨⟨t1, t2, t3⟩, h2, h3', h4, h5, h6, h7, h8, h9⟩ := h
  refine ⟨⟨by rw [hG 65 (by omega) (by omega)]; exact t1, t2, fun i hi => ?_⟩, h2, by rw [hG 65 (by omega) (by omega)]; exact h3', h3, by omega, zBr_f hk h6, hr, ⟨fun i hi => by rw [hG i (by omega) (by omega), h8.1 i hi], by rw [hG 65 (by omega) (by omega), h8.2.1], by rw [h70 7 (by omega), h8.2.2.1], by rw [h70 8 (by omega), h8.2.2.2]⟩, zFb_k h9 hk⟩
  rw [hG 67 (by omega) (by omega), hG 68 (by omega) (by omega), hG 69 (by omega) (by omega)]
  exact t3 i hi
end ZST2

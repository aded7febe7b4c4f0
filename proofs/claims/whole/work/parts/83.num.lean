/-! steps: a mark, a word, a number -/
section ZNU
variable {X : Nat × (Nat → Int32)} {d e : Nat} {f r F R : Nat → Nat → Int32} {g gr : Nat → Nat → Int64} {b : Nat → Nat} {n N j : Nat}
theorem zKn_lt {k : Nat} (hk : 0 < k) (h : zKn b n N j = k) : j < N := by
  unfold zKn at h
  split at h
  · assumption
  · omega
theorem q57 {k : Nat} {K : Int32 → (Nat → Nat → Int32) → (Nat → Nat → Int64) → Prop} (h : zJ f r b n N F R j) (hk : k ≤ 150) : zCpi X (d + 2) 57 [.ref 70, .int (nI k)] (zs F g) K = if zKn b n N j = k then K 1 (zuI F 70 3 (nI (j + 1))) g else K 0 (zuI (zuI F 70 7 1) 70 8 (nI (ztp b n j))) g := by
  obtain ⟨h1, h2, h3, h4, h5, h6, h7, h8, h9⟩ := h
  have kl := zKn_le (b := b) (n := n) (N := N) (j := j)
  by_cases c : zKn b n N j = k
  · rw [if_pos c]
    refine zCpi_eq (fun K hK => e57_70 ?_)
    rw [h4, q85 h1 h5, if_pos (by rw [c]), if_pos (Or.inr rfl), h4, nI_1]
    exact hK
  · rw [if_neg c]
    refine zCpi_eq (fun K hK => e57_70 ?_)
    rw [h4, q85 h1 h5, if_neg (nI_neq (by omega) (by omega) c), q50 h1 h2 h3 h4 h5, if_pos (Or.inl rfl)]
    exact hK
/-- a mark -/
theorem mk_j {c : Nat} (hc : zsgs.contains c = true) (h : zJ f r b n N F R j) : (∃ S, zKn b n N j = c ∧ (∀ K : Int32 → (Nat → Nat → Int32) → (Nat → Nat → Int64) → Prop, zCpi X (d + 2) 57 [.ref 70, .int (nI c)] (zs F g) K = K 1 (zuI F 70 3 (nI (j + 1))) g) ∧ (∀ K : Int32 → (Nat → Nat → Int32) → (Nat → Nat → Int64) → Prop, zCpi X (e + 5) 187 [.ref 178, .int (nI c)] (zs R gr) K = K 0 S gr) ∧ zFk R S ∧ zJ f r b n N (zuI F 70 3 (nI (j + 1))) S (j + 1)) ∨ (¬ zKn b n N j = c ∧ ∃ F' R', (∀ K : Int32 → (Nat → Nat → Int32) → (Nat → Nat → Int64) → Prop, zCpi X (d + 2) 57 [.ref 70, .int (nI c)] (zs F g) K = K 0 F' g) ∧ (∀ K : Int32 → (Nat → Nat → Int32) → (Nat → Nat → Int64) → Prop, zCpi X (e + 5) 187 [.ref 178, .int (nI c)] (zs R gr) K = K (-1) R' gr) ∧ zEr f r F' R') := by
  have hcc := zsgs_in hc
  by_cases hk : zKn b n N j = c
  · have hjN := zKn_lt (by omega) hk
    obtain ⟨S, s1, s2, s3⟩ := zJ_rd (X := X) (d := e) (g := gr) h hjN
    refine Or.inl ⟨S, hk, fun K => by rw [q57 h (by omega), if_pos hk], fun K => zCpi_eq (fun K hK => e187_178 ?_), s1, zJ_go h hjN s1 s2 (fun i hi _ => zi_ne hi) (by rw [zi_at, if_pos rfl]) (fun k hk => by rw [zi_at, if_neg hk])⟩
    rw [q188 hc h.2.2.2.2.2.2.1, if_neg (by rw [zb_0]; exact fun z => z hk), s3]
    exact hK
  · refine Or.inr ⟨hk, _, _, fun K => by rw [q57 h (by omega), if_neg hk], fun K => zCpi_eq (fun K hK => e187_178 ?_), zJ_er (c := 1) h⟩
    rw [q188 hc h.2.2.2.2.2.2.1, if_pos (by rw [zb_0]; exact hk), q183]
    exact hK
/-- a word, behind which a number is told -/
theorem wd_j {w : Nat} {lo hi : Int32} (hw : w < 22) (h : zJ f r b n N F R j) : (∃ S, zKn b n N j = 128 + w ∧ (∀ K : Int32 → (Nat → Nat → Int32) → (Nat → Nat → Int64) → Prop, zCpi X (d + 2) 57 [.ref 70, .int (nI (128 + w))] (zs F g) K = K 1 (zuI F 70 3 (nI (j + 1))) g) ∧ (∀ K : Int32 → (Nat → Nat → Int32) → (Nat → Nat → Int64) → Prop, zCpi X (e + 4) 186 [.ref 178, .int lo, .int hi] (zs S gr) K → zCpi X (e + 5) 185 [.ref 178, .int (nI w), .int lo, .int hi] (zs R gr) K) ∧ zFk R S ∧ zJ f r b n N (zuI F 70 3 (nI (j + 1))) S (j + 1)) ∨ (¬ zKn b n N j = 128 + w ∧ ∃ F' R', (∀ K : Int32 → (Nat → Nat → Int32) → (Nat → Nat → Int64) → Prop, zCpi X (d + 2) 57 [.ref 70, .int (nI (128 + w))] (zs F g) K = K 0 F' g) ∧ (∀ K : Int32 → (Nat → Nat → Int32) → (Nat → Nat → Int64) → Prop, K (-1) R' gr → zCpi X (e + 5) 185 [.ref 178, .int (nI w), .int lo, .int hi] (zs R gr) K) ∧ zEr f r F' R') := by
  by_cases hk : zKn b n N j = 128 + w
  · have hjN := zKn_lt (by omega) hk
    obtain ⟨S, s1, s2, s3⟩ := zJ_rd (X := X) (d := e) (g := gr) h hjN
    refine Or.inl ⟨S, hk, fun K => by rw [q57 h (by omega), if_pos hk], fun K hK => e185_178 ?_, s1, zJ_go h hjN s1 s2 (fun i hi _ => zi_ne hi) (by rw [zi_at, if_pos rfl]) (fun k hk => by rw [zi_at, if_neg hk])⟩
    rw [q182 hw h.2.2.2.2.2.2.1, if_neg (by rw [zb_0]; exact fun z => z hk), s3]
    exact hK
  · refine Or.inr ⟨hk, _, _, fun K => by rw [q57 h (by omega), if_neg hk], fun K hK => e185_178 ?_, zJ_er (c := 1) h⟩
    rw [q182 hw h.2.2.2.2.2.2.1, if_pos (by rw [zb_0]; exact hk), q183]
    exact hK
theorem zge0 {v : Nat} (hv : v ≤ 9999) : (0 : Int32).toInt ≤ (nI v).toInt := by
  rw [nI_ti (by omega)]
  have : (0 : Int32).toInt = 0 := rfl
  omega
/-- the number at this token, up to so much -/
theorem q60 {k : Nat} {hi : Int32} {K : Int32 → (Nat → Nat → Int32) → (Nat → Nat → Int64) → Prop} (hk : k < 5) (h : zJ f r b n N F R j) : zCpi X (d + 2) 60 [.ref 70, .int (nI k), .int hi] (zs F g) K = if zKn b n N j = 2 then (if nI (zVl b n j) ≤ hi then K 1 (zuI (zuI F 71 k (nI (zVl b n j))) 70 3 (nI (j + 1))) g else K 0 (zuI (zuI F 70 7 2) 70 8 (nI (ztp b n j))) g) else K 0 (zuI (zuI F 70 7 1) 70 8 (nI (ztp b n j))) g := by
  obtain ⟨h1, h2, h3, h4, h5, h6, h7, h8, h9⟩ := h
  have kl := zKn_le (b := b) (n := n) (N := N) (j := j)
  by_cases c : zKn b n N j = 2
  · have hjN := zKn_lt (by omega) c
    rw [if_pos c]
    by_cases c2 : nI (zVl b n j) ≤ hi
    · rw [if_pos c2]
      refine zCpi_eq (fun K hK => e60_70 ?_)
      rw [h4, q85 h1 h5, if_pos (by rw [c]; rfl), h4, q86 h1 hjN, if_pos c2, if_neg (nI_pos (by omega)), if_neg (show ¬ (5 : Int32) ≤ nI k from nI_ge (b := 5) hk (by omega)), if_neg (nI_in (by omega) (by omega)), nI_cl (by omega), if_pos (Or.inr rfl), h4, nI_1]
      exact hK
    · rw [if_neg c2]
      refine zCpi_eq (fun K hK => e60_70 ?_)
      rw [h4, q85 h1 h5, if_pos (by rw [c]; rfl), h4, q86 h1 hjN, if_neg c2, q50 h1 h2 h3 h4 h5, if_pos (Or.inl rfl)]
      exact hK
  · rw [if_neg c]
    refine zCpi_eq (fun K hK => e60_70 ?_)
    rw [h4, q85 h1 h5, if_neg (show ¬ nI (zKn b n N j) = (2 : Int32) from nI_neq (c := 2) (by omega) (by omega) c), q50 h1 h2 h3 h4 h5, if_pos (Or.inl rfl)]
    exact hK
/-- a number of at least lo; the class's is cl -/
theorem r186 {lo hi : Int32} (h : zJ f r b n N F R j) : (∃ S, zKn b n N j = 2 ∧ (lo.toInt ≤ (nI (zVl b n j)).toInt ∧ (nI (zVl b n j)).toInt ≤ hi.toInt) ∧ (∀ K : Int32 → (Nat → Nat → Int32) → (Nat → Nat → Int64) → Prop, zCpi X (e + 5) 186 [.ref 178, .int lo, .int hi] (zs R gr) K = K (nI (zVl b n j)) S gr) ∧ zFk R S ∧ zRk S b n N (j + 1)) ∨ (zKn b n N j = 2 ∧ ¬ (lo.toInt ≤ (nI (zVl b n j)).toInt ∧ (nI (zVl b n j)).toInt ≤ hi.toInt) ∧ ∀ K : Int32 → (Nat → Nat → Int32) → (Nat → Nat → Int64) → Prop, zCpi X (e + 5) 186 [.ref 178, .int lo, .int hi] (zs R gr) K = K (-1) (zuI (zuI R 178 29 2) 178 30 (R 178 13)) gr) ∨ (¬ zKn b n N j = 2 ∧ ∀ K : Int32 → (Nat → Nat → Int32) → (Nat → Nat → Int64) → Prop, zCpi X (e + 5) 186 [.ref 178, .int lo, .int hi] (zs R gr) K = K (-1) (zuI (zuI R 178 29 1) 178 30 (R 178 13)) gr) := by
  obtain ⟨z1, z2⟩ := zRk_num h.2.2.2.2.2.2.1
  by_cases hk : zKn b n N j = 2
  · have hjN := zKn_lt (by omega) hk
    have h14 : R 178 14 = 3 := by rw [z1]; exact hk
    by_cases hin : lo.toInt ≤ (nI (zVl b n j)).toInt ∧ (nI (zVl b n j)).toInt ≤ hi.toInt
    · obtain ⟨S, s1, s2, s3⟩ := zJ_rd (X := X) (d := e) (g := gr) h hjN
      refine Or.inl ⟨S, hk, hin, fun K => zCpi_eq (fun K hK => e186_178 ?_), s1, s2⟩
      rw [if_pos h14, z2 hk, q165, if_neg (by rw [zb_0]; exact fun z => z hin), s3, z2 hk]
      exact hK
    · refine Or.inr (Or.inl ⟨hk, hin, fun K => zCpi_eq (fun K hK => e186_178 ?_)⟩)
      rw [if_pos h14, z2 hk, q165, if_pos (by rw [zb_0]; exact hin), q183]
      exact hK
  · refine Or.inr (Or.inr ⟨hk, fun K => zCpi_eq (fun K hK => e186_178 ?_)⟩)
    rw [if_neg (by rw [z1]; exact hk), q183]
    exact hK
theorem nm_j {k : Nat} {hi : Int32} (hk : k < 5) (h : zJ f r b n N F R j) : (∃ S, (∀ K : Int32 → (Nat → Nat → Int32) → (Nat → Nat → Int64) → Prop, zCpi X (d + 2) 60 [.ref 70, .int (nI k), .int hi] (zs F g) K = K 1 (zuI (zuI F 71 k (nI (zVl b n j))) 70 3 (nI (j + 1))) g) ∧ (∀ K : Int32 → (Nat → Nat → Int32) → (Nat → Nat → Int64) → Prop, zCpi X (e + 5) 186 [.ref 178, .int 0, .int hi] (zs R gr) K = K (nI (zVl b n j)) S gr) ∧ zVl b n j ≤ 9999 ∧ (nI (zVl b n j)).toInt ≤ hi.toInt ∧ zFk R S ∧ zJ f r b n N (zuI (zuI F 71 k (nI (zVl b n j))) 70 3 (nI (j + 1))) S (j + 1)) ∨ (∃ F' R', (∀ K : Int32 → (Nat → Nat → Int32) → (Nat → Nat → Int64) → Prop, zCpi X (d + 2) 60 [.ref 70, .int (nI k), .int hi] (zs F g) K = K 0 F' g) ∧ (∀ K : Int32 → (Nat → Nat → Int32) → (Nat → Nat → Int64) → Prop, zCpi X (e + 5) 186 [.ref 178, .int 0, .int hi] (zs R gr) K = K (-1) R' gr) ∧ zEr f r F' R') := by
  rcases r186 (X := X) (e := e) (gr := gr) (lo := 0) (hi := hi) h with ⟨S, c1, c2, c3, c4, c5⟩ | ⟨c1, c2, c3⟩ | ⟨c1, c3⟩
  · have hjN := zKn_lt (by omega) c1
    have hv : zVl b n j ≤ 9999 := zVl_le (by unfold zKn at c1; rw [if_pos hjN] at c1; exact c1)
    have c6 : nI (zVl b n j) ≤ hi := by simp only [Int32.lt_iff_toInt_lt, Int32.le_iff_toInt_le]; exact c2.2
    exact Or.inl ⟨S, fun K => by rw [q60 hk h, if_pos c1, if_pos c6], c3, hv, c2.2, c4, zJ_go h hjN c4 c5 (fun i hi hi2 => by rw [zi_ne hi, zi_ne (by omega)]) (by rw [zi_at, if_pos rfl]) (fun k hk => by rw [zi_at, if_neg hk, zi_ne (by omega)])⟩
  · have hjN := zKn_lt (by omega) c1
    have hv : zVl b n j ≤ 9999 := zVl_le (by unfold zKn at c1; rw [if_pos hjN] at c1; exact c1)
    have c6 : ¬ nI (zVl b n j) ≤ hi := by simp only [Int32.lt_iff_toInt_lt, Int32.le_iff_toInt_le]; exact fun z => c2 ⟨zge0 hv, z⟩
    exact Or.inr ⟨_, _, fun K => by rw [q60 hk h, if_pos c1, if_neg c6], c3, zJ_er (c := 2) h⟩
  · exact Or.inr ⟨_, _, fun K => by rw [q60 hk h, if_neg c1], c3, zJ_er (c := 1) h⟩
/-- how loud -/
theorem ld_j (h : zJ f r b n N F R j) : (∃ S, (∀ K : Int32 → (Nat → Nat → Int32) → (Nat → Nat → Int64) → Prop, zCpi X (d + 4) 63 [.ref 70] (zs F g) K = K 1 (zuI (zuI F 71 3 (nI (zVl b n j))) 70 3 (nI (j + 1))) g) ∧ (∀ K : Int32 → (Nat → Nat → Int32) → (Nat → Nat → Int64) → Prop, zCpi X (e + 5) 186 [.ref 178, .int 1, .int 9] (zs R gr) K = K (nI (zVl b n j)) S gr) ∧ zVl b n j ≤ 9 ∧ 1 ≤ zVl b n j ∧ zFk R S ∧ zJ f r b n N (zuI (zuI F 71 3 (nI (zVl b n j))) 70 3 (nI (j + 1))) S (j + 1)) ∨ (∃ F' R', (∀ K : Int32 → (Nat → Nat → Int32) → (Nat → Nat → Int64) → Prop, zCpi X (d + 4) 63 [.ref 70] (zs F g) K = K 0 F' g) ∧ (∀ K : Int32 → (Nat → Nat → Int32) → (Nat → Nat → Int64) → Prop, zCpi X (e + 5) 186 [.ref 178, .int 1, .int 9] (zs R gr) K = K (-1) R' gr) ∧ zEr f r F' R') := by
  obtain ⟨h1, h2, h3, h4, h5, h6, h7, h8, h9⟩ := id h
  have e1 : (1 : Int32).toInt = 1 := rfl
  have e9 : (9 : Int32).toInt = 9 := rfl
  have kl := zKn_le (b := b) (n := n) (N := N) (j := j)
  have hc60 := fun (K : Int32 → (Nat → Nat → Int32) → (Nat → Nat → Int64) → Prop) => q60 (X := X) (d := d + 1) (g := g) (k := 3) (hi := 9) (K := K) (by omega) h
  rcases r186 (X := X) (e := e) (gr := gr) (lo := 1) (hi := 9) h with ⟨S, c1, c2, c3, c4, c5⟩ | ⟨c1, c2, c3⟩ | ⟨c1, c3⟩
  · have hjN := zKn_lt (by omega) c1
    have hv : zVl b n j ≤ 9999 := zVl_le (by unfold zKn at c1; rw [if_pos hjN] at c1; exact c1)
    rw [nI_ti (by omega), e1, e9] at c2
    refine Or.inl ⟨S, fun K => zCpi_eq (fun K hK => e63_70 ?_), c3, by omega, by omega, c4, zJ_go h hjN c4 c5 (fun i hi hi2 => by rw [zi_ne hi, zi_ne (by omega)]) (by rw [zi_at, if_pos rfl]) (fun k hk => by rw [zi_at, if_neg hk, zi_ne (by omega)])⟩
    rw [h4, q85 h1 h5, if_pos (by rw [c1]; rfl), h4, q86 h1 hjN, if_neg (nI_z (by omega) (by omega)), show (3 : Int32) = nI 3 from rfl, hc60, if_pos c1, if_pos (show nI (zVl b n j) ≤ (9 : Int32) from nI_le (b := 9) (by omega) (by omega)), if_pos (Or.inr rfl)]
    exact hK
  · have hjN := zKn_lt (by omega) c1
    have hv : zVl b n j ≤ 9999 := zVl_le (by unfold zKn at c1; rw [if_pos hjN] at c1; exact c1)
    rw [nI_ti (by omega), e1, e9] at c2
    refine Or.inr ⟨_, _, fun K => zCpi_eq (fun K hK => e63_70 ?_), c3, zJ_er (c := 2) h⟩
    rw [h4, q85 h1 h5, if_pos (by rw [c1]; rfl), h4, q86 h1 hjN]
    by_cases c0 : zVl b n j = 0
    · rw [if_pos (by rw [c0]; rfl), q50 h1 h2 h3 h4 h5, if_pos (Or.inl rfl)]
      exact hK
    · rw [if_neg (nI_z (by omega) (by omega)), show (3 : Int32) = nI 3 from rfl, hc60, if_pos c1, if_neg (show ¬ nI (zVl b n j) ≤ (9 : Int32) from nI_ge (a := 9) (by omega) (by omega)), if_pos (Or.inl rfl)]
      exact hK
  · refine Or.inr ⟨_, _, fun K => zCpi_eq (fun K hK => e63_70 ?_), c3, zJ_er (c := 1) h⟩
    rw [h4, q85 h1 h5, if_neg (show ¬ nI (zKn b n N j) = (2 : Int32) from nI_neq (c := 2) (by omega) (by omega) c1), show (3 : Int32) = nI 3 from rfl, hc60, if_neg c1, if_pos (Or.inl rfl)]
    exact hK
end ZNU

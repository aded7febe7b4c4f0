/-! image: what the relation of two worlds rests on -/
theorem zRow_congr {a a2 b b2 : Nat → Int32} {n1 n2 : Int32} {cap : Nat} {hi : Int} (h1 : ∀ j, j < cap → a2 j = a j) (h2 : ∀ j, j < cap → b2 j = b j) (h : zRow n1 a n2 b cap hi) : zRow n1 a2 n2 b2 cap hi := by
  obtain ⟨k, hk, e1, e2, e3⟩ := h
  refine ⟨k, hk, e1, e2, fun j hj => ?_⟩
  rw [h1 j (by omega), h2 j (by omega)]
  exact e3 j hj
theorem zCou_congr {a a2 b b2 : Nat → Int32} {n1 n2 : Int32} (h1 : ∀ j, j < 16 → a2 j = a j) (h2 : ∀ j, j < 16 → b2 j = b j) (h : zCou n1 a n2 b) : zCou n1 a2 n2 b2 := by
  obtain ⟨k, hk, e1, e2, e3⟩ := h
  refine ⟨k, hk, e1, e2, fun j hj => ?_⟩
  rw [h1 j (by omega), h2 j (by omega)]
  exact e3 j hj
theorem zCos_congr {a a2 b b2 : Nat → Int32} (h1 : ∀ j, j < 36 → a2 j = a j) (h2 : ∀ j, j < 36 → b2 j = b j) (h : zCos a b) : zCos a2 b2 := by
  intro p q hp hq
  rw [h1 (6 * p + q) (by omega), h1 (6 * q + p) (by omega), h2 (6 * p + q) (by omega)]
  exact h p q hp hq
theorem zTyp_congr {c c2 : Nat → Int32} : ∀ m i s, (∀ j, j < i + m → c2 j = c j) → zTyp c2 i m s = zTyp c i m s
  | 0, _, _, _ => by unfold zTyp; rfl
  | m + 1, i, s, h => by
    have ih := fun s => zTyp_congr (c := c) (c2 := c2) m (i + 1) s (fun j hj => h j (by omega))
    conv => lhs; unfold zTyp
    conv => rhs; unfold zTyp
    rw [h i (by omega), h (i - 1) (by omega)]
    simp only [ih]
theorem zLaw_congr {n1 n2 : Int32} {cd lw sm wh en lW lF lH lT op ar cd' lw' sm' wh' en' lW' lF' lH' lT' op' ar' : Nat → Int32} (h1 : ∀ j, j < 400 → cd' j = cd j) (h2 : ∀ j, j < 16 → lw' j = lw j) (h3 : ∀ j, j < 16 → sm' j = sm j) (h4 : ∀ j, j < 16 → wh' j = wh j) (h5 : ∀ j, j < 16 → en' j = en j) (h6 : ∀ j, j < 16 → lW' j = lW j) (h7 : ∀ j, j < 16 → lF' j = lF j) (h8 : ∀ j, j < 16 → lH' j = lH j) (h9 : ∀ j, j < 16 → lT' j = lT j) (h10 : ∀ j, j < 400 → op' j = op j) (h11 : ∀ j, j < 400 → ar' j = ar j)
    (h : zLaw n1 cd lw sm wh en n2 lW lF lH lT op ar) : zLaw n1 cd' lw' sm' wh' en' n2 lW' lF' lH' lT' op' ar' := by
  obtain ⟨k, hk, e1, e2, e3⟩ := h
  refine ⟨k, hk, e1, e2, fun l hl => ?_⟩
  obtain ⟨w, a, b, c, y1, y2, y3, y4, y5, y6, y7, y8, y9, y10, y11, y12, y13, y14, y15⟩ := e3 l hl
  refine ⟨w, a, b, c, y1, y2, y3, y4, by rw [h2 l (by omega)]; exact y5, by rw [h6 l (by omega)]; exact y6, by rw [h3 l (by omega)]; exact y7, by rw [h7 l (by omega)]; exact y8, by rw [h4 l (by omega)]; exact y9, by rw [h8 l (by omega)]; exact y10, by rw [h5 l (by omega)]; exact y11, by rw [h9 l (by omega)]; exact y12, fun i i1 i2 => by rw [h1 i (by omega), h10 i (by omega), h11 i (by omega)]; exact y13 i i1 i2, ?_, ?_⟩
  · rw [zTyp_congr (c := cd) _ _ _ (fun j hj => h1 j (by omega))]
    exact y14
  · rcases y15 with z | z
    · exact Or.inl z
    · refine Or.inr ?_
      rw [zTyp_congr (c := cd) _ _ _ (fun j hj => h1 j (by omega))]
      exact z
theorem zSco_congr {a a2 b b2 : Nat → Int32} {n1 n2 : Int32} (h1 : ∀ j, j < 80 → a2 j = a j) (h2 : ∀ j, j < 48 → b2 j = b j) (h : zSco n1 a n2 b) : zSco n1 a2 n2 b2 := by
  obtain ⟨k, hk, e1, e2, e3⟩ := h
  refine ⟨k, hk, e1, e2, fun j hj => ?_⟩
  rw [h1 (5 * j) (by omega), h1 (5 * j + 2) (by omega), h1 (5 * j + 3) (by omega), h2 (3 * j) (by omega), h2 (3 * j + 1) (by omega), h2 (3 * j + 2) (by omega)]
  exact e3 j hj
theorem zSta_congr {a a2 b b2 : Nat → Int32} {n1 n2 pl : Int32} (h1 : ∀ j, j < 80 → a2 j = a j) (h2 : ∀ j, j < 64 → b2 j = b j) (h : zSta n1 a n2 b pl) : zSta n1 a2 n2 b2 pl := by
  obtain ⟨k, n, hk, hn, e1, e2, e3, e4⟩ := h
  refine ⟨k, n, hk, hn, e1, e2, e3, fun j hj => ?_⟩
  rw [h1 (5 * j) (by omega), h1 (5 * j + 1) (by omega), h1 (5 * j + 2) (by omega), h1 (5 * j + 3) (by omega), h1 (5 * j + 4) (by omega), h2 (4 * j) (by omega), h2 (4 * j + 1) (by omega), h2 (4 * j + 2) (by omega), h2 (4 * j + 3) (by omega)]
  exact e4 j hj
theorem zHal_er {c st un bt pl : Int32} {L E Xs Ys N O A W w er er2 : Nat → Int32} {B : Int} (he : ∀ j, j < 12 → er2 j = er j) (h : zHal c st un bt L E Xs Ys N O A W w pl er B) : zHal c st un bt L E Xs Ys N O A W w pl er2 B := by
  obtain ⟨n, hn, h1, h2, h3, h4, h5, h6, h7, h8⟩ := h
  refine ⟨n, hn, h1, h2, h3, h4, h5, h6, h7, fun p hp => ?_⟩
  rw [he p (by omega)]
  exact h8 p hp
theorem zPil_congr {g : Int64} {w w2 : Nat → Int32} (h1 : ∀ j, j < 48 → w2 j = w j) (h : zPil g w) : zPil g w2 := by
  obtain ⟨P, hP, e1, e2⟩ := h
  exact ⟨P, hP, e1, fun k hk => by rw [h1 k hk]; exact e2 k hk⟩
theorem zBoo_congr {a a2 b b2 : Nat → Int32} {n1 n2 : Int32} (h1 : ∀ j, j < 600 → a2 j = a j) (h2 : ∀ j, j < 600 → b2 j = b j) (h : zBoo n1 a n2 b) : zBoo n1 a2 n2 b2 := by
  obtain ⟨k, hk, e1, e2, e3⟩ := h
  refine ⟨k, hk, e1, e2, fun j hj => ?_⟩
  rw [h1 j (by omega), h2 j (by omega)]
  exact e3 j hj
def zKlo : Nat → Nat
  | 1 => 10
  | 2 => 8
  | 11 => 1
  | 13 => 7
  | 20 => 1
  | 22 => 1
  | 25 => 1
  | 27 => 1
  | 29 => 1
  | 31 => 1
  | _ => 0
def zKhi : Nat → Nat
  | 1 => 11
  | 2 => 12
  | 3 => 12
  | 4 => 12
  | 5 => 12
  | 6 => 12
  | 7 => 12
  | 8 => 12
  | 9 => 12
  | 10 => 12
  | 11 => 2
  | 12 => 600
  | 13 => 8
  | 14 => 400
  | 15 => 16
  | 16 => 16
  | 17 => 16
  | 18 => 16
  | 20 => 2
  | 21 => 80
  | 22 => 2
  | 23 => 80
  | 24 => 36
  | 25 => 2
  | 26 => 12
  | 27 => 2
  | 28 => 12
  | 29 => 2
  | 30 => 10
  | 31 => 2
  | 32 => 16
  | _ => 0
def zKth : Nat → Nat
  | 179 => 76
  | 183 => 12
  | 203 => 12
  | 204 => 12
  | 195 => 48
  | 197 => 48
  | 196 => 64
  | 201 => 36
  | 206 => 10
  | 208 => 16
  | 184 => 600
  | 187 => 1
  | 188 => 16
  | 189 => 16
  | 190 => 16
  | 191 => 16
  | 192 => 400
  | 193 => 400
  | _ => 0
def zK8 : Nat → Bool
  | 7 => true
  | 33 => true
  | 35 => true
  | 37 => true
  | 44 => true
  | 46 => true
  | 49 => true
  | 52 => true
  | _ => false
def zKc (i k : Nat) : Prop := zKlo i ≤ k ∧ k < zKhi i
def zKt (i k : Nat) : Prop := (i = 178 ∧ zK8 k = true) ∨ k < zKth i
theorem zWld_congr {f f2 : Nat → Nat → Int32} {g g2 : Nat → Nat → Int64} {V V2 : Nat → Nat → Int32} (hf : ∀ i k, zKc i k → f2 i k = f i k) (hV : ∀ i k, zKt i k → V2 i k = V i k) (hg : g2 2 12 = g 2 12) (h : zWld f g V) : zWld f2 g2 V2 := by
  obtain ⟨c1, c2, c3, c4, c5, c6, c7, c8, c9, c10, c11⟩ := h
  refine ⟨?_, ?_, ?_, ?_, ?_, ?_, ?_, ?_, ?_, ⟨?_, ?_⟩, ?_⟩
  · rw [hf 27 1 ⟨by decide, by decide⟩, hV 178 46 (Or.inl ⟨rfl, rfl⟩)]; exact zRow_congr (fun j hj => hf 28 j ⟨Nat.zero_le j, hj⟩) (fun j hj => hV 204 j (Or.inr hj)) c1
  · rw [hf 25 1 ⟨by decide, by decide⟩, hV 178 44 (Or.inl ⟨rfl, rfl⟩)]; exact zRow_congr (fun j hj => hf 26 j ⟨Nat.zero_le j, hj⟩) (fun j hj => hV 203 j (Or.inr hj)) c2
  · rw [hf 29 1 ⟨by decide, by decide⟩, hV 178 49 (Or.inl ⟨rfl, rfl⟩)]; exact zRow_congr (fun j hj => hf 30 j ⟨Nat.zero_le j, hj⟩) (fun j hj => hV 206 j (Or.inr hj)) c3
  · rw [hf 31 1 ⟨by decide, by decide⟩, hV 178 52 (Or.inl ⟨rfl, rfl⟩)]; exact zCou_congr (fun j hj => hf 32 j ⟨Nat.zero_le j, hj⟩) (fun j hj => hV 208 j (Or.inr hj)) c4
  · exact zCos_congr (fun j hj => hf 24 j ⟨Nat.zero_le j, hj⟩) (fun j hj => hV 201 j (Or.inr hj)) c5
  · rw [hf 13 7 ⟨by decide, by decide⟩, hV 187 0 (Or.inr (by decide))]; exact zLaw_congr (fun j hj => hf 14 j ⟨Nat.zero_le j, hj⟩) (fun j hj => hf 15 j ⟨Nat.zero_le j, hj⟩) (fun j hj => hf 16 j ⟨Nat.zero_le j, hj⟩) (fun j hj => hf 17 j ⟨Nat.zero_le j, hj⟩) (fun j hj => hf 18 j ⟨Nat.zero_le j, hj⟩) (fun j hj => hV 188 j (Or.inr hj)) (fun j hj => hV 189 j (Or.inr hj)) (fun j hj => hV 190 j (Or.inr hj)) (fun j hj => hV 191 j (Or.inr hj)) (fun j hj => hV 192 j (Or.inr hj)) (fun j hj => hV 193 j (Or.inr hj)) c6
  · rw [hf 20 1 ⟨by decide, by decide⟩, hV 178 33 (Or.inl ⟨rfl, rfl⟩)]; exact zSco_congr (fun j hj => hf 21 j ⟨Nat.zero_le j, hj⟩) (fun j hj => hV 195 j (Or.inr hj)) c7
  · rw [hf 22 1 ⟨by decide, by decide⟩, hV 178 35 (Or.inl ⟨rfl, rfl⟩), hV 178 7 (Or.inl ⟨rfl, rfl⟩)]; exact zSta_congr (fun j hj => hf 23 j ⟨Nat.zero_le j, hj⟩) (fun j hj => hV 196 j (Or.inr hj)) c8
  · rw [hf 2 8 ⟨by decide, by decide⟩, hf 2 9 ⟨by decide, by decide⟩, hf 2 10 ⟨by decide, by decide⟩, hf 2 11 ⟨by decide, by decide⟩, hV 178 7 (Or.inl ⟨rfl, rfl⟩)]; exact zHal_er (fun j hj => hV 183 j (Or.inr hj)) (zHal_rows (fun j hj => hf 3 j ⟨Nat.zero_le j, hj⟩) (fun j hj => hf 4 j ⟨Nat.zero_le j, hj⟩) (fun j hj => hf 5 j ⟨Nat.zero_le j, hj⟩) (fun j hj => hf 6 j ⟨Nat.zero_le j, hj⟩) (fun j hj => hf 7 j ⟨Nat.zero_le j, hj⟩) (fun j hj => hf 8 j ⟨Nat.zero_le j, hj⟩) (fun j hj => hf 9 j ⟨Nat.zero_le j, hj⟩) (fun j hj => hf 10 j ⟨Nat.zero_le j, hj⟩) (fun j hj => hV 179 j (Or.inr hj)) c9)
  · rw [hg]; exact zPil_congr (fun j hj => hV 197 j (Or.inr hj)) c10.1
  · rw [hf 1 10 ⟨by decide, by decide⟩, hV 178 37 (Or.inl ⟨rfl, rfl⟩)]; exact c10.2
  · rw [hf 11 1 ⟨by decide, by decide⟩, hV 179 2 (Or.inr (by decide))]; exact zBoo_congr (fun j hj => hf 12 j ⟨Nat.zero_le j, hj⟩) (fun j hj => hV 184 j (Or.inr hj)) c11
/-! copies of the class's world -/
theorem zcpn {a b : Nat → Int32} {n k : Nat} : va_cpy a b 0 0 n k = if k < n then a k else b k := by
  unfold va_cpy
  simp only [Nat.zero_le, true_and, Nat.zero_add, Nat.sub_zero]
section ZCW
variable {X : Nat × (Nat → Int32)} {d : Nat} {f : Nat → Nat → Int32} {g : Nat → Nat → Int64}
theorem cp3_11_43 : ∃ F : Nat → Nat → Int32, (∀ K : (Nat → Nat → Int32) → (Nat → Nat → Int64) → Prop, zCpv X (d + 1) 3 [.ref 11, .ref 43] (zs f g) K = K F g) ∧ (∀ i, ¬ i = 11 → ¬ i = 12 → F i = f i) ∧ (∀ k, k < 600 → F 12 k = f 44 k) ∧ F 11 1 = f 43 1 := by
  refine ⟨(zuI (zrI f 12 (va_cpy (f 44) (f 12) 0 0 600)) 11 1 (f 43 1)), fun K => zCpv_eq (fun K hK => e3_11_43 ?_), fun i i11 i12 => ?_, fun k hk => ?_, ?_⟩
  · rw [if_pos (by decide)]
    try simp only [zr_ne, zi_ne, Nat.reduceEqDiff, not_false_eq_true]
    exact hK
  · rw [zi_ne i11, zr_ne i12]
  · simp only [zi_ne, zr_ne, zr_at, Nat.reduceEqDiff, not_false_eq_true]
    rw [zcpn, if_pos hk]
  · simp only [zi_ne, zi_at, Nat.reduceEqDiff, not_false_eq_true, ↓reduceIte]
theorem cp42_13_45 : ∃ F : Nat → Nat → Int32, (∀ K : (Nat → Nat → Int32) → (Nat → Nat → Int64) → Prop, zCpv X (d + 1) 42 [.ref 13, .ref 45] (zs f g) K = K F g) ∧ (∀ i, ¬ i = 13 → ¬ i = 14 → ¬ i = 15 → ¬ i = 16 → ¬ i = 17 → ¬ i = 18 → F i = f i) ∧ (∀ k, k < 400 → F 14 k = f 46 k) ∧ (∀ k, k < 16 → F 15 k = f 47 k) ∧ (∀ k, k < 16 → F 16 k = f 48 k) ∧ (∀ k, k < 16 → F 17 k = f 49 k) ∧ (∀ k, k < 16 → F 18 k = f 50 k) ∧ F 13 6 = f 45 6 ∧ F 13 7 = f 45 7 := by
  refine ⟨(zuI (zuI (zrI (zrI (zrI (zrI (zrI f 14 (va_cpy (f 46) (f 14) 0 0 400)) 15 (va_cpy (f 47) (f 15) 0 0 16)) 16 (va_cpy (f 48) (f 16) 0 0 16)) 17 (va_cpy (f 49) (f 17) 0 0 16)) 18 (va_cpy (f 50) (f 18) 0 0 16)) 13 6 (f 45 6)) 13 7 (f 45 7)), fun K => zCpv_eq (fun K hK => e42_13_45 ?_), fun i i13 i14 i15 i16 i17 i18 => ?_, fun k hk => ?_, fun k hk => ?_, fun k hk => ?_, fun k hk => ?_, fun k hk => ?_, ?_, ?_⟩
  · rw [if_pos (by decide), if_pos (by decide), if_pos (by decide), if_pos (by decide), if_pos (by decide)]
    try simp only [zr_ne, zi_ne, Nat.reduceEqDiff, not_false_eq_true]
    exact hK
  · rw [zi_ne i13, zi_ne i13, zr_ne i18, zr_ne i17, zr_ne i16, zr_ne i15, zr_ne i14]
  · simp only [zi_ne, zr_ne, zr_at, Nat.reduceEqDiff, not_false_eq_true]
    rw [zcpn, if_pos hk]
  · simp only [zi_ne, zr_ne, zr_at, Nat.reduceEqDiff, not_false_eq_true]
    rw [zcpn, if_pos hk]
  · simp only [zi_ne, zr_ne, zr_at, Nat.reduceEqDiff, not_false_eq_true]
    rw [zcpn, if_pos hk]
  · simp only [zi_ne, zr_ne, zr_at, Nat.reduceEqDiff, not_false_eq_true]
    rw [zcpn, if_pos hk]
  · simp only [zi_ne, zr_ne, zr_at, Nat.reduceEqDiff, not_false_eq_true]
    rw [zcpn, if_pos hk]
  · simp only [zi_ne, zi_at, Nat.reduceEqDiff, not_false_eq_true, ↓reduceIte]
  · simp only [zi_ne, zi_at, Nat.reduceEqDiff, not_false_eq_true, ↓reduceIte]
theorem cp75_20_52 : ∃ F : Nat → Nat → Int32, (∀ K : (Nat → Nat → Int32) → (Nat → Nat → Int64) → Prop, zCpv X (d + 1) 75 [.ref 20, .ref 52] (zs f g) K = K F g) ∧ (∀ i, ¬ i = 20 → ¬ i = 21 → F i = f i) ∧ (∀ k, k < 80 → F 21 k = f 53 k) ∧ F 20 1 = f 52 1 := by
  refine ⟨(zuI (zrI f 21 (va_cpy (f 53) (f 21) 0 0 80)) 20 1 (f 52 1)), fun K => zCpv_eq (fun K hK => e75_20_52 ?_), fun i i20 i21 => ?_, fun k hk => ?_, ?_⟩
  · rw [if_pos (by decide)]
    try simp only [zr_ne, zi_ne, Nat.reduceEqDiff, not_false_eq_true]
    exact hK
  · rw [zi_ne i20, zr_ne i21]
  · simp only [zi_ne, zr_ne, zr_at, Nat.reduceEqDiff, not_false_eq_true]
    rw [zcpn, if_pos hk]
  · simp only [zi_ne, zi_at, Nat.reduceEqDiff, not_false_eq_true, ↓reduceIte]
theorem cp75_22_54 : ∃ F : Nat → Nat → Int32, (∀ K : (Nat → Nat → Int32) → (Nat → Nat → Int64) → Prop, zCpv X (d + 1) 75 [.ref 22, .ref 54] (zs f g) K = K F g) ∧ (∀ i, ¬ i = 22 → ¬ i = 23 → F i = f i) ∧ (∀ k, k < 80 → F 23 k = f 55 k) ∧ F 22 1 = f 54 1 := by
  refine ⟨(zuI (zrI f 23 (va_cpy (f 55) (f 23) 0 0 80)) 22 1 (f 54 1)), fun K => zCpv_eq (fun K hK => e75_22_54 ?_), fun i i22 i23 => ?_, fun k hk => ?_, ?_⟩
  · rw [if_pos (by decide)]
    try simp only [zr_ne, zi_ne, Nat.reduceEqDiff, not_false_eq_true]
    exact hK
  · rw [zi_ne i22, zr_ne i23]
  · simp only [zi_ne, zr_ne, zr_at, Nat.reduceEqDiff, not_false_eq_true]
    rw [zcpn, if_pos hk]
  · simp only [zi_ne, zi_at, Nat.reduceEqDiff, not_false_eq_true, ↓reduceIte]
theorem cp69_25_57 : ∃ F : Nat → Nat → Int32, (∀ K : (Nat → Nat → Int32) → (Nat → Nat → Int64) → Prop, zCpv X (d + 2) 69 [.ref 25, .ref 57] (zs f g) K = K F g) ∧ (∀ i, ¬ i = 25 → ¬ i = 26 → F i = f i) ∧ (∀ k, k < 12 → F 26 k = f 58 k) ∧ F 25 1 = f 57 1 := by
  refine ⟨(zuI (zrI f 26 (va_cpy (f 58) (f 26) 0 0 12)) 25 1 (f 57 1)), fun K => zCpv_eq (fun K hK => e69_25_57 ?_), fun i i25 i26 => ?_, fun k hk => ?_, ?_⟩
  · rw [q288]
    rw [if_pos (by decide)]
    try simp only [zr_ne, Nat.reduceEqDiff, not_false_eq_true]
    exact hK
  · rw [zi_ne i25, zr_ne i26]
  · simp only [zi_ne, zr_ne, zr_at, Nat.reduceEqDiff, not_false_eq_true]
    rw [zcpn, if_pos hk]
  · simp only [zi_ne, zi_at, Nat.reduceEqDiff, not_false_eq_true, ↓reduceIte]
theorem cp69_27_59 : ∃ F : Nat → Nat → Int32, (∀ K : (Nat → Nat → Int32) → (Nat → Nat → Int64) → Prop, zCpv X (d + 2) 69 [.ref 27, .ref 59] (zs f g) K = K F g) ∧ (∀ i, ¬ i = 27 → ¬ i = 28 → F i = f i) ∧ (∀ k, k < 12 → F 28 k = f 60 k) ∧ F 27 1 = f 59 1 := by
  refine ⟨(zuI (zrI f 28 (va_cpy (f 60) (f 28) 0 0 12)) 27 1 (f 59 1)), fun K => zCpv_eq (fun K hK => e69_27_59 ?_), fun i i27 i28 => ?_, fun k hk => ?_, ?_⟩
  · rw [q288]
    rw [if_pos (by decide)]
    try simp only [zr_ne, Nat.reduceEqDiff, not_false_eq_true]
    exact hK
  · rw [zi_ne i27, zr_ne i28]
  · simp only [zi_ne, zr_ne, zr_at, Nat.reduceEqDiff, not_false_eq_true]
    rw [zcpn, if_pos hk]
  · simp only [zi_ne, zi_at, Nat.reduceEqDiff, not_false_eq_true, ↓reduceIte]
theorem cp69_29_61 : ∃ F : Nat → Nat → Int32, (∀ K : (Nat → Nat → Int32) → (Nat → Nat → Int64) → Prop, zCpv X (d + 2) 69 [.ref 29, .ref 61] (zs f g) K = K F g) ∧ (∀ i, ¬ i = 29 → ¬ i = 30 → F i = f i) ∧ (∀ k, k < 10 → F 30 k = f 62 k) ∧ F 29 1 = f 61 1 := by
  refine ⟨(zuI (zrI f 30 (va_cpy (f 62) (f 30) 0 0 10)) 29 1 (f 61 1)), fun K => zCpv_eq (fun K hK => e69_29_61 ?_), fun i i29 i30 => ?_, fun k hk => ?_, ?_⟩
  · rw [q288]
    rw [if_pos (by decide)]
    try simp only [zr_ne, Nat.reduceEqDiff, not_false_eq_true]
    exact hK
  · rw [zi_ne i29, zr_ne i30]
  · simp only [zi_ne, zr_ne, zr_at, Nat.reduceEqDiff, not_false_eq_true]
    rw [zcpn, if_pos hk]
  · simp only [zi_ne, zi_at, Nat.reduceEqDiff, not_false_eq_true, ↓reduceIte]
theorem cp69_31_63 : ∃ F : Nat → Nat → Int32, (∀ K : (Nat → Nat → Int32) → (Nat → Nat → Int64) → Prop, zCpv X (d + 2) 69 [.ref 31, .ref 63] (zs f g) K = K F g) ∧ (∀ i, ¬ i = 31 → ¬ i = 32 → F i = f i) ∧ (∀ k, k < 16 → F 32 k = f 64 k) ∧ F 31 1 = f 63 1 := by
  refine ⟨(zuI (zrI f 32 (va_cpy (f 64) (f 32) 0 0 16)) 31 1 (f 63 1)), fun K => zCpv_eq (fun K hK => e69_31_63 ?_), fun i i31 i32 => ?_, fun k hk => ?_, ?_⟩
  · rw [q288]
    rw [if_pos (by decide)]
    try simp only [zr_ne, Nat.reduceEqDiff, not_false_eq_true]
    exact hK
  · rw [zi_ne i31, zr_ne i32]
  · simp only [zi_ne, zr_ne, zr_at, Nat.reduceEqDiff, not_false_eq_true]
    rw [zcpn, if_pos hk]
  · simp only [zi_ne, zi_at, Nat.reduceEqDiff, not_false_eq_true, ↓reduceIte]
theorem cp3_43_11 : ∃ F : Nat → Nat → Int32, (∀ K : (Nat → Nat → Int32) → (Nat → Nat → Int64) → Prop, zCpv X (d + 1) 3 [.ref 43, .ref 11] (zs f g) K = K F g) ∧ (∀ i, ¬ i = 43 → ¬ i = 44 → F i = f i) ∧ (∀ k, k < 600 → F 44 k = f 12 k) ∧ F 43 1 = f 11 1 := by
  refine ⟨(zuI (zrI f 44 (va_cpy (f 12) (f 44) 0 0 600)) 43 1 (f 11 1)), fun K => zCpv_eq (fun K hK => e3_43_11 ?_), fun i i43 i44 => ?_, fun k hk => ?_, ?_⟩
  · rw [if_pos (by decide)]
    try simp only [zr_ne, zi_ne, Nat.reduceEqDiff, not_false_eq_true]
    exact hK
  · rw [zi_ne i43, zr_ne i44]
  · simp only [zi_ne, zr_ne, zr_at, Nat.reduceEqDiff, not_false_eq_true]
    rw [zcpn, if_pos hk]
  · simp only [zi_ne, zi_at, Nat.reduceEqDiff, not_false_eq_true, ↓reduceIte]
theorem cp42_45_13 : ∃ F : Nat → Nat → Int32, (∀ K : (Nat → Nat → Int32) → (Nat → Nat → Int64) → Prop, zCpv X (d + 1) 42 [.ref 45, .ref 13] (zs f g) K = K F g) ∧ (∀ i, ¬ i = 45 → ¬ i = 46 → ¬ i = 47 → ¬ i = 48 → ¬ i = 49 → ¬ i = 50 → F i = f i) ∧ (∀ k, k < 400 → F 46 k = f 14 k) ∧ (∀ k, k < 16 → F 47 k = f 15 k) ∧ (∀ k, k < 16 → F 48 k = f 16 k) ∧ (∀ k, k < 16 → F 49 k = f 17 k) ∧ (∀ k, k < 16 → F 50 k = f 18 k) ∧ F 45 6 = f 13 6 ∧ F 45 7 = f 13 7 := by
  refine ⟨(zuI (zuI (zrI (zrI (zrI (zrI (zrI f 46 (va_cpy (f 14) (f 46) 0 0 400)) 47 (va_cpy (f 15) (f 47) 0 0 16)) 48 (va_cpy (f 16) (f 48) 0 0 16)) 49 (va_cpy (f 17) (f 49) 0 0 16)) 50 (va_cpy (f 18) (f 50) 0 0 16)) 45 6 (f 13 6)) 45 7 (f 13 7)), fun K => zCpv_eq (fun K hK => e42_45_13 ?_), fun i i45 i46 i47 i48 i49 i50 => ?_, fun k hk => ?_, fun k hk => ?_, fun k hk => ?_, fun k hk => ?_, fun k hk => ?_, ?_, ?_⟩
  · rw [if_pos (by decide), if_pos (by decide), if_pos (by decide), if_pos (by decide), if_pos (by decide)]
    try simp only [zr_ne, zi_ne, Nat.reduceEqDiff, not_false_eq_true]
    exact hK
  · rw [zi_ne i45, zi_ne i45, zr_ne i50, zr_ne i49, zr_ne i48, zr_ne i47, zr_ne i46]
  · simp only [zi_ne, zr_ne, zr_at, Nat.reduceEqDiff, not_false_eq_true]
    rw [zcpn, if_pos hk]
  · simp only [zi_ne, zr_ne, zr_at, Nat.reduceEqDiff, not_false_eq_true]
    rw [zcpn, if_pos hk]
  · simp only [zi_ne, zr_ne, zr_at, Nat.reduceEqDiff, not_false_eq_true]
    rw [zcpn, if_pos hk]
  · simp only [zi_ne, zr_ne, zr_at, Nat.reduceEqDiff, not_false_eq_true]
    rw [zcpn, if_pos hk]
  · simp only [zi_ne, zr_ne, zr_at, Nat.reduceEqDiff, not_false_eq_true]
    rw [zcpn, if_pos hk]
  · simp only [zi_ne, zi_at, Nat.reduceEqDiff, not_false_eq_true, ↓reduceIte]
  · simp only [zi_ne, zi_at, Nat.reduceEqDiff, not_false_eq_true, ↓reduceIte]
theorem cp75_52_20 : ∃ F : Nat → Nat → Int32, (∀ K : (Nat → Nat → Int32) → (Nat → Nat → Int64) → Prop, zCpv X (d + 1) 75 [.ref 52, .ref 20] (zs f g) K = K F g) ∧ (∀ i, ¬ i = 52 → ¬ i = 53 → F i = f i) ∧ (∀ k, k < 80 → F 53 k = f 21 k) ∧ F 52 1 = f 20 1 := by
  refine ⟨(zuI (zrI f 53 (va_cpy (f 21) (f 53) 0 0 80)) 52 1 (f 20 1)), fun K => zCpv_eq (fun K hK => e75_52_20 ?_), fun i i52 i53 => ?_, fun k hk => ?_, ?_⟩
  · rw [if_pos (by decide)]
    try simp only [zr_ne, zi_ne, Nat.reduceEqDiff, not_false_eq_true]
    exact hK
  · rw [zi_ne i52, zr_ne i53]
  · simp only [zi_ne, zr_ne, zr_at, Nat.reduceEqDiff, not_false_eq_true]
    rw [zcpn, if_pos hk]
  · simp only [zi_ne, zi_at, Nat.reduceEqDiff, not_false_eq_true, ↓reduceIte]
theorem cp75_54_22 : ∃ F : Nat → Nat → Int32, (∀ K : (Nat → Nat → Int32) → (Nat → Nat → Int64) → Prop, zCpv X (d + 1) 75 [.ref 54, .ref 22] (zs f g) K = K F g) ∧ (∀ i, ¬ i = 54 → ¬ i = 55 → F i = f i) ∧ (∀ k, k < 80 → F 55 k = f 23 k) ∧ F 54 1 = f 22 1 := by
  refine ⟨(zuI (zrI f 55 (va_cpy (f 23) (f 55) 0 0 80)) 54 1 (f 22 1)), fun K => zCpv_eq (fun K hK => e75_54_22 ?_), fun i i54 i55 => ?_, fun k hk => ?_, ?_⟩
  · rw [if_pos (by decide)]
    try simp only [zr_ne, zi_ne, Nat.reduceEqDiff, not_false_eq_true]
    exact hK
  · rw [zi_ne i54, zr_ne i55]
  · simp only [zi_ne, zr_ne, zr_at, Nat.reduceEqDiff, not_false_eq_true]
    rw [zcpn, if_pos hk]
  · simp only [zi_ne, zi_at, Nat.reduceEqDiff, not_false_eq_true, ↓reduceIte]
theorem cp69_57_25 : ∃ F : Nat → Nat → Int32, (∀ K : (Nat → Nat → Int32) → (Nat → Nat → Int64) → Prop, zCpv X (d + 2) 69 [.ref 57, .ref 25] (zs f g) K = K F g) ∧ (∀ i, ¬ i = 57 → ¬ i = 58 → F i = f i) ∧ (∀ k, k < 12 → F 58 k = f 26 k) ∧ F 57 1 = f 25 1 := by
  refine ⟨(zuI (zrI f 58 (va_cpy (f 26) (f 58) 0 0 12)) 57 1 (f 25 1)), fun K => zCpv_eq (fun K hK => e69_57_25 ?_), fun i i57 i58 => ?_, fun k hk => ?_, ?_⟩
  · rw [q288]
    rw [if_pos (by decide)]
    try simp only [zr_ne, Nat.reduceEqDiff, not_false_eq_true]
    exact hK
  · rw [zi_ne i57, zr_ne i58]
  · simp only [zi_ne, zr_ne, zr_at, Nat.reduceEqDiff, not_false_eq_true]
    rw [zcpn, if_pos hk]
  · simp only [zi_ne, zi_at, Nat.reduceEqDiff, not_false_eq_true, ↓reduceIte]
theorem cp69_59_27 : ∃ F : Nat → Nat → Int32, (∀ K : (Nat → Nat → Int32) → (Nat → Nat → Int64) → Prop, zCpv X (d + 2) 69 [.ref 59, .ref 27] (zs f g) K = K F g) ∧ (∀ i, ¬ i = 59 → ¬ i = 60 → F i = f i) ∧ (∀ k, k < 12 → F 60 k = f 28 k) ∧ F 59 1 = f 27 1 := by
  refine ⟨(zuI (zrI f 60 (va_cpy (f 28) (f 60) 0 0 12)) 59 1 (f 27 1)), fun K => zCpv_eq (fun K hK => e69_59_27 ?_), fun i i59 i60 => ?_, fun k hk => ?_, ?_⟩
  · rw [q288]
    rw [if_pos (by decide)]
    try simp only [zr_ne, Nat.reduceEqDiff, not_false_eq_true]
    exact hK
  · rw [zi_ne i59, zr_ne i60]
  · simp only [zi_ne, zr_ne, zr_at, Nat.reduceEqDiff, not_false_eq_true]
    rw [zcpn, if_pos hk]
  · simp only [zi_ne, zi_at, Nat.reduceEqDiff, not_false_eq_true, ↓reduceIte]
theorem cp69_61_29 : ∃ F : Nat → Nat → Int32, (∀ K : (Nat → Nat → Int32) → (Nat → Nat → Int64) → Prop, zCpv X (d + 2) 69 [.ref 61, .ref 29] (zs f g) K = K F g) ∧ (∀ i, ¬ i = 61 → ¬ i = 62 → F i = f i) ∧ (∀ k, k < 10 → F 62 k = f 30 k) ∧ F 61 1 = f 29 1 := by
  refine ⟨(zuI (zrI f 62 (va_cpy (f 30) (f 62) 0 0 10)) 61 1 (f 29 1)), fun K => zCpv_eq (fun K hK => e69_61_29 ?_), fun i i61 i62 => ?_, fun k hk => ?_, ?_⟩
  · rw [q288]
    rw [if_pos (by decide)]
    try simp only [zr_ne, Nat.reduceEqDiff, not_false_eq_true]
    exact hK
  · rw [zi_ne i61, zr_ne i62]
  · simp only [zi_ne, zr_ne, zr_at, Nat.reduceEqDiff, not_false_eq_true]
    rw [zcpn, if_pos hk]
  · simp only [zi_ne, zi_at, Nat.reduceEqDiff, not_false_eq_true, ↓reduceIte]
theorem cp69_63_31 : ∃ F : Nat → Nat → Int32, (∀ K : (Nat → Nat → Int32) → (Nat → Nat → Int64) → Prop, zCpv X (d + 2) 69 [.ref 63, .ref 31] (zs f g) K = K F g) ∧ (∀ i, ¬ i = 63 → ¬ i = 64 → F i = f i) ∧ (∀ k, k < 16 → F 64 k = f 32 k) ∧ F 63 1 = f 31 1 := by
  refine ⟨(zuI (zrI f 64 (va_cpy (f 32) (f 64) 0 0 16)) 63 1 (f 31 1)), fun K => zCpv_eq (fun K hK => e69_63_31 ?_), fun i i63 i64 => ?_, fun k hk => ?_, ?_⟩
  · rw [q288]
    rw [if_pos (by decide)]
    try simp only [zr_ne, Nat.reduceEqDiff, not_false_eq_true]
    exact hK
  · rw [zi_ne i63, zr_ne i64]
  · simp only [zi_ne, zr_ne, zr_at, Nat.reduceEqDiff, not_false_eq_true]
    rw [zcpn, if_pos hk]
  · simp only [zi_ne, zi_at, Nat.reduceEqDiff, not_false_eq_true, ↓reduceIte]
theorem cp42_13_72 : ∃ F : Nat → Nat → Int32, (∀ K : (Nat → Nat → Int32) → (Nat → Nat → Int64) → Prop, zCpv X (d + 1) 42 [.ref 13, .ref 72] (zs f g) K = K F g) ∧ (∀ i, ¬ i = 13 → ¬ i = 14 → ¬ i = 15 → ¬ i = 16 → ¬ i = 17 → ¬ i = 18 → F i = f i) ∧ (∀ k, k < 400 → F 14 k = f 73 k) ∧ (∀ k, k < 16 → F 15 k = f 74 k) ∧ (∀ k, k < 16 → F 16 k = f 75 k) ∧ (∀ k, k < 16 → F 17 k = f 76 k) ∧ (∀ k, k < 16 → F 18 k = f 77 k) ∧ F 13 6 = f 72 6 ∧ F 13 7 = f 72 7 := by
  refine ⟨(zuI (zuI (zrI (zrI (zrI (zrI (zrI f 14 (va_cpy (f 73) (f 14) 0 0 400)) 15 (va_cpy (f 74) (f 15) 0 0 16)) 16 (va_cpy (f 75) (f 16) 0 0 16)) 17 (va_cpy (f 76) (f 17) 0 0 16)) 18 (va_cpy (f 77) (f 18) 0 0 16)) 13 6 (f 72 6)) 13 7 (f 72 7)), fun K => zCpv_eq (fun K hK => e42_13_72 ?_), fun i i13 i14 i15 i16 i17 i18 => ?_, fun k hk => ?_, fun k hk => ?_, fun k hk => ?_, fun k hk => ?_, fun k hk => ?_, ?_, ?_⟩
  · rw [if_pos (by decide), if_pos (by decide), if_pos (by decide), if_pos (by decide), if_pos (by decide)]
    try simp only [zr_ne, zi_ne, Nat.reduceEqDiff, not_false_eq_true]
    exact hK
  · rw [zi_ne i13, zi_ne i13, zr_ne i18, zr_ne i17, zr_ne i16, zr_ne i15, zr_ne i14]
  · simp only [zi_ne, zr_ne, zr_at, Nat.reduceEqDiff, not_false_eq_true]
    rw [zcpn, if_pos hk]
  · simp only [zi_ne, zr_ne, zr_at, Nat.reduceEqDiff, not_false_eq_true]
    rw [zcpn, if_pos hk]
  · simp only [zi_ne, zr_ne, zr_at, Nat.reduceEqDiff, not_false_eq_true]
    rw [zcpn, if_pos hk]
  · simp only [zi_ne, zr_ne, zr_at, Nat.reduceEqDiff, not_false_eq_true]
    rw [zcpn, if_pos hk]
  · simp only [zi_ne, zr_ne, zr_at, Nat.reduceEqDiff, not_false_eq_true]
    rw [zcpn, if_pos hk]
  · simp only [zi_ne, zi_at, Nat.reduceEqDiff, not_false_eq_true, ↓reduceIte]
  · simp only [zi_ne, zi_at, Nat.reduceEqDiff, not_false_eq_true, ↓reduceIte]
theorem cp75_20_79 : ∃ F : Nat → Nat → Int32, (∀ K : (Nat → Nat → Int32) → (Nat → Nat → Int64) → Prop, zCpv X (d + 1) 75 [.ref 20, .ref 79] (zs f g) K = K F g) ∧ (∀ i, ¬ i = 20 → ¬ i = 21 → F i = f i) ∧ (∀ k, k < 80 → F 21 k = f 80 k) ∧ F 20 1 = f 79 1 := by
  refine ⟨(zuI (zrI f 21 (va_cpy (f 80) (f 21) 0 0 80)) 20 1 (f 79 1)), fun K => zCpv_eq (fun K hK => e75_20_79 ?_), fun i i20 i21 => ?_, fun k hk => ?_, ?_⟩
  · rw [if_pos (by decide)]
    try simp only [zr_ne, zi_ne, Nat.reduceEqDiff, not_false_eq_true]
    exact hK
  · rw [zi_ne i20, zr_ne i21]
  · simp only [zi_ne, zr_ne, zr_at, Nat.reduceEqDiff, not_false_eq_true]
    rw [zcpn, if_pos hk]
  · simp only [zi_ne, zi_at, Nat.reduceEqDiff, not_false_eq_true, ↓reduceIte]
theorem cp75_22_79 : ∃ F : Nat → Nat → Int32, (∀ K : (Nat → Nat → Int32) → (Nat → Nat → Int64) → Prop, zCpv X (d + 1) 75 [.ref 22, .ref 79] (zs f g) K = K F g) ∧ (∀ i, ¬ i = 22 → ¬ i = 23 → F i = f i) ∧ (∀ k, k < 80 → F 23 k = f 80 k) ∧ F 22 1 = f 79 1 := by
  refine ⟨(zuI (zrI f 23 (va_cpy (f 80) (f 23) 0 0 80)) 22 1 (f 79 1)), fun K => zCpv_eq (fun K hK => e75_22_79 ?_), fun i i22 i23 => ?_, fun k hk => ?_, ?_⟩
  · rw [if_pos (by decide)]
    try simp only [zr_ne, zi_ne, Nat.reduceEqDiff, not_false_eq_true]
    exact hK
  · rw [zi_ne i22, zr_ne i23]
  · simp only [zi_ne, zr_ne, zr_at, Nat.reduceEqDiff, not_false_eq_true]
    rw [zcpn, if_pos hk]
  · simp only [zi_ne, zi_at, Nat.reduceEqDiff, not_false_eq_true, ↓reduceIte]
end ZCW

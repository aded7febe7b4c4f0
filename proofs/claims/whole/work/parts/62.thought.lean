/-! beats in thought: goes, all -/
theorem zRel_th {f F : Nat → Nat → Int32} {g G : Nat → Nat → Int64} {r R : Nat → Nat → Int32} (h : ∀ i, i ≤ 137 → ¬ i = 19 → F i = f i) (h147 : F 147 2 = f 147 2) (h158 : F 158 2 = f 158 2) (hg : ∀ i, i ≤ 137 → G i = g i) (hr : ∀ i, ¬ i = 178 → ¬ i = 179 → ¬ i = 181 → ¬ i = 182 → ¬ i = 198 → ¬ i = 199 → R i = r i) (hr8 : ∀ j, ¬ j = 0 → R 178 j = r 178 j) (hr9 : ∀ j, j < 76 → R 179 j = r 179 j) (hR : zRel f g r) : zRel F G R := by
  obtain ⟨⟨c1, c2, c3, c4, c5, c6, c7, c8, c9, c10, c11⟩, c12, c13, c14, c15, c16⟩ := hR
  have e := fun i (a : ¬ i = 178) (b : ¬ i = 179) (c : ¬ i = 181) (d : ¬ i = 182) (k : ¬ i = 198) (l : ¬ i = 199) => hr i a b c d k l
  refine ⟨⟨?_, ?_, ?_, ?_, ?_, ?_, ?_, ?_, ?_, ?_, ?_⟩, ?_, ?_, ?_, ?_, ?_⟩
  · rw [h 27 (by omega) (by omega), h 28 (by omega) (by omega), hr8 46 (by omega), e 204 (by omega) (by omega) (by omega) (by omega) (by omega) (by omega)]; exact c1
  · rw [h 25 (by omega) (by omega), h 26 (by omega) (by omega), hr8 44 (by omega), e 203 (by omega) (by omega) (by omega) (by omega) (by omega) (by omega)]; exact c2
  · rw [h 29 (by omega) (by omega), h 30 (by omega) (by omega), hr8 49 (by omega), e 206 (by omega) (by omega) (by omega) (by omega) (by omega) (by omega)]; exact c3
  · rw [h 31 (by omega) (by omega), h 32 (by omega) (by omega), hr8 52 (by omega), e 208 (by omega) (by omega) (by omega) (by omega) (by omega) (by omega)]; exact c4
  · rw [h 24 (by omega) (by omega), e 201 (by omega) (by omega) (by omega) (by omega) (by omega) (by omega)]; exact c5
  · rw [h 13 (by omega) (by omega), h 14 (by omega) (by omega), h 15 (by omega) (by omega), h 16 (by omega) (by omega), h 17 (by omega) (by omega), h 18 (by omega) (by omega), e 187 (by omega) (by omega) (by omega) (by omega) (by omega) (by omega), e 188 (by omega) (by omega) (by omega) (by omega) (by omega) (by omega), e 189 (by omega) (by omega) (by omega) (by omega) (by omega) (by omega), e 190 (by omega) (by omega) (by omega) (by omega) (by omega) (by omega), e 191 (by omega) (by omega) (by omega) (by omega) (by omega) (by omega), e 192 (by omega) (by omega) (by omega) (by omega) (by omega) (by omega), e 193 (by omega) (by omega) (by omega) (by omega) (by omega) (by omega)]; exact c6
  · rw [h 20 (by omega) (by omega), h 21 (by omega) (by omega), hr8 33 (by omega), e 195 (by omega) (by omega) (by omega) (by omega) (by omega) (by omega)]; exact c7
  · rw [h 22 (by omega) (by omega), h 23 (by omega) (by omega), hr8 35 (by omega), hr8 7 (by omega), e 196 (by omega) (by omega) (by omega) (by omega) (by omega) (by omega)]; exact c8
  · rw [h 2 (by omega) (by omega), h 3 (by omega) (by omega), h 4 (by omega) (by omega), h 5 (by omega) (by omega), h 6 (by omega) (by omega), h 7 (by omega) (by omega), h 8 (by omega) (by omega), h 9 (by omega) (by omega), h 10 (by omega) (by omega), hr8 7 (by omega), e 183 (by omega) (by omega) (by omega) (by omega) (by omega) (by omega)]
    exact zHal_rows (fun _ _ => rfl) (fun _ _ => rfl) (fun _ _ => rfl) (fun _ _ => rfl) (fun _ _ => rfl) (fun _ _ => rfl) (fun _ _ => rfl) (fun _ _ => rfl) hr9 c9
  · rw [hg 2 (by omega), h 1 (by omega) (by omega), hr8 37 (by omega), e 197 (by omega) (by omega) (by omega) (by omega) (by omega) (by omega)]; exact c10
  · rw [h 11 (by omega) (by omega), h 12 (by omega) (by omega), hr9 2 (by omega), e 184 (by omega) (by omega) (by omega) (by omega) (by omega) (by omega)]; exact c11
  · rw [h 65 (by omega) (by omega), h 66 (by omega) (by omega), hr8 11 (by omega), e 185 (by omega) (by omega) (by omega) (by omega) (by omega) (by omega)]; exact c12
  · rw [h 70 (by omega) (by omega), hr8 31 (by omega), hr8 32 (by omega)]; exact c13
  · exact zPas_frame (fun i _ _ => h i (by omega) (by omega)) (by rw [h 11 (by omega) (by omega)]) (fun i _ _ => by rw [hg i (by omega)]) (by rw [hg 2 (by omega)]) (e 180 (by omega) (by omega) (by omega) (by omega) (by omega) (by omega)) (hr8 3 (by omega)) (hr8 7 (by omega)) (e 183 (by omega) (by omega) (by omega) (by omega) (by omega) (by omega)) c14
  · exact zIma_frame (by rw [h 0 (by omega) (by omega)]) (fun i _ _ => h i (by omega) (by omega)) (by rw [hg 34 (by omega)]) (e 211 (by omega) (by omega) (by omega) (by omega) (by omega) (by omega)) (hr8 57 (by omega)) c15
  · rw [h147, h158, hr8 5 (by omega), e 186 (by omega) (by omega) (by omega) (by omega) (by omega) (by omega)]; exact c16
/-- both sides in thought -/
def zTh (n P k : Nat) (wl al bl cl : Nat → Nat) (B : Int) (f : Nat → Nat → Int32) (g : Nat → Nat → Int64) (r : Nat → Nat → Int32) : Prop := zHal (f 138 8) (f 138 9) (f 138 10) (f 138 11) (f 139) (f 140) (f 141) (f 142) (f 143) (f 144) (f 145) (f 146) (r 179) (r 178 7) (r 183) B ∧ f 138 8 = nI n ∧ g 138 12 = lN P ∧ (∀ k, k < 48 → r 197 k = if P.testBit k = true then 1 else 0) ∧ zLk f k wl al bl cl ∧ zLj r (f 14) k wl al bl cl ∧ zPr_158 f r ∧ zSco (f 20 1) (f 21) (r 178 33) (r 195) ∧ zSta (f 22 1) (f 23) (r 178 35) (r 196) (r 178 7)
def zFh (f F : Nat → Nat → Int32) (g G : Nat → Nat → Int64) (r R : Nat → Nat → Int32) : Prop := (∀ i, ¬ (138 ≤ i ∧ i ≤ 146) → ¬ (159 ≤ i ∧ i ≤ 168) → ¬ i = 19 → F i = f i) ∧ (∀ i, ¬ i = 159 → G i = g i) ∧ (∀ i, ¬ i = 179 → ¬ i = 182 → ¬ i = 198 → ¬ i = 199 → R i = r i)
theorem zFh_rf {f : Nat → Nat → Int32} {g : Nat → Nat → Int64} {r : Nat → Nat → Int32} : zFh f f g g r r := ⟨fun _ _ _ _ => rfl, fun _ _ => rfl, fun _ _ _ _ _ => rfl⟩
theorem zFh_tr {f F F2 : Nat → Nat → Int32} {g G G2 : Nat → Nat → Int64} {r R R2 : Nat → Nat → Int32} (h1 : zFh f F g G r R) (h2 : zFh F F2 G G2 R R2) : zFh f F2 g G2 r R2 := ⟨fun i a b c => (h2.1 i a b c).trans (h1.1 i a b c), fun i a => (h2.2.1 i a).trans (h1.2.1 i a), fun i a b c d => (h2.2.2 i a b c d).trans (h1.2.2 i a b c d)⟩
section ZTH
variable {X : Nat × (Nat → Int32)} {d e : Nat} {gr : Nat → Nat → Int64} {n P k : Nat} {wl al bl cl : Nat → Nat}
theorem th1 {f r : Nat → Nat → Int32} {g : Nat → Nat → Int64} {B : Int} (hn : n ≤ 12) (hP : P < 2 ^ 48) (hB : B ≤ 50000) (hT : zTh n P k wl al bl cl B f g r) : ∃ (v : Int32) (F : Nat → Nat → Int32) (G : Nat → Nat → Int64) (R : Nat → Nat → Int32), (∀ K : Int32 → (Nat → Nat → Int32) → (Nat → Nat → Int64) → Prop, zCpi X (d + 10) 5 [.ref 158] (zs f g) K = K v F G) ∧ (∀ K : Int32 → (Nat → Nat → Int32) → (Nat → Nat → Int64) → Prop, zCpi X (e + 10) 211 [.ref 178] (zs r gr) K = K v R gr) ∧ zTh n P k wl al bl cl (B + 1) F G R ∧ zFh f F g G r R := by
  obtain ⟨t1, t2, t3, t4, t5, t6, t7, t8, t9⟩ := hT
  obtain ⟨v, F, R, a1, a2, a3, a4, ⟨b1, b2, b3, b4⟩, a6, a7, a8, a9⟩ := go_158 (X := X) (d := d) (e := e) (g := g) (gr := gr) hn hP t3 t2 t1 hB t4 t5 t6 t7 t8 t9
  have hF : ∀ i, ¬ (138 ≤ i ∧ i ≤ 146) → ¬ (159 ≤ i ∧ i ≤ 168) → ¬ i = 19 → F i = f i := fun i i1 i2 i3 => by
    by_cases e1 : i = 11
    · rw [e1]; exact b1
    · by_cases e2 : i = 12
      · rw [e2]; exact b2
      · exact a6 i i1 (by omega) (by omega) i3 e1 e2
  have hR : ∀ i, ¬ i = 179 → ¬ i = 182 → ¬ i = 198 → ¬ i = 199 → R i = r i := fun i i1 i2 i3 i4 => by
    by_cases e1 : i = 184
    · rw [e1]; exact b3
    · exact a8 i i1 i2 e1 i3 i4
  have e := fun i (i1 : ¬ (138 ≤ i ∧ i ≤ 146)) (i2 : ¬ (159 ≤ i ∧ i ≤ 168)) (i3 : ¬ i = 19) => hF i i1 i2 i3
  have er := fun i (i1 : ¬ i = 179) (i2 : ¬ i = 182) (i3 : ¬ i = 198) (i4 : ¬ i = 199) => hR i i1 i2 i3 i4
  refine ⟨v, F, zuL g 159 12 (g 138 12), R, a1, a2, ⟨a3, by rw [a7]; exact t2, by rw [zj_ne (by omega)]; exact t3, fun k hk => by rw [er 197 (by omega) (by omega) (by omega) (by omega)]; exact t4 k hk, ?_, ?_, a4, ?_, ?_⟩, hF, fun i hi => zj_ne hi, hR⟩
  · obtain ⟨l1, l2, l3⟩ := t5
    unfold zLk
    rw [e 13 (by omega) (by omega) (by omega), e 14 (by omega) (by omega) (by omega), e 15 (by omega) (by omega) (by omega), e 16 (by omega) (by omega) (by omega), e 17 (by omega) (by omega) (by omega), e 18 (by omega) (by omega) (by omega)]
    exact ⟨l1, l2, l3⟩
  · obtain ⟨l1, l2, l3⟩ := t6
    unfold zLj
    rw [e 14 (by omega) (by omega) (by omega), er 187 (by omega) (by omega) (by omega) (by omega), er 188 (by omega) (by omega) (by omega) (by omega), er 189 (by omega) (by omega) (by omega) (by omega), er 190 (by omega) (by omega) (by omega) (by omega), er 191 (by omega) (by omega) (by omega) (by omega), er 192 (by omega) (by omega) (by omega) (by omega), er 193 (by omega) (by omega) (by omega) (by omega)]
    exact ⟨l1, l2, l3⟩
  · rw [e 20 (by omega) (by omega) (by omega), e 21 (by omega) (by omega) (by omega), er 178 (by omega) (by omega) (by omega) (by omega), er 195 (by omega) (by omega) (by omega) (by omega)]
    exact t8
  · rw [e 22 (by omega) (by omega) (by omega), e 23 (by omega) (by omega) (by omega), er 178 (by omega) (by omega) (by omega) (by omega), er 196 (by omega) (by omega) (by omega) (by omega)]
    exact t9
theorem ths {N : Nat} {w : Int32} (hn : n ≤ 12) (hP : P < 2 ^ 48) (hN : N ≤ 60) : ∀ m i, i + m = N → ∀ (B : Int) (f r : Nat → Nat → Int32) (g : Nat → Nat → Int64), B + m ≤ 20000 → zTh n P k wl al bl cl B f g r → ∃ (F : Nat → Nat → Int32) (G : Nat → Nat → Int64) (R : Nat → Nat → Int32), zTh n P k wl al bl cl (B + m) F G R ∧ zFh f F g G r R ∧ (∀ K : Int32 → (Nat → Nat → Int32) → (Nat → Nat → Int64) → Prop, zWp X (d + 10) zm138 37 [.ref 0, .int (nI N), .int w, .int (nI N)] [] (zs F G) (zQi K) → zWp X (d + 10) zm138 37 [.ref 0, .int (nI N), .int w, .int (nI i)] [] (zs f g) (zQi K)) ∧ (∀ K : Int32 → (Nat → Nat → Int32) → (Nat → Nat → Int64) → Prop, zWp X (e + 10) zm244 34 [.ref 178, .int (nI N), .int w, .int (nI N)] [] (zs R gr) (zQi K) → zWp X (e + 10) zm244 34 [.ref 178, .int (nI N), .int w, .int (nI i)] [] (zs r gr) (zQi K)) := by
  intro m
  induction m with
  | zero =>
    intro i hi B f r g hB hT
    have ei : i = N := by omega
    subst ei
    exact ⟨f, g, r, by rw [show B + ((0 : Nat) : Int) = B by omega]; exact hT, zFh_rf, fun K h => h, fun K h => h⟩
  | succ m ih =>
    intro i hi B f r g hB hT
    obtain ⟨v, F, G, R, a1, a2, a3, a4⟩ := th1 (X := X) (d := d) (e := e) (gr := gr) hn hP (by omega) hT
    obtain ⟨F', G', R', b1, b2, b3, b4⟩ := ih (i + 1) (by omega) (B + 1) F R G (by omega) a3
    refine ⟨F', G', R', by rw [show B + ((m + 1 : Nat) : Int) = B + 1 + m by omega]; exact b1, zFh_tr a4 b2, fun K hK => ?_, fun K hK => ?_⟩
    · apply s138_37_0
      rw [if_neg (nI_ge (by omega) (by omega)), a1, nI_1]
      exact b3 K hK
    · apply s244_34_178
      rw [if_neg (nI_ge (by omega) (by omega)), a2, nI_1]
      exact b4 K hK
end ZTH
/-- what all come to, without their signs -/
def zsumv (A : Nat → Int32) (i : Nat) (s : Int32) : Int32 := s + zab (A i)
section ZSU
variable {X : Nat × (Nat → Int32)} {d : Nat} {f : Nat → Nat → Int32} {g : Nat → Nat → Int64} {K : Int32 → (Nat → Nat → Int32) → (Nat → Nat → Int64) → Prop} {n : Nat}
theorem q29_138 (hn : n ≤ 12) (h : f 138 8 = nI n) (hw : ∀ p, p < n → 0 ≤ (f 146 p).toInt) : zCpi X (d + 1) 29 [.ref 138] (zs f g) K = K (zfold (zsumv (f 146)) n 0 0) f g := by
  refine zCpi_eq (fun K hK => e29_138 ?_)
  refine zloop (st := zsumv (f 146)) (W := fun i s => zWp X (d + 0) zm29 4 [.ref 138, .int s, .int (nI i)] [] (zs f g) (zQi K)) (E := fun s => K s f g) n ?_ ?_ n 0 0 (by omega) hK
  · intro s hs
    apply s29_4_138
    rw [h, if_pos (nI_le (by omega) (by omega))]
    exact hs
  · intro i s hi hs
    have hz : zab (f 146 i) = f 146 i := by
      unfold zab
      rw [if_pos (by simp only [Int32.lt_iff_toInt_lt, Int32.le_iff_toInt_le, Int32.reduceToInt]; exact hw i hi)]
    unfold zsumv at hs
    rw [hz] at hs
    apply s29_4_138
    rw [h, if_neg (nI_ge (by omega) (by omega)), if_neg (nI_in (by omega) (by omega)), nI_cl (by omega), nI_1]
    exact hs
theorem q30_138 (hn : n ≤ 12) (h : f 138 8 = nI n) : zCpi X (d + 3) 30 [.ref 138] (zs f g) K = K (zfold (zsumv (f 144)) n 0 0) f g := by
  refine zCpi_eq (fun K hK => e30_138 ?_)
  refine zloop (st := zsumv (f 144)) (W := fun i s => zWp X (d + 2) zm30 4 [.ref 138, .int s, .int (nI i)] [] (zs f g) (zQi K)) (E := fun s => K s f g) n ?_ ?_ n 0 0 (by omega) hK
  · intro s hs
    apply s30_4_138
    rw [h, if_pos (nI_le (by omega) (by omega))]
    exact hs
  · intro i s hi hs
    unfold zsumv at hs
    apply s30_4_138
    rw [h, if_neg (nI_ge (by omega) (by omega)), if_neg (nI_in (by omega) (by omega)), nI_cl (by omega), nI_1, q286]
    exact hs
theorem q246_40 (hn : n ≤ 12) (h : f 178 7 = nI n) : zCpi X (d + 3) 246 [.ref 178, .int 40] (zs f g) K = K (zfold (zsumv (fun p => f 179 (40 + p))) n 0 0) f g := by
  refine zCpi_eq (fun K hK => e246_178 ?_)
  refine zloop (st := zsumv (fun p => f 179 (40 + p))) (W := fun i s => zWp X (d + 2) zm246 4 [.ref 178, .int 40, .int s, .int (nI i)] [] (zs f g) (zQi K)) (E := fun s => K s f g) n ?_ ?_ n 0 0 (by omega) hK
  · intro s hs
    apply s246_4_178
    rw [h, if_pos (nI_le (by omega) (by omega))]
    exact hs
  · intro i s hi hs
    unfold zsumv at hs
    apply s246_4_178
    rw [h, if_neg (nI_ge (by omega) (by omega)), nI_l40, if_neg (nI_in (by omega) (by omega)), nI_cl (by omega), nI_1, q220]
    exact hs
theorem q246_64 (hn : n ≤ 12) (h : f 178 7 = nI n) : zCpi X (d + 3) 246 [.ref 178, .int 64] (zs f g) K = K (zfold (zsumv (fun p => f 179 (64 + p))) n 0 0) f g := by
  refine zCpi_eq (fun K hK => e246_178 ?_)
  refine zloop (st := zsumv (fun p => f 179 (64 + p))) (W := fun i s => zWp X (d + 2) zm246 4 [.ref 178, .int 64, .int s, .int (nI i)] [] (zs f g) (zQi K)) (E := fun s => K s f g) n ?_ ?_ n 0 0 (by omega) hK
  · intro s hs
    apply s246_4_178
    rw [h, if_pos (nI_le (by omega) (by omega))]
    exact hs
  · intro i s hi hs
    unfold zsumv at hs
    apply s246_4_178
    rw [h, if_neg (nI_ge (by omega) (by omega)), nI_l64, if_neg (nI_in (by omega) (by omega)), nI_cl (by omega), nI_1, q220]
    exact hs
end ZSU
theorem zHal_sums {c st un bt pl : Int32} {L E Xs Ys N O A W w er : Nat → Int32} {B : Int} {n : Nat} (h : zHal c st un bt L E Xs Ys N O A W w pl er B) (hc : c = nI n) (hn : n ≤ 12) : zfold (zsumv (fun p => w (64 + p))) n 0 0 = zfold (zsumv W) n 0 0 ∧ zfold (zsumv (fun p => w (40 + p))) n 0 0 = zfold (zsumv O) n 0 0 ∧ ∀ p, p < n → 0 ≤ (W p).toInt := by
  obtain ⟨n', hn', h1, h2, h3, h4, h5, h6, h7, h8⟩ := h
  have en : n' = n := (nI_eq (by omega) (by omega)).mp (h1.symm.trans hc)
  subst en
  refine ⟨zfold_congr _ _ _ (fun p s _ hp => ?_), zfold_congr _ _ _ (fun p s _ hp => ?_), fun p hp => ?_⟩
  · obtain ⟨-, -, -, -, -, -, -, -, y, -⟩ := h8 p (by omega)
    unfold zsumv
    simp only [y]
  · obtain ⟨-, -, -, -, y, -⟩ := h8 p (by omega)
    unfold zsumv
    simp only [y]
  · obtain ⟨-, -, -, -, -, -, -, -, y, y2, -⟩ := h8 p hp
    rw [← y]
    exact y2
/-- the thought begins -/
theorem zTh_0 {fc fr : Nat → Nat → Int32} {gc : Nat → Nat → Int64} (hR : zRel fc gc fr) : ∃ (n P k : Nat) (wl al bl cl : Nat → Nat), n ≤ 12 ∧ P < 2 ^ 48 ∧ fc 2 8 = nI n ∧ fr 178 7 = nI n ∧ zTh n P k wl al bl cl 9999 (zHc fc 138 2) (zuL gc 138 12 (gc 2 12)) (zuI (zCz (zuI fr 178 0 0) 181 0 179 0 76) 178 5 1) := by
  obtain ⟨⟨c1, c2, c3, c4, c5, c6, c7, c8, c9, c10, c11⟩, c12, c13, c14, c15, c16⟩ := hR
  obtain ⟨n, hn, h1, h2, h3, h4, h5, h6, h7, h8⟩ := id c9
  obtain ⟨⟨P, hP, p1, p2⟩, p3⟩ := id c10
  obtain ⟨lk, wl, al, bl, cl, hLk, hLj⟩ := zLaw_k c6
  obtain ⟨x1, x2, x3, x4⟩ := c16
  have ri : ∀ i, ¬ i = 178 → ¬ i = 181 → zuI (zCz (zuI fr 178 0 0) 181 0 179 0 76) 178 5 1 i = fr i := fun i a b => by rw [zi_ne a, zCz_ne b, zi_ne a]
  have r8 : ∀ j, ¬ j = 0 → ¬ j = 5 → zuI (zCz (zuI fr 178 0 0) 181 0 179 0 76) 178 5 1 178 j = fr 178 j := fun j a b => by rw [zi_at, if_neg b, zCz_ne (by omega), zi_at, if_neg a]
  refine ⟨n, P, lk, wl, al, bl, cl, hn, hP, h1, h2, ?_, by rw [zHc_o (by omega)]; exact h1, by rw [zj_at, if_pos rfl]; exact p1, fun k hk => by rw [ri 197 (by omega) (by omega)]; exact p2 k hk, ?_, ?_, ⟨by rw [zHc_ne (by omega)]; exact x2, by rw [zi_at, if_pos rfl]⟩, ?_, ?_⟩
  · rw [ri 179 (by omega) (by omega), ri 183 (by omega) (by omega), r8 7 (by omega) (by omega)]
    exact zhal_t (f := fc) (F := zHc fc 138 2) (h := 2) (b := 138) (fun j j0 j8 k hk => zHc_r j0 j8 hk) (fun k hk => zHc_o hk) (fun _ _ => rfl) c9
  · obtain ⟨l1, l2, l3⟩ := hLk
    unfold zLk
    rw [zHc_ne (i := 13) (by omega), zHc_ne (i := 14) (by omega), zHc_ne (i := 15) (by omega), zHc_ne (i := 16) (by omega), zHc_ne (i := 17) (by omega), zHc_ne (i := 18) (by omega)]
    exact ⟨l1, l2, l3⟩
  · obtain ⟨l1, l2, l3⟩ := hLj
    unfold zLj
    rw [zHc_ne (i := 14) (by omega), ri 187 (by omega) (by omega), ri 188 (by omega) (by omega), ri 189 (by omega) (by omega), ri 190 (by omega) (by omega), ri 191 (by omega) (by omega), ri 192 (by omega) (by omega), ri 193 (by omega) (by omega)]
    exact ⟨l1, l2, l3⟩
  · rw [zHc_ne (i := 20) (by omega), zHc_ne (i := 21) (by omega), ri 195 (by omega) (by omega), r8 33 (by omega) (by omega)]
    exact c7
  · rw [zHc_ne (i := 22) (by omega), zHc_ne (i := 23) (by omega), ri 196 (by omega) (by omega), r8 35 (by omega) (by omega), r8 7 (by omega) (by omega)]
    exact c8
/-- the thought ends -/
theorem zTh_1 {fc fr F R : Nat → Nat → Int32} {gc G : Nat → Nat → Int64} (hR : zRel fc gc fr) (hF : zFh (zHc fc 138 2) F (zuL gc 138 12 (gc 2 12)) G (zuI (zCz (zuI fr 178 0 0) 181 0 179 0 76) 178 5 1) R) : zRel F G (zuI (zCz R 179 0 181 0 76) 178 5 0) := by
  obtain ⟨k1, k2, k3⟩ := hF
  have c16 := hR.2.2.2.2.2
  refine zRel_th (fun i a b => by rw [k1 i (by omega) (by omega) b, zHc_ne (by omega)]) (by rw [k1 147 (by omega) (by omega) (by omega), zHc_ne (by omega)]) (by rw [k1 158 (by omega) (by omega) (by omega), zHc_ne (by omega)]) (fun i a => by rw [k2 i (by omega), zj_ne (by omega)]) (fun i a1 a2 a3 a4 a5 a6 => by rw [zi_ne a1, zCz_ne a2, k3 i a2 a4 a5 a6, zi_ne a1, zCz_ne a3, zi_ne a1]) (fun j hj => ?_) (fun j hj => ?_) hR
  · by_cases e : j = 5
    · subst e
      rw [zi_at, if_pos rfl]
      exact c16.2.2.1.symm
    · rw [zi_at, if_neg e, zCz_ne (by omega), k3 178 (by omega) (by omega) (by omega) (by omega), zi_at, if_neg e, zCz_ne (by omega), zi_at, if_neg hj]
  · rw [zi_ne (by omega), zCz_at, if_pos (by omega), k3 181 (by omega) (by omega) (by omega) (by omega), zi_ne (by omega), zCz_at, if_pos (by omega), zi_ne (by omega)]
    exact congrArg (fr 179) (by omega)
theorem op_goes {X : Nat × (Nat → Int32)} {d : Nat} {a w : Int32} : zOp X (d + 11) 138 244 [.int a, .int w] := by
  intro fc fr gc gr hR
  have z3 : ¬ ((3 : Int32) < 0 ∨ 76 ≤ (3 : Int32).toNatClampNeg) := by decide
  have hR0 : zRel fc gc (zuI fr 178 0 0) := zRel_scr (fun _ _ _ => rfl) rfl rfl (fun _ _ => rfl) (fun i a1 _ _ _ _ => zi_ne a1) (fun j hj => by rw [zi_at, if_neg hj]) hR
  by_cases hin : (1 : Int32).toInt ≤ a.toInt ∧ a.toInt ≤ (60 : Int32).toInt
  case neg =>
    apply e138_0
    rw [q124, if_pos (by rw [zb_0]; exact hin)]
    apply e244_178
    rw [q165, if_pos (by rw [zb_0]; exact hin)]
    exact ⟨rfl, hR0⟩
  by_cases hi2 : (0 : Int32).toInt ≤ w.toInt ∧ w.toInt ≤ (3 : Int32).toInt
  case neg =>
    apply e138_0
    rw [q124, if_neg (by rw [zb_0]; exact fun z => z hin), q124, if_pos (by rw [zb_0]; exact hi2)]
    apply e244_178
    rw [q165, if_neg (by rw [zb_0]; exact fun z => z hin), q165, if_pos (by rw [zb_0]; exact hi2)]
    exact ⟨rfl, hR0⟩
  have hin' : 1 ≤ a.toInt ∧ a.toInt ≤ 60 := hin
  have hi2' : 0 ≤ w.toInt ∧ w.toInt ≤ 3 := hi2
  obtain ⟨N, hN, eN⟩ := zixn (x := a) (n := 61) (by omega) (by omega) (by omega)
  subst eN
  obtain ⟨n, P, k, wl, al, bl, cl, hn, hP, h1, h2, hT⟩ := zTh_0 hR
  obtain ⟨F, G, R, b1, b2, b3, b4⟩ := ths (X := X) (d := d) (e := d) (gr := gr) (N := N) (w := w) hn hP (by omega) N 0 (by omega) 9999 _ _ _ (by omega) hT
  have hfin := zTh_1 hR b2
  obtain ⟨t1, t2, -⟩ := b1
  have t7 : R 178 7 = nI n := by
    obtain ⟨n', hn', y1, y2, -⟩ := t1
    have en : n' = n := (nI_eq (by omega) (by omega)).mp (y1.symm.trans t2)
    rw [y2, en]
  obtain ⟨u1, u2, u3⟩ := zHal_sums t1 t2 hn
  have u4 := zHal_so t1 t2 hn
  have u5 : R 179 3 = F 138 10 := t1.choose_spec.2.2.2.2.1
  apply e138_0
  rw [q124, if_neg (by rw [zb_0]; exact fun z => z hin), q124, if_neg (by rw [zb_0]; exact fun z => z hi2), q21_138_2]
  apply b3
  apply s138_37_0
  rw [if_pos (nI_le (by omega) (by omega))]
  have href : ∀ (K : Int32 → (Nat → Nat → Int32) → (Nat → Nat → Int64) → Prop), zWp X (d + 10) zm244 34 [.ref 178, .int (nI N), .int w, .int (nI N)] [] (zs R gr) (zQi K) → zCpi X (d + 11) 244 [.ref 178, .int (nI N), .int w] (zs fr gr) K := fun K hK => by
    apply e244_178
    rw [q165, if_neg (by rw [zb_0]; exact fun z => z hin), q165, if_neg (by rw [zb_0]; exact fun z => z hi2), q245]
    exact b4 K hK
  have hw : w = 0 ∨ w = 1 ∨ w = 2 ∨ w = 3 := by
    obtain ⟨W, hW, eW⟩ := zixn (x := w) (n := 4) (by omega) (by omega) (by omega)
    have h4 : W = 0 ∨ W = 1 ∨ W = 2 ∨ W = 3 := by omega
    rcases h4 with rfl | rfl | rfl | rfl
    · exact Or.inl eW
    · exact Or.inr (Or.inl eW)
    · exact Or.inr (Or.inr (Or.inl eW))
    · exact Or.inr (Or.inr (Or.inr eW))
  rcases hw with rfl | rfl | rfl | rfl
  · rw [if_pos rfl, q23_138 hn t2]
    apply href
    apply s244_34_178
    rw [if_pos (nI_le (by omega) (by omega)), if_pos rfl, q237 hn t7, q238 (by have := zso_lt (N := fun p => R 179 (28 + p) - 1) hn; omega), q247, u4]
    exact ⟨rfl, hfin⟩
  · rw [if_neg (by decide), if_pos rfl]
    apply href
    apply s244_34_178
    rw [if_pos (nI_le (by omega) (by omega)), if_neg (by decide), if_pos rfl, if_neg z3, q247]
    exact ⟨u5, hfin⟩
  · rw [if_neg (by decide), if_neg (by decide), if_pos rfl, q29_138 hn t2 u3]
    apply href
    apply s244_34_178
    rw [if_pos (nI_le (by omega) (by omega)), if_neg (by decide), if_neg (by decide), if_pos rfl, q246_64 hn t7, q247, u1]
    exact ⟨rfl, hfin⟩
  · rw [if_neg (by decide), if_neg (by decide), if_neg (by decide), q30_138 hn t2]
    apply href
    apply s244_34_178
    rw [if_pos (nI_le (by omega) (by omega)), if_neg (by decide), if_neg (by decide), if_neg (by decide), q246_40 hn t7, q247, u2]
    exact ⟨rfl, hfin⟩
/-! all -/
theorem zsd_le {N : Nat → Int32} {n : Nat} : zfold (zsd2 N) n 0 0 ≤ n := by
  have h := zfold_inv (st := zsd2 N) (I := fun i c => c ≤ i) n (fun i c _ h => by
    unfold zsd2
    split <;> omega) n 0 0 (by omega) (Nat.le_refl _)
  exact h
section ZAL
variable {X : Nat × (Nat → Int32)} {d e : Nat} {gr : Nat → Nat → Int64} {n P k : Nat} {wl al bl cl : Nat → Nat}
theorem als (hn : n ≤ 12) (hP : P < 2 ^ 48) : ∀ m i : Nat, i + m = 61 → ∀ (B : Int) (f r : Nat → Nat → Int32) (g : Nat → Nat → Int64), B + m ≤ 20000 → zTh n P k wl al bl cl B f g r → ∃ (v : Int32) (F : Nat → Nat → Int32) (G : Nat → Nat → Int64) (R : Nat → Nat → Int32), zFh f F g G r R ∧ (∀ K : Int32 → (Nat → Nat → Int32) → (Nat → Nat → Int64) → Prop, K v F G → zWp X (d + 10) zm139 28 [.ref 0, .int (nI i)] [] (zs f g) (zQi K)) ∧ (∀ K : Int32 → (Nat → Nat → Int32) → (Nat → Nat → Int64) → Prop, K v (zuI (zCz R 179 0 181 0 76) 178 5 0) gr → zWp X (e + 10) zm248 20 [.ref 178, .int (nI i)] [] (zs r gr) (zQi K)) := by
  intro m
  induction m with
  | zero =>
    intro i hi B f r g hB hT
    have ei : i = 61 := by omega
    subst ei
    refine ⟨-1, f, g, r, zFh_rf, fun K hK => ?_, fun K hK => ?_⟩
    · apply s139_28_0
      rw [if_pos (show (60 : Int32) < nI 61 from by decide)]
      exact hK
    · apply s248_20_178
      rw [if_pos (show (60 : Int32) < nI 61 from by decide), q247, if_neg (show ¬ nI 61 ≤ (60 : Int32) from by decide)]
      exact hK
  | succ m ih =>
    intro i hi B f r g hB hT
    obtain ⟨t1, t2, -⟩ := id hT
    have t7 : r 178 7 = nI n := by
      obtain ⟨n', hn', y1, y2, -⟩ := t1
      have en : n' = n := (nI_eq (by omega) (by omega)).mp (y1.symm.trans t2)
      rw [y2, en]
    have u4 := zHal_so t1 t2 hn
    have u5 : zpc 12 (zfold (zso (f 143)) n 0 0) ≤ n := by rw [← zsd_pc hn]; exact zsd_le
    have i60 : ¬ (60 : Int32) < nI i := by simp only [Int32.lt_iff_toInt_lt, Int32.le_iff_toInt_le, Int32.reduceToInt, nI_ti (show i ≤ 100000 by omega)]; omega
    have l60 : nI i ≤ (60 : Int32) := by simp only [Int32.lt_iff_toInt_lt, Int32.le_iff_toInt_le, Int32.reduceToInt, nI_ti (show i ≤ 100000 by omega)]; omega
    by_cases he : zpc 12 (zfold (zso (f 143)) n 0 0) = n
    · refine ⟨nI i, f, g, r, zFh_rf, fun K hK => ?_, fun K hK => ?_⟩
      · apply s139_28_0
        rw [if_neg i60, q23_138 hn t2, t2, if_pos (by rw [he])]
        exact hK
      · apply s248_20_178
        rw [if_neg i60, q237 hn t7, q238 (by have := zso_lt (N := fun p => r 179 (28 + p) - 1) hn; omega), u4, t7, if_pos (nI_le (by omega) (by omega)), q247, if_pos l60]
        exact hK
    · obtain ⟨v, F, G, R, a1, a2, a3, a4⟩ := th1 (X := X) (d := d) (e := e) (gr := gr) hn hP (by omega) hT
      obtain ⟨v', F', G', R', b2, b3, b4⟩ := ih (i + 1) (by omega) (B + 1) F R G (by omega) a3
      refine ⟨v', F', G', R', zFh_tr a4 b2, fun K hK => ?_, fun K hK => ?_⟩
      · apply s139_28_0
        rw [if_neg i60, q23_138 hn t2, t2, if_neg (nI_neq (by omega) (by omega) he), a1, nI_1]
        exact b3 K hK
      · apply s248_20_178
        rw [if_neg i60, q237 hn t7, q238 (by have := zso_lt (N := fun p => r 179 (28 + p) - 1) hn; omega), u4, t7, if_neg (nI_ge (by omega) (by omega)), a2, nI_1]
        exact b4 K hK
end ZAL
theorem op_all {X : Nat × (Nat → Int32)} {d : Nat} : zOp X (d + 11) 139 248 [] := by
  intro fc fr gc gr hR
  obtain ⟨n, P, k, wl, al, bl, cl, hn, hP, h1, h2, hT⟩ := zTh_0 hR
  apply e139_0
  rw [q21_138_2, show zHc fc 138 2 138 8 = nI n by rw [zHc_o (by omega)]; exact h1]
  by_cases h0 : n = 0
  · subst h0
    rw [if_pos (by decide)]
    apply e248_178
    rw [h2, if_pos (by decide)]
    refine ⟨rfl, ?_⟩
    exact zRel_scr (fun i a b => zHc_ne (by omega)) (by rw [zHc_ne (by omega)]) (by rw [zHc_ne (by omega)]) (fun i a => zj_ne (by omega)) (fun i a1 _ _ _ _ => zi_ne a1) (fun j hj => by rw [zi_at, if_neg hj]) hR
  · rw [if_neg (nI_z (by omega) (by omega))]
    obtain ⟨v, F, G, R, b2, b3, b4⟩ := als (X := X) (d := d) (e := d) (gr := gr) hn hP 61 0 (by omega) 9999 _ _ _ (by omega) hT
    apply b3
    apply e248_178
    rw [h2, if_neg (nI_z (by omega) (by omega)), q245]
    apply b4
    exact ⟨rfl, zTh_1 hR b2⟩

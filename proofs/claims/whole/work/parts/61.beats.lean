/-! beats -/
/-- all but what a real beat changes is as it was -/
theorem zRel_beat {f F : Nat → Nat → Int32} {g G : Nat → Nat → Int64} {r R : Nat → Nat → Int32} (hR : zRel f g r) (hH : zHal (F 2 8) (F 2 9) (F 2 10) (F 2 11) (F 3) (F 4) (F 5) (F 6) (F 7) (F 8) (F 9) (F 10) (R 179) (R 178 7) (R 183) 9999) (hPr : zPr_147 F R) (hBk : zBk_147 f r F R) (hF : ∀ i, ¬ (2 ≤ i ∧ i ≤ 10) → ¬ (148 ≤ i ∧ i ≤ 156) → ¬ i = 157 → ¬ i = 19 → ¬ i = 11 → ¬ i = 12 → F i = f i) (hG : ∀ i, ¬ i = 148 → G i = g i) (hr : ∀ i, ¬ i = 179 → ¬ i = 182 → ¬ i = 184 → ¬ i = 198 → ¬ i = 199 → R i = r i) : zRel F G R := by
  obtain ⟨⟨c1, c2, c3, c4, c5, c6, c7, c8, c9, c10, c11⟩, c12, c13, c14, c15, c16⟩ := hR
  obtain ⟨p1, p2, p3⟩ := hPr
  obtain ⟨b, b', e1, e2, e3, e4⟩ := hBk
  have h := fun i (a : i ≤ 147) (a1 : ¬ (2 ≤ i ∧ i ≤ 12)) (a2 : ¬ i = 19) => hF i (by omega) (by omega) (by omega) a2 (by omega) (by omega)
  have e := fun i (a : ¬ i = 179) (b : ¬ i = 182) (c : ¬ i = 184) (d : ¬ i = 198) (k : ¬ i = 199) => hr i a b c d k
  refine ⟨⟨?_, ?_, ?_, ?_, ?_, ?_, ?_, ?_, hH, ?_, p3⟩, ?_, ?_, ?_, ?_, ?_⟩
  · rw [h 27 (by omega) (by omega) (by omega), h 28 (by omega) (by omega) (by omega), e 178 (by omega) (by omega) (by omega) (by omega) (by omega), e 204 (by omega) (by omega) (by omega) (by omega) (by omega)]; exact c1
  · rw [h 25 (by omega) (by omega) (by omega), h 26 (by omega) (by omega) (by omega), e 178 (by omega) (by omega) (by omega) (by omega) (by omega), e 203 (by omega) (by omega) (by omega) (by omega) (by omega)]; exact c2
  · rw [h 29 (by omega) (by omega) (by omega), h 30 (by omega) (by omega) (by omega), e 178 (by omega) (by omega) (by omega) (by omega) (by omega), e 206 (by omega) (by omega) (by omega) (by omega) (by omega)]; exact c3
  · rw [h 31 (by omega) (by omega) (by omega), h 32 (by omega) (by omega) (by omega), e 178 (by omega) (by omega) (by omega) (by omega) (by omega), e 208 (by omega) (by omega) (by omega) (by omega) (by omega)]; exact c4
  · rw [h 24 (by omega) (by omega) (by omega), e 201 (by omega) (by omega) (by omega) (by omega) (by omega)]; exact c5
  · rw [h 13 (by omega) (by omega) (by omega), h 14 (by omega) (by omega) (by omega), h 15 (by omega) (by omega) (by omega), h 16 (by omega) (by omega) (by omega), h 17 (by omega) (by omega) (by omega), h 18 (by omega) (by omega) (by omega), e 187 (by omega) (by omega) (by omega) (by omega) (by omega), e 188 (by omega) (by omega) (by omega) (by omega) (by omega), e 189 (by omega) (by omega) (by omega) (by omega) (by omega), e 190 (by omega) (by omega) (by omega) (by omega) (by omega), e 191 (by omega) (by omega) (by omega) (by omega) (by omega), e 192 (by omega) (by omega) (by omega) (by omega) (by omega), e 193 (by omega) (by omega) (by omega) (by omega) (by omega)]; exact c6
  · rw [h 20 (by omega) (by omega) (by omega), h 21 (by omega) (by omega) (by omega), e 178 (by omega) (by omega) (by omega) (by omega) (by omega), e 195 (by omega) (by omega) (by omega) (by omega) (by omega)]; exact c7
  · rw [h 22 (by omega) (by omega) (by omega), h 23 (by omega) (by omega) (by omega), e 178 (by omega) (by omega) (by omega) (by omega) (by omega), e 196 (by omega) (by omega) (by omega) (by omega) (by omega)]; exact c8
  · rw [hG 2 (by omega), h 1 (by omega) (by omega) (by omega), e 178 (by omega) (by omega) (by omega) (by omega) (by omega), e 197 (by omega) (by omega) (by omega) (by omega) (by omega)]; exact c10
  · rw [h 65 (by omega) (by omega) (by omega), h 66 (by omega) (by omega) (by omega), e 178 (by omega) (by omega) (by omega) (by omega) (by omega), e 185 (by omega) (by omega) (by omega) (by omega) (by omega)]; exact c12
  · rw [h 70 (by omega) (by omega) (by omega), e 178 (by omega) (by omega) (by omega) (by omega) (by omega)]; exact c13
  · exact zPas_book e1 (by omega) e2 e3 e4 (fun i _ _ => h i (by omega) (by omega) (by omega)) (fun i _ _ => by rw [hG i (by omega)]) (by rw [hG 2 (by omega)]) (e 180 (by omega) (by omega) (by omega) (by omega) (by omega)) (by rw [e 178 (by omega) (by omega) (by omega) (by omega) (by omega)]) (by rw [e 178 (by omega) (by omega) (by omega) (by omega) (by omega)]) (e 183 (by omega) (by omega) (by omega) (by omega) (by omega)) c14
  · exact zIma_frame (by rw [h 0 (by omega) (by omega) (by omega)]) (fun i _ _ => h i (by omega) (by omega) (by omega)) (by rw [hG 34 (by omega)]) (e 211 (by omega) (by omega) (by omega) (by omega) (by omega)) (by rw [e 178 (by omega) (by omega) (by omega) (by omega) (by omega)]) c15
  · rw [h 147 (by omega) (by omega) (by omega), hF 158 (by omega) (by omega) (by omega) (by omega) (by omega) (by omega), e 178 (by omega) (by omega) (by omega) (by omega) (by omega), e 186 (by omega) (by omega) (by omega) (by omega) (by omega)]; exact c16
section ZBE
variable {X : Nat × (Nat → Int32)} {d e : Nat} {gr : Nat → Nat → Int64}
theorem bt1 {f r : Nat → Nat → Int32} {g : Nat → Nat → Int64} (hR : zRel f g r) (hb : (r 179 0).toInt ≤ 9998) : ∃ (v : Int32) (F : Nat → Nat → Int32) (G : Nat → Nat → Int64) (R : Nat → Nat → Int32), (∀ K : Int32 → (Nat → Nat → Int32) → (Nat → Nat → Int64) → Prop, zCpv X (d + 10) 45 [.ref 81, .ref 2, .ref 11] (zs f g) (fun f1 g2 => zCpi X (d + 10) 5 [.ref 147] (zs f1 g2) K) = K v F G) ∧ (∀ K : Int32 → (Nat → Nat → Int32) → (Nat → Nat → Int64) → Prop, zCpv X (e + 10) 210 [.ref 178] (zs r gr) (fun f1 g2 => zCpi X (e + 10) 211 [.ref 178] (zs f1 g2) K) = K v R gr) ∧ zRel F G R ∧ R 179 0 = r 179 0 + 1 := by
  obtain ⟨s, p, mm, a1, a2, a3, a4, a5, a6, a6', a7⟩ := id hR.2.2.2.1
  have hk := zRel_keep a1 a2 a3 a5 hR
  have e0 : zKr r s 179 0 = r 179 0 := by rw [zKr_ne (by omega) (by omega)]
  obtain ⟨f1, hf1⟩ : ∃ f1, f1 = zuI (zuI (zuI (zHc f (84 + 9 * p) 2) 83 p (f 11 1)) 81 2 (nI ((p + 1) % 6))) 81 3 (nI (min 6 (s + 1))) := ⟨_, rfl⟩
  obtain ⟨g1, hg1⟩ : ∃ g1, g1 = zuL g (84 + 9 * p) 12 (g 2 12) := ⟨_, rfl⟩
  obtain ⟨r1, hr1⟩ : ∃ r1, r1 = zKr r s := ⟨_, rfl⟩
  rw [← hf1, ← hg1, ← hr1] at hk
  rw [← hr1] at e0
  obtain ⟨⟨c1, c2, c3, c4, c5, c6, c7, c8, c9, c10, c11⟩, c12, c13, c14, c15, c16⟩ := id hk
  obtain ⟨n, hn, h1, h2, h3, h4, h5, h6, h7, h8⟩ := id c9
  obtain ⟨⟨P, hP, p1, p2⟩, p3⟩ := id c10
  obtain ⟨lk, wl, al, bl, cl, hLk, hLj⟩ := zLaw_k c6
  obtain ⟨x1, x2, x3, x4⟩ := id c16
  obtain ⟨v, F, R, g1', g2', g3', g4', g5', g6', g7', g8', g9'⟩ := go_147 (X := X) (d := d) (e := e) (g := g1) (gr := gr) (n := n) (P := P) (k := lk) (wl := wl) (al := al) (bl := bl) (cl := cl) (B := (r1 179 0).toInt) (f := f1) (r := r1) hn hP p1 h1 (zHal_B c9 (by omega)) (by omega) p2 hLk hLj ⟨x1, x3, c11⟩ c7 c8
  refine ⟨v, F, zuL g1 148 12 (g1 2 12), R, fun K => ?_, fun K => ?_, ?_, ?_⟩
  · rw [q45 a1 a2 a3 a5, ← hf1, ← hg1, g1']
  · rw [q210 a1 a4, ← hr1, g2']
  · have t0 : (R 179 0).toInt = (r1 179 0).toInt + 1 := by
      rw [g9', zt_add (by have : (1 : Int32).toInt = 1 := rfl; omega) (by have : (1 : Int32).toInt = 1 := rfl; omega)]
      rfl
    exact zRel_beat hk (zHal_B g3' (by rw [t0, e0]; omega)) g4' g5' g6' (fun i hi => zj_ne hi) g8'
  · rw [g9', e0]
theorem bts {N : Nat} (hN : N ≤ 60) : ∀ m i, i + m = N → ∀ (s : Int32) (f r : Nat → Nat → Int32) (g : Nat → Nat → Int64), zRel f g r → (r 179 0).toInt + m ≤ 9999 → ∃ (v : Int32) (F : Nat → Nat → Int32) (G : Nat → Nat → Int64) (R : Nat → Nat → Int32), zRel F G R ∧ (∀ K : Int32 → (Nat → Nat → Int32) → (Nat → Nat → Int64) → Prop, K v F G → zWp X (d + 10) zm129 34 [.ref 0, .int (nI N), .int s, .int (nI i)] [] (zs f g) (zQi K)) ∧ (∀ K : Int32 → (Nat → Nat → Int32) → (Nat → Nat → Int64) → Prop, K v R gr → zWp X (e + 10) zm209 36 [.ref 178, .int (nI N), .int s, .int (nI i)] [] (zs r gr) (zQi K)) := by
  intro m
  induction m with
  | zero =>
    intro i hi s f r g hR hb
    have ei : i = N := by omega
    subst ei
    refine ⟨s, f, g, r, hR, fun K hK => ?_, fun K hK => ?_⟩
    · apply s129_34_0
      rw [if_pos (nI_le (by omega) (by omega))]
      exact hK
    · apply s209_36_178
      rw [if_pos (nI_le (by omega) (by omega))]
      exact hK
  | succ m ih =>
    intro i hi s f r g hR hb
    obtain ⟨v, F, G, R, b1, b2, b3, b4⟩ := bt1 (X := X) (d := d) (e := e) (gr := gr) hR (by omega)
    have h0 : 0 ≤ (r 179 0).toInt := by
      obtain ⟨n, hn, h1, h2, h3, h4, h5, h6, -⟩ := hR.1.2.2.2.2.2.2.2.2.1
      exact h6
    have t0 : (R 179 0).toInt = (r 179 0).toInt + 1 := by
      rw [b4, zt_add (by have : (1 : Int32).toInt = 1 := rfl; omega) (by have : (1 : Int32).toInt = 1 := rfl; omega)]
      rfl
    obtain ⟨v', F', G', R', d1, d2, d3⟩ := ih (i + 1) (by omega) (s + v) F R G b3 (by omega)
    refine ⟨v', F', G', R', d1, fun K hK => ?_, fun K hK => ?_⟩
    · apply s129_34_0
      rw [if_neg (nI_ge (by omega) (by omega)), b1, nI_1]
      exact d2 K hK
    · apply s209_36_178
      rw [if_neg (nI_ge (by omega) (by omega)), b2, nI_1]
      exact d3 K hK
end ZBE
theorem op_beats {X : Nat × (Nat → Int32)} {d : Nat} {a : Int32} : zOp X (d + 11) 129 209 [.int a] := by
  intro fc fr gc gr hR
  have z0 : ¬ ((0 : Int32) < 0 ∨ 76 ≤ (0 : Int32).toNatClampNeg) := by decide
  have hR0 : zRel fc gc (zuI fr 178 0 0) := zRel_scr (fun _ _ _ => rfl) rfl rfl (fun _ _ => rfl) (fun i a1 _ _ _ _ => zi_ne a1) (fun j hj => by rw [zi_at, if_neg hj]) hR
  obtain ⟨n, hn, h1, h2, h3, h4, h5, h6, h7, h8⟩ := hR.1.2.2.2.2.2.2.2.2.1
  by_cases hin : (1 : Int32).toInt ≤ a.toInt ∧ a.toInt ≤ (60 : Int32).toInt
  case neg =>
    apply e129_0
    rw [q124, if_pos (by rw [zb_0]; exact hin)]
    apply e209_178
    rw [q165, if_pos (by rw [zb_0]; exact hin)]
    exact ⟨rfl, hR0⟩
  have hin' : 1 ≤ a.toInt ∧ a.toInt ≤ 60 := hin
  obtain ⟨N, hN, eN⟩ := zixn (x := a) (n := 61) (by omega) (by omega) (by omega)
  subst eN
  have tN := nI_ti (k := N) (by omega)
  have e0 : zuI fr 178 0 0 179 0 = fr 179 0 := by rw [zi_ne (by omega)]
  have es : (fr 179 0 + nI N ≤ 9999) = ((fr 179 0).toInt + N ≤ 9999) := by
    simp only [Int32.lt_iff_toInt_lt, Int32.le_iff_toInt_le, Int32.reduceToInt]
    rw [zt_add (by omega) (by omega), tN]
  by_cases hb : (fr 179 0).toInt + N ≤ 9999
  · obtain ⟨v, F, G, R, b1, b2, b3⟩ := bts (X := X) (d := d) (e := d) (gr := gr) (N := N) (by omega) N 0 (by omega) 0 fc (zuI fr 178 0 0) gc hR0 (by rw [e0]; exact hb)
    apply e129_0
    rw [q124, if_neg (by rw [zb_0]; exact fun z => z hin), ← h5, if_pos (by rw [es]; exact hb)]
    apply b2
    apply e209_178
    rw [q165, if_neg (by rw [zb_0]; exact fun z => z hin), if_neg z0, e0, if_pos (by rw [es]; exact hb)]
    apply b3
    exact ⟨rfl, b1⟩
  · apply e129_0
    rw [q124, if_neg (by rw [zb_0]; exact fun z => z hin), ← h5, if_neg (by rw [es]; exact hb)]
    apply e209_178
    rw [q165, if_neg (by rw [zb_0]; exact fun z => z hin), if_neg z0, e0, if_neg (by rw [es]; exact hb)]
    exact ⟨rfl, hR0⟩

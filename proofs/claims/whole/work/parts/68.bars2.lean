/-! bars: the reference's side -/
theorem zbs4_le {T : Nat → Nat} {k r o w : Nat} (h : w ≤ 100000000) : zbs4 T k r o w ≤ 100000000 := by
  unfold zbs4
  split <;> omega
section ZBR
variable {X : Nat × (Nat → Int32)} {d : Nat} {g : Nat → Nat → Int64} {K : Int32 → (Nat → Nat → Int32) → (Nat → Nat → Int64) → Prop}
/-- the rows but for one place, and that place -/
def zQ2 (F G : Nat → Nat → Int32) (a : Nat) : Prop := (∀ j, ¬ j = a → G 209 j = F 209 j ∧ G 210 j = F 210 j) ∧ ∀ c, ¬ c = 209 → ¬ c = 210 → G c = F c
theorem zQ2_tr {F G H : Nat → Nat → Int32} {a : Nat} (h1 : zQ2 F G a) (h2 : zQ2 G H a) : zQ2 F H a := ⟨fun j hj => ⟨(h2.1 j hj).1.trans (h1.1 j hj).1, (h2.1 j hj).2.trans (h1.1 j hj).2⟩, fun c a b => (h2.2 c a b).trans (h1.2 c a b)⟩
theorem c275_s {F : Nat → Nat → Int32} {x1 x2 x3 x4 : Int32} {v l o w w' : Nat} (hv : v ≤ 40) (hl : 1 < l) (hl5 : l < 5) (hvl : l ≤ v) (ho : o < 5) (hw' : w' ≤ 100000000) (h1 : F 209 (5 * v + l) = nI w) (h2 : F 210 (5 * v + l) = nI w') (h3 : F 209 (5 * (v - l) + o) = nI (zT3 (5 * (v - l) + o))) (h4 : F 210 (5 * (v - l) + o) = nI (zT4 (5 * (v - l) + o)))
    (h : ∀ G, zQ2 F G (5 * v + l) → G 209 (5 * v + l) = nI (zbs3 zT3 l (v - l) o w) → G 210 (5 * v + l) = nI (zbs4 zT4 l (v - l) o w') → zWp X (d + 2) zm275 118 [.ref 178, .int x1, .int x2, .int x3, .int x4, .int (nI v), .int (nI l), .int (nI (5 * v + l)), .int (nI (o + 1))] [] (zs G g) (zQi K)) : zWp X (d + 2) zm275 118 [.ref 178, .int x1, .int x2, .int x3, .int x4, .int (nI v), .int (nI l), .int (nI (5 * v + l)), .int (nI o)] [] (zs F g) (zQi K) := by
  apply s275_118_178
  rw [if_neg (show ¬ (5 : Int32) ≤ nI o from nI_ge (b := 5) ho (by omega)), if_neg (show ¬ nI l ≤ (1 : Int32) from nI_ge (a := 1) hl (by omega)), if_neg (show ¬ nI v < nI l by simp only [Int32.lt_iff_toInt_lt, Int32.le_iff_toInt_le, nI_ti (show v ≤ 100000 by omega), nI_ti (show l ≤ 100000 by omega)]; omega)]
  by_cases e : o = l
  · rw [if_pos (by rw [e]), nI_1]
    refine h F ⟨fun _ _ => ⟨rfl, rfl⟩, fun _ _ _ => rfl⟩ ?_ ?_
    · unfold zbs3
      rw [if_pos e]
      exact h1
    · unfold zbs4
      rw [if_pos e]
      exact h2
  · have e5 : (5 : Int32) * nI (v - l) + nI o = nI (5 * (v - l) + o) := nI_mb (v - l) 5 o
    have kk := nI_cl (k := 5 * v + l) (by omega)
    have kr := nI_cl (k := 5 * (v - l) + o) (by omega)
    have ik := nI_in' (c := 5 * v + l) (N := 205) (by omega) (by omega)
    have ir := nI_in' (c := 5 * (v - l) + o) (N := 205) (by omega) (by omega)
    have t4 := zT4_le (5 * (v - l) + o) (by omega)
    rw [if_neg (nI_neq (by omega) (by omega) e)]
    simp only [zmO.2, zsO.2, pk_sub hvl, e5, kk, kr, if_neg ik, if_neg ir, nI_1]
    rw [q222]
    simp only [h1, h2, h3, h4, nI_1, nI_add, zmn_nI (show w' < 2 ^ 31 by omega) (show zT4 (5 * (v - l) + o) + 1 < 2 ^ 31 by omega)]
    refine h _ ⟨fun j hj => ⟨?_, ?_⟩, fun c a b => ?_⟩ ?_ ?_
    · rw [zi_ne (by omega), zi_at, if_neg hj]
    · rw [zi_at, if_neg hj, zi_ne (by omega)]
    · rw [zi_ne b, zi_ne a]
    · unfold zbs3
      rw [if_neg e, zi_ne (by omega), zi_at, if_pos rfl]
    · unfold zbs4
      rw [if_neg e, zi_at, if_pos rfl]
theorem c275_e {F : Nat → Nat → Int32} {x1 x2 x3 x4 : Int32} {v l o : Nat} (hv : v ≤ 40) (hl5 : l < 5) (ho : o = 5 ∨ (o < 5 ∧ (l ≤ 1 ∨ v < l))) (h : zWp X (d + 2) zm275 54 [.ref 178, .int x1, .int x2, .int (x3 + F 209 (5 * v + l)), .int (zmn x4 (F 210 (5 * v + l))), .int (nI v), .int (nI (l + 1)), .null, .null] [] (zs F g) (zQi K)) : zWp X (d + 2) zm275 118 [.ref 178, .int x1, .int x2, .int x3, .int x4, .int (nI v), .int (nI l), .int (nI (5 * v + l)), .int (nI o)] [] (zs F g) (zQi K) := by
  have kk := nI_cl (k := 5 * v + l) (by omega)
  have ik := nI_in (c := 5 * v + l) (N := 205) (by omega) (by omega)
  have fin : (if nI (5 * v + l) < 0 ∨ 205 ≤ (nI (5 * v + l)).toNatClampNeg then False else (if nI (5 * v + l) < 0 ∨ 205 ≤ (nI (5 * v + l)).toNatClampNeg then False else (zCpi X (d + 2) 222 [.ref 178, .int x4, .int (F 210 (nI (5 * v + l)).toNatClampNeg)] (zs F g) (fun v3 f1 g2 => zWp X (d + 2) zm275 54 [.ref 178, .int x1, .int x2, .int (x3 + (F 209 (nI (5 * v + l)).toNatClampNeg)), .int v3, .int (nI v), .int (nI l + 1), .null, .null] [] (zs f1 g2) (zQi K))))) := by
    rw [if_neg ik, if_neg ik, q222, kk, nI_1]
    exact h
  apply s275_118_178
  rcases ho with rfl | ⟨ho, hx⟩
  · rw [if_pos (show (5 : Int32) ≤ nI 5 from by decide)]
    exact fin
  · rw [if_neg (show ¬ (5 : Int32) ≤ nI o from nI_ge (b := 5) ho (by omega))]
    by_cases h1 : l ≤ 1
    · rw [if_pos (show nI l ≤ (1 : Int32) from nI_le (b := 1) h1 (by omega))]
      exact fin
    · rw [if_neg (show ¬ nI l ≤ (1 : Int32) from nI_ge (a := 1) (by omega) (by omega)), if_pos (nI_lt (by omega) (by omega))]
      exact fin
theorem c275_l {F : Nat → Nat → Int32} {x1 x2 : Int32} {v l s s' : Nat} (hv : v ≤ 40) (hl : l < 5) (hs' : s' ≤ 100000000) (hB : ∀ j, j < 5 * v + l → F 209 j = nI (zT3 j) ∧ F 210 j = nI (zT4 j))
    (h : ∀ G, (∀ j, j < 5 * v + (l + 1) → G 209 j = nI (zT3 j) ∧ G 210 j = nI (zT4 j)) → (∀ c, ¬ c = 209 → ¬ c = 210 → G c = F c) → zWp X (d + 2) zm275 54 [.ref 178, .int x1, .int x2, .int (nI (s + zT3 (5 * v + l))), .int (nI (min s' (zT4 (5 * v + l)))), .int (nI v), .int (nI (l + 1)), .null, .null] [] (zs G g) (zQi K)) : zWp X (d + 2) zm275 54 [.ref 178, .int x1, .int x2, .int (nI s), .int (nI s'), .int (nI v), .int (nI l), .null, .null] [] (zs F g) (zQi K) := by
  have e5 : (5 : Int32) * nI v + nI l = nI (5 * v + l) := nI_mb v 5 l
  have kk := nI_cl (k := 5 * v + l) (by omega)
  have ik := nI_in' (c := 5 * v + l) (N := 205) (by omega) (by omega)
  have t4 := zT4_le (5 * v + l) (by omega)
  have r3 := zT3_rec v (by omega) l hl
  have r4 := zT4_rec v (by omega) l hl
  -- behind the first writing
  have hin : ∀ (G : Nat → Nat → Int32), zQ2 F G (5 * v + l) → G 209 (5 * v + l) = nI (if v = 0 ∧ l = 0 then 1 else 0) → G 210 (5 * v + l) = nI (if v = 0 ∧ l = 0 then 0 else 100000000) → zWp X (d + 2) zm275 118 [.ref 178, .int x1, .int x2, .int (nI s), .int (nI s'), .int (nI v), .int (nI l), .int (nI (5 * v + l)), .int 0] [] (zs G g) (zQi K) := by
    intro G hG g1 g2
    have hfin : ∀ G, zQ2 F G (5 * v + l) → G 209 (5 * v + l) = nI (zT3 (5 * v + l)) → G 210 (5 * v + l) = nI (zT4 (5 * v + l)) → zWp X (d + 2) zm275 54 [.ref 178, .int x1, .int x2, .int (nI s + G 209 (5 * v + l)), .int (zmn (nI s') (G 210 (5 * v + l))), .int (nI v), .int (nI (l + 1)), .null, .null] [] (zs G g) (zQi K) := by
      intro G hG y1 y2
      rw [y1, y2, nI_add, zmn_nI (by omega) (by omega)]
      refine h G (fun j hj => ?_) hG.2
      by_cases ej : j = 5 * v + l
      · rw [ej]
        exact ⟨y1, y2⟩
      · rw [(hG.1 j ej).1, (hG.1 j ej).2]
        exact hB j (by omega)
    by_cases hx : l ≤ 1 ∨ v < l
    · rw [if_pos hx] at r3 r4
      refine c275_e (d := d) (o := 0) hv hl (Or.inr ⟨by omega, hx⟩) (hfin G hG ?_ ?_)
      · rw [g1, r3]
      · rw [g2, r4]
    · rw [if_neg hx] at r3 r4
      rw [if_neg (by omega)] at g1 g2
      have hr : ∀ G, zQ2 F G (5 * v + l) → ∀ o, o < 5 → G 209 (5 * (v - l) + o) = nI (zT3 (5 * (v - l) + o)) ∧ G 210 (5 * (v - l) + o) = nI (zT4 (5 * (v - l) + o)) := fun G hG o ho => by
        rw [(hG.1 (5 * (v - l) + o) (by omega)).1, (hG.1 (5 * (v - l) + o) (by omega)).2]
        exact hB _ (by omega)
      refine c275_s (d := d) (o := 0) (w := 0) (w' := 100000000) hv (by omega) hl (by omega) (by omega) (by omega) g1 g2 (hr G hG 0 (by omega)).1 (hr G hG 0 (by omega)).2 (fun G1 q1 a1 b1 => ?_)
      have q1' := zQ2_tr hG q1
      refine c275_s (d := d) (o := 1) hv (by omega) hl (by omega) (by omega) (zbs4_le (by omega)) a1 b1 (hr G1 q1' 1 (by omega)).1 (hr G1 q1' 1 (by omega)).2 (fun G2 q2 a2 b2 => ?_)
      have q2' := zQ2_tr q1' q2
      refine c275_s (d := d) (o := 2) hv (by omega) hl (by omega) (by omega) (zbs4_le (zbs4_le (by omega))) a2 b2 (hr G2 q2' 2 (by omega)).1 (hr G2 q2' 2 (by omega)).2 (fun G3 q3 a3 b3 => ?_)
      have q3' := zQ2_tr q2' q3
      refine c275_s (d := d) (o := 3) hv (by omega) hl (by omega) (by omega) (zbs4_le (zbs4_le (zbs4_le (by omega)))) a3 b3 (hr G3 q3' 3 (by omega)).1 (hr G3 q3' 3 (by omega)).2 (fun G4 q4 a4 b4 => ?_)
      have q4' := zQ2_tr q3' q4
      refine c275_s (d := d) (o := 4) hv (by omega) hl (by omega) (by omega) (zbs4_le (zbs4_le (zbs4_le (zbs4_le (by omega))))) a4 b4 (hr G4 q4' 4 (by omega)).1 (hr G4 q4' 4 (by omega)).2 (fun G5 q5 a5 b5 => ?_)
      have q5' := zQ2_tr q4' q5
      refine c275_e (d := d) (o := 5) hv hl (Or.inl rfl) (hfin G5 q5' ?_ ?_)
      · rw [a5, r3]
      · rw [b5, r4]
  have hw : ∀ (a b : Int32), a = nI (if v = 0 ∧ l = 0 then 1 else 0) → b = nI (if v = 0 ∧ l = 0 then 0 else 100000000) → zWp X (d + 2) zm275 118 [.ref 178, .int x1, .int x2, .int (nI s), .int (nI s'), .int (nI v), .int (nI l), .int (nI (5 * v + l)), .int 0] [] (zs (zuI (zuI F 209 (5 * v + l) a) 210 (5 * v + l) b) g) (zQi K) := fun a b ha hb => by
    refine hin _ ⟨fun j hj => ⟨?_, ?_⟩, fun c a b => ?_⟩ ?_ ?_
    · rw [zi_ne (by omega), zi_at, if_neg hj]
    · rw [zi_at, if_neg hj, zi_ne (by omega)]
    · rw [zi_ne b, zi_ne a]
    · rw [zi_ne (by omega), zi_at, if_pos rfl, ha]
    · rw [zi_at, if_pos rfl, hb]
  apply s275_54_178
  rw [if_neg (show ¬ (5 : Int32) ≤ nI l from nI_ge (b := 5) hl (by omega))]
  simp only [zmO.2, e5, kk, if_neg ik]
  by_cases v0 : v = 0
  · have c1 : nI v = 0 := by rw [v0]; rfl
    by_cases l0 : l = 0
    · have c2 : nI l = 0 := by rw [l0]; rfl
      rw [if_pos c1, if_pos c2, if_pos c1, if_pos c2]
      exact hw 1 0 (by rw [if_pos ⟨v0, l0⟩]; rfl) (by rw [if_pos ⟨v0, l0⟩]; rfl)
    · have c2 : ¬ nI l = 0 := nI_z (by omega) (by omega)
      rw [if_pos c1, if_neg c2, if_pos c1, if_neg c2]
      exact hw 0 _ (by rw [if_neg (fun z => l0 z.2)]; rfl) (by rw [if_neg (fun z => l0 z.2)]; rfl)
  · have c1 : ¬ nI v = 0 := nI_z (by omega) (by omega)
    rw [if_neg c1, if_neg c1]
    exact hw 0 _ (by rw [if_neg (fun z => v0 z.1)]; rfl) (by rw [if_neg (fun z => v0 z.1)]; rfl)
theorem c275 {f : Nat → Nat → Int32} {n : Nat} {x2 : Int32} {x3 x4 : Int32} (hn : n ≤ 40) (hK : ∀ F : Nat → Nat → Int32, (∀ i, ¬ i = 209 → ¬ i = 210 → F i = f i) → K (if x2 = 0 then nI (zA3 n) else if zA4 n < 100000000 then nI (zA4 n) else -1) F g) : zWp X (d + 2) zm275 38 [.ref 178, .int (nI n), .int x2, .int x3, .int x4, .int 0, .null, .null, .null] [] (zs f g) (zQi K) := by
  have hrow : ∀ (v : Nat) (F : Nat → Nat → Int32) (x3 x4 : Int32), v ≤ n → (∀ j, j < 5 * v → F 209 j = nI (zT3 j) ∧ F 210 j = nI (zT4 j)) → (∀ G : Nat → Nat → Int32, (∀ j, j < 5 * (v + 1) → G 209 j = nI (zT3 j) ∧ G 210 j = nI (zT4 j)) → (∀ c, ¬ c = 209 → ¬ c = 210 → G c = F c) → zWp X (d + 2) zm275 38 [.ref 178, .int (nI n), .int x2, .int (nI (zA3 v)), .int (nI (zA4 v)), .int (nI (v + 1)), .null, .null, .null] [] (zs G g) (zQi K)) → zWp X (d + 2) zm275 38 [.ref 178, .int (nI n), .int x2, .int x3, .int x4, .int (nI v), .null, .null, .null] [] (zs F g) (zQi K) := by
    intro v F x3 x4 hv hB h
    apply s275_38_178
    rw [if_neg (show ¬ nI n < nI v by simp only [Int32.lt_iff_toInt_lt, Int32.le_iff_toInt_le, nI_ti (show n ≤ 100000 by omega), nI_ti (show v ≤ 100000 by omega)]; omega)]
    refine c275_l (d := d) (v := v) (l := 0) (s := 0) (s' := 100000000) (by omega) (by omega) (by omega) (fun j hj => hB j (by omega)) (fun G1 a1 b1 => ?_)
    refine c275_l (d := d) (l := 1) (by omega) (by omega) (by omega) a1 (fun G2 a2 b2 => ?_)
    refine c275_l (d := d) (l := 2) (by omega) (by omega) (by omega) a2 (fun G3 a3 b3 => ?_)
    refine c275_l (d := d) (l := 3) (by omega) (by omega) (by omega) a3 (fun G4 a4 b4 => ?_)
    refine c275_l (d := d) (l := 4) (by omega) (by omega) (by omega) a4 (fun G5 a5 b5 => ?_)
    apply s275_54_178
    rw [if_pos (show (5 : Int32) ≤ nI (4 + 1) from by decide), nI_1]
    exact h G5 (fun j hj => a5 j (by omega)) (fun c p q => by rw [b5 c p q, b4 c p q, b3 c p q, b2 c p q, b1 c p q])
  have hall : ∀ m v, v + m = n → ∀ (F : Nat → Nat → Int32) (x3 x4 : Int32), (∀ j, j < 5 * v → F 209 j = nI (zT3 j) ∧ F 210 j = nI (zT4 j)) → (∀ c, ¬ c = 209 → ¬ c = 210 → F c = f c) → zWp X (d + 2) zm275 38 [.ref 178, .int (nI n), .int x2, .int x3, .int x4, .int (nI v), .null, .null, .null] [] (zs F g) (zQi K) := by
    intro m
    induction m with
    | zero =>
      intro v hv F x3 x4 hB hF
      refine hrow v F x3 x4 (by omega) hB (fun G hG hc => ?_)
      have ev : v = n := by omega
      subst ev
      have z := hK G (fun c p q => by rw [hc c p q, hF c p q])
      apply s275_38_178
      rw [if_pos (nI_lt (by omega) (by omega))]
      by_cases e : x2 = 0
      · rw [if_pos e] at z
        rw [if_pos e]
        exact z
      · rw [if_neg e] at z
        rw [if_neg e]
        by_cases e4 : zA4 v < 100000000
        · rw [if_pos e4] at z
          rw [if_pos (show nI (zA4 v) < Int32.ofNat 100000000 from nI_lt e4 (by omega))]
          exact z
        · rw [if_neg e4] at z
          rw [if_neg (show ¬ nI (zA4 v) < Int32.ofNat 100000000 from fun y => e4 (by
            have := zA4_le v (by omega)
            rw [show zA4 v = 100000000 by omega] at y
            exact absurd y (by decide)))]
          exact z
    | succ m ih =>
      intro v hv F x3 x4 hB hF
      refine hrow v F x3 x4 (by omega) hB (fun G hG hc => ?_)
      exact ih (v + 1) (by omega) G _ _ hG (fun c p q => by rw [hc c p q, hF c p q])
  exact hall n 0 (by omega) f x3 x4 (fun j hj => absurd hj (by omega)) (fun _ _ _ => rfl)
end ZBR
/-- only rows that are thought in have changed, and cell 0 of the reference -/
theorem zRel_tho {f F : Nat → Nat → Int32} {g : Nat → Nat → Int64} {r R : Nat → Nat → Int32} (h : ∀ i, ¬ (169 ≤ i ∧ i ≤ 177) → F i = f i) (hr : ∀ i, ¬ i = 178 → ¬ i = 200 → ¬ i = 202 → ¬ i = 205 → ¬ i = 207 → ¬ i = 209 → ¬ i = 210 → R i = r i) (hr8 : ∀ j, ¬ j = 0 → R 178 j = r 178 j) (hR : zRel f g r) : zRel F g R := by
  obtain ⟨⟨c1, c2, c3, c4, c5, c6, c7, c8, c9, c10, c11⟩, c12, c13, c14, c15, c16⟩ := hR
  refine ⟨⟨?_, ?_, ?_, ?_, ?_, ?_, ?_, ?_, ?_, ?_, ?_⟩, ?_, ?_, ?_, ?_, ?_⟩
  · rw [h 27 (by omega), h 28 (by omega), hr8 46 (by omega), hr 204 (by omega) (by omega) (by omega) (by omega) (by omega) (by omega) (by omega)]; exact c1
  · rw [h 25 (by omega), h 26 (by omega), hr8 44 (by omega), hr 203 (by omega) (by omega) (by omega) (by omega) (by omega) (by omega) (by omega)]; exact c2
  · rw [h 29 (by omega), h 30 (by omega), hr8 49 (by omega), hr 206 (by omega) (by omega) (by omega) (by omega) (by omega) (by omega) (by omega)]; exact c3
  · rw [h 31 (by omega), h 32 (by omega), hr8 52 (by omega), hr 208 (by omega) (by omega) (by omega) (by omega) (by omega) (by omega) (by omega)]; exact c4
  · rw [h 24 (by omega), hr 201 (by omega) (by omega) (by omega) (by omega) (by omega) (by omega) (by omega)]; exact c5
  · rw [h 13 (by omega), h 14 (by omega), h 15 (by omega), h 16 (by omega), h 17 (by omega), h 18 (by omega), hr 187 (by omega) (by omega) (by omega) (by omega) (by omega) (by omega) (by omega), hr 188 (by omega) (by omega) (by omega) (by omega) (by omega) (by omega) (by omega), hr 189 (by omega) (by omega) (by omega) (by omega) (by omega) (by omega) (by omega), hr 190 (by omega) (by omega) (by omega) (by omega) (by omega) (by omega) (by omega), hr 191 (by omega) (by omega) (by omega) (by omega) (by omega) (by omega) (by omega), hr 192 (by omega) (by omega) (by omega) (by omega) (by omega) (by omega) (by omega), hr 193 (by omega) (by omega) (by omega) (by omega) (by omega) (by omega) (by omega)]; exact c6
  · rw [h 20 (by omega), h 21 (by omega), hr8 33 (by omega), hr 195 (by omega) (by omega) (by omega) (by omega) (by omega) (by omega) (by omega)]; exact c7
  · rw [h 22 (by omega), h 23 (by omega), hr8 35 (by omega), hr8 7 (by omega), hr 196 (by omega) (by omega) (by omega) (by omega) (by omega) (by omega) (by omega)]; exact c8
  · rw [h 2 (by omega), h 3 (by omega), h 4 (by omega), h 5 (by omega), h 6 (by omega), h 7 (by omega), h 8 (by omega), h 9 (by omega), h 10 (by omega), hr8 7 (by omega), hr 179 (by omega) (by omega) (by omega) (by omega) (by omega) (by omega) (by omega), hr 183 (by omega) (by omega) (by omega) (by omega) (by omega) (by omega) (by omega)]; exact c9
  · rw [h 1 (by omega), hr8 37 (by omega), hr 197 (by omega) (by omega) (by omega) (by omega) (by omega) (by omega) (by omega)]; exact c10
  · rw [h 11 (by omega), h 12 (by omega), hr 179 (by omega) (by omega) (by omega) (by omega) (by omega) (by omega) (by omega), hr 184 (by omega) (by omega) (by omega) (by omega) (by omega) (by omega) (by omega)]; exact c11
  · rw [h 65 (by omega), h 66 (by omega), hr8 11 (by omega), hr 185 (by omega) (by omega) (by omega) (by omega) (by omega) (by omega) (by omega)]; exact c12
  · rw [h 70 (by omega), hr8 31 (by omega), hr8 32 (by omega)]; exact c13
  · exact zPas_frame (fun i _ _ => h i (by omega)) (by rw [h 11 (by omega)]) (fun i _ _ => rfl) rfl (hr 180 (by omega) (by omega) (by omega) (by omega) (by omega) (by omega) (by omega)) (hr8 3 (by omega)) (hr8 7 (by omega)) (hr 183 (by omega) (by omega) (by omega) (by omega) (by omega) (by omega) (by omega)) c14
  · exact zIma_frame (by rw [h 0 (by omega)]) (fun i _ _ => h i (by omega)) rfl (hr 211 (by omega) (by omega) (by omega) (by omega) (by omega) (by omega) (by omega)) (hr8 57 (by omega)) c15
  · rw [h 147 (by omega), h 158 (by omega), hr8 5 (by omega), hr 186 (by omega) (by omega) (by omega) (by omega) (by omega) (by omega) (by omega)]; exact c16
theorem op_bars {X : Nat × (Nat → Int32)} {d : Nat} {a w : Int32} : zOp X (d + 4) 155 275 [.int a, .int w] := by
  intro fc fr gc gr hR
  have hR0 : zRel fc gc (zuI fr 178 0 0) := zRel_scr (fun _ _ _ => rfl) rfl rfl (fun _ _ => rfl) (fun i a1 _ _ _ _ => zi_ne a1) (fun j hj => by rw [zi_at, if_neg hj]) hR
  by_cases hin : (0 : Int32).toInt ≤ a.toInt ∧ a.toInt ≤ (40 : Int32).toInt
  case neg =>
    apply e155_0
    rw [q124, if_pos (by rw [zb_0]; exact hin)]
    apply e275_178
    rw [q165, if_pos (by rw [zb_0]; exact hin)]
    exact ⟨rfl, hR0⟩
  by_cases hi2 : (0 : Int32).toInt ≤ w.toInt ∧ w.toInt ≤ (1 : Int32).toInt
  case neg =>
    apply e155_0
    rw [q124, if_neg (by rw [zb_0]; exact fun z => z hin), q124, if_pos (by rw [zb_0]; exact hi2)]
    apply e275_178
    rw [q165, if_neg (by rw [zb_0]; exact fun z => z hin), q165, if_pos (by rw [zb_0]; exact hi2)]
    exact ⟨rfl, hR0⟩
  have hin' : 0 ≤ a.toInt ∧ a.toInt ≤ 40 := hin
  obtain ⟨N, hN, eN⟩ := zixn (x := a) (n := 41) (by omega) (by omega) (by omega)
  subst eN
  have href : ∀ (F : Nat → Nat → Int32) (u : Int32), (∀ i, ¬ i = 177 → F i = fc i) → (if w = 0 then nI (zA3 N) else if zA4 N < 100000000 then nI (zA4 N) else -1) = u → zCpi X (d + 4) 275 [.ref 178, .int (nI N), .int w] (zs fr gr) (fun r' f2 _ => zAn r' u ∧ zRel F gc f2) := fun F u hF hu => by
    apply e275_178
    rw [q165, if_neg (by rw [zb_0]; exact fun z => z hin), q165, if_neg (by rw [zb_0]; exact fun z => z hi2)]
    refine c275 (d := d + 1) (by omega) (fun R h => ⟨hu, ?_⟩)
    exact zRel_tho (fun i hi => hF i (by omega)) (fun i a1 a2 a3 a4 a5 a6 a7 => h i a6 a7) (fun j hj => by rw [h 178 (by omega) (by omega)]) hR0
  apply e155_0
  rw [q124, if_neg (by rw [zb_0]; exact fun z => z hin), q124, if_neg (by rw [zb_0]; exact fun z => z hi2)]
  by_cases e : w = 0
  · rw [if_pos e]
    refine b113 (d := d) (by omega) (fun F hF => href F _ hF ?_)
    rw [if_pos e, zA13 N (by omega)]
  · rw [if_neg e]
    refine b114 (d := d) (by omega) (fun F hF => href F _ hF ?_)
    rw [if_neg e]
    rcases zA24 N (by omega) with ⟨z1, z2, z3⟩ | ⟨z1, z2⟩
    · rw [if_pos z1, if_pos z2, z3]
    · rw [if_neg z1, if_neg z2]

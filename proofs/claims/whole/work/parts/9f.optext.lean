/-! a text's call, whole -/
theorem tx_law {f F : Nat → Nat → Int32} {g : Nat → Nat → Int64} {r R : Nat → Nat → Int32} {l c : Nat} (hM : zRel f g r) (h65 : f 65 5 = 0) (h11 : r 178 11 = 0) (hs : zCs f r c) (hc : c ≤ 400) (hd : zLd f r l c)
    (hF : ∀ i, ¬ (13 ≤ i ∧ i ≤ 18) → F i = f i) (h137 : F 13 7 = f 72 7) (r14 : ∀ j, j < 400 → F 14 j = f 73 j) (r15 : ∀ q, q < 16 → F 15 q = f 74 q) (r16 : ∀ q, q < 16 → F 16 q = f 75 q) (r17 : ∀ q, q < 16 → F 17 q = f 76 q) (r18 : ∀ q, q < 16 → F 18 q = f 77 q)
    (hr : ∀ i, ¬ (187 ≤ i ∧ i ≤ 193) → R i = r i) (h187 : R 187 0 = nI l) (hrow : ∀ a, 188 ≤ a → a ≤ 191 → ∀ q, q < l → R a q = r a (32 + q)) (hcod : ∀ a, 192 ≤ a → a ≤ 193 → ∀ q, q < c → R a q = r a (800 + q)) : zRel F g R := by
  obtain ⟨⟨c1, c2, c3, c4, c5, c6, c7, c8, c9, c10, c11⟩, c12, c13, c14, c15, c16⟩ := id hM
  have e8 : R 178 = r 178 := hr 178 (by omega)
  refine zRel_tx hM (fun i _ _ _ _ y5 => hF i y5) (fun i y1 y2 => hr i (by omega)) (fun s _ => by rw [e8]) (fun _ _ _ => rfl) ⟨l, hd.2.1, by rw [h137]; exact hd.1, h187, fun q hq => ?_⟩ ?_ ?_ ?_ (by rw [hF 65 (by omega)]; exact h65) (by rw [e8]; exact h11) (by rw [hF 70 (by omega), e8]; exact c13) ?_
  · obtain ⟨w, a, b', e', y1, y2, y3, y4, y5, y6, y7, y8, y9, y10, y11, y12, y13, y14⟩ := hd.2.2 q hq
    have hl := hd.2.1
    refine ⟨w, a, b', e', y1, y2, y3, by omega, by rw [r15 q (by omega)]; exact y5, by rw [hrow 188 (by omega) (by omega) q hq]; exact y6, by rw [r16 q (by omega)]; exact y7, by rw [hrow 189 (by omega) (by omega) q hq]; exact y8, by rw [r17 q (by omega)]; exact y9, by rw [hrow 190 (by omega) (by omega) q hq]; exact y10, by rw [r18 q (by omega)]; exact y11, by rw [hrow 191 (by omega) (by omega) q hq]; exact y12, fun i i1 i2 => ?_, ?_, ?_⟩
    · rw [r14 i (by omega), hcod 192 (by omega) (by omega) i (by omega), hcod 193 (by omega) (by omega) i (by omega)]
      exact hs.2.2 i (by omega)
    · rw [zTyp_congr (c := f 73) _ _ _ (fun k hk => r14 k (by omega))]
      exact y13
    · refine y14.imp id (fun z => ?_)
      rw [zTyp_congr (c := f 73) _ _ _ (fun k hk => r14 k (by omega))]
      exact z
  · rw [hF 20 (by omega), hF 21 (by omega), e8, hr 195 (by omega)]
    exact c7
  · rw [hF 22 (by omega), hF 23 (by omega), e8, hr 196 (by omega)]
    exact c8
  · rw [hF 1 (by omega), e8, hr 197 (by omega)]
    exact c10
  · exact zPas_frame (fun i _ _ => hF i (by omega)) (by rw [hF 11 (by omega)]) (fun _ _ _ => rfl) rfl (hr 180 (by omega)) (by rw [e8]) (by rw [e8]) (hr 183 (by omega)) c14
theorem zcpN {a b : Nat → Int32} {j n : Nat} (h : j < n) : va_cpy a b 0 0 n j = a j := by
  unfold va_cpy
  rw [if_pos ⟨Nat.zero_le _, by omega⟩, Nat.sub_zero, Nat.zero_add]
section ZOZ
variable {X : Nat × (Nat → Int32)} {d : Nat}
theorem op_text0 : zOp X (d + 24) 132 173 [.int 0] := by
  intro fc fr gc gr hR
  obtain ⟨b, n, N, F, R, p1, p2, h0, -, z6, z7, z24, z25, z26⟩ := tx_pre (X := X) (d := d + 16) (e := d + 18) (gr := gr) (a := 0) (by decide) hR
  rcases lw_loop (X := X) (d := d) (e := d + 12) (g := zuL gc 70 6 0) (gr := gr) 16 (l := 0) (c := 0) rfl h0 ⟨z6, z25, fun i hi => absurd hi (Nat.not_lt_zero i)⟩ (Nat.zero_le _) ⟨z7, by omega, fun i hi => absurd hi (Nat.not_lt_zero i)⟩ z26 z24 with ⟨F', R', l, c, cl, rl, yF, yR, hs, hc, hd, h24⟩ | ⟨F', R', cl, rl, er⟩
  · have hl := hd.2.1
    have hM := tx_good (G := zuL gc 70 6 0) hR yF yR (fun i k hik => by rw [zj_a, if_neg hik])
    apply e132_0
    refine p1 _ ?_
    refine cl _ ?_
    rw [if_neg (nIm hl), if_pos rfl]
    apply e42_13_72
    rw [if_pos (by decide), if_pos (by decide), if_pos (by decide), if_pos (by decide), if_pos (by decide)]
    apply e173_178
    rw [q165, if_neg (by decide)]
    refine p2 _ ?_
    rw [if_neg (by decide), if_neg (by decide), if_neg (by decide)]
    apply e195_178
    refine rl _ ?_
    rw [if_neg (nIm hl), if_neg (nIm hl), if_pos rfl]
    apply e206_178
    refine l206a hl l 0 (by omega) (by rw [zi_at, if_neg (by omega)]; exact h24) (fun S s1 s2 => l206b hc c 0 (by omega) (by rw [s1 178 (by omega), zi_at, if_neg (by omega)]; exact h24) (by rw [s1 178 (by omega), zi_at, if_neg (by omega)]; exact hs.2.1) (fun T t1 t2 => ?_))
    refine ⟨rfl, tx_law (l := l) (c := c) hM (by rw [zi_at, if_pos rfl]) (by rw [zi_at, if_pos rfl]) ?_ hc ?_ (fun i hi => ?_) ?_ (fun j hj => ?_) (fun j hj => ?_) (fun j hj => ?_) (fun j hj => ?_) (fun j hj => ?_) (fun i hi => ?_) ?_ (fun a a1 a2 q hq => ?_) (fun a a1 a2 q hq => ?_)⟩
    · exact ⟨by rw [zi_ne (by omega)]; exact hs.1, by rw [zi_at, if_neg (by omega)]; exact hs.2.1, fun i hi => by rw [zi_ne (by omega), zi_ne (by omega), zi_ne (by omega)]; exact hs.2.2 i hi⟩
    · unfold zLd at hd ⊢
      rw [zi_ne (by omega), zi_ne (by omega), zi_ne (by omega), zi_ne (by omega), zi_ne (by omega), zi_ne (by omega), zi_ne (by omega), zi_ne (by omega), zi_ne (by omega), zi_ne (by omega)]
      exact hd
    · rw [zi_ne (by omega), zi_ne (by omega), zr_ne (by omega), zr_ne (by omega), zr_ne (by omega), zr_ne (by omega), zr_ne (by omega)]
    · rw [zi_at, if_pos rfl]
    · rw [zi_ne (by omega), zi_ne (by omega), zr_ne (by omega), zr_ne (by omega), zr_ne (by omega), zr_ne (by omega), zr_at, zcpN hj]
    · rw [zi_ne (by omega), zi_ne (by omega), zr_ne (by omega), zr_ne (by omega), zr_ne (by omega), zr_at, zcpN hj]
    · rw [zi_ne (by omega), zi_ne (by omega), zr_ne (by omega), zr_ne (by omega), zr_at, zcpN hj]
    · rw [zi_ne (by omega), zi_ne (by omega), zr_ne (by omega), zr_at, zcpN hj]
    · rw [zi_ne (by omega), zi_ne (by omega), zr_at, zcpN hj]
    · rw [zi_ne (by omega), t1 i (by omega), s1 i (by omega)]
    · rw [zi_at, if_pos rfl]
    · rw [zi_ne (by omega), t1 a (by omega), s2 a a1 a2 q, if_pos (by omega)]
    · rw [zi_ne (by omega), t2 a a1 a2 q, if_pos (by omega), s1 a (by omega)]
  · apply e132_0
    refine p1 _ ?_
    refine cl _ ?_
    rw [if_pos rfl]
    apply e173_178
    rw [q165, if_neg (by decide)]
    refine p2 _ ?_
    rw [if_neg (by decide), if_neg (by decide), if_neg (by decide)]
    apply e195_178
    refine rl _ ?_
    rw [if_pos rfl, if_pos rfl]
    exact ⟨rfl, tx_fail hR er (fun i k hik => by rw [zj_a, if_neg hik])⟩
end ZOZ
theorem op_text {X : Nat × (Nat → Int32)} {d : Nat} {a : Int32} : zOp X (d + 24) 132 173 [.int a] := by
  by_cases ha : (0 : Int32).toInt ≤ a.toInt ∧ a.toInt ≤ (3 : Int32).toInt
  · have e0 : (0 : Int32).toInt = 0 := rfl
    have e3 : (3 : Int32).toInt = 3 := rfl
    have h : a = 0 ∨ a = 1 ∨ a = 2 ∨ a = 3 := by
      rcases (show a.toInt = 0 ∨ a.toInt = 1 ∨ a.toInt = 2 ∨ a.toInt = 3 by omega) with z | z | z | z
      · exact Or.inl (Int32.toInt_inj.mp z)
      · exact Or.inr (Or.inl (Int32.toInt_inj.mp z))
      · exact Or.inr (Or.inr (Or.inl (Int32.toInt_inj.mp z)))
      · exact Or.inr (Or.inr (Or.inr (Int32.toInt_inj.mp z)))
    rcases h with rfl | rfl | rfl | rfl
    · exact op_text0
    · exact op_text1 (d := d + 13)
    · exact op_text2 (d := d + 13)
    · exact op_text3 (d := d + 13)
  · exact op_textx (d := d + 13) ha

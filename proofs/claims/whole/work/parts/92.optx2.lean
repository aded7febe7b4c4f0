/-! a text's call, but for the law -/
theorem zj_a {g : Nat → Nat → Int64} {i j k b : Nat} {x : Int64} : zuL g i k x j b = if j = i ∧ b = k then x else g j b := by
  by_cases h : j = i
  · subst h
    rw [zj_at]
    by_cases h2 : b = k
    · rw [if_pos h2, if_pos ⟨rfl, h2⟩]
    · rw [if_neg h2, if_neg (fun z => h2 z.2)]
  · rw [zj_ne h, if_neg (fun z => h z.1)]
section ZOT
variable {X : Nat × (Nat → Int32)} {d : Nat}
theorem op_textx {a : Int32} (ha : ¬ ((0 : Int32).toInt ≤ a.toInt ∧ a.toInt ≤ (3 : Int32).toInt)) : zOp X (d + 11) 132 173 [.int a] := by
  intro fc fr gc gr hR
  apply e132_0
  apply e48_70
  rw [q124, if_pos (by rw [zb_0]; exact ha), if_pos rfl]
  apply e173_178
  rw [q165, if_pos (by rw [zb_0]; exact ha)]
  exact ⟨rfl, tx_good (F := zF0 fc) (R := zR0 fr) hR ⟨fun _ _ => rfl, rfl, rfl, rfl⟩ zFb_rf (fun _ _ _ => rfl)⟩
theorem nIm {k : Nat} (h : k ≤ 16) : ¬ nI k = (-1 : Int32) := nI_nem (by omega)
theorem op_text1 : zOp X (d + 11) 132 173 [.int 1] := by
  intro fc fr gc gr hR
  obtain ⟨np, hnp, hf8, hr7, -⟩ := hR.1.2.2.2.2.2.2.2.2.1
  obtain ⟨b, n, N, F, R, p1, p2, h0, z79, -, -, -, -, -⟩ := tx_pre (X := X) (d := d + 3) (e := d + 5) (gr := gr) (a := 1) (by decide) hR
  rcases sc_loop (X := X) (d := d + 3) (e := d + 1) (g := zuL gc 70 6 0) (gr := gr) hnp (by rw [zF0_n (by omega)]; exact hf8) (by rw [zR0_f.2.2]; exact hr7) 16 (k := 0) rfl h0 ⟨z79, by omega, fun i hi => absurd hi (Nat.not_lt_zero i)⟩ with ⟨F', R', k, cl, rl, yF, yR, hs⟩ | ⟨F', R', cl, rl, er⟩
  · have hk := hs.2.1
    have hM := tx_good (G := zuL gc 70 6 0) hR yF yR (fun i k hik => by rw [zj_a, if_neg hik])
    apply e132_0
    refine p1 _ ?_
    refine cl _ ?_
    rw [if_neg (nIm hk), if_neg (show ¬ (1 : Int32) = 0 by decide), q44, if_pos rfl]
    apply e75_20_79
    rw [if_pos (by decide)]
    apply e173_178
    rw [q165, if_neg (by decide)]
    refine p2 _ ?_
    rw [if_pos rfl]
    apply e181_178
    refine rl _ ?_
    rw [if_neg (nIm hk), if_neg (nIm hk), if_neg (show ¬ (1 : Int32) = 0 by decide)]
    apply e207_178
    refine l207a hk (3 * k) 0 (by omega) (fun S s1 s2 => s207m (by decide) (s207e hk (Or.inl rfl) ?_))
    rw [if_pos rfl]
    refine ⟨rfl, tx_sco (k := k) hM (by rw [zi_at, if_pos rfl]) (by rw [zi_at, if_pos rfl]) ?_ (fun i y1 y2 y3 => ?_) ⟨?_, ?_⟩ ?_ (fun j hj => ?_) (fun i y1 y2 => ?_) (fun s y1 y2 => ?_) ?_ ?_ (fun j hj => ?_)⟩
    · obtain ⟨u1, u2, u3⟩ := hs
      refine ⟨by rw [zi_ne (by omega)]; exact u1, u2, fun i hi => ?_⟩
      rw [zi_ne (by omega), zi_ne (by omega)]
      exact u3 i hi
    · rw [zi_ne y2, zr_ne y3, zi_ne y1]
    · rw [zi_ne (by omega), zr_ne (by omega), zi_at, if_neg (by omega)]
    · rw [zi_ne (by omega), zr_ne (by omega), zi_at, if_pos rfl]
    · rw [zi_at, if_pos rfl, zi_ne (by omega)]
    · rw [zi_ne (by omega), zr_at, zcp80 hj, zi_ne (by omega)]
    · rw [zi_ne y1, zi_ne y1, s1 i y2]
    · rw [zi_at, if_neg y1, zi_at, if_neg y2, s1 178 (by omega)]
    · rw [zi_at, if_pos rfl]
    · rw [zi_at, if_neg (by omega), zi_at, if_pos rfl]
    · rw [zi_ne (by omega), zi_ne (by omega), s2, if_pos (by omega)]
  · apply e132_0
    refine p1 _ ?_
    refine cl _ ?_
    rw [if_pos rfl]
    apply e173_178
    rw [q165, if_neg (by decide)]
    refine p2 _ ?_
    rw [if_pos rfl]
    apply e181_178
    refine rl _ ?_
    rw [if_pos rfl, if_pos rfl]
    exact ⟨rfl, tx_fail hR er (fun i k hik => by rw [zj_a, if_neg hik])⟩
theorem op_text2 : zOp X (d + 11) 132 173 [.int 2] := by
  intro fc fr gc gr hR
  obtain ⟨np, hnp, hf8, hr7, -⟩ := hR.1.2.2.2.2.2.2.2.2.1
  obtain ⟨b, n, N, F, R, p1, p2, h0, z79, -, -, -, -, -⟩ := tx_pre (X := X) (d := d + 3) (e := d + 5) (gr := gr) (a := 2) (by decide) hR
  rcases st_loop (X := X) (d := d + 2) (e := d) (g := zuL gc 70 6 0) (gr := gr) hnp (by rw [zF0_n (by omega)]; exact hf8) (by rw [zR0_f.2.2]; exact hr7) 16 (k := 0) rfl h0 ⟨z79, by omega, fun i hi => absurd hi (Nat.not_lt_zero i)⟩ with ⟨F', R', k, cl, rl, yF, yR, hs⟩ | ⟨F', R', cl, rl, er⟩
  · have hk := hs.2.1
    have hM := tx_good (G := zuL gc 70 6 0) hR yF yR (fun i k hik => by rw [zj_a, if_neg hik])
    apply e132_0
    refine p1 _ ?_
    refine cl _ ?_
    rw [if_neg (nIm hk), if_neg (show ¬ (2 : Int32) = 0 by decide), q44, if_neg (show ¬ (2 : Int32) = 1 by decide), if_pos rfl]
    apply e75_22_79
    rw [if_pos (by decide)]
    apply e173_178
    rw [q165, if_neg (by decide)]
    refine p2 _ ?_
    rw [if_neg (show ¬ (2 : Int32) = 1 by decide), if_pos rfl]
    apply e189_178
    refine rl _ ?_
    rw [if_neg (nIm hk), if_neg (nIm hk), if_neg (show ¬ (2 : Int32) = 0 by decide)]
    apply e207_178
    refine s207b (by decide) (l207b hk (4 * k) 0 (by omega) (fun S s1 s2 => s207e hk (Or.inr rfl) ?_))
    rw [if_neg (show ¬ (2 : Int32) = 1 by decide)]
    refine ⟨rfl, tx_sta (k := k) (np := np) hM (by rw [zi_at, if_pos rfl]) (by rw [zi_at, if_pos rfl]) hnp ?_ ?_ (fun i y1 y2 y3 => ?_) ⟨?_, ?_⟩ ?_ (fun j hj => ?_) (fun i y1 y2 => ?_) (fun s y1 y2 => ?_) ?_ ?_ (fun j hj => ?_)⟩
    · rw [zi_at, if_neg (by omega), yR.2.1 7 (by omega), zR0_f.2.2]
      exact hr7
    · obtain ⟨u1, u2, u3⟩ := hs
      refine ⟨by rw [zi_ne (by omega)]; exact u1, u2, fun i hi => ?_⟩
      unfold zSgl
      rw [zi_ne (by omega), zi_ne (by omega)]
      exact u3 i hi
    · rw [zi_ne y2, zr_ne y3, zi_ne y1]
    · rw [zi_ne (by omega), zr_ne (by omega), zi_at, if_neg (by omega)]
    · rw [zi_ne (by omega), zr_ne (by omega), zi_at, if_pos rfl]
    · rw [zi_at, if_pos rfl, zi_ne (by omega)]
    · rw [zi_ne (by omega), zr_at, zcp80 hj, zi_ne (by omega)]
    · rw [zi_ne y1, zi_ne y1, s1 i y2]
    · rw [zi_at, if_neg y1, zi_at, if_neg y2, s1 178 (by omega)]
    · rw [zi_at, if_pos rfl]
    · rw [zi_at, if_neg (by omega), zi_at, if_pos rfl]
    · rw [zi_ne (by omega), zi_ne (by omega), s2, if_pos (by omega)]
  · apply e132_0
    refine p1 _ ?_
    refine cl _ ?_
    rw [if_pos rfl]
    apply e173_178
    rw [q165, if_neg (by decide)]
    refine p2 _ ?_
    rw [if_neg (show ¬ (2 : Int32) = 1 by decide), if_pos rfl]
    apply e189_178
    refine rl _ ?_
    rw [if_pos rfl, if_pos rfl]
    exact ⟨rfl, tx_fail hR er (fun i k hik => by rw [zj_a, if_neg hik])⟩
theorem op_text3 : zOp X (d + 11) 132 173 [.int 3] := by
  intro fc fr gc gr hR
  obtain ⟨np, hnp, hf8, hr7, -⟩ := id hR.1.2.2.2.2.2.2.2.2.1
  have hHal := hR.1.2.2.2.2.2.2.2.2.1
  obtain ⟨b, n, N, F, R, p1, p2, h0, z79, -, -, -, -, -⟩ := tx_pre (X := X) (d := d + 3) (e := d + 5) (gr := gr) (a := 3) (by decide) hR
  have hh : zHx (zF0 fc) (zR0 fr) np := by
    refine ⟨hnp, by rw [zF0_n (by omega)]; exact hf8, by rw [zR0_f.2.2]; exact hr7, ?_⟩
    rw [zF0_n (by omega), zF0_n (by omega), zF0_n (by omega), zF0_n (by omega), zF0_n (by omega), zF0_n (by omega), zF0_n (by omega), zF0_n (by omega), zF0_n (by omega), zR0_f.2.2, zR0_n (by omega), zR0_n (by omega)]
    exact hHal
  obtain ⟨S, eS⟩ : ∃ S : Nat → Nat → Int32, S = fun a k => if a = 197 ∧ 48 ≤ k ∧ k < 96 then 0 else R a k := ⟨_, rfl⟩
  have hSa : ∀ a, ¬ a = 197 → S a = R a := fun a ha => by
    rw [eS]
    exact funext (fun k => if_neg (fun z => ha z.1))
  have hS7 : ∀ k, S 197 k = if 48 ≤ k ∧ k < 96 then 0 else R 197 k := fun k => by
    rw [eS]
    show (if 197 = 197 ∧ 48 ≤ k ∧ k < 96 then (0 : Int32) else R 197 k) = _
    by_cases e : 48 ≤ k ∧ k < 96
    · rw [if_pos ⟨rfl, e⟩, if_pos e]
    · rw [if_neg (fun z => e z.2), if_neg e]
  have hJS : zJ (zF0 fc) (zR0 fr) b n N F S 0 := by
    refine zJ_R h0 (hSa 178 (by omega)) (hSa 185 (by omega)) (hSa 186 (by omega)) ?_
    obtain ⟨a1, a2, a3, a4, a5, a6, a7⟩ := h0.2.2.2.2.2.2.2.2
    exact ⟨fun i y1 y2 => by rw [hSa i (by omega), a1 i y1 y2], fun s hs => by rw [hSa 178 (by omega), a2 s hs], fun i y1 y2 j hj => by rw [hSa i (by omega), a3 i y1 y2 j hj], fun i y1 y2 j hj => by rw [hSa i (by omega), a4 i y1 y2 j hj], fun j hj => by rw [hSa 195 (by omega), a5 j hj], fun j hj => by rw [hSa 196 (by omega), a6 j hj], fun j hj => by rw [hS7, if_neg (by omega), a7 j hj]⟩
  have hcl : ∀ K : Int32 → (Nat → Nat → Int32) → (Nat → Nat → Int64) → Prop, zWp X (d + 8) zm193 26 [.ref 178, .int 0] [] (zs S gr) (zQi K) → zCpi X (d + 9) 193 [.ref 178] (zs R gr) K := fun K hK => by
    apply e193_178
    refine l193 (e := d + 1) 48 0 rfl (fun S' s1 s2 => ?_)
    have : S' = S := by
      funext a k
      by_cases ha : a = 197
      · subst ha
        rw [s2, hS7]
      · rw [s1 a ha, hSa a ha]
    rw [this]
    exact hK
  rcases pl_loop (X := X) (d := d + 4) (e := d + 1) (gr := gr) hh 16 (k := 0) (g := zuL gc 70 6 0) rfl hJS ⟨0, by decide, by rw [zj_at, if_pos rfl]; rfl, fun k hk => by rw [hS7, if_pos (by omega), if_neg (by rw [Nat.zero_testBit]; decide)]⟩ with ⟨F', G, R', k, hk, cl, rl, yF, yR, hs, hG⟩ | ⟨F', G, R', cl, rl, er, hG⟩
  · have hM := tx_good (G := G) hR yF yR (fun i k hik => by rw [hG i k hik, zj_a, if_neg hik])
    apply e132_0
    refine p1 _ ?_
    refine cl _ ?_
    rw [if_neg (nIm hk), if_neg (show ¬ (3 : Int32) = 0 by decide), q44, if_neg (show ¬ (3 : Int32) = 1 by decide), if_neg (show ¬ (3 : Int32) = 2 by decide)]
    apply e173_178
    rw [q165, if_neg (by decide)]
    refine p2 _ ?_
    rw [if_neg (show ¬ (3 : Int32) = 1 by decide), if_neg (show ¬ (3 : Int32) = 2 by decide), if_pos rfl]
    refine hcl _ ?_
    refine rl _ ?_
    rw [if_neg (nIm hk), if_neg (nIm hk), if_neg (show ¬ (3 : Int32) = 0 by decide)]
    apply e207_178
    refine s207b (by decide) (s207m (by decide) (l207c hk 48 0 rfl (fun S' s1 s2 => ?_)))
    refine ⟨rfl, tx_pil (k := k) hM (by rw [zi_at, if_pos rfl]) (by rw [zi_at, if_pos rfl]) ?_ (fun i y1 y2 => ?_) ⟨?_, ?_⟩ ?_ (fun i hi => by rw [zj_ne hi]) (by rw [zj_at, if_pos rfl]) (fun i y1 y2 => ?_) (fun s y1 y2 => ?_) ?_ ?_ (fun j hj => ?_)⟩
    · obtain ⟨P, u1, u2, u3⟩ := hs
      refine ⟨P, u1, u2, fun k hk => ?_⟩
      rw [zi_ne (by omega)]
      exact u3 k hk
    · rw [zi_ne y2, zi_ne y1]
    · rw [zi_ne (by omega), zi_at, if_neg (by omega)]
    · rw [zi_ne (by omega), zi_at, if_pos rfl]
    · rw [zi_at, if_pos rfl]
    · rw [zi_ne y1, zi_ne y1, s1 i y2]
    · rw [zi_at, if_neg y1, zi_at, if_neg y2, s1 178 (by omega)]
    · rw [zi_at, if_pos rfl]
    · rw [zi_at, if_neg (by omega), zi_at, if_pos rfl]
    · rw [zi_ne (by omega), zi_ne (by omega), s2, if_pos (by omega)]
  · apply e132_0
    refine p1 _ ?_
    refine cl _ ?_
    rw [if_pos rfl]
    apply e173_178
    rw [q165, if_neg (by decide)]
    refine p2 _ ?_
    rw [if_neg (show ¬ (3 : Int32) = 1 by decide), if_neg (show ¬ (3 : Int32) = 2 by decide), if_pos rfl]
    refine hcl _ ?_
    refine rl _ ?_
    rw [if_pos rfl, if_pos rfl]
    exact ⟨rfl, tx_fail hR er (fun i k hik => by rw [hG i k hik, zj_a, if_neg hik])⟩
end ZOT

/-! of: both sides -/
theorem zhal_t {f F : Nat → Nat → Int32} {h b : Nat} {w w2 er : Nat → Int32} {pl : Int32} {B : Int} (hr : ∀ j, 0 < j → j ≤ 8 → ∀ k, k < 12 → F (b + j) k = f (h + j) k) (ho : ∀ k, 8 ≤ k ∧ k < 12 → F b k = f h k) (hw : ∀ j, j < 76 → w2 j = w j) (hH : zHal (f h 8) (f h 9) (f h 10) (f h 11) (f (h + 1)) (f (h + 2)) (f (h + 3)) (f (h + 4)) (f (h + 5)) (f (h + 6)) (f (h + 7)) (f (h + 8)) w pl er B) : zHal (F b 8) (F b 9) (F b 10) (F b 11) (F (b + 1)) (F (b + 2)) (F (b + 3)) (F (b + 4)) (F (b + 5)) (F (b + 6)) (F (b + 7)) (F (b + 8)) w2 pl er B := by
  rw [ho 8 (by omega), ho 9 (by omega), ho 10 (by omega), ho 11 (by omega)]
  exact zHal_rows (hr 1 (by omega) (by omega)) (hr 2 (by omega) (by omega)) (hr 3 (by omega) (by omega)) (hr 4 (by omega) (by omega)) (hr 5 (by omega) (by omega)) (hr 6 (by omega) (by omega)) (hr 7 (by omega) (by omega)) (hr 8 (by omega) (by omega)) hw hH
theorem nI_128 {q : Nat} : (128 : Int32) + nI q = nI (128 + q) := nI_add 128 q
theorem zq_20z : ((20 : Int32) = 0) = False := by decide
theorem zsub50 {w : Int32} (h : 70 ≤ w.toInt) : (w - 50).toInt = w.toInt - 50 := by
  have h2 : w.toInt < 2 ^ 31 := Int32.toInt_lt w
  rw [Int32.toInt_sub]
  show (w.toInt - 50).bmod (2 ^ 32) = w.toInt - 50
  rw [Int.bmod_eq_of_le] <;> omega
set_option maxHeartbeats 4000000 in
theorem op_of {X : Nat × (Nat → Int32)} {d : Nat} {a w : Int32} : zOp X (d + 10) 134 241 [.int a, .int w] := by
  intro fc fr gc gr hR
  obtain ⟨⟨c1, c2, c3, c4, c5, c6, c7, c8, c9, c10, c11⟩, c12, c13, c14, c15, c16⟩ := hR
  have hR : zRel fc gc fr := ⟨⟨c1, c2, c3, c4, c5, c6, c7, c8, c9, c10, c11⟩, c12, c13, c14, c15, c16⟩
  obtain ⟨n, hn, h1, h2, h3, h4, h5, h6, h7, h8⟩ := id c9
  obtain ⟨⟨P, hP, p1, p2⟩, p3⟩ := id c10
  obtain ⟨lk, wl, al, bl, cl, hLk, hLj⟩ := zLaw_k c6
  have ht := nI_ti (k := n) (by omega)
  have e7 : zuI fr 178 0 0 178 7 = nI n := by simp only [zi_ne, zi_at, zr_ne, zr_at, zj_ne, zj_at, ↓reduceIte, Nat.reduceEqDiff, not_false_eq_true, eq_self, nI_1]; exact h2
  by_cases hb : 0 ≤ a.toInt ∧ a.toInt < n
  case neg =>
    apply e134_0
    rw [q20_2, if_pos (by rw [h1, ht, zb_0]; exact hb), zl_10000]
    apply e241_178
    rw [q169, if_pos (by rw [e7, ht, zb_0]; exact hb), zl_10000]
    refine ⟨rfl, ?_⟩
    exact zRel_scr (fun _ _ _ => rfl) rfl rfl (fun _ _ => rfl) (fun i a1 _ _ _ _ => zi_ne a1) (fun j hj => by rw [zi_at, if_neg hj]) hR
  obtain ⟨p, hp, ep⟩ := zixn (x := a) (n := n) hb.1 hb.2 (by omega)
  subst ep
  obtain ⟨v1, v2, ⟨x, y, hx, hy, ex, ey, es⟩, ⟨kn, hkn, en1, en2⟩, v5, v6, v7, ⟨ka, hka, ea1, ea2⟩, v9, v10, v11⟩ := h8 p hp
  obtain ⟨R, hRe⟩ : ∃ R, R = zCz (zuI fr 178 0 0) 182 0 179 0 76 := ⟨_, rfl⟩
  have R179 : R 179 = fr 179 := by rw [hRe, zCz_ne (by omega), zi_ne (by omega)]
  have R183 : R 183 = fr 183 := by rw [hRe, zCz_ne (by omega), zi_ne (by omega)]
  have R197 : R 197 = fr 197 := by rw [hRe, zCz_ne (by omega), zi_ne (by omega)]
  have R7 : R 178 7 = nI n := by rw [hRe, zCz_ne (by omega)]; exact e7
  have R182 : ∀ j, j < 76 → R 182 j = fr 179 j := fun j hj => by
    rw [hRe, zCz_at, if_pos (by omega), zi_ne (by omega)]
    exact congrArg (fr 179) (by omega)
  have hRi : ∀ i, ¬ i = 178 → ¬ i = 181 → ¬ i = 182 → ¬ i = 198 → ¬ i = 199 → R i = fr i := fun i a1 _ a3 _ _ => by
    rw [hRe, zCz_ne a3, zi_ne a1]
  have hR8 : ∀ j, ¬ j = 0 → R 178 j = fr 178 j := fun j hj => by
    rw [hRe, zCz_ne (by omega), zi_at, if_neg hj]
  have hRR : zRel fc gc R := zRel_scr (fun _ _ _ => rfl) rfl rfl (fun _ _ => rfl) hRi hR8 hR
  have hLR : zLj R (fc 14) lk wl al bl cl := by
    obtain ⟨l1, l2, l3⟩ := hLj
    unfold zLj
    rw [hRi 187 (by omega) (by omega) (by omega) (by omega) (by omega), hRi 188 (by omega) (by omega) (by omega) (by omega) (by omega), hRi 189 (by omega) (by omega) (by omega) (by omega) (by omega), hRi 190 (by omega) (by omega) (by omega) (by omega) (by omega), hRi 191 (by omega) (by omega) (by omega) (by omega) (by omega), hRi 192 (by omega) (by omega) (by omega) (by omega) (by omega), hRi 193 (by omega) (by omega) (by omega) (by omega) (by omega)]
    exact ⟨l1, l2, l3⟩
  have hC : ∀ K : Int32 → (Nat → Nat → Int32) → (Nat → Nat → Int64) → Prop, zCpi X (d + 9) 20 [.ref 2, .int (nI p)] (zs fc gc) K = K 1 fc gc := fun K => by
    rw [q20_2, h1, ht]
    congr 1
    unfold zb
    rw [if_pos hb]
  have hD : ∀ (K : Int32 → (Nat → Nat → Int32) → (Nat → Nat → Int64) → Prop), zCpi X (d + 9) 169 [.ref 178, .int (nI p)] (zs (zuI fr 178 0 0) gr) K = K 1 (zuI fr 178 0 0) gr := fun K => by
    rw [q169, e7, ht]
    congr 1
    unfold zb
    rw [if_pos hb]
  have i1 := nI_in (c := p) (N := 12) (by omega) (by omega)
  have k1 := nI_cl (k := p) (by omega)
  by_cases n0 : w = 0
  · subst n0
    apply e134_0
    rw [hC, if_neg (by decide), if_pos rfl, if_neg i1, k1]
    apply e241_178
    rw [hD, if_neg (by decide), q213, ← hRe, if_pos rfl]
    rw [nI_l4, if_neg (nI_in (by omega) (by omega)), nI_cl (by omega), R179]
    exact ⟨v1, hRR⟩
  by_cases n1 : w = 1
  · subst n1
    apply e134_0
    rw [hC, if_neg (by decide), if_neg (show ¬ (1 : Int32) = 0 from by decide), if_pos rfl, if_neg i1, k1]
    apply e241_178
    rw [hD, if_neg (by decide), q213, ← hRe, if_neg (show ¬ (1 : Int32) = 0 from by decide), if_pos rfl]
    rw [if_neg i1, k1, R183]
    exact ⟨v2, hRR⟩
  by_cases n2 : w = 2
  · subst n2
    apply e134_0
    rw [hC, if_neg (by decide), if_neg (show ¬ (2 : Int32) = 0 from by decide), if_neg (show ¬ (2 : Int32) = 1 from by decide), if_pos rfl, if_neg i1, k1]
    apply e241_178
    rw [hD, if_neg (by decide), q213, ← hRe, if_neg (show ¬ (2 : Int32) = 0 from by decide), if_neg (show ¬ (2 : Int32) = 1 from by decide), if_pos rfl]
    rw [nI_l16, if_neg (nI_in (by omega) (by omega)), nI_cl (by omega), R179]
    rw [if_neg (by decide), zrO.2, es, nI_r8 (by omega), show (8 * y + x) % 8 = x by omega]
    exact ⟨ex.symm, hRR⟩
  by_cases n3 : w = 3
  · subst n3
    apply e134_0
    rw [hC, if_neg (by decide), if_neg (show ¬ (3 : Int32) = 0 from by decide), if_neg (show ¬ (3 : Int32) = 1 from by decide), if_neg (show ¬ (3 : Int32) = 2 from by decide), if_pos rfl, if_neg i1, k1]
    apply e241_178
    rw [hD, if_neg (by decide), q213, ← hRe, if_neg (show ¬ (3 : Int32) = 0 from by decide), if_neg (show ¬ (3 : Int32) = 1 from by decide), if_neg (show ¬ (3 : Int32) = 2 from by decide), if_pos rfl]
    rw [nI_l16, if_neg (nI_in (by omega) (by omega)), nI_cl (by omega), R179]
    rw [if_neg (by decide), zdO.2, es, nI_d8 (by omega), show (8 * y + x) / 8 = y by omega]
    exact ⟨ey.symm, hRR⟩
  by_cases n4 : w = 4
  · subst n4
    apply e134_0
    rw [hC, if_neg (by decide), if_neg (show ¬ (4 : Int32) = 0 from by decide), if_neg (show ¬ (4 : Int32) = 1 from by decide), if_neg (show ¬ (4 : Int32) = 2 from by decide), if_neg (show ¬ (4 : Int32) = 3 from by decide), if_pos rfl, if_neg i1, k1]
    apply e241_178
    rw [hD, if_neg (by decide), q213, ← hRe, if_neg (show ¬ (4 : Int32) = 0 from by decide), if_neg (show ¬ (4 : Int32) = 1 from by decide), if_neg (show ¬ (4 : Int32) = 2 from by decide), if_neg (show ¬ (4 : Int32) = 3 from by decide), if_pos rfl]
    rw [q234 (by omega), R179, en2]
    exact ⟨en1.symm, hRR⟩
  by_cases n5 : w = 5
  · subst n5
    apply e134_0
    rw [hC, if_neg (by decide), if_neg (show ¬ (5 : Int32) = 0 from by decide), if_neg (show ¬ (5 : Int32) = 1 from by decide), if_neg (show ¬ (5 : Int32) = 2 from by decide), if_neg (show ¬ (5 : Int32) = 3 from by decide), if_neg (show ¬ (5 : Int32) = 4 from by decide), if_pos rfl, if_neg i1, k1]
    apply e241_178
    rw [hD, if_neg (by decide), q213, ← hRe, if_neg (show ¬ (5 : Int32) = 0 from by decide), if_neg (show ¬ (5 : Int32) = 1 from by decide), if_neg (show ¬ (5 : Int32) = 2 from by decide), if_neg (show ¬ (5 : Int32) = 3 from by decide), if_neg (show ¬ (5 : Int32) = 4 from by decide), if_pos rfl]
    rw [nI_l40, if_neg (nI_in (by omega) (by omega)), nI_cl (by omega), R179]
    exact ⟨v5, hRR⟩
  by_cases n6 : w = 6
  · subst n6
    apply e134_0
    rw [hC, if_neg (by decide), if_neg (show ¬ (6 : Int32) = 0 from by decide), if_neg (show ¬ (6 : Int32) = 1 from by decide), if_neg (show ¬ (6 : Int32) = 2 from by decide), if_neg (show ¬ (6 : Int32) = 3 from by decide), if_neg (show ¬ (6 : Int32) = 4 from by decide), if_neg (show ¬ (6 : Int32) = 5 from by decide), if_pos rfl, if_neg i1, k1]
    apply e241_178
    rw [hD, if_neg (by decide), q213, ← hRe, if_neg (show ¬ (6 : Int32) = 0 from by decide), if_neg (show ¬ (6 : Int32) = 1 from by decide), if_neg (show ¬ (6 : Int32) = 2 from by decide), if_neg (show ¬ (6 : Int32) = 3 from by decide), if_neg (show ¬ (6 : Int32) = 4 from by decide), if_neg (show ¬ (6 : Int32) = 5 from by decide), if_pos rfl]
    rw [nI_l52, if_neg (nI_in (by omega) (by omega)), nI_cl (by omega), R179]
    rw [zsO.2, ea2]
    exact ⟨ea1.symm, hRR⟩
  by_cases n7 : w = 7
  · subst n7
    apply e134_0
    rw [hC, if_neg (by decide), if_neg (show ¬ (7 : Int32) = 0 from by decide), if_neg (show ¬ (7 : Int32) = 1 from by decide), if_neg (show ¬ (7 : Int32) = 2 from by decide), if_neg (show ¬ (7 : Int32) = 3 from by decide), if_neg (show ¬ (7 : Int32) = 4 from by decide), if_neg (show ¬ (7 : Int32) = 5 from by decide), if_neg (show ¬ (7 : Int32) = 6 from by decide), if_pos rfl, if_neg i1, k1]
    apply e241_178
    rw [hD, if_neg (by decide), q213, ← hRe, if_neg (show ¬ (7 : Int32) = 0 from by decide), if_neg (show ¬ (7 : Int32) = 1 from by decide), if_neg (show ¬ (7 : Int32) = 2 from by decide), if_neg (show ¬ (7 : Int32) = 3 from by decide), if_neg (show ¬ (7 : Int32) = 4 from by decide), if_neg (show ¬ (7 : Int32) = 5 from by decide), if_neg (show ¬ (7 : Int32) = 6 from by decide), if_pos rfl]
    rw [nI_l64, if_neg (nI_in (by omega) (by omega)), nI_cl (by omega), R179]
    exact ⟨v9, hRR⟩
  obtain ⟨F, hF⟩ : ∃ F, F = zuI (zuI (zHc fc 148 2) 157 7 (nI (zpc 12 (zfold (zso (fc 7)) n 0 0)))) 157 8 (fc 2 11) := ⟨_, rfl⟩
  have F14 : F 14 = fc 14 := by rw [hF, zi_ne (by omega), zi_ne (by omega), zHc_ne (by omega)]
  have hA : zAc_147 F (zuL gc 148 12 (gc 2 12)) n P lk wl al bl cl := by
    rw [hF]
    exact zAc_147_at hn hP h1 p1 hLk (fun q hq => by
      obtain ⟨-, -, ⟨x, y, hx, hy, ex, ey, es⟩, -⟩ := h8 q hq
      exact ⟨x, y, hx, hy, ex, ey⟩)
  have hH : zHal (F 148 8) (F 148 9) (F 148 10) (F 148 11) (F 149) (F 150) (F 151) (F 152) (F 153) (F 154) (F 155) (F 156) (R 182) (R 178 7) (R 183) 9999 := by
    rw [R7, R183, ← h2]
    exact zhal_t (f := fc) (F := F) (h := 2) (b := 148) (fun j j0 j8 k hk => by rw [hF, zi_ne (by omega), zi_ne (by omega), zHc_r j0 j8 hk]) (fun k hk => by rw [hF, zi_ne (by omega), zi_ne (by omega), zHc_o hk]) R182 c9
  have hc : F 148 8 = nI n := by rw [hF, zi_ne (by omega), zi_ne (by omega), zHc_o (by omega)]; exact h1
  have hpl : ∀ k, k < 48 → R 197 k = if P.testBit k = true then 1 else 0 := fun k hk => by rw [R197]; exact p2 k hk
  have hrel : ∀ G, zSc 157 F G → ∀ S, zSr R S → zRel G (zuL gc 148 12 (gc 2 12)) S := fun G hG S hS => by
    have g1 : ∀ i, ¬ i = 157 → ¬ i = 19 → ¬ (148 ≤ i ∧ i ≤ 156) → G i = fc i := fun i a1 a2 a3 => by
      rw [hG.1 i a1 a2, hF, zi_ne (by omega), zi_ne (by omega), zHc_ne (by omega)]
    exact zRel_scr (fun i a1 a2 => g1 i (by omega) a2 (by omega)) (by rw [g1 147 (by omega) (by omega) (by omega)]) (by rw [g1 158 (by omega) (by omega) (by omega)]) (fun i hi => zj_ne (by omega)) (fun i a1 a2 a3 a4 a5 => by rw [hS i a4 a5]; exact hRi i a1 a2 a3 a4 a5) (fun j hj => by rw [hS 178 (by omega) (by omega)]; exact hR8 j hj) hR
  by_cases n8 : w = 8
  · subst n8
    apply e134_0
    rw [hC, if_neg (by decide), if_neg (by decide), if_neg (by decide), if_neg (by decide), if_neg (by decide), if_neg (by decide), if_neg (by decide), if_neg (by decide), if_neg (by decide)]
    apply e135_0
    rw [if_pos rfl, q8_147 hn h1, ← hF]
    refine l10_147 (d := d) hA hp (fun G hG => ?_)
    apply e241_178
    rw [hD, if_neg (by decide), q213, ← hRe, if_neg (by decide), if_neg (by decide), if_neg (by decide), if_neg (by decide), if_neg (by decide), if_neg (by decide), if_neg (by decide), if_neg (by decide), if_pos rfl]
    refine l216 (d := d + 2) hH hc hn hpl (by rw [F14]; exact hLR) hp (fun S hS => ⟨rfl, hrel G hG S hS⟩)
  by_cases hw : 10 ≤ w.toInt ∧ w.toInt ≤ 69
  case neg =>
    apply e134_0
    rw [hC, if_neg (by decide), if_neg n0, if_neg n1, if_neg n2, if_neg n3, if_neg n4, if_neg n5, if_neg n6, if_neg n7]
    apply e135_0
    rw [if_neg n8, q124, if_pos (by rw [zb_0]; exact hw), zl_10000]
    apply e241_178
    rw [hD, if_neg (by decide), q213, ← hRe, if_neg n0, if_neg n1, if_neg n2, if_neg n3, if_neg n4, if_neg n5, if_neg n6, if_neg n7, if_neg n8]
    by_cases h30 : 30 ≤ w.toInt
    · have h70 : 70 ≤ w.toInt := by omega
      rw [if_pos (show (30 : Int32) ≤ w by simp only [Int32.lt_iff_toInt_lt, Int32.le_iff_toInt_le, Int32.reduceToInt]; omega), if_pos (show (50 : Int32) ≤ w by simp only [Int32.lt_iff_toInt_lt, Int32.le_iff_toInt_le, Int32.reduceToInt]; omega), if_neg (show ¬ w < (10 : Int32) by simp only [Int32.lt_iff_toInt_lt, Int32.le_iff_toInt_le, Int32.reduceToInt]; omega), q169, if_pos (by rw [zb_0, R7, ht, zsO.2, zsub50 h70]; omega), zl_10000]
      exact ⟨rfl, hRR⟩
    · rw [if_neg (show ¬ (30 : Int32) ≤ w by simp only [Int32.lt_iff_toInt_lt, Int32.le_iff_toInt_le, Int32.reduceToInt]; omega), if_pos (show w < (10 : Int32) by simp only [Int32.lt_iff_toInt_lt, Int32.le_iff_toInt_le, Int32.reduceToInt]; omega), zl_10000]
      exact ⟨rfl, hRR⟩
  obtain ⟨W, hW, eW⟩ := zixn (x := w) (n := 70) (by omega) (by omega) (by omega)
  subst eW
  have tW := nI_ti (k := W) (by omega)
  rw [tW] at hw
  obtain ⟨q, o, hq, ho, eqo⟩ : ∃ q o : Nat, q < 3 ∧ o < 20 ∧ W = 10 + 20 * q + o := ⟨(W - 10) / 20, (W - 10) % 20, by omega, by omega, by omega⟩
  have s10 : nI W - (10 : Int32) = nI (20 * q + o) := by
    rw [show nI W - (10 : Int32) = nI (W - 10) from pk_sub (b := 10) (by omega)]
    congr 1
    omega
  have sdv : nI (20 * q + o) / (20 : Int32) = nI q := by
    rw [show nI (20 * q + o) / (20 : Int32) = nI ((20 * q + o) / 20) from nI_dv (b := 20) (by omega) (by omega) (by omega)]
    congr 1
    omega
  have srm : nI (20 * q + o) - nI (20 * q + o) / (20 : Int32) * 20 = nI o := by
    rw [show nI (20 * q + o) - nI (20 * q + o) / (20 : Int32) * 20 = nI ((20 * q + o) % 20) from nI_rm (b := 20) (by omega) (by omega) (by omega)]
    congr 1
    omega
  have to := nI_ti (k := o) (by omega)
  have srm' : nI (20 * q + o) - nI q * 20 = nI o := by
    have z := srm
    rw [sdv] at z
    exact z
  apply e134_0
  rw [hC, if_neg (by decide), if_neg n0, if_neg n1, if_neg n2, if_neg n3, if_neg n4, if_neg n5, if_neg n6, if_neg n7]
  apply e135_0
  rw [if_neg n8, q124, if_neg (by rw [zb_0, tW]; exact fun z => z hw)]
  simp only [zq_20z, if_false, zsO.2, zrO.2, zdO.2, s10, sdv, srm']
  have href : ∀ (G : Nat → Nat → Int32) (Q : Int32), (if o = p ∨ ¬ o < n then (Q = -10000 ∧ zRel fc gc R → zCpi X (d + 10) 241 [.ref 178, .int (nI p), .int (nI W)] (zs fr gr) (fun r' f2 _ => zAn r' Q ∧ zRel fc gc f2)) else (zSc 157 F G → Q = zLa (F 14) wl al bl cl lk q (zVv (F 149) (F 150) (F 151) (F 152) (F 153) (F 154) (F 156) (F 148 11) n P p o) → zCpi X (d + 10) 241 [.ref 178, .int (nI p), .int (nI W)] (zs fr gr) (fun r' f2 _ => zAn r' Q ∧ zRel G (zuL gc 148 12 (gc 2 12)) f2))) := by
    intro G Q
    have hsub : ∀ c : Nat, c = 10 + 20 * q → nI W - nI c = nI o := fun c ec => by
      rw [pk_sub (by omega)]
      congr 1
      omega
    have hchain : ∀ (K : Int32 → (Nat → Nat → Int32) → (Nat → Nat → Int64) → Prop), (zCpi X (d + 9) 169 [.ref 178, .int (nI o)] (zs R gr) (fun v f1 g1 => if v = 0 then K (zlit (-10000)) f1 g1 else if nI o = nI p then K (zlit (-10000)) f1 g1 else zCpi X (d + 9) (if q = 0 then 218 else if q = 1 then 231 else 230) [.ref 178, .int (nI p), .int (nI o)] (zs f1 g1) (fun v f g => K v f g))) → zCpi X (d + 10) 241 [.ref 178, .int (nI p), .int (nI W)] (zs fr gr) K := by
      intro K hK
      apply e241_178
      rw [hD, if_neg (by decide), q213, ← hRe, if_neg n0, if_neg n1, if_neg n2, if_neg n3, if_neg n4, if_neg n5, if_neg n6, if_neg n7, if_neg n8]
      have g10 : ¬ nI W < (10 : Int32) := by simp only [Int32.lt_iff_toInt_lt, Int32.le_iff_toInt_le, Int32.reduceToInt, tW]; omega
      have hq3 : q = 0 ∨ q = 1 ∨ q = 2 := by omega
      rcases hq3 with rfl | rfl | rfl
      · have g30 : ¬ (30 : Int32) ≤ nI W := by simp only [Int32.lt_iff_toInt_lt, Int32.le_iff_toInt_le, Int32.reduceToInt, tW]; omega
        have e10 : nI W - (10 : Int32) = nI o := hsub 10 (by omega)
        simp only [zsO.2, e10, if_neg g30, if_neg g10]
        exact hK
      · have g30 : (30 : Int32) ≤ nI W := by simp only [Int32.lt_iff_toInt_lt, Int32.le_iff_toInt_le, Int32.reduceToInt, tW]; omega
        have g50 : ¬ (50 : Int32) ≤ nI W := by simp only [Int32.lt_iff_toInt_lt, Int32.le_iff_toInt_le, Int32.reduceToInt, tW]; omega
        have e30 : nI W - (30 : Int32) = nI o := hsub 30 (by omega)
        simp only [zsO.2, e30, if_pos g30, if_neg g50, if_neg g10]
        exact hK
      · have g30 : (30 : Int32) ≤ nI W := by simp only [Int32.lt_iff_toInt_lt, Int32.le_iff_toInt_le, Int32.reduceToInt, tW]; omega
        have g50 : (50 : Int32) ≤ nI W := by simp only [Int32.lt_iff_toInt_lt, Int32.le_iff_toInt_le, Int32.reduceToInt, tW]; omega
        have e50 : nI W - (50 : Int32) = nI o := hsub 50 (by omega)
        simp only [zsO.2, e50, if_pos g30, if_pos g50, if_neg g10]
        exact hK
    by_cases hop : o = p ∨ ¬ o < n
    · rw [if_pos hop]
      rintro ⟨eQ, hz⟩
      subst eQ
      apply hchain
      rw [q169, zl_10000]
      split
      · exact ⟨rfl, hz⟩
      · next hv =>
        rw [zb_0, R7, ht, to] at hv
        rw [if_pos (by congr 1; omega)]
        exact ⟨rfl, hz⟩
    · rw [if_neg hop]
      intro hG eQ
      subst eQ
      apply hchain
      rw [q169, if_neg (by rw [zb_0, R7, ht, to]; omega), if_neg (nI_neq (by omega) (by omega) (by omega))]
      have hq3 : q = 0 ∨ q = 1 ∨ q = 2 := by omega
      rcases hq3 with rfl | rfl | rfl
      · exact l218 (d := d + 4) hH hc hn hpl (by rw [F14]; exact hLR) hp (by omega) (fun S hS => ⟨rfl, hrel G hG S hS⟩)
      · exact l231 (d := d + 4) hH hc hn hpl (by rw [F14]; exact hLR) hp (by omega) (fun S hS => ⟨rfl, hrel G hG S hS⟩)
      · exact l230 (d := d + 4) hH hc hn hpl (by rw [F14]; exact hLR) hp (by omega) (fun S hS => ⟨rfl, hrel G hG S hS⟩)
  by_cases hop : o = p
  · rw [if_pos (by rw [hop]), zl_10000]
    have z := href fc (-10000)
    rw [if_pos (Or.inl hop)] at z
    exact z ⟨rfl, hRR⟩
  · rw [if_neg (nI_neq (by omega) (by omega) hop), q20_2]
    by_cases hon : o < n
    · rw [if_neg (by rw [zb_0, h1, ht, to]; omega), q8_147 hn h1, ← hF, nI_128]
      refine l11_147 (d := d + 2) hA hq hp hon (fun G hG => ?_)
      have z := href G (zLa (F 14) wl al bl cl lk q (zVv (F 149) (F 150) (F 151) (F 152) (F 153) (F 154) (F 156) (F 148 11) n P p o))
      rw [if_neg (by omega)] at z
      exact z hG rfl
    · rw [if_pos (by rw [zb_0, h1, ht, to]; omega), zl_10000]
      have z := href fc (-10000)
      rw [if_pos (Or.inr hon)] at z
      exact z ⟨rfl, hRR⟩

/-! pillars between two seats -/
def zbq (P y x c : Nat) : Nat := if P.testBit (8 * y + x) = true then c + 1 else c
def zbr (P l r y c : Nat) : Nat := zfold (zbq P y) (r + 1 - l) l c
def zpn (P l r lo hi : Nat) : Nat := zfold (zbr P l r) (hi + 1 - lo) lo 0
theorem zbq_add {P y : Nat} : ∀ m l c, zfold (zbq P y) m l c = c + zfold (zbq P y) m l 0
  | 0, l, c => rfl
  | m + 1, l, c => by
    show zfold (zbq P y) m (l + 1) (zbq P y l c) = c + zfold (zbq P y) m (l + 1) (zbq P y l 0)
    rw [zbq_add m (l + 1) (zbq P y l c), zbq_add m (l + 1) (zbq P y l 0)]
    unfold zbq
    split <;> omega
def zb8 (B x c : Nat) : Nat := if B.testBit x = true then c + 1 else c
theorem zsp8 : ∀ B, B < 256 → ∀ l, l < 8 → ∀ w, w < 9 → l + w ≤ 8 → zpc 8 (B &&& ((2 ^ w - 1) * 2 ^ l)) = zfold (zb8 B) w l 0 ∧ (2 ^ w - 1) * 2 ^ l < 256 := by decide +kernel
theorem zpc_40 : zpc 40 0 = 0 := by decide
theorem zpc_8 {n : Nat} (h : n < 256) : zpc 48 n = zpc 8 n := by
  rw [show (48 : Nat) = 8 + 40 from rfl, zpc_split, Nat.mod_eq_of_lt (show n < 2 ^ 8 by omega), Nat.div_eq_of_lt (show n < 2 ^ 8 by omega), zpc_40]
  omega
theorem zspan {P y l w : Nat} (hl : l < 8) (hw : l + w ≤ 8) : zpc 48 ((P / 2 ^ (8 * y)) &&& ((2 ^ w - 1) * 2 ^ l)) = zfold (zbq P y) w l 0 ∧ (P / 2 ^ (8 * y)) &&& ((2 ^ w - 1) * 2 ^ l) < 256 := by
  obtain ⟨h1, h2⟩ := zsp8 (P / 2 ^ (8 * y) % 256) (by omega) l hl w (by omega) hw
  have h3 : (P / 2 ^ (8 * y)) &&& ((2 ^ w - 1) * 2 ^ l) ≤ (2 ^ w - 1) * 2 ^ l := Nat.and_le_right
  have h4 : (P / 2 ^ (8 * y)) &&& ((2 ^ w - 1) * 2 ^ l) = (P / 2 ^ (8 * y) % 256) &&& ((2 ^ w - 1) * 2 ^ l) := by
    have e := Nat.and_mod_two_pow (a := P / 2 ^ (8 * y)) (b := (2 ^ w - 1) * 2 ^ l) (n := 8)
    rw [Nat.mod_eq_of_lt (show (P / 2 ^ (8 * y)) &&& ((2 ^ w - 1) * 2 ^ l) < 2 ^ 8 by omega), Nat.mod_eq_of_lt (show (2 ^ w - 1) * 2 ^ l < 2 ^ 8 by omega)] at e
    exact e
  refine ⟨?_, by omega⟩
  rw [h4, zpc_8 (by rw [← h4]; omega), h1]
  refine zfold_congr _ _ _ (fun x c h5 h6 => ?_)
  unfold zb8 zbq
  have e : (P / 2 ^ (8 * y) % 256).testBit x = P.testBit (8 * y + x) := by
    rw [show (256 : Nat) = 2 ^ 8 from rfl, Nat.testBit_mod_two_pow, Nat.testBit_div_two_pow, decide_eq_true (show x < 8 by omega), Bool.true_and, Nat.add_comm]
  rw [e]
theorem zpn_0 {l r lo hi : Nat} : zpn 0 l r lo hi = 0 := by
  have h := zfold_inv (st := zbr 0 l r) (I := fun _ c => c = 0) (lo + (hi + 1 - lo)) (fun y c _ hc => by
    have h2 := zfold_inv (st := zbq 0 y) (I := fun _ c => c = 0) (l + (r + 1 - l)) (fun x c _ hc => by
      unfold zbq
      rw [if_neg (by rw [Nat.zero_testBit]; decide)]
      exact hc) (r + 1 - l) l c rfl hc
    exact h2) (hi + 1 - lo) lo 0 rfl rfl
  exact h
theorem zab_n {a b : Nat} (ha : a ≤ 100000) (hb : b ≤ 100000) : zab (nI a - nI b) = nI (max a b - min a b) := by
  have e := pk_sub_toInt (a := a) (b := b) (by omega) (by omega)
  unfold zab
  by_cases h : b ≤ a
  · rw [if_pos (by simp only [Int32.lt_iff_toInt_lt, Int32.le_iff_toInt_le, e, Int32.reduceToInt]; omega), pk_sub h]
    congr 1
    omega
  · rw [if_neg (by simp only [Int32.lt_iff_toInt_lt, Int32.le_iff_toInt_le, e, Int32.reduceToInt]; omega), Int32.neg_sub, pk_sub (by omega)]
    congr 1
    omega
section ZPI
variable {X : Nat × (Nat → Int32)} {d : Nat} {f : Nat → Nat → Int32} {g : Nat → Nat → Int64} {K : Int32 → (Nat → Nat → Int32) → (Nat → Nat → Int64) → Prop} {P x1 y1 x2 y2 p o : Nat}
theorem zl1c {n k : Nat} (hk : k < 64) : zlH.1 (lN n) (nI k) = lN (n * 2 ^ k) := by
  rw [zlH.2]
  exact wb_shl n hk
theorem q26_148 (hp : p < 12) (ho : o < 12) (hP : P < 2 ^ 48) (hg : g 148 12 = lN P) (hx1 : x1 < 8) (hx2 : x2 < 8) (hy1 : y1 < 6) (hy2 : y2 < 6) (e1 : f 151 p = nI x1) (e2 : f 151 o = nI x2) (e3 : f 152 p = nI y1) (e4 : f 152 o = nI y2) : zCpi X (d + 2) 26 [.ref 148, .int (nI p), .int (nI o)] (zs f g) K = K (nI (zpn P (min x1 x2) (max x1 x2) (min y1 y2) (max y1 y2))) f g := by
  refine zCpi_eq (fun K hK => e26_148 ?_)
  rw [hg]
  by_cases h0 : P = 0
  · subst h0
    rw [zpn_0] at hK
    rw [if_pos (show lg_cmp (lN 0) (0 : Int64) = 0 from by decide)]
    exact hK
  · rw [if_neg (show ¬ lg_cmp (lN P) (0 : Int64) = 0 from fun z => h0 ((lg0 (b := 0) (by omega) (by omega)).mp z))]
    have i1 := nI_in' (c := p) (N := 12) hp (by omega)
    have i2 := nI_in' (c := o) (N := 12) ho (by omega)
    simp only [nI_cl (show p ≤ 100000 by omega), nI_cl (show o ≤ 100000 by omega), if_neg i1, if_neg i2, q288, q287, q286, e1, e2, e3, e4, zsO.2, zmn_n (show x1 ≤ 100000 by omega) (show x2 ≤ 100000 by omega), zmn_n (show y1 ≤ 100000 by omega) (show y2 ≤ 100000 by omega), zmx_n (show y1 ≤ 100000 by omega) (show y2 ≤ 100000 by omega), zab_n (show x1 ≤ 100000 by omega) (show x2 ≤ 100000 by omega), nI_1]
    have hs : zlH.1 (zlS.1 (zlH.1 1 (nI (max x1 x2 - min x1 x2 + 1))) 1) (nI (min x1 x2)) = lN ((2 ^ (max x1 x2 - min x1 x2 + 1) - 1) * 2 ^ min x1 x2) := by
      have e := zl1c (n := 1) (k := max x1 x2 - min x1 x2 + 1) (by omega)
      rw [Nat.one_mul] at e
      rw [show (1 : Int64) = lN 1 from rfl, e, zlS.2, lN_sub Nat.one_le_two_pow, zl1c (by omega)]
    rw [hs]
    refine zloop (st := zbr P (min x1 x2) (max x1 x2)) (W := fun y c => zWp X (d + 1) zm26 98 [.ref 148, .int (nI p), .int (nI o), .int (nI (min x1 x2)), .int (nI (max x1 x2 - min x1 x2 + 1)), .int (nI (min y1 y2)), .int (nI (max y1 y2)), .long (lN ((2 ^ (max x1 x2 - min x1 x2 + 1) - 1) * 2 ^ min x1 x2)), .null, .int (nI c), .int (nI y)] [] (zs f g) (zQi K)) (E := fun c => K (nI c) f g) (max y1 y2 + 1) ?_ ?_ (max y1 y2 + 1 - min y1 y2) (min y1 y2) 0 (by omega) hK
    · intro c hc
      apply s26_98_148
      rw [if_pos (nI_lt (by omega) (by omega))]
      exact hc
    · intro y c hy hc
      have hsp := zspan (P := P) (y := y) (l := min x1 x2) (w := max x1 x2 - min x1 x2 + 1) (by omega) (by omega)
      have hlt : (2 ^ (max x1 x2 - min x1 x2 + 1) - 1) * 2 ^ min x1 x2 < 2 ^ 64 := by
        have := (zsp8 0 (by omega) (min x1 x2) (by omega) (max x1 x2 - min x1 x2 + 1) (by omega) (by omega)).2
        omega
      have hdv : P / 2 ^ (8 * y) ≤ P := Nat.div_le_self _ _
      apply s26_98_148
      rw [if_neg (nI_nlt (by omega) (by omega)), hg, zmO.2, show (8 : Int32) * nI y = nI (8 * y) from pk_mul 8 y, zlU.2, wb_shr (by omega) (by omega), wb_and (by omega) hlt, q285n (by omega), hsp.1, nI_add, nI_1]
      have e : zbr P (min x1 x2) (max x1 x2) y c = c + zfold (zbq P y) (max x1 x2 - min x1 x2 + 1) (min x1 x2) 0 := by
        unfold zbr
        rw [show max x1 x2 + 1 - min x1 x2 = max x1 x2 - min x1 x2 + 1 by omega]
        exact zbq_add _ _ _
      rw [e] at hc
      exact hc
theorem q26_159 (hp : p < 12) (ho : o < 12) (hP : P < 2 ^ 48) (hg : g 159 12 = lN P) (hx1 : x1 < 8) (hx2 : x2 < 8) (hy1 : y1 < 6) (hy2 : y2 < 6) (e1 : f 162 p = nI x1) (e2 : f 162 o = nI x2) (e3 : f 163 p = nI y1) (e4 : f 163 o = nI y2) : zCpi X (d + 2) 26 [.ref 159, .int (nI p), .int (nI o)] (zs f g) K = K (nI (zpn P (min x1 x2) (max x1 x2) (min y1 y2) (max y1 y2))) f g := by
  refine zCpi_eq (fun K hK => e26_159 ?_)
  rw [hg]
  by_cases h0 : P = 0
  · subst h0
    rw [zpn_0] at hK
    rw [if_pos (show lg_cmp (lN 0) (0 : Int64) = 0 from by decide)]
    exact hK
  · rw [if_neg (show ¬ lg_cmp (lN P) (0 : Int64) = 0 from fun z => h0 ((lg0 (b := 0) (by omega) (by omega)).mp z))]
    have i1 := nI_in' (c := p) (N := 12) hp (by omega)
    have i2 := nI_in' (c := o) (N := 12) ho (by omega)
    simp only [nI_cl (show p ≤ 100000 by omega), nI_cl (show o ≤ 100000 by omega), if_neg i1, if_neg i2, q288, q287, q286, e1, e2, e3, e4, zsO.2, zmn_n (show x1 ≤ 100000 by omega) (show x2 ≤ 100000 by omega), zmn_n (show y1 ≤ 100000 by omega) (show y2 ≤ 100000 by omega), zmx_n (show y1 ≤ 100000 by omega) (show y2 ≤ 100000 by omega), zab_n (show x1 ≤ 100000 by omega) (show x2 ≤ 100000 by omega), nI_1]
    have hs : zlH.1 (zlS.1 (zlH.1 1 (nI (max x1 x2 - min x1 x2 + 1))) 1) (nI (min x1 x2)) = lN ((2 ^ (max x1 x2 - min x1 x2 + 1) - 1) * 2 ^ min x1 x2) := by
      have e := zl1c (n := 1) (k := max x1 x2 - min x1 x2 + 1) (by omega)
      rw [Nat.one_mul] at e
      rw [show (1 : Int64) = lN 1 from rfl, e, zlS.2, lN_sub Nat.one_le_two_pow, zl1c (by omega)]
    rw [hs]
    refine zloop (st := zbr P (min x1 x2) (max x1 x2)) (W := fun y c => zWp X (d + 1) zm26 98 [.ref 159, .int (nI p), .int (nI o), .int (nI (min x1 x2)), .int (nI (max x1 x2 - min x1 x2 + 1)), .int (nI (min y1 y2)), .int (nI (max y1 y2)), .long (lN ((2 ^ (max x1 x2 - min x1 x2 + 1) - 1) * 2 ^ min x1 x2)), .null, .int (nI c), .int (nI y)] [] (zs f g) (zQi K)) (E := fun c => K (nI c) f g) (max y1 y2 + 1) ?_ ?_ (max y1 y2 + 1 - min y1 y2) (min y1 y2) 0 (by omega) hK
    · intro c hc
      apply s26_98_159
      rw [if_pos (nI_lt (by omega) (by omega))]
      exact hc
    · intro y c hy hc
      have hsp := zspan (P := P) (y := y) (l := min x1 x2) (w := max x1 x2 - min x1 x2 + 1) (by omega) (by omega)
      have hlt : (2 ^ (max x1 x2 - min x1 x2 + 1) - 1) * 2 ^ min x1 x2 < 2 ^ 64 := by
        have := (zsp8 0 (by omega) (min x1 x2) (by omega) (max x1 x2 - min x1 x2 + 1) (by omega) (by omega)).2
        omega
      have hdv : P / 2 ^ (8 * y) ≤ P := Nat.div_le_self _ _
      apply s26_98_159
      rw [if_neg (nI_nlt (by omega) (by omega)), hg, zmO.2, show (8 : Int32) * nI y = nI (8 * y) from pk_mul 8 y, zlU.2, wb_shr (by omega) (by omega), wb_and (by omega) hlt, q285n (by omega), hsp.1, nI_add, nI_1]
      have e : zbr P (min x1 x2) (max x1 x2) y c = c + zfold (zbq P y) (max x1 x2 - min x1 x2 + 1) (min x1 x2) 0 := by
        unfold zbr
        rw [show max x1 x2 + 1 - min x1 x2 = max x1 x2 - min x1 x2 + 1 by omega]
        exact zbq_add _ _ _
      rw [e] at hc
      exact hc
theorem q221 (hx1 : x1 < 8) (hx2 : x2 < 8) (hy1 : y1 < 6) (hy2 : y2 < 6) (hp : ∀ k, k < 48 → f 197 k = if P.testBit k = true then 1 else 0) : zCpi X (d + 2) 221 [.ref 178, .int (nI (8 * y1 + x1)), .int (nI (8 * y2 + x2))] (zs f g) K = K (nI (zpn P (min x1 x2) (max x1 x2) (min y1 y2) (max y1 y2))) f g := by
  refine zCpi_eq (fun K hK => e221_178 ?_)
  have a1 : nI (8 * y1 + x1) / 8 = nI y1 := by rw [nI_d8 (by omega), show (8 * y1 + x1) / 8 = y1 by omega]
  have a2 : nI (8 * y2 + x2) / 8 = nI y2 := by rw [nI_d8 (by omega), show (8 * y2 + x2) / 8 = y2 by omega]
  have a3 : nI (8 * y1 + x1) - nI y1 * 8 = nI x1 := by
    have := nI_r8 (k := 8 * y1 + x1) (by omega)
    rw [a1, show (8 * y1 + x1) % 8 = x1 by omega] at this
    exact this
  have a4 : nI (8 * y2 + x2) - nI y2 * 8 = nI x2 := by
    have := nI_r8 (k := 8 * y2 + x2) (by omega)
    rw [a2, show (8 * y2 + x2) % 8 = x2 by omega] at this
    exact this
  simp only [zq_8, if_false, zrO.2, zdO.2, a1, a2, a3, a4, q222, q223, zmn_n (show x1 ≤ 100000 by omega) (show x2 ≤ 100000 by omega), zmx_n (show x1 ≤ 100000 by omega) (show x2 ≤ 100000 by omega), zmn_n (show y1 ≤ 100000 by omega) (show y2 ≤ 100000 by omega)]
  refine zloop (st := zbr P (min x1 x2) (max x1 x2)) (W := fun y c => zWp X (d + 1) zm221 44 [.ref 178, .int (nI (8 * y1 + x1)), .int (nI (8 * y2 + x2)), .int (nI (min x1 x2)), .int (nI (max x1 x2)), .int (nI c), .int (nI y), .null] [] (zs f g) (zQi K)) (E := fun c => K (nI c) f g) (max y1 y2 + 1) ?_ ?_ (max y1 y2 + 1 - min y1 y2) (min y1 y2) 0 (by omega) hK
  · intro c hc
    apply s221_44_178
    simp only [zq_8, if_false, zdO.2, a1, a2, q223, zmx_n (show y1 ≤ 100000 by omega) (show y2 ≤ 100000 by omega)]
    rw [if_pos (nI_lt (by omega) (by omega))]
    exact hc
  · intro y c hy hc
    apply s221_44_178
    simp only [zq_8, if_false, zdO.2, a1, a2, q223, zmx_n (show y1 ≤ 100000 by omega) (show y2 ≤ 100000 by omega)]
    rw [if_neg (nI_nlt (by omega) (by omega))]
    refine zloop (st := zbq P y) (W := fun x c => zWp X (d + 1) zm221 64 [.ref 178, .int (nI (8 * y1 + x1)), .int (nI (8 * y2 + x2)), .int (nI (min x1 x2)), .int (nI (max x1 x2)), .int (nI c), .int (nI y), .int (nI x)] [] (zs f g) (zQi K)) (E := fun c => zWp X (d + 1) zm221 44 [.ref 178, .int (nI (8 * y1 + x1)), .int (nI (8 * y2 + x2)), .int (nI (min x1 x2)), .int (nI (max x1 x2)), .int (nI c), .int (nI (y + 1)), .null] [] (zs f g) (zQi K)) (max x1 x2 + 1) ?_ ?_ (max x1 x2 + 1 - min x1 x2) (min x1 x2) c (by omega) hc
    · intro c hc
      apply s221_64_178
      rw [if_pos (nI_lt (by omega) (by omega)), nI_1]
      exact hc
    · intro x c hx hc
      have e : (8 : Int32) * nI y + nI x = nI (8 * y + x) := nI_mb y 8 x
      unfold zbq at hc
      apply s221_64_178
      rw [if_neg (nI_nlt (by omega) (by omega)), zmO.2, e, if_neg (nI_in (by omega) (by omega)), nI_cl (by omega), hp (8 * y + x) (by omega), nI_1]
      by_cases h : P.testBit (8 * y + x) = true
      · rw [if_pos h] at hc
        rw [if_pos h, nI_1]
        exact hc
      · rw [if_neg h] at hc
        rw [if_neg h, Int32.add_zero]
        exact hc
end ZPI

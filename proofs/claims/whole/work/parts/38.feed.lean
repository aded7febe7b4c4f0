/-! feed -/
def zby (a s : Int32) : Int32 := (a >>> (s &&& 31)) &&& 255
theorem zby_u {a : Int32} {n : Nat} (hn : n ≤ 24) : ((a.toUInt32 >>> ((nI n).toUInt32 &&& Int32.toUInt32 31)).toInt32) &&& 255 = zby a (nI n) := by
  unfold zby
  refine b_ext (fun i hi => ?_)
  rw [b_and, b_and, b_ushr n (by omega), b_sshr n (by omega) _ hi, b_255]
  by_cases h : i < 8
  · rw [if_pos (by omega)]
  · rw [decide_eq_false h, Bool.and_false, Bool.and_false]
theorem zby_r {a s : Int32} : 0 ≤ (zby a s).toInt ∧ (zby a s).toInt ≤ 255 := by
  obtain ⟨j, hj, e⟩ := pk_andE (a >>> (s &&& 31)) (m := 255) 8 (by decide)
  unfold zby
  rw [e, nI_ti (by omega)]
  omega
/-- four bytes behind the k that stand there -/
def zap (o s r : Nat) (f : Nat → Nat → Int32) (a : Int32) (k : Nat) : Nat → Nat → Int32 := zuI (zuI (zuI (zuI (zuI (zuI (zuI (zuI f r k (zby a 24)) o s (nI (k + 1))) r (k + 1) (zby a 16)) o s (nI (k + 1 + 1))) r (k + 1 + 1) (zby a 8)) o s (nI (k + 1 + 1 + 1))) r (k + 1 + 1 + 1) (zby a 0)) o s (nI (k + 1 + 1 + 1 + 1))
section ZFE
variable {X : Nat × (Nat → Int32)} {d : Nat} {f : Nat → Nat → Int32} {g : Nat → Nat → Int64} {K : (Nat → Nat → Int32) → (Nat → Nat → Int64) → Prop}
theorem s77n {a : Int32} {k n m : Nat} (h : f 65 5 = nI k) (hk : k < 400) (hn : n ≤ 24) (hm : nI n + (-8) = nI m) (z : zWp X (d + 0) zm77 3 [.ref 65, .int a, .int (nI m)] [] (zs (zuI (zuI f 66 k (zby a (nI n))) 65 5 (nI (k + 1))) g) (zQv K)) : zWp X (d + 0) zm77 3 [.ref 65, .int a, .int (nI n)] [] (zs f g) (zQv K) := by
  apply s77_3_65
  rw [if_neg (nI_pos (by omega)), h, if_neg (show ¬ (400 : Int32) ≤ nI k from nI_ge (b := 400) (by omega) (by omega)), if_neg (nI_in (by omega) (by omega)), nI_cl (by omega), zuO.2, zby_u hn, nI_1, zl_8, hm]
  exact z
theorem q77 {a : Int32} {k : Nat} (h : f 65 5 = nI k) (hk : k ≤ 396) : zCpv X (d + 1) 77 [.ref 65, .int a] (zs f g) K = K (zap 65 5 66 f a k) g := by
  refine zCpv_eq (fun K hK => e77_65 ?_)
  refine s77n (n := 24) (m := 16) h (by omega) (by omega) (by decide) ?_
  refine s77n (n := 16) (m := 8) (k := k + 1) (by simp only [zi_ne, zi_at, zr_ne, zr_at, zj_ne, zj_at, ↓reduceIte, Nat.reduceEqDiff, not_false_eq_true, eq_self, nI_1]) (by omega) (by omega) (by decide) ?_
  refine s77n (n := 8) (m := 0) (k := k + 1 + 1) (by simp only [zi_ne, zi_at, zr_ne, zr_at, zj_ne, zj_at, ↓reduceIte, Nat.reduceEqDiff, not_false_eq_true, eq_self, nI_1]) (by omega) (by omega) (by decide) ?_
  have e : nI 0 + (-8) = -8 := by decide
  apply s77_3_65
  rw [if_neg (nI_pos (n := 0) (by omega)), zi_at, if_pos rfl, if_neg (show ¬ (400 : Int32) ≤ nI (k + 1 + 1 + 1) from nI_ge (b := 400) (by omega) (by omega)), if_neg (nI_in (by omega) (by omega)), nI_cl (by omega), zuO.2, zby_u (n := 0) (by omega), nI_1, zl_8, e]
  apply s77_3_65
  rw [if_pos (by decide)]
  exact hK
theorem s171n {a : Int32} {k n : Nat} {m : Int32} (h : f 178 11 = nI k) (hk : k < 400) (hn : n ≤ 24) (hm : nI n + (-8) = m) (z : zWp X (d + 0) zm171 3 [.ref 178, .int a, .int m] [] (zs (zuI (zuI f 185 k (zby a (nI n))) 178 11 (nI (k + 1))) g) (zQv K)) : zWp X (d + 0) zm171 3 [.ref 178, .int a, .int (nI n)] [] (zs f g) (zQv K) := by
  apply s171_3_178
  rw [if_neg (nI_pos (by omega)), h, if_neg (nI_in (by omega) (by omega)), nI_cl (by omega), zgO.2, nI_1, zl_8, hm]
  exact z
theorem q171 {a : Int32} {k : Nat} (h : f 178 11 = nI k) (hk : k ≤ 396) : zCpv X (d + 1) 171 [.ref 178, .int a] (zs f g) K = K (zap 178 11 185 f a k) g := by
  refine zCpv_eq (fun K hK => e171_178 ?_)
  refine s171n (n := 24) (m := nI 16) h (by omega) (by omega) (by decide) ?_
  refine s171n (n := 16) (m := nI 8) (k := k + 1) (by simp only [zi_ne, zi_at, zr_ne, zr_at, zj_ne, zj_at, ↓reduceIte, Nat.reduceEqDiff, not_false_eq_true, eq_self, nI_1]) (by omega) (by omega) (by decide) ?_
  refine s171n (n := 8) (m := nI 0) (k := k + 1 + 1) (by simp only [zi_ne, zi_at, zr_ne, zr_at, zj_ne, zj_at, ↓reduceIte, Nat.reduceEqDiff, not_false_eq_true, eq_self, nI_1]) (by omega) (by omega) (by decide) ?_
  refine s171n (n := 0) (m := -8) (k := k + 1 + 1 + 1) (by simp only [zi_ne, zi_at, zr_ne, zr_at, zj_ne, zj_at, ↓reduceIte, Nat.reduceEqDiff, not_false_eq_true, eq_self, nI_1]) (by omega) (by omega) (by decide) ?_
  apply s171_3_178
  rw [if_pos (by decide)]
  exact hK
end ZFE
theorem zap_o {o s r : Nat} {f : Nat → Nat → Int32} {a : Int32} {k : Nat} : zap o s r f a k o s = nI (k + 4) := by
  unfold zap
  rw [zi_at, if_pos rfl]
theorem zap_ne {o s r : Nat} {f : Nat → Nat → Int32} {a : Int32} {k i : Nat} (h1 : ¬ i = o) (h2 : ¬ i = r) : zap o s r f a k i = f i := by
  unfold zap
  rw [zi_ne h1, zi_ne h2, zi_ne h1, zi_ne h2, zi_ne h1, zi_ne h2, zi_ne h1, zi_ne h2]
theorem zap_os {o s r : Nat} {f : Nat → Nat → Int32} {a : Int32} {k j : Nat} (h : ¬ o = r) (hj : ¬ j = s) : zap o s r f a k o j = f o j := by
  unfold zap
  rw [zi_at, if_neg hj, zi_ne h, zi_at, if_neg hj, zi_ne h, zi_at, if_neg hj, zi_ne h, zi_at, if_neg hj, zi_ne h]
theorem zap_r {o s r : Nat} {f : Nat → Nat → Int32} {a : Int32} {k j : Nat} (h : ¬ r = o) : zap o s r f a k r j = if j = k + 3 then zby a 0 else if j = k + 2 then zby a 8 else if j = k + 1 then zby a 16 else if j = k then zby a 24 else f r j := by
  unfold zap
  rw [zi_ne h, zi_at, zi_ne h, zi_at, zi_ne h, zi_at, zi_ne h, zi_at]
/-- four more bytes on both sides -/
theorem zRel_ap {fc fr : Nat → Nat → Int32} {gc : Nat → Nat → Int64} {k : Nat} {a : Int32} (hk : k ≤ 396) (h1 : fc 65 5 = nI k) (h2 : fr 178 11 = nI k) (hR : zRel fc gc fr) : zRel (zap 65 5 66 fc a k) gc (zap 178 11 185 fr a k) := by
  obtain ⟨⟨c1, c2, c3, c4, c5, c6, c7, c8, c9, c10, c11⟩, c12, c13, c14, c15, c16⟩ := hR
  have fn : ∀ i, ¬ i = 65 → ¬ i = 66 → zap 65 5 66 fc a k i = fc i := fun i i1 i2 => zap_ne i1 i2
  have rn : ∀ i, ¬ i = 178 → ¬ i = 185 → zap 178 11 185 fr a k i = fr i := fun i i1 i2 => zap_ne i1 i2
  have ro : ∀ j, ¬ j = 11 → zap 178 11 185 fr a k 178 j = fr 178 j := fun j hj => zap_os (by omega) hj
  have hT : zRow (zap 65 5 66 fc a k 65 5) (zap 65 5 66 fc a k 66) (zap 178 11 185 fr a k 178 11) (zap 178 11 185 fr a k 185) 400 255 := by
    obtain ⟨k', hk', e1, e2, e3⟩ := c12
    have ek : k' = k := (nI_eq (by omega) (by omega)).mp (e1.symm.trans h1)
    subst ek
    rw [zap_o, zap_o]
    refine ⟨k' + 4, by omega, rfl, rfl, fun j hj => ?_⟩
    rw [zap_r (by omega), zap_r (by omega)]
    by_cases j3 : j = k' + 3
    · rw [if_pos j3, if_pos j3]; exact ⟨rfl, zby_r⟩
    · rw [if_neg j3, if_neg j3]
      by_cases j2 : j = k' + 2
      · rw [if_pos j2, if_pos j2]; exact ⟨rfl, zby_r⟩
      · rw [if_neg j2, if_neg j2]
        by_cases j1 : j = k' + 1
        · rw [if_pos j1, if_pos j1]; exact ⟨rfl, zby_r⟩
        · rw [if_neg j1, if_neg j1]
          by_cases j0 : j = k'
          · rw [if_pos j0, if_pos j0]; exact ⟨rfl, zby_r⟩
          · rw [if_neg j0, if_neg j0]; exact e3 j (by omega)
  generalize zap 65 5 66 fc a k = F at *
  generalize zap 178 11 185 fr a k = R at *
  refine ⟨⟨?_, ?_, ?_, ?_, ?_, ?_, ?_, ?_, ?_, ?_, ?_⟩, hT, ?_, ?_, ?_, ?_⟩
  · rw [fn 27 (by omega) (by omega), fn 28 (by omega) (by omega), ro 46 (by omega), rn 204 (by omega) (by omega)]; exact c1
  · rw [fn 25 (by omega) (by omega), fn 26 (by omega) (by omega), ro 44 (by omega), rn 203 (by omega) (by omega)]; exact c2
  · rw [fn 29 (by omega) (by omega), fn 30 (by omega) (by omega), ro 49 (by omega), rn 206 (by omega) (by omega)]; exact c3
  · rw [fn 31 (by omega) (by omega), fn 32 (by omega) (by omega), ro 52 (by omega), rn 208 (by omega) (by omega)]; exact c4
  · rw [fn 24 (by omega) (by omega), rn 201 (by omega) (by omega)]; exact c5
  · rw [fn 13 (by omega) (by omega), fn 14 (by omega) (by omega), fn 15 (by omega) (by omega), fn 16 (by omega) (by omega), fn 17 (by omega) (by omega), fn 18 (by omega) (by omega), rn 187 (by omega) (by omega), rn 188 (by omega) (by omega), rn 189 (by omega) (by omega), rn 190 (by omega) (by omega), rn 191 (by omega) (by omega), rn 192 (by omega) (by omega), rn 193 (by omega) (by omega)]; exact c6
  · rw [fn 20 (by omega) (by omega), fn 21 (by omega) (by omega), ro 33 (by omega), rn 195 (by omega) (by omega)]; exact c7
  · rw [fn 22 (by omega) (by omega), fn 23 (by omega) (by omega), ro 35 (by omega), ro 7 (by omega), rn 196 (by omega) (by omega)]; exact c8
  · rw [fn 2 (by omega) (by omega), fn 3 (by omega) (by omega), fn 4 (by omega) (by omega), fn 5 (by omega) (by omega), fn 6 (by omega) (by omega), fn 7 (by omega) (by omega), fn 8 (by omega) (by omega), fn 9 (by omega) (by omega), fn 10 (by omega) (by omega), ro 7 (by omega), rn 183 (by omega) (by omega), rn 179 (by omega) (by omega)]; exact c9
  · rw [rn 197 (by omega) (by omega), fn 1 (by omega) (by omega), ro 37 (by omega)]; exact c10
  · rw [fn 11 (by omega) (by omega), fn 12 (by omega) (by omega), rn 184 (by omega) (by omega), rn 179 (by omega) (by omega)]; exact c11
  · rw [fn 70 (by omega) (by omega), ro 31 (by omega), ro 32 (by omega)]; exact c13
  · exact zPas_frame (fun i _ _ => fn i (by omega) (by omega)) (by rw [fn 11 (by omega) (by omega)]) (fun _ _ _ => rfl) rfl (rn 180 (by omega) (by omega)) (ro 3 (by omega)) (ro 7 (by omega)) (rn 183 (by omega) (by omega)) c14
  · exact zIma_frame (by rw [fn 0 (by omega) (by omega)]) (fun i i1 i2 => fn i (by omega) (by omega)) rfl (rn 211 (by omega) (by omega)) (ro 57 (by omega)) c15
  · rw [fn 147 (by omega) (by omega), fn 158 (by omega) (by omega), ro 5 (by omega), rn 186 (by omega) (by omega)]; exact c16
theorem nI_p20 {k : Nat} : nI k + (20 : Int32) = nI (k + 20) := nI_add k 20
theorem op_feed {X : Nat × (Nat → Int32)} {d : Nat} {a1 a2 a3 a4 a5 : Int32} : zOp X (d + 2) 130 170 [.int a1, .int a2, .int a3, .int a4, .int a5] := by
  intro fc fr gc gr hR
  obtain ⟨⟨c1, c2, c3, c4, c5, c6, c7, c8, c9, c10, c11⟩, c12, c13, c14, c15, c16⟩ := hR
  have hR0 : zRel fc gc (zuI fr 178 0 0) := by
    refine ⟨⟨?_, ?_, ?_, ?_, ?_, ?_, ?_, ?_, ?_, ?_, ?_⟩, ?_, ?_, ?_, ?_, ?_⟩
    all_goals try (first | assumption | (simp only [zi_ne, zi_at, zr_ne, zr_at, zj_ne, zj_at, ↓reduceIte, Nat.reduceEqDiff, not_false_eq_true, eq_self, nI_1]; assumption) | (simp only [zi_ne, zi_at, zr_ne, zr_at, zj_ne, zj_at, ↓reduceIte, Nat.reduceEqDiff, not_false_eq_true, eq_self, nI_1]; exact zRow_nil) | (exact zPas_frame (fun i _ _ => by first | rfl | (repeat (first | rw [zi_ne (by omega)] | rw [zr_ne (by omega)]))) (by first | rfl | (simp only [zi_ne, zi_at, zr_ne, zr_at, zj_ne, zj_at, ↓reduceIte, Nat.reduceEqDiff, not_false_eq_true, eq_self, nI_1])) (fun i _ _ => rfl) rfl (by first | rfl | (simp only [zi_ne, zi_at, zr_ne, zr_at, zj_ne, zj_at, ↓reduceIte, Nat.reduceEqDiff, not_false_eq_true, eq_self, nI_1])) (by first | rfl | (simp only [zi_ne, zi_at, zr_ne, zr_at, zj_ne, zj_at, ↓reduceIte, Nat.reduceEqDiff, not_false_eq_true, eq_self, nI_1])) (by first | rfl | (simp only [zi_ne, zi_at, zr_ne, zr_at, zj_ne, zj_at, ↓reduceIte, Nat.reduceEqDiff, not_false_eq_true, eq_self, nI_1])) (by first | rfl | (simp only [zi_ne, zi_at, zr_ne, zr_at, zj_ne, zj_at, ↓reduceIte, Nat.reduceEqDiff, not_false_eq_true, eq_self, nI_1])) c14) | (exact zIma_frame (by first | rfl | (simp only [zi_ne, zi_at, zr_ne, zr_at, zj_ne, zj_at, ↓reduceIte, Nat.reduceEqDiff, not_false_eq_true, eq_self, nI_1])) (fun i _ _ => by first | rfl | (repeat (first | rw [zi_ne (by omega)] | rw [zr_ne (by omega)]))) rfl (by first | rfl | (simp only [zi_ne, zi_at, zr_ne, zr_at, zj_ne, zj_at, ↓reduceIte, Nat.reduceEqDiff, not_false_eq_true, eq_self, nI_1])) (by first | rfl | (simp only [zi_ne, zi_at, zr_ne, zr_at, zj_ne, zj_at, ↓reduceIte, Nat.reduceEqDiff, not_false_eq_true, eq_self, nI_1])) c15))
  obtain ⟨k, hk, e1, e2, e3⟩ := id c12
  have e2' : zuI fr 178 0 0 178 11 = nI k := by simp only [zi_ne, zi_at, zr_ne, zr_at, zj_ne, zj_at, ↓reduceIte, Nat.reduceEqDiff, not_false_eq_true, eq_self, nI_1]; exact e2
  apply e130_0
  rw [e1, nI_p20]
  by_cases h : k ≤ 380
  · rw [if_pos (show nI (k + 20) ≤ (400 : Int32) from nI_le (b := 400) (by omega) (by omega)), q77 e1 (by omega), q77 zap_o (by omega), q77 zap_o (by omega), q77 zap_o (by omega), q77 zap_o (by omega)]
    apply e170_178
    rw [e2, if_pos (show nI k ≤ (380 : Int32) from nI_le (b := 380) (by omega) (by omega)), q171 e2' (by omega), q171 zap_o (by omega), q171 zap_o (by omega), q171 zap_o (by omega), q171 zap_o (by omega)]
    rw [zap_o, zap_o]
    exact ⟨rfl, zRel_ap (by omega) zap_o zap_o (zRel_ap (by omega) zap_o zap_o (zRel_ap (by omega) zap_o zap_o (zRel_ap (by omega) zap_o zap_o (zRel_ap (by omega) e1 e2' hR0))))⟩
  · rw [if_neg (show ¬ nI (k + 20) ≤ (400 : Int32) from nI_ge (a := 400) (by omega) (by omega))]
    apply e170_178
    rw [e2, if_neg (show ¬ nI k ≤ (380 : Int32) from nI_ge (a := 380) (by omega) (by omega))]
    exact ⟨rfl, hR0⟩

/-! rows that loops write; hunt -/
def zup (r : Nat → Int32) (i : Nat) (v : Int32) : Nat → Int32 := fun j => if j = i then v else r j
theorem zr_id {f : Nat → Nat → Int32} {a : Nat} : zrI f a (f a) = f := by
  funext i
  unfold zrI
  by_cases h : i = a
  · rw [if_pos h, h]
  · rw [if_neg h]
theorem zr_up {f : Nat → Nat → Int32} {a i : Nat} {r : Nat → Int32} {v : Int32} : zuI (zrI f a r) a i v = zrI f a (zup r i v) := by
  funext b j
  unfold zuI zrI zup
  by_cases h : b = a
  · rw [if_pos h, if_pos h, if_pos h]
  · rw [if_neg h, if_neg h, if_neg h]
theorem zr_ati {f : Nat → Nat → Int32} {a i : Nat} {r : Nat → Int32} : zrI f a r a i = r i := by rw [zr_at]
def zsw (r : Nat → Int32) (i : Nat) : Nat → Int32 := zup (zup r i (r (i + 1))) (i + 1) (r i)
def zch (n k : Nat) (r : Nat → Int32) : Nat → Int32 := zfold (fun t r => zsw r (k % 2 + 2 * t)) ((n - k % 2) / 2) 0 r
def zhu (n K : Nat) (r : Nat → Int32) : Nat → Int32 := zfold (fun k r => zch n k r) K 0 r
def zou (r : Nat → Int32) (n : Nat) : Nat := zfold (fun i c => zfold (fun j c => if r j ≤ r i then c else c + 1) i 0 c) n 0 0
def zin0 (m : Nat) (r : Nat → Int32) : Nat → Int32 := zfold (fun i r => zup r i (nI i)) m 0 r
theorem zfold_rel {S T : Type} {st : Nat → S → S} {st2 : Nat → T → T} {R : S → T → Prop} (n : Nat) (hs : ∀ i s t, i < n → R s t → R (st i s) (st2 i t)) : ∀ m i s t, i + m = n → R s t → R (zfold st m i s) (zfold st2 m i t) := by
  intro m
  induction m with
  | zero => intro i s t hi h; exact h
  | succ m ih => intro i s t hi h; exact ih (i + 1) _ _ (by omega) (hs i s t (by omega) h)
theorem zhu_rel {n K : Nat} {r r2 : Nat → Int32} (h : ∀ j, j < n → r j = r2 j) : ∀ j, j < n → zhu n K r j = zhu n K r2 j := by
  refine zfold_rel (R := fun r r2 : Nat → Int32 => ∀ j, j < n → r j = r2 j) K (fun k s t hk hst => ?_) K 0 r r2 (by omega) h
  refine zfold_rel (R := fun r r2 : Nat → Int32 => ∀ j, j < n → r j = r2 j) ((n - k % 2) / 2) (fun i s t hi hst j hj => ?_) ((n - k % 2) / 2) 0 s t (by omega) hst
  unfold zsw zup
  by_cases e1 : j = k % 2 + 2 * i + 1
  · rw [if_pos e1, if_pos e1]
    exact hst _ (by omega)
  · rw [if_neg e1, if_neg e1]
    by_cases e2 : j = k % 2 + 2 * i
    · rw [if_pos e2, if_pos e2]
      exact hst _ (by omega)
    · rw [if_neg e2, if_neg e2]
      exact hst j hj
theorem zin0_at {m : Nat} {r : Nat → Int32} : ∀ j, zin0 m r j = if j < m then nI j else r j := by
  have h := zfold_inv (st := fun i (r : Nat → Int32) => zup r i (nI i)) (I := fun i s => ∀ j, s j = if j < i then nI j else r j) m (fun i s hi h j => by
    show (if j = i then nI i else s j) = _
    by_cases e : j = i
    · rw [if_pos e, if_pos (by omega), e]
    · rw [if_neg e, h]
      by_cases e2 : j < i
      · rw [if_pos e2, if_pos (by omega)]
      · rw [if_neg e2, if_neg (by omega)]) m 0 r (by omega) (fun j => by rw [if_neg (by omega)])
  exact h
theorem zou_rel {n : Nat} {r r2 : Nat → Int32} (h : ∀ j, j < n → r j = r2 j) : zou r n = zou r2 n := by
  unfold zou
  refine zfold_congr _ _ _ (fun i c _ hi => ?_)
  refine zfold_congr _ _ _ (fun j c _ hj => ?_)
  rw [h i (by omega), h j (by omega)]
theorem zou_le {n : Nat} {r : Nat → Int32} (hn : n ≤ 8) : zou r n ≤ 100 := by
  have h := zfold_inv (st := fun i c => zfold (fun j c => if r j ≤ r i then c else c + 1) i 0 c) (I := fun i c => c ≤ 8 * i) n (fun i c hi h => by
    have h2 := zfold_inv (st := fun j c => if r j ≤ r i then c else c + 1) (I := fun j c2 => c2 ≤ c + j) i (fun j c2 hj h => by
      split <;> omega) i 0 c (by omega) (by omega)
    omega) n 0 0 (by omega) (by omega)
  unfold zou
  omega
theorem zmn8 : ∀ n, n ≤ 8 → zmn (nI n) 8 = nI n := by decide +kernel
theorem zrem2 {k : Nat} (hk : k ≤ 100000) : nI k - nI k / 2 * 2 = nI (k % 2) := pk_rem (d := 2) (by omega) (by omega) (by omega)
theorem nI_p2 {k : Nat} : nI k + (2 : Int32) = nI (k + 2) := nI_add k 2
section ZHU
variable {X : Nat × (Nat → Int32)} {d : Nat} {f : Nat → Nat → Int32} {g : Nat → Nat → Int64}
theorem q106 {Kv : (Nat → Nat → Int32) → (Nat → Nat → Int64) → Prop} {n k : Nat} (hn : n ≤ 8) (hk : k ≤ 99) : zCpv X (d + 2) 106 [.ref 169, .int (nI n), .int (nI k)] (zs f g) Kv = Kv (zrI f 173 (zhu n k (zin0 8 (f 173)))) g := by
  refine zCpv_eq (fun K hK => e106_169 ?_)
  have z := zloop (st := fun i (r : Nat → Int32) => zup r i (nI i)) (W := fun i r => zWp X (d + 1) zm106 2 [.ref 169, .int (nI n), .int (nI k), .int (nI i), .null, .null] [] (zs (zrI f 173 r) g) (zQv K)) (E := fun r => K (zrI f 173 (zhu n k r)) g) 8 ?_ ?_ 8 0 (f 173) (by omega) hK
  · rw [zr_id] at z
    exact z
  · intro r hr
    apply s106_2_169
    rw [if_pos (show (8 : Int32) ≤ nI 8 from by decide), q288, zmn8 n hn]
    refine zloop (st := fun k r => zch n k r) (W := fun i r => zWp X (d + 1) zm106 37 [.ref 169, .int (nI n), .int (nI k), .int (nI n), .int (nI i), .null] [] (zs (zrI f 173 r) g) (zQv K)) (E := fun r => K (zrI f 173 r) g) k ?_ ?_ k 0 r (by omega) hr
    · intro r hr
      apply s106_37_169
      rw [if_pos (nI_le (by omega) (by omega))]
      exact hr
    · intro i r hi hr
      apply s106_37_169
      rw [if_neg (nI_ge (by omega) (by omega)), if_neg (by decide), zrO.2, zrem2 (by omega)]
      refine zloop (st := fun t (r : Nat → Int32) => zsw r (i % 2 + 2 * t)) (W := fun t r => zWp X (d + 1) zm106 49 [.ref 169, .int (nI n), .int (nI k), .int (nI n), .int (nI i), .int (nI (i % 2 + 2 * t))] [] (zs (zrI f 173 r) g) (zQv K)) (E := fun r => zWp X (d + 1) zm106 37 [.ref 169, .int (nI n), .int (nI k), .int (nI n), .int (nI (i + 1)), .null] [] (zs (zrI f 173 r) g) (zQv K)) ((n - i % 2) / 2) ?_ ?_ ((n - i % 2) / 2) 0 r (by omega) hr
      · intro r hr
        apply s106_49_169
        rw [nI_1, if_pos (nI_le (by omega) (by omega)), nI_1]
        exact hr
      · intro t r ht hr
        apply s106_49_169
        rw [nI_1, if_neg (nI_ge (by omega) (by omega))]
        apply e96_173
        simp only [if_neg (nI_in (c := i % 2 + 2 * t) (N := 8) (by omega) (by omega)), if_neg (nI_in (c := i % 2 + 2 * t + 1) (N := 8) (by omega) (by omega)), nI_cl (show i % 2 + 2 * t ≤ 100000 by omega), nI_cl (show i % 2 + 2 * t + 1 ≤ 100000 by omega), if_neg (nI_in' (c := i % 2 + 2 * t) (N := 8) (by omega) (by omega)), if_neg (nI_in' (c := i % 2 + 2 * t + 1) (N := 8) (by omega) (by omega)), zr_ati, zr_up, nI_p2]
        exact hr
  · intro i r hi hr
    apply s106_2_169
    rw [if_neg (show ¬ (8 : Int32) ≤ nI i from nI_ge (b := 8) (by omega) (by omega)), if_neg (nI_in (by omega) (by omega)), nI_cl (by omega), zr_up, nI_1]
    exact hr
variable {K : Int32 → (Nat → Nat → Int32) → (Nat → Nat → Int64) → Prop}
theorem q107 {n : Nat} (hn : n ≤ 8) : zCpi X (d + 2) 107 [.ref 169, .int (nI n)] (zs f g) K = K (nI (zou (f 173) n)) f g := by
  refine zCpi_eq (fun K hK => e107_169 ?_)
  refine zloop (st := fun i c => zfold (fun j c => if f 173 j ≤ f 173 i then c else c + 1) i 0 c) (W := fun i c => zWp X (d + 1) zm107 4 [.ref 169, .int (nI n), .int (nI c), .int (nI i), .null] [] (zs f g) (zQi K)) (E := fun c => K (nI c) f g) n ?_ ?_ n 0 0 (by omega) hK
  · intro c hc
    apply s107_4_169
    rw [q288, zmn8 n hn, if_pos (nI_le (by omega) (by omega))]
    exact hc
  · intro i c hi hc
    apply s107_4_169
    rw [q288, zmn8 n hn, if_neg (nI_ge (by omega) (by omega))]
    refine zloop (st := fun j c => if f 173 j ≤ f 173 i then c else c + 1) (W := fun j c => zWp X (d + 1) zm107 20 [.ref 169, .int (nI n), .int (nI c), .int (nI i), .int (nI j)] [] (zs f g) (zQi K)) (E := fun c => zWp X (d + 1) zm107 4 [.ref 169, .int (nI n), .int (nI c), .int (nI (i + 1)), .null] [] (zs f g) (zQi K)) i ?_ ?_ i 0 c (by omega) hc
    · intro c hc
      apply s107_20_169
      rw [if_pos (nI_le (by omega) (by omega)), nI_1]
      exact hc
    · intro j c hj hc
      apply s107_20_169
      rw [if_neg (nI_ge (by omega) (by omega)), if_neg (nI_in (by omega) (by omega)), if_neg (nI_in (by omega) (by omega)), nI_cl (k := j) (by omega), nI_cl (k := i) (by omega), nI_1, nI_1, Int32.add_zero]
      split
      · next e => rw [if_pos e] at hc; exact hc
      · next e => rw [if_neg e] at hc; exact hc
theorem q108 {i : Nat} (hi : i < 8) : zCpi X (d + 2) 108 [.ref 169, .int (nI i)] (zs f g) K = K (f 173 i) f g := by
  refine zCpi_eq (fun K hK => e108_169 ?_)
  have ht := nI_ti (k := i) (by omega)
  simp only [q124, zb_0, zsO.2, ht, show ((8 : Int32) - 1).toInt = 7 from by decide, Int32.reduceToInt]
  rw [if_neg (by omega), if_neg (nI_in hi (by omega)), nI_cl (by omega)]
  exact hK
theorem l266 {n k : Nat} {x3 : Int32} (hn : n ≤ 8) (hk : k ≤ 99) (hK : if x3 = -1 then K (nI (zou (zhu n k (zin0 n (f 205))) n)) (zrI f 205 (zhu n k (zin0 n (f 205)))) g else (if x3 < 0 ∨ 8 ≤ x3.toNatClampNeg then False else K (zhu n k (zin0 n (f 205)) x3.toNatClampNeg) (zrI f 205 (zhu n k (zin0 n (f 205)))) g)) : zWp X (d + 1) zm266 44 [.ref 178, .int (nI n), .int (nI k), .int x3, .int 0, .null, .null] [] (zs f g) (zQi K) := by
  have z := zloop (st := fun i (r : Nat → Int32) => zup r i (nI i)) (W := fun i r => zWp X (d + 1) zm266 44 [.ref 178, .int (nI n), .int (nI k), .int x3, .int (nI i), .null, .null] [] (zs (zrI f 205 r) g) (zQi K)) (E := fun r => if x3 = -1 then K (nI (zou (zhu n k r) n)) (zrI f 205 (zhu n k r)) g else (if x3 < 0 ∨ 8 ≤ x3.toNatClampNeg then False else K (zhu n k r x3.toNatClampNeg) (zrI f 205 (zhu n k r)) g)) n ?_ ?_ n 0 (f 205) (by omega) hK
  · rw [zr_id] at z
    exact z
  · intro r hr
    apply s266_44_178
    rw [if_pos (nI_le (by omega) (by omega))]
    refine zloop (st := fun k r => zch n k r) (W := fun i r => zWp X (d + 1) zm266 68 [.ref 178, .int (nI n), .int (nI k), .int x3, .int (nI i), .null, .null] [] (zs (zrI f 205 r) g) (zQi K)) (E := fun r => if x3 = -1 then K (nI (zou r n)) (zrI f 205 r) g else (if x3 < 0 ∨ 8 ≤ x3.toNatClampNeg then False else K (r x3.toNatClampNeg) (zrI f 205 r) g)) k ?_ ?_ k 0 r (by omega) hr
    · intro r hr
      apply s266_68_178
      rw [if_pos (nI_le (by omega) (by omega))]
      by_cases h3 : x3 = -1
      · rw [if_pos h3] at hr
        rw [if_pos h3]
        refine zloop (st := fun i c => zfold (fun j c => if r j ≤ r i then c else c + 1) i 0 c) (W := fun i c => zWp X (d + 1) zm266 157 [.ref 178, .int (nI n), .int (nI k), .int x3, .int (nI c), .int (nI i), .null] [] (zs (zrI f 205 r) g) (zQi K)) (E := fun c => K (nI c) (zrI f 205 r) g) n ?_ ?_ n 0 0 (by omega) hr
        · intro c hc
          apply s266_157_178
          rw [if_pos (nI_le (by omega) (by omega))]
          exact hc
        · intro i c hi hc
          apply s266_157_178
          rw [if_neg (nI_ge (by omega) (by omega))]
          refine zloop (st := fun j c => if r j ≤ r i then c else c + 1) (W := fun j c => zWp X (d + 1) zm266 166 [.ref 178, .int (nI n), .int (nI k), .int x3, .int (nI c), .int (nI i), .int (nI j)] [] (zs (zrI f 205 r) g) (zQi K)) (E := fun c => zWp X (d + 1) zm266 157 [.ref 178, .int (nI n), .int (nI k), .int x3, .int (nI c), .int (nI (i + 1)), .null] [] (zs (zrI f 205 r) g) (zQi K)) i ?_ ?_ i 0 c (by omega) hc
          · intro c hc
            apply s266_166_178
            rw [if_pos (nI_le (by omega) (by omega)), nI_1]
            exact hc
          · intro j c hj hc
            apply s266_166_178
            rw [if_neg (nI_ge (by omega) (by omega)), if_neg (nI_in (by omega) (by omega)), if_neg (nI_in (by omega) (by omega)), nI_cl (k := j) (by omega), nI_cl (k := i) (by omega), nI_1, nI_1, zr_ati, zr_ati]
            split
            · next e => rw [if_pos e] at hc; exact hc
            · next e => rw [if_neg e] at hc; exact hc
      · rw [if_neg h3] at hr
        rw [if_neg h3, zr_ati]
        exact hr
    · intro i r hi hr
      apply s266_68_178
      rw [if_neg (nI_ge (by omega) (by omega)), if_neg (by decide), zrO.2, zrem2 (by omega)]
      refine zloop (st := fun t (r : Nat → Int32) => zsw r (i % 2 + 2 * t)) (W := fun t r => zWp X (d + 1) zm266 80 [.ref 178, .int (nI n), .int (nI k), .int x3, .int (nI i), .int (nI (i % 2 + 2 * t)), .null] [] (zs (zrI f 205 r) g) (zQi K)) (E := fun r => zWp X (d + 1) zm266 68 [.ref 178, .int (nI n), .int (nI k), .int x3, .int (nI (i + 1)), .null, .null] [] (zs (zrI f 205 r) g) (zQi K)) ((n - i % 2) / 2) ?_ ?_ ((n - i % 2) / 2) 0 r (by omega) hr
      · intro r hr
        apply s266_80_178
        rw [nI_1, if_pos (nI_le (by omega) (by omega)), nI_1]
        exact hr
      · intro t r ht hr
        apply s266_80_178
        rw [nI_1, if_neg (nI_ge (by omega) (by omega))]
        simp only [nI_cl (show i % 2 + 2 * t ≤ 100000 by omega), nI_cl (show i % 2 + 2 * t + 1 ≤ 100000 by omega), if_neg (nI_in' (c := i % 2 + 2 * t) (N := 8) (by omega) (by omega)), if_neg (nI_in' (c := i % 2 + 2 * t + 1) (N := 8) (by omega) (by omega)), zr_ati, zr_up, nI_p2]
        exact hr
  · intro i r hi hr
    apply s266_44_178
    rw [if_neg (nI_ge (by omega) (by omega)), if_neg (nI_in (by omega) (by omega)), nI_cl (by omega), zr_up, nI_1]
    exact hr
end ZHU
theorem op_hunt {X : Nat × (Nat → Int32)} {d : Nat} {a b v : Int32} : zOp X (d + 4) 150 266 [.int a, .int b, .int v] := by
  intro fc fr gc gr hR
  obtain ⟨⟨c1, c2, c3, c4, c5, c6, c7, c8, c9, c10, c11⟩, c12, c13, c14, c15, c16⟩ := hR
  have hR0 : zRel fc gc (zuI fr 178 0 0) := by
    refine ⟨⟨?_, ?_, ?_, ?_, ?_, ?_, ?_, ?_, ?_, ?_, ?_⟩, ?_, ?_, ?_, ?_, ?_⟩
    all_goals try (first | assumption | (simp only [zi_ne, zi_at, zr_ne, zr_at, zj_ne, zj_at, ↓reduceIte, Nat.reduceEqDiff, not_false_eq_true, eq_self, nI_1]; assumption) | (simp only [zi_ne, zi_at, zr_ne, zr_at, zj_ne, zj_at, ↓reduceIte, Nat.reduceEqDiff, not_false_eq_true, eq_self, nI_1]; exact zRow_nil) | (exact zPas_frame (fun i _ _ => by first | rfl | (repeat (first | rw [zi_ne (by omega)] | rw [zr_ne (by omega)]))) (by first | rfl | (simp only [zi_ne, zi_at, zr_ne, zr_at, zj_ne, zj_at, ↓reduceIte, Nat.reduceEqDiff, not_false_eq_true, eq_self, nI_1])) (fun i _ _ => rfl) rfl (by first | rfl | (simp only [zi_ne, zi_at, zr_ne, zr_at, zj_ne, zj_at, ↓reduceIte, Nat.reduceEqDiff, not_false_eq_true, eq_self, nI_1])) (by first | rfl | (simp only [zi_ne, zi_at, zr_ne, zr_at, zj_ne, zj_at, ↓reduceIte, Nat.reduceEqDiff, not_false_eq_true, eq_self, nI_1])) (by first | rfl | (simp only [zi_ne, zi_at, zr_ne, zr_at, zj_ne, zj_at, ↓reduceIte, Nat.reduceEqDiff, not_false_eq_true, eq_self, nI_1])) (by first | rfl | (simp only [zi_ne, zi_at, zr_ne, zr_at, zj_ne, zj_at, ↓reduceIte, Nat.reduceEqDiff, not_false_eq_true, eq_self, nI_1])) c14) | (exact zIma_frame (by first | rfl | (simp only [zi_ne, zi_at, zr_ne, zr_at, zj_ne, zj_at, ↓reduceIte, Nat.reduceEqDiff, not_false_eq_true, eq_self, nI_1])) (fun i _ _ => by first | rfl | (repeat (first | rw [zi_ne (by omega)] | rw [zr_ne (by omega)]))) rfl (by first | rfl | (simp only [zi_ne, zi_at, zr_ne, zr_at, zj_ne, zj_at, ↓reduceIte, Nat.reduceEqDiff, not_false_eq_true, eq_self, nI_1])) (by first | rfl | (simp only [zi_ne, zi_at, zr_ne, zr_at, zj_ne, zj_at, ↓reduceIte, Nat.reduceEqDiff, not_false_eq_true, eq_self, nI_1])) c15))
  by_cases ha : 3 ≤ a.toInt ∧ a.toInt ≤ 8
  · by_cases hb : 0 ≤ b.toInt ∧ b.toInt ≤ 99
    · obtain ⟨n, hn, en⟩ := zixn (x := a) (n := 9) (by omega) (by omega) (by omega)
      obtain ⟨k, hk, ek⟩ := zixn (x := b) (n := 100) (by omega) (by omega) (by omega)
      subst en
      subst ek
      have hst := nI_st (k := n) (by omega)
      by_cases hv : -1 ≤ v.toInt ∧ v.toInt ≤ n - 1
      · have hag : ∀ j, j < n → zhu n k (zin0 8 (fc 173)) j = zhu n k (zin0 n (fr 205)) j := zhu_rel (fun j hj => by rw [zin0_at, zin0_at, if_pos (by omega), if_pos hj])
        have hRn : zRel (zrI fc 173 (zhu n k (zin0 8 (fc 173)))) gc (zrI (zuI fr 178 0 0) 205 (zhu n k (zin0 n (fr 205)))) := by
          refine ⟨⟨?_, ?_, ?_, ?_, ?_, ?_, ?_, ?_, ?_, ?_, ?_⟩, ?_, ?_, ?_, ?_, ?_⟩
          all_goals try (first | assumption | (simp only [zi_ne, zi_at, zr_ne, zr_at, zj_ne, zj_at, ↓reduceIte, Nat.reduceEqDiff, not_false_eq_true, eq_self, nI_1]; assumption) | (simp only [zi_ne, zi_at, zr_ne, zr_at, zj_ne, zj_at, ↓reduceIte, Nat.reduceEqDiff, not_false_eq_true, eq_self, nI_1]; exact zRow_nil) | (exact zPas_frame (fun i _ _ => by first | rfl | (repeat (first | rw [zi_ne (by omega)] | rw [zr_ne (by omega)]))) (by first | rfl | (simp only [zi_ne, zi_at, zr_ne, zr_at, zj_ne, zj_at, ↓reduceIte, Nat.reduceEqDiff, not_false_eq_true, eq_self, nI_1])) (fun i _ _ => rfl) rfl (by first | rfl | (simp only [zi_ne, zi_at, zr_ne, zr_at, zj_ne, zj_at, ↓reduceIte, Nat.reduceEqDiff, not_false_eq_true, eq_self, nI_1])) (by first | rfl | (simp only [zi_ne, zi_at, zr_ne, zr_at, zj_ne, zj_at, ↓reduceIte, Nat.reduceEqDiff, not_false_eq_true, eq_self, nI_1])) (by first | rfl | (simp only [zi_ne, zi_at, zr_ne, zr_at, zj_ne, zj_at, ↓reduceIte, Nat.reduceEqDiff, not_false_eq_true, eq_self, nI_1])) (by first | rfl | (simp only [zi_ne, zi_at, zr_ne, zr_at, zj_ne, zj_at, ↓reduceIte, Nat.reduceEqDiff, not_false_eq_true, eq_self, nI_1])) c14) | (exact zIma_frame (by first | rfl | (simp only [zi_ne, zi_at, zr_ne, zr_at, zj_ne, zj_at, ↓reduceIte, Nat.reduceEqDiff, not_false_eq_true, eq_self, nI_1])) (fun i _ _ => by first | rfl | (repeat (first | rw [zi_ne (by omega)] | rw [zr_ne (by omega)]))) rfl (by first | rfl | (simp only [zi_ne, zi_at, zr_ne, zr_at, zj_ne, zj_at, ↓reduceIte, Nat.reduceEqDiff, not_false_eq_true, eq_self, nI_1])) (by first | rfl | (simp only [zi_ne, zi_at, zr_ne, zr_at, zj_ne, zj_at, ↓reduceIte, Nat.reduceEqDiff, not_false_eq_true, eq_self, nI_1])) c15))
        by_cases hv1 : v = -1
        · subst hv1
          have hn1 : (-1 : Int) ≤ (n : Int) - 1 := by omega
          apply e150_0
          simp only [q124, ha, hb, hn1, hst, q106 (show n ≤ 8 by omega) (show k ≤ 99 by omega), q107 (show n ≤ 8 by omega), true_or, or_true, false_or, or_false, or_self, and_self, true_and, and_true, not_true_eq_false, not_false_eq_true, ↓reduceIte, eq_self, zq_01, zq_10, zq_m0, zq_m1, zq_0m, zq_1m, zq_2, zq_6, zq_8, zq_10z, zq_12, zq_1000, Int32.reduceLT, Int32.reduceLE, Int32.reduceToInt, Int32.reduceToNatClampNeg, Int32.reduceOfNat, Int.reduceLT, Int.reduceLE, Int.reduceEq, Nat.reduceLeDiff, Nat.reduceEqDiff, zl_2, zl_8, zl_12, zl_50, zl_132, zl_133, zl_134, zl_999, zl_10000, zb_0, zb_1, zsO.2, zmO.2, znO.2, zdO.2, zrO.2, zhO.2, zgO.2, zuO.2, zlH.2, zlU.2, zlS.2]
          apply e266_178
          simp only [q165, ha, hb, hn1, hst, true_or, or_true, false_or, or_false, or_self, and_self, true_and, and_true, not_true_eq_false, not_false_eq_true, ↓reduceIte, eq_self, zq_01, zq_10, zq_m0, zq_m1, zq_0m, zq_1m, zq_2, zq_6, zq_8, zq_10z, zq_12, zq_1000, Int32.reduceLT, Int32.reduceLE, Int32.reduceToInt, Int32.reduceToNatClampNeg, Int32.reduceOfNat, Int.reduceLT, Int.reduceLE, Int.reduceEq, Nat.reduceLeDiff, Nat.reduceEqDiff, zl_2, zl_8, zl_12, zl_50, zl_132, zl_133, zl_134, zl_999, zl_10000, zb_0, zb_1, zsO.2, zmO.2, znO.2, zdO.2, zrO.2, zhO.2, zgO.2, zuO.2, zlH.2, zlU.2, zlS.2]
          refine l266 (d := d + 2) (by omega) (by omega) ?_
          rw [if_pos rfl, zi_ne (by omega), zr_at, zou_rel hag]
          exact ⟨rfl, hRn⟩
        · obtain ⟨i, hi, ei⟩ := zixn (x := v) (n := n) (by have : ¬ v.toInt = -1 := fun z => hv1 (zeqI.mpr z); omega) (by omega) (by omega)
          subst ei
          apply e150_0
          simp only [q124, ha, hb, hv, hv1, hst, q106 (show n ≤ 8 by omega) (show k ≤ 99 by omega), q108 (show i < 8 by omega), true_or, or_true, false_or, or_false, or_self, and_self, true_and, and_true, not_true_eq_false, not_false_eq_true, ↓reduceIte, eq_self, zq_01, zq_10, zq_m0, zq_m1, zq_0m, zq_1m, zq_2, zq_6, zq_8, zq_10z, zq_12, zq_1000, Int32.reduceLT, Int32.reduceLE, Int32.reduceToInt, Int32.reduceToNatClampNeg, Int32.reduceOfNat, Int.reduceLT, Int.reduceLE, Int.reduceEq, Nat.reduceLeDiff, Nat.reduceEqDiff, zl_2, zl_8, zl_12, zl_50, zl_132, zl_133, zl_134, zl_999, zl_10000, zb_0, zb_1, zsO.2, zmO.2, znO.2, zdO.2, zrO.2, zhO.2, zgO.2, zuO.2, zlH.2, zlU.2, zlS.2]
          apply e266_178
          simp only [q165, ha, hb, hv, hv1, hst, true_or, or_true, false_or, or_false, or_self, and_self, true_and, and_true, not_true_eq_false, not_false_eq_true, ↓reduceIte, eq_self, zq_01, zq_10, zq_m0, zq_m1, zq_0m, zq_1m, zq_2, zq_6, zq_8, zq_10z, zq_12, zq_1000, Int32.reduceLT, Int32.reduceLE, Int32.reduceToInt, Int32.reduceToNatClampNeg, Int32.reduceOfNat, Int.reduceLT, Int.reduceLE, Int.reduceEq, Nat.reduceLeDiff, Nat.reduceEqDiff, zl_2, zl_8, zl_12, zl_50, zl_132, zl_133, zl_134, zl_999, zl_10000, zb_0, zb_1, zsO.2, zmO.2, znO.2, zdO.2, zrO.2, zhO.2, zgO.2, zuO.2, zlH.2, zlU.2, zlS.2]
          refine l266 (d := d + 2) (by omega) (by omega) ?_
          rw [if_neg hv1, if_neg (nI_in (by omega) (by omega)), nI_cl (by omega), zi_ne (by omega), zr_at]
          exact ⟨(hag i hi).symm, hRn⟩
      · apply e150_0
        simp only [q124, ha, hb, hv, hst, true_or, or_true, false_or, or_false, or_self, and_self, true_and, and_true, not_true_eq_false, not_false_eq_true, ↓reduceIte, eq_self, zq_01, zq_10, zq_m0, zq_m1, zq_0m, zq_1m, zq_2, zq_6, zq_8, zq_10z, zq_12, zq_1000, Int32.reduceLT, Int32.reduceLE, Int32.reduceToInt, Int32.reduceToNatClampNeg, Int32.reduceOfNat, Int.reduceLT, Int.reduceLE, Int.reduceEq, Nat.reduceLeDiff, Nat.reduceEqDiff, zl_2, zl_8, zl_12, zl_50, zl_132, zl_133, zl_134, zl_999, zl_10000, zb_0, zb_1, zsO.2, zmO.2, znO.2, zdO.2, zrO.2, zhO.2, zgO.2, zuO.2, zlH.2, zlU.2, zlS.2]
        apply e266_178
        simp only [q165, ha, hb, hv, hst, true_or, or_true, false_or, or_false, or_self, and_self, true_and, and_true, not_true_eq_false, not_false_eq_true, ↓reduceIte, eq_self, zq_01, zq_10, zq_m0, zq_m1, zq_0m, zq_1m, zq_2, zq_6, zq_8, zq_10z, zq_12, zq_1000, Int32.reduceLT, Int32.reduceLE, Int32.reduceToInt, Int32.reduceToNatClampNeg, Int32.reduceOfNat, Int.reduceLT, Int.reduceLE, Int.reduceEq, Nat.reduceLeDiff, Nat.reduceEqDiff, zl_2, zl_8, zl_12, zl_50, zl_132, zl_133, zl_134, zl_999, zl_10000, zb_0, zb_1, zsO.2, zmO.2, znO.2, zdO.2, zrO.2, zhO.2, zgO.2, zuO.2, zlH.2, zlU.2, zlS.2]
        exact ⟨rfl, hR0⟩
    · apply e150_0
      simp only [q124, ha, hb, true_or, or_true, false_or, or_false, or_self, and_self, true_and, and_true, not_true_eq_false, not_false_eq_true, ↓reduceIte, eq_self, zq_01, zq_10, zq_m0, zq_m1, zq_0m, zq_1m, zq_2, zq_6, zq_8, zq_10z, zq_12, zq_1000, Int32.reduceLT, Int32.reduceLE, Int32.reduceToInt, Int32.reduceToNatClampNeg, Int32.reduceOfNat, Int.reduceLT, Int.reduceLE, Int.reduceEq, Nat.reduceLeDiff, Nat.reduceEqDiff, zl_2, zl_8, zl_12, zl_50, zl_132, zl_133, zl_134, zl_999, zl_10000, zb_0, zb_1, zsO.2, zmO.2, znO.2, zdO.2, zrO.2, zhO.2, zgO.2, zuO.2, zlH.2, zlU.2, zlS.2]
      apply e266_178
      simp only [q165, ha, hb, true_or, or_true, false_or, or_false, or_self, and_self, true_and, and_true, not_true_eq_false, not_false_eq_true, ↓reduceIte, eq_self, zq_01, zq_10, zq_m0, zq_m1, zq_0m, zq_1m, zq_2, zq_6, zq_8, zq_10z, zq_12, zq_1000, Int32.reduceLT, Int32.reduceLE, Int32.reduceToInt, Int32.reduceToNatClampNeg, Int32.reduceOfNat, Int.reduceLT, Int.reduceLE, Int.reduceEq, Nat.reduceLeDiff, Nat.reduceEqDiff, zl_2, zl_8, zl_12, zl_50, zl_132, zl_133, zl_134, zl_999, zl_10000, zb_0, zb_1, zsO.2, zmO.2, znO.2, zdO.2, zrO.2, zhO.2, zgO.2, zuO.2, zlH.2, zlU.2, zlS.2]
      exact ⟨rfl, hR0⟩
  · apply e150_0
    simp only [q124, ha, true_or, or_true, false_or, or_false, or_self, and_self, true_and, and_true, not_true_eq_false, not_false_eq_true, ↓reduceIte, eq_self, zq_01, zq_10, zq_m0, zq_m1, zq_0m, zq_1m, zq_2, zq_6, zq_8, zq_10z, zq_12, zq_1000, Int32.reduceLT, Int32.reduceLE, Int32.reduceToInt, Int32.reduceToNatClampNeg, Int32.reduceOfNat, Int.reduceLT, Int.reduceLE, Int.reduceEq, Nat.reduceLeDiff, Nat.reduceEqDiff, zl_2, zl_8, zl_12, zl_50, zl_132, zl_133, zl_134, zl_999, zl_10000, zb_0, zb_1, zsO.2, zmO.2, znO.2, zdO.2, zrO.2, zhO.2, zgO.2, zuO.2, zlH.2, zlU.2, zlS.2]
    apply e266_178
    simp only [q165, ha, true_or, or_true, false_or, or_false, or_self, and_self, true_and, and_true, not_true_eq_false, not_false_eq_true, ↓reduceIte, eq_self, zq_01, zq_10, zq_m0, zq_m1, zq_0m, zq_1m, zq_2, zq_6, zq_8, zq_10z, zq_12, zq_1000, Int32.reduceLT, Int32.reduceLE, Int32.reduceToInt, Int32.reduceToNatClampNeg, Int32.reduceOfNat, Int.reduceLT, Int.reduceLE, Int.reduceEq, Nat.reduceLeDiff, Nat.reduceEqDiff, zl_2, zl_8, zl_12, zl_50, zl_132, zl_133, zl_134, zl_999, zl_10000, zb_0, zb_1, zsO.2, zmO.2, znO.2, zdO.2, zrO.2, zhO.2, zgO.2, zuO.2, zlH.2, zlU.2, zlS.2]
    exact ⟨rfl, hR0⟩

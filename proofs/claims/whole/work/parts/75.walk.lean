/-! round: how sound goes round pillars -/
def znb (s t : Nat) : Prop := (t + 8 = s) ∨ (t = s + 1 ∧ s % 8 < 7) ∨ (t = s + 8 ∧ t < 48) ∨ (t + 1 = s ∧ 0 < s % 8)
/-- reached in at most so many steps -/
def zRt (P a : Nat) : Nat → Nat → Prop
  | 0, k => k = a
  | t + 1, k => zRt P a t k ∨ (k < 48 ∧ P.testBit k = false ∧ ∃ j, j < 48 ∧ zRt P a t j ∧ znb j k)
def zcn (s : Nat → Nat) : Nat → Nat
  | 0 => 0
  | n + 1 => zcn s n + (if s n = 0 then 0 else 1)
def zupn (s : Nat → Nat) (t v : Nat) : Nat → Nat := fun k => if k = t then v else s k
theorem zcn_le {s : Nat → Nat} : ∀ n, zcn s n ≤ n
  | 0 => Nat.le_refl _
  | n + 1 => by
    have := zcn_le (s := s) n
    unfold zcn
    split <;> omega
theorem zcn_lt {s : Nat → Nat} {t : Nat} (h : s t = 0) : ∀ n, t < n → zcn s n < n
  | 0, ht => absurd ht (Nat.not_lt_zero _)
  | n + 1, ht => by
    have h1 := zcn_le (s := s) n
    unfold zcn
    by_cases e : t = n
    · rw [if_pos (by rw [← e]; exact h)]
      omega
    · have := zcn_lt h n (by omega)
      split <;> omega
theorem zcn_same {s s' : Nat → Nat} : ∀ n, (∀ k, k < n → s' k = s k) → zcn s' n = zcn s n
  | 0, _ => rfl
  | n + 1, h => by
    unfold zcn
    rw [h n (by omega), zcn_same n (fun k hk => h k (by omega))]
theorem zcn_up {s : Nat → Nat} {t v : Nat} (h : s t = 0) (hv : 0 < v) : ∀ n, t < n → zcn (zupn s t v) n = zcn s n + 1
  | 0, ht => absurd ht (Nat.not_lt_zero _)
  | n + 1, ht => by
    unfold zcn
    by_cases e : t = n
    · rw [zcn_same (s := s) n (fun k hk => by unfold zupn; rw [if_neg (by omega)])]
      rw [if_neg (by unfold zupn; rw [if_pos e.symm]; omega), if_pos (by rw [← e]; exact h)]
    · have e2 : zupn s t v n = s n := by unfold zupn; rw [if_neg (by omega)]
      rw [zcn_up h hv n (by omega), e2]
      omega
/-- the search: s is 0 where none has been, else one more than the steps; q the queue; dn have been looked at, w wait -/
def zBq (P a : Nat) (s q : Nat → Nat) (dn w : Nat) : Prop := w ≤ 48 ∧ dn ≤ w ∧ zcn s 48 = w ∧ (∀ i, i < w → q i < 48 ∧ 0 < s (q i) ∧ s (q i) ≤ i + 1 ∧ zRt P a (s (q i) - 1) (q i)) ∧ (∀ k, k < 48 → 0 < s k → ∃ i, i < w ∧ q i = k) ∧ (∀ i j, i ≤ j → j < w → s (q i) ≤ s (q j)) ∧ (dn < w → ∀ j, j < w → s (q j) ≤ s (q dn) + 1) ∧ (∀ i, i < dn → ∀ t, t < 48 → znb (q i) t → P.testBit t = false → 0 < s t ∧ s t ≤ s (q i) + 1) ∧ s a = 1
def zBx (s q : Nat → Nat) (w : Nat) (s' q' : Nat → Nat) (w' : Nat) : Prop := (∀ k, 0 < s k → s' k = s k) ∧ (∀ i, i < w → q' i = q i) ∧ w ≤ w'
theorem zBx_rf {s q : Nat → Nat} {w : Nat} : zBx s q w s q w := ⟨fun _ _ => rfl, fun _ _ => rfl, Nat.le_refl _⟩
theorem zBx_tr {s q s' q' s2 q2 : Nat → Nat} {w w' w2 : Nat} (h1 : zBx s q w s' q' w') (h2 : zBx s' q' w' s2 q2 w2) : zBx s q w s2 q2 w2 := ⟨fun k hk => by rw [h2.1 k (by rw [h1.1 k hk]; exact hk), h1.1 k hk], fun i hi => by rw [h2.2.1 i (by have := h1.2.2; omega), h1.2.1 i hi], by have := h1.2.2; have := h2.2.2; omega⟩
theorem zBq_new {P a : Nat} {s q : Nat → Nat} {dn w t : Nat} (h : zBq P a s q dn w) (hd : dn < w) (ht : t < 48) (hn : znb (q dn) t) (hp : P.testBit t = false) (hs : s t = 0) : w < 48 ∧ zBq P a (zupn s t (s (q dn) + 1)) (zupn q w t) dn (w + 1) ∧ zBx s q w (zupn s t (s (q dn) + 1)) (zupn q w t) (w + 1) ∧ zupn s t (s (q dn) + 1) t = s (q dn) + 1 := by
  obtain ⟨h1, h2, h3, h4, h5, h6, h7, h8, h9⟩ := h
  have hw : w < 48 := by rw [← h3]; exact zcn_lt hs 48 ht
  have hu : ∀ k, 0 < s k → zupn s t (s (q dn) + 1) k = s k := fun k hk => by
    unfold zupn
    rw [if_neg (by rintro rfl; omega)]
  have hq : ∀ i, i < w → zupn q w t i = q i := fun i hi => by
    unfold zupn
    rw [if_neg (by omega)]
  have hqw : zupn q w t w = t := by unfold zupn; rw [if_pos rfl]
  have hst : zupn s t (s (q dn) + 1) t = s (q dn) + 1 := by unfold zupn; rw [if_pos rfl]
  have hv : ∀ i, i < w → zupn s t (s (q dn) + 1) (zupn q w t i) = s (q i) := fun i hi => by rw [hq i hi, hu _ (h4 i hi).2.1]
  have hvw : zupn s t (s (q dn) + 1) (zupn q w t w) = s (q dn) + 1 := by rw [hqw, hst]
  refine ⟨hw, ⟨by omega, by omega, by rw [zcn_up hs (by omega) 48 ht, h3], fun i hi => ?_, fun k hk hk2 => ?_, fun i j hij hj => ?_, fun _ j hj => ?_, fun i hi u hu2 hnb hpu => ?_, by rw [hu a (by omega)]; exact h9⟩, ⟨hu, hq, by omega⟩, hst⟩
  · by_cases e : i = w
    · subst e
      rw [hvw, hqw]
      obtain ⟨y1, y2, y3, y4⟩ := h4 dn hd
      refine ⟨ht, by omega, by omega, ?_⟩
      have e2 : s (q dn) + 1 - 1 = (s (q dn) - 1) + 1 := by omega
      rw [e2]
      exact Or.inr ⟨ht, hp, q dn, y1, y4, hn⟩
    · rw [hv i (by omega), hq i (by omega)]
      exact h4 i (by omega)
  · by_cases e : k = t
    · exact ⟨w, by omega, by rw [hqw, e]⟩
    · have e2 : zupn s t (s (q dn) + 1) k = s k := by unfold zupn; rw [if_neg e]
      rw [e2] at hk2
      obtain ⟨i, hi, ei⟩ := h5 k hk hk2
      exact ⟨i, by omega, by rw [hq i hi]; exact ei⟩
  · by_cases ej : j = w
    · subst ej
      rw [hvw]
      by_cases ei : i = j
      · subst ei
        rw [hvw]
        exact Nat.le_refl _
      · rw [hv i (by omega)]
        exact h7 hd i (by omega)
    · rw [hv i (by omega), hv j (by omega)]
      exact h6 i j hij (by omega)
  · rw [hv dn hd]
    by_cases ej : j = w
    · subst ej
      rw [hvw]
      exact Nat.le_refl _
    · rw [hv j (by omega)]
      exact h7 hd j (by omega)
  · rw [hv i (by omega)]
    rw [hq i (by omega)] at hnb
    obtain ⟨y1, y2⟩ := h8 i hi u hu2 hnb hpu
    rw [hu u y1]
    exact ⟨y1, y2⟩
/-- one is looked at -/
theorem zBq_next {P a : Nat} {s q : Nat → Nat} {dn w : Nat} (h : zBq P a s q dn w) (hd : dn < w) (hn : ∀ t, t < 48 → znb (q dn) t → P.testBit t = false → 0 < s t ∧ s t ≤ s (q dn) + 1) : zBq P a s q (dn + 1) w := by
  obtain ⟨h1, h2, h3, h4, h5, h6, h7, h8, h9⟩ := h
  refine ⟨h1, by omega, h3, h4, h5, h6, fun hd2 j hj => ?_, fun i hi t ht hnb hp => ?_, h9⟩
  · have y1 := h7 hd j hj
    have y2 := h6 dn (dn + 1) (by omega) hd2
    omega
  · by_cases e : i = dn
    · subst e
      exact hn t ht hnb hp
    · exact h8 i (by omega) t ht hnb hp
/-- the search is over: the least number of steps is known -/
theorem zBq_end {P a : Nat} {s q : Nat → Nat} {w : Nat} (h : zBq P a s q w w) : (∀ k, k < 48 → 0 < s k → s k ≤ 48 ∧ zRt P a (s k - 1) k) ∧ ∀ t k, zRt P a t k → k < 48 → 0 < s k ∧ s k ≤ t + 1 := by
  obtain ⟨h1, h2, h3, h4, h5, h6, h7, h8, h9⟩ := h
  refine ⟨fun k hk hs => ?_, fun t => ?_⟩
  · obtain ⟨i, hi, rfl⟩ := h5 k hk hs
    obtain ⟨y1, y2, y3, y4⟩ := h4 i hi
    exact ⟨by omega, y4⟩
  · induction t with
    | zero =>
      intro k hk _
      have ek : k = a := hk
      rw [ek, h9]
      omega
    | succ t ih =>
      intro k hk hk2
      rcases hk with hk | ⟨y1, y2, j, hj, y3, y4⟩
      · have := ih k hk hk2
        omega
      · obtain ⟨z1, z2⟩ := ih j y3 hj
        obtain ⟨i, hi, rfl⟩ := h5 j hj z1
        obtain ⟨x1, x2⟩ := h8 i hi k y1 y4 y2
        omega
def zBm (F : Nat → Nat → Int32) (s q : Nat → Nat) (w : Nat) : Prop := (∀ k, k < 48 → F 170 k = nI (s k) - 1) ∧ ∀ i, i < w → F 171 i = nI (q i)
section ZWA
variable {X : Nat × (Nat → Int32)} {d : Nat} {g : Nat → Nat → Int64} {P a : Nat}
theorem zmm {k : Nat} (hk : k ≤ 100000) : (nI k - 1 = -1) = (k = 0) := by
  by_cases e : k = 0
  · rw [e]
    exact eq_true (by decide) |>.trans (eq_true rfl).symm
  · refine (eq_false ?_).trans (eq_false e).symm
    rw [(nI_m1 (by omega)).2]
    exact nI_nem (by omega)
theorem l89 {K : Int32 → (Nat → Nat → Int32) → (Nat → Nat → Int64) → Prop} {F : Nat → Nat → Int32} {s q : Nat → Nat} {dn w t : Nat} (hP : P < 2 ^ 48) (hM : zBm F s q w) (hB : zBq P a s q dn w) (hd : dn < w) (ht : t < 48) (hn : znb (q dn) t) (hK : ∀ (F' : Nat → Nat → Int32) (s' q' : Nat → Nat) (w' : Nat), zBm F' s' q' w' → zBq P a s' q' dn w' → zBx s q w s' q' w' → (P.testBit t = false → 0 < s' t ∧ s' t ≤ s' (q' dn) + 1) → (∀ i, ¬ i = 170 → ¬ i = 171 → F' i = F i) → K (nI w') F' g) : zCpi X (d + 1) 89 [.ref 169, .long (lN P), .int (nI (q dn)), .int (nI t), .int (nI w)] (zs F g) K := by
  obtain ⟨m1, m2⟩ := id hM
  have hq := (hB.2.2.2.1 dn hd)
  have hsle : ∀ k, k < 48 → s k ≤ 100000 := fun k hk => by
    rcases Nat.eq_zero_or_pos (s k) with z | z
    · omega
    · obtain ⟨i, hi, rfl⟩ := hB.2.2.2.2.1 k hk z
      have := (hB.2.2.2.1 i hi).2.2.1
      have := hB.1
      omega
  apply e89_169
  have e2 := Nat.testBit_eq_decide_div_mod_eq (x := P) (i := t)
  rw [if_neg (nI_nem (by omega)), zlU.2, wb_bit (by omega) (by omega)]
  by_cases hb : P / 2 ^ t % 2 = 1
  · rw [if_pos ((lg1 (by omega)).mpr hb)]
    refine hK F s q w hM hB zBx_rf (fun z => ?_) (fun _ _ _ => rfl)
    rw [e2, decide_eq_true hb] at z
    exact absurd z (by decide)
  · have hp : P.testBit t = false := by rw [e2, decide_eq_false hb]
    rw [if_neg (fun z => hb ((lg1 (by omega)).mp z)), if_neg (nI_in (by omega) (by omega)), nI_cl (k := t) (by omega), m1 t ht]
    by_cases e : s t = 0
    · rw [if_pos (by rw [zmm (hsle t ht)]; exact e)]
      obtain ⟨y1, y2, y3, y4⟩ := zBq_new hB hd ht hn hp e
      rw [if_pos (show nI w < (48 : Int32) from nI_lt (b := 48) y1 (by omega)), if_neg (nI_in (by omega) (by omega)), if_neg (nI_in' (by omega) (by omega)), if_neg (nI_in (by omega) (by omega)), nI_cl (k := q dn) (by omega), nI_cl (k := w) (by omega), nI_1, m1 _ hq.1]
      refine hK _ _ _ _ ⟨fun k hk => ?_, fun i hi => ?_⟩ y2 y3 (fun _ => ?_) (fun i i1 i2 => by rw [zi_ne i2, zi_ne i1])
      · rw [zi_ne (by omega), zi_at]
        unfold zupn
        by_cases ek : k = t
        · rw [if_pos ek, if_pos ek, (nI_m1 hq.2.1).2, nI_1, nI_pred]
          congr 1
          have := hq.2.1
          omega
        · rw [if_neg ek, if_neg ek]
          exact m1 k hk
      · rw [zi_at]
        unfold zupn
        by_cases ei : i = w
        · rw [if_pos ei, if_pos ei]
        · rw [if_neg ei, if_neg ei, zi_ne (by omega)]
          exact m2 i (by omega)
      · rw [y4, y3.2.1 dn hd, y3.1 _ hq.2.1]
        omega
    · rw [if_neg (by rw [zmm (hsle t ht)]; exact e)]
      refine hK F s q w hM hB zBx_rf (fun _ => ⟨by omega, ?_⟩) (fun _ _ _ => rfl)
      obtain ⟨i, hi, ei⟩ := hB.2.2.2.2.1 t ht (by omega)
      rw [← ei]
      exact hB.2.2.2.2.2.2.1 hd i hi
theorem l89n {K : Int32 → (Nat → Nat → Int32) → (Nat → Nat → Int64) → Prop} {F : Nat → Nat → Int32} {x y : Int32} {z : Int64} (hK : K y F g) : zCpi X (d + 1) 89 [.ref 169, .long z, .int x, .int (-1), .int y] (zs F g) K := by
  apply e89_169
  rw [if_pos rfl]
  exact hK
theorem l88_55 {f : Nat → Nat → Int32} {K : (Nat → Nat → Int32) → (Nat → Nat → Int64) → Prop} (hP : P < 2 ^ 48) (hK : ∀ (F : Nat → Nat → Int32) (s q : Nat → Nat) (w : Nat), zBm F s q w → zBq P a s q w w → (∀ i, ¬ i = 170 → ¬ i = 171 → F i = f i) → K F g) : ∀ m dn, dn + m = 48 → ∀ (F : Nat → Nat → Int32) (s q : Nat → Nat) (w : Nat), zBm F s q w → zBq P a s q dn w → (∀ i, ¬ i = 170 → ¬ i = 171 → F i = f i) → zWp X (d + 2) zm88 55 [.ref 169, .long (lN P), .null, .int (nI a), .int (nI w), .int (nI dn), .null, .null, .null] [] (zs F g) (zQv K) := by
  intro m
  induction m with
  | zero =>
    intro dn hdn F s q w hM hB hF
    have e1 := hB.1
    have e2 := hB.2.1
    have ew : dn = w := by omega
    subst ew
    apply s88_55_169
    rw [if_pos (nI_le (by omega) (by omega))]
    exact hK F s q dn hM hB hF
  | succ m ih =>
    intro dn hdn F s q w hM hB hF
    have e1 := hB.1
    have e2 := hB.2.1
    by_cases ew : dn = w
    · subst ew
      apply s88_55_169
      rw [if_pos (nI_le (by omega) (by omega))]
      exact hK F s q dn hM hB hF
    have hd : dn < w := by omega
    have hq := (hB.2.2.2.1 dn hd).1
    have hdv : nI (q dn) / 8 = nI (q dn / 8) := nI_d8 hq
    have hrm : nI (q dn) - nI (q dn / 8) * 8 = nI (q dn % 8) := nI_r8' hq
    -- behind the four
    have h5 : ∀ (F' : Nat → Nat → Int32) (s' q' : Nat → Nat) (w' : Nat), zBm F' s' q' w' → zBq P a s' q' dn w' → zBx s q w s' q' w' → (∀ t, t < 48 → znb (q dn) t → P.testBit t = false → 0 < s' t ∧ s' t ≤ s' (q' dn) + 1) → (∀ i, ¬ i = 170 → ¬ i = 171 → F' i = f i) → zWp X (d + 2) zm88 55 [.ref 169, .long (lN P), .null, .int (nI a), .int (nI w'), .int (nI dn + 1), .null, .null, .null] [] (zs F' g) (zQv K) := fun F' s' q' w' hM' hB' hx hn hF' => by
      rw [nI_1]
      exact ih (dn + 1) (by omega) F' s' q' w' hM' (zBq_next hB' (by have := hx.2.2; omega) (by rw [hx.2.1 dn hd]; rw [hx.2.1 dn hd] at hn; exact hn)) hF'

    have h4 : ∀ (F' : Nat → Nat → Int32) (s' q' : Nat → Nat) (w' : Nat), zBm F' s' q' w' → zBq P a s' q' dn w' → zBx s q w s' q' w' → (∀ t, t < 48 → (t + 8 = q dn ∨ (t = q dn + 1 ∧ q dn % 8 < 7) ∨ (t = q dn + 8 ∧ t < 48)) → P.testBit t = false → 0 < s' t ∧ s' t ≤ s' (q' dn) + 1) → (∀ i, ¬ i = 170 → ¬ i = 171 → F' i = f i) → (if (zrO.1 (nI (q dn)) 8) ≤ 0 then (zCpi X (d + 2) 89 [.ref 169, .long (lN P), .int (nI (q dn)), .int (-1), .int (nI w')] (zs F' g) (fun v4 f4 g4 => zWp X (d + 2) zm88 55 [.ref 169, .long (lN P), .null, .int (nI a), .int v4, .int (nI dn + 1), .null, .null, .null] [] (zs f4 g4) (zQv K))) else (zCpi X (d + 2) 89 [.ref 169, .long (lN P), .int (nI (q dn)), .int (zsO.1 (nI (q dn)) 1), .int (nI w')] (zs F' g) (fun v4 f4 g4 => zWp X (d + 2) zm88 55 [.ref 169, .long (lN P), .null, .int (nI a), .int v4, .int (nI dn + 1), .null, .null, .null] [] (zs f4 g4) (zQv K)))) := fun F' s' q' w' hM' hB' hx hn hF' => by
      have hqd : q' dn = q dn := hx.2.1 dn hd
      have hd' : dn < w' := by have := hx.2.2; omega
      by_cases hc : 0 < q dn % 8
      · rw [if_neg (show ¬ (zrO.1 (nI (q dn)) 8 : Int32) ≤ 0 by rw [zrO.2, hdv, hrm]; exact nI_nle (by omega) (by omega))]
        have z := l89 (X := X) (d := d + 1) (g := g) (K := fun v4 f4 g4 => zWp X (d + 2) zm88 55 [.ref 169, .long (lN P), .null, .int (nI a), .int v4, .int (nI dn + 1), .null, .null, .null] [] (zs f4 g4) (zQv K)) (t := q dn - 1) hP hM' hB' hd' (by omega) (by rw [hqd]; unfold znb; omega) (fun F2 s2 q2 w2 m2 b2 x2 n2 r2 => h5 F2 s2 q2 w2 m2 b2 (zBx_tr hx x2) (fun t ht hnb hp => ?_) (fun i i1 i2 => by rw [r2 i i1 i2, hF' i i1 i2]))
        · rw [hqd] at z
          rw [zsO.2, (nI_m1 (show 0 < q dn by omega)).2]
          exact z
        · unfold znb at hnb
          by_cases et : t = q dn - 1
          · rw [et] at hp ⊢
            exact n2 hp
          · obtain ⟨y1, y2⟩ := hn t ht (by omega) hp
            rw [x2.1 t y1, x2.2.1 dn hd', hqd, x2.1 _ (by have := (hB'.2.2.2.1 dn hd').2.1; rw [hqd] at this; exact this)]
            rw [hqd] at y2
            exact ⟨y1, y2⟩
      · rw [if_pos (show (zrO.1 (nI (q dn)) 8 : Int32) ≤ 0 by rw [zrO.2, hdv, hrm]; rw [show q dn % 8 = 0 by omega]; decide)]
        exact l89n (d := d + 1) (h5 F' s' q' w' hM' hB' hx (fun t ht hnb hp => hn t ht (by unfold znb at hnb; omega) hp) hF')
    have h3 : ∀ (F' : Nat → Nat → Int32) (s' q' : Nat → Nat) (w' : Nat), zBm F' s' q' w' → zBq P a s' q' dn w' → zBx s q w s' q' w' → (∀ t, t < 48 → (t + 8 = q dn ∨ (t = q dn + 1 ∧ q dn % 8 < 7)) → P.testBit t = false → 0 < s' t ∧ s' t ≤ s' (q' dn) + 1) → (∀ i, ¬ i = 170 → ¬ i = 171 → F' i = f i) → (if 5 ≤ (zdO.1 (nI (q dn)) 8) then (zCpi X (d + 2) 89 [.ref 169, .long (lN P), .int (nI (q dn)), .int (-1), .int (nI w')] (zs F' g) (fun v3 f3 g3 => if (zrO.1 (nI (q dn)) 8) ≤ 0 then (zCpi X (d + 2) 89 [.ref 169, .long (lN P), .int (nI (q dn)), .int (-1), .int v3] (zs f3 g3) (fun v4 f4 g4 => zWp X (d + 2) zm88 55 [.ref 169, .long (lN P), .null, .int (nI a), .int v4, .int (nI dn + 1), .null, .null, .null] [] (zs f4 g4) (zQv K))) else (zCpi X (d + 2) 89 [.ref 169, .long (lN P), .int (nI (q dn)), .int (zsO.1 (nI (q dn)) 1), .int v3] (zs f3 g3) (fun v4 f4 g4 => zWp X (d + 2) zm88 55 [.ref 169, .long (lN P), .null, .int (nI a), .int v4, .int (nI dn + 1), .null, .null, .null] [] (zs f4 g4) (zQv K))))) else (zCpi X (d + 2) 89 [.ref 169, .long (lN P), .int (nI (q dn)), .int ((nI (q dn)) + 8), .int (nI w')] (zs F' g) (fun v3 f3 g3 => if (zrO.1 (nI (q dn)) 8) ≤ 0 then (zCpi X (d + 2) 89 [.ref 169, .long (lN P), .int (nI (q dn)), .int (-1), .int v3] (zs f3 g3) (fun v4 f4 g4 => zWp X (d + 2) zm88 55 [.ref 169, .long (lN P), .null, .int (nI a), .int v4, .int (nI dn + 1), .null, .null, .null] [] (zs f4 g4) (zQv K))) else (zCpi X (d + 2) 89 [.ref 169, .long (lN P), .int (nI (q dn)), .int (zsO.1 (nI (q dn)) 1), .int v3] (zs f3 g3) (fun v4 f4 g4 => zWp X (d + 2) zm88 55 [.ref 169, .long (lN P), .null, .int (nI a), .int v4, .int (nI dn + 1), .null, .null, .null] [] (zs f4 g4) (zQv K)))))) := fun F' s' q' w' hM' hB' hx hn hF' => by
      have hqd : q' dn = q dn := hx.2.1 dn hd
      have hd' : dn < w' := by have := hx.2.2; omega
      by_cases hc : q dn + 8 < 48
      · rw [if_neg (show ¬ (5 : Int32) ≤ zdO.1 (nI (q dn)) 8 by rw [zdO.2, hdv]; exact nI_ge (b := 5) (by omega) (by omega))]
        have z := l89 (X := X) (d := d + 1) (g := g) (K := fun v3 f3 g3 => if (zrO.1 (nI (q dn)) 8) ≤ 0 then (zCpi X (d + 2) 89 [.ref 169, .long (lN P), .int (nI (q dn)), .int (-1), .int v3] (zs f3 g3) (fun v4 f4 g4 => zWp X (d + 2) zm88 55 [.ref 169, .long (lN P), .null, .int (nI a), .int v4, .int (nI dn + 1), .null, .null, .null] [] (zs f4 g4) (zQv K))) else (zCpi X (d + 2) 89 [.ref 169, .long (lN P), .int (nI (q dn)), .int (zsO.1 (nI (q dn)) 1), .int v3] (zs f3 g3) (fun v4 f4 g4 => zWp X (d + 2) zm88 55 [.ref 169, .long (lN P), .null, .int (nI a), .int v4, .int (nI dn + 1), .null, .null, .null] [] (zs f4 g4) (zQv K)))) (t := q dn + 8) hP hM' hB' hd' (by omega) (by rw [hqd]; unfold znb; omega) (fun F2 s2 q2 w2 m2 b2 x2 n2 r2 => h4 F2 s2 q2 w2 m2 b2 (zBx_tr hx x2) (fun t ht hnb hp => ?_) (fun i i1 i2 => by rw [r2 i i1 i2, hF' i i1 i2]))
        · rw [hqd] at z
          rw [show nI (q dn) + (8 : Int32) = nI (q dn + 8) from nI_add _ 8]
          exact z
        · skip
          by_cases et : t = q dn + 8
          · rw [et] at hp ⊢
            exact n2 hp
          · obtain ⟨y1, y2⟩ := hn t ht (by omega) hp
            rw [x2.1 t y1, x2.2.1 dn hd', hqd, x2.1 _ (by have := (hB'.2.2.2.1 dn hd').2.1; rw [hqd] at this; exact this)]
            rw [hqd] at y2
            exact ⟨y1, y2⟩
      · rw [if_pos (show (5 : Int32) ≤ zdO.1 (nI (q dn)) 8 by rw [zdO.2, hdv]; exact nI_le (a := 5) (by omega) (by omega))]
        exact l89n (d := d + 1) (h4 F' s' q' w' hM' hB' hx (fun t ht hnb hp => hn t ht (by omega) hp) hF')
    have h2 : ∀ (F' : Nat → Nat → Int32) (s' q' : Nat → Nat) (w' : Nat), zBm F' s' q' w' → zBq P a s' q' dn w' → zBx s q w s' q' w' → (∀ t, t < 48 → (t + 8 = q dn) → P.testBit t = false → 0 < s' t ∧ s' t ≤ s' (q' dn) + 1) → (∀ i, ¬ i = 170 → ¬ i = 171 → F' i = f i) → (if 7 ≤ (zrO.1 (nI (q dn)) 8) then (zCpi X (d + 2) 89 [.ref 169, .long (lN P), .int (nI (q dn)), .int (-1), .int (nI w')] (zs F' g) (fun v2 f2 g2 => if 5 ≤ (zdO.1 (nI (q dn)) 8) then (zCpi X (d + 2) 89 [.ref 169, .long (lN P), .int (nI (q dn)), .int (-1), .int v2] (zs f2 g2) (fun v3 f3 g3 => if (zrO.1 (nI (q dn)) 8) ≤ 0 then (zCpi X (d + 2) 89 [.ref 169, .long (lN P), .int (nI (q dn)), .int (-1), .int v3] (zs f3 g3) (fun v4 f4 g4 => zWp X (d + 2) zm88 55 [.ref 169, .long (lN P), .null, .int (nI a), .int v4, .int (nI dn + 1), .null, .null, .null] [] (zs f4 g4) (zQv K))) else (zCpi X (d + 2) 89 [.ref 169, .long (lN P), .int (nI (q dn)), .int (zsO.1 (nI (q dn)) 1), .int v3] (zs f3 g3) (fun v4 f4 g4 => zWp X (d + 2) zm88 55 [.ref 169, .long (lN P), .null, .int (nI a), .int v4, .int (nI dn + 1), .null, .null, .null] [] (zs f4 g4) (zQv K))))) else (zCpi X (d + 2) 89 [.ref 169, .long (lN P), .int (nI (q dn)), .int ((nI (q dn)) + 8), .int v2] (zs f2 g2) (fun v3 f3 g3 => if (zrO.1 (nI (q dn)) 8) ≤ 0 then (zCpi X (d + 2) 89 [.ref 169, .long (lN P), .int (nI (q dn)), .int (-1), .int v3] (zs f3 g3) (fun v4 f4 g4 => zWp X (d + 2) zm88 55 [.ref 169, .long (lN P), .null, .int (nI a), .int v4, .int (nI dn + 1), .null, .null, .null] [] (zs f4 g4) (zQv K))) else (zCpi X (d + 2) 89 [.ref 169, .long (lN P), .int (nI (q dn)), .int (zsO.1 (nI (q dn)) 1), .int v3] (zs f3 g3) (fun v4 f4 g4 => zWp X (d + 2) zm88 55 [.ref 169, .long (lN P), .null, .int (nI a), .int v4, .int (nI dn + 1), .null, .null, .null] [] (zs f4 g4) (zQv K))))))) else (zCpi X (d + 2) 89 [.ref 169, .long (lN P), .int (nI (q dn)), .int ((nI (q dn)) + 1), .int (nI w')] (zs F' g) (fun v2 f2 g2 => if 5 ≤ (zdO.1 (nI (q dn)) 8) then (zCpi X (d + 2) 89 [.ref 169, .long (lN P), .int (nI (q dn)), .int (-1), .int v2] (zs f2 g2) (fun v3 f3 g3 => if (zrO.1 (nI (q dn)) 8) ≤ 0 then (zCpi X (d + 2) 89 [.ref 169, .long (lN P), .int (nI (q dn)), .int (-1), .int v3] (zs f3 g3) (fun v4 f4 g4 => zWp X (d + 2) zm88 55 [.ref 169, .long (lN P), .null, .int (nI a), .int v4, .int (nI dn + 1), .null, .null, .null] [] (zs f4 g4) (zQv K))) else (zCpi X (d + 2) 89 [.ref 169, .long (lN P), .int (nI (q dn)), .int (zsO.1 (nI (q dn)) 1), .int v3] (zs f3 g3) (fun v4 f4 g4 => zWp X (d + 2) zm88 55 [.ref 169, .long (lN P), .null, .int (nI a), .int v4, .int (nI dn + 1), .null, .null, .null] [] (zs f4 g4) (zQv K))))) else (zCpi X (d + 2) 89 [.ref 169, .long (lN P), .int (nI (q dn)), .int ((nI (q dn)) + 8), .int v2] (zs f2 g2) (fun v3 f3 g3 => if (zrO.1 (nI (q dn)) 8) ≤ 0 then (zCpi X (d + 2) 89 [.ref 169, .long (lN P), .int (nI (q dn)), .int (-1), .int v3] (zs f3 g3) (fun v4 f4 g4 => zWp X (d + 2) zm88 55 [.ref 169, .long (lN P), .null, .int (nI a), .int v4, .int (nI dn + 1), .null, .null, .null] [] (zs f4 g4) (zQv K))) else (zCpi X (d + 2) 89 [.ref 169, .long (lN P), .int (nI (q dn)), .int (zsO.1 (nI (q dn)) 1), .int v3] (zs f3 g3) (fun v4 f4 g4 => zWp X (d + 2) zm88 55 [.ref 169, .long (lN P), .null, .int (nI a), .int v4, .int (nI dn + 1), .null, .null, .null] [] (zs f4 g4) (zQv K)))))))) := fun F' s' q' w' hM' hB' hx hn hF' => by
      have hqd : q' dn = q dn := hx.2.1 dn hd
      have hd' : dn < w' := by have := hx.2.2; omega
      by_cases hc : q dn % 8 < 7
      · rw [if_neg (show ¬ (7 : Int32) ≤ zrO.1 (nI (q dn)) 8 by rw [zrO.2, hdv, hrm]; exact nI_ge (b := 7) (by omega) (by omega))]
        have z := l89 (X := X) (d := d + 1) (g := g) (K := fun v2 f2 g2 => if 5 ≤ (zdO.1 (nI (q dn)) 8) then (zCpi X (d + 2) 89 [.ref 169, .long (lN P), .int (nI (q dn)), .int (-1), .int v2] (zs f2 g2) (fun v3 f3 g3 => if (zrO.1 (nI (q dn)) 8) ≤ 0 then (zCpi X (d + 2) 89 [.ref 169, .long (lN P), .int (nI (q dn)), .int (-1), .int v3] (zs f3 g3) (fun v4 f4 g4 => zWp X (d + 2) zm88 55 [.ref 169, .long (lN P), .null, .int (nI a), .int v4, .int (nI dn + 1), .null, .null, .null] [] (zs f4 g4) (zQv K))) else (zCpi X (d + 2) 89 [.ref 169, .long (lN P), .int (nI (q dn)), .int (zsO.1 (nI (q dn)) 1), .int v3] (zs f3 g3) (fun v4 f4 g4 => zWp X (d + 2) zm88 55 [.ref 169, .long (lN P), .null, .int (nI a), .int v4, .int (nI dn + 1), .null, .null, .null] [] (zs f4 g4) (zQv K))))) else (zCpi X (d + 2) 89 [.ref 169, .long (lN P), .int (nI (q dn)), .int ((nI (q dn)) + 8), .int v2] (zs f2 g2) (fun v3 f3 g3 => if (zrO.1 (nI (q dn)) 8) ≤ 0 then (zCpi X (d + 2) 89 [.ref 169, .long (lN P), .int (nI (q dn)), .int (-1), .int v3] (zs f3 g3) (fun v4 f4 g4 => zWp X (d + 2) zm88 55 [.ref 169, .long (lN P), .null, .int (nI a), .int v4, .int (nI dn + 1), .null, .null, .null] [] (zs f4 g4) (zQv K))) else (zCpi X (d + 2) 89 [.ref 169, .long (lN P), .int (nI (q dn)), .int (zsO.1 (nI (q dn)) 1), .int v3] (zs f3 g3) (fun v4 f4 g4 => zWp X (d + 2) zm88 55 [.ref 169, .long (lN P), .null, .int (nI a), .int v4, .int (nI dn + 1), .null, .null, .null] [] (zs f4 g4) (zQv K)))))) (t := q dn + 1) hP hM' hB' hd' (by omega) (by rw [hqd]; unfold znb; omega) (fun F2 s2 q2 w2 m2 b2 x2 n2 r2 => h3 F2 s2 q2 w2 m2 b2 (zBx_tr hx x2) (fun t ht hnb hp => ?_) (fun i i1 i2 => by rw [r2 i i1 i2, hF' i i1 i2]))
        · rw [hqd] at z
          rw [nI_1]
          exact z
        · skip
          by_cases et : t = q dn + 1
          · rw [et] at hp ⊢
            exact n2 hp
          · obtain ⟨y1, y2⟩ := hn t ht (by omega) hp
            rw [x2.1 t y1, x2.2.1 dn hd', hqd, x2.1 _ (by have := (hB'.2.2.2.1 dn hd').2.1; rw [hqd] at this; exact this)]
            rw [hqd] at y2
            exact ⟨y1, y2⟩
      · rw [if_pos (show (7 : Int32) ≤ zrO.1 (nI (q dn)) 8 by rw [zrO.2, hdv, hrm]; exact nI_le (a := 7) (by omega) (by omega))]
        exact l89n (d := d + 1) (h3 F' s' q' w' hM' hB' hx (fun t ht hnb hp => hn t ht (by omega) hp) hF')
    have h1 : ∀ (F' : Nat → Nat → Int32) (s' q' : Nat → Nat) (w' : Nat), zBm F' s' q' w' → zBq P a s' q' dn w' → zBx s q w s' q' w' → (∀ i, ¬ i = 170 → ¬ i = 171 → F' i = f i) → (if (zdO.1 (nI (q dn)) 8) ≤ 0 then (zCpi X (d + 2) 89 [.ref 169, .long (lN P), .int (nI (q dn)), .int (-1), .int (nI w')] (zs F' g) (fun v1 f1 g1 => if 7 ≤ (zrO.1 (nI (q dn)) 8) then (zCpi X (d + 2) 89 [.ref 169, .long (lN P), .int (nI (q dn)), .int (-1), .int v1] (zs f1 g1) (fun v2 f2 g2 => if 5 ≤ (zdO.1 (nI (q dn)) 8) then (zCpi X (d + 2) 89 [.ref 169, .long (lN P), .int (nI (q dn)), .int (-1), .int v2] (zs f2 g2) (fun v3 f3 g3 => if (zrO.1 (nI (q dn)) 8) ≤ 0 then (zCpi X (d + 2) 89 [.ref 169, .long (lN P), .int (nI (q dn)), .int (-1), .int v3] (zs f3 g3) (fun v4 f4 g4 => zWp X (d + 2) zm88 55 [.ref 169, .long (lN P), .null, .int (nI a), .int v4, .int (nI dn + 1), .null, .null, .null] [] (zs f4 g4) (zQv K))) else (zCpi X (d + 2) 89 [.ref 169, .long (lN P), .int (nI (q dn)), .int (zsO.1 (nI (q dn)) 1), .int v3] (zs f3 g3) (fun v4 f4 g4 => zWp X (d + 2) zm88 55 [.ref 169, .long (lN P), .null, .int (nI a), .int v4, .int (nI dn + 1), .null, .null, .null] [] (zs f4 g4) (zQv K))))) else (zCpi X (d + 2) 89 [.ref 169, .long (lN P), .int (nI (q dn)), .int ((nI (q dn)) + 8), .int v2] (zs f2 g2) (fun v3 f3 g3 => if (zrO.1 (nI (q dn)) 8) ≤ 0 then (zCpi X (d + 2) 89 [.ref 169, .long (lN P), .int (nI (q dn)), .int (-1), .int v3] (zs f3 g3) (fun v4 f4 g4 => zWp X (d + 2) zm88 55 [.ref 169, .long (lN P), .null, .int (nI a), .int v4, .int (nI dn + 1), .null, .null, .null] [] (zs f4 g4) (zQv K))) else (zCpi X (d + 2) 89 [.ref 169, .long (lN P), .int (nI (q dn)), .int (zsO.1 (nI (q dn)) 1), .int v3] (zs f3 g3) (fun v4 f4 g4 => zWp X (d + 2) zm88 55 [.ref 169, .long (lN P), .null, .int (nI a), .int v4, .int (nI dn + 1), .null, .null, .null] [] (zs f4 g4) (zQv K))))))) else (zCpi X (d + 2) 89 [.ref 169, .long (lN P), .int (nI (q dn)), .int ((nI (q dn)) + 1), .int v1] (zs f1 g1) (fun v2 f2 g2 => if 5 ≤ (zdO.1 (nI (q dn)) 8) then (zCpi X (d + 2) 89 [.ref 169, .long (lN P), .int (nI (q dn)), .int (-1), .int v2] (zs f2 g2) (fun v3 f3 g3 => if (zrO.1 (nI (q dn)) 8) ≤ 0 then (zCpi X (d + 2) 89 [.ref 169, .long (lN P), .int (nI (q dn)), .int (-1), .int v3] (zs f3 g3) (fun v4 f4 g4 => zWp X (d + 2) zm88 55 [.ref 169, .long (lN P), .null, .int (nI a), .int v4, .int (nI dn + 1), .null, .null, .null] [] (zs f4 g4) (zQv K))) else (zCpi X (d + 2) 89 [.ref 169, .long (lN P), .int (nI (q dn)), .int (zsO.1 (nI (q dn)) 1), .int v3] (zs f3 g3) (fun v4 f4 g4 => zWp X (d + 2) zm88 55 [.ref 169, .long (lN P), .null, .int (nI a), .int v4, .int (nI dn + 1), .null, .null, .null] [] (zs f4 g4) (zQv K))))) else (zCpi X (d + 2) 89 [.ref 169, .long (lN P), .int (nI (q dn)), .int ((nI (q dn)) + 8), .int v2] (zs f2 g2) (fun v3 f3 g3 => if (zrO.1 (nI (q dn)) 8) ≤ 0 then (zCpi X (d + 2) 89 [.ref 169, .long (lN P), .int (nI (q dn)), .int (-1), .int v3] (zs f3 g3) (fun v4 f4 g4 => zWp X (d + 2) zm88 55 [.ref 169, .long (lN P), .null, .int (nI a), .int v4, .int (nI dn + 1), .null, .null, .null] [] (zs f4 g4) (zQv K))) else (zCpi X (d + 2) 89 [.ref 169, .long (lN P), .int (nI (q dn)), .int (zsO.1 (nI (q dn)) 1), .int v3] (zs f3 g3) (fun v4 f4 g4 => zWp X (d + 2) zm88 55 [.ref 169, .long (lN P), .null, .int (nI a), .int v4, .int (nI dn + 1), .null, .null, .null] [] (zs f4 g4) (zQv K))))))))) else (zCpi X (d + 2) 89 [.ref 169, .long (lN P), .int (nI (q dn)), .int (zsO.1 (nI (q dn)) 8), .int (nI w')] (zs F' g) (fun v1 f1 g1 => if 7 ≤ (zrO.1 (nI (q dn)) 8) then (zCpi X (d + 2) 89 [.ref 169, .long (lN P), .int (nI (q dn)), .int (-1), .int v1] (zs f1 g1) (fun v2 f2 g2 => if 5 ≤ (zdO.1 (nI (q dn)) 8) then (zCpi X (d + 2) 89 [.ref 169, .long (lN P), .int (nI (q dn)), .int (-1), .int v2] (zs f2 g2) (fun v3 f3 g3 => if (zrO.1 (nI (q dn)) 8) ≤ 0 then (zCpi X (d + 2) 89 [.ref 169, .long (lN P), .int (nI (q dn)), .int (-1), .int v3] (zs f3 g3) (fun v4 f4 g4 => zWp X (d + 2) zm88 55 [.ref 169, .long (lN P), .null, .int (nI a), .int v4, .int (nI dn + 1), .null, .null, .null] [] (zs f4 g4) (zQv K))) else (zCpi X (d + 2) 89 [.ref 169, .long (lN P), .int (nI (q dn)), .int (zsO.1 (nI (q dn)) 1), .int v3] (zs f3 g3) (fun v4 f4 g4 => zWp X (d + 2) zm88 55 [.ref 169, .long (lN P), .null, .int (nI a), .int v4, .int (nI dn + 1), .null, .null, .null] [] (zs f4 g4) (zQv K))))) else (zCpi X (d + 2) 89 [.ref 169, .long (lN P), .int (nI (q dn)), .int ((nI (q dn)) + 8), .int v2] (zs f2 g2) (fun v3 f3 g3 => if (zrO.1 (nI (q dn)) 8) ≤ 0 then (zCpi X (d + 2) 89 [.ref 169, .long (lN P), .int (nI (q dn)), .int (-1), .int v3] (zs f3 g3) (fun v4 f4 g4 => zWp X (d + 2) zm88 55 [.ref 169, .long (lN P), .null, .int (nI a), .int v4, .int (nI dn + 1), .null, .null, .null] [] (zs f4 g4) (zQv K))) else (zCpi X (d + 2) 89 [.ref 169, .long (lN P), .int (nI (q dn)), .int (zsO.1 (nI (q dn)) 1), .int v3] (zs f3 g3) (fun v4 f4 g4 => zWp X (d + 2) zm88 55 [.ref 169, .long (lN P), .null, .int (nI a), .int v4, .int (nI dn + 1), .null, .null, .null] [] (zs f4 g4) (zQv K))))))) else (zCpi X (d + 2) 89 [.ref 169, .long (lN P), .int (nI (q dn)), .int ((nI (q dn)) + 1), .int v1] (zs f1 g1) (fun v2 f2 g2 => if 5 ≤ (zdO.1 (nI (q dn)) 8) then (zCpi X (d + 2) 89 [.ref 169, .long (lN P), .int (nI (q dn)), .int (-1), .int v2] (zs f2 g2) (fun v3 f3 g3 => if (zrO.1 (nI (q dn)) 8) ≤ 0 then (zCpi X (d + 2) 89 [.ref 169, .long (lN P), .int (nI (q dn)), .int (-1), .int v3] (zs f3 g3) (fun v4 f4 g4 => zWp X (d + 2) zm88 55 [.ref 169, .long (lN P), .null, .int (nI a), .int v4, .int (nI dn + 1), .null, .null, .null] [] (zs f4 g4) (zQv K))) else (zCpi X (d + 2) 89 [.ref 169, .long (lN P), .int (nI (q dn)), .int (zsO.1 (nI (q dn)) 1), .int v3] (zs f3 g3) (fun v4 f4 g4 => zWp X (d + 2) zm88 55 [.ref 169, .long (lN P), .null, .int (nI a), .int v4, .int (nI dn + 1), .null, .null, .null] [] (zs f4 g4) (zQv K))))) else (zCpi X (d + 2) 89 [.ref 169, .long (lN P), .int (nI (q dn)), .int ((nI (q dn)) + 8), .int v2] (zs f2 g2) (fun v3 f3 g3 => if (zrO.1 (nI (q dn)) 8) ≤ 0 then (zCpi X (d + 2) 89 [.ref 169, .long (lN P), .int (nI (q dn)), .int (-1), .int v3] (zs f3 g3) (fun v4 f4 g4 => zWp X (d + 2) zm88 55 [.ref 169, .long (lN P), .null, .int (nI a), .int v4, .int (nI dn + 1), .null, .null, .null] [] (zs f4 g4) (zQv K))) else (zCpi X (d + 2) 89 [.ref 169, .long (lN P), .int (nI (q dn)), .int (zsO.1 (nI (q dn)) 1), .int v3] (zs f3 g3) (fun v4 f4 g4 => zWp X (d + 2) zm88 55 [.ref 169, .long (lN P), .null, .int (nI a), .int v4, .int (nI dn + 1), .null, .null, .null] [] (zs f4 g4) (zQv K)))))))))) := fun F' s' q' w' hM' hB' hx hF' => by
      have hqd : q' dn = q dn := hx.2.1 dn hd
      have hd' : dn < w' := by have := hx.2.2; omega
      by_cases hc : 8 ≤ q dn
      · rw [if_neg (show ¬ (zdO.1 (nI (q dn)) 8 : Int32) ≤ 0 by rw [zdO.2, hdv]; exact nI_nle (by omega) (by omega))]
        have z := l89 (X := X) (d := d + 1) (g := g) (K := fun v1 f1 g1 => if 7 ≤ (zrO.1 (nI (q dn)) 8) then (zCpi X (d + 2) 89 [.ref 169, .long (lN P), .int (nI (q dn)), .int (-1), .int v1] (zs f1 g1) (fun v2 f2 g2 => if 5 ≤ (zdO.1 (nI (q dn)) 8) then (zCpi X (d + 2) 89 [.ref 169, .long (lN P), .int (nI (q dn)), .int (-1), .int v2] (zs f2 g2) (fun v3 f3 g3 => if (zrO.1 (nI (q dn)) 8) ≤ 0 then (zCpi X (d + 2) 89 [.ref 169, .long (lN P), .int (nI (q dn)), .int (-1), .int v3] (zs f3 g3) (fun v4 f4 g4 => zWp X (d + 2) zm88 55 [.ref 169, .long (lN P), .null, .int (nI a), .int v4, .int (nI dn + 1), .null, .null, .null] [] (zs f4 g4) (zQv K))) else (zCpi X (d + 2) 89 [.ref 169, .long (lN P), .int (nI (q dn)), .int (zsO.1 (nI (q dn)) 1), .int v3] (zs f3 g3) (fun v4 f4 g4 => zWp X (d + 2) zm88 55 [.ref 169, .long (lN P), .null, .int (nI a), .int v4, .int (nI dn + 1), .null, .null, .null] [] (zs f4 g4) (zQv K))))) else (zCpi X (d + 2) 89 [.ref 169, .long (lN P), .int (nI (q dn)), .int ((nI (q dn)) + 8), .int v2] (zs f2 g2) (fun v3 f3 g3 => if (zrO.1 (nI (q dn)) 8) ≤ 0 then (zCpi X (d + 2) 89 [.ref 169, .long (lN P), .int (nI (q dn)), .int (-1), .int v3] (zs f3 g3) (fun v4 f4 g4 => zWp X (d + 2) zm88 55 [.ref 169, .long (lN P), .null, .int (nI a), .int v4, .int (nI dn + 1), .null, .null, .null] [] (zs f4 g4) (zQv K))) else (zCpi X (d + 2) 89 [.ref 169, .long (lN P), .int (nI (q dn)), .int (zsO.1 (nI (q dn)) 1), .int v3] (zs f3 g3) (fun v4 f4 g4 => zWp X (d + 2) zm88 55 [.ref 169, .long (lN P), .null, .int (nI a), .int v4, .int (nI dn + 1), .null, .null, .null] [] (zs f4 g4) (zQv K))))))) else (zCpi X (d + 2) 89 [.ref 169, .long (lN P), .int (nI (q dn)), .int ((nI (q dn)) + 1), .int v1] (zs f1 g1) (fun v2 f2 g2 => if 5 ≤ (zdO.1 (nI (q dn)) 8) then (zCpi X (d + 2) 89 [.ref 169, .long (lN P), .int (nI (q dn)), .int (-1), .int v2] (zs f2 g2) (fun v3 f3 g3 => if (zrO.1 (nI (q dn)) 8) ≤ 0 then (zCpi X (d + 2) 89 [.ref 169, .long (lN P), .int (nI (q dn)), .int (-1), .int v3] (zs f3 g3) (fun v4 f4 g4 => zWp X (d + 2) zm88 55 [.ref 169, .long (lN P), .null, .int (nI a), .int v4, .int (nI dn + 1), .null, .null, .null] [] (zs f4 g4) (zQv K))) else (zCpi X (d + 2) 89 [.ref 169, .long (lN P), .int (nI (q dn)), .int (zsO.1 (nI (q dn)) 1), .int v3] (zs f3 g3) (fun v4 f4 g4 => zWp X (d + 2) zm88 55 [.ref 169, .long (lN P), .null, .int (nI a), .int v4, .int (nI dn + 1), .null, .null, .null] [] (zs f4 g4) (zQv K))))) else (zCpi X (d + 2) 89 [.ref 169, .long (lN P), .int (nI (q dn)), .int ((nI (q dn)) + 8), .int v2] (zs f2 g2) (fun v3 f3 g3 => if (zrO.1 (nI (q dn)) 8) ≤ 0 then (zCpi X (d + 2) 89 [.ref 169, .long (lN P), .int (nI (q dn)), .int (-1), .int v3] (zs f3 g3) (fun v4 f4 g4 => zWp X (d + 2) zm88 55 [.ref 169, .long (lN P), .null, .int (nI a), .int v4, .int (nI dn + 1), .null, .null, .null] [] (zs f4 g4) (zQv K))) else (zCpi X (d + 2) 89 [.ref 169, .long (lN P), .int (nI (q dn)), .int (zsO.1 (nI (q dn)) 1), .int v3] (zs f3 g3) (fun v4 f4 g4 => zWp X (d + 2) zm88 55 [.ref 169, .long (lN P), .null, .int (nI a), .int v4, .int (nI dn + 1), .null, .null, .null] [] (zs f4 g4) (zQv K)))))))) (t := q dn - 8) hP hM' hB' hd' (by omega) (by rw [hqd]; unfold znb; omega) (fun F2 s2 q2 w2 m2 b2 x2 n2 r2 => h2 F2 s2 q2 w2 m2 b2 (zBx_tr hx x2) (fun t ht hnb hp => ?_) (fun i i1 i2 => by rw [r2 i i1 i2, hF' i i1 i2]))
        · rw [hqd] at z
          rw [zsO.2, show nI (q dn) - (8 : Int32) = nI (q dn - 8) from pk_sub (b := 8) (by omega)]
          exact z
        · skip
          by_cases et : t = q dn - 8
          · rw [et] at hp ⊢
            exact n2 hp
          · omega
      · rw [if_pos (show (zdO.1 (nI (q dn)) 8 : Int32) ≤ 0 by rw [zdO.2, hdv]; rw [show q dn / 8 = 0 by omega]; decide)]
        exact l89n (d := d + 1) (h2 F' s' q' w' hM' hB' hx (fun t ht hnb hp => absurd hnb (by omega)) hF')
    apply s88_55_169
    rw [if_neg (nI_ge (by omega) (by omega)), if_neg (show ¬ (48 : Int32) ≤ nI dn from nI_ge (b := 48) (by omega) (by omega)), if_neg (nI_in (by omega) (by omega)), nI_cl (k := dn) (by omega), if_neg (by decide), if_neg (by decide), hM.2 dn hd]
    exact h1 F s q w hM hB zBx_rf hF
end ZWA

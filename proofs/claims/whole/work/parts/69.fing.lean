/-! fingers -/
def zfap (x y s t : Nat) : Nat := ((y : Int) - 5 * t - (x - 5 * s)).natAbs + 2 * ((t : Int) - s).natAbs
def zfm (I : Nat) (c : Nat → Nat) (x y s : Nat) : Nat → Nat
  | 0 => I
  | t + 1 => min (zfm I c x y s t) (c t + zfap x y s t)
/-- what it costs from one of the last m notes on, on a string -/
def zfC (I : Nat) (a : Nat → Nat) (n : Nat) : Nat → Nat → Nat
  | 0, _ => 0
  | m + 1, s => if ¬ (5 * s ≤ a (n - 1 - m) ∧ a (n - 1 - m) ≤ 5 * s + 9) then I else if m = 0 then 0 else zfm I (zfC I a n m) (a (n - 1 - m)) (a (n - 1 - m + 1)) s 4
theorem zfm_le {I : Nat} {c : Nat → Nat} {x y s : Nat} : ∀ t, zfm I c x y s t ≤ I
  | 0 => Nat.le_refl _
  | t + 1 => by
    unfold zfm
    have := zfm_le (I := I) (c := c) (x := x) (y := y) (s := s) t
    omega
theorem zfC_le {I : Nat} {a : Nat → Nat} {n s : Nat} : ∀ m, zfC I a n m s ≤ I
  | 0 => by unfold zfC; omega
  | m + 1 => by
    unfold zfC
    split
    · omega
    · split
      · omega
      · exact zfm_le 4
/-- the same cost, or no way on both sides -/
def zFsm (B : Nat) (u v : Nat) : Prop := (u = v ∧ u ≤ B) ∨ (u = 1000000 ∧ v = 100000000)
theorem zfap_le {x y s t : Nat} (hx : x ≤ 24) (hy : y ≤ 24) (hs : s < 4) (ht : t < 4) : zfap x y s t ≤ 60 := by
  unfold zfap
  omega
theorem zfm_sm {c1 c2 : Nat → Nat} {B x y s : Nat} (hB : B ≤ 10000) (hx : x ≤ 24) (hy : y ≤ 24) (hs : s < 4) (h : ∀ t, t < 4 → zFsm B (c1 t) (c2 t)) : ∀ t, t ≤ 4 → zFsm (B + 60) (zfm 1000000 c1 x y s t) (zfm 100000000 c2 x y s t)
  | 0, _ => Or.inr ⟨rfl, rfl⟩
  | t + 1, ht => by
    have ih := zfm_sm hB hx hy hs h t (by omega)
    have h1 := h t (by omega)
    have h2 := zfap_le hx hy hs (show t < 4 by omega)
    unfold zfm
    unfold zFsm at ih h1 ⊢
    omega
theorem zfC_sm {a : Nat → Nat} {n : Nat} (hn : n ≤ 10) (ha : ∀ j, j < n → a j ≤ 24) : ∀ m, m ≤ n → ∀ s, s < 4 → zFsm (60 * m) (zfC 1000000 a n m s) (zfC 100000000 a n m s)
  | 0, _, s, _ => Or.inl ⟨rfl, by unfold zfC; omega⟩
  | m + 1, hm, s, hs => by
    have ih := zfC_sm hn ha m (by omega)
    unfold zfC
    by_cases h1 : 5 * s ≤ a (n - 1 - m) ∧ a (n - 1 - m) ≤ 5 * s + 9
    · have hnn : ¬ ¬ (5 * s ≤ a (n - 1 - m) ∧ a (n - 1 - m) ≤ 5 * s + 9) := fun z => z h1
      rw [if_neg hnn, if_neg hnn]
      by_cases h2 : m = 0
      · rw [if_pos h2, if_pos h2]
        exact Or.inl ⟨rfl, by omega⟩
      · rw [if_neg h2, if_neg h2]
        exact zfm_sm (by omega) (ha _ (by omega)) (ha _ (by omega)) hs ih 4 (by omega)
    · rw [if_pos h1, if_pos h1]
      exact Or.inr ⟨rfl, rfl⟩
/-- the first of the cheapest -/
def zfbs (c : Nat → Nat) : Nat → Nat
  | 0 => 0
  | s + 1 => if c (s + 1) < c (zfbs c s) then s + 1 else zfbs c s
theorem zfbs_le {c : Nat → Nat} : ∀ s, zfbs c s ≤ s
  | 0 => Nat.le_refl _
  | s + 1 => by
    unfold zfbs
    have := zfbs_le (c := c) s
    split <;> omega
theorem zfbs_sm {c1 c2 : Nat → Nat} {B : Nat} (hB : B ≤ 10000) (h : ∀ t, t < 4 → zFsm B (c1 t) (c2 t)) : ∀ s, s < 4 → zfbs c1 s = zfbs c2 s
  | 0, _ => rfl
  | s + 1, hs => by
    have ih := zfbs_sm hB h s (by omega)
    have hle := zfbs_le (c := c2) s
    unfold zfbs
    rw [ih]
    have h1 := h (s + 1) hs
    have h2 := h (zfbs c2 s) (by omega)
    unfold zFsm at h1 h2
    by_cases e : c2 (s + 1) < c2 (zfbs c2 s)
    · rw [if_pos e, if_pos (by omega)]
    · rw [if_neg e, if_neg (by omega)]
theorem zabn {x : Int32} (h1 : -1000 ≤ x.toInt) (h2 : x.toInt ≤ 1000) : zab x = nI x.toInt.natAbs := by
  apply Int32.toInt_inj.mp
  rw [nI_ti (by omega)]
  unfold zab
  by_cases h : 0 ≤ x
  · rw [if_pos h]
    simp only [Int32.lt_iff_toInt_lt, Int32.le_iff_toInt_le, Int32.reduceToInt] at h
    omega
  · rw [if_neg h, zt_neg (by omega) (by omega)]
    simp only [Int32.lt_iff_toInt_lt, Int32.le_iff_toInt_le, Int32.reduceToInt] at h
    omega
theorem zfr_ti {x s : Nat} (hx : x ≤ 24) (hs : s < 4) : (nI x - 5 * nI s).toInt = (x : Int) - 5 * s := by
  rw [show (5 : Int32) * nI s = nI (5 * s) from pk_mul 5 s, zt_sub (by rw [nI_ti (by omega), nI_ti (by omega)]; omega) (by rw [nI_ti (by omega), nI_ti (by omega)]; omega), nI_ti (by omega), nI_ti (by omega)]
  omega
theorem zfap_c {x y s t : Nat} (hx : x ≤ 24) (hy : y ≤ 24) (hs : s < 4) (ht : t < 4) : zab (nI y - 5 * nI t - (nI x - 5 * nI s)) + 2 * zab (nI t - nI s) = nI (zfap x y s t) := by
  have a1 := zfr_ti hx hs
  have a2 := zfr_ti hy ht
  have a3 : (nI y - 5 * nI t - (nI x - 5 * nI s)).toInt = (y : Int) - 5 * t - (x - 5 * s) := by rw [zt_sub (by omega) (by omega), a1, a2]
  have a4 : (nI t - nI s).toInt = (t : Int) - s := by rw [zt_sub (by rw [nI_ti (by omega), nI_ti (by omega)]; omega) (by rw [nI_ti (by omega), nI_ti (by omega)]; omega), nI_ti (by omega), nI_ti (by omega)]
  rw [zabn (by omega) (by omega), zabn (by omega) (by omega), a3, a4, show (2 : Int32) * nI ((t : Int) - s).natAbs = nI (2 * ((t : Int) - s).natAbs) from pk_mul 2 _, nI_add]
  rfl
theorem zfap_r {x y s t : Nat} (hx : x ≤ 24) (hy : y ≤ 24) (hs : s < 4) (ht : t < 4) {c : Nat} : nI c + zab (nI x - 5 * nI s - (nI y - 5 * nI t)) + 2 * zab (nI s - nI t) = nI (c + zfap x y s t) := by
  have a1 := zfr_ti hx hs
  have a2 := zfr_ti hy ht
  have a3 : (nI x - 5 * nI s - (nI y - 5 * nI t)).toInt = (x : Int) - 5 * s - (y - 5 * t) := by rw [zt_sub (by omega) (by omega), a1, a2]
  have a4 : (nI s - nI t).toInt = (s : Int) - t := by rw [zt_sub (by rw [nI_ti (by omega), nI_ti (by omega)]; omega) (by rw [nI_ti (by omega), nI_ti (by omega)]; omega), nI_ti (by omega), nI_ti (by omega)]
  rw [zabn (by omega) (by omega), zabn (by omega) (by omega), a3, a4, show (2 : Int32) * nI ((s : Int) - t).natAbs = nI (2 * ((s : Int) - t).natAbs) from pk_mul 2 _, nI_add, nI_add]
  congr 1
  unfold zfap
  omega
section ZFI
variable {X : Nat × (Nat → Int32)} {d : Nat} {g : Nat → Nat → Int64} {K : Int32 → (Nat → Nat → Int32) → (Nat → Nat → Int64) → Prop} {a : Nat → Nat} {n : Nat}
theorem q110 {F : Nat → Nat → Int32} {m s : Nat} (hn : n ≤ 10) (hs : s < 4) (hm : m < n) (h1 : F 29 1 = nI n) (ha : ∀ j, j < n → F 30 j = nI (a j) ∧ a j ≤ 24) (hc : ∀ t, t < 4 → F 176 t = nI (zfC 1000000 a n m t)) : zCpi X (d + 2) 110 [.ref 169, .ref 29, .int (nI (n - 1 - m)), .int (nI s)] (zs F g) K = K (nI (zfC 1000000 a n (m + 1) s)) F g := by
  refine zCpi_eq (fun K hK => e110_169_29 ?_)
  have hx := (ha (n - 1 - m) (by omega)).2
  have ti := zfr_ti hx hs
  unfold zfC at hK
  rw [q68_29 hn h1 (by omega), (ha (n - 1 - m) (by omega)).1, zmO.2, zsO.2, q124]
  by_cases hf : 5 * s ≤ a (n - 1 - m) ∧ a (n - 1 - m) ≤ 5 * s + 9
  · rw [if_neg (fun z => z hf)] at hK
    rw [if_neg (by rw [zb_0, ti]; have e0 : (0 : Int32).toInt = 0 := rfl; have e9 : (9 : Int32).toInt = 9 := rfl; omega), h1, zsO.2, (nI_m1 (show 0 < n by omega)).2]
    by_cases hm0 : m = 0
    · rw [if_pos hm0] at hK
      rw [if_pos (by rw [hm0, Nat.sub_zero])]
      exact hK
    · rw [if_neg hm0] at hK
      rw [if_neg (nI_neq (by omega) (by omega) (by omega))]
      have hy := ha (n - 1 - m + 1) (by omega)
      have hl : ∀ u t, t + u = 4 → zWp X (d + 1) zm110 44 [.ref 169, .ref 29, .int (nI (n - 1 - m)), .int (nI s), .int (nI (a (n - 1 - m)) - 5 * nI s), .int (nI (zfm 1000000 (zfC 1000000 a n m) (a (n - 1 - m)) (a (n - 1 - m + 1)) s t)), .int (nI t), .null] [] (zs F g) (zQi K) := by
        intro u
        induction u with
        | zero =>
          intro t ht
          have et : t = 4 := by omega
          subst et
          apply s110_44_169_29
          rw [if_pos (show (4 : Int32) ≤ nI 4 from by decide)]
          exact hK
        | succ u ih =>
          intro t ht
          have z := ih (t + 1) (by omega)
          have le1 := zfm_le (I := 1000000) (c := zfC 1000000 a n m) (x := a (n - 1 - m)) (y := a (n - 1 - m + 1)) (s := s) t
          have le2 := zfC_le (I := 1000000) (a := a) (n := n) (s := t) m
          have le3 := zfap_le hx hy.2 hs (show t < 4 by omega)
          apply s110_44_169_29
          rw [if_neg (show ¬ (4 : Int32) ≤ nI t from nI_ge (b := 4) (by omega) (by omega)), nI_1, nI_1, q68_29 hn h1 (by omega), hy.1, q286, q286, if_neg (nI_in (by omega) (by omega)), nI_cl (by omega), hc t (by omega), q288, zmO.2, zmO.2, zsO.2, zsO.2, zsO.2, zfap_c hx hy.2 hs (by omega), nI_add, zmn_nI (by omega) (by omega)]
          exact z
      exact hl 4 0 (by omega)
  · rw [if_pos hf] at hK
    rw [if_pos (by rw [zb_0, ti]; have e0 : (0 : Int32).toInt = 0 := rfl; have e9 : (9 : Int32).toInt = 9 := rfl; omega)]
    exact hK
/-- one of the four has been written -/
theorem zup4 {F : Nat → Nat → Int32} {c t : Nat} {v : Int32} {p : Nat → Int32} (h : ∀ u, u < t → F c u = p u) (hv : v = p t) : ∀ u, u < t + 1 → zuI F c t v c u = p u := fun u hu => by
  rw [zi_at]
  by_cases e : u = t
  · rw [if_pos e, e, hv]
  · rw [if_neg e]
    exact h u (by omega)
theorem l109 {f : Nat → Nat → Int32} {w : Int32} (hn : n ≤ 10) (h1 : f 29 1 = nI n) (ha : ∀ j, j < n → f 30 j = nI (a j) ∧ a j ≤ 24) (hK : ∀ F : Nat → Nat → Int32, (∀ i, ¬ i = 175 → ¬ i = 176 → F i = f i) → K (if n = 0 then (if w = 0 then 0 else -1) else if zfC 1000000 a n n (zfbs (zfC 1000000 a n n) 3) < 1000000 then (if w = 0 then nI (zfC 1000000 a n n (zfbs (zfC 1000000 a n n) 3)) else nI (zfbs (zfC 1000000 a n n) 3)) else -1) F g) : zCpi X (d + 4) 109 [.ref 169, .ref 29, .int w] (zs f g) K := by
  -- the end
  have hend : ∀ (F : Nat → Nat → Int32), (∀ i, ¬ i = 175 → ¬ i = 176 → F i = f i) → (∀ s, s < 4 → F 175 s = nI (zfC 1000000 a n n s)) → ∀ u s, s + u = 3 → zWp X (d + 3) zm109 101 [.ref 169, .ref 29, .int w, .int (nI (zfbs (zfC 1000000 a n n) s)), .int (nI (s + 1))] [] (zs F g) (zQi K) := by
    intro F hF hc u
    induction u with
    | zero =>
      intro s hs
      have es : s = 3 := by omega
      subst es
      have hb := zfbs_le (c := zfC 1000000 a n n) 3
      have z := hK F hF
      apply s109_101_169_29
      rw [if_pos (show (4 : Int32) ≤ nI (3 + 1) from by decide), hF 29 (by omega) (by omega), h1]
      by_cases n0 : n = 0
      · rw [if_pos n0] at z
        rw [if_pos (by rw [n0]; rfl)]
        by_cases w0 : w = 0
        · rw [if_pos w0] at z
          rw [if_pos w0]
          exact z
        · rw [if_neg w0] at z
          rw [if_neg w0]
          exact z
      · rw [if_neg n0] at z
        have le := zfC_le (I := 1000000) (a := a) (n := n) (s := zfbs (zfC 1000000 a n n) 3) n
        rw [if_neg (nI_z (by omega) (by omega)), if_neg (nI_in (by omega) (by omega)), nI_cl (by omega), hc _ (by omega)]
        by_cases e : zfC 1000000 a n n (zfbs (zfC 1000000 a n n) 3) < 1000000
        · rw [if_pos e] at z
          rw [if_pos (show nI _ < Int32.ofNat 1000000 from nI_lt e (by omega)), if_neg (nI_in' (by omega) (by omega))]
          by_cases w0 : w = 0
          · rw [if_pos w0] at z
            rw [if_pos w0]
            exact z
          · rw [if_neg w0] at z
            rw [if_neg w0]
            exact z
        · rw [if_neg e] at z
          rw [if_neg (show ¬ nI _ < Int32.ofNat 1000000 from fun y => e (by
            rw [show zfC 1000000 a n n (zfbs (zfC 1000000 a n n) 3) = 1000000 by omega] at y
            exact absurd y (by decide)))]
          exact z
    | succ u ih =>
      intro s hs
      have z := ih (s + 1) (by omega)
      have hb := zfbs_le (c := zfC 1000000 a n n) s
      have l1 := zfC_le (I := 1000000) (a := a) (n := n) (s := zfbs (zfC 1000000 a n n) s) n
      have l2 := zfC_le (I := 1000000) (a := a) (n := n) (s := s + 1) n
      apply s109_101_169_29
      rw [if_neg (show ¬ (4 : Int32) ≤ nI (s + 1) from nI_ge (b := 4) (by omega) (by omega)), if_neg (nI_in (by omega) (by omega)), if_neg (nI_in (by omega) (by omega)), nI_cl (k := s + 1) (by omega), nI_cl (by omega), hc _ (by omega), hc _ (by omega), nI_1]
      conv at z => arg 5; unfold zfbs
      by_cases e : zfC 1000000 a n n (s + 1) < zfC 1000000 a n n (zfbs (zfC 1000000 a n n) s)
      · rw [if_pos e] at z
        rw [if_neg (nI_ge e (by omega))]
        exact z
      · rw [if_neg e] at z
        rw [if_pos (nI_le (by omega) (by omega))]
        exact z
  -- one note
  have hcost : ∀ (m : Nat), m < n → ∀ (F : Nat → Nat → Int32), (∀ i, ¬ i = 175 → ¬ i = 176 → F i = f i) → (∀ t, t < 4 → F 176 t = nI (zfC 1000000 a n m t)) → (∀ G : Nat → Nat → Int32, (∀ i, ¬ i = 175 → ¬ i = 176 → G i = f i) → (∀ t, t < 4 → G 175 t = nI (zfC 1000000 a n (m + 1) t)) → zWp X (d + 3) zm109 27 [.ref 169, .ref 29, .int w, .int (nI (n - 1 - m) + -1), .null] [] (zs G g) (zQi K)) → ∀ u s, s + u = 4 → ∀ G : Nat → Nat → Int32, (∀ i, ¬ i = 175 → G i = F i) → (∀ t, t < s → G 175 t = nI (zfC 1000000 a n (m + 1) t)) → zWp X (d + 3) zm109 63 [.ref 169, .ref 29, .int w, .int (nI (n - 1 - m)), .int (nI s)] [] (zs G g) (zQi K) := by
    intro m hm F hF hc h u
    induction u with
    | zero =>
      intro s hs G hG hp
      have es : s = 4 := by omega
      subst es
      apply s109_63_169_29
      rw [if_pos (show (4 : Int32) ≤ nI 4 from by decide)]
      exact h G (fun i a b => by rw [hG i a, hF i a b]) hp
    | succ u ih =>
      intro s hs G hG hp
      apply s109_63_169_29
      rw [if_neg (show ¬ (4 : Int32) ≤ nI s from nI_ge (b := 4) (by omega) (by omega)), q110 (a := a) (m := m) hn (by omega) hm (by rw [hG 29 (by omega), hF 29 (by omega) (by omega)]; exact h1) (fun j hj => by rw [hG 30 (by omega), hF 30 (by omega) (by omega)]; exact ha j hj) (fun t ht => by rw [hG 176 (by omega)]; exact hc t ht), if_neg (nI_in (by omega) (by omega)), nI_cl (by omega), nI_1]
      exact ih (s + 1) (by omega) _ (fun i hi => by rw [zi_ne hi, hG i hi]) (zup4 (p := fun t => nI (zfC 1000000 a n (m + 1) t)) hp rfl)
  have hcopy : ∀ (m : Nat), m < n → ∀ (F : Nat → Nat → Int32), (∀ i, ¬ i = 175 → ¬ i = 176 → F i = f i) → (∀ t, t < 4 → F 175 t = nI (zfC 1000000 a n m t)) → (∀ G : Nat → Nat → Int32, (∀ i, ¬ i = 175 → ¬ i = 176 → G i = f i) → (∀ t, t < 4 → G 175 t = nI (zfC 1000000 a n (m + 1) t)) → zWp X (d + 3) zm109 27 [.ref 169, .ref 29, .int w, .int (nI (n - 1 - m) + -1), .null] [] (zs G g) (zQi K)) → ∀ u s, s + u = 4 → ∀ G : Nat → Nat → Int32, (∀ i, ¬ i = 176 → G i = F i) → (∀ t, t < s → G 176 t = nI (zfC 1000000 a n m t)) → zWp X (d + 3) zm109 34 [.ref 169, .ref 29, .int w, .int (nI (n - 1 - m)), .int (nI s)] [] (zs G g) (zQi K) := by
    intro m hm F hF hc h u
    induction u with
    | zero =>
      intro s hs G hG hp
      have es : s = 4 := by omega
      subst es
      apply s109_34_169_29
      rw [if_pos (show (4 : Int32) ≤ nI 4 from by decide)]
      exact hcost m hm G (fun i a b => by rw [hG i b, hF i a b]) hp h 4 0 (by omega) G (fun _ _ => rfl) (fun t ht => absurd ht (by omega))
    | succ u ih =>
      intro s hs G hG hp
      apply s109_34_169_29
      rw [if_neg (show ¬ (4 : Int32) ≤ nI s from nI_ge (b := 4) (by omega) (by omega)), if_neg (nI_in (by omega) (by omega)), if_neg (nI_in (by omega) (by omega)), nI_cl (by omega), nI_1, hG 175 (by omega), hc s (by omega)]
      exact ih (s + 1) (by omega) _ (fun i hi => by rw [zi_ne hi, hG i hi]) (zup4 (p := fun t => nI (zfC 1000000 a n m t)) hp rfl)
  have hall : ∀ u m, m + u = n → ∀ (F : Nat → Nat → Int32), (∀ i, ¬ i = 175 → ¬ i = 176 → F i = f i) → (∀ t, t < 4 → F 175 t = nI (zfC 1000000 a n m t)) → zWp X (d + 3) zm109 27 [.ref 169, .ref 29, .int w, .int (nI (n - m) - 1), .null] [] (zs F g) (zQi K) := by
    intro u
    induction u with
    | zero =>
      intro m hm F hF hc
      have em : m = n := by omega
      subst em
      apply s109_27_169_29
      rw [Nat.sub_self, if_pos (by decide)]
      exact hend F hF hc 3 0 (by omega)
    | succ u ih =>
      intro m hm F hF hc
      have ex : nI (n - m) - 1 = nI (n - 1 - m) := by rw [(nI_m1 (show 0 < n - m by omega)).2]; congr 1; omega
      apply s109_27_169_29
      rw [ex, if_neg (nI_pos (by omega))]
      refine hcopy m (by omega) F hF hc (fun G g1 g2 => ?_) 4 0 (by omega) F (fun _ _ => rfl) (fun t ht => absurd ht (by omega))
      have z := ih (m + 1) (by omega) G g1 g2
      have ey : nI (n - (m + 1)) - 1 = nI (n - 1 - m) + -1 := by rw [show n - (m + 1) = n - 1 - m by omega, Int32.sub_eq_add_neg]
      rw [ey] at z
      exact z
  have hini : ∀ u s, s + u = 4 → ∀ F : Nat → Nat → Int32, (∀ i, ¬ i = 175 → F i = f i) → (∀ t, t < s → F 175 t = nI (zfC 1000000 a n 0 t)) → zWp X (d + 3) zm109 2 [.ref 169, .ref 29, .int w, .int (nI s), .null] [] (zs F g) (zQi K) := by
    intro u
    induction u with
    | zero =>
      intro s hs F hF hp
      have es : s = 4 := by omega
      subst es
      apply s109_2_169_29
      rw [if_pos (show (4 : Int32) ≤ nI 4 from by decide), hF 29 (by omega), h1, zsO.2]
      exact hall n 0 (by omega) F (fun i a _ => hF i a) hp
    | succ u ih =>
      intro s hs F hF hp
      apply s109_2_169_29
      rw [if_neg (show ¬ (4 : Int32) ≤ nI s from nI_ge (b := 4) (by omega) (by omega)), if_neg (nI_in (by omega) (by omega)), nI_cl (by omega), nI_1]
      exact ih (s + 1) (by omega) _ (fun i hi => by rw [zi_ne hi, hF i hi]) (zup4 (p := fun t => nI (zfC 1000000 a n 0 t)) hp (by unfold zfC; rfl))
  apply e109_169_29
  exact hini 4 0 (by omega) f (fun _ _ => rfl) (fun t ht => absurd ht (by omega))
end ZFI

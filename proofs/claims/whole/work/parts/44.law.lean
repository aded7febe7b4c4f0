/-! what the law's code comes to, on both sides -/
def zjn (c x y : Int32) : Int32 := if c = -42 then x * y else if c = -43 then x + y else if c = -45 then x - y else if c = -47 then (if y = 0 then 0 else x / y) else if c = -60 then (if y ≤ x then 0 else 1) else if c = -61 then (if x = y then 1 else 0) else if c = -62 then (if x ≤ y then 0 else 1) else if c = -133 then x &&& y else x ||| y
def zev (vals : Nat → Int32) (c : Int32) (s : Nat × (Nat → Int32)) : Nat × (Nat → Int32) := if 0 ≤ c.toInt then (s.1 + 1, zup s.2 s.1 c) else if -143 ≤ c.toInt ∧ c.toInt ≤ -135 then (s.1 + 1, zup s.2 s.1 (vals (-135 - c.toInt).toNat)) else if c.toInt = -134 then (s.1, zup s.2 (s.1 - 1) (1 - s.2 (s.1 - 1))) else (s.1 - 1, zup s.2 (s.1 - 2) (zjn c (s.2 (s.1 - 2)) (s.2 (s.1 - 1))))
def zEv (cd vals : Nat → Int32) (i : Nat) (s : Nat × (Nat → Int32)) : Nat × (Nat → Int32) := zev vals (cd i) s
/-- one step of kinds -/
theorem zTyp_s {cd : Nat → Int32} {i m : Nat} {ty R : List Bool} (h : zTyp cd i (m + 1) ty = some R) : ty.length < 32 ∧
    (((0 ≤ (cd i).toInt ∨ ((cd i).toInt ≤ -135 ∧ -143 ≤ (cd i).toInt)) ∧ zTyp cd (i + 1) m (false :: ty) = some R) ∨
    ((cd i).toInt = -134 ∧ ∃ t, ty = true :: t ∧ zTyp cd (i + 1) m (true :: t) = some R) ∨
    (((cd i).toInt = -133 ∨ (cd i).toInt = -132) ∧ ∃ u, ty = true :: true :: u ∧ zTyp cd (i + 1) m (true :: u) = some R) ∨
    (((cd i).toInt = -60 ∨ (cd i).toInt = -61 ∨ (cd i).toInt = -62) ∧ ∃ u, ty = false :: false :: u ∧ zTyp cd (i + 1) m (true :: u) = some R) ∨
    (¬ (0 ≤ (cd i).toInt) ∧ ¬ ((cd i).toInt ≤ -135 ∧ -143 ≤ (cd i).toInt) ∧ ¬ (cd i).toInt = -134 ∧ ¬ (cd i).toInt = -133 ∧ ¬ (cd i).toInt = -132 ∧ ¬ (cd i).toInt = -60 ∧ ¬ (cd i).toInt = -61 ∧ ¬ (cd i).toInt = -62 ∧ ((cd i).toInt = -47 → 0 < i ∧ 0 < (cd (i - 1)).toInt) ∧ ∃ u, ty = false :: false :: u ∧ zTyp cd (i + 1) m (false :: u) = some R)) := by
  unfold zTyp at h
  split at h
  next => cases h
  next hlen =>
    refine ⟨by omega, ?_⟩
    split at h
    next hc => exact Or.inl ⟨hc, h⟩
    next hc =>
      split at h
      next => cases h
      next x t =>
        split at h
        next h4 =>
          split at h
          next hx => exact Or.inr (Or.inl ⟨h4, t, by rw [hx], h⟩)
          next => cases h
        next h4 =>
          split at h
          next => cases h
          next y u =>
            split at h
            next h3 =>
              split at h
              next hxy => exact Or.inr (Or.inr (Or.inl ⟨h3, u, by rw [hxy.1, hxy.2], h⟩))
              next => cases h
            next h3 =>
              split at h
              next hxy =>
                split at h
                next h6 => exact Or.inr (Or.inr (Or.inr (Or.inl ⟨h6, u, by rw [hxy.1, hxy.2], h⟩)))
                next h6 =>
                  split at h
                  next h7 =>
                    split at h
                    next h8 => exact Or.inr (Or.inr (Or.inr (Or.inr ⟨fun z => hc (Or.inl z), fun z => hc (Or.inr z), h4, fun z => h3 (Or.inl z), fun z => h3 (Or.inr z), fun z => h6 (Or.inl z), fun z => h6 (Or.inr (Or.inl z)), fun z => h6 (Or.inr (Or.inr z)), fun _ => h8, u, by rw [hxy.1, hxy.2], h⟩)))
                    next => cases h
                  next h7 => exact Or.inr (Or.inr (Or.inr (Or.inr ⟨fun z => hc (Or.inl z), fun z => hc (Or.inr z), h4, fun z => h3 (Or.inl z), fun z => h3 (Or.inr z), fun z => h6 (Or.inl z), fun z => h6 (Or.inr (Or.inl z)), fun z => h6 (Or.inr (Or.inr z)), fun z => absurd z h7, u, by rw [hxy.1, hxy.2], h⟩)))
              next => cases h
/-- what may stand in the class's code -/
def zCc (c : Int32) : Prop := (∃ v : Nat, v ≤ 9999 ∧ c = nI v) ∨ (∃ w : Nat, w < 9 ∧ c = -(nI (135 + w))) ∨ c = -134 ∨ (c = -43 ∨ c = -45 ∨ c = -42 ∨ c = -47 ∨ c = -60 ∨ c = -61 ∨ c = -62 ∨ c = -133 ∨ c = -132)
theorem zCod_c {c o a : Int32} (h : zCod c o a) : zCc c := by
  unfold zCod at h
  unfold zCc
  rcases h with ⟨v, h1, h2, -⟩ | ⟨w, h1, h2, -⟩ | ⟨h, -⟩ | ⟨h, -⟩ | ⟨h, -⟩ | ⟨h, -⟩ | ⟨h, -⟩ | ⟨h, -⟩ | ⟨h, -⟩ | ⟨h, -⟩ | ⟨h, -⟩ | ⟨h, -⟩
  · exact Or.inl ⟨v, h1, h2⟩
  · exact Or.inr (Or.inl ⟨w, h1, h2⟩)
  all_goals (right; right; simp only [h]; decide)
theorem zng {w : Nat} (hw : w < 9) : (-(nI (135 + w))).toInt = -135 - (w : Int) ∧ -(-(nI (135 + w))) = nI (135 + w) ∧ (nI (135 + w)) - 135 = nI w := by
  have h : w = 0 ∨ w = 1 ∨ w = 2 ∨ w = 3 ∨ w = 4 ∨ w = 5 ∨ w = 6 ∨ w = 7 ∨ w = 8 := by omega
  rcases h with rfl | rfl | rfl | rfl | rfl | rfl | rfl | rfl | rfl <;> decide
section ZLW
variable {X : Nat × (Nat → Int32)} {d : Nat} {f : Nat → Nat → Int32} {g : Nat → Nat → Int64} {K : Int32 → (Nat → Nat → Int32) → (Nat → Nat → Int64) → Prop}
theorem q34 {c x y : Int32} (h : c = -43 ∨ c = -45 ∨ c = -42 ∨ c = -47 ∨ c = -60 ∨ c = -61 ∨ c = -62 ∨ c = -133 ∨ c = -132) : zCpi X (d + 1) 34 [.int (-c), .int x, .int y] (zs f g) K = K (zjn c x y) f g := by
  refine zCpi_eq (fun K hK => e34 ?_)
  unfold zjn at hK
  rcases h with rfl | rfl | rfl | rfl | rfl | rfl | rfl | rfl | rfl
  all_goals simp only [show (-(-43 : Int32)) = 43 from by decide, show (-(-45 : Int32)) = 45 from by decide, show (-(-42 : Int32)) = 42 from by decide, show (-(-47 : Int32)) = 47 from by decide, show (-(-60 : Int32)) = 60 from by decide, show (-(-61 : Int32)) = 61 from by decide, show (-(-62 : Int32)) = 62 from by decide, show (-(-133 : Int32)) = 133 from by decide, show (-(-132 : Int32)) = 132 from by decide]
  · rw [if_neg (by decide), if_pos trivial]
    rw [if_neg (by decide), if_pos rfl] at hK
    exact hK
  · rw [if_neg (by decide), if_neg (by decide), if_pos trivial, zsO.2]
    rw [if_neg (by decide), if_neg (by decide), if_pos rfl] at hK
    exact hK
  · rw [if_pos trivial, zmO.2]
    rw [if_pos rfl] at hK
    exact hK
  · rw [if_neg (by decide), if_neg (by decide), if_neg (by decide), if_pos trivial, zdO.2]
    rw [if_neg (by decide), if_neg (by decide), if_neg (by decide), if_pos rfl] at hK
    split
    · next e => rw [if_pos e] at hK; exact hK
    · next e => rw [if_neg e] at hK; exact hK
  · rw [if_neg (by decide), if_neg (by decide), if_neg (by decide), if_neg (by decide), if_pos trivial]
    rw [if_neg (by decide), if_neg (by decide), if_neg (by decide), if_neg (by decide), if_pos rfl] at hK
    split
    · next e => rw [if_pos e] at hK; exact hK
    · next e => rw [if_neg e] at hK; exact hK
  · rw [if_neg (by decide), if_neg (by decide), if_neg (by decide), if_neg (by decide), if_neg (by decide), if_pos trivial]
    rw [if_neg (by decide), if_neg (by decide), if_neg (by decide), if_neg (by decide), if_neg (by decide), if_pos rfl] at hK
    split
    · next e => rw [if_pos e] at hK; exact hK
    · next e => rw [if_neg e] at hK; exact hK
  · rw [if_neg (by decide), if_neg (by decide), if_neg (by decide), if_neg (by decide), if_neg (by decide), if_neg (by decide), if_pos trivial]
    rw [if_neg (by decide), if_neg (by decide), if_neg (by decide), if_neg (by decide), if_neg (by decide), if_neg (by decide), if_pos rfl] at hK
    split
    · next e => rw [if_pos e] at hK; exact hK
    · next e => rw [if_neg e] at hK; exact hK
  · rw [if_neg (by decide), if_neg (by decide), if_neg (by decide), if_neg (by decide), if_neg (by decide), if_neg (by decide), if_neg (by decide), if_pos trivial]
    rw [if_neg (by decide), if_neg (by decide), if_neg (by decide), if_neg (by decide), if_neg (by decide), if_neg (by decide), if_neg (by decide), if_pos rfl] at hK
    exact hK
  · rw [if_neg (by decide), if_neg (by decide), if_neg (by decide), if_neg (by decide), if_neg (by decide), if_neg (by decide), if_neg (by decide), if_neg (by decide)]
    rw [if_neg (by decide), if_neg (by decide), if_neg (by decide), if_neg (by decide), if_neg (by decide), if_neg (by decide), if_neg (by decide), if_neg (by decide)] at hK
    exact hK
theorem zop_neg {c : Int32} (h : c = -43 ∨ c = -45 ∨ c = -42 ∨ c = -47 ∨ c = -60 ∨ c = -61 ∨ c = -62 ∨ c = -133 ∨ c = -132) : c < 0 ∧ ¬ (135 ≤ (-c).toInt ∧ (-c).toInt ≤ 143) ∧ ¬ c = -134 ∧ ¬ 0 ≤ c.toInt ∧ ¬ (-143 ≤ c.toInt ∧ c.toInt ≤ -135) ∧ ¬ c.toInt = -134 := by
  rcases h with rfl | rfl | rfl | rfl | rfl | rfl | rfl | rfl | rfl <;> decide
theorem nI_m1 {t : Nat} (h : 0 < t) : nI t + (-1) = nI (t - 1) ∧ nI t - 1 = nI (t - 1) := by
  obtain ⟨p, e⟩ : ∃ p, t = p + 1 := ⟨t - 1, by omega⟩
  subst e
  exact ⟨pk_m1 p, nI_pred p⟩
set_option maxHeartbeats 1000000 in
theorem l33_157 {b : Nat} {x1 : Int32} (hb : b ≤ 400) : ∀ m i (s : Nat × (Nat → Int32)) ty R, i + m = b → (∀ j, i ≤ j → j < b → zCc (f 14 j)) → ty.length = s.1 → zTyp (f 14) i m ty = some R → K ((zfold (zEv (f 14) (f 157)) m i s).2 0) (zrI f 19 (zfold (zEv (f 14) (f 157)) m i s).2) g → zWp X (d + 1) zm33 6 [.ref 13, .int x1, .int (nI b), .ref 157, .int (nI s.1), .int (nI i), .null] [] (zs (zrI f 19 s.2) g) (zQi K) := by
  have z00 : ¬ ((0 : Int32) < 0 ∨ 32 ≤ (0 : Int32).toNatClampNeg) := by decide
  intro m
  induction m with
  | zero =>
    intro i s ty R hi hc hl ht hK
    apply s33_6_13_157
    rw [if_pos (nI_le (by omega) (by omega)), if_neg z00, zr_ati]
    exact hK
  | succ m ih =>
    intro i s ty R hi hc hl ht hK
    obtain ⟨t, r⟩ := s
    simp only at hl
    obtain ⟨hlen, hst⟩ := zTyp_s ht
    have ht32 : t < 32 := by omega
    have hcc := hc i (Nat.le_refl _) (by omega)
    have go : ∀ t' r' ty', zev (f 157) (f 14 i) (t, r) = (t', r') → zTyp (f 14) (i + 1) m ty' = some R → ty'.length = t' → zWp X (d + 1) zm33 6 [.ref 13, .int x1, .int (nI b), .ref 157, .int (nI t'), .int (nI (i + 1)), .null] [] (zs (zrI f 19 r') g) (zQi K) := fun t' r' ty' h0 h1 h2 => by
      have hK2 : K ((zfold (zEv (f 14) (f 157)) m (i + 1) (zev (f 157) (f 14 i) (t, r))).2 0) (zrI f 19 (zfold (zEv (f 14) (f 157)) m (i + 1) (zev (f 157) (f 14 i) (t, r))).2) g := hK
      rw [h0] at hK2
      exact ih (i + 1) (t', r') ty' R (by omega) (fun j h1 h2 => hc j (by omega) h2) h2 h1 hK2
    apply s33_6_13_157
    rw [if_neg (nI_ge (by omega) (by omega)), if_neg (show ¬ (32 : Int32) ≤ nI t from nI_ge (b := 32) (by omega) (by omega)), if_neg (nI_in (by omega) (by omega)), nI_cl (k := i) (by omega), zr_ne (j := 14) (by omega)]
    rcases hcc with ⟨n, hn, e⟩ | ⟨w, hw, e⟩ | e | e
    · have e0 : (f 14 i).toInt = n := by rw [e, nI_ti (by omega)]
      have h1 : zTyp (f 14) (i + 1) m (false :: ty) = some R := by
        rcases hst with ⟨-, h⟩ | ⟨h, -⟩ | ⟨h, -⟩ | ⟨h, -⟩ | ⟨h, -⟩
        · exact h
        all_goals (exfalso; omega)
      rw [if_neg (by rw [e]; exact nI_pos (by omega)), if_neg (nI_in (by omega) (by omega)), nI_cl (k := t) (by omega), zr_up, nI_1, nI_1]
      exact go (t + 1) _ (false :: ty) (by unfold zev; rw [if_pos (by omega)]) h1 (by simp [hl])
    · obtain ⟨g1, g2, g3⟩ := zng hw
      have e0 : (f 14 i).toInt = -135 - (w : Int) := by rw [e]; exact g1
      have h1 : zTyp (f 14) (i + 1) m (false :: ty) = some R := by
        rcases hst with ⟨-, h⟩ | ⟨h, -⟩ | ⟨h, -⟩ | ⟨h, -⟩ | ⟨-, h, -⟩
        · exact h
        all_goals (exfalso; omega)
      rw [if_pos (by simp only [Int32.lt_iff_toInt_lt, Int32.le_iff_toInt_le, e0, Int32.reduceToInt]; omega), q124]
      simp only [zb_0, znO.2, e, g2, zsO.2, g3, nI_ti (show 135 + w ≤ 100000 by omega), Int32.reduceToInt]
      rw [if_neg (by omega), if_neg (nI_in (by omega) (by omega)), if_neg (nI_in (by omega) (by omega)), nI_cl (k := t) (by omega), nI_cl (k := w) (by omega), zr_ne (by omega), zr_up, nI_1, nI_1]
      exact go (t + 1) _ (false :: ty) (by
        unfold zev
        rw [if_neg (by omega), if_pos (by omega), e0, show (-135 - (-135 - (w : Int))).toNat = w by omega]) h1 (by simp [hl])
    · have e0 : (f 14 i).toInt = -134 := by rw [e]; decide
      obtain ⟨u, hu, h1⟩ : ∃ u, ty = true :: u ∧ zTyp (f 14) (i + 1) m (true :: u) = some R := by
        rcases hst with ⟨h, -⟩ | ⟨-, h⟩ | ⟨h, -⟩ | ⟨h, -⟩ | ⟨-, -, h, -⟩
        · exfalso; omega
        · exact h
        all_goals (exfalso; omega)
      have ht1 : 0 < t := by rw [← hl, hu]; simp
      rw [if_pos (by rw [e]; decide), q124]
      simp only [zb_0, znO.2, e, zl_134]
      rw [if_pos (by decide), if_pos trivial, if_neg (show ¬ nI t < (1 : Int32) from nI_nlt (b := 1) (by omega) (by omega)), zsO.2, (nI_m1 ht1).2, if_neg (nI_in (by omega) (by omega)), if_neg (nI_in (by omega) (by omega)), nI_cl (k := t - 1) (by omega), zsO.2, zr_ati, zr_up, nI_1]
      exact go t _ (true :: u) (by
        unfold zev
        rw [if_neg (by omega), if_neg (by omega), if_pos e0]) h1 (by rw [← hl, hu])
    · obtain ⟨n1, n2, n3, n4, n5, n6⟩ := zop_neg e
      obtain ⟨ty', hy2, h1⟩ : ∃ ty', 2 ≤ t ∧ zTyp (f 14) (i + 1) m ty' = some R ∧ ty'.length = t - 1 := by
        rcases hst with ⟨h, -⟩ | ⟨h, -⟩ | ⟨-, u, h, h2⟩ | ⟨-, u, h, h2⟩ | ⟨-, -, -, -, -, -, -, -, -, u, h, h2⟩
        · exfalso; omega
        · exact absurd h n6
        all_goals (rw [h] at hl; simp only [List.length_cons] at hl; exact ⟨_, by omega, h2, by simp only [List.length_cons]; omega⟩)
      rw [if_pos n1, q124]
      simp only [zb_0, znO.2, zl_134, Int32.reduceToInt]
      have m2 : nI (t - 1) - 1 = nI (t - 2) := by
        have := (nI_m1 (t := t - 1) (by omega)).2
        rw [show t - 1 - 1 = t - 2 by omega] at this
        exact this
      rw [if_pos n2, if_neg n3, if_neg (show ¬ nI t < (2 : Int32) from nI_nlt (b := 2) (by omega) (by omega)), (nI_m1 (by omega)).1, zsO.2, m2, if_neg (nI_in (by omega) (by omega)), if_neg (nI_in (by omega) (by omega)), nI_cl (k := t - 2) (by omega), nI_cl (k := t - 1) (by omega), zr_ati, zr_ati, q34 e, if_neg (nI_in' (by omega) (by omega)), zr_up, nI_1]
      exact go (t - 1) _ ty' (by
        unfold zev
        rw [if_neg n4, if_neg n5, if_neg n6]) h1.1 h1.2
theorem q33_157 {a b : Nat} {R : List Bool} (hab : a ≤ b) (hb : b ≤ 400) (hc : ∀ j, a ≤ j → j < b → zCc (f 14 j)) (ht : zTyp (f 14) a (b - a) [] = some R) : zCpi X (d + 2) 33 [.ref 13, .int (nI a), .int (nI b), .ref 157] (zs f g) K = K ((zfold (zEv (f 14) (f 157)) (b - a) a (0, f 19)).2 0) (zrI f 19 (zfold (zEv (f 14) (f 157)) (b - a) a (0, f 19)).2) g := by
  refine zCpi_eq (fun K hK => e33_13_157 ?_)
  have z := l33_157 (X := X) (d := d) (f := f) (g := g) (K := K) (x1 := nI a) hb (b - a) a (0, f 19) [] R (by omega) hc rfl ht hK
  rw [zr_id] at z
  exact z
set_option maxHeartbeats 1000000 in
theorem l33_168 {b : Nat} {x1 : Int32} (hb : b ≤ 400) : ∀ m i (s : Nat × (Nat → Int32)) ty R, i + m = b → (∀ j, i ≤ j → j < b → zCc (f 14 j)) → ty.length = s.1 → zTyp (f 14) i m ty = some R → K ((zfold (zEv (f 14) (f 168)) m i s).2 0) (zrI f 19 (zfold (zEv (f 14) (f 168)) m i s).2) g → zWp X (d + 1) zm33 6 [.ref 13, .int x1, .int (nI b), .ref 168, .int (nI s.1), .int (nI i), .null] [] (zs (zrI f 19 s.2) g) (zQi K) := by
  have z00 : ¬ ((0 : Int32) < 0 ∨ 32 ≤ (0 : Int32).toNatClampNeg) := by decide
  intro m
  induction m with
  | zero =>
    intro i s ty R hi hc hl ht hK
    apply s33_6_13_168
    rw [if_pos (nI_le (by omega) (by omega)), if_neg z00, zr_ati]
    exact hK
  | succ m ih =>
    intro i s ty R hi hc hl ht hK
    obtain ⟨t, r⟩ := s
    simp only at hl
    obtain ⟨hlen, hst⟩ := zTyp_s ht
    have ht32 : t < 32 := by omega
    have hcc := hc i (Nat.le_refl _) (by omega)
    have go : ∀ t' r' ty', zev (f 168) (f 14 i) (t, r) = (t', r') → zTyp (f 14) (i + 1) m ty' = some R → ty'.length = t' → zWp X (d + 1) zm33 6 [.ref 13, .int x1, .int (nI b), .ref 168, .int (nI t'), .int (nI (i + 1)), .null] [] (zs (zrI f 19 r') g) (zQi K) := fun t' r' ty' h0 h1 h2 => by
      have hK2 : K ((zfold (zEv (f 14) (f 168)) m (i + 1) (zev (f 168) (f 14 i) (t, r))).2 0) (zrI f 19 (zfold (zEv (f 14) (f 168)) m (i + 1) (zev (f 168) (f 14 i) (t, r))).2) g := hK
      rw [h0] at hK2
      exact ih (i + 1) (t', r') ty' R (by omega) (fun j h1 h2 => hc j (by omega) h2) h2 h1 hK2
    apply s33_6_13_168
    rw [if_neg (nI_ge (by omega) (by omega)), if_neg (show ¬ (32 : Int32) ≤ nI t from nI_ge (b := 32) (by omega) (by omega)), if_neg (nI_in (by omega) (by omega)), nI_cl (k := i) (by omega), zr_ne (j := 14) (by omega)]
    rcases hcc with ⟨n, hn, e⟩ | ⟨w, hw, e⟩ | e | e
    · have e0 : (f 14 i).toInt = n := by rw [e, nI_ti (by omega)]
      have h1 : zTyp (f 14) (i + 1) m (false :: ty) = some R := by
        rcases hst with ⟨-, h⟩ | ⟨h, -⟩ | ⟨h, -⟩ | ⟨h, -⟩ | ⟨h, -⟩
        · exact h
        all_goals (exfalso; omega)
      rw [if_neg (by rw [e]; exact nI_pos (by omega)), if_neg (nI_in (by omega) (by omega)), nI_cl (k := t) (by omega), zr_up, nI_1, nI_1]
      exact go (t + 1) _ (false :: ty) (by unfold zev; rw [if_pos (by omega)]) h1 (by simp [hl])
    · obtain ⟨g1, g2, g3⟩ := zng hw
      have e0 : (f 14 i).toInt = -135 - (w : Int) := by rw [e]; exact g1
      have h1 : zTyp (f 14) (i + 1) m (false :: ty) = some R := by
        rcases hst with ⟨-, h⟩ | ⟨h, -⟩ | ⟨h, -⟩ | ⟨h, -⟩ | ⟨-, h, -⟩
        · exact h
        all_goals (exfalso; omega)
      rw [if_pos (by simp only [Int32.lt_iff_toInt_lt, Int32.le_iff_toInt_le, e0, Int32.reduceToInt]; omega), q124]
      simp only [zb_0, znO.2, e, g2, zsO.2, g3, nI_ti (show 135 + w ≤ 100000 by omega), Int32.reduceToInt]
      rw [if_neg (by omega), if_neg (nI_in (by omega) (by omega)), if_neg (nI_in (by omega) (by omega)), nI_cl (k := t) (by omega), nI_cl (k := w) (by omega), zr_ne (by omega), zr_up, nI_1, nI_1]
      exact go (t + 1) _ (false :: ty) (by
        unfold zev
        rw [if_neg (by omega), if_pos (by omega), e0, show (-135 - (-135 - (w : Int))).toNat = w by omega]) h1 (by simp [hl])
    · have e0 : (f 14 i).toInt = -134 := by rw [e]; decide
      obtain ⟨u, hu, h1⟩ : ∃ u, ty = true :: u ∧ zTyp (f 14) (i + 1) m (true :: u) = some R := by
        rcases hst with ⟨h, -⟩ | ⟨-, h⟩ | ⟨h, -⟩ | ⟨h, -⟩ | ⟨-, -, h, -⟩
        · exfalso; omega
        · exact h
        all_goals (exfalso; omega)
      have ht1 : 0 < t := by rw [← hl, hu]; simp
      rw [if_pos (by rw [e]; decide), q124]
      simp only [zb_0, znO.2, e, zl_134]
      rw [if_pos (by decide), if_pos trivial, if_neg (show ¬ nI t < (1 : Int32) from nI_nlt (b := 1) (by omega) (by omega)), zsO.2, (nI_m1 ht1).2, if_neg (nI_in (by omega) (by omega)), if_neg (nI_in (by omega) (by omega)), nI_cl (k := t - 1) (by omega), zsO.2, zr_ati, zr_up, nI_1]
      exact go t _ (true :: u) (by
        unfold zev
        rw [if_neg (by omega), if_neg (by omega), if_pos e0]) h1 (by rw [← hl, hu])
    · obtain ⟨n1, n2, n3, n4, n5, n6⟩ := zop_neg e
      obtain ⟨ty', hy2, h1⟩ : ∃ ty', 2 ≤ t ∧ zTyp (f 14) (i + 1) m ty' = some R ∧ ty'.length = t - 1 := by
        rcases hst with ⟨h, -⟩ | ⟨h, -⟩ | ⟨-, u, h, h2⟩ | ⟨-, u, h, h2⟩ | ⟨-, -, -, -, -, -, -, -, -, u, h, h2⟩
        · exfalso; omega
        · exact absurd h n6
        all_goals (rw [h] at hl; simp only [List.length_cons] at hl; exact ⟨_, by omega, h2, by simp only [List.length_cons]; omega⟩)
      rw [if_pos n1, q124]
      simp only [zb_0, znO.2, zl_134, Int32.reduceToInt]
      have m2 : nI (t - 1) - 1 = nI (t - 2) := by
        have := (nI_m1 (t := t - 1) (by omega)).2
        rw [show t - 1 - 1 = t - 2 by omega] at this
        exact this
      rw [if_pos n2, if_neg n3, if_neg (show ¬ nI t < (2 : Int32) from nI_nlt (b := 2) (by omega) (by omega)), (nI_m1 (by omega)).1, zsO.2, m2, if_neg (nI_in (by omega) (by omega)), if_neg (nI_in (by omega) (by omega)), nI_cl (k := t - 2) (by omega), nI_cl (k := t - 1) (by omega), zr_ati, zr_ati, q34 e, if_neg (nI_in' (by omega) (by omega)), zr_up, nI_1]
      exact go (t - 1) _ ty' (by
        unfold zev
        rw [if_neg n4, if_neg n5, if_neg n6]) h1.1 h1.2
theorem q33_168 {a b : Nat} {R : List Bool} (hab : a ≤ b) (hb : b ≤ 400) (hc : ∀ j, a ≤ j → j < b → zCc (f 14 j)) (ht : zTyp (f 14) a (b - a) [] = some R) : zCpi X (d + 2) 33 [.ref 13, .int (nI a), .int (nI b), .ref 168] (zs f g) K = K ((zfold (zEv (f 14) (f 168)) (b - a) a (0, f 19)).2 0) (zrI f 19 (zfold (zEv (f 14) (f 168)) (b - a) a (0, f 19)).2) g := by
  refine zCpi_eq (fun K hK => e33_13_168 ?_)
  have z := l33_168 (X := X) (d := d) (f := f) (g := g) (K := K) (x1 := nI a) hb (b - a) a (0, f 19) [] R (by omega) hc rfl ht hK
  rw [zr_id] at z
  exact z
end ZLW

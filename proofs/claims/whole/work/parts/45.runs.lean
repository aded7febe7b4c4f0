/-! the reference's code -/
def zBv (ty : List Bool) (s : Nat × (Nat → Int32)) : Prop := ∀ j, j < s.1 → ty[s.1 - 1 - j]? = some true → s.2 j = 0 ∨ s.2 j = 1
section ZRU
variable {X : Nat × (Nat → Int32)} {d : Nat} {f : Nat → Nat → Int32} {g : Nat → Nat → Int64} {K : Int32 → (Nat → Nat → Int32) → (Nat → Nat → Int64) → Prop}
theorem zb01 {x : Int32} (h : x = 0 ∨ x = 1) {y : Int32} (h2 : y = 0 ∨ y = 1) : x * y = x &&& y ∧ (if x + y ≤ 0 then (0 : Int32) else 1) = x ||| y ∧ ((x &&& y) = 0 ∨ (x &&& y) = 1) ∧ ((x ||| y) = 0 ∨ (x ||| y) = 1) := by
  rcases h with rfl | rfl <;> rcases h2 with rfl | rfl <;> decide
/-- what is joined, by the reference's number of it -/
theorem q227 {c o x y : Int32} (h : (c = -43 ∧ o = 2) ∨ (c = -45 ∧ o = 3) ∨ (c = -42 ∧ o = 4) ∨ (c = -47 ∧ o = 5) ∨ (c = -60 ∧ o = 6) ∨ (c = -61 ∧ o = 7) ∨ (c = -62 ∧ o = 8) ∨ (c = -133 ∧ o = 10) ∨ (c = -132 ∧ o = 11)) (hd : c = -47 → ¬ y = 0) (hb : c = -133 ∨ c = -132 → (x = 0 ∨ x = 1) ∧ (y = 0 ∨ y = 1)) : zCpi X (d + 1) 227 [.ref 178, .int o, .int x, .int y] (zs f g) K = K (zjn c x y) f g := by
  refine zCpi_eq (fun K hK => e227_178 ?_)
  unfold zjn at hK
  rcases h with ⟨rfl, rfl⟩ | ⟨rfl, rfl⟩ | ⟨rfl, rfl⟩ | ⟨rfl, rfl⟩ | ⟨rfl, rfl⟩ | ⟨rfl, rfl⟩ | ⟨rfl, rfl⟩ | ⟨rfl, rfl⟩ | ⟨rfl, rfl⟩
  · rw [if_pos rfl]
    rw [if_neg (by decide), if_pos rfl] at hK
    exact hK
  · rw [if_neg (by decide), if_pos rfl, zsO.2]
    rw [if_neg (by decide), if_neg (by decide), if_pos rfl] at hK
    exact hK
  · rw [if_neg (by decide), if_neg (by decide), if_pos rfl, zmO.2]
    rw [if_pos rfl] at hK
    exact hK
  · rw [if_neg (by decide), if_neg (by decide), if_neg (by decide), if_pos rfl, if_neg (hd rfl), zdO.2]
    rw [if_neg (by decide), if_neg (by decide), if_neg (by decide), if_pos rfl, if_neg (hd rfl)] at hK
    exact hK
  · rw [if_neg (by decide), if_neg (by decide), if_neg (by decide), if_neg (by decide), if_pos rfl]
    rw [if_neg (by decide), if_neg (by decide), if_neg (by decide), if_neg (by decide), if_pos rfl] at hK
    split
    · next e => rw [if_pos e] at hK; exact hK
    · next e => rw [if_neg e] at hK; exact hK
  · rw [if_neg (by decide), if_neg (by decide), if_neg (by decide), if_neg (by decide), if_neg (by decide), if_pos rfl]
    rw [if_neg (by decide), if_neg (by decide), if_neg (by decide), if_neg (by decide), if_neg (by decide), if_pos rfl] at hK
    split
    · next e => rw [if_pos e] at hK; exact hK
    · next e => rw [if_neg e] at hK; exact hK
  · rw [if_neg (by decide), if_neg (by decide), if_neg (by decide), if_neg (by decide), if_neg (by decide), if_neg (by decide), if_pos rfl]
    rw [if_neg (by decide), if_neg (by decide), if_neg (by decide), if_neg (by decide), if_neg (by decide), if_neg (by decide), if_pos rfl] at hK
    split
    · next e => rw [if_pos e] at hK; exact hK
    · next e => rw [if_neg e] at hK; exact hK
  · obtain ⟨hx, hy⟩ := hb (Or.inl rfl)
    rw [if_neg (by decide), if_neg (by decide), if_neg (by decide), if_neg (by decide), if_neg (by decide), if_neg (by decide), if_neg (by decide), if_pos rfl, zmO.2, (zb01 hx hy).1]
    rw [if_neg (by decide), if_neg (by decide), if_neg (by decide), if_neg (by decide), if_neg (by decide), if_neg (by decide), if_neg (by decide), if_pos rfl] at hK
    exact hK
  · obtain ⟨hx, hy⟩ := hb (Or.inr rfl)
    rw [if_neg (by decide), if_neg (by decide), if_neg (by decide), if_neg (by decide), if_neg (by decide), if_neg (by decide), if_neg (by decide), if_neg (by decide)]
    rw [if_neg (by decide), if_neg (by decide), if_neg (by decide), if_neg (by decide), if_neg (by decide), if_neg (by decide), if_neg (by decide), if_neg (by decide), ← (zb01 hx hy).2.1] at hK
    split
    · next e => rw [if_pos e] at hK; exact hK
    · next e => rw [if_neg e] at hK; exact hK
theorem zjn_b {c x y : Int32} (h : c = -60 ∨ c = -61 ∨ c = -62 ∨ ((c = -133 ∨ c = -132) ∧ (x = 0 ∨ x = 1) ∧ (y = 0 ∨ y = 1))) : zjn c x y = 0 ∨ zjn c x y = 1 := by
  unfold zjn
  rcases h with rfl | rfl | rfl | ⟨rfl | rfl, hx, hy⟩
  · rw [if_neg (by decide), if_neg (by decide), if_neg (by decide), if_neg (by decide), if_pos rfl]
    split
    · exact Or.inl rfl
    · exact Or.inr rfl
  · rw [if_neg (by decide), if_neg (by decide), if_neg (by decide), if_neg (by decide), if_neg (by decide), if_pos rfl]
    split
    · exact Or.inr rfl
    · exact Or.inl rfl
  · rw [if_neg (by decide), if_neg (by decide), if_neg (by decide), if_neg (by decide), if_neg (by decide), if_neg (by decide), if_pos rfl]
    split
    · exact Or.inl rfl
    · exact Or.inr rfl
  · rw [if_neg (by decide), if_neg (by decide), if_neg (by decide), if_neg (by decide), if_neg (by decide), if_neg (by decide), if_neg (by decide), if_pos rfl]
    exact (zb01 hx hy).2.2.1
  · rw [if_neg (by decide), if_neg (by decide), if_neg (by decide), if_neg (by decide), if_neg (by decide), if_neg (by decide), if_neg (by decide), if_neg (by decide)]
    exact (zb01 hx hy).2.2.2
theorem zBv_push {ty : List Bool} {t : Nat} {r : Nat → Int32} {v : Int32} (hl : ty.length = t) (h : zBv ty (t, r)) : zBv (false :: ty) (t + 1, zup r t v) := by
  intro j hj hty
  simp only at hj hty ⊢
  unfold zup
  by_cases e : j = t
  · subst e
    rw [show j + 1 - 1 - j = 0 by omega] at hty
    cases hty
  · rw [if_neg e]
    refine h j (by simp only; omega) ?_
    rw [show t + 1 - 1 - j = (t - 1 - j) + 1 by omega, List.getElem?_cons_succ] at hty
    exact hty
theorem zBv_top {ty : List Bool} {t : Nat} {r : Nat → Int32} {v : Int32} {x : Bool} (hl : (x :: ty).length = t) (h : zBv (x :: ty) (t, r)) (hv : x = true → v = 0 ∨ v = 1) : zBv (x :: ty) (t, zup r (t - 1) v) := by
  intro j hj hty
  simp only at hj hty ⊢
  simp only [List.length_cons] at hl
  unfold zup
  by_cases e : j = t - 1
  · rw [if_pos e]
    rw [e, show t - 1 - (t - 1) = 0 by omega] at hty
    exact hv (by simpa using hty)
  · rw [if_neg e]
    exact h j hj hty
theorem zBv_join {ty : List Bool} {t : Nat} {r : Nat → Int32} {v : Int32} {x y z : Bool} (hl : (x :: y :: ty).length = t) (h : zBv (x :: y :: ty) (t, r)) (hv : z = true → v = 0 ∨ v = 1) : zBv (z :: ty) (t - 1, zup r (t - 2) v) := by
  intro j hj hty
  simp only at hj hty ⊢
  simp only [List.length_cons] at hl
  unfold zup
  by_cases e : j = t - 2
  · rw [if_pos e]
    rw [e, show t - 1 - 1 - (t - 2) = 0 by omega] at hty
    exact hv (by simpa using hty)
  · rw [if_neg e]
    refine h j (by simp only; omega) ?_
    rw [show t - 1 - 1 - j = (t - 3 - j) + 1 by omega, List.getElem?_cons_succ] at hty
    simp only
    rw [show t - 1 - j = (t - 3 - j) + 1 + 1 by omega, List.getElem?_cons_succ, List.getElem?_cons_succ]
    exact hty
set_option maxHeartbeats 2000000 in
theorem l226 {cd : Nat → Int32} {a b : Nat} {x2 : Int32} (hb : b ≤ 400) : ∀ m i (s : Nat × (Nat → Int32)) ty R, i + m = b → a ≤ i → (∀ j, i ≤ j → j < b → zCod (cd j) (f 192 j) (f 193 j)) → ty.length = s.1 → zBv ty s → (a < i → 0 ≤ (cd (i - 1)).toInt → 0 < s.1 ∧ s.2 (s.1 - 1) = cd (i - 1)) → (a = i → ty = []) → zTyp cd i m ty = some R → K ((zfold (zEv cd (f 198)) m i s).2 0) (zrI f 199 (zfold (zEv cd (f 198)) m i s).2) g → zWp X (d + 1) zm226 12 [.ref 178, .int 0, .int x2, .int (nI b), .int (nI s.1), .int (nI i)] [] (zs (zrI f 199 s.2) g) (zQi K) := by
  have z00 : ¬ ((0 : Int32) < 0 ∨ 420 ≤ (0 : Int32).toNatClampNeg) := by decide
  have zm : (400 : Int32) * 0 + nI b = nI b := by
    have e := pk_mul 400 0
    rw [show (400 : Int32) * 0 = nI 0 from e, nI_add, Nat.zero_add]
  intro m
  induction m with
  | zero =>
    intro i s ty R hi hai hc hl hB hP hA ht hK
    apply s226_12_178
    rw [zmO.2, zm, if_pos (nI_le (by omega) (by omega)), if_neg z00, zr_ati]
    exact hK
  | succ m ih =>
    intro i s ty R hi hai hc hl hB hP hA ht hK
    obtain ⟨t, r⟩ := s
    simp only at hl hP
    obtain ⟨hlen, hst⟩ := zTyp_s ht
    have hcc := hc i (Nat.le_refl _) (by omega)
    have go : ∀ t' r' ty', zev (f 198) (cd i) (t, r) = (t', r') → zTyp cd (i + 1) m ty' = some R → ty'.length = t' → zBv ty' (t', r') → (0 ≤ (cd i).toInt → 0 < t' ∧ r' (t' - 1) = cd i) → zWp X (d + 1) zm226 12 [.ref 178, .int 0, .int x2, .int (nI b), .int (nI t'), .int (nI (i + 1))] [] (zs (zrI f 199 r') g) (zQi K) := fun t' r' ty' h0 h1 h2 h3 h4 => by
      have hK2 : K ((zfold (zEv cd (f 198)) m (i + 1) (zev (f 198) (cd i) (t, r))).2 0) (zrI f 199 (zfold (zEv cd (f 198)) m (i + 1) (zev (f 198) (cd i) (t, r))).2) g := hK
      rw [h0] at hK2
      exact ih (i + 1) (t', r') ty' R (by omega) (by omega) (fun j h1 h2 => hc j (by omega) h2) h2 h3 (fun _ z => by rw [show i + 1 - 1 = i by omega] at z ⊢; exact h4 z) (fun z => by omega) h1 hK2
    apply s226_12_178
    rw [zmO.2, zm, if_neg (nI_ge (by omega) (by omega))]
    simp only [nI_cl (show i ≤ 100000 by omega), if_neg (nI_in' (c := i) (N := 1200) (by omega) (by omega)), zr_ne (show ¬ 192 = 199 by omega), zr_ne (show ¬ 193 = 199 by omega), zr_ne (show ¬ 198 = 199 by omega)]
    have htl : t < 32 := by omega
    have hin := nI_in (c := t) (N := 420) (by omega) (by omega)
    have opn : ((cd i = -43 ∧ f 192 i = 2) ∨ (cd i = -45 ∧ f 192 i = 3) ∨ (cd i = -42 ∧ f 192 i = 4) ∨ (cd i = -47 ∧ f 192 i = 5) ∨ (cd i = -60 ∧ f 192 i = 6) ∨ (cd i = -61 ∧ f 192 i = 7) ∨ (cd i = -62 ∧ f 192 i = 8) ∨ (cd i = -133 ∧ f 192 i = 10) ∨ (cd i = -132 ∧ f 192 i = 11)) → ∃ ty', 2 ≤ t ∧ zTyp cd (i + 1) m ty' = some R ∧ ty'.length = t - 1 ∧ zBv ty' (t - 1, zup r (t - 2) (zjn (cd i) (r (t - 2)) (r (t - 1)))) ∧ (cd i = -47 → ¬ r (t - 1) = 0) ∧ (cd i = -133 ∨ cd i = -132 → (r (t - 2) = 0 ∨ r (t - 2) = 1) ∧ (r (t - 1) = 0 ∨ r (t - 1) = 1)) := by
      intro ho
      have e : cd i = -43 ∨ cd i = -45 ∨ cd i = -42 ∨ cd i = -47 ∨ cd i = -60 ∨ cd i = -61 ∨ cd i = -62 ∨ cd i = -133 ∨ cd i = -132 := by
        rcases ho with h | h | h | h | h | h | h | h | h <;> simp only [h.1, true_or, or_true]
      obtain ⟨n1, n2, n3, n4, n5, n6⟩ := zop_neg e
      have ti : ∀ k : Int32, cd i = k → (cd i).toInt = k.toInt := fun k h => by rw [h]
      rcases hst with ⟨h, -⟩ | ⟨h, -⟩ | ⟨hk, u, h, h2⟩ | ⟨hk, u, h, h2⟩ | ⟨-, -, -, k3, k2, -, -, -, hdv, u, h, h2⟩
      · exfalso; omega
      · exact absurd h n6
      · have hl2 := hl
        rw [h] at hl2
        simp only [List.length_cons] at hl2
        have b1 : r (t - 1) = 0 ∨ r (t - 1) = 1 := hB (t - 1) (by simp only; omega) (by simp only; rw [h, show t - 1 - (t - 1) = 0 by omega]; rfl)
        have b2 : r (t - 2) = 0 ∨ r (t - 2) = 1 := hB (t - 2) (by simp only; omega) (by simp only; rw [h, show t - 1 - (t - 2) = 1 by omega]; rfl)
        have ck : cd i = -133 ∨ cd i = -132 := by
          rcases hk with hk | hk
          · exact Or.inl (zeqI.mpr hk)
          · exact Or.inr (zeqI.mpr hk)
        refine ⟨true :: u, by omega, h2, by simp only [List.length_cons]; omega, ?_, ?_, fun _ => ⟨b2, b1⟩⟩
        · rw [h] at hB hl
          exact zBv_join hl hB (fun _ => zjn_b (Or.inr (Or.inr (Or.inr ⟨ck, b2, b1⟩))))
        · intro z
          exfalso
          rw [z] at hk
          revert hk
          decide
      · have hl2 := hl
        rw [h] at hl2
        simp only [List.length_cons] at hl2
        have ck : cd i = -60 ∨ cd i = -61 ∨ cd i = -62 := by
          rcases hk with hk | hk | hk
          · exact Or.inl (zeqI.mpr hk)
          · exact Or.inr (Or.inl (zeqI.mpr hk))
          · exact Or.inr (Or.inr (zeqI.mpr hk))
        refine ⟨true :: u, by omega, h2, by simp only [List.length_cons]; omega, ?_, ?_, ?_⟩
        · rw [h] at hB hl
          refine zBv_join hl hB (fun _ => zjn_b ?_)
          rcases ck with ck | ck | ck
          · exact Or.inl ck
          · exact Or.inr (Or.inl ck)
          · exact Or.inr (Or.inr (Or.inl ck))
        · intro z
          exfalso
          rw [z] at hk
          revert hk
          decide
        · intro z
          exfalso
          rcases z with z | z <;> (rw [z] at hk; revert hk; decide)
      · have hl2 := hl
        rw [h] at hl2
        simp only [List.length_cons] at hl2
        refine ⟨false :: u, by omega, h2, by simp only [List.length_cons]; omega, ?_, ?_, ?_⟩
        · rw [h] at hB hl
          exact zBv_join hl hB (fun z => by cases z)
        · intro z
          have hz := hdv (by rw [z]; decide)
          have hlt : a < i := by
            by_cases ea : a = i
            · have := hA ea
              rw [this] at h
              cases h
            · omega
          obtain ⟨-, q2⟩ := hP hlt (by omega)
          rw [q2]
          intro z0
          have hz2 := hz.2
          rw [z0] at hz2
          revert hz2
          decide
        · intro z
          exfalso
          rcases z with z | z
          · exact k3 (by rw [z]; decide)
          · exact k2 (by rw [z]; decide)
    rcases hcc with ⟨n, hn, e, eo, ea⟩ | ⟨w, hw, e, eo, ea⟩ | hop
    · have e0 : (cd i).toInt = n := by rw [e, nI_ti (by omega)]
      have h1 : zTyp cd (i + 1) m (false :: ty) = some R := by
        rcases hst with ⟨-, h⟩ | ⟨h, -⟩ | ⟨h, -⟩ | ⟨h, -⟩ | ⟨h, -⟩
        · exact h
        all_goals (exfalso; omega)
      rw [if_pos eo, if_pos eo, if_neg hin, nI_cl (k := t) (by omega), ea, ← e, zr_up, nI_1, nI_1]
      exact go (t + 1) _ (false :: ty) (by unfold zev; rw [if_pos (by omega)]) h1 (by simp [hl]) (zBv_push hl hB) (fun _ => ⟨by omega, by unfold zup; rw [if_pos (by omega)]⟩)
    · obtain ⟨g1, g2, g3⟩ := zng hw
      have e0 : (cd i).toInt = -135 - (w : Int) := by rw [e]; exact g1
      have h1 : zTyp cd (i + 1) m (false :: ty) = some R := by
        rcases hst with ⟨-, h⟩ | ⟨h, -⟩ | ⟨h, -⟩ | ⟨h, -⟩ | ⟨-, h, -⟩
        · exact h
        all_goals (exfalso; omega)
      have n0 : ¬ f 192 i = 0 := by rw [eo]; decide
      rw [if_neg n0, if_pos eo, if_neg n0, ea, if_neg (nI_in (by omega) (by omega)), if_neg hin, nI_cl (k := t) (by omega), nI_cl (k := w) (by omega), zr_up, nI_1, nI_1]
      exact go (t + 1) _ (false :: ty) (by
        unfold zev
        rw [if_neg (by omega), if_pos (by omega), e0, show (-135 - (-135 - (w : Int))).toNat = w by omega]) h1 (by simp [hl]) (zBv_push hl hB) (fun z => by omega)
    · by_cases hnot : cd i = -134 ∧ f 192 i = 9
      · obtain ⟨e, eo⟩ := hnot
        have e0 : (cd i).toInt = -134 := by rw [e]; decide
        obtain ⟨u, hu, h1⟩ : ∃ u, ty = true :: u ∧ zTyp cd (i + 1) m (true :: u) = some R := by
          rcases hst with ⟨h, -⟩ | ⟨-, h⟩ | ⟨h, -⟩ | ⟨h, -⟩ | ⟨-, -, h, -⟩
          · exfalso; omega
          · exact h
          all_goals (exfalso; omega)
        have ht1 : 0 < t := by rw [← hl, hu]; simp
        have bt : r (t - 1) = 0 ∨ r (t - 1) = 1 := hB (t - 1) (by simp only; omega) (by simp only; rw [hu, show t - 1 - (t - 1) = 0 by omega]; rfl)
        rw [if_neg (by rw [eo]; decide), if_neg (by rw [eo]; decide), if_pos eo, zsO.2, (nI_m1 ht1).2, if_neg (nI_in (by omega) (by omega)), if_neg (nI_in (by omega) (by omega)), nI_cl (k := t - 1) (by omega), zsO.2, zr_ati, zr_up, nI_1]
        refine go t _ (true :: u) (by
          unfold zev
          rw [if_neg (by omega), if_neg (by omega), if_pos e0]) h1 (by rw [← hl, hu]) ?_ (fun z => by omega)
        rw [hu] at hB hl
        refine zBv_top hl hB (fun _ => ?_)
        rcases bt with bt | bt <;> rw [bt] <;> decide
      · have ho : (cd i = -43 ∧ f 192 i = 2) ∨ (cd i = -45 ∧ f 192 i = 3) ∨ (cd i = -42 ∧ f 192 i = 4) ∨ (cd i = -47 ∧ f 192 i = 5) ∨ (cd i = -60 ∧ f 192 i = 6) ∨ (cd i = -61 ∧ f 192 i = 7) ∨ (cd i = -62 ∧ f 192 i = 8) ∨ (cd i = -133 ∧ f 192 i = 10) ∨ (cd i = -132 ∧ f 192 i = 11) := by
          rcases hop with h | h | h | h | h | h | h | h | h | h
          · exact Or.inl h
          · exact Or.inr (Or.inl h)
          · exact Or.inr (Or.inr (Or.inl h))
          · exact Or.inr (Or.inr (Or.inr (Or.inl h)))
          · exact Or.inr (Or.inr (Or.inr (Or.inr (Or.inl h))))
          · exact Or.inr (Or.inr (Or.inr (Or.inr (Or.inr (Or.inl h)))))
          · exact Or.inr (Or.inr (Or.inr (Or.inr (Or.inr (Or.inr (Or.inl h))))))
          · exact absurd h hnot
          · exact Or.inr (Or.inr (Or.inr (Or.inr (Or.inr (Or.inr (Or.inr (Or.inl h)))))))
          · exact Or.inr (Or.inr (Or.inr (Or.inr (Or.inr (Or.inr (Or.inr (Or.inr h)))))))
        have no : ¬ f 192 i = 0 ∧ ¬ f 192 i = 1 ∧ ¬ f 192 i = 9 := by
          rcases ho with h | h | h | h | h | h | h | h | h <;> rw [h.2] <;> decide
        have e : cd i = -43 ∨ cd i = -45 ∨ cd i = -42 ∨ cd i = -47 ∨ cd i = -60 ∨ cd i = -61 ∨ cd i = -62 ∨ cd i = -133 ∨ cd i = -132 := by
          rcases ho with h | h | h | h | h | h | h | h | h <;> simp only [h.1, true_or, or_true]
        obtain ⟨n1, n2, n3, n4, n5, n6⟩ := zop_neg e
        obtain ⟨ty', y1, y2, y3, y4, y5, y6⟩ := opn ho
        have m2 : nI (t - 1) - 1 = nI (t - 2) := by
          have := (nI_m1 (t := t - 1) (by omega)).2
          rw [show t - 1 - 1 = t - 2 by omega] at this
          exact this
        simp only [zsO.2, (nI_m1 (show 0 < t by omega)).2, m2]
        rw [if_neg no.1, if_neg no.2.1, if_neg no.2.2, if_neg (nI_in (by omega) (by omega)), if_neg (nI_in (by omega) (by omega)), nI_cl (k := t - 2) (by omega), nI_cl (k := t - 1) (by omega), zr_ati, zr_ati, q227 ho y5 y6, if_neg (nI_in' (by omega) (by omega)), zr_up, nI_1]
        exact go (t - 1) _ ty' (by
          unfold zev
          rw [if_neg n4, if_neg n5, if_neg n6]) y2 y3 y4 (fun z => absurd z n4)
theorem q226 {cd : Nat → Int32} {a b : Nat} {R : List Bool} (hab : a ≤ b) (hb : b ≤ 400) (hc : ∀ j, a ≤ j → j < b → zCod (cd j) (f 192 j) (f 193 j)) (ht : zTyp cd a (b - a) [] = some R) : zCpi X (d + 2) 226 [.ref 178, .int 0, .int (nI a), .int (nI b)] (zs f g) K = K ((zfold (zEv cd (f 198)) (b - a) a (0, f 199)).2 0) (zrI f 199 (zfold (zEv cd (f 198)) (b - a) a (0, f 199)).2) g := by
  refine zCpi_eq (fun K hK => e226_178 ?_)
  have zm : (400 : Int32) * 0 + nI a = nI a := by
    have e := pk_mul 400 0
    rw [show (400 : Int32) * 0 = nI 0 from e, nI_add, Nat.zero_add]
  rw [zmO.2, zm]
  have z := l226 (X := X) (d := d) (f := f) (g := g) (K := K) (x2 := nI a) (a := a) (cd := cd) hb (b - a) a (0, f 199) [] R (by omega) (Nat.le_refl _) hc rfl (fun j hj => by simp only at hj; omega) (fun z => by omega) (fun _ => rfl) ht hK
  rw [zr_id] at z
  exact z
end ZRU

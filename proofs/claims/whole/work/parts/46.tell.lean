/-! what the law tells -/
theorem zEv_eq {cd v1 v2 : Nat → Int32} (hv : ∀ w, w < 9 → v2 w = v1 w) : ∀ m i (s s2 : Nat × (Nat → Int32)) ty R, zTyp cd i m ty = some R → ty.length = s.1 → s2.1 = s.1 → (∀ j, j < s.1 → s2.2 j = s.2 j) → (zfold (zEv cd v2) m i s2).1 = (zfold (zEv cd v1) m i s).1 ∧ (zfold (zEv cd v1) m i s).1 = R.length ∧ ∀ j, j < (zfold (zEv cd v1) m i s).1 → (zfold (zEv cd v2) m i s2).2 j = (zfold (zEv cd v1) m i s).2 j := by
  intro m
  induction m with
  | zero =>
    intro i s s2 ty R ht hl h1 h2
    simp only [zTyp, Option.some.injEq] at ht
    refine ⟨h1, ?_, h2⟩
    rw [← ht, hl]
    rfl
  | succ m ih =>
    intro i s s2 ty R ht hl h1 h2
    obtain ⟨t, r⟩ := s
    obtain ⟨t2, r2⟩ := s2
    simp only at hl h1 h2
    subst h1
    obtain ⟨hlen, hst⟩ := zTyp_s ht
    show (zfold (zEv cd v2) m (i + 1) (zev v2 (cd i) (t2, r2))).1 = (zfold (zEv cd v1) m (i + 1) (zev v1 (cd i) (t2, r))).1 ∧ _
    have go : ∀ t' a b ty', zev v1 (cd i) (t2, r) = (t', a) → zev v2 (cd i) (t2, r2) = (t', b) → zTyp cd (i + 1) m ty' = some R → ty'.length = t' → (∀ j, j < t' → b j = a j) → _ := fun t' a b ty' e1 e2 e3 e4 e5 => ih (i + 1) (t', a) (t', b) ty' R e3 e4 rfl e5
    by_cases h0 : 0 ≤ (cd i).toInt
    · have h3 : zTyp cd (i + 1) m (false :: ty) = some R := by
        rcases hst with ⟨-, h⟩ | ⟨h, -⟩ | ⟨h, -⟩ | ⟨h, -⟩ | ⟨h, -⟩
        · exact h
        all_goals (exfalso; omega)
      have e1 : zev v1 (cd i) (t2, r) = (t2 + 1, zup r t2 (cd i)) := by unfold zev; rw [if_pos h0]
      have e2 : zev v2 (cd i) (t2, r2) = (t2 + 1, zup r2 t2 (cd i)) := by unfold zev; rw [if_pos h0]
      have z := go (t2 + 1) _ _ (false :: ty) e1 e2 h3 (by simp [hl]) (fun j hj => by
        unfold zup
        by_cases e : j = t2
        · rw [if_pos e, if_pos e]
        · rw [if_neg e, if_neg e]; exact h2 j (by omega))
      rw [← e1, ← e2] at z
      exact z
    · by_cases hw : -143 ≤ (cd i).toInt ∧ (cd i).toInt ≤ -135
      · have h3 : zTyp cd (i + 1) m (false :: ty) = some R := by
          rcases hst with ⟨-, h⟩ | ⟨h, -⟩ | ⟨h, -⟩ | ⟨h, -⟩ | ⟨-, h, -⟩
          · exact h
          all_goals (exfalso; omega)
        have e1 : zev v1 (cd i) (t2, r) = (t2 + 1, zup r t2 (v1 (-135 - (cd i).toInt).toNat)) := by unfold zev; rw [if_neg h0, if_pos hw]
        have e2 : zev v2 (cd i) (t2, r2) = (t2 + 1, zup r2 t2 (v2 (-135 - (cd i).toInt).toNat)) := by unfold zev; rw [if_neg h0, if_pos hw]
        have z := go (t2 + 1) _ _ (false :: ty) e1 e2 h3 (by simp [hl]) (fun j hj => by
          unfold zup
          by_cases e : j = t2
          · rw [if_pos e, if_pos e]; exact hv _ (by omega)
          · rw [if_neg e, if_neg e]; exact h2 j (by omega))
        rw [← e1, ← e2] at z
        exact z
      · by_cases h4 : (cd i).toInt = -134
        · obtain ⟨u, hu, h3⟩ : ∃ u, ty = true :: u ∧ zTyp cd (i + 1) m (true :: u) = some R := by
            rcases hst with ⟨h, -⟩ | ⟨-, h⟩ | ⟨h, -⟩ | ⟨h, -⟩ | ⟨-, -, h, -⟩
            · exfalso; omega
            · exact h
            all_goals (exfalso; omega)
          have ht1 : 0 < t2 := by rw [← hl, hu]; simp
          have e1 : zev v1 (cd i) (t2, r) = (t2, zup r (t2 - 1) (1 - r (t2 - 1))) := by unfold zev; rw [if_neg h0, if_neg hw, if_pos h4]
          have e2 : zev v2 (cd i) (t2, r2) = (t2, zup r2 (t2 - 1) (1 - r2 (t2 - 1))) := by unfold zev; rw [if_neg h0, if_neg hw, if_pos h4]
          have z := go t2 _ _ (true :: u) e1 e2 h3 (by rw [← hl, hu]) (fun j hj => by
            unfold zup
            by_cases e : j = t2 - 1
            · rw [if_pos e, if_pos e, h2 (t2 - 1) (by omega)]
            · rw [if_neg e, if_neg e]; exact h2 j (by omega))
          rw [← e1, ← e2] at z
          exact z
        · obtain ⟨ty', hy2, h3, h5⟩ : ∃ ty', 2 ≤ t2 ∧ zTyp cd (i + 1) m ty' = some R ∧ ty'.length = t2 - 1 := by
            rcases hst with ⟨h, -⟩ | ⟨h, -⟩ | ⟨-, u, h, h2⟩ | ⟨-, u, h, h2⟩ | ⟨-, -, -, -, -, -, -, -, -, u, h, h2⟩
            · exfalso; omega
            · exact absurd h h4
            all_goals (rw [h] at hl; simp only [List.length_cons] at hl; exact ⟨_, by omega, h2, by simp only [List.length_cons]; omega⟩)
          have e1 : zev v1 (cd i) (t2, r) = (t2 - 1, zup r (t2 - 2) (zjn (cd i) (r (t2 - 2)) (r (t2 - 1)))) := by unfold zev; rw [if_neg h0, if_neg hw, if_neg h4]
          have e2 : zev v2 (cd i) (t2, r2) = (t2 - 1, zup r2 (t2 - 2) (zjn (cd i) (r2 (t2 - 2)) (r2 (t2 - 1)))) := by unfold zev; rw [if_neg h0, if_neg hw, if_neg h4]
          have z := go (t2 - 1) _ _ ty' e1 e2 h3 h5 (fun j hj => by
            unfold zup
            by_cases e : j = t2 - 2
            · rw [if_pos e, if_pos e, h2 (t2 - 1) (by omega), h2 (t2 - 2) (by omega)]
            · rw [if_neg e, if_neg e]; exact h2 j (by omega))
          rw [← e1, ← e2] at z
          exact z
/-- what code from a to b comes to -/
def zvl (cd vals : Nat → Int32) (a b : Nat) : Int32 := (zfold (zEv cd vals) (b - a) a (0, fun _ => 0)).2 0
theorem zvl_eq {cd v1 v2 r : Nat → Int32} {a b : Nat} {x : Bool} (hv : ∀ w, w < 9 → v2 w = v1 w) (ht : zTyp cd a (b - a) [] = some [x]) : (zfold (zEv cd v2) (b - a) a (0, r)).2 0 = zvl cd v1 a b := by
  obtain ⟨h1, h2, h3⟩ := zEv_eq hv (b - a) a (0, fun _ => 0) (0, r) [] [x] ht rfl rfl (fun j hj => by simp only at hj; omega)
  exact h3 0 (by rw [h2]; show 0 < 1; omega)
/-- a line that holds, its sum; else what is told without -/
def ztl (wl al bl cl : Nat → Nat) (ev : Nat → Nat → Int32) (w : Nat) (df : Int32) : Nat → Nat → Int32
  | 0, _ => df
  | m + 1, l => if wl l = w ∧ (bl l = cl l ∨ ¬ ev (bl l) (cl l) = 0) then ev (al l) (bl l) else ztl wl al bl cl ev w df m (l + 1)
def zli (wl al bl cl : Nat → Nat) (ev : Nat → Nat → Int32) (w : Nat) : Nat → Nat → Option Nat
  | 0, _ => none
  | m + 1, l => if wl l = w ∧ (bl l = cl l ∨ ¬ ev (bl l) (cl l) = 0) then some l else zli wl al bl cl ev w m (l + 1)
theorem ztl_li {wl al bl cl : Nat → Nat} {ev : Nat → Nat → Int32} {w : Nat} {df : Int32} : ∀ m l, ztl wl al bl cl ev w df m l = (match zli wl al bl cl ev w m l with
  | some p => ev (al p) (bl p)
  | none => df) ∧ ∀ p, zli wl al bl cl ev w m l = some p → p < l + m
  | 0, l => ⟨rfl, fun p hp => by cases hp⟩
  | m + 1, l => by
    unfold ztl zli
    split
    · exact ⟨rfl, fun p hp => by cases hp; omega⟩
    · obtain ⟨h1, h2⟩ := ztl_li (wl := wl) (al := al) (bl := bl) (cl := cl) (ev := ev) (w := w) (df := df) m (l + 1)
      exact ⟨h1, fun p hp => by have := h2 p hp; omega⟩
theorem zhe_mm {lo hi v : Int32} (h : lo.toInt ≤ hi.toInt) : zmx lo (zmn hi v) = zhe v lo hi := by
  rw [zeqI, zmx_t, zmn_t]
  unfold zhe
  simp only [Int32.lt_iff_toInt_lt, Int32.le_iff_toInt_le]
  split
  · omega
  · split <;> omega
/-- bounds by the word -/
def zlo (w : Nat) : Int32 := if w = 0 then -999 else 0
def zhi (w : Nat) : Int32 := if w = 0 then 999 else if w = 1 then 1000 else 50
def zdf (w : Nat) (v : Nat → Int32) : Int32 := if w = 0 then 20 * v 0 - 10 * v 2 - 30 * v 3 else if w = 1 then 200 - 20 * v 1 else v 1
/-- the law as the class has it: lines' numbers as Nats -/
def zLk (f : Nat → Nat → Int32) (k : Nat) (wl al bl cl : Nat → Nat) : Prop := k ≤ 16 ∧ f 13 7 = nI k ∧ ∀ l, l < k → wl l < 3 ∧ al l ≤ bl l ∧ bl l ≤ cl l ∧ cl l ≤ 400 ∧ f 15 l = nI (128 + wl l) ∧ f 16 l = nI (al l) ∧ f 17 l = nI (bl l) ∧ f 18 l = nI (cl l) ∧ (∀ i, al l ≤ i → i < cl l → zCc (f 14 i)) ∧ zTyp (f 14) (al l) (bl l - al l) [] = some [false] ∧ (bl l = cl l ∨ zTyp (f 14) (bl l) (cl l - bl l) [] = some [true])
/-- as the reference has it -/
def zLj (f : Nat → Nat → Int32) (cd : Nat → Int32) (k : Nat) (wl al bl cl : Nat → Nat) : Prop := k ≤ 16 ∧ f 187 0 = nI k ∧ ∀ l, l < k → wl l < 3 ∧ al l ≤ bl l ∧ bl l ≤ cl l ∧ cl l ≤ 400 ∧ f 188 l = nI (wl l) ∧ f 189 l = nI (al l) ∧ f 190 l = nI (bl l) ∧ f 191 l = nI (cl l) ∧ (∀ i, al l ≤ i → i < cl l → zCod (cd i) (f 192 i) (f 193 i)) ∧ zTyp cd (al l) (bl l - al l) [] = some [false] ∧ (bl l = cl l ∨ zTyp cd (bl l) (cl l - bl l) [] = some [true])
theorem zr_zr {f : Nat → Nat → Int32} {a : Nat} {r r2 : Nat → Int32} : zrI (zrI f a r) a r2 = zrI f a r2 := by
  funext i
  unfold zrI
  by_cases e : i = a
  · rw [if_pos e, if_pos e]
  · rw [if_neg e, if_neg e, if_neg e]
section ZTE
variable {X : Nat × (Nat → Int32)} {d : Nat} {f : Nat → Nat → Int32} {g : Nat → Nat → Int64} {K : Int32 → (Nat → Nat → Int32) → (Nat → Nat → Int64) → Prop} {k w : Nat} {wl al bl cl : Nat → Nat}
theorem q35 {w : Nat} {v : Int32} (hw : w < 3) : zCpi X (d + 2) 35 [.int (nI (128 + w)), .int v] (zs f g) K = K (zhe v (zlo w) (zhi w)) f g := by
  refine zCpi_eq (fun K hK => e35 ?_)
  have h : w = 0 ∨ w = 1 ∨ w = 2 := by omega
  rcases h with rfl | rfl | rfl
  · rw [if_pos (show nI (128 + 0) = (128 : Int32) from rfl)]
    simp only [q288, q287, zl_999, zhe_mm (show (-999 : Int32).toInt ≤ (999 : Int32).toInt from by decide)]
    exact hK
  · rw [if_neg (show ¬ nI (128 + 1) = (128 : Int32) from by decide), if_pos (show nI (128 + 1) = (129 : Int32) from rfl)]
    simp only [q288, q287, zhe_mm (show (0 : Int32).toInt ≤ (1000 : Int32).toInt from by decide)]
    exact hK
  · rw [if_neg (show ¬ nI (128 + 2) = (128 : Int32) from by decide), if_neg (show ¬ nI (128 + 2) = (129 : Int32) from by decide)]
    simp only [q288, q287, zhe_mm (show (0 : Int32).toInt ≤ (50 : Int32).toInt from by decide)]
    exact hK
theorem q36_157 {w : Nat} (hw : w < 3) : zCpi X (d + 1) 36 [.int (nI (128 + w)), .ref 157] (zs f g) K = K (zdf w (f 157)) f g := by
  refine zCpi_eq (fun K hK => e36_157 ?_)
  have h : w = 0 ∨ w = 1 ∨ w = 2 := by omega
  rcases h with rfl | rfl | rfl
  · rw [if_pos (show nI (128 + 0) = (128 : Int32) from rfl), if_neg (by decide), if_neg (by decide), if_neg (by decide), zsO.2, zsO.2, zmO.2, zmO.2, zmO.2]
    exact hK
  · rw [if_neg (show ¬ nI (128 + 1) = (128 : Int32) from by decide), if_pos (show nI (128 + 1) = (129 : Int32) from rfl), if_neg (by decide), zsO.2, zmO.2]
    exact hK
  · rw [if_neg (show ¬ nI (128 + 2) = (128 : Int32) from by decide), if_neg (show ¬ nI (128 + 2) = (129 : Int32) from by decide), if_neg (by decide)]
    exact hK
theorem l32_157 (hL : zLk f k wl al bl cl) (hw : w < 3) (hK : ∀ r, K (zhe (ztl wl al bl cl (zvl (f 14) (f 157)) w (zdf w (f 157)) k 0) (zlo w) (zhi w)) (zrI f 19 r) g) : zCpi X (d + 4) 32 [.ref 13, .int (nI (128 + w)), .ref 157] (zs f g) K := by
  apply e32_13_157
  obtain ⟨hk, h7, hl⟩ := hL
  have z : ∀ m l, l + m = k → (∀ r, K (zhe (ztl wl al bl cl (zvl (f 14) (f 157)) w (zdf w (f 157)) m l) (zlo w) (zhi w)) (zrI f 19 r) g) → ∀ r, zWp X (d + 3) zm32 2 [.ref 13, .int (nI (128 + w)), .ref 157, .int (nI l)] [] (zs (zrI f 19 r) g) (zQi K) := by
    intro m
    induction m with
    | zero =>
      intro l hlm hK r
      apply s32_2_13_157
      rw [zr_ne (by omega), h7, if_pos (nI_le (by omega) (by omega)), q36_157 hw, q35 hw, zr_ne (by omega)]
      exact hK r
    | succ m ih =>
      intro l hlm hK r
      obtain ⟨y1, y2, y3, y4, y5, y6, y7, y8, y9, y10, y11⟩ := hl l (by omega)
      have r14 : ∀ r, zrI f 19 r 14 = f 14 := fun r => zr_ne (by omega)
      have rv : ∀ r, zrI f 19 r 157 = f 157 := fun r => zr_ne (by omega)
      have qs : ∀ {a b : Nat} {x : Bool} {r : Nat → Int32} {K : Int32 → (Nat → Nat → Int32) → (Nat → Nat → Int64) → Prop}, a ≤ b → b ≤ 400 → (∀ j, a ≤ j → j < b → zCc (f 14 j)) → zTyp (f 14) a (b - a) [] = some [x] → ∃ r', zCpi X (d + 2 + 1) 33 [.ref 13, .int (nI a), .int (nI b), .ref 157] (zs (zrI f 19 r) g) K = K (zvl (f 14) (f 157) a b) (zrI f 19 r') g := fun {a b x r K} h1 h2 h3 h4 => by
        refine ⟨(zfold (zEv (f 14) (f 157)) (b - a) a (0, r)).2, ?_⟩
        have q := q33_157 (X := X) (d := d + 1) (f := zrI f 19 r) (g := g) (K := K) (R := [x]) h1 h2 (fun j a1 a2 => by rw [r14]; exact h3 j a1 a2) (by rw [r14]; exact h4)
        rw [r14, rv, zr_at, zvl_eq (fun _ _ => rfl) h4, zr_zr] at q
        exact q
      unfold ztl at hK
      apply s32_2_13_157
      simp only [zr_ne (show ¬ 13 = 19 by omega), zr_ne (show ¬ 15 = 19 by omega), zr_ne (show ¬ 16 = 19 by omega), zr_ne (show ¬ 17 = 19 by omega), zr_ne (show ¬ 18 = 19 by omega), h7, nI_cl (show l ≤ 100000 by omega), y5, y6, y7, y8]
      rw [if_neg (nI_ge (by omega) (by omega)), if_neg (nI_in' (by omega) (by omega))]
      simp only [if_neg (nI_in' (c := l) (N := 16) (by omega) (by omega))]
      by_cases hwl : wl l = w
      · rw [if_pos (show nI (128 + wl l) = nI (128 + w) by rw [hwl])]
        by_cases hbc : bl l = cl l
        · rw [if_pos ⟨hwl, Or.inl hbc⟩] at hK
          rw [if_pos (show nI (bl l) = nI (cl l) by rw [hbc])]
          obtain ⟨r', e⟩ := qs (r := r) (K := fun v9 f7 g8 => zCpi X (d + 2 + 1) 35 [.int (nI (128 + w)), .int v9] (zs f7 g8) (fun v12 f10 g11 => K v12 f10 g11)) y2 (by omega) (fun j a1 a2 => y9 j a1 (by omega)) y10
          rw [e, q35 hw]
          exact hK r'
        · have y11' := y11.resolve_left hbc
          rw [if_neg (nI_neq (by omega) (by omega) hbc)]
          obtain ⟨r', e⟩ := qs (r := r) (K := fun v15 f13 g14 => if v15 = 0 then zWp X (d + 2 + 1) zm32 2 [.ref 13, .int (nI (128 + w)), .ref 157, .int (nI l + 1)] [] (zs f13 g14) (zQi K) else zCpi X (d + 2 + 1) 33 [.ref 13, .int (f13 16 l), .int (f13 17 l), .ref 157] (zs f13 g14) (fun v18 f16 g17 => zCpi X (d + 2 + 1) 35 [.int (nI (128 + w)), .int v18] (zs f16 g17) (fun v21 f19 g20 => K v21 f19 g20))) y3 y4 (fun j a1 a2 => y9 j (by omega) a2) y11'
          rw [e]
          by_cases hz : zvl (f 14) (f 157) (bl l) (cl l) = 0
          · rw [if_neg (fun z => z.2.elim hbc (fun q => q hz))] at hK
            rw [if_pos hz, nI_1]
            exact ih (l + 1) (by omega) hK r'
          · rw [if_pos ⟨hwl, Or.inr hz⟩] at hK
            rw [if_neg hz, zr_ne (by omega), zr_ne (by omega), y6, y7]
            obtain ⟨r2, e2⟩ := qs (r := r') (K := fun v9 f7 g8 => zCpi X (d + 2 + 1) 35 [.int (nI (128 + w)), .int v9] (zs f7 g8) (fun v12 f10 g11 => K v12 f10 g11)) y2 (by omega) (fun j a1 a2 => y9 j a1 (by omega)) y10
            rw [e2, q35 hw]
            exact hK r2
      · rw [if_neg (fun z => hwl z.1)] at hK
        rw [if_neg (nI_neq (by omega) (by omega) (by omega)), nI_1]
        exact ih (l + 1) (by omega) hK r
  have z0 := z k 0 (by omega) hK (f 19)
  rw [zr_id] at z0
  exact z0
theorem q36_168 {w : Nat} (hw : w < 3) : zCpi X (d + 1) 36 [.int (nI (128 + w)), .ref 168] (zs f g) K = K (zdf w (f 168)) f g := by
  refine zCpi_eq (fun K hK => e36_168 ?_)
  have h : w = 0 ∨ w = 1 ∨ w = 2 := by omega
  rcases h with rfl | rfl | rfl
  · rw [if_pos (show nI (128 + 0) = (128 : Int32) from rfl), if_neg (by decide), if_neg (by decide), if_neg (by decide), zsO.2, zsO.2, zmO.2, zmO.2, zmO.2]
    exact hK
  · rw [if_neg (show ¬ nI (128 + 1) = (128 : Int32) from by decide), if_pos (show nI (128 + 1) = (129 : Int32) from rfl), if_neg (by decide), zsO.2, zmO.2]
    exact hK
  · rw [if_neg (show ¬ nI (128 + 2) = (128 : Int32) from by decide), if_neg (show ¬ nI (128 + 2) = (129 : Int32) from by decide), if_neg (by decide)]
    exact hK
theorem l32_168 (hL : zLk f k wl al bl cl) (hw : w < 3) (hK : ∀ r, K (zhe (ztl wl al bl cl (zvl (f 14) (f 168)) w (zdf w (f 168)) k 0) (zlo w) (zhi w)) (zrI f 19 r) g) : zCpi X (d + 4) 32 [.ref 13, .int (nI (128 + w)), .ref 168] (zs f g) K := by
  apply e32_13_168
  obtain ⟨hk, h7, hl⟩ := hL
  have z : ∀ m l, l + m = k → (∀ r, K (zhe (ztl wl al bl cl (zvl (f 14) (f 168)) w (zdf w (f 168)) m l) (zlo w) (zhi w)) (zrI f 19 r) g) → ∀ r, zWp X (d + 3) zm32 2 [.ref 13, .int (nI (128 + w)), .ref 168, .int (nI l)] [] (zs (zrI f 19 r) g) (zQi K) := by
    intro m
    induction m with
    | zero =>
      intro l hlm hK r
      apply s32_2_13_168
      rw [zr_ne (by omega), h7, if_pos (nI_le (by omega) (by omega)), q36_168 hw, q35 hw, zr_ne (by omega)]
      exact hK r
    | succ m ih =>
      intro l hlm hK r
      obtain ⟨y1, y2, y3, y4, y5, y6, y7, y8, y9, y10, y11⟩ := hl l (by omega)
      have r14 : ∀ r, zrI f 19 r 14 = f 14 := fun r => zr_ne (by omega)
      have rv : ∀ r, zrI f 19 r 168 = f 168 := fun r => zr_ne (by omega)
      have qs : ∀ {a b : Nat} {x : Bool} {r : Nat → Int32} {K : Int32 → (Nat → Nat → Int32) → (Nat → Nat → Int64) → Prop}, a ≤ b → b ≤ 400 → (∀ j, a ≤ j → j < b → zCc (f 14 j)) → zTyp (f 14) a (b - a) [] = some [x] → ∃ r', zCpi X (d + 2 + 1) 33 [.ref 13, .int (nI a), .int (nI b), .ref 168] (zs (zrI f 19 r) g) K = K (zvl (f 14) (f 168) a b) (zrI f 19 r') g := fun {a b x r K} h1 h2 h3 h4 => by
        refine ⟨(zfold (zEv (f 14) (f 168)) (b - a) a (0, r)).2, ?_⟩
        have q := q33_168 (X := X) (d := d + 1) (f := zrI f 19 r) (g := g) (K := K) (R := [x]) h1 h2 (fun j a1 a2 => by rw [r14]; exact h3 j a1 a2) (by rw [r14]; exact h4)
        rw [r14, rv, zr_at, zvl_eq (fun _ _ => rfl) h4, zr_zr] at q
        exact q
      unfold ztl at hK
      apply s32_2_13_168
      simp only [zr_ne (show ¬ 13 = 19 by omega), zr_ne (show ¬ 15 = 19 by omega), zr_ne (show ¬ 16 = 19 by omega), zr_ne (show ¬ 17 = 19 by omega), zr_ne (show ¬ 18 = 19 by omega), h7, nI_cl (show l ≤ 100000 by omega), y5, y6, y7, y8]
      rw [if_neg (nI_ge (by omega) (by omega)), if_neg (nI_in' (by omega) (by omega))]
      simp only [if_neg (nI_in' (c := l) (N := 16) (by omega) (by omega))]
      by_cases hwl : wl l = w
      · rw [if_pos (show nI (128 + wl l) = nI (128 + w) by rw [hwl])]
        by_cases hbc : bl l = cl l
        · rw [if_pos ⟨hwl, Or.inl hbc⟩] at hK
          rw [if_pos (show nI (bl l) = nI (cl l) by rw [hbc])]
          obtain ⟨r', e⟩ := qs (r := r) (K := fun v9 f7 g8 => zCpi X (d + 2 + 1) 35 [.int (nI (128 + w)), .int v9] (zs f7 g8) (fun v12 f10 g11 => K v12 f10 g11)) y2 (by omega) (fun j a1 a2 => y9 j a1 (by omega)) y10
          rw [e, q35 hw]
          exact hK r'
        · have y11' := y11.resolve_left hbc
          rw [if_neg (nI_neq (by omega) (by omega) hbc)]
          obtain ⟨r', e⟩ := qs (r := r) (K := fun v15 f13 g14 => if v15 = 0 then zWp X (d + 2 + 1) zm32 2 [.ref 13, .int (nI (128 + w)), .ref 168, .int (nI l + 1)] [] (zs f13 g14) (zQi K) else zCpi X (d + 2 + 1) 33 [.ref 13, .int (f13 16 l), .int (f13 17 l), .ref 168] (zs f13 g14) (fun v18 f16 g17 => zCpi X (d + 2 + 1) 35 [.int (nI (128 + w)), .int v18] (zs f16 g17) (fun v21 f19 g20 => K v21 f19 g20))) y3 y4 (fun j a1 a2 => y9 j (by omega) a2) y11'
          rw [e]
          by_cases hz : zvl (f 14) (f 168) (bl l) (cl l) = 0
          · rw [if_neg (fun z => z.2.elim hbc (fun q => q hz))] at hK
            rw [if_pos hz, nI_1]
            exact ih (l + 1) (by omega) hK r'
          · rw [if_pos ⟨hwl, Or.inr hz⟩] at hK
            rw [if_neg hz, zr_ne (by omega), zr_ne (by omega), y6, y7]
            obtain ⟨r2, e2⟩ := qs (r := r') (K := fun v9 f7 g8 => zCpi X (d + 2 + 1) 35 [.int (nI (128 + w)), .int v9] (zs f7 g8) (fun v12 f10 g11 => K v12 f10 g11)) y2 (by omega) (fun j a1 a2 => y9 j a1 (by omega)) y10
            rw [e2, q35 hw]
            exact hK r2
      · rw [if_neg (fun z => hwl z.1)] at hK
        rw [if_neg (nI_neq (by omega) (by omega) (by omega)), nI_1]
        exact ih (l + 1) (by omega) hK r
  have z0 := z k 0 (by omega) hK (f 19)
  rw [zr_id] at z0
  exact z0
variable {cd v1 : Nat → Int32}
theorem qs226 {a b : Nat} {x : Bool} {r : Nat → Int32} (hv : ∀ w, w < 9 → f 198 w = v1 w) (h1 : a ≤ b) (h2 : b ≤ 400) (h3 : ∀ j, a ≤ j → j < b → zCod (cd j) (f 192 j) (f 193 j)) (h4 : zTyp cd a (b - a) [] = some [x]) : ∃ r', ∀ K : Int32 → (Nat → Nat → Int32) → (Nat → Nat → Int64) → Prop, zCpi X (d + 2) 226 [.ref 178, .int 0, .int (nI a), .int (nI b)] (zs (zrI f 199 r) g) K = K (zvl cd v1 a b) (zrI f 199 r') g := by
  refine ⟨(zfold (zEv cd (f 198)) (b - a) a (0, r)).2, fun K => ?_⟩
  have q := q226 (X := X) (d := d) (f := zrI f 199 r) (g := g) (K := K) (cd := cd) (R := [x]) h1 h2 (fun j a1 a2 => by rw [zr_ne (by omega), zr_ne (by omega)]; exact h3 j a1 a2) h4
  rw [zr_ne (j := 198) (by omega), zr_at, zvl_eq hv h4, zr_zr] at q
  exact q
theorem l225 (hL : zLj f cd k wl al bl cl) (hv : ∀ w, w < 9 → f 198 w = v1 w) (hw : w < 3) : ∀ m l r, l + m = k → (∀ r, K (match zli wl al bl cl (zvl cd v1) w m l with
    | some p => nI p
    | none => -1) (zrI f 199 r) g) → zWp X (d + 2) zm225 2 [.ref 178, .int (nI w), .int (nI l)] [] (zs (zrI f 199 r) g) (zQi K) := by
  obtain ⟨hk, h7, hl⟩ := hL
  have z00 : ¬ ((0 : Int32) < 0 ∨ 2 ≤ (0 : Int32).toNatClampNeg) := by decide
  intro m
  induction m with
  | zero =>
    intro l r hlm hK
    apply s225_2_178
    rw [if_neg z00, zr_ne (by omega), h7, if_pos (nI_le (by omega) (by omega))]
    exact hK r
  | succ m ih =>
    intro l r hlm hK
    obtain ⟨y1, y2, y3, y4, y5, y6, y7, y8, y9, y10, y11⟩ := hl l (by omega)
    unfold zli at hK
    apply s225_2_178
    simp only [if_neg z00, zr_ne (show ¬ 187 = 199 by omega), zr_ne (show ¬ 188 = 199 by omega), zr_ne (show ¬ 190 = 199 by omega), zr_ne (show ¬ 191 = 199 by omega), h7, nI_cl (show l ≤ 100000 by omega), y5, y7, y8, if_neg (nI_in' (c := l) (N := 48) (by omega) (by omega))]
    rw [if_neg (nI_ge (by omega) (by omega))]
    by_cases hwl : wl l = w
    · rw [if_pos (show nI (wl l) = nI w by rw [hwl])]
      by_cases hbc : bl l = cl l
      · rw [if_pos ⟨hwl, Or.inl hbc⟩] at hK
        rw [if_pos (show nI (bl l) = nI (cl l) by rw [hbc])]
        exact hK r
      · have y11' := y11.resolve_left hbc
        rw [if_neg (nI_neq (by omega) (by omega) hbc)]
        obtain ⟨r', e⟩ := qs226 (X := X) (d := d) (f := f) (g := g) (cd := cd) (v1 := v1) (r := r) hv y3 y4 (fun j a1 a2 => y9 j (by omega) a2) y11'
        rw [e]
        by_cases hz : zvl cd v1 (bl l) (cl l) = 0
        · rw [if_neg (fun z => z.2.elim hbc (fun q => q hz))] at hK
          rw [if_pos hz, nI_1]
          exact ih (l + 1) r' (by omega) hK
        · rw [if_pos ⟨hwl, Or.inr hz⟩] at hK
          rw [if_neg hz]
          exact hK r'
    · rw [if_neg (fun z => hwl z.1)] at hK
      rw [if_neg (nI_neq (by omega) (by omega) hwl), nI_1]
      exact ih (l + 1) r (by omega) hK
theorem l224 {df lo hi : Int32} (hL : zLj f cd k wl al bl cl) (hv : ∀ w, w < 9 → f 198 w = v1 w) (hw : w < 3) (hK : ∀ r, K (zhe (ztl wl al bl cl (zvl cd v1) w df k 0) lo hi) (zrI f 199 r) g) : zCpi X (d + 4) 224 [.ref 178, .int (nI w), .int df, .int lo, .int hi] (zs f g) K := by
  apply e224_178
  apply e225_178
  obtain ⟨t1, t2⟩ := ztl_li (wl := wl) (al := al) (bl := bl) (cl := cl) (ev := zvl cd v1) (w := w) (df := df) k 0
  have z := l225 (X := X) (d := d) (f := f) (g := g) (K := fun v3 f1 g2 => if v3 = -1 then zCpi X (d + 3) 228 [.ref 178, .int df, .int lo, .int hi] (zs f1 g2) (fun v6 f4 g5 => K v6 f4 g5) else (if v3 < 0 ∨ 48 ≤ v3.toNatClampNeg then False else (if v3 < 0 ∨ 48 ≤ v3.toNatClampNeg then False else zCpi X (d + 3) 226 [.ref 178, .int 0, .int (f1 189 v3.toNatClampNeg), .int (f1 190 v3.toNatClampNeg)] (zs f1 g2) (fun v9 f7 g8 => zCpi X (d + 3) 228 [.ref 178, .int v9, .int lo, .int hi] (zs f7 g8) (fun v12 f10 g11 => K v12 f10 g11))))) hL hv hw k 0 (f 199) (by omega) ?_
  · rw [zr_id] at z
    exact z
  intro r
  obtain ⟨hk, h7, hl⟩ := hL
  cases hli : zli wl al bl cl (zvl cd v1) w k 0 with
  | none =>
    rw [hli] at t1
    simp only at t1
    rw [t1] at hK
    simp only
    rw [if_pos trivial, q228]
    exact hK r
  | some p =>
    rw [hli] at t1
    simp only at t1
    rw [t1] at hK
    have hp := t2 p hli
    obtain ⟨y1, y2, y3, y4, y5, y6, y7, y8, y9, y10, y11⟩ := hl p (by omega)
    simp only
    rw [if_neg (nI_nem (by omega)), if_neg (nI_in (by omega) (by omega)), if_neg (nI_in (by omega) (by omega)), nI_cl (by omega), zr_ne (by omega), zr_ne (by omega), y6, y7]
    obtain ⟨r', e⟩ := qs226 (X := X) (d := d + 1) (f := f) (g := g) (cd := cd) (v1 := v1) (r := r) hv y2 (by omega) (fun j a1 a2 => y9 j a1 (by omega)) y10
    rw [e, q228]
    exact hK r'
end ZTE

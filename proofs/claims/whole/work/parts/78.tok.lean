/-! tokens: what they are, and the class's -/
def zlB (x : Int) : Bool := (decide (97 ≤ x) && decide (x ≤ 122)) || (decide (65 ≤ x) && decide (x ≤ 90))
def zdB (x : Int) : Bool := decide (48 ≤ x) && decide (x ≤ 57)
def zsB (x : Int) : Bool := decide (x = 32) || decide (x = 10)
/-- as far as it is so -/
def zxt (p : Int → Bool) (b : Nat → Nat) (n : Nat) : Nat → Nat → Nat
  | 0, i => i
  | u + 1, i => if i < n ∧ p (b i) = true then zxt p b n u (i + 1) else i
theorem zxt_ge {p : Int → Bool} {b : Nat → Nat} {n : Nat} : ∀ u i, i ≤ zxt p b n u i
  | 0, _ => Nat.le_refl _
  | u + 1, i => by
    unfold zxt
    split
    · have := zxt_ge (p := p) (b := b) (n := n) u (i + 1)
      omega
    · exact Nat.le_refl _
theorem zxt_le {p : Int → Bool} {b : Nat → Nat} {n : Nat} : ∀ u i, i ≤ n → zxt p b n u i ≤ n
  | 0, _, h => h
  | u + 1, i, h => by
    unfold zxt
    split
    · next e => exact zxt_le u (i + 1) (by omega)
    · exact h
/-- enough is enough -/
theorem zxt_u {p : Int → Bool} {b : Nat → Nat} {n : Nat} : ∀ u v i, n ≤ i + u → n ≤ i + v → zxt p b n u i = zxt p b n v i
  | 0, 0, _, _, _ => rfl
  | 0, v + 1, i, h, _ => by
    unfold zxt
    rw [if_neg (by omega)]
  | u + 1, 0, i, _, h => by
    unfold zxt
    rw [if_neg (by omega)]
  | u + 1, v + 1, i, h1, h2 => by
    unfold zxt
    split
    · exact zxt_u u v (i + 1) (by omega) (by omega)
    · rfl
theorem zxt_stop {p : Int → Bool} {b : Nat → Nat} {n : Nat} : ∀ u i, n ≤ i + u → zxt p b n u i < n → ¬ p (b (zxt p b n u i)) = true
  | 0, i, h, h2 => by
    unfold zxt at h2
    omega
  | u + 1, i, h, h2 => by
    unfold zxt at h2 ⊢
    by_cases e : i < n ∧ p (b i) = true
    · rw [if_pos e] at h2 ⊢
      exact zxt_stop u (i + 1) (by omega) h2
    · rw [if_neg e] at h2 ⊢
      exact fun z => e ⟨h2, z⟩
def zskp (b : Nat → Nat) (n i : Nat) : Nat := zxt zsB b n 400 i
def zbhd (b : Nat → Nat) (n i : Nat) : Nat := if zlB (b i) = true then zxt zlB b n 400 (i + 1) else if zdB (b i) = true then zxt zdB b n 400 (i + 1) else i + 1
theorem zbhd_lt {b : Nat → Nat} {n i : Nat} (h : i < n) : i < zbhd b n i ∧ zbhd b n i ≤ n := by
  unfold zbhd
  have a1 := zxt_ge (p := zlB) (b := b) (n := n) 400 (i + 1)
  have a2 := zxt_le (p := zlB) (b := b) (n := n) 400 (i + 1) (by omega)
  have a3 := zxt_ge (p := zdB) (b := b) (n := n) 400 (i + 1)
  have a4 := zxt_le (p := zdB) (b := b) (n := n) 400 (i + 1) (by omega)
  split
  · omega
  · split <;> omega
/-- where the tokens begin -/
def ztp (b : Nat → Nat) (n : Nat) : Nat → Nat
  | 0 => zskp b n 0
  | j + 1 => zskp b n (zbhd b n (ztp b n j))
def zwrds : List (List Nat) := [[104, 101, 97, 114, 115], [115, 108, 105, 112, 115], [98, 101, 110, 100, 115], [119, 104, 101, 110], [111, 114], [97, 110, 100], [110, 111, 116], [108, 111, 117, 100], [101, 97, 114], [102, 97, 114], [112, 105, 108, 108, 97, 114, 115], [111, 102, 102], [110, 111, 116, 101], [119, 114, 111, 110, 103], [115, 111, 117, 110, 100, 105, 110, 103], [98, 101, 97, 116], [97, 116], [112, 108, 97, 121, 101, 114], [115, 101, 97, 116], [116, 117, 110, 101], [104, 117, 115, 104], [112, 105, 108, 108, 97, 114]]
/-- is it this word -/
def zwm (b : Nat → Nat) (p q : Nat) : List Nat → Bool
  | [] => decide (p = q)
  | c :: t => decide (p < q) && decide (b p = c) && zwm b (p + 1) q t
/-- which word it is; k + number, or 1 -/
def zwix (b : Nat → Nat) (p q : Nat) : List (List Nat) → Nat → Nat
  | [], _ => 1
  | w :: t, k => if zwm b p q w = true then k else zwix b p q t (k + 1)
def zsgs : List Nat := [59, 43, 45, 42, 47, 40, 41, 60, 61, 62]
def znv (b : Nat → Nat) (i v : Nat) : Nat := 10 * v + (b i - 48)
def ztkd (b : Nat → Nat) (p q : Nat) : Nat := if zlB (b p) = true then zwix b p q zwrds 128 else if zdB (b p) = true then (if q - p ≤ 4 then 2 else 1) else if zsgs.contains (b p) = true then b p else 1
def ztvl (b : Nat → Nat) (p q : Nat) : Nat := if zlB (b p) = true then 0 else if zdB (b p) = true then (if q - p ≤ 4 then zfold (znv b) (q - p) p 0 else 0) else 0
section ZTK
variable {X : Nat × (Nat → Int32)} {d : Nat} {f : Nat → Nat → Int32} {g : Nat → Nat → Int64} {K : Int32 → (Nat → Nat → Int32) → (Nat → Nat → Int64) → Prop} {b : Nat → Nat} {n : Nat}
theorem q80 {a : Int32} : zCpi X (d + 2) 80 [.int a] (zs f g) K = K (zb (zlB a.toInt = true)) f g := by
  refine zCpi_eq (fun K hK => e80 ?_)
  have e1 : (97 : Int32).toInt = 97 := rfl
  have e2 : (122 : Int32).toInt = 122 := rfl
  have e3 : (65 : Int32).toInt = 65 := rfl
  have e4 : (90 : Int32).toInt = 90 := rfl
  unfold zb zlB at hK
  simp only [Bool.or_eq_true, Bool.and_eq_true, decide_eq_true_eq] at hK
  rw [q124, e1, e2]
  by_cases h1 : 97 ≤ a.toInt ∧ a.toInt ≤ 122
  · rw [if_pos (Or.inl h1)] at hK
    rw [if_neg (by rw [zb_0]; exact fun z => z h1), if_pos (Or.inr rfl)]
    exact hK
  · rw [if_pos (by rw [zb_0]; exact h1), q124, e3, e4]
    by_cases h2 : 65 ≤ a.toInt ∧ a.toInt ≤ 90
    · rw [if_pos (Or.inr h2)] at hK
      rw [if_neg (by rw [zb_0]; exact fun z => z h2), if_pos (Or.inr rfl)]
      exact hK
    · rw [if_neg (fun z => z.elim h1 h2)] at hK
      rw [if_pos (by rw [zb_0]; exact h2), if_pos (Or.inl rfl)]
      exact hK
theorem q177 {a : Int32} : zCpi X (d + 2) 177 [.ref 178, .int a] (zs f g) K = K (zb (zlB a.toInt = true)) f g := by
  refine zCpi_eq (fun K hK => e177_178 ?_)
  have e1 : (97 : Int32).toInt = 97 := rfl
  have e2 : (122 : Int32).toInt = 122 := rfl
  have e3 : (65 : Int32).toInt = 65 := rfl
  have e4 : (90 : Int32).toInt = 90 := rfl
  unfold zb zlB at hK
  simp only [Bool.or_eq_true, Bool.and_eq_true, decide_eq_true_eq] at hK
  rw [q165, e1, e2]
  by_cases h1 : 97 ≤ a.toInt ∧ a.toInt ≤ 122
  · rw [if_pos (Or.inl h1)] at hK
    rw [if_neg (by rw [zb_0]; exact fun z => z h1), if_pos (Or.inr rfl)]
    exact hK
  · rw [if_pos (by rw [zb_0]; exact h1), q165, e3, e4]
    by_cases h2 : 65 ≤ a.toInt ∧ a.toInt ≤ 90
    · rw [if_pos (Or.inr h2)] at hK
      rw [if_neg (by rw [zb_0]; exact fun z => z h2), if_pos (Or.inr rfl)]
      exact hK
    · rw [if_neg (fun z => z.elim h1 h2)] at hK
      rw [if_pos (by rw [zb_0]; exact h2), if_pos (Or.inl rfl)]
      exact hK
theorem q81 {a : Int32} : zCpi X (d + 2) 81 [.int a] (zs f g) K = K (zb (zdB a.toInt = true)) f g := by
  refine zCpi_eq (fun K hK => e81 ?_)
  have e : zb ((48 : Int32).toInt ≤ a.toInt ∧ a.toInt ≤ (57 : Int32).toInt) = zb (zdB a.toInt = true) := zsn_ev _ _ (by
    unfold zdB
    simp only [Bool.and_eq_true, decide_eq_true_eq]
    exact Iff.rfl)
  rw [q124, e, if_pos (by rw [zb_or]; trivial)]
  exact hK
theorem q179 {a : Int32} : zCpi X (d + 2) 179 [.ref 178, .int a] (zs f g) K = K (zb (zdB a.toInt = true)) f g := by
  refine zCpi_eq (fun K hK => e179_178 ?_)
  have e : zb ((48 : Int32).toInt ≤ a.toInt ∧ a.toInt ≤ (57 : Int32).toInt) = zb (zdB a.toInt = true) := zsn_ev _ _ (by
    unfold zdB
    simp only [Bool.and_eq_true, decide_eq_true_eq]
    exact Iff.rfl)
  rw [q165, e, if_pos (by rw [zb_or]; trivial)]
  exact hK
/-- the tape's bytes -/
def zBy (f : Nat → Nat → Int32) (b : Nat → Nat) (n : Nat) : Prop := n ≤ 400 ∧ f 65 5 = nI n ∧ ∀ i, i < n → f 66 i = nI (b i) ∧ b i ≤ 255
theorem l79_16 {x : Int32} (hB : zBy f b n) : ∀ u i, n ≤ i + u → i ≤ n → K (nI (zxt zlB b n u i)) f g → zWp X (d + 2) zm79 16 [.ref 65, .int x, .int (nI i)] [] (zs f g) (zQi K)
  | 0, i, h, h2, hK => by
    obtain ⟨b1, b2, b3⟩ := hB
    apply s79_16_65
    rw [b2, if_pos (nI_le (by omega) (by omega))]
    exact hK
  | u + 1, i, h, h2, hK => by
    obtain ⟨b1, b2, b3⟩ := id hB
    apply s79_16_65
    unfold zxt at hK
    by_cases hi : i < n
    · rw [b2, if_neg (nI_ge hi (by omega)), if_neg (nI_in (by omega) (by omega)), nI_cl (by omega), (b3 i hi).1, q80, nI_ti (by have := (b3 i hi).2; omega)]
      by_cases e : zlB (b i) = true
      · rw [if_pos ⟨hi, e⟩] at hK
        rw [if_neg (by rw [zb_0]; exact fun z => z e), nI_1]
        exact l79_16 hB u (i + 1) (by omega) (by omega) hK
      · rw [if_neg (fun z => e z.2)] at hK
        rw [if_pos (by rw [zb_0]; exact e)]
        exact hK
    · rw [if_neg (fun z => hi z.1)] at hK
      rw [b2, if_pos (nI_le (by omega) (by omega))]
      exact hK
theorem l79_54 {x : Int32} (hB : zBy f b n) : ∀ u i, n ≤ i + u → i ≤ n → K (nI (zxt zdB b n u i)) f g → zWp X (d + 2) zm79 54 [.ref 65, .int x, .int (nI i)] [] (zs f g) (zQi K)
  | 0, i, h, h2, hK => by
    obtain ⟨b1, b2, b3⟩ := hB
    apply s79_54_65
    rw [b2, if_pos (nI_le (by omega) (by omega))]
    exact hK
  | u + 1, i, h, h2, hK => by
    obtain ⟨b1, b2, b3⟩ := id hB
    apply s79_54_65
    unfold zxt at hK
    by_cases hi : i < n
    · rw [b2, if_neg (nI_ge hi (by omega)), if_neg (nI_in (by omega) (by omega)), nI_cl (by omega), (b3 i hi).1, q81, nI_ti (by have := (b3 i hi).2; omega)]
      by_cases e : zdB (b i) = true
      · rw [if_pos ⟨hi, e⟩] at hK
        rw [if_neg (by rw [zb_0]; exact fun z => z e), nI_1]
        exact l79_54 hB u (i + 1) (by omega) (by omega) hK
      · rw [if_neg (fun z => e z.2)] at hK
        rw [if_pos (by rw [zb_0]; exact e)]
        exact hK
    · rw [if_neg (fun z => hi z.1)] at hK
      rw [b2, if_pos (nI_le (by omega) (by omega))]
      exact hK
theorem q79 {i : Nat} (hB : zBy f b n) (hi : i < n) : zCpi X (d + 3) 79 [.ref 65, .int (nI i)] (zs f g) K = K (nI (zbhd b n i)) f g := by
  obtain ⟨b1, b2, b3⟩ := id hB
  refine zCpi_eq (fun K hK => e79_65 ?_)
  unfold zbhd at hK
  rw [if_neg (nI_in (by omega) (by omega)), nI_cl (by omega), (b3 i hi).1, q80, nI_ti (by have := (b3 i hi).2; omega)]
  by_cases e : zlB (b i) = true
  · rw [if_pos e] at hK
    rw [if_neg (by rw [zb_0]; exact fun z => z e), nI_1]
    exact l79_16 hB 400 (i + 1) (by omega) (by omega) hK
  · rw [if_neg e] at hK
    rw [if_pos (by rw [zb_0]; exact e), if_neg (nI_in' (by omega) (by omega)), q81, (b3 i hi).1, nI_ti (by have := (b3 i hi).2; omega)]
    by_cases e2 : zdB (b i) = true
    · rw [if_pos e2] at hK
      rw [if_neg (by rw [zb_0]; exact fun z => z e2), nI_1]
      exact l79_54 hB 400 (i + 1) (by omega) (by omega) hK
    · rw [if_neg e2] at hK
      rw [if_pos (by rw [zb_0]; exact e2), nI_1]
      exact hK
/-! the two constants -/
theorem zs_len : (zsb 5001).length = 116 := by decide +kernel
theorem q9001 : zCpi X (d + 1) 9001 [.ref 5001] (zs f g) K = K 116 f g := by
  refine zCpi_eq (fun K hK => ?_)
  refine zCp_str (v := .int 116) (by omega) ?_ ⟨116, f, g, rfl, rfl, hK⟩
  show (if 9001 = 9001 then some (Value.int (Int32.ofNat (zsb 5001).length)) else none) = _
  rw [if_pos rfl, zs_len]
  rfl
theorem q9002 {i : Nat} (hi : i < 116) : zCpi X (d + 1) 9002 [.ref 5001, .int (nI i)] (zs f g) K = K (nI ((zsb 5001).getD i 0)) f g := by
  refine zCpi_eq (fun K hK => ?_)
  refine zCp_str (v := .int (nI ((zsb 5001).getD i 0))) (by omega) ?_ ⟨_, f, g, rfl, rfl, hK⟩
  unfold zstr
  simp only [Nat.reduceEqDiff, ↓reduceIte]
  rw [zs_len, if_neg (nI_in (by omega) (by omega)), nI_cl (by omega)]
  rfl
theorem q9003 {x : Int32} : zCpi X (d + 1) 9003 [.ref 5000, .int x] (zs f g) K = K (zix (zsb 5000) x 0) f g := by
  refine zCpi_eq (fun K hK => ?_)
  refine zCp_str (v := .int (zix (zsb 5000) x 0)) (by omega) ?_ ⟨_, f, g, rfl, rfl, hK⟩
  unfold zstr
  simp only [Nat.reduceEqDiff, ↓reduceIte]
theorem zix_sg : ∀ c, c < 256 → (zix (zsb 5000) (nI c) 0 < 0 ↔ ¬ zsgs.contains c = true) ∧ ((nI c).toUInt32 % 65536).toInt32 = nI c := by decide +kernel
/-- the words, sign by sign -/
def zwk (b : Nat → Nat) (p q : Nat) : List Nat → Nat → Nat → Bool → Nat
  | [], _, _, _ => 1
  | c :: t, k, l, s => if c = 32 then (if s = true ∧ l = q - p then k else zwk b p q t (k + 1) 0 true) else zwk b p q t k (l + 1) (s && decide (p + l < q) && decide (b (p + l) = c))
theorem zwk_w {p q : Nat} (hpq : p ≤ q) : ∀ (w rest : List Nat) (k l : Nat) (s : Bool), (∀ c, c ∈ w → ¬ c = 32) → zwk b p q (w ++ 32 :: rest) k l s = if s = true ∧ zwm b (p + l) q w = true then k else zwk b p q rest (k + 1) 0 true
  | [], rest, k, l, s, _ => by
    show (if 32 = 32 then (if s = true ∧ l = q - p then k else zwk b p q rest (k + 1) 0 true) else _) = _
    rw [if_pos rfl]
    have e : (zwm b (p + l) q [] = true) ↔ l = q - p := by
      unfold zwm
      rw [decide_eq_true_eq]
      omega
    by_cases h : s = true ∧ l = q - p
    · rw [if_pos h, if_pos ⟨h.1, e.mpr h.2⟩]
    · rw [if_neg h, if_neg (fun z => h ⟨z.1, e.mp z.2⟩)]
  | c :: w, rest, k, l, s, hw => by
    have hc : ¬ c = 32 := hw c List.mem_cons_self
    show (if c = 32 then _ else zwk b p q (w ++ 32 :: rest) k (l + 1) (s && decide (p + l < q) && decide (b (p + l) = c))) = _
    rw [if_neg hc, zwk_w hpq w rest k (l + 1) _ (fun x hx => hw x (List.mem_cons_of_mem _ hx))]
    have e : ((s && decide (p + l < q) && decide (b (p + l) = c)) = true ∧ zwm b (p + (l + 1)) q w = true) ↔ (s = true ∧ zwm b (p + l) q (c :: w) = true) := by
      have ew : zwm b (p + l) q (c :: w) = (decide (p + l < q) && decide (b (p + l) = c) && zwm b (p + (l + 1)) q w) := rfl
      rw [ew]
      simp only [Bool.and_eq_true, decide_eq_true_eq]
      constructor
      · rintro ⟨⟨⟨x1, x2⟩, x3⟩, x4⟩
        exact ⟨x1, ⟨x2, x3⟩, x4⟩
      · rintro ⟨x1, ⟨x2, x3⟩, x4⟩
        exact ⟨⟨⟨x1, x2⟩, x3⟩, x4⟩
    by_cases h : s = true ∧ zwm b (p + l) q (c :: w) = true
    · rw [if_pos (e.mpr h), if_pos h]
    · rw [if_neg (fun z => h (e.mp z)), if_neg h]
theorem zwk_all {p q : Nat} (hpq : p ≤ q) : ∀ (ws : List (List Nat)) (k : Nat), (∀ w, w ∈ ws → ∀ c, c ∈ w → ¬ c = 32) → zwk b p q (ws.flatMap (fun w => w ++ [32])) k 0 true = zwix b p q ws k
  | [], k, _ => rfl
  | w :: t, k, h => by
    have e : (w :: t).flatMap (fun w => w ++ [32]) = w ++ 32 :: t.flatMap (fun w => w ++ [32]) := by
      rw [List.flatMap_cons, List.append_assoc]
      rfl
    rw [e, zwk_w hpq w _ k 0 true (h w List.mem_cons_self), zwk_all hpq t (k + 1) (fun x hx => h x (List.mem_cons_of_mem _ hx))]
    show _ = (if zwm b p q w = true then k else zwix b p q t (k + 1))
    by_cases h2 : zwm b p q w = true
    · rw [if_pos ⟨rfl, h2⟩, if_pos h2]
    · rw [if_neg (fun z => h2 z.2), if_neg h2]
theorem zwrds_f : zwrds.flatMap (fun w => w ++ [32]) = zsb 5001 := by decide +kernel
theorem zwrds_n : ∀ w, w ∈ zwrds → ∀ c, c ∈ w → ¬ c = 32 := by decide +kernel
theorem zsb_le : ∀ i, i < 116 → (zsb 5001).getD i 0 ≤ 255 := by decide +kernel
theorem q83 {p q : Nat} (hB : zBy f b n) (hpq : p ≤ q) (hq : q ≤ n) : zCpi X (d + 2) 83 [.ref 65, .int (nI p), .int (nI q)] (zs f g) K = K (nI (zwix b p q zwrds 128)) f g := by
  obtain ⟨b1, b2, b3⟩ := id hB
  refine zCpi_eq (fun K hK => e83_65 ?_)
  rw [← zwk_all hpq zwrds 128 zwrds_n, zwrds_f] at hK
  have hl : ∀ (u i k l : Nat) (s : Bool), i + u = 116 → l ≤ i → K (nI (zwk b p q ((zsb 5001).drop i) k l s)) f g → zWp X (d + 1) zm83 13 [.ref 65, .int (nI p), .int (nI q), .int (nI k), .int (nI l), .int (if s = true then 1 else 0), .int (nI i), .null] [] (zs f g) (zQi K) := by
    intro u
    induction u with
    | zero =>
      intro i k l s hi hli hk
      have ei : i = 116 := by omega
      subst ei
      rw [List.drop_of_length_le (by rw [zs_len]; omega)] at hk
      apply s83_13_65
      rw [q9001, if_pos (by decide)]
      exact hk
    | succ u ih =>
      intro i k l s hi hli hk
      have hlt : i < (zsb 5001).length := by rw [zs_len]; omega
      have ed : (zsb 5001).drop i = (zsb 5001)[i] :: (zsb 5001).drop (i + 1) := List.drop_eq_getElem_cons hlt
      have eg : (zsb 5001).getD i 0 = (zsb 5001)[i] := by
        rw [List.getD_eq_getElem?_getD, List.getElem?_eq_getElem hlt]
        rfl
      rw [ed, ← eg] at hk
      have hc := zsb_le i (by omega)
      obtain ⟨c, ec⟩ : ∃ c, c = (zsb 5001).getD i 0 := ⟨_, rfl⟩
      rw [← ec] at hk hc
      have hk' : K (nI (if c = 32 then (if s = true ∧ l = q - p then k else zwk b p q ((zsb 5001).drop (i + 1)) (k + 1) 0 true) else zwk b p q ((zsb 5001).drop (i + 1)) k (l + 1) (s && decide (p + l < q) && decide (b (p + l) = c)))) f g := hk
      apply s83_13_65
      rw [q9001, if_neg (show ¬ (116 : Int32) ≤ nI i from nI_ge (b := 116) (by omega) (by omega)), q9002 (by omega), ← ec, nI_1, nI_1, nI_1]
      by_cases c32 : c = 32
      · rw [if_pos c32] at hk'
        rw [if_pos (show nI c = (32 : Int32) by rw [c32]; rfl)]
        by_cases hs : s = true
        · rw [if_pos hs, if_neg (by decide)]
          by_cases hl2 : l = q - p
          · rw [if_pos ⟨hs, hl2⟩] at hk'
            rw [if_pos (by rw [zsO.2, pk_sub hpq, hl2])]
            exact hk'
          · rw [if_neg (fun z => hl2 z.2)] at hk'
            rw [if_neg (by rw [zsO.2, pk_sub hpq]; exact nI_neq (by omega) (by omega) hl2)]
            exact ih (i + 1) (k + 1) 0 true (by omega) (by omega) hk'
        · rw [if_neg (fun z => hs z.1)] at hk'
          rw [if_neg hs, if_pos rfl]
          exact ih (i + 1) (k + 1) 0 true (by omega) (by omega) hk'
      · rw [if_neg c32] at hk'
        rw [if_neg (show ¬ nI c = (32 : Int32) from nI_neq (c := 32) (by omega) (by omega) c32)]
        by_cases hs : s = true
        · rw [if_pos hs, if_neg (by decide), nI_add]
          by_cases h1 : p + l < q
          · rw [if_neg (nI_ge h1 (by omega)), if_neg (nI_in (by omega) (by omega)), nI_cl (by omega), (b3 (p + l) (by omega)).1]
            have hb5 := (b3 (p + l) (by omega)).2
            by_cases h2 : b (p + l) = c
            · rw [hs, decide_eq_true h1, decide_eq_true h2] at hk'
              rw [if_pos (by rw [h2])]
              exact ih (i + 1) k (l + 1) true (by omega) (by omega) hk'
            · rw [decide_eq_false h2, Bool.and_false] at hk'
              rw [if_neg (nI_neq (by omega) (by omega) h2)]
              exact ih (i + 1) k (l + 1) false (by omega) (by omega) hk'
          · rw [decide_eq_false h1, Bool.and_false, Bool.false_and] at hk'
            rw [if_pos (nI_le (by omega) (by omega))]
            exact ih (i + 1) k (l + 1) false (by omega) (by omega) hk'
        · have hs' : s = false := by
            rcases hb : s with _ | _
            · rfl
            · exact absurd hb hs
          rw [hs', Bool.false_and, Bool.false_and] at hk'
          rw [if_neg hs, if_pos rfl]
          exact ih (i + 1) k (l + 1) false (by omega) (by omega) hk'
  exact hl 116 0 128 0 true (by omega) (by omega) hK
theorem zdB_b {c : Nat} (h : zdB c = true) : 48 ≤ c ∧ c ≤ 57 := by
  unfold zdB at h
  simp only [Bool.and_eq_true, decide_eq_true_eq] at h
  omega
theorem q84 {p q T : Nat} (hB : zBy f b n) (hpq : p ≤ q) (hq : q ≤ n) (hT : f 65 4 = nI T) (hT2 : T ≤ 400) (hd : ∀ i, p ≤ i → i < q → zdB (b i) = true) : zCpi X (d + 1) 84 [.ref 65, .int (nI p), .int (nI q)] (zs f g) K = if q - p ≤ 4 then K 2 (zuI f 69 T (nI (zfold (znv b) (q - p) p 0))) g else K 1 f g := by
  obtain ⟨b1, b2, b3⟩ := id hB
  have key : ∀ K : Int32 → (Nat → Nat → Int32) → (Nat → Nat → Int64) → Prop, (if q - p ≤ 4 then K 2 (zuI f 69 T (nI (zfold (znv b) (q - p) p 0))) g else K 1 f g) → zCpi X (d + 1) 84 [.ref 65, .int (nI p), .int (nI q)] (zs f g) K := fun K hK => by
    apply e84_65
    rw [zsO.2, pk_sub hpq]
    by_cases h4 : q - p ≤ 4
    · rw [if_pos h4] at hK
      rw [if_pos (show nI (q - p) ≤ (4 : Int32) from nI_le (b := 4) h4 (by omega))]
      refine zloop (st := znv b) (W := fun i v => p ≤ i → zWp X (d + 0) zm84 14 [.ref 65, .int (nI p), .int (nI q), .int (nI v), .int (nI i)] [] (zs f g) (zQi K)) (E := fun v => K 2 (zuI f 69 T (nI v)) g) q ?_ ?_ (q - p) p 0 (by omega) hK (Nat.le_refl p)
      · intro v hv _
        apply s84_14_65
        rw [if_pos (nI_le (by omega) (by omega)), hT, if_neg (nI_in (by omega) (by omega)), nI_cl (by omega)]
        exact hv
      · intro i v hi hv hpi
        have hv' := hv (by omega)
        unfold znv at hv'
        have hdg := zdB_b (hd i hpi hi)
        apply s84_14_65
        rw [if_neg (nI_ge hi (by omega)), if_neg (nI_in (by omega) (by omega)), nI_cl (by omega), (b3 i (by omega)).1, zmO.2, zsO.2, show (10 : Int32) * nI v + nI (b i) = nI (10 * v + b i) from nI_mb v 10 (b i), show nI (10 * v + b i) - (48 : Int32) = nI (10 * v + b i - 48) from pk_sub (b := 48) (by omega), nI_1, show 10 * v + b i - 48 = 10 * v + (b i - 48) by omega]
        exact hv'
    · rw [if_neg h4] at hK
      rw [if_neg (show ¬ nI (q - p) ≤ (4 : Int32) from nI_ge (a := 4) (by omega) (by omega))]
      exact hK
  refine propext ⟨fun z => ?_, key K⟩
  by_cases h4 : q - p ≤ 4
  · rw [if_pos h4]
    obtain ⟨v, F, G, ⟨y1, y2, y3⟩, y4⟩ := zCpi_en (key (fun v F G => v = 2 ∧ F = zuI f 69 T (nI (zfold (znv b) (q - p) p 0)) ∧ G = g) (by rw [if_pos h4]; exact ⟨rfl, rfl, rfl⟩))
    rw [y4, y1, y2, y3] at z
    exact z
  · rw [if_neg h4]
    obtain ⟨v, F, G, ⟨y1, y2, y3⟩, y4⟩ := zCpi_en (key (fun v F G => v = 1 ∧ F = f ∧ G = g) (by rw [if_neg h4]; exact ⟨rfl, rfl, rfl⟩))
    rw [y4, y1, y2, y3] at z
    exact z
end ZTK

/-! game -/
def zwi : Nat → Nat → Nat → Bool → Bool
  | 0, _, _, m => m
  | F + 1, a, b, m => if b = 0 ∨ a % b = 0 ∨ ¬ a / b = 1 then m else zwi F b (a % b) (!m)
theorem zwi_not : ∀ F a b m, zwi F a b (!m) = !(zwi F a b m)
  | 0, _, _, _ => rfl
  | F + 1, a, b, m => by
    unfold zwi
    split
    · rfl
    · exact zwi_not F b (a % b) (!m)
theorem zwi_fuel : ∀ F G a b m, b ≤ F → b ≤ G → zwi F a b m = zwi G a b m
  | 0, 0, _, _, _, _, _ => rfl
  | 0, G + 1, a, b, m, h, _ => by
    have e : b = 0 := by omega
    subst e
    unfold zwi
    rw [if_pos (Or.inl rfl)]
  | F + 1, 0, a, b, m, _, h => by
    have e : b = 0 := by omega
    subst e
    unfold zwi
    rw [if_pos (Or.inl rfl)]
  | F + 1, G + 1, a, b, m, h1, h2 => by
    unfold zwi
    split
    · rfl
    · next h =>
      have hb : 0 < b := by omega
      have := Nat.mod_lt a hb
      exact zwi_fuel F G b (a % b) (!m) (by omega) (by omega)
def zft : Nat → Nat → Nat → Nat → Nat
  | 0, _, _, c => c
  | F + 1, a, b, c => if b = 0 then c else zft F b (a % b) (c + 1)
def zbi (m : Bool) : Int32 := if m = true then 1 else 0
theorem zbi_or {m : Bool} : (zbi m = 0 ∨ zbi m = 1) = True := by cases m <;> decide
theorem zbi_or' {m : Bool} : (m = false ∨ zbi m = 1) = True := by cases m <;> decide
theorem zbi_0 {m : Bool} : (zbi m = 0) = (m = false) := by cases m <;> decide
section ZGA
variable {X : Nat × (Nat → Int32)} {d : Nat} {f : Nat → Nat → Int32} {g : Nat → Nat → Int64} {K : Int32 → (Nat → Nat → Int32) → (Nat → Nat → Int64) → Prop}
theorem nI_dv {a b : Nat} (ha : a ≤ 100000) (h0 : 0 < b) (hb : b ≤ 100000) : nI a / nI b = nI (a / b) := pk_div (by omega) h0 (by omega)
theorem nI_rm {a b : Nat} (ha : a ≤ 100000) (h0 : 0 < b) (hb : b ≤ 100000) : nI a - nI a / nI b * nI b = nI (a % b) := pk_rem (by omega) h0 (by omega)
theorem nI_rm' {a b : Nat} (ha : a ≤ 100000) (h0 : 0 < b) (hb : b ≤ 100000) : nI a - nI (a / b) * nI b = nI (a % b) := by
  rw [← nI_dv ha h0 hb]
  exact nI_rm ha h0 hb
theorem nI_z {b : Nat} (h0 : 0 < b) (hb : b ≤ 100000) : ¬ nI b = 0 := nI_ne0 h0 (by omega)
theorem q117 {a b : Nat} (ha : a ≤ 1000) (h0 : 0 < b) (hb : b ≤ 999) : zCpi X (d + 1) 117 [.int (nI a), .int (nI b)] (zs f g) K = K (zbi (zwi b a b true)) f g := by
  refine zCpi_eq (fun K hK => e117 ?_)
  have z : ∀ F a b i m x0 x1, a ≤ 1000 → 0 < b → b ≤ F → F + i ≤ 999 → K (zbi (zwi F a b m)) f g → zWp X (d + 0) zm117 10 [.int x0, .int x1, .int (zbi m), .int (nI a), .int (nI b), .int (nI i), .null] [] (zs f g) (zQi K) := by
    intro F
    induction F with
    | zero => intro a b i m x0 x1 _ h0 hb; omega
    | succ F ih =>
      intro a b i m x0 x1 ha h0 hb hF hK
      unfold zwi at hK
      have hr := Nat.mod_lt a h0
      apply s117_10
      rw [if_neg (show ¬ (999 : Int32) ≤ nI i from nI_ge (b := 999) (by omega) (by omega)), if_neg (nI_nle h0 (by omega))]
      simp only [zrO.2, zdO.2, nI_rm' (show a ≤ 100000 by omega) h0 (show b ≤ 100000 by omega), nI_dv (show a ≤ 100000 by omega) h0 (show b ≤ 100000 by omega), nI_z h0 (show b ≤ 100000 by omega), zbi_or, zbi_or', zbi_0, if_true, if_false]
      by_cases h1 : a % b = 0
      · rw [if_pos (Or.inr (Or.inl h1))] at hK
        rw [h1, if_pos (show nI 0 = (0 : Int32) from rfl)]
        exact hK
      · rw [if_neg (show ¬ nI (a % b) = (0 : Int32) from nI_z (by omega) (by omega))]
        by_cases h2 : a / b = 1
        · rw [if_neg (by omega)] at hK
          rw [h2, if_pos (show nI 1 = (1 : Int32) from rfl), nI_1]
          cases m with
          | false =>
            rw [if_pos rfl]
            exact ih b (a % b) (i + 1) true x0 x1 (by omega) (by omega) (by omega) (by omega) hK
          | true =>
            rw [if_neg (by decide)]
            exact ih b (a % b) (i + 1) false x0 x1 (by omega) (by omega) (by omega) (by omega) hK
        · rw [if_pos (Or.inr (Or.inr h2))] at hK
          have hd : a / b ≤ a := Nat.div_le_self _ _
          rw [if_neg (show ¬ nI (a / b) = (1 : Int32) from nI_neq (c := 1) (by omega) (by omega) h2)]
          exact hK
  exact z b a b 0 true (nI a) (nI b) ha h0 (Nat.le_refl _) (by omega) hK
theorem l278 {x1 x2 : Int32} : ∀ F a b m, a ≤ 2000 → 0 < b → b ≤ a → b ≤ F → K (zbi (zwi F a b m)) f g → zWp X (d + 1) zm278 18 [.ref 178, .int x1, .int x2, .int (nI a), .int (nI b), .int (zbi m), .null] [] (zs f g) (zQi K) := by
  intro F
  induction F with
  | zero => intro a b m _ h0 _ hb; omega
  | succ F ih =>
    intro a b m ha h0 hab hb hK
    unfold zwi at hK
    have hr := Nat.mod_lt a h0
    have hd : a / b ≤ a := Nat.div_le_self _ _
    have hd1 : 1 ≤ a / b := (Nat.one_le_div_iff h0).mpr hab
    apply s278_18_178
    rw [if_neg (nI_nle h0 (by omega))]
    simp only [zrO.2, zdO.2, nI_rm' (show a ≤ 100000 by omega) h0 (show b ≤ 100000 by omega), nI_dv (show a ≤ 100000 by omega) h0 (show b ≤ 100000 by omega), nI_z h0 (show b ≤ 100000 by omega), zbi_or, zbi_or', zbi_0, if_true, if_false]
    by_cases h2 : a / b = 1
    · rw [if_neg (show ¬ (1 : Int32) < nI (a / b) by rw [h2]; decide)]
      by_cases h1 : a % b = 0
      · rw [if_pos (Or.inr (Or.inl h1))] at hK
        rw [h1, if_pos (show nI 0 = (0 : Int32) from rfl)]
        exact hK
      · rw [if_neg (by omega)] at hK
        rw [if_neg (show ¬ nI (a % b) = (0 : Int32) from nI_z (by omega) (by omega))]
        cases m with
        | false =>
          rw [if_pos rfl]
          exact ih b (a % b) true (by omega) (by omega) (by omega) (by omega) hK
        | true =>
          rw [if_neg (by decide)]
          exact ih b (a % b) false (by omega) (by omega) (by omega) (by omega) hK
    · rw [if_pos (Or.inr (Or.inr h2))] at hK
      rw [if_pos (show (1 : Int32) < nI (a / b) from nI_lt (a := 1) (by omega) (by omega))]
      exact hK
/-- whether who begins at x and l wins -/
def zwon (x l : Nat) : Bool := if x = 0 then false else zwi (min x l) (max x l) (min x l) true
theorem zmx_n {a b : Nat} (ha : a ≤ 100000) (hb : b ≤ 100000) : zmx (nI a) (nI b) = nI (max a b) := by
  rw [zeqI, zmx_t, nI_ti ha, nI_ti hb, nI_ti (by omega)]
  omega
theorem zmn_n {a b : Nat} (ha : a ≤ 100000) (hb : b ≤ 100000) : zmn (nI a) (nI b) = nI (min a b) := by
  rw [zeqI, zmn_t, nI_ti ha, nI_ti hb, nI_ti (by omega)]
  omega
theorem q278 {x l : Nat} (hx : x ≤ 1000) (h0 : 0 < l) (hl : l ≤ 1000) : zCpi X (d + 2) 278 [.ref 178, .int (nI x), .int (nI l)] (zs f g) K = K (zbi (zwon x l)) f g := by
  refine zCpi_eq (fun K hK => e278_178 ?_)
  unfold zwon at hK
  rw [q223, q222, zmx_n (by omega) (by omega), zmn_n (by omega) (by omega)]
  by_cases e : x = 0
  · rw [if_pos e] at hK
    subst e
    apply s278_18_178
    rw [Nat.zero_min, if_pos (show nI 0 ≤ (0 : Int32) from by decide), if_neg (by decide)]
    simp only [true_or, or_true, false_or, or_false, or_self, and_self, true_and, and_true, not_true_eq_false, not_false_eq_true, ↓reduceIte, eq_self, zq_01, zq_10, zq_m0, zq_m1, zq_0m, zq_1m, zq_2, zq_6, zq_8, zq_10z, zq_12, zq_1000, Int32.reduceLT, Int32.reduceLE, Int32.reduceToInt, Int32.reduceToNatClampNeg, Int32.reduceOfNat, Int.reduceLT, Int.reduceLE, Int.reduceEq, Nat.reduceLeDiff, Nat.reduceEqDiff, zl_2, zl_8, zl_12, zl_50, zl_132, zl_133, zl_134, zl_999, zl_10000]
    exact hK
  · rw [if_neg e] at hK
    exact l278 (min x l) (max x l) (min x l) true (by omega) (by omega) (by omega) (by omega) hK
/-- how often to take -/
def zgm (G L : Nat) : Int32 := if G % L = 0 then nI (G / L) else if zwi (G % L) L (G % L) true = false then nI (G / L) else if G / L < 2 then -1 else nI (G / L - 1)
theorem q116 {G L : Nat} (hG : G ≤ 999) (h0 : 0 < L) (hL : L ≤ G) : zCpi X (d + 2) 116 [.int (nI G), .int (nI L)] (zs f g) K = K (zgm G L) f g := by
  refine zCpi_eq (fun K hK => e116 ?_)
  unfold zgm at hK
  have hr := Nat.mod_lt G h0
  have hd : G / L ≤ G := Nat.div_le_self _ _
  have hd1 : 1 ≤ G / L := (Nat.one_le_div_iff h0).mpr hL
  rw [if_pos (show (0 : Int32) < nI L from nI_lt (a := 0) h0 (by omega))]
  simp only [zrO.2, zdO.2, nI_rm' (show G ≤ 100000 by omega) h0 (show L ≤ 100000 by omega), nI_dv (show G ≤ 100000 by omega) h0 (show L ≤ 100000 by omega), nI_z h0 (show L ≤ 100000 by omega), if_false]
  by_cases h1 : G % L = 0
  · rw [if_pos h1] at hK
    rw [if_pos (show nI (G % L) = (0 : Int32) by rw [h1]; rfl)]
    exact hK
  · rw [if_neg h1] at hK
    rw [if_neg (show ¬ nI (G % L) = (0 : Int32) from nI_z (by omega) (by omega)), q117 (by omega) (by omega) (by omega)]
    simp only [zbi_0]
    by_cases h2 : zwi (G % L) L (G % L) true = false
    · rw [if_pos h2] at hK
      rw [if_pos h2]
      exact hK
    · rw [if_neg h2] at hK
      rw [if_neg h2]
      by_cases h3 : G / L < 2
      · rw [if_pos h3] at hK
        rw [if_pos (show nI (G / L) < (2 : Int32) from nI_lt (b := 2) h3 (by omega))]
        exact hK
      · rw [if_neg h3] at hK
        rw [if_neg (show ¬ nI (G / L) < (2 : Int32) from nI_nlt (b := 2) (by omega) (by omega)), zsO.2]
        have e8 : nI (G / L) - 1 = nI (G / L - 1) := pk_sub (a := G / L) (b := 1) (by omega)
        rw [e8]
        exact hK
theorem zwon_t {G L q r t : Nat} (h0 : 0 < L) (hr : r < L) (hG : G = L * q + r) (ht : t < q) : zwon (G - t * L) L = if r = 0 then true else if q - t = 1 then !(zwi r L r true) else true := by
  have e : G - t * L = L * (q - t) + r := by
    have h1 : L * q = L * t + L * (q - t) := by rw [← Nat.mul_add]; congr 1; omega
    have h2 : t * L = L * t := Nat.mul_comm _ _
    omega
  have hp : L * 1 ≤ L * (q - t) := Nat.mul_le_mul_left L (by omega)
  rw [Nat.mul_one] at hp
  have hq1 : (L * (q - t) + r) / L = q - t := by rw [Nat.mul_add_div h0, Nat.div_eq_of_lt hr, Nat.add_zero]
  have hq2 : (L * (q - t) + r) % L = r := by rw [Nat.mul_add_mod, Nat.mod_eq_of_lt hr]
  rw [e]
  unfold zwon
  rw [if_neg (by omega), Nat.min_eq_right (by omega), Nat.max_eq_left (by omega)]
  obtain ⟨F, eF⟩ : ∃ F, L = F + 1 := ⟨L - 1, by omega⟩
  have e2 : ∀ m, zwi L (L * (q - t) + r) L m = if L = 0 ∨ (L * (q - t) + r) % L = 0 ∨ ¬ (L * (q - t) + r) / L = 1 then m else zwi (L - 1) L ((L * (q - t) + r) % L) (!m) := fun m => by
    conv => lhs; rw [show zwi L = zwi (L - 1 + 1) by congr 1; omega]
    rfl
  rw [e2, hq1, hq2]
  by_cases hr0 : r = 0
  · rw [if_pos hr0, if_pos (by omega)]
  · rw [if_neg hr0]
    by_cases h1 : q - t = 1
    · rw [if_pos h1, if_neg (by omega), zwi_not, zwi_fuel (L - 1) r L r true (by omega) (Nat.le_refl _)]
    · rw [if_neg h1, if_pos (by omega)]
theorem l277 {G L q r : Nat} {x1 x2 x3 : Int32} (hGb : G ≤ 999) (h0 : 0 < L) (hr : r < L) (hG : G = L * q + r) (hq : 1 ≤ q) (hK : K (zgm G L) f g) : zWp X (d + 2) zm277 64 [.ref 178, .int x1, .int x2, .int x3, .int (nI G), .int (nI L), .int 1, .null] [] (zs f g) (zQi K) := by
  have hq1 : G / L = q := by rw [hG, Nat.mul_add_div h0, Nat.div_eq_of_lt hr, Nat.add_zero]
  have hq2 : G % L = r := by rw [hG, Nat.mul_add_mod, Nat.mod_eq_of_lt hr]
  have hLq : L * 1 ≤ L * q := Nat.mul_le_mul_left L hq
  unfold zgm at hK
  rw [hq1, hq2] at hK
  have hqG : q ≤ G := by rw [← hq1]; exact Nat.div_le_self _ _
  -- one step where the other one loses not
  have stp : ∀ t, 1 ≤ t → t ≤ q → (zwon (G - t * L) L = false → K (nI t) f g) → (zwon (G - t * L) L = true → zWp X (d + 2) zm277 64 [.ref 178, .int x1, .int x2, .int x3, .int (nI G), .int (nI L), .int (nI (t + 1)), .null] [] (zs f g) (zQi K)) → zWp X (d + 2) zm277 64 [.ref 178, .int x1, .int x2, .int x3, .int (nI G), .int (nI L), .int (nI t), .null] [] (zs f g) (zQi K) := by
    intro t ht1 ht hF hT
    have htL : t * L ≤ G := by
      have h1 : L * t ≤ L * q := Nat.mul_le_mul_left L ht
      have h2 : t * L = L * t := Nat.mul_comm _ _
      omega
    apply s277_64_178
    rw [zmO.2, pk_mul, if_neg (nI_nlt (by omega) (by omega)), zsO.2, pk_sub htL, q278 (by omega) h0 (by omega)]
    simp only [zbi_0, nI_1]
    by_cases hw : zwon (G - t * L) L = false
    · rw [if_pos hw]
      exact hF hw
    · rw [if_neg hw]
      exact hT (by cases h : zwon (G - t * L) L <;> simp_all)
  have adv : ∀ m t T, t + m = T → 1 ≤ t → T ≤ q → (∀ s, t ≤ s → s < T → zwon (G - s * L) L = true) → zWp X (d + 2) zm277 64 [.ref 178, .int x1, .int x2, .int x3, .int (nI G), .int (nI L), .int (nI T), .null] [] (zs f g) (zQi K) → zWp X (d + 2) zm277 64 [.ref 178, .int x1, .int x2, .int x3, .int (nI G), .int (nI L), .int (nI t), .null] [] (zs f g) (zQi K) := by
    intro m
    induction m with
    | zero => intro t T hT _ _ _ h; rw [show t = T by omega]; exact h
    | succ m ih =>
      intro t T hT h1 hTq hw h
      have ht := hw t (Nat.le_refl _) (by omega)
      refine stp t h1 (by omega) (fun z => by rw [ht] at z; cases z) (fun _ => ?_)
      exact ih (t + 1) T (by omega) (by omega) hTq (fun s hs1 hs2 => hw s (by omega) hs2) h
  by_cases hr0 : r = 0
  · rw [if_pos hr0] at hK
    refine adv (q - 1) 1 q (by omega) (Nat.le_refl _) (Nat.le_refl _) (fun s _ hs => by rw [zwon_t h0 hr hG hs, if_pos hr0]) ?_
    refine stp q hq (Nat.le_refl _) (fun _ => hK) (fun hw => ?_)
    exfalso
    have e : G - q * L = 0 := by
      have h2 : q * L = L * q := Nat.mul_comm _ _
      omega
    rw [e] at hw
    exact absurd hw (by unfold zwon; rw [if_pos rfl]; decide)
  · rw [if_neg hr0] at hK
    have eq : G - q * L = r := by
      have h2 : q * L = L * q := Nat.mul_comm _ _
      omega
    have eW : zwon r L = zwi r L r true := by
      unfold zwon
      rw [if_neg hr0, Nat.min_eq_left (by omega), Nat.max_eq_right (by omega)]
    by_cases hW : zwi r L r true = false
    · rw [if_pos hW] at hK
      refine adv (q - 1) 1 q (by omega) (Nat.le_refl _) (Nat.le_refl _) (fun s _ hs => by
        rw [zwon_t h0 hr hG hs, if_neg hr0, hW]
        split <;> rfl) ?_
      refine stp q hq (Nat.le_refl _) (fun _ => hK) (fun hw => ?_)
      rw [eq, eW, hW] at hw
      cases hw
    · have hW' : zwi r L r true = true := by cases h : zwi r L r true <;> simp_all
      rw [if_neg hW] at hK
      by_cases h2 : q < 2
      · rw [if_pos h2] at hK
        have eq1 : q = 1 := by omega
        refine stp 1 (Nat.le_refl _) hq (fun hw => ?_) (fun _ => ?_)
        · rw [eq1] at eq
          rw [eq, eW, hW'] at hw
          cases hw
        · apply s277_64_178
          have h3 : G < 2 * L := by rw [eq1] at hG; omega
          rw [zmO.2, pk_mul, if_pos (nI_lt h3 (by omega))]
          exact hK
      · rw [if_neg h2] at hK
        refine adv (q - 2) 1 (q - 1) (by omega) (Nat.le_refl _) (by omega) (fun s _ hs => by
          rw [zwon_t h0 hr hG (by omega), if_neg hr0, if_neg (by omega)]) ?_
        refine stp (q - 1) (by omega) (by omega) (fun _ => hK) (fun hw => ?_)
        rw [zwon_t h0 hr hG (by omega), if_neg hr0, if_pos (by omega), hW'] at hw
        cases hw
theorem q118 {a b : Nat} (ha : a ≤ 999) (hb : b ≤ 999) : zCpi X (d + 1) 118 [.int (nI a), .int (nI b)] (zs f g) K = K (nI (zft (b + 1) a b 0)) f g := by
  refine zCpi_eq (fun K hK => e118 ?_)
  have z : ∀ F a b i c x0 x1, a ≤ 999 → b ≤ F → F + i ≤ 999 → K (nI (zft (F + 1) a b c)) f g → zWp X (d + 0) zm118 10 [.int x0, .int x1, .int (nI c), .int (nI a), .int (nI b), .int (nI i), .null] [] (zs f g) (zQi K) := by
    intro F
    induction F with
    | zero =>
      intro a b i c x0 x1 ha hb hF hK
      have e : b = 0 := by omega
      subst e
      unfold zft at hK
      rw [if_pos rfl] at hK
      apply s118_10
      split
      · exact hK
      · rw [if_pos (show nI 0 ≤ (0 : Int32) from by decide)]
        exact hK
    | succ F ih =>
      intro a b i c x0 x1 ha hb hF hK
      unfold zft at hK
      apply s118_10
      rw [if_neg (show ¬ (999 : Int32) ≤ nI i from nI_ge (b := 999) (by omega) (by omega))]
      by_cases e : b = 0
      · rw [if_pos e] at hK
        subst e
        rw [if_pos (show nI 0 ≤ (0 : Int32) from by decide)]
        exact hK
      · rw [if_neg e] at hK
        have hr := Nat.mod_lt a (show 0 < b by omega)
        rw [if_neg (nI_nle (by omega) (by omega)), if_neg (nI_z (by omega) (by omega)), zrO.2, nI_rm (by omega) (by omega) (by omega), nI_1, nI_1]
        exact ih b (a % b) (i + 1) (c + 1) x0 x1 (by omega) (by omega) (by omega) hK
  exact z b a b 0 0 (nI a) (nI b) ha (Nat.le_refl _) (by omega) hK
theorem l277b {x1 x2 x3 : Int32} : ∀ F a b c, a ≤ 999 → b ≤ F → b ≤ 999 → K (nI (zft (F + 1) a b c)) f g → zWp X (d + 1) zm277 105 [.ref 178, .int x1, .int x2, .int x3, .int (nI a), .int (nI b), .int (nI c), .null] [] (zs f g) (zQi K) := by
  intro F
  induction F with
  | zero =>
    intro a b c ha hb hb2 hK
    have e : b = 0 := by omega
    subst e
    unfold zft at hK
    rw [if_pos rfl] at hK
    apply s277_105_178
    rw [if_pos (show nI 0 ≤ (0 : Int32) from by decide)]
    exact hK
  | succ F ih =>
    intro a b c ha hb hb2 hK
    unfold zft at hK
    apply s277_105_178
    by_cases e : b = 0
    · rw [if_pos e] at hK
      subst e
      rw [if_pos (show nI 0 ≤ (0 : Int32) from by decide)]
      exact hK
    · rw [if_neg e] at hK
      have hr := Nat.mod_lt a (show 0 < b by omega)
      rw [if_neg (nI_nle (by omega) (by omega)), if_neg (nI_z (by omega) (by omega)), zrO.2, nI_rm (by omega) (by omega) (by omega), nI_1]
      exact ih b (a % b) (c + 1) (by omega) (by omega) (by omega) hK
end ZGA
set_option maxHeartbeats 1000000 in
theorem op_game {X : Nat × (Nat → Int32)} {d : Nat} {a b w : Int32} : zOp X (d + 4) 157 277 [.int a, .int b, .int w] := by
  intro fc fr gc gr hR
  obtain ⟨⟨c1, c2, c3, c4, c5, c6, c7, c8, c9, c10, c11⟩, c12, c13, c14, c15, c16⟩ := hR
  have hR0 : zRel fc gc (zuI fr 178 0 0) := by
    refine ⟨⟨?_, ?_, ?_, ?_, ?_, ?_, ?_, ?_, ?_, ?_, ?_⟩, ?_, ?_, ?_, ?_, ?_⟩
    all_goals try (first | assumption | (simp only [zi_ne, zi_at, zr_ne, zr_at, zj_ne, zj_at, ↓reduceIte, Nat.reduceEqDiff, not_false_eq_true, eq_self, nI_1]; assumption) | (simp only [zi_ne, zi_at, zr_ne, zr_at, zj_ne, zj_at, ↓reduceIte, Nat.reduceEqDiff, not_false_eq_true, eq_self, nI_1]; exact zRow_nil) | (exact zPas_frame (fun i _ _ => by first | rfl | (repeat (first | rw [zi_ne (by omega)] | rw [zr_ne (by omega)]))) (by first | rfl | (simp only [zi_ne, zi_at, zr_ne, zr_at, zj_ne, zj_at, ↓reduceIte, Nat.reduceEqDiff, not_false_eq_true, eq_self, nI_1])) (fun i _ _ => rfl) rfl (by first | rfl | (simp only [zi_ne, zi_at, zr_ne, zr_at, zj_ne, zj_at, ↓reduceIte, Nat.reduceEqDiff, not_false_eq_true, eq_self, nI_1])) (by first | rfl | (simp only [zi_ne, zi_at, zr_ne, zr_at, zj_ne, zj_at, ↓reduceIte, Nat.reduceEqDiff, not_false_eq_true, eq_self, nI_1])) (by first | rfl | (simp only [zi_ne, zi_at, zr_ne, zr_at, zj_ne, zj_at, ↓reduceIte, Nat.reduceEqDiff, not_false_eq_true, eq_self, nI_1])) (by first | rfl | (simp only [zi_ne, zi_at, zr_ne, zr_at, zj_ne, zj_at, ↓reduceIte, Nat.reduceEqDiff, not_false_eq_true, eq_self, nI_1])) c14) | (exact zIma_frame (by first | rfl | (simp only [zi_ne, zi_at, zr_ne, zr_at, zj_ne, zj_at, ↓reduceIte, Nat.reduceEqDiff, not_false_eq_true, eq_self, nI_1])) (fun i _ _ => by first | rfl | (repeat (first | rw [zi_ne (by omega)] | rw [zr_ne (by omega)]))) rfl (by first | rfl | (simp only [zi_ne, zi_at, zr_ne, zr_at, zj_ne, zj_at, ↓reduceIte, Nat.reduceEqDiff, not_false_eq_true, eq_self, nI_1])) (by first | rfl | (simp only [zi_ne, zi_at, zr_ne, zr_at, zj_ne, zj_at, ↓reduceIte, Nat.reduceEqDiff, not_false_eq_true, eq_self, nI_1])) c15))
  by_cases ha : 1 ≤ a.toInt ∧ a.toInt ≤ 999
  · by_cases hb : 1 ≤ b.toInt ∧ b.toInt ≤ 999
    · by_cases hw : 0 ≤ w.toInt ∧ w.toInt ≤ 1
      · obtain ⟨A, hA, eA⟩ := zixn (x := a) (n := 1000) (by omega) (by omega) (by omega)
        obtain ⟨B, hB, eB⟩ := zixn (x := b) (n := 1000) (by omega) (by omega) (by omega)
        subst eA
        subst eB
        rw [nI_ti (by omega)] at ha hb
        have hww : w = 0 ∨ w = 1 := by
          by_cases e : w.toInt = 0
          · exact Or.inl (zeqI.mpr e)
          · exact Or.inr (zeqI.mpr (show w.toInt = 1 by omega))
        have tA := nI_ti (k := A) (by omega)
        have tB := nI_ti (k := B) (by omega)
        have h0 : 0 < min A B := by omega
        have hdm := Nat.div_add_mod (max A B) (min A B)
        have hml := Nat.mod_lt (max A B) h0
        have hq1 : 1 ≤ max A B / min A B := (Nat.one_le_div_iff h0).mpr (by omega)
        rcases hww with rfl | rfl
        · apply e157_0
          simp only [q124, q287, q288, tA, tB, ha, hb, zmx_n (show A ≤ 100000 by omega) (show B ≤ 100000 by omega), zmn_n (show A ≤ 100000 by omega) (show B ≤ 100000 by omega), q116 (show max A B ≤ 999 by omega) h0 (show min A B ≤ max A B by omega), true_or, or_true, false_or, or_false, or_self, and_self, true_and, and_true, not_true_eq_false, not_false_eq_true, ↓reduceIte, eq_self, zq_01, zq_10, zq_m0, zq_m1, zq_0m, zq_1m, zq_2, zq_6, zq_8, zq_10z, zq_12, zq_1000, Int32.reduceLT, Int32.reduceLE, Int32.reduceToInt, Int32.reduceToNatClampNeg, Int32.reduceOfNat, Int.reduceLT, Int.reduceLE, Int.reduceEq, Nat.reduceLeDiff, Nat.reduceEqDiff, zl_2, zl_8, zl_12, zl_50, zl_132, zl_133, zl_134, zl_999, zl_10000, zb_0, zb_1, zsO.2, zmO.2, znO.2, zdO.2, zrO.2, zhO.2, zgO.2, zuO.2, zlH.2, zlU.2, zlS.2]
          apply e277_178
          simp only [q165, q223, q222, tA, tB, ha, hb, zmx_n (show A ≤ 100000 by omega) (show B ≤ 100000 by omega), zmn_n (show A ≤ 100000 by omega) (show B ≤ 100000 by omega), true_or, or_true, false_or, or_false, or_self, and_self, true_and, and_true, not_true_eq_false, not_false_eq_true, ↓reduceIte, eq_self, zq_01, zq_10, zq_m0, zq_m1, zq_0m, zq_1m, zq_2, zq_6, zq_8, zq_10z, zq_12, zq_1000, Int32.reduceLT, Int32.reduceLE, Int32.reduceToInt, Int32.reduceToNatClampNeg, Int32.reduceOfNat, Int.reduceLT, Int.reduceLE, Int.reduceEq, Nat.reduceLeDiff, Nat.reduceEqDiff, zl_2, zl_8, zl_12, zl_50, zl_132, zl_133, zl_134, zl_999, zl_10000, zb_0, zb_1, zsO.2, zmO.2, znO.2, zdO.2, zrO.2, zhO.2, zgO.2, zuO.2, zlH.2, zlU.2, zlS.2]
          refine l277 (d := d + 1) (G := max A B) (L := min A B) (by omega) h0 hml hdm.symm hq1 ?_
          exact ⟨rfl, hR0⟩
        · apply e157_0
          simp only [q124, q287, q288, tA, tB, ha, hb, zmx_n (show A ≤ 100000 by omega) (show B ≤ 100000 by omega), zmn_n (show A ≤ 100000 by omega) (show B ≤ 100000 by omega), q118 (show max A B ≤ 999 by omega) (show min A B ≤ 999 by omega), true_or, or_true, false_or, or_false, or_self, and_self, true_and, and_true, not_true_eq_false, not_false_eq_true, ↓reduceIte, eq_self, zq_01, zq_10, zq_m0, zq_m1, zq_0m, zq_1m, zq_2, zq_6, zq_8, zq_10z, zq_12, zq_1000, Int32.reduceLT, Int32.reduceLE, Int32.reduceToInt, Int32.reduceToNatClampNeg, Int32.reduceOfNat, Int.reduceLT, Int.reduceLE, Int.reduceEq, Nat.reduceLeDiff, Nat.reduceEqDiff, zl_2, zl_8, zl_12, zl_50, zl_132, zl_133, zl_134, zl_999, zl_10000, zb_0, zb_1, zsO.2, zmO.2, znO.2, zdO.2, zrO.2, zhO.2, zgO.2, zuO.2, zlH.2, zlU.2, zlS.2]
          apply e277_178
          simp only [q165, q223, q222, tA, tB, ha, hb, zmx_n (show A ≤ 100000 by omega) (show B ≤ 100000 by omega), zmn_n (show A ≤ 100000 by omega) (show B ≤ 100000 by omega), true_or, or_true, false_or, or_false, or_self, and_self, true_and, and_true, not_true_eq_false, not_false_eq_true, ↓reduceIte, eq_self, zq_01, zq_10, zq_m0, zq_m1, zq_0m, zq_1m, zq_2, zq_6, zq_8, zq_10z, zq_12, zq_1000, Int32.reduceLT, Int32.reduceLE, Int32.reduceToInt, Int32.reduceToNatClampNeg, Int32.reduceOfNat, Int.reduceLT, Int.reduceLE, Int.reduceEq, Nat.reduceLeDiff, Nat.reduceEqDiff, zl_2, zl_8, zl_12, zl_50, zl_132, zl_133, zl_134, zl_999, zl_10000, zb_0, zb_1, zsO.2, zmO.2, znO.2, zdO.2, zrO.2, zhO.2, zgO.2, zuO.2, zlH.2, zlU.2, zlS.2]
          refine l277b (d := d + 2) (min A B) (max A B) (min A B) 0 (by omega) (Nat.le_refl _) (by omega) ?_
          exact ⟨rfl, hR0⟩
      · apply e157_0
        simp only [q124, ha, hb, hw, true_or, or_true, false_or, or_false, or_self, and_self, true_and, and_true, not_true_eq_false, not_false_eq_true, ↓reduceIte, eq_self, zq_01, zq_10, zq_m0, zq_m1, zq_0m, zq_1m, zq_2, zq_6, zq_8, zq_10z, zq_12, zq_1000, Int32.reduceLT, Int32.reduceLE, Int32.reduceToInt, Int32.reduceToNatClampNeg, Int32.reduceOfNat, Int.reduceLT, Int.reduceLE, Int.reduceEq, Nat.reduceLeDiff, Nat.reduceEqDiff, zl_2, zl_8, zl_12, zl_50, zl_132, zl_133, zl_134, zl_999, zl_10000, zb_0, zb_1, zsO.2, zmO.2, znO.2, zdO.2, zrO.2, zhO.2, zgO.2, zuO.2, zlH.2, zlU.2, zlS.2]
        apply e277_178
        simp only [q165, ha, hb, hw, true_or, or_true, false_or, or_false, or_self, and_self, true_and, and_true, not_true_eq_false, not_false_eq_true, ↓reduceIte, eq_self, zq_01, zq_10, zq_m0, zq_m1, zq_0m, zq_1m, zq_2, zq_6, zq_8, zq_10z, zq_12, zq_1000, Int32.reduceLT, Int32.reduceLE, Int32.reduceToInt, Int32.reduceToNatClampNeg, Int32.reduceOfNat, Int.reduceLT, Int.reduceLE, Int.reduceEq, Nat.reduceLeDiff, Nat.reduceEqDiff, zl_2, zl_8, zl_12, zl_50, zl_132, zl_133, zl_134, zl_999, zl_10000, zb_0, zb_1, zsO.2, zmO.2, znO.2, zdO.2, zrO.2, zhO.2, zgO.2, zuO.2, zlH.2, zlU.2, zlS.2]
        exact ⟨rfl, hR0⟩
    · apply e157_0
      simp only [q124, ha, hb, true_or, or_true, false_or, or_false, or_self, and_self, true_and, and_true, not_true_eq_false, not_false_eq_true, ↓reduceIte, eq_self, zq_01, zq_10, zq_m0, zq_m1, zq_0m, zq_1m, zq_2, zq_6, zq_8, zq_10z, zq_12, zq_1000, Int32.reduceLT, Int32.reduceLE, Int32.reduceToInt, Int32.reduceToNatClampNeg, Int32.reduceOfNat, Int.reduceLT, Int.reduceLE, Int.reduceEq, Nat.reduceLeDiff, Nat.reduceEqDiff, zl_2, zl_8, zl_12, zl_50, zl_132, zl_133, zl_134, zl_999, zl_10000, zb_0, zb_1, zsO.2, zmO.2, znO.2, zdO.2, zrO.2, zhO.2, zgO.2, zuO.2, zlH.2, zlU.2, zlS.2]
      apply e277_178
      simp only [q165, ha, hb, true_or, or_true, false_or, or_false, or_self, and_self, true_and, and_true, not_true_eq_false, not_false_eq_true, ↓reduceIte, eq_self, zq_01, zq_10, zq_m0, zq_m1, zq_0m, zq_1m, zq_2, zq_6, zq_8, zq_10z, zq_12, zq_1000, Int32.reduceLT, Int32.reduceLE, Int32.reduceToInt, Int32.reduceToNatClampNeg, Int32.reduceOfNat, Int.reduceLT, Int.reduceLE, Int.reduceEq, Nat.reduceLeDiff, Nat.reduceEqDiff, zl_2, zl_8, zl_12, zl_50, zl_132, zl_133, zl_134, zl_999, zl_10000, zb_0, zb_1, zsO.2, zmO.2, znO.2, zdO.2, zrO.2, zhO.2, zgO.2, zuO.2, zlH.2, zlU.2, zlS.2]
      exact ⟨rfl, hR0⟩
  · apply e157_0
    simp only [q124, ha, true_or, or_true, false_or, or_false, or_self, and_self, true_and, and_true, not_true_eq_false, not_false_eq_true, ↓reduceIte, eq_self, zq_01, zq_10, zq_m0, zq_m1, zq_0m, zq_1m, zq_2, zq_6, zq_8, zq_10z, zq_12, zq_1000, Int32.reduceLT, Int32.reduceLE, Int32.reduceToInt, Int32.reduceToNatClampNeg, Int32.reduceOfNat, Int.reduceLT, Int.reduceLE, Int.reduceEq, Nat.reduceLeDiff, Nat.reduceEqDiff, zl_2, zl_8, zl_12, zl_50, zl_132, zl_133, zl_134, zl_999, zl_10000, zb_0, zb_1, zsO.2, zmO.2, znO.2, zdO.2, zrO.2, zhO.2, zgO.2, zuO.2, zlH.2, zlU.2, zlS.2]
    apply e277_178
    simp only [q165, ha, true_or, or_true, false_or, or_false, or_self, and_self, true_and, and_true, not_true_eq_false, not_false_eq_true, ↓reduceIte, eq_self, zq_01, zq_10, zq_m0, zq_m1, zq_0m, zq_1m, zq_2, zq_6, zq_8, zq_10z, zq_12, zq_1000, Int32.reduceLT, Int32.reduceLE, Int32.reduceToInt, Int32.reduceToNatClampNeg, Int32.reduceOfNat, Int.reduceLT, Int.reduceLE, Int.reduceEq, Nat.reduceLeDiff, Nat.reduceEqDiff, zl_2, zl_8, zl_12, zl_50, zl_132, zl_133, zl_134, zl_999, zl_10000, zb_0, zb_1, zsO.2, zmO.2, znO.2, zdO.2, zrO.2, zhO.2, zgO.2, zuO.2, zlH.2, zlU.2, zlS.2]
    exact ⟨rfl, hR0⟩

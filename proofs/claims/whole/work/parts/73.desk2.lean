/-! desks: the reference's side -/
def zCr (T : Nat → Nat) (n c : Nat) : Nat := if zokc n n c 0 = true then zlsum T (zro (zps n c) n 0) else 100000000
theorem zP_mem {n c : Nat} (h0 : 0 < n) (h : n < 7) (hc : c < 10 ^ n) (hk : zokc n n c 0 = true) : c ∈ zPl6 n := by
  have z := List.all_eq_true.mp (zP_g h0 h) c (zgen_in n c 0 hk hc)
  exact List.contains_iff_mem.mp z
section ZDR
variable {X : Nat × (Nat → Int32)} {d : Nat} {g : Nat → Nat → Int64} {K : Int32 → (Nat → Nat → Int32) → (Nat → Nat → Int64) → Prop} {n : Nat} {T : Nat → Nat}
theorem l253s {F : Nat → Nat → Int32} {p : Nat → Nat} {x2 x3 x4 : Int32} (hn : n ≤ 6) (hp : ∀ a, a < n → F 202 a = nI (p a) ∧ p a < 6) (hT : ∀ k, k < 36 → F 201 k = nI (T k)) : ∀ u a, a + u = n → ∀ s : Nat, K (nI (s + zlsum T (zro p u a))) F g → zWp X (d + 2) zm253 77 [.ref 178, .int (nI n), .int x2, .int x3, .int x4, .int (nI s), .int (nI a), .null] [] (zs F g) (zQi K) := by
  have hadd : ∀ l l' : List (Nat × Nat), zlsum T (l ++ l') = zlsum T l + zlsum T l' := by
    intro l l'
    induction l with
    | nil => simp only [List.nil_append, zlsum, Nat.zero_add]
    | cons x l ih => simp only [List.cons_append, zlsum, ih]; omega
  have hin : ∀ (a : Nat), a < n → ∀ u b, b + u = a → ∀ s : Nat, zWp X (d + 2) zm253 77 [.ref 178, .int (nI n), .int x2, .int x3, .int x4, .int (nI (s + zlsum T (zri p a u b))), .int (nI (a + 1)), .null] [] (zs F g) (zQi K) → zWp X (d + 2) zm253 86 [.ref 178, .int (nI n), .int x2, .int x3, .int x4, .int (nI s), .int (nI a), .int (nI b)] [] (zs F g) (zQi K) := by
    intro a ha u
    induction u with
    | zero =>
      intro b hb s h
      apply s253_86_178
      rw [if_pos (nI_le (by omega) (by omega)), nI_1]
      exact h
    | succ u ih =>
      intro b hb s h
      obtain ⟨a1, a2⟩ := hp a ha
      obtain ⟨b1, b2⟩ := hp b (by omega)
      have t1 : (nI (p a) - nI (p b)).toInt = (p a : Int) - p b := by rw [zt_sub (by rw [nI_ti (by omega), nI_ti (by omega)]; omega) (by rw [nI_ti (by omega), nI_ti (by omega)]; omega), nI_ti (by omega), nI_ti (by omega)]
      have t2 : zab (nI (p a) - nI (p b)) = nI ((p a - p b) + (p b - p a)) := by
        rw [zabn (by omega) (by omega), t1]
        congr 1
        omega
      apply s253_86_178
      rw [if_neg (nI_ge (by omega) (by omega)), zmO.2, show (6 : Int32) * nI a + nI b = nI (6 * a + b) from nI_mb a 6 b, if_neg (nI_in (by omega) (by omega)), if_neg (nI_in (by omega) (by omega)), if_neg (nI_in (by omega) (by omega)), nI_cl (k := a) (by omega), nI_cl (k := b) (by omega), nI_cl (k := 6 * a + b) (by omega), a1, b1, q220, zsO.2, t2, zmO.2, hT _ (by omega), pk_mul, nI_add, nI_1]
      refine ih (b + 1) (by omega) _ ?_
      have e : s + T (6 * a + b) * ((p a - p b) + (p b - p a)) + zlsum T (zri p a u (b + 1)) = s + zlsum T (zri p a (u + 1) b) := by
        show _ = s + (((p a - p b) + (p b - p a)) * T (6 * a + b) + zlsum T (zri p a u (b + 1)))
        rw [Nat.mul_comm]
        omega
      rw [e]
      exact h
  intro u
  induction u with
  | zero =>
    intro a ha s h
    apply s253_77_178
    rw [if_pos (nI_le (by omega) (by omega))]
    exact h
  | succ u ih =>
    intro a ha s h
    apply s253_77_178
    rw [if_neg (nI_ge (by omega) (by omega))]
    refine hin a (by omega) a 0 (by omega) s ?_
    refine ih (a + 1) (by omega) _ ?_
    have e : s + zlsum T (zri p a a 0) + zlsum T (zro p u (a + 1)) = s + zlsum T (zro p (u + 1) a) := by
      show _ = s + zlsum T (zri p a a 0 ++ zro p u (a + 1))
      rw [hadd]
      omega
    rw [e]
    exact h
theorem l253 {f : Nat → Nat → Int32} {c : Nat} (h0 : 0 < n) (hn : n ≤ 6) (hc : c < 10 ^ n) (hT : ∀ k, k < 36 → f 201 k = nI (T k)) (hK : ∀ G : Nat → Nat → Int32, (∀ i, ¬ i = 202 → G i = f i) → K (nI (zCr T n c)) G g) : zCpi X (d + 4) 253 [.ref 178, .int (nI n), .int (nI c)] (zs f g) K := by
  have h6 : 10 ^ n ≤ 10 ^ 6 := Nat.pow_le_pow_right (by omega) hn
  have h6' : (10 : Nat) ^ 6 = 1000000 := by decide
  have hl : ∀ m, m ≤ n → ∀ (s : Nat) (F : Nat → Nat → Int32), zokc n n c 0 = zokc n m (c / 10 ^ (n - m)) s → s < 64 → (∀ i, ¬ i = 202 → F i = f i) → (∀ k, m ≤ k → k < n → F 202 (zdg n c k) = nI k ∧ s.testBit (zdg n c k) = true) → zWp X (d + 3) zm253 10 [.ref 178, .int (nI n), .int (nI c), .int (nI (c / 10 ^ (n - m))), .int (nI s), .int (nI m - 1), .null, .null] [] (zs F g) (zQi K) := by
    intro m
    induction m with
    | zero =>
      intro _ s F hok hs hF hd
      have hok' : zokc n n c 0 = true := hok
      have hmem := zP_mem h0 (by omega) hc hok'
      obtain ⟨-, -, hps, -⟩ := zchkp_at h0 (by omega) hmem
      apply s253_10_178
      rw [if_pos (by decide)]
      refine l253s (d := d + 1) (T := T) (p := zps n c) hn (fun a ha => ?_) (fun k hk => by rw [hF 201 (by omega)]; exact hT k hk) n 0 (by omega) 0 ?_
      · obtain ⟨y1, y2, y3⟩ := hps a ha
        have z := (hd (zps n c a) (by omega) y3).1
        rw [y2] at z
        exact ⟨z, by omega⟩
      · have z := hK F hF
        unfold zCr at z
        rw [if_pos hok'] at z
        rw [Nat.zero_add]
        exact z
    | succ m ih =>
      intro hm s F hok hs hF hd
      have hle : c / 10 ^ (n - (m + 1)) ≤ c := Nat.div_le_self _ _
      have hp : c / 10 ^ (n - (m + 1)) % 10 = zdg n c m := by
        unfold zdg
        rw [show n - 1 - m = n - (m + 1) by omega]
      have hdiv : c / 10 ^ (n - (m + 1)) / 10 = c / 10 ^ (n - m) := by
        rw [Nat.div_div_eq_div_mul, ← Nat.pow_succ, show (n - (m + 1)).succ = n - m by omega]
      have hrm : nI (c / 10 ^ (n - (m + 1))) - nI (c / 10 ^ (n - (m + 1))) / (10 : Int32) * 10 = nI (zdg n c m) := by
        have z := pk_rem (a := c / 10 ^ (n - (m + 1))) (d := 10) (by omega) (by omega) (by omega)
        rw [hp] at z
        exact z
      have hdv : nI (c / 10 ^ (n - (m + 1))) / (10 : Int32) = nI (c / 10 ^ (n - m)) := by
        have z := pk_div (a := c / 10 ^ (n - (m + 1))) (d := 10) (by omega) (by omega) (by omega)
        rw [hdiv] at z
        exact z
      have hdlt : zdg n c m < 10 := Nat.mod_lt _ (by omega)
      have e0 : zokc n (m + 1) (c / 10 ^ (n - (m + 1))) s = if n ≤ zdg n c m then false else if s.testBit (zdg n c m) = true then false else zokc n m (c / 10 ^ (n - m)) (s ||| 2 ^ (zdg n c m)) := by
        show (if n ≤ c / 10 ^ (n - (m + 1)) % 10 then false else if s.testBit (c / 10 ^ (n - (m + 1)) % 10) = true then false else zokc n m (c / 10 ^ (n - (m + 1)) / 10) (s ||| 2 ^ (c / 10 ^ (n - (m + 1)) % 10))) = _
        rw [hp, hdiv]
      rw [e0] at hok
      rw [nI_pred]
      apply s253_10_178
      rw [if_neg (nI_pos (by omega)), if_neg (by decide), zrO.2, hrm]
      by_cases e1 : n ≤ zdg n c m
      · rw [if_pos e1] at hok
        have z := hK F hF
        unfold zCr at z
        rw [if_neg (by rw [hok]; decide)] at z
        rw [if_pos (nI_le e1 (by omega))]
        exact z
      · rw [if_neg e1] at hok
        rw [if_neg (nI_ge (by omega) (by omega)), q254 (by omega) (by omega)]
        by_cases e2 : s.testBit (zdg n c m) = true
        · rw [if_pos e2] at hok
          have z := hK F hF
          unfold zCr at z
          rw [if_neg (by rw [hok]; decide)] at z
          rw [if_neg (by rw [zb_0]; exact fun y => y e2)]
          exact z
        · rw [if_neg e2] at hok
          rw [if_pos (by rw [zb_0]; exact e2), if_neg (nI_in (by omega) (by omega)), nI_cl (by omega), if_neg (by decide), zdO.2, hdv, zhO.2, zsh1 _ (by omega), nx_or, ← Int32.sub_eq_add_neg]
          have h2p : 2 ^ zdg n c m < 64 := by
            have : 2 ^ zdg n c m < 2 ^ 6 := Nat.pow_lt_pow_right (by omega) (by omega)
            omega
          refine ih (by omega) _ _ hok (Nat.or_lt_two_pow (n := 6) hs h2p) (fun i hi => by rw [zi_ne hi, hF i hi]) (fun k k1 k2 => ?_)
          by_cases ek : k = m
          · subst ek
            refine ⟨by rw [zi_at, if_pos rfl], ?_⟩
            rw [Nat.testBit_or, Nat.testBit_two_pow_self]
            simp
          · obtain ⟨y1, y2⟩ := hd k (by omega) k2
            have hne : ¬ zdg n c k = zdg n c m := fun z => by
              rw [z] at y2
              exact e2 y2
            refine ⟨by rw [zi_at, if_neg hne]; exact y1, ?_⟩
            rw [Nat.testBit_or, y2]
            rfl
  apply e253_178
  rw [zsO.2]
  have z := hl n (Nat.le_refl n) 0 f (by rw [Nat.sub_self, Nat.pow_zero, Nat.div_one]) (by omega) (fun _ _ => rfl) (fun k k1 k2 => absurd k1 (by omega))
  rw [Nat.sub_self, Nat.pow_zero, Nat.div_one] at z
  exact z
/-- the least of the cheapest from lo on, up to hi -/
def zBst (C : Nat → Nat) (lo hi b : Nat) : Prop := lo ≤ b ∧ b < hi ∧ (∀ y, lo ≤ y → y < hi → C b ≤ C y) ∧ ∀ y, lo ≤ y → y < b → C b < C y
theorem l252 {f : Nat → Nat → Int32} {w : Int32} (h0 : 0 < n) (hn : n ≤ 6) (hT : ∀ k, k < 36 → f 201 k = nI (T k)) (hCb : ∀ c, c < 10 ^ n → zCr T n c ≤ 100000000) (hl10 : zlst n < 10 ^ n) (hfl : zfst n ≤ zlst n) (hK : ∀ (b : Nat) (G : Nat → Nat → Int32), zBst (zCr T n) (zfst n) (zlst n + 1) b → (∀ i, ¬ i = 202 → G i = f i) → K (if w = 0 then nI (zCr T n b) else nI b) G g) : zWp X (d + 5) zm252 36 [.ref 178, .int (nI n), .int w, .int 0, .int 0, .int 0, .null] [] (zs f g) (zQi K) := by
  have h6 : 10 ^ n ≤ 10 ^ 6 := Nat.pow_le_pow_right (by omega) hn
  have h6' : (10 : Nat) ^ 6 = 1000000 := by decide
  -- through all codes
  have hgo : ∀ u x, x + u = zlst n + 1 → ∀ (b : Nat) (F : Nat → Nat → Int32), ((x = zfst n ∧ b = zfst n) ∨ zBst (zCr T n) (zfst n) x b) → (∀ i, ¬ i = 202 → F i = f i) → zWp X (d + 5) zm252 76 [.ref 178, .int (nI n), .int w, .int (nI (zfst n)), .int (nI (zlst n)), .int (nI b), .int (nI x)] [] (zs F g) (zQi K) := by
    intro u
    induction u with
    | zero =>
      intro x hx b F hb hF
      have ex : x = zlst n + 1 := by omega
      subst ex
      have hb' : zBst (zCr T n) (zfst n) (zlst n + 1) b := by
        rcases hb with ⟨z, -⟩ | z
        · omega
        · exact z
      apply s252_76_178
      rw [if_pos (nI_lt (by omega) (by omega))]
      by_cases e : w = 0
      · rw [if_pos e]
        refine l253 (d := d + 1) h0 hn (by have := hb'.2.1; omega) (fun k hk => by rw [hF 201 (by omega)]; exact hT k hk) (fun G hG => ?_)
        have z := hK b G hb' (fun i hi => by rw [hG i hi, hF i hi])
        rw [if_pos e] at z
        exact z
      · rw [if_neg e]
        have z := hK b F hb' hF
        rw [if_neg e] at z
        exact z
    | succ u ih =>
      intro x hx b F hb hF
      have hbx : zfst n ≤ b ∧ b ≤ x ∧ zfst n ≤ x := by
        rcases hb with ⟨z1, z2⟩ | ⟨z1, z2, -⟩
        · omega
        · omega
      have c1 := hCb x (by omega)
      have c2 := hCb b (by omega)
      apply s252_76_178
      rw [if_neg (show ¬ nI (zlst n) < nI x by simp only [Int32.lt_iff_toInt_lt, Int32.le_iff_toInt_le, nI_toInt (show zlst n < 2 ^ 31 by omega), nI_toInt (show x < 2 ^ 31 by omega)]; omega)]
      refine l253 (d := d + 1) h0 hn (by omega) (fun k hk => by rw [hF 201 (by omega)]; exact hT k hk) (fun G hG => ?_)
      have hGf : ∀ i, ¬ i = 202 → G i = f i := fun i hi => by rw [hG i hi, hF i hi]
      refine l253 (d := d + 1) h0 hn (by omega) (fun k hk => by rw [hGf 201 (by omega)]; exact hT k hk) (fun H hH => ?_)
      have hHf : ∀ i, ¬ i = 202 → H i = f i := fun i hi => by rw [hH i hi, hGf i hi]
      rw [nI_1]
      by_cases e : zCr T n x < zCr T n b
      · rw [if_neg (nI_ge e (by omega))]
        refine ih (x + 1) (by omega) x H (Or.inr ⟨by omega, by omega, fun y y1 y2 => ?_, fun y y1 y2 => ?_⟩) hHf
        · rcases hb with ⟨z1, z2⟩ | ⟨-, -, z3, -⟩
          · rw [show y = x by omega]
            exact Nat.le_refl _
          · by_cases ey : y = x
            · rw [ey]
              exact Nat.le_refl _
            · have := z3 y y1 (by omega)
              omega
        · rcases hb with ⟨z1, z2⟩ | ⟨-, -, z3, -⟩
          · omega
          · have := z3 y y1 y2
            omega
      · rw [if_pos (nI_le (by omega) (by omega))]
        refine ih (x + 1) (by omega) b H (Or.inr ?_) hHf
        rcases hb with ⟨z1, z2⟩ | ⟨z1, z2, z3, z4⟩
        · refine ⟨by omega, by omega, fun y y1 y2 => ?_, fun y y1 y2 => by omega⟩
          rw [show y = x by omega]
          omega
        · refine ⟨z1, by omega, fun y y1 y2 => ?_, z4⟩
          by_cases ey : y = x
          · rw [ey]
            omega
          · exact z3 y y1 (by omega)
  -- the first and the last
  have hfl2 : ∀ u k, k + u = n → zWp X (d + 5) zm252 36 [.ref 178, .int (nI n), .int w, .int (nI (zcode (fun k => k) k)), .int (nI (zcode (fun k => n - 1 - k) k)), .int (nI k), .null] [] (zs f g) (zQi K) := by
    intro u
    induction u with
    | zero =>
      intro k hk
      have ek : k = n := by omega
      subst ek
      apply s252_36_178
      rw [if_pos (nI_le (by omega) (by omega))]
      exact hgo (zlst k + 1 - zfst k) (zfst k) (by omega) (zfst k) f (Or.inl ⟨rfl, rfl⟩) (fun _ _ => rfl)
    | succ u ih =>
      intro k hk
      have z := ih (k + 1) (by omega)
      apply s252_36_178
      rw [if_neg (nI_ge (by omega) (by omega)), nI_1, zmO.2, zmO.2, zsO.2, zsO.2, show (10 : Int32) * nI (zcode (fun k => k) k) + nI k = nI (10 * zcode (fun k => k) k + k) from nI_mb _ 10 _, show (10 : Int32) * nI (zcode (fun k => n - 1 - k) k) + nI n = nI (10 * zcode (fun k => n - 1 - k) k + n) from nI_mb _ 10 _, (nI_m1 (show 0 < 10 * zcode (fun k => n - 1 - k) k + n by omega)).2, pk_sub (by omega)]
      have e : 10 * zcode (fun k => n - 1 - k) k + n - 1 - k = zcode (fun k => n - 1 - k) (k + 1) := by
        show _ = 10 * zcode (fun k => n - 1 - k) k + (n - 1 - k)
        omega
      rw [e]
      exact z
  exact hfl2 n 0 (by omega)
end ZDR
/-! both sides -/
theorem zchn_lt {n : Nat} : ∀ (t : List Nat) (c : Nat), zchn n (c :: t) = true → (∀ z, z ∈ t → c < z) ∧ (t = [] ∨ zchn n t = true)
  | [], c, _ => ⟨fun z hz => absurd hz (by simp), Or.inl rfl⟩
  | c' :: t, c, h => by
    have h2 : (decide (c < c') && (match zpiv (zdg n c) (n - 1) with | none => false | some i => (List.range n).all (fun k => decide (zrvs 6 (zswp (zdg n c) i (zjd (zdg n c) i (n - 1))) (i + 1) (n - 1) k = zdg n c' k))) && zchn n (c' :: t)) = true := h
    simp only [Bool.and_eq_true, decide_eq_true_eq] at h2
    obtain ⟨⟨h3, -⟩, h4⟩ := h2
    have ih := zchn_lt t c' h4
    refine ⟨fun z hz => ?_, Or.inr h4⟩
    rcases List.mem_cons.mp hz with rfl | hz
    · exact h3
    · have := ih.1 z hz
      omega
/-- the first of the cheapest of those seen -/
def zGd (C : Nat → Nat) (S : Nat → Prop) (l b : Nat) : Prop := S b ∧ l = C b ∧ (∀ y, S y → C b ≤ C y) ∧ ∀ y, S y → y < b → C b < C y
theorem zbd_gd {C : Nat → Nat} : ∀ (t : List Nat) (S : Nat → Prop) (l b : Nat), zGd C S l b → (∀ y, S y → ∀ z, z ∈ t → y < z) → t.Pairwise (fun a b => a < b) → zGd C (fun y => S y ∨ y ∈ t) (zbd C t l b).1 (zbd C t l b).2
  | [], S, l, b, h, _, _ => by
    obtain ⟨h1, h2, h3, h4⟩ := h
    refine ⟨Or.inl h1, h2, fun y hy => ?_, fun y hy => ?_⟩
    · rcases hy with hy | hy
      · exact h3 y hy
      · exact absurd hy (by simp)
    · rcases hy with hy | hy
      · exact h4 y hy
      · exact absurd hy (by simp)
  | c :: t, S, l, b, h, hS, hp => by
    obtain ⟨h1, h2, h3, h4⟩ := h
    obtain ⟨p1, p2⟩ := List.pairwise_cons.mp hp
    have hSt : ∀ y, (S y ∨ y = c) → ∀ z, z ∈ t → y < z := fun y hy z hz => by
      rcases hy with hy | rfl
      · exact hS y hy z (List.mem_cons_of_mem _ hz)
      · exact p1 z hz
    have hsub : ∀ y, ((S y ∨ y = c) ∨ y ∈ t) ↔ (S y ∨ y ∈ c :: t) := fun y => by
      rw [List.mem_cons, or_assoc]
    have key : ∀ l' b', zGd C (fun y => (S y ∨ y = c) ∨ y ∈ t) l' b' → zGd C (fun y => S y ∨ y ∈ c :: t) l' b' := fun l' b' hz => by
      obtain ⟨z1, z2, z3, z4⟩ := hz
      exact ⟨(hsub _).mp z1, z2, fun y hy => z3 y ((hsub y).mpr hy), fun y hy => z4 y ((hsub y).mpr hy)⟩
    by_cases e : C c < l
    · have ez : zbd C (c :: t) l b = zbd C t (C c) c := by
        show (if C c < l then zbd C t (C c) c else zbd C t l b) = _
        rw [if_pos e]
      rw [ez]
      refine key _ _ (zbd_gd t (fun y => S y ∨ y = c) (C c) c ⟨Or.inr rfl, rfl, fun y hy => ?_, fun y hy hyc => ?_⟩ hSt p2)
      · rcases hy with hy | rfl
        · have := h3 y hy
          omega
        · exact Nat.le_refl _
      · rcases hy with hy | rfl
        · have := h3 y hy
          omega
        · omega
    · have ez : zbd C (c :: t) l b = zbd C t l b := by
        show (if C c < l then zbd C t (C c) c else zbd C t l b) = _
        rw [if_neg e]
      rw [ez]
      refine key _ _ (zbd_gd t (fun y => S y ∨ y = c) l b ⟨Or.inl h1, h2, fun y hy => ?_, fun y hy hyb => ?_⟩ hSt p2)
      · rcases hy with hy | rfl
        · exact h3 y hy
        · omega
      · rcases hy with hy | rfl
        · exact h4 y hy hyb
        · have := hS b h1 y List.mem_cons_self
          omega
theorem zchn_pw {n : Nat} : ∀ (t : List Nat), t = [] ∨ zchn n t = true → t.Pairwise (fun a b => a < b)
  | [], _ => List.Pairwise.nil
  | c :: t, h => by
    have h' : zchn n (c :: t) = true := h.resolve_left (by simp)
    obtain ⟨h1, h2⟩ := zchn_lt t c h'
    exact List.pairwise_cons.mpr ⟨h1, zchn_pw t h2⟩

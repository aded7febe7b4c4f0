/-! desks: the class's side -/
/-- the first of the cheapest -/
def zbd (C : Nat → Nat) : List Nat → Nat → Nat → Nat × Nat
  | [], l, b => (l, b)
  | c :: t, l, b => if C c < l then zbd C t (C c) c else zbd C t l b
section ZDE
variable {X : Nat × (Nat → Int32)} {d : Nat} {g : Nat → Nat → Int64} {K : Int32 → (Nat → Nat → Int32) → (Nat → Nat → Int64) → Prop} {n : Nat} {T : Nat → Nat}
theorem q94 {F : Nat → Nat → Int32} {r : Nat → Nat} (hn : n ≤ 6) (hr : ∀ k, k < n → F 172 k = nI (r k)) : zCpi X (d + 1) 94 [.ref 169, .int (nI n)] (zs F g) K = K (nI (zcode r n)) F g := by
  refine zCpi_eq (fun K hK => e94_169 ?_)
  have hl : ∀ u k, k + u = n → zWp X (d + 0) zm94 4 [.ref 169, .int (nI n), .int (nI (zcode r k)), .int (nI k)] [] (zs F g) (zQi K) := by
    intro u
    induction u with
    | zero =>
      intro k hk
      have ek : k = n := by omega
      subst ek
      apply s94_4_169
      rw [if_pos (nI_le (by omega) (by omega))]
      exact hK
    | succ u ih =>
      intro k hk
      have z := ih (k + 1) (by omega)
      apply s94_4_169
      rw [if_neg (nI_ge (by omega) (by omega)), if_neg (nI_in (by omega) (by omega)), nI_cl (by omega), hr k (by omega), nI_1, zmO.2, show (10 : Int32) * nI (zcode r k) + nI (r k) = nI (10 * zcode r k + r k) from nI_mb _ 10 _]
      exact z
  exact hl n 0 (by omega)
theorem q93 {F : Nat → Nat → Int32} {r : Nat → Nat} (hn : n ≤ 6) (hr : ∀ k, k < n → F 172 k = nI (r k) ∧ r k < 6) (hT : ∀ k, k < 36 → F 24 k = nI (T k)) : zCpi X (d + 1) 93 [.ref 169, .ref 24, .int (nI n)] (zs F g) K = K (nI (zlsum T (zpo r n n 0))) F g := by
  refine zCpi_eq (fun K hK => e93_169_24 ?_)
  have hadd : ∀ l l' : List (Nat × Nat), zlsum T (l ++ l') = zlsum T l + zlsum T l' := by
    intro l l'
    induction l with
    | nil => simp only [List.nil_append, zlsum, Nat.zero_add]
    | cons x l ih => simp only [List.cons_append, zlsum, ih]; omega
  have hin : ∀ (i : Nat), i < n → ∀ u j, j + u = n → i < j → ∀ s : Nat, zWp X (d + 0) zm93 5 [.ref 169, .ref 24, .int (nI n), .int (nI (s + zlsum T (zpi r i u j))), .int (nI (i + 1)), .null] [] (zs F g) (zQi K) → zWp X (d + 0) zm93 17 [.ref 169, .ref 24, .int (nI n), .int (nI s), .int (nI i), .int (nI j)] [] (zs F g) (zQi K) := by
    intro i hi u
    induction u with
    | zero =>
      intro j hj hij s h
      apply s93_17_169_24
      rw [if_pos (nI_le (by omega) (by omega)), nI_1]
      exact h
    | succ u ih =>
      intro j hj hij s h
      obtain ⟨a1, a2⟩ := hr i hi
      obtain ⟨b1, b2⟩ := hr j (by omega)
      apply s93_17_169_24
      rw [if_neg (nI_ge (by omega) (by omega)), if_neg (nI_in (by omega) (by omega)), if_neg (nI_in (by omega) (by omega)), nI_cl (k := i) (by omega), nI_cl (k := j) (by omega), a1, b1, zmO.2, show nI (r i) * (6 : Int32) + nI (r j) = nI (r i * 6 + r j) from nI_ma _ 6 _, if_neg (nI_in (by omega) (by omega)), nI_cl (by omega), zsO.2, pk_sub (by omega), nI_1, zmO.2, hT _ (by omega), pk_mul, nI_add, Nat.mul_comm (r i) 6]
      refine ih (j + 1) (by omega) (by omega) _ ?_
      have e : s + (j - i) * T (6 * r i + r j) + zlsum T (zpi r i u (j + 1)) = s + zlsum T (zpi r i (u + 1) j) := by
        show _ = s + ((j - i) * T (6 * r i + r j) + zlsum T (zpi r i u (j + 1)))
        omega
      rw [e]
      exact h
  have hout : ∀ u i, i + u = n → ∀ s : Nat, K (nI (s + zlsum T (zpo r n u i))) F g → zWp X (d + 0) zm93 5 [.ref 169, .ref 24, .int (nI n), .int (nI s), .int (nI i), .null] [] (zs F g) (zQi K) := by
    intro u
    induction u with
    | zero =>
      intro i hi s h
      apply s93_5_169_24
      rw [if_pos (nI_le (by omega) (by omega))]
      exact h
    | succ u ih =>
      intro i hi s h
      apply s93_5_169_24
      rw [if_neg (nI_ge (by omega) (by omega)), nI_1]
      refine hin i (by omega) (n - (i + 1)) (i + 1) (by omega) (by omega) s ?_
      refine ih (i + 1) (by omega) _ ?_
      have e : s + zlsum T (zpi r i (n - (i + 1)) (i + 1)) + zlsum T (zpo r n u (i + 1)) = s + zlsum T (zpo r n (u + 1) i) := by
        show _ = s + zlsum T (zpi r i (n - (i + 1)) (i + 1) ++ zpo r n u (i + 1))
        rw [hadd]
        omega
      rw [e]
      exact h
  refine hout n 0 (by omega) 0 ?_
  rw [Nat.zero_add]
  exact hK
theorem q96 {F : Nat → Nat → Int32} {r : Nat → Nat} {i j : Nat} {Kv : (Nat → Nat → Int32) → (Nat → Nat → Int64) → Prop} (hn : n ≤ 6) (hi : i < n) (hj : j < n) (hr : ∀ k, k < n → F 172 k = nI (r k)) (hK : ∀ G : Nat → Nat → Int32, (∀ k, k < n → G 172 k = nI (zswp r i j k)) → (∀ c, ¬ c = 172 → G c = F c) → Kv G g) : zCpv X (d + 1) 96 [.ref 172, .int (nI i), .int (nI j)] (zs F g) Kv := by
  apply e96_172
  rw [if_neg (nI_in (by omega) (by omega)), if_neg (nI_in (by omega) (by omega)), if_neg (nI_in (by omega) (by omega)), if_neg (nI_in (by omega) (by omega)), nI_cl (k := i) (by omega), nI_cl (k := j) (by omega)]
  refine hK _ (fun k hk => ?_) (fun c hc => by rw [zi_ne hc, zi_ne hc])
  unfold zswp
  rw [zi_at, zi_at]
  by_cases e1 : k = j
  · rw [if_pos e1, if_pos e1]
    exact hr i hi
  · rw [if_neg e1, if_neg e1]
    by_cases e2 : k = i
    · rw [if_pos e2, if_pos e2]
      exact hr j hj
    · rw [if_neg e2, if_neg e2]
      exact hr k hk
theorem l95_86 {x2 x3 : Int32} (hn : n ≤ 6) : ∀ u (r : Nat → Nat) (lo hi : Nat) (F : Nat → Nat → Int32), hi ≤ lo + 2 * u → hi < n → lo ≤ n → (∀ k, k < n → F 172 k = nI (r k)) → (∀ G : Nat → Nat → Int32, (∀ k, k < n → G 172 k = nI (zrvs u r lo hi k)) → (∀ c, ¬ c = 172 → G c = F c) → K 1 G g) → zWp X (d + 1) zm95 86 [.ref 169, .int (nI n), .int x2, .int x3, .int (nI lo), .int (nI hi)] [] (zs F g) (zQi K)
  | 0, r, lo, hi, F, h1, h2, h3, hr, hK => by
    apply s95_86_169
    rw [if_pos (nI_le (by omega) (by omega)), if_pos (Or.inr rfl)]
    exact hK F hr (fun _ _ => rfl)
  | u + 1, r, lo, hi, F, h1, h2, h3, hr, hK => by
    apply s95_86_169
    by_cases e : hi ≤ lo
    · rw [if_pos (nI_le e (by omega)), if_pos (Or.inr rfl)]
      refine hK F (fun k hk => ?_) (fun _ _ => rfl)
      show F 172 k = nI ((if hi ≤ lo then r else zrvs u (zswp r lo hi) (lo + 1) (hi - 1)) k)
      rw [if_pos e]
      exact hr k hk
    · rw [if_neg (nI_ge (by omega) (by omega))]
      refine q96 (d := d) hn (by omega) (by omega) hr (fun G g1 g2 => ?_)
      rw [nI_1, (nI_m1 (show 0 < hi by omega)).1]
      refine l95_86 hn u (zswp r lo hi) (lo + 1) (hi - 1) G (by omega) (by omega) (by omega) g1 (fun H k1 k2 => ?_)
      refine hK H (fun k hk => ?_) (fun c hc => by rw [k2 c hc, g2 c hc])
      show H 172 k = nI ((if hi ≤ lo then r else zrvs u (zswp r lo hi) (lo + 1) (hi - 1)) k)
      rw [if_neg e]
      exact k1 k hk
theorem l95_41 {F : Nat → Nat → Int32} {r : Nat → Nat} {i : Nat} (hn : n ≤ 6) (hi : i + 1 < n) (hr : ∀ k, k < n → F 172 k = nI (r k) ∧ r k < 6) (hK : ∀ G : Nat → Nat → Int32, (∀ k, k < n → G 172 k = nI (zrvs 6 (zswp r i (zjd r i (n - 1))) (i + 1) (n - 1) k)) → (∀ c, ¬ c = 172 → G c = F c) → K 1 G g) : ∀ j, j < n → zjd r i (n - 1) = zjd r i j → zWp X (d + 2) zm95 41 [.ref 169, .int (nI n), .int (nI i), .int (nI j), .null, .null] [] (zs F g) (zQi K) := by
  have hex : ∀ j, j < n → zjd r i (n - 1) = j → zCpv X (d + 2) 96 [.ref 172, .int (nI i), .int (nI j)] (zs F g) (fun f1 g2 => zWp X (d + 2) zm95 86 [.ref 169, .int (nI n), .int (nI i), .int (nI j), .int (nI i + 1), .int (zsO.1 (nI n) 1)] [] (zs f1 g2) (zQi K)) := by
    intro j hj ej
    refine q96 (d := d + 1) hn (by omega) hj (fun k hk => (hr k hk).1) (fun G g1 g2 => ?_)
    rw [zsO.2, (nI_m1 (show 0 < n by omega)).2, nI_1]
    refine l95_86 (d := d + 1) hn 6 (zswp r i j) (i + 1) (n - 1) G (by omega) (by omega) (by omega) g1 (fun H k1 k2 => ?_)
    rw [← ej] at k1
    exact hK H k1 (fun c hc => by rw [k2 c hc, g2 c hc])
  intro j
  induction j with
  | zero =>
    intro hj ej
    apply s95_41_169
    rw [if_pos (nI_le (by omega) (by omega))]
    exact hex 0 hj (by rw [ej]; rfl)
  | succ j ih =>
    intro hj ej
    have e0 : zjd r i (j + 1) = if j + 1 ≤ i then j + 1 else if r i ≤ r (j + 1) then j + 1 else zjd r i j := rfl
    rw [e0] at ej
    apply s95_41_169
    by_cases e1 : j + 1 ≤ i
    · rw [if_pos e1] at ej
      rw [if_pos (nI_le e1 (by omega))]
      exact hex (j + 1) hj ej
    · rw [if_neg e1] at ej
      obtain ⟨a1, a2⟩ := hr i (by omega)
      obtain ⟨b1, b2⟩ := hr (j + 1) hj
      rw [if_neg (nI_ge (by omega) (by omega)), if_neg (nI_in (by omega) (by omega)), if_neg (nI_in (by omega) (by omega)), nI_cl (k := i) (by omega), nI_cl (k := j + 1) (by omega), a1, b1]
      by_cases e2 : r i ≤ r (j + 1)
      · rw [if_pos e2] at ej
        rw [if_pos (nI_le e2 (by omega))]
        exact hex (j + 1) hj ej
      · rw [if_neg e2] at ej
        rw [if_neg (nI_ge (by omega) (by omega)), (nI_m1 (show 0 < j + 1 by omega)).1]
        exact ih (by omega) ej
theorem l95 {F : Nat → Nat → Int32} {r : Nat → Nat} (h0 : 0 < n) (hn : n ≤ 6) (hr : ∀ k, k < n → F 172 k = nI (r k) ∧ r k < 6) (hN : zpiv r (n - 1) = none → K 0 F g) (hS : ∀ i, zpiv r (n - 1) = some i → ∀ G : Nat → Nat → Int32, (∀ k, k < n → G 172 k = nI (zrvs 6 (zswp r i (zjd r i (n - 1))) (i + 1) (n - 1) k)) → (∀ c, ¬ c = 172 → G c = F c) → K 1 G g) : zCpi X (d + 3) 95 [.ref 169, .int (nI n)] (zs F g) K := by
  apply e95_169
  have hl : ∀ m, m < n → zpiv r (n - 1) = zpiv r m → zWp X (d + 2) zm95 4 [.ref 169, .int (nI n), .int (nI m - 1), .null, .null, .null] [] (zs F g) (zQi K) := by
    intro m
    induction m with
    | zero =>
      intro _ em
      apply s95_4_169
      rw [if_pos (by decide), if_neg (by decide), if_pos (Or.inl rfl)]
      exact hN em
    | succ m ih =>
      intro hm em
      have e0 : zpiv r (m + 1) = if r m ≤ r (m + 1) then some m else zpiv r m := rfl
      rw [e0] at em
      obtain ⟨a1, a2⟩ := hr m (by omega)
      obtain ⟨b1, b2⟩ := hr (m + 1) hm
      rw [nI_pred]
      apply s95_4_169
      rw [if_neg (nI_pos (by omega)), if_neg (nI_in (by omega) (by omega)), nI_1, if_neg (nI_in (by omega) (by omega)), nI_cl (k := m) (by omega), nI_cl (k := m + 1) (by omega), a1, b1]
      by_cases e1 : r m ≤ r (m + 1)
      · rw [if_pos e1] at em
        rw [if_pos (nI_le e1 (by omega)), if_pos (nI_pos' (by omega)), zsO.2, (nI_m1 h0).2]
        exact l95_41 (d := d) hn hm hr (hS m em) (n - 1) (by omega) rfl
      · rw [if_neg e1] at em
        rw [if_neg (nI_ge (by omega) (by omega)), ← Int32.sub_eq_add_neg]
        exact ih (by omega) em
  have z := hl (n - 1) (by omega) rfl
  have e : nI (n - 1) - 1 = nI n - 2 := by
    rw [← (nI_m1 h0).2, Int32.sub_sub]
    rfl
  rw [e] at z
  rw [zsO.2]
  exact z
/-- all orders, one after another -/
theorem l92_43 {f : Nat → Nat → Int32} {w : Int32} {C : Nat → Nat} (h0 : 0 < n) (hn : n ≤ 6) (hT : ∀ k, k < 36 → f 24 k = nI (T k)) (hC : ∀ c, C c = zlsum T (zpo (zdg n c) n n 0)) (hCl : ∀ c, c ∈ zPl6 n → C c ≤ 1000) : ∀ (t : List Nat) (c l b x : Nat) (F : Nat → Nat → Int32), zchn n (c :: t) = true → (∀ y, y ∈ c :: t → y ∈ zPl6 n) → x + t.length < 720 → l ≤ 1000 → (∀ k, k < n → F 172 k = nI (zdg n c k)) → (∀ i, ¬ i = 172 → F i = f i) → (∀ G : Nat → Nat → Int32, (∀ i, ¬ i = 172 → G i = f i) → K (if w = 0 then nI (zbd C t l b).1 else nI (zbd C t l b).2) G g) → zWp X (d + 4) zm92 43 [.ref 169, .ref 24, .int (nI n), .int w, .int (nI l), .int (nI b), .int (nI x), .null] [] (zs F g) (zQi K)
  | [], c, l, b, x, F, hch, hin, hx, hl, hr, hF, hK => by
    have hd := (zchkp_at h0 (by omega) (hin c List.mem_cons_self)).2.2.1
    have hp : zpiv (zdg n c) (n - 1) = none := Option.isNone_iff_eq_none.mp hch
    apply s92_43_169_24
    have hx' : x < 720 := by simpa using hx
    rw [if_neg (show ¬ (720 : Int32) ≤ nI x from nI_ge (b := 720) hx' (by omega))]
    refine l95 (d := d + 1) h0 hn (fun k hk => ⟨hr k hk, by have := (hd k hk).1; omega⟩) (fun _ => ?_) (fun i ei => ?_)
    · rw [if_pos rfl]
      have z := hK F hF
      by_cases e : w = 0
      · rw [if_pos e] at z
        rw [if_pos e]
        exact z
      · rw [if_neg e] at z
        rw [if_neg e]
        exact z
    · rw [hp] at ei
      exact absurd ei (by simp)
  | c' :: t, c, l, b, x, F, hch, hin, hx, hl, hr, hF, hK => by
    have hd := (zchkp_at h0 (by omega) (hin c List.mem_cons_self)).2.2.1
    have hm' : c' ∈ zPl6 n := hin c' (List.mem_cons_of_mem _ List.mem_cons_self)
    obtain ⟨-, hcode, hd', -⟩ := zchkp_at h0 (by omega) hm'
    have hch2 : (decide (c < c') && (match zpiv (zdg n c) (n - 1) with | none => false | some i => (List.range n).all (fun k => decide (zrvs 6 (zswp (zdg n c) i (zjd (zdg n c) i (n - 1))) (i + 1) (n - 1) k = zdg n c' k))) && zchn n (c' :: t)) = true := hch
    simp only [Bool.and_eq_true, decide_eq_true_eq] at hch2
    obtain ⟨⟨-, hm⟩, hrest⟩ := hch2
    have hlen : (c' :: t).length = t.length + 1 := rfl
    apply s92_43_169_24
    rw [if_neg (show ¬ (720 : Int32) ≤ nI x from nI_ge (b := 720) (by omega) (by omega))]
    refine l95 (d := d + 1) h0 hn (fun k hk => ⟨hr k hk, by have := (hd k hk).1; omega⟩) (fun ei => ?_) (fun i ei G g1 g2 => ?_)
    · rw [ei] at hm
      exact absurd (show false = true from hm) (by decide)
    · rw [ei] at hm
      have hrow : ∀ k, k < n → G 172 k = nI (zdg n c' k) := fun k hk => by
        have z := List.all_eq_true.mp hm k (List.mem_range.mpr hk)
        rw [g1 k hk, of_decide_eq_true z]
      have hGf : ∀ i, ¬ i = 172 → G i = f i := fun i hi => by rw [g2 i hi, hF i hi]
      rw [if_neg (by decide), q93 (T := T) (r := zdg n c') hn (fun k hk => ⟨hrow k hk, by have := (hd' k hk).1; omega⟩) (fun k hk => by rw [hGf 24 (by omega)]; exact hT k hk), ← hC c', nI_1]
      have hcl := hCl c' hm'
      by_cases e : C c' < l
      · rw [if_neg (nI_ge e (by omega)), q94 hn hrow, hcode]
        refine l92_43 h0 hn hT hC hCl t c' (C c') c' (x + 1) G hrest (fun y hy => hin y (List.mem_cons_of_mem _ hy)) (by omega) hcl hrow hGf (fun H hH => ?_)
        have z := hK H hH
        have ez : zbd C (c' :: t) l b = zbd C t (C c') c' := by
          show (if C c' < l then zbd C t (C c') c' else zbd C t l b) = _
          rw [if_pos e]
        rw [ez] at z
        exact z
      · rw [if_pos (nI_le (by omega) (by omega))]
        refine l92_43 h0 hn hT hC hCl t c' l b (x + 1) G hrest (fun y hy => hin y (List.mem_cons_of_mem _ hy)) (by omega) hl hrow hGf (fun H hH => ?_)
        have z := hK H hH
        have ez : zbd C (c' :: t) l b = zbd C t l b := by
          show (if C c' < l then zbd C t (C c') c' else zbd C t l b) = _
          rw [if_neg e]
        rw [ez] at z
        exact z
end ZDE

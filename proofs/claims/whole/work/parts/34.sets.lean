/-! sets of notes -/
def zus (x n : Int32) : Int32 := (x.toUInt32 >>> (n.toUInt32 &&& Int32.toUInt32 31)).toInt32
def zb1 (x : Int32) : Int32 := x - (zus x 1 &&& Int32.ofNat 1431655765)
def zb2 (x : Int32) : Int32 := (x &&& Int32.ofNat 858993459) + (zus x 2 &&& Int32.ofNat 858993459)
def zb3 (x : Int32) : Int32 := (x + zus x 4) &&& Int32.ofNat 252645135
def zb4 (x : Int32) : Int32 := x + zus x 8
def zb5 (x : Int32) : Int32 := (x + zus x 16) &&& 63
def zpc : Nat → Nat → Nat
  | 0, _ => 0
  | m + 1, n => n % 2 + zpc m (n / 2)
theorem q284 {X : Nat × (Nat → Int32)} {d : Nat} {f : Nat → Nat → Int32} {g : Nat → Nat → Int64} {K : Int32 → (Nat → Nat → Int32) → (Nat → Nat → Int64) → Prop} {a : Int32} : zCpi X (d + 1) 284 [.int a] (zs f g) K = K (zb5 (zb4 (zb3 (zb2 (zb1 a))))) f g := by
  refine zCpi_eq (fun K hK => e284 ?_)
  simp only [zsO.2, zuO.2]
  exact hK
theorem zbc_2 : ∀ a, a < 64 → ∀ b, b < 64 → zb5 (zb4 (zb3 (zb2 (zb1 (nI (64 * a + b)))))) = nI (zpc 12 (64 * a + b)) := by decide +kernel
theorem zbc_n {n : Nat} (h : n < 4096) : zb5 (zb4 (zb3 (zb2 (zb1 (nI n))))) = nI (zpc 12 n) := by
  have := zbc_2 (n / 64) (by omega) (n % 64) (by omega)
  rw [show 64 * (n / 64) + n % 64 = n by omega] at this
  exact this
theorem q284n {X : Nat × (Nat → Int32)} {d : Nat} {f : Nat → Nat → Int32} {g : Nat → Nat → Int64} {K : Int32 → (Nat → Nat → Int32) → (Nat → Nat → Int64) → Prop} {n : Nat} (h : n < 4096) : zCpi X (d + 1) 284 [.int (nI n)] (zs f g) K = K (nI (zpc 12 n)) f g := by rw [q284, zbc_n h]
theorem zpc_2 : ∀ a, a < 64 → ∀ b, b < 64 → 64 * a + b = 0 ∨ zpc 12 (64 * a + b) = zpc 12 ((64 * a + b) &&& (64 * a + b - 1)) + 1 := by decide +kernel
theorem zpc_s {n : Nat} (h : n < 4096) (h0 : ¬ n = 0) : zpc 12 n = zpc 12 (n &&& (n - 1)) + 1 := by
  have := zpc_2 (n / 64) (by omega) (n % 64) (by omega)
  rw [show 64 * (n / 64) + n % 64 = n by omega] at this
  exact this.resolve_left h0
theorem zpc_le : ∀ m n, zpc m n ≤ m
  | 0, _ => Nat.le_refl _
  | m + 1, n => by
    have := zpc_le m (n / 2)
    unfold zpc
    omega
theorem q238 {X : Nat × (Nat → Int32)} {d : Nat} {f : Nat → Nat → Int32} {g : Nat → Nat → Int64} {K : Int32 → (Nat → Nat → Int32) → (Nat → Nat → Int64) → Prop} {n : Nat} (h : n < 4096) : zCpi X (d + 1) 238 [.ref 178, .int (nI n)] (zs f g) K = K (nI (zpc 12 n)) f g := by
  refine zCpi_eq (fun K hK => e238_178 ?_)
  have z : ∀ m n c x1, n ≤ m → n < 4096 → K (nI (c + zpc 12 n)) f g → zWp X (d + 0) zm238 4 [.ref 178, .int x1, .int (nI c), .int (nI n)] [] (zs f g) (zQi K) := by
    intro m
    induction m with
    | zero =>
      intro n c x1 hn _ hK
      have e : n = 0 := by omega
      subst e
      apply s238_4_178
      rw [if_pos (show nI 0 = (0 : Int32) from rfl)]
      exact hK
    | succ m ih =>
      intro n c x1 hn h hK
      apply s238_4_178
      by_cases e : n = 0
      · subst e
        rw [if_pos (show nI 0 = (0 : Int32) from rfl)]
        exact hK
      · obtain ⟨p, ep⟩ : ∃ p, n = p + 1 := ⟨n - 1, by omega⟩
        rw [if_neg (show ¬ nI n = (0 : Int32) from nI_neq (c := 0) (by omega) (by omega) e), zsO.2, ep, nI_pred, nx_and, nI_1]
        have hle : (p + 1) &&& p ≤ p := Nat.and_le_right
        refine ih ((p + 1) &&& p) (c + 1) x1 (by omega) (by omega) ?_
        have hs := zpc_s h e
        rw [ep, show p + 1 - 1 = p by omega] at hs
        rw [ep, hs] at hK
        rw [show c + 1 + zpc 12 ((p + 1) &&& p) = c + (zpc 12 ((p + 1) &&& p) + 1) by omega]
        exact hK
  refine z n n 0 (nI n) (Nat.le_refl _) h ?_
  rw [Nat.zero_add]
  exact hK
theorem nx_or (a b : Nat) : nI a ||| nI b = nI (a ||| b) := by
  apply Int32.toBitVec_inj.1
  show BitVec.ofNat 32 a ||| BitVec.ofNat 32 b = BitVec.ofNat 32 (a ||| b)
  apply BitVec.eq_of_getLsbD_eq
  intro i hi
  simp [hi]
theorem nx_bt {n i : Nat} : bt (nI n) i = (decide (i < 32) && n.testBit i) := by
  show (BitVec.ofNat 32 n).getLsbD i = _
  rw [BitVec.getLsbD_ofNat]
theorem nx_shr {n j : Nat} (hn : n < 65536) (hj : j < 32) : nI n >>> (nI j &&& 31) = nI (n >>> j) := by
  rw [← nx_ush hn hj]
  refine b_ext (fun i hi => ?_)
  rw [b_sshr j hj _ hi, b_ushr j hj]
  split
  · rfl
  · next h =>
    have : n.testBit 31 = false := Nat.testBit_lt_two_pow (by omega)
    rw [b_big (i := j + i) (by omega), nx_bt, this]
    rfl
theorem nx_shl {n j : Nat} (hn : n < 4096) (hj : j ≤ 12) : nI n <<< (nI j &&& 31) = nI (n <<< j) := by
  rw [pk_shlN _ j (s_l j (by omega)), Nat.shiftLeft_eq]
  have h1 : 2 ^ j ≤ 2 ^ 12 := Nat.pow_le_pow_right (by omega) hj
  have h2 : n * 2 ^ j ≤ 4095 * 2 ^ 12 := Nat.mul_le_mul (by omega) h1
  omega
def zrt (n t : Nat) : Nat := ((n <<< t) ||| (n >>> (12 - t))) &&& 4095
theorem zrt_lt {n t : Nat} : zrt n t < 4096 := by
  have : zrt n t ≤ 4095 := Nat.and_le_right
  omega
theorem nI_12s {t : Nat} (ht : t ≤ 12) : (12 : Int32) - nI t = nI (12 - t) := pk_sub (a := 12) ht
theorem q98 {X : Nat × (Nat → Int32)} {d : Nat} {f : Nat → Nat → Int32} {g : Nat → Nat → Int64} {K : Int32 → (Nat → Nat → Int32) → (Nat → Nat → Int64) → Prop} {n t : Nat} (hn : n < 4096) (ht : t ≤ 12) : zCpi X (d + 1) 98 [.int (nI n), .int (nI t)] (zs f g) K = K (nI (zrt n t)) f g := by
  refine zCpi_eq (fun K hK => e98 ?_)
  rw [zhO.2, zuO.2, zsO.2, nI_12s ht, nx_shl hn ht, nx_ush (by omega) (by omega), nx_or]
  have e := nx_and (n <<< t ||| n >>> (12 - t)) 4095
  rw [show (4095 : Int32) = nI 4095 from rfl, e]
  exact hK
theorem q256 {X : Nat × (Nat → Int32)} {d : Nat} {f : Nat → Nat → Int32} {g : Nat → Nat → Int64} {K : Int32 → (Nat → Nat → Int32) → (Nat → Nat → Int64) → Prop} {n t : Nat} (hn : n < 4096) (ht : t ≤ 12) : zCpi X (d + 1) 256 [.ref 178, .int (nI n), .int (nI t)] (zs f g) K = K (nI (zrt n t)) f g := by
  refine zCpi_eq (fun K hK => e256_178 ?_)
  rw [zhO.2, zgO.2, zsO.2, nI_12s ht, nx_shl hn ht, nx_shr (by omega) (by omega), nx_or]
  have e := nx_and (n <<< t ||| n >>> (12 - t)) 4095
  rw [show (4095 : Int32) = nI 4095 from rfl, e]
  exact hK
theorem nx_b1 {n j : Nat} (hn : n < 65536) : nI (n >>> j) &&& 1 = if n.testBit j = true then 1 else 0 := by
  have e := nx_and (n >>> j) 1
  rw [show (1 : Int32) = nI 1 from rfl, e, Nat.and_one_is_mod, Nat.shiftRight_eq_div_pow, Nat.testBit_eq_decide_div_mod_eq]
  by_cases h : n / 2 ^ j % 2 = 1
  · rw [h, if_pos (by simp)]
  · rw [if_neg (by simp [h]), show n / 2 ^ j % 2 = 0 by omega]
    rfl
theorem q254 {X : Nat × (Nat → Int32)} {d : Nat} {f : Nat → Nat → Int32} {g : Nat → Nat → Int64} {K : Int32 → (Nat → Nat → Int32) → (Nat → Nat → Int64) → Prop} {n j : Nat} (hn : n < 65536) (hj : j < 32) : zCpi X (d + 1) 254 [.ref 178, .int (nI n), .int (nI j)] (zs f g) K = K (zb (n.testBit j = true)) f g := by
  refine zCpi_eq (fun K hK => e254_178 ?_)
  rw [zgO.2, nx_shr hn hj, nx_b1 hn]
  unfold zb at hK
  by_cases h : n.testBit j = true
  · rw [if_pos h] at hK
    rw [if_pos h]
    simp only [true_or, or_true, false_or, or_false, or_self, and_self, true_and, and_true, not_true_eq_false, not_false_eq_true, ↓reduceIte, eq_self, zq_01, zq_10, zq_m0, zq_m1, zq_0m, zq_1m, zq_2, zq_6, zq_8, zq_10z, zq_12, zq_1000, Int32.reduceLT, Int32.reduceLE, Int32.reduceToInt, Int32.reduceToNatClampNeg, Int32.reduceOfNat, Int.reduceLT, Int.reduceLE, Int.reduceEq, Nat.reduceLeDiff, Nat.reduceEqDiff, zl_2, zl_8, zl_12, zl_50, zl_132, zl_133, zl_134, zl_999, zl_10000]
    exact hK
  · rw [if_neg h] at hK
    rw [if_neg h]
    simp only [true_or, or_true, false_or, or_false, or_self, and_self, true_and, and_true, not_true_eq_false, not_false_eq_true, ↓reduceIte, eq_self, zq_01, zq_10, zq_m0, zq_m1, zq_0m, zq_1m, zq_2, zq_6, zq_8, zq_10z, zq_12, zq_1000, Int32.reduceLT, Int32.reduceLE, Int32.reduceToInt, Int32.reduceToNatClampNeg, Int32.reduceOfNat, Int.reduceLT, Int.reduceLE, Int.reduceEq, Nat.reduceLeDiff, Nat.reduceEqDiff, zl_2, zl_8, zl_12, zl_50, zl_132, zl_133, zl_134, zl_999, zl_10000]
    exact hK
/-- turned about: the set's mirror -/
def zta (n k : Nat) (s : Nat) : Nat := if n.testBit k = true then s ||| 2 ^ ((12 - k) % 12) else s
def ztb (n : Nat) : Nat := zfold (zta n) 12 0 0
theorem ztb_2 : ∀ a, a < 64 → ∀ b, b < 64 → ztb (64 * a + b) < 4096 := by decide +kernel
theorem ztb_lt {n : Nat} (h : n < 4096) : ztb n < 4096 := by
  have := ztb_2 (n / 64) (by omega) (n % 64) (by omega)
  rw [show 64 * (n / 64) + n % 64 = n by omega] at this
  exact this
theorem z12r {k : Nat} (hk : k < 12) : (12 : Int32) - nI k - ((12 : Int32) - nI k) / 12 * 12 = nI ((12 - k) % 12) := by
  rw [nI_12s (by omega)]
  exact pk_rem (d := 12) (by omega) (by omega) (by omega)
section ZCH
variable {X : Nat × (Nat → Int32)} {d : Nat} {f : Nat → Nat → Int32} {g : Nat → Nat → Int64} {K : Int32 → (Nat → Nat → Int32) → (Nat → Nat → Int64) → Prop}
def zlt2 (n m t : Nat) (s : Int32) : Int32 := zmn s (zmn (nI (zrt n t)) (nI (zrt m t)))
theorem q97 {n : Nat} (hn : n < 4096) : zCpi X (d + 2) 97 [.int (nI n)] (zs f g) K = K (zfold (zlt2 n (ztb n)) 12 0 (nI n)) f g := by
  refine zCpi_eq (fun K hK => e97 ?_)
  refine zloop (st := zta n) (W := fun i s => zWp X (d + 1) zm97 4 [.int (nI n), .int (nI s), .int (nI i), .null] [] (zs f g) (zQi K)) (E := fun s => s = ztb n) 12 ?_ ?_ 12 0 0 (by omega) rfl
  · intro s hs
    subst hs
    apply s97_4
    rw [if_pos (show (12 : Int32) ≤ nI 12 from by decide)]
    refine zloop (st := zlt2 n (ztb n)) (W := fun i s => zWp X (d + 1) zm97 41 [.int (nI n), .int (nI (ztb n)), .int s, .int (nI i)] [] (zs f g) (zQi K)) (E := fun s => K s f g) 12 ?_ ?_ 12 0 (nI n) (by omega) hK
    · intro s hs
      apply s97_41
      rw [if_pos (show (12 : Int32) ≤ nI 12 from by decide)]
      exact hs
    · intro i s hi hs
      apply s97_41
      rw [if_neg (show ¬ (12 : Int32) ≤ nI i from nI_ge (b := 12) (by omega) (by omega))]
      simp only [q98 hn (show i ≤ 12 by omega), q98 (ztb_lt hn) (show i ≤ 12 by omega), q288, nI_1]
      exact hs
  · intro i s hi hs
    apply s97_4
    rw [if_neg (show ¬ (12 : Int32) ≤ nI i from nI_ge (b := 12) (by omega) (by omega)), zuO.2, nx_ush (by omega) (by omega), nx_b1 (by omega), zhO.2, zrO.2, zsO.2, z12r hi, zsh1 _ (by omega), nx_or, nI_1]
    unfold zta at hs
    by_cases h : n.testBit i = true
    · rw [if_pos h] at hs
      rw [if_pos h, if_pos rfl, if_neg (by decide)]
      exact hs
    · rw [if_neg h] at hs
      rw [if_neg h, if_neg (by decide)]
      exact hs
theorem q257 {n : Nat} (hn : n < 4096) : zCpi X (d + 2) 257 [.ref 178, .int (nI n)] (zs f g) K = K (nI (ztb n)) f g := by
  refine zCpi_eq (fun K hK => e257_178 ?_)
  refine zloop (st := zta n) (W := fun i s => zWp X (d + 1) zm257 4 [.ref 178, .int (nI n), .int (nI s), .int (nI i)] [] (zs f g) (zQi K)) (E := fun s => K (nI s) f g) 12 ?_ ?_ 12 0 0 (by omega) hK
  · intro s hs
    apply s257_4_178
    rw [if_pos (show (12 : Int32) ≤ nI 12 from by decide)]
    exact hs
  · intro i s hi hs
    apply s257_4_178
    rw [if_neg (show ¬ (12 : Int32) ≤ nI i from nI_ge (b := 12) (by omega) (by omega)), q254 (by omega) (by omega)]
    simp only [zb_0, zhO.2, zrO.2, zsO.2, z12r hi, nI_1, zq_12, if_false]
    rw [zsh1 _ (by omega), nx_or]
    unfold zta at hs
    by_cases h : n.testBit i = true
    · rw [if_pos h] at hs
      rw [if_neg (fun z => z h)]
      exact hs
    · rw [if_neg h] at hs
      rw [if_pos h]
      exact hs
theorem l255 {n : Nat} {x2 : Int32} (hn : n < 4096) (hK : K (zfold (zlt2 n (ztb n)) 12 0 (nI n)) f g) : zWp X (d + 2) zm255 66 [.ref 178, .int (nI n), .int x2, .int (nI n), .int 0] [] (zs f g) (zQi K) := by
  refine zloop (st := zlt2 n (ztb n)) (W := fun i s => zWp X (d + 2) zm255 66 [.ref 178, .int (nI n), .int x2, .int s, .int (nI i)] [] (zs f g) (zQi K)) (E := fun s => K s f g) 12 ?_ ?_ 12 0 (nI n) (by omega) hK
  · intro s hs
    apply s255_66_178
    rw [if_pos (show (12 : Int32) ≤ nI 12 from by decide)]
    exact hs
  · intro i s hi hs
    apply s255_66_178
    rw [if_neg (show ¬ (12 : Int32) ≤ nI i from nI_ge (b := 12) (by omega) (by omega))]
    simp only [q256 hn (show i ≤ 12 by omega), q257 hn, q256 (ztb_lt hn) (show i ≤ 12 by omega), q222, nI_1]
    exact hs
end ZCH
set_option maxHeartbeats 1000000 in
theorem op_chord {X : Nat × (Nat → Int32)} {d : Nat} {a c : Int32} : zOp X (d + 5) 144 255 [.int a, .int c] := by
  intro fc fr gc gr hR
  obtain ⟨⟨c1, c2, c3, c4, c5, c6, c7, c8, c9, c10, c11⟩, c12, c13, c14, c15, c16⟩ := hR
  have hR0 : zRel fc gc (zuI fr 178 0 0) := by
    refine ⟨⟨?_, ?_, ?_, ?_, ?_, ?_, ?_, ?_, ?_, ?_, ?_⟩, ?_, ?_, ?_, ?_, ?_⟩
    all_goals try (first | assumption | (simp only [zi_ne, zi_at, zr_ne, zr_at, zj_ne, zj_at, ↓reduceIte, Nat.reduceEqDiff, not_false_eq_true, eq_self, nI_1]; assumption) | (simp only [zi_ne, zi_at, zr_ne, zr_at, zj_ne, zj_at, ↓reduceIte, Nat.reduceEqDiff, not_false_eq_true, eq_self, nI_1]; exact zRow_nil) | (exact zPas_frame (fun i _ _ => by first | rfl | (repeat (first | rw [zi_ne (by omega)] | rw [zr_ne (by omega)]))) (by first | rfl | (simp only [zi_ne, zi_at, zr_ne, zr_at, zj_ne, zj_at, ↓reduceIte, Nat.reduceEqDiff, not_false_eq_true, eq_self, nI_1])) (fun i _ _ => rfl) rfl (by first | rfl | (simp only [zi_ne, zi_at, zr_ne, zr_at, zj_ne, zj_at, ↓reduceIte, Nat.reduceEqDiff, not_false_eq_true, eq_self, nI_1])) (by first | rfl | (simp only [zi_ne, zi_at, zr_ne, zr_at, zj_ne, zj_at, ↓reduceIte, Nat.reduceEqDiff, not_false_eq_true, eq_self, nI_1])) (by first | rfl | (simp only [zi_ne, zi_at, zr_ne, zr_at, zj_ne, zj_at, ↓reduceIte, Nat.reduceEqDiff, not_false_eq_true, eq_self, nI_1])) (by first | rfl | (simp only [zi_ne, zi_at, zr_ne, zr_at, zj_ne, zj_at, ↓reduceIte, Nat.reduceEqDiff, not_false_eq_true, eq_self, nI_1])) c14) | (exact zIma_frame (by first | rfl | (simp only [zi_ne, zi_at, zr_ne, zr_at, zj_ne, zj_at, ↓reduceIte, Nat.reduceEqDiff, not_false_eq_true, eq_self, nI_1])) (fun i _ _ => by first | rfl | (repeat (first | rw [zi_ne (by omega)] | rw [zr_ne (by omega)]))) rfl (by first | rfl | (simp only [zi_ne, zi_at, zr_ne, zr_at, zj_ne, zj_at, ↓reduceIte, Nat.reduceEqDiff, not_false_eq_true, eq_self, nI_1])) (by first | rfl | (simp only [zi_ne, zi_at, zr_ne, zr_at, zj_ne, zj_at, ↓reduceIte, Nat.reduceEqDiff, not_false_eq_true, eq_self, nI_1])) c15))
  by_cases ha : 0 ≤ a.toInt ∧ a.toInt ≤ 4095
  · by_cases hc : 0 ≤ c.toInt ∧ c.toInt ≤ 6
    · obtain ⟨n, hn, en⟩ := zixn (x := a) (n := 4096) (by omega) (by omega) (by omega)
      obtain ⟨t, ht, et⟩ := zixn (x := c) (n := 7) (by omega) (by omega) (by omega)
      subst en
      subst et
      have hand : nI n &&& nI (zrt n t) = nI (n &&& zrt n t) := nx_and _ _
      have hlt : n &&& zrt n t < 4096 := by
        have : n &&& zrt n t ≤ n := Nat.and_le_left
        omega
      by_cases h0 : t = 0
      · subst h0
        apply e144_0
        simp only [q124, ha, hc, show nI 0 = (0 : Int32) from rfl, q97 hn, true_or, or_true, false_or, or_false, or_self, and_self, true_and, and_true, not_true_eq_false, not_false_eq_true, ↓reduceIte, eq_self, zq_01, zq_10, zq_m0, zq_m1, zq_0m, zq_1m, zq_2, zq_6, zq_8, zq_10z, zq_12, zq_1000, Int32.reduceLT, Int32.reduceLE, Int32.reduceToInt, Int32.reduceToNatClampNeg, Int32.reduceOfNat, Int.reduceLT, Int.reduceLE, Int.reduceEq, Nat.reduceLeDiff, Nat.reduceEqDiff, zl_2, zl_8, zl_12, zl_50, zl_132, zl_133, zl_134, zl_999, zl_10000, zb_0, zb_1]
        apply e255_178
        simp only [q165, ha, hc, show nI 0 = (0 : Int32) from rfl, true_or, or_true, false_or, or_false, or_self, and_self, true_and, and_true, not_true_eq_false, not_false_eq_true, ↓reduceIte, eq_self, zq_01, zq_10, zq_m0, zq_m1, zq_0m, zq_1m, zq_2, zq_6, zq_8, zq_10z, zq_12, zq_1000, Int32.reduceLT, Int32.reduceLE, Int32.reduceToInt, Int32.reduceToNatClampNeg, Int32.reduceOfNat, Int.reduceLT, Int.reduceLE, Int.reduceEq, Nat.reduceLeDiff, Nat.reduceEqDiff, zl_2, zl_8, zl_12, zl_50, zl_132, zl_133, zl_134, zl_999, zl_10000, zb_0, zb_1]
        refine l255 (d := d + 2) hn ?_
        exact ⟨rfl, hR0⟩
      · have hz : ¬ nI t = (0 : Int32) := nI_neq (c := 0) (by omega) (by omega) h0
        have hz2 : ¬ nI t ≤ (0 : Int32) := nI_nle (by omega) (by omega)
        apply e144_0
        simp only [q124, ha, hc, hz, true_or, or_true, false_or, or_false, or_self, and_self, true_and, and_true, not_true_eq_false, not_false_eq_true, ↓reduceIte, eq_self, zq_01, zq_10, zq_m0, zq_m1, zq_0m, zq_1m, zq_2, zq_6, zq_8, zq_10z, zq_12, zq_1000, Int32.reduceLT, Int32.reduceLE, Int32.reduceToInt, Int32.reduceToNatClampNeg, Int32.reduceOfNat, Int.reduceLT, Int.reduceLE, Int.reduceEq, Nat.reduceLeDiff, Nat.reduceEqDiff, zl_2, zl_8, zl_12, zl_50, zl_132, zl_133, zl_134, zl_999, zl_10000, zb_0, zb_1]
        apply e99
        simp only [q98 hn (show t ≤ 12 by omega), hand, q284n hlt, zdO.2, true_or, or_true, false_or, or_false, or_self, and_self, true_and, and_true, not_true_eq_false, not_false_eq_true, ↓reduceIte, eq_self, zq_01, zq_10, zq_m0, zq_m1, zq_0m, zq_1m, zq_2, zq_6, zq_8, zq_10z, zq_12, zq_1000, Int32.reduceLT, Int32.reduceLE, Int32.reduceToInt, Int32.reduceToNatClampNeg, Int32.reduceOfNat, Int.reduceLT, Int.reduceLE, Int.reduceEq, Nat.reduceLeDiff, Nat.reduceEqDiff, zl_2, zl_8, zl_12, zl_50, zl_132, zl_133, zl_134, zl_999, zl_10000]
        by_cases h6 : nI t = 6
        · rw [if_pos h6]
          apply e255_178
          simp only [q165, ha, hc, hz2, q256 hn (show t ≤ 12 by omega), hand, q238 hlt, zdO.2, true_or, or_true, false_or, or_false, or_self, and_self, true_and, and_true, not_true_eq_false, not_false_eq_true, ↓reduceIte, eq_self, zq_01, zq_10, zq_m0, zq_m1, zq_0m, zq_1m, zq_2, zq_6, zq_8, zq_10z, zq_12, zq_1000, Int32.reduceLT, Int32.reduceLE, Int32.reduceToInt, Int32.reduceToNatClampNeg, Int32.reduceOfNat, Int.reduceLT, Int.reduceLE, Int.reduceEq, Nat.reduceLeDiff, Nat.reduceEqDiff, zl_2, zl_8, zl_12, zl_50, zl_132, zl_133, zl_134, zl_999, zl_10000, zb_0, zb_1]
          rw [if_pos h6]
          exact ⟨rfl, hR0⟩
        · rw [if_neg h6]
          apply e255_178
          simp only [q165, ha, hc, hz2, q256 hn (show t ≤ 12 by omega), hand, q238 hlt, zdO.2, true_or, or_true, false_or, or_false, or_self, and_self, true_and, and_true, not_true_eq_false, not_false_eq_true, ↓reduceIte, eq_self, zq_01, zq_10, zq_m0, zq_m1, zq_0m, zq_1m, zq_2, zq_6, zq_8, zq_10z, zq_12, zq_1000, Int32.reduceLT, Int32.reduceLE, Int32.reduceToInt, Int32.reduceToNatClampNeg, Int32.reduceOfNat, Int.reduceLT, Int.reduceLE, Int.reduceEq, Nat.reduceLeDiff, Nat.reduceEqDiff, zl_2, zl_8, zl_12, zl_50, zl_132, zl_133, zl_134, zl_999, zl_10000, zb_0, zb_1]
          rw [if_neg h6]
          exact ⟨rfl, hR0⟩
    · apply e144_0
      simp only [q124, ha, hc, true_or, or_true, false_or, or_false, or_self, and_self, true_and, and_true, not_true_eq_false, not_false_eq_true, ↓reduceIte, eq_self, zq_01, zq_10, zq_m0, zq_m1, zq_0m, zq_1m, zq_2, zq_6, zq_8, zq_10z, zq_12, zq_1000, Int32.reduceLT, Int32.reduceLE, Int32.reduceToInt, Int32.reduceToNatClampNeg, Int32.reduceOfNat, Int.reduceLT, Int.reduceLE, Int.reduceEq, Nat.reduceLeDiff, Nat.reduceEqDiff, zl_2, zl_8, zl_12, zl_50, zl_132, zl_133, zl_134, zl_999, zl_10000, zb_0, zb_1]
      apply e255_178
      simp only [q165, ha, hc, true_or, or_true, false_or, or_false, or_self, and_self, true_and, and_true, not_true_eq_false, not_false_eq_true, ↓reduceIte, eq_self, zq_01, zq_10, zq_m0, zq_m1, zq_0m, zq_1m, zq_2, zq_6, zq_8, zq_10z, zq_12, zq_1000, Int32.reduceLT, Int32.reduceLE, Int32.reduceToInt, Int32.reduceToNatClampNeg, Int32.reduceOfNat, Int.reduceLT, Int.reduceLE, Int.reduceEq, Nat.reduceLeDiff, Nat.reduceEqDiff, zl_2, zl_8, zl_12, zl_50, zl_132, zl_133, zl_134, zl_999, zl_10000, zb_0, zb_1]
      exact ⟨rfl, hR0⟩
  · apply e144_0
    simp only [q124, ha, true_or, or_true, false_or, or_false, or_self, and_self, true_and, and_true, not_true_eq_false, not_false_eq_true, ↓reduceIte, eq_self, zq_01, zq_10, zq_m0, zq_m1, zq_0m, zq_1m, zq_2, zq_6, zq_8, zq_10z, zq_12, zq_1000, Int32.reduceLT, Int32.reduceLE, Int32.reduceToInt, Int32.reduceToNatClampNeg, Int32.reduceOfNat, Int.reduceLT, Int.reduceLE, Int.reduceEq, Nat.reduceLeDiff, Nat.reduceEqDiff, zl_2, zl_8, zl_12, zl_50, zl_132, zl_133, zl_134, zl_999, zl_10000, zb_0, zb_1]
    apply e255_178
    simp only [q165, ha, true_or, or_true, false_or, or_false, or_self, and_self, true_and, and_true, not_true_eq_false, not_false_eq_true, ↓reduceIte, eq_self, zq_01, zq_10, zq_m0, zq_m1, zq_0m, zq_1m, zq_2, zq_6, zq_8, zq_10z, zq_12, zq_1000, Int32.reduceLT, Int32.reduceLE, Int32.reduceToInt, Int32.reduceToNatClampNeg, Int32.reduceOfNat, Int.reduceLT, Int.reduceLE, Int.reduceEq, Nat.reduceLeDiff, Nat.reduceEqDiff, zl_2, zl_8, zl_12, zl_50, zl_132, zl_133, zl_134, zl_999, zl_10000, zb_0, zb_1]
    exact ⟨rfl, hR0⟩

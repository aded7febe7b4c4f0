/-! the bits of a long, counted -/
def zmk8 (m : Nat) : Nat → Nat
  | 0 => 0
  | k + 1 => m + 256 * zmk8 m k
theorem zand256 {a b c e : Nat} (ha : a < 256) (hc : c < 256) : (a + 256 * b) &&& (c + 256 * e) = (a &&& c) + 256 * (b &&& e) := by
  have h1 : ((a + 256 * b) &&& (c + 256 * e)) % 2 ^ 8 = a &&& c := by
    rw [Nat.and_mod_two_pow, show (a + 256 * b) % 2 ^ 8 = a by omega, show (c + 256 * e) % 2 ^ 8 = c by omega]
  have h2 : ((a + 256 * b) &&& (c + 256 * e)) / 2 ^ 8 = b &&& e := by
    rw [Nat.and_div_two_pow, show (a + 256 * b) / 2 ^ 8 = b by omega, show (c + 256 * e) / 2 ^ 8 = e by omega]
  omega
def zl1 (k n : Nat) : Nat := n - (n / 2 &&& zmk8 85 k)
def zl2 (k n : Nat) : Nat := (n &&& zmk8 51 k) + (n / 4 &&& zmk8 51 k)
def zl3 (k n : Nat) : Nat := (n + n / 16) &&& zmk8 15 k
theorem z8a : ∀ a, a < 256 → ∀ r, r < 2 → (a / 2 + 128 * r) &&& 85 = a / 2 &&& 85 := by decide +kernel
theorem z8b : ∀ a, a < 256 → ∀ r, r < 4 → (a / 4 + 64 * r) &&& 51 = a / 4 &&& 51 := by decide +kernel
def zg1 (a : Nat) : Nat := a - (a / 2 &&& 85)
def zg2 (a : Nat) : Nat := (a &&& 51) + (a / 4 &&& 51)
theorem z8c : ∀ a, a < 256 → zg1 a < 256 ∧ zg2 (zg1 a) < 80 ∧ zg2 (zg1 a) % 16 ≤ 4 ∧ (zg2 (zg1 a) + zg2 (zg1 a) / 16) &&& 15 = zpc 8 a ∧ (a / 2 &&& 85) ≤ a := by decide +kernel
theorem z8d : ∀ x, x < 80 → ∀ r, r ≤ 4 → x % 16 ≤ 4 → x + x / 16 + 16 * r < 256 ∧ (x + x / 16 + 16 * r) &&& 15 = (x + x / 16) &&& 15 := by decide +kernel
theorem zl1_s {k a b : Nat} (ha : a < 256) : zl1 (k + 1) (a + 256 * b) = zg1 a + 256 * zl1 k b := by
  unfold zl1 zg1
  have e : (a + 256 * b) / 2 = (a / 2 + 128 * (b % 2)) + 256 * (b / 2) := by omega
  rw [e]
  show a + 256 * b - (((a / 2 + 128 * (b % 2)) + 256 * (b / 2)) &&& (85 + 256 * zmk8 85 k)) = _
  rw [zand256 (by omega) (by omega), z8a a ha (b % 2) (by omega)]
  have h1 : b / 2 &&& zmk8 85 k ≤ b / 2 := Nat.and_le_left
  have h2 : a / 2 &&& 85 ≤ a / 2 := Nat.and_le_left
  omega
theorem zl2_s {k a b : Nat} (ha : a < 256) : zl2 (k + 1) (a + 256 * b) = zg2 a + 256 * zl2 k b := by
  unfold zl2 zg2
  have e : (a + 256 * b) / 4 = (a / 4 + 64 * (b % 4)) + 256 * (b / 4) := by omega
  rw [e]
  show ((a + 256 * b) &&& (51 + 256 * zmk8 51 k)) + (((a / 4 + 64 * (b % 4)) + 256 * (b / 4)) &&& (51 + 256 * zmk8 51 k)) = _
  rw [zand256 (by omega) (by omega), zand256 (by omega) (by omega), z8b a ha (b % 4) (by omega)]
  omega
/-- bytes' counts, behind one another -/
def zbs : Nat → Nat → Nat
  | 0, _ => 0
  | k + 1, n => zpc 8 (n % 256) + 256 * zbs k (n / 256)
theorem zl_all : ∀ k n, n < 256 ^ k → zl2 k (zl1 k n) % 16 ≤ 4 ∧ zl3 k (zl2 k (zl1 k n)) = zbs k n
  | 0, n, h => by
    have e : n = 0 := by simpa using h
    subst e
    decide
  | k + 1, n, h => by
    have hn : n / 256 < 256 ^ k := by
      rw [Nat.pow_succ] at h
      exact Nat.div_lt_of_lt_mul (by rw [Nat.mul_comm]; exact h)
    obtain ⟨i1, i2⟩ := zl_all k (n / 256) hn
    have e : n = n % 256 + 256 * (n / 256) := by omega
    have ha : n % 256 < 256 := by omega
    obtain ⟨c1, c2, c3, c4, -⟩ := z8c (n % 256) ha
    have e1 : zl2 (k + 1) (zl1 (k + 1) n) = zg2 (zg1 (n % 256)) + 256 * zl2 k (zl1 k (n / 256)) := by
      conv => lhs; rw [e]
      rw [zl1_s ha, zl2_s c1]
    rw [e1]
    generalize zg2 (zg1 (n % 256)) = x at *
    generalize zl2 k (zl1 k (n / 256)) = y at *
    refine ⟨by omega, ?_⟩
    obtain ⟨d1, d2⟩ := z8d x c2 (y % 16) i1 c3
    have e2 : (x + 256 * y) + (x + 256 * y) / 16 = (x + x / 16 + 16 * (y % 16)) + 256 * (y + y / 16) := by omega
    show ((x + 256 * y) + (x + 256 * y) / 16) &&& (15 + 256 * zmk8 15 k) = zpc 8 (n % 256) + 256 * zbs k (n / 256)
    rw [e2, zand256 d1 (by omega), d2, c4]
    have e3 : (y + y / 16) &&& zmk8 15 k = zbs k (n / 256) := i2
    rw [e3]
theorem zpc_split : ∀ m k n, zpc (m + k) n = zpc m (n % 2 ^ m) + zpc k (n / 2 ^ m)
  | 0, k, n => by rw [Nat.zero_add, Nat.pow_zero, Nat.div_one]; show _ = 0 + _; omega
  | m + 1, k, n => by
    rw [show m + 1 + k = (m + k) + 1 by omega]
    show n % 2 + zpc (m + k) (n / 2) = (n % 2 ^ (m + 1)) % 2 + zpc m (n % 2 ^ (m + 1) / 2) + zpc k (n / 2 ^ (m + 1))
    rw [zpc_split m k (n / 2)]
    have h1 : n % 2 ^ (m + 1) % 2 = n % 2 := Nat.mod_mod_of_dvd n ⟨2 ^ m, by rw [Nat.pow_succ, Nat.mul_comm]⟩
    have h2 : n % 2 ^ (m + 1) / 2 = n / 2 % 2 ^ m := by
      rw [Nat.pow_succ, Nat.mul_comm, Nat.mod_mul_right_div_self]
    have h3 : n / 2 / 2 ^ m = n / 2 ^ (m + 1) := by rw [Nat.div_div_eq_div_mul, Nat.pow_succ, Nat.mul_comm]
    rw [h1, h2, h3]
    omega
theorem zbc_f {n : Nat} (h : n < 2 ^ 48) : let s := zbs 8 n
    (s + s / 256 + (s + s / 256) / 65536 + (s + s / 256 + (s + s / 256) / 65536) / 4294967296) % 128 = zpc 48 n := by
  have e6 : zpc 48 n = zpc 8 (n % 256) + (zpc 8 (n / 256 % 256) + (zpc 8 (n / 256 / 256 % 256) + (zpc 8 (n / 256 / 256 / 256 % 256) + (zpc 8 (n / 256 / 256 / 256 / 256 % 256) + zpc 8 (n / 256 / 256 / 256 / 256 / 256))))) := by
    rw [show (48 : Nat) = 8 + (8 + (8 + (8 + (8 + 8)))) from rfl, zpc_split, zpc_split, zpc_split, zpc_split, zpc_split]
  have h5 : n / 256 / 256 / 256 / 256 / 256 < 256 := by omega
  have e8 : zbs 8 n = zpc 8 (n % 256) + 256 * (zpc 8 (n / 256 % 256) + 256 * (zpc 8 (n / 256 / 256 % 256) + 256 * (zpc 8 (n / 256 / 256 / 256 % 256) + 256 * (zpc 8 (n / 256 / 256 / 256 / 256 % 256) + 256 * zpc 8 (n / 256 / 256 / 256 / 256 / 256))))) := by
    show zpc 8 (n % 256) + 256 * (zpc 8 (n / 256 % 256) + 256 * (zpc 8 (n / 256 / 256 % 256) + 256 * (zpc 8 (n / 256 / 256 / 256 % 256) + 256 * (zpc 8 (n / 256 / 256 / 256 / 256 % 256) + 256 * (zpc 8 (n / 256 / 256 / 256 / 256 / 256 % 256) + 256 * (zpc 8 (n / 256 / 256 / 256 / 256 / 256 / 256 % 256) + 256 * (zpc 8 (n / 256 / 256 / 256 / 256 / 256 / 256 / 256 % 256) + 256 * 0))))))) = _
    rw [Nat.mod_eq_of_lt h5, show n / 256 / 256 / 256 / 256 / 256 / 256 = 0 by omega]
    rfl
  have p0 := zpc_le 8 (n % 256)
  have p1 := zpc_le 8 (n / 256 % 256)
  have p2 := zpc_le 8 (n / 256 / 256 % 256)
  have p3 := zpc_le 8 (n / 256 / 256 / 256 % 256)
  have p4 := zpc_le 8 (n / 256 / 256 / 256 / 256 % 256)
  have p5 := zpc_le 8 (n / 256 / 256 / 256 / 256 / 256)
  simp only
  rw [e6, e8]
  generalize zpc 8 (n % 256) = a0 at *
  generalize zpc 8 (n / 256 % 256) = a1 at *
  generalize zpc 8 (n / 256 / 256 % 256) = a2 at *
  generalize zpc 8 (n / 256 / 256 / 256 % 256) = a3 at *
  generalize zpc 8 (n / 256 / 256 / 256 / 256 % 256) = a4 at *
  generalize zpc 8 (n / 256 / 256 / 256 / 256 / 256) = a5 at *
  clear e6 e8 h5 h
  have s1 : (a0 + 256 * (a1 + 256 * (a2 + 256 * (a3 + 256 * (a4 + 256 * a5))))) / 256 = a1 + 256 * (a2 + 256 * (a3 + 256 * (a4 + 256 * a5))) := by omega
  rw [s1]
  have s2 : (a0 + 256 * (a1 + 256 * (a2 + 256 * (a3 + 256 * (a4 + 256 * a5)))) + (a1 + 256 * (a2 + 256 * (a3 + 256 * (a4 + 256 * a5))))) / 65536 = (a2 + a3) + 256 * ((a3 + a4) + 256 * ((a4 + a5) + 256 * a5)) := by omega
  rw [s2]
  have s3 : (a0 + 256 * (a1 + 256 * (a2 + 256 * (a3 + 256 * (a4 + 256 * a5)))) + (a1 + 256 * (a2 + 256 * (a3 + 256 * (a4 + 256 * a5)))) + ((a2 + a3) + 256 * ((a3 + a4) + 256 * ((a4 + a5) + 256 * a5)))) / 4294967296 = (a4 + a5) + 256 * a5 := by omega
  rw [s3]
  omega
def zlu (x : Int64) (n : Int32) : Int64 := (x.toUInt64 >>> (n.toInt64.toUInt64 &&& Int64.toUInt64 63)).toInt64
def zc1 (x : Int64) : Int64 := x - (zlu x 1 &&& Int64.ofNat 6148914691236517205)
def zc2 (x : Int64) : Int64 := (x &&& Int64.ofNat 3689348814741910323) + (zlu x 2 &&& Int64.ofNat 3689348814741910323)
def zc3 (x : Int64) : Int64 := (x + zlu x 4) &&& Int64.ofNat 1085102592571150095
def zc4 (x : Int64) : Int64 := x + zlu x 8
def zc5 (x : Int64) : Int64 := x + zlu x 16
def zc6 (x : Int64) : Int64 := x + zlu x 32
theorem q285 {X : Nat × (Nat → Int32)} {d : Nat} {f : Nat → Nat → Int32} {g : Nat → Nat → Int64} {K : Int32 → (Nat → Nat → Int32) → (Nat → Nat → Int64) → Prop} {a : Int64} : zCpi X (d + 1) 285 [.long a] (zs f g) K = K ((zc6 (zc5 (zc4 (zc3 (zc2 (zc1 a)))))).toInt32 &&& 127) f g := by
  refine zCpi_eq (fun K hK => e285 ?_)
  simp only [zlS.2, zlU.2]
  exact hK
theorem zlu_n {n k : Nat} (hn : n < 2 ^ 64) (hk : k < 64) : zlu (lN n) (nI k) = lN (n / 2 ^ k) := wb_shr hn hk
theorem zlN_and {a b : Nat} (ha : a < 2 ^ 64) (hb : b < 2 ^ 64) : lN a &&& lN b = lN (a &&& b) := wb_and ha hb
theorem zbc_l {n : Nat} (h : n < 2 ^ 48) : ((zc6 (zc5 (zc4 (zc3 (zc2 (zc1 (lN n))))))).toInt32 &&& 127) = nI (zpc 48 n) := by
  have m5 : Int64.ofNat 6148914691236517205 = lN (zmk8 85 8) := by decide
  have m3 : Int64.ofNat 3689348814741910323 = lN (zmk8 51 8) := by decide
  have m0 : Int64.ofNat 1085102592571150095 = lN (zmk8 15 8) := by decide
  have b5 : zmk8 85 8 < 2 ^ 64 := by decide
  have b3 : zmk8 51 8 < 2 ^ 64 := by decide
  have b0 : zmk8 15 8 < 2 ^ 64 := by decide
  have d1 : zc1 (lN n) = lN (zl1 8 n) := by
    have hle : n / 2 &&& zmk8 85 8 ≤ n / 2 := Nat.and_le_left
    unfold zc1
    rw [m5, show zlu (lN n) 1 = lN (n / 2) from zlu_n (k := 1) (by omega) (by omega), zlN_and (by omega) b5, lN_sub (by omega)]
    rfl
  have l1 : zl1 8 n ≤ n := Nat.sub_le _ _
  have d2 : zc2 (lN (zl1 8 n)) = lN (zl2 8 (zl1 8 n)) := by
    unfold zc2
    rw [m3, show zlu (lN (zl1 8 n)) 2 = lN (zl1 8 n / 4) from zlu_n (k := 2) (by omega) (by omega), zlN_and (by omega) b3, zlN_and (by omega) b3, lN_add]
    rfl
  have l2 : zl2 8 (zl1 8 n) ≤ 2 * n := by
    have h1 : zl1 8 n &&& zmk8 51 8 ≤ zl1 8 n := Nat.and_le_left
    have h2 : zl1 8 n / 4 &&& zmk8 51 8 ≤ zl1 8 n / 4 := Nat.and_le_left
    unfold zl2
    omega
  have d3 : zc3 (lN (zl2 8 (zl1 8 n))) = lN (zl3 8 (zl2 8 (zl1 8 n))) := by
    unfold zc3
    rw [m0, show zlu (lN (zl2 8 (zl1 8 n))) 4 = lN (zl2 8 (zl1 8 n) / 16) from zlu_n (k := 4) (by omega) (by omega), lN_add, zlN_and (by omega) b0]
    rfl
  have e3 := (zl_all 8 n (by omega)).2
  have lb : zbs 8 n ≤ 4 * n := by
    rw [← e3]
    have h1 : (zl2 8 (zl1 8 n) + zl2 8 (zl1 8 n) / 16) &&& zmk8 15 8 ≤ zl2 8 (zl1 8 n) + zl2 8 (zl1 8 n) / 16 := Nat.and_le_left
    unfold zl3
    omega
  rw [d1, d2, d3, e3]
  have hf := zbc_f h
  simp only at hf
  generalize zbs 8 n = s at *
  have d4 : zc4 (lN s) = lN (s + s / 256) := by
    unfold zc4
    rw [show zlu (lN s) 8 = lN (s / 256) from zlu_n (k := 8) (by omega) (by omega), lN_add]
  have d5 : zc5 (lN (s + s / 256)) = lN (s + s / 256 + (s + s / 256) / 65536) := by
    unfold zc5
    rw [show zlu (lN (s + s / 256)) 16 = lN ((s + s / 256) / 65536) from zlu_n (k := 16) (by omega) (by omega), lN_add]
  have d6 : zc6 (lN (s + s / 256 + (s + s / 256) / 65536)) = lN (s + s / 256 + (s + s / 256) / 65536 + (s + s / 256 + (s + s / 256) / 65536) / 4294967296) := by
    unfold zc6
    rw [show zlu (lN (s + s / 256 + (s + s / 256) / 65536)) 32 = lN ((s + s / 256 + (s + s / 256) / 65536) / 4294967296) from zlu_n (k := 32) (by omega) (by omega), lN_add]
  rw [d4, d5, d6, lN_i]
  generalize s + s / 256 + (s + s / 256) / 65536 + (s + s / 256 + (s + s / 256) / 65536) / 4294967296 = z at *
  have e := nx_and z 127
  rw [show (127 : Int32) = nI 127 from rfl, e, show (127 : Nat) = 2 ^ 7 - 1 from rfl, Nat.and_two_pow_sub_one_eq_mod, ← hf]
theorem q285n {X : Nat × (Nat → Int32)} {d : Nat} {f : Nat → Nat → Int32} {g : Nat → Nat → Int64} {K : Int32 → (Nat → Nat → Int32) → (Nat → Nat → Int64) → Prop} {n : Nat} (h : n < 2 ^ 48) : zCpi X (d + 1) 285 [.long (lN n)] (zs f g) K = K (nI (zpc 48 n)) f g := by rw [q285, zbc_l h]

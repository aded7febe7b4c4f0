/-! image: the class's world copied -/
section ZCX
variable {X : Nat × (Nat → Int32)} {d : Nat} {f : Nat → Nat → Int32} {g : Nat → Nat → Int64}
theorem cw_33_1 : ∃ F : Nat → Nat → Int32, (∀ K : (Nat → Nat → Int32) → (Nat → Nat → Int64) → Prop, zCpv X (d + 4) 120 [.ref 33, .ref 1] (zs f g) K = K F (zuL g 34 12 (g 2 12))) ∧ (∀ i, ¬ (33 ≤ i ∧ i ≤ 64) → F i = f i) ∧ (∀ i k, zKc i k → F (i + 32) k = f i k) := by
  obtain ⟨g1, hg1⟩ : ∃ g1, g1 = zuL g 34 12 (g 2 12) := ⟨_, rfl⟩
  obtain ⟨f2, e2, y2, v2, u2⟩ := cp3_43_11 (X := X) (d := d + 2) (f := (zHc f 34 2)) (g := g1)
  obtain ⟨f3, e3, y3, v3, v3a, v3b, v3c, v3d, u3x, u3⟩ := cp42_45_13 (X := X) (d := d + 2) (f := f2) (g := g1)
  obtain ⟨f4, e4, y4, v4, u4⟩ := cp75_52_20 (X := X) (d := d + 2) (f := f3) (g := g1)
  obtain ⟨f5, e5, y5, v5, u5⟩ := cp75_54_22 (X := X) (d := d + 2) (f := f4) (g := g1)
  obtain ⟨f6, h6⟩ : ∃ f6, f6 = zrI f5 56 (va_cpy (f5 24) (f5 56) 0 0 36) := ⟨_, rfl⟩
  obtain ⟨f7, e7, y7, v7, u7⟩ := cp69_57_25 (X := X) (d := d + 1) (f := f6) (g := g1)
  obtain ⟨f8, e8, y8, v8, u8⟩ := cp69_59_27 (X := X) (d := d + 1) (f := f7) (g := g1)
  obtain ⟨f9, e9, y9, v9, u9⟩ := cp69_61_29 (X := X) (d := d + 1) (f := f8) (g := g1)
  obtain ⟨f10, e10, y10, v10, u10⟩ := cp69_63_31 (X := X) (d := d + 1) (f := f9) (g := g1)
  refine ⟨zuI f10 33 10 (f10 1 10), fun K => zCpv_eq (fun K hK => e120_33_1 ?_), fun i hi => ?_, fun i k hk => ?_⟩
  · rw [q21_34_2, ← hg1, e2, e3, e4, e5, if_pos (by decide)]
    have z : zrI f5 56 (va_cpy (f5 24) (f5 56) 0 0 36) = f6 := h6.symm
    rw [z, e7, e8, e9, e10]
    rw [← hg1] at hK
    exact hK
  · rw [zi_ne (by omega), y10 i (by omega) (by omega), y9 i (by omega) (by omega), y8 i (by omega) (by omega), y7 i (by omega) (by omega), h6, zr_ne (by omega), y5 i (by omega) (by omega), y4 i (by omega) (by omega), y3 i (by omega) (by omega) (by omega) (by omega) (by omega) (by omega), y2 i (by omega) (by omega), zHc_ne (by omega)]
  · obtain ⟨lo, hi⟩ := hk
    have hh : i = 0 ∨ i = 1 ∨ i = 2 ∨ i = 3 ∨ i = 4 ∨ i = 5 ∨ i = 6 ∨ i = 7 ∨ i = 8 ∨ i = 9 ∨ i = 10 ∨ i = 11 ∨ i = 12 ∨ i = 13 ∨ i = 14 ∨ i = 15 ∨ i = 16 ∨ i = 17 ∨ i = 18 ∨ i = 19 ∨ i = 20 ∨ i = 21 ∨ i = 22 ∨ i = 23 ∨ i = 24 ∨ i = 25 ∨ i = 26 ∨ i = 27 ∨ i = 28 ∨ i = 29 ∨ i = 30 ∨ i = 31 ∨ i = 32 ∨ 32 < i := by omega
    rcases hh with rfl | rfl | rfl | rfl | rfl | rfl | rfl | rfl | rfl | rfl | rfl | rfl | rfl | rfl | rfl | rfl | rfl | rfl | rfl | rfl | rfl | rfl | rfl | rfl | rfl | rfl | rfl | rfl | rfl | rfl | rfl | rfl | rfl | hh
    · exact absurd hi (Nat.not_lt_zero k)
    · have lo' : 10 ≤ k := lo
      have hi' : k < 11 := hi
      show zuI f10 33 10 (f10 1 10) 33 k = f 1 k
      have ek : k = 10 := by omega
      subst ek
      rw [zi_at, if_pos rfl, y10 1 (by omega) (by omega), y9 1 (by omega) (by omega), y8 1 (by omega) (by omega), y7 1 (by omega) (by omega), h6, zr_ne (i := 56) (j := 1) (by omega), y5 1 (by omega) (by omega), y4 1 (by omega) (by omega), y3 1 (by omega) (by omega) (by omega) (by omega) (by omega) (by omega), y2 1 (by omega) (by omega), zHc_ne (t := 34) (s := 2) (i := 1) (by omega)]
    · have lo' : 8 ≤ k := lo
      have hi' : k < 12 := hi
      show zuI f10 33 10 (f10 1 10) 34 k = f 2 k
      rw [zi_ne (i := 33) (j := 34) (by omega), y10 34 (by omega) (by omega), y9 34 (by omega) (by omega), y8 34 (by omega) (by omega), y7 34 (by omega) (by omega), h6, zr_ne (i := 56) (j := 34) (by omega), y5 34 (by omega) (by omega), y4 34 (by omega) (by omega), y3 34 (by omega) (by omega) (by omega) (by omega) (by omega) (by omega), y2 34 (by omega) (by omega), zHc_o (by omega)]
    · have lo' : 0 ≤ k := lo
      have hi' : k < 12 := hi
      show zuI f10 33 10 (f10 1 10) 35 k = f 3 k
      rw [zi_ne (i := 33) (j := 35) (by omega), y10 35 (by omega) (by omega), y9 35 (by omega) (by omega), y8 35 (by omega) (by omega), y7 35 (by omega) (by omega), h6, zr_ne (i := 56) (j := 35) (by omega), y5 35 (by omega) (by omega), y4 35 (by omega) (by omega), y3 35 (by omega) (by omega) (by omega) (by omega) (by omega) (by omega), y2 35 (by omega) (by omega)]
      exact zHc_r (f := f) (t := 34) (s := 2) (j := 1) (k := k) (by omega) (by omega) hi'
    · have lo' : 0 ≤ k := lo
      have hi' : k < 12 := hi
      show zuI f10 33 10 (f10 1 10) 36 k = f 4 k
      rw [zi_ne (i := 33) (j := 36) (by omega), y10 36 (by omega) (by omega), y9 36 (by omega) (by omega), y8 36 (by omega) (by omega), y7 36 (by omega) (by omega), h6, zr_ne (i := 56) (j := 36) (by omega), y5 36 (by omega) (by omega), y4 36 (by omega) (by omega), y3 36 (by omega) (by omega) (by omega) (by omega) (by omega) (by omega), y2 36 (by omega) (by omega)]
      exact zHc_r (f := f) (t := 34) (s := 2) (j := 2) (k := k) (by omega) (by omega) hi'
    · have lo' : 0 ≤ k := lo
      have hi' : k < 12 := hi
      show zuI f10 33 10 (f10 1 10) 37 k = f 5 k
      rw [zi_ne (i := 33) (j := 37) (by omega), y10 37 (by omega) (by omega), y9 37 (by omega) (by omega), y8 37 (by omega) (by omega), y7 37 (by omega) (by omega), h6, zr_ne (i := 56) (j := 37) (by omega), y5 37 (by omega) (by omega), y4 37 (by omega) (by omega), y3 37 (by omega) (by omega) (by omega) (by omega) (by omega) (by omega), y2 37 (by omega) (by omega)]
      exact zHc_r (f := f) (t := 34) (s := 2) (j := 3) (k := k) (by omega) (by omega) hi'
    · have lo' : 0 ≤ k := lo
      have hi' : k < 12 := hi
      show zuI f10 33 10 (f10 1 10) 38 k = f 6 k
      rw [zi_ne (i := 33) (j := 38) (by omega), y10 38 (by omega) (by omega), y9 38 (by omega) (by omega), y8 38 (by omega) (by omega), y7 38 (by omega) (by omega), h6, zr_ne (i := 56) (j := 38) (by omega), y5 38 (by omega) (by omega), y4 38 (by omega) (by omega), y3 38 (by omega) (by omega) (by omega) (by omega) (by omega) (by omega), y2 38 (by omega) (by omega)]
      exact zHc_r (f := f) (t := 34) (s := 2) (j := 4) (k := k) (by omega) (by omega) hi'
    · have lo' : 0 ≤ k := lo
      have hi' : k < 12 := hi
      show zuI f10 33 10 (f10 1 10) 39 k = f 7 k
      rw [zi_ne (i := 33) (j := 39) (by omega), y10 39 (by omega) (by omega), y9 39 (by omega) (by omega), y8 39 (by omega) (by omega), y7 39 (by omega) (by omega), h6, zr_ne (i := 56) (j := 39) (by omega), y5 39 (by omega) (by omega), y4 39 (by omega) (by omega), y3 39 (by omega) (by omega) (by omega) (by omega) (by omega) (by omega), y2 39 (by omega) (by omega)]
      exact zHc_r (f := f) (t := 34) (s := 2) (j := 5) (k := k) (by omega) (by omega) hi'
    · have lo' : 0 ≤ k := lo
      have hi' : k < 12 := hi
      show zuI f10 33 10 (f10 1 10) 40 k = f 8 k
      rw [zi_ne (i := 33) (j := 40) (by omega), y10 40 (by omega) (by omega), y9 40 (by omega) (by omega), y8 40 (by omega) (by omega), y7 40 (by omega) (by omega), h6, zr_ne (i := 56) (j := 40) (by omega), y5 40 (by omega) (by omega), y4 40 (by omega) (by omega), y3 40 (by omega) (by omega) (by omega) (by omega) (by omega) (by omega), y2 40 (by omega) (by omega)]
      exact zHc_r (f := f) (t := 34) (s := 2) (j := 6) (k := k) (by omega) (by omega) hi'
    · have lo' : 0 ≤ k := lo
      have hi' : k < 12 := hi
      show zuI f10 33 10 (f10 1 10) 41 k = f 9 k
      rw [zi_ne (i := 33) (j := 41) (by omega), y10 41 (by omega) (by omega), y9 41 (by omega) (by omega), y8 41 (by omega) (by omega), y7 41 (by omega) (by omega), h6, zr_ne (i := 56) (j := 41) (by omega), y5 41 (by omega) (by omega), y4 41 (by omega) (by omega), y3 41 (by omega) (by omega) (by omega) (by omega) (by omega) (by omega), y2 41 (by omega) (by omega)]
      exact zHc_r (f := f) (t := 34) (s := 2) (j := 7) (k := k) (by omega) (by omega) hi'
    · have lo' : 0 ≤ k := lo
      have hi' : k < 12 := hi
      show zuI f10 33 10 (f10 1 10) 42 k = f 10 k
      rw [zi_ne (i := 33) (j := 42) (by omega), y10 42 (by omega) (by omega), y9 42 (by omega) (by omega), y8 42 (by omega) (by omega), y7 42 (by omega) (by omega), h6, zr_ne (i := 56) (j := 42) (by omega), y5 42 (by omega) (by omega), y4 42 (by omega) (by omega), y3 42 (by omega) (by omega) (by omega) (by omega) (by omega) (by omega), y2 42 (by omega) (by omega)]
      exact zHc_r (f := f) (t := 34) (s := 2) (j := 8) (k := k) (by omega) (by omega) hi'
    · have lo' : 1 ≤ k := lo
      have hi' : k < 2 := hi
      show zuI f10 33 10 (f10 1 10) 43 k = f 11 k
      have ek : k = 1 := by omega
      subst ek
      rw [zi_ne (i := 33) (j := 43) (by omega), y10 43 (by omega) (by omega), y9 43 (by omega) (by omega), y8 43 (by omega) (by omega), y7 43 (by omega) (by omega), h6, zr_ne (i := 56) (j := 43) (by omega), y5 43 (by omega) (by omega), y4 43 (by omega) (by omega), y3 43 (by omega) (by omega) (by omega) (by omega) (by omega) (by omega), u2, zHc_ne (t := 34) (s := 2) (i := 11) (by omega)]
    · have lo' : 0 ≤ k := lo
      have hi' : k < 600 := hi
      show zuI f10 33 10 (f10 1 10) 44 k = f 12 k
      rw [zi_ne (i := 33) (j := 44) (by omega), y10 44 (by omega) (by omega), y9 44 (by omega) (by omega), y8 44 (by omega) (by omega), y7 44 (by omega) (by omega), h6, zr_ne (i := 56) (j := 44) (by omega), y5 44 (by omega) (by omega), y4 44 (by omega) (by omega), y3 44 (by omega) (by omega) (by omega) (by omega) (by omega) (by omega), v2 k hi', zHc_ne (t := 34) (s := 2) (i := 12) (by omega)]
    · have lo' : 7 ≤ k := lo
      have hi' : k < 8 := hi
      show zuI f10 33 10 (f10 1 10) 45 k = f 13 k
      have ek : k = 7 := by omega
      subst ek
      rw [zi_ne (i := 33) (j := 45) (by omega), y10 45 (by omega) (by omega), y9 45 (by omega) (by omega), y8 45 (by omega) (by omega), y7 45 (by omega) (by omega), h6, zr_ne (i := 56) (j := 45) (by omega), y5 45 (by omega) (by omega), y4 45 (by omega) (by omega), u3, y2 13 (by omega) (by omega), zHc_ne (t := 34) (s := 2) (i := 13) (by omega)]
    · have lo' : 0 ≤ k := lo
      have hi' : k < 400 := hi
      show zuI f10 33 10 (f10 1 10) 46 k = f 14 k
      rw [zi_ne (i := 33) (j := 46) (by omega), y10 46 (by omega) (by omega), y9 46 (by omega) (by omega), y8 46 (by omega) (by omega), y7 46 (by omega) (by omega), h6, zr_ne (i := 56) (j := 46) (by omega), y5 46 (by omega) (by omega), y4 46 (by omega) (by omega), v3 k hi', y2 14 (by omega) (by omega), zHc_ne (t := 34) (s := 2) (i := 14) (by omega)]
    · have lo' : 0 ≤ k := lo
      have hi' : k < 16 := hi
      show zuI f10 33 10 (f10 1 10) 47 k = f 15 k
      rw [zi_ne (i := 33) (j := 47) (by omega), y10 47 (by omega) (by omega), y9 47 (by omega) (by omega), y8 47 (by omega) (by omega), y7 47 (by omega) (by omega), h6, zr_ne (i := 56) (j := 47) (by omega), y5 47 (by omega) (by omega), y4 47 (by omega) (by omega), v3a k hi', y2 15 (by omega) (by omega), zHc_ne (t := 34) (s := 2) (i := 15) (by omega)]
    · have lo' : 0 ≤ k := lo
      have hi' : k < 16 := hi
      show zuI f10 33 10 (f10 1 10) 48 k = f 16 k
      rw [zi_ne (i := 33) (j := 48) (by omega), y10 48 (by omega) (by omega), y9 48 (by omega) (by omega), y8 48 (by omega) (by omega), y7 48 (by omega) (by omega), h6, zr_ne (i := 56) (j := 48) (by omega), y5 48 (by omega) (by omega), y4 48 (by omega) (by omega), v3b k hi', y2 16 (by omega) (by omega), zHc_ne (t := 34) (s := 2) (i := 16) (by omega)]
    · have lo' : 0 ≤ k := lo
      have hi' : k < 16 := hi
      show zuI f10 33 10 (f10 1 10) 49 k = f 17 k
      rw [zi_ne (i := 33) (j := 49) (by omega), y10 49 (by omega) (by omega), y9 49 (by omega) (by omega), y8 49 (by omega) (by omega), y7 49 (by omega) (by omega), h6, zr_ne (i := 56) (j := 49) (by omega), y5 49 (by omega) (by omega), y4 49 (by omega) (by omega), v3c k hi', y2 17 (by omega) (by omega), zHc_ne (t := 34) (s := 2) (i := 17) (by omega)]
    · have lo' : 0 ≤ k := lo
      have hi' : k < 16 := hi
      show zuI f10 33 10 (f10 1 10) 50 k = f 18 k
      rw [zi_ne (i := 33) (j := 50) (by omega), y10 50 (by omega) (by omega), y9 50 (by omega) (by omega), y8 50 (by omega) (by omega), y7 50 (by omega) (by omega), h6, zr_ne (i := 56) (j := 50) (by omega), y5 50 (by omega) (by omega), y4 50 (by omega) (by omega), v3d k hi', y2 18 (by omega) (by omega), zHc_ne (t := 34) (s := 2) (i := 18) (by omega)]
    · exact absurd hi (Nat.not_lt_zero k)
    · have lo' : 1 ≤ k := lo
      have hi' : k < 2 := hi
      show zuI f10 33 10 (f10 1 10) 52 k = f 20 k
      have ek : k = 1 := by omega
      subst ek
      rw [zi_ne (i := 33) (j := 52) (by omega), y10 52 (by omega) (by omega), y9 52 (by omega) (by omega), y8 52 (by omega) (by omega), y7 52 (by omega) (by omega), h6, zr_ne (i := 56) (j := 52) (by omega), y5 52 (by omega) (by omega), u4, y3 20 (by omega) (by omega) (by omega) (by omega) (by omega) (by omega), y2 20 (by omega) (by omega), zHc_ne (t := 34) (s := 2) (i := 20) (by omega)]
    · have lo' : 0 ≤ k := lo
      have hi' : k < 80 := hi
      show zuI f10 33 10 (f10 1 10) 53 k = f 21 k
      rw [zi_ne (i := 33) (j := 53) (by omega), y10 53 (by omega) (by omega), y9 53 (by omega) (by omega), y8 53 (by omega) (by omega), y7 53 (by omega) (by omega), h6, zr_ne (i := 56) (j := 53) (by omega), y5 53 (by omega) (by omega), v4 k hi', y3 21 (by omega) (by omega) (by omega) (by omega) (by omega) (by omega), y2 21 (by omega) (by omega), zHc_ne (t := 34) (s := 2) (i := 21) (by omega)]
    · have lo' : 1 ≤ k := lo
      have hi' : k < 2 := hi
      show zuI f10 33 10 (f10 1 10) 54 k = f 22 k
      have ek : k = 1 := by omega
      subst ek
      rw [zi_ne (i := 33) (j := 54) (by omega), y10 54 (by omega) (by omega), y9 54 (by omega) (by omega), y8 54 (by omega) (by omega), y7 54 (by omega) (by omega), h6, zr_ne (i := 56) (j := 54) (by omega), u5, y4 22 (by omega) (by omega), y3 22 (by omega) (by omega) (by omega) (by omega) (by omega) (by omega), y2 22 (by omega) (by omega), zHc_ne (t := 34) (s := 2) (i := 22) (by omega)]
    · have lo' : 0 ≤ k := lo
      have hi' : k < 80 := hi
      show zuI f10 33 10 (f10 1 10) 55 k = f 23 k
      rw [zi_ne (i := 33) (j := 55) (by omega), y10 55 (by omega) (by omega), y9 55 (by omega) (by omega), y8 55 (by omega) (by omega), y7 55 (by omega) (by omega), h6, zr_ne (i := 56) (j := 55) (by omega), v5 k hi', y4 23 (by omega) (by omega), y3 23 (by omega) (by omega) (by omega) (by omega) (by omega) (by omega), y2 23 (by omega) (by omega), zHc_ne (t := 34) (s := 2) (i := 23) (by omega)]
    · have lo' : 0 ≤ k := lo
      have hi' : k < 36 := hi
      show zuI f10 33 10 (f10 1 10) 56 k = f 24 k
      rw [zi_ne (i := 33) (j := 56) (by omega), y10 56 (by omega) (by omega), y9 56 (by omega) (by omega), y8 56 (by omega) (by omega), y7 56 (by omega) (by omega), h6, zr_at, zcpn, if_pos hi', y5 24 (by omega) (by omega), y4 24 (by omega) (by omega), y3 24 (by omega) (by omega) (by omega) (by omega) (by omega) (by omega), y2 24 (by omega) (by omega), zHc_ne (t := 34) (s := 2) (i := 24) (by omega)]
    · have lo' : 1 ≤ k := lo
      have hi' : k < 2 := hi
      show zuI f10 33 10 (f10 1 10) 57 k = f 25 k
      have ek : k = 1 := by omega
      subst ek
      rw [zi_ne (i := 33) (j := 57) (by omega), y10 57 (by omega) (by omega), y9 57 (by omega) (by omega), y8 57 (by omega) (by omega), u7, h6, zr_ne (i := 56) (j := 25) (by omega), y5 25 (by omega) (by omega), y4 25 (by omega) (by omega), y3 25 (by omega) (by omega) (by omega) (by omega) (by omega) (by omega), y2 25 (by omega) (by omega), zHc_ne (t := 34) (s := 2) (i := 25) (by omega)]
    · have lo' : 0 ≤ k := lo
      have hi' : k < 12 := hi
      show zuI f10 33 10 (f10 1 10) 58 k = f 26 k
      rw [zi_ne (i := 33) (j := 58) (by omega), y10 58 (by omega) (by omega), y9 58 (by omega) (by omega), y8 58 (by omega) (by omega), v7 k hi', h6, zr_ne (i := 56) (j := 26) (by omega), y5 26 (by omega) (by omega), y4 26 (by omega) (by omega), y3 26 (by omega) (by omega) (by omega) (by omega) (by omega) (by omega), y2 26 (by omega) (by omega), zHc_ne (t := 34) (s := 2) (i := 26) (by omega)]
    · have lo' : 1 ≤ k := lo
      have hi' : k < 2 := hi
      show zuI f10 33 10 (f10 1 10) 59 k = f 27 k
      have ek : k = 1 := by omega
      subst ek
      rw [zi_ne (i := 33) (j := 59) (by omega), y10 59 (by omega) (by omega), y9 59 (by omega) (by omega), u8, y7 27 (by omega) (by omega), h6, zr_ne (i := 56) (j := 27) (by omega), y5 27 (by omega) (by omega), y4 27 (by omega) (by omega), y3 27 (by omega) (by omega) (by omega) (by omega) (by omega) (by omega), y2 27 (by omega) (by omega), zHc_ne (t := 34) (s := 2) (i := 27) (by omega)]
    · have lo' : 0 ≤ k := lo
      have hi' : k < 12 := hi
      show zuI f10 33 10 (f10 1 10) 60 k = f 28 k
      rw [zi_ne (i := 33) (j := 60) (by omega), y10 60 (by omega) (by omega), y9 60 (by omega) (by omega), v8 k hi', y7 28 (by omega) (by omega), h6, zr_ne (i := 56) (j := 28) (by omega), y5 28 (by omega) (by omega), y4 28 (by omega) (by omega), y3 28 (by omega) (by omega) (by omega) (by omega) (by omega) (by omega), y2 28 (by omega) (by omega), zHc_ne (t := 34) (s := 2) (i := 28) (by omega)]
    · have lo' : 1 ≤ k := lo
      have hi' : k < 2 := hi
      show zuI f10 33 10 (f10 1 10) 61 k = f 29 k
      have ek : k = 1 := by omega
      subst ek
      rw [zi_ne (i := 33) (j := 61) (by omega), y10 61 (by omega) (by omega), u9, y8 29 (by omega) (by omega), y7 29 (by omega) (by omega), h6, zr_ne (i := 56) (j := 29) (by omega), y5 29 (by omega) (by omega), y4 29 (by omega) (by omega), y3 29 (by omega) (by omega) (by omega) (by omega) (by omega) (by omega), y2 29 (by omega) (by omega), zHc_ne (t := 34) (s := 2) (i := 29) (by omega)]
    · have lo' : 0 ≤ k := lo
      have hi' : k < 10 := hi
      show zuI f10 33 10 (f10 1 10) 62 k = f 30 k
      rw [zi_ne (i := 33) (j := 62) (by omega), y10 62 (by omega) (by omega), v9 k hi', y8 30 (by omega) (by omega), y7 30 (by omega) (by omega), h6, zr_ne (i := 56) (j := 30) (by omega), y5 30 (by omega) (by omega), y4 30 (by omega) (by omega), y3 30 (by omega) (by omega) (by omega) (by omega) (by omega) (by omega), y2 30 (by omega) (by omega), zHc_ne (t := 34) (s := 2) (i := 30) (by omega)]
    · have lo' : 1 ≤ k := lo
      have hi' : k < 2 := hi
      show zuI f10 33 10 (f10 1 10) 63 k = f 31 k
      have ek : k = 1 := by omega
      subst ek
      rw [zi_ne (i := 33) (j := 63) (by omega), u10, y9 31 (by omega) (by omega), y8 31 (by omega) (by omega), y7 31 (by omega) (by omega), h6, zr_ne (i := 56) (j := 31) (by omega), y5 31 (by omega) (by omega), y4 31 (by omega) (by omega), y3 31 (by omega) (by omega) (by omega) (by omega) (by omega) (by omega), y2 31 (by omega) (by omega), zHc_ne (t := 34) (s := 2) (i := 31) (by omega)]
    · have lo' : 0 ≤ k := lo
      have hi' : k < 16 := hi
      show zuI f10 33 10 (f10 1 10) 64 k = f 32 k
      rw [zi_ne (i := 33) (j := 64) (by omega), v10 k hi', y9 32 (by omega) (by omega), y8 32 (by omega) (by omega), y7 32 (by omega) (by omega), h6, zr_ne (i := 56) (j := 32) (by omega), y5 32 (by omega) (by omega), y4 32 (by omega) (by omega), y3 32 (by omega) (by omega) (by omega) (by omega) (by omega) (by omega), y2 32 (by omega) (by omega), zHc_ne (t := 34) (s := 2) (i := 32) (by omega)]
    · have z : zKhi i = 0 := by
        unfold zKhi
        split <;> first | (exfalso; omega) | rfl
      rw [z] at hi
      exact absurd hi (Nat.not_lt_zero k)
theorem cw_1_33 : ∃ F : Nat → Nat → Int32, (∀ K : (Nat → Nat → Int32) → (Nat → Nat → Int64) → Prop, zCpv X (d + 4) 120 [.ref 1, .ref 33] (zs f g) K = K F (zuL g 2 12 (g 34 12))) ∧ (∀ i, ¬ (1 ≤ i ∧ i ≤ 32) → F i = f i) ∧ (∀ i k, zKc i k → F i k = f (i + 32) k) := by
  obtain ⟨g1, hg1⟩ : ∃ g1, g1 = zuL g 2 12 (g 34 12) := ⟨_, rfl⟩
  obtain ⟨f2, e2, y2, v2, u2⟩ := cp3_11_43 (X := X) (d := d + 2) (f := (zHc f 2 34)) (g := g1)
  obtain ⟨f3, e3, y3, v3, v3a, v3b, v3c, v3d, u3x, u3⟩ := cp42_13_45 (X := X) (d := d + 2) (f := f2) (g := g1)
  obtain ⟨f4, e4, y4, v4, u4⟩ := cp75_20_52 (X := X) (d := d + 2) (f := f3) (g := g1)
  obtain ⟨f5, e5, y5, v5, u5⟩ := cp75_22_54 (X := X) (d := d + 2) (f := f4) (g := g1)
  obtain ⟨f6, h6⟩ : ∃ f6, f6 = zrI f5 24 (va_cpy (f5 56) (f5 24) 0 0 36) := ⟨_, rfl⟩
  obtain ⟨f7, e7, y7, v7, u7⟩ := cp69_25_57 (X := X) (d := d + 1) (f := f6) (g := g1)
  obtain ⟨f8, e8, y8, v8, u8⟩ := cp69_27_59 (X := X) (d := d + 1) (f := f7) (g := g1)
  obtain ⟨f9, e9, y9, v9, u9⟩ := cp69_29_61 (X := X) (d := d + 1) (f := f8) (g := g1)
  obtain ⟨f10, e10, y10, v10, u10⟩ := cp69_31_63 (X := X) (d := d + 1) (f := f9) (g := g1)
  refine ⟨zuI f10 1 10 (f10 33 10), fun K => zCpv_eq (fun K hK => e120_1_33 ?_), fun i hi => ?_, fun i k hk => ?_⟩
  · rw [q21_2_34, ← hg1, e2, e3, e4, e5, if_pos (by decide)]
    have z : zrI f5 24 (va_cpy (f5 56) (f5 24) 0 0 36) = f6 := h6.symm
    rw [z, e7, e8, e9, e10]
    rw [← hg1] at hK
    exact hK
  · rw [zi_ne (by omega), y10 i (by omega) (by omega), y9 i (by omega) (by omega), y8 i (by omega) (by omega), y7 i (by omega) (by omega), h6, zr_ne (by omega), y5 i (by omega) (by omega), y4 i (by omega) (by omega), y3 i (by omega) (by omega) (by omega) (by omega) (by omega) (by omega), y2 i (by omega) (by omega), zHc_ne (by omega)]
  · obtain ⟨lo, hi⟩ := hk
    have hh : i = 0 ∨ i = 1 ∨ i = 2 ∨ i = 3 ∨ i = 4 ∨ i = 5 ∨ i = 6 ∨ i = 7 ∨ i = 8 ∨ i = 9 ∨ i = 10 ∨ i = 11 ∨ i = 12 ∨ i = 13 ∨ i = 14 ∨ i = 15 ∨ i = 16 ∨ i = 17 ∨ i = 18 ∨ i = 19 ∨ i = 20 ∨ i = 21 ∨ i = 22 ∨ i = 23 ∨ i = 24 ∨ i = 25 ∨ i = 26 ∨ i = 27 ∨ i = 28 ∨ i = 29 ∨ i = 30 ∨ i = 31 ∨ i = 32 ∨ 32 < i := by omega
    rcases hh with rfl | rfl | rfl | rfl | rfl | rfl | rfl | rfl | rfl | rfl | rfl | rfl | rfl | rfl | rfl | rfl | rfl | rfl | rfl | rfl | rfl | rfl | rfl | rfl | rfl | rfl | rfl | rfl | rfl | rfl | rfl | rfl | rfl | hh
    · exact absurd hi (Nat.not_lt_zero k)
    · have lo' : 10 ≤ k := lo
      have hi' : k < 11 := hi
      show zuI f10 1 10 (f10 33 10) 1 k = f 33 k
      have ek : k = 10 := by omega
      subst ek
      rw [zi_at, if_pos rfl, y10 33 (by omega) (by omega), y9 33 (by omega) (by omega), y8 33 (by omega) (by omega), y7 33 (by omega) (by omega), h6, zr_ne (i := 24) (j := 33) (by omega), y5 33 (by omega) (by omega), y4 33 (by omega) (by omega), y3 33 (by omega) (by omega) (by omega) (by omega) (by omega) (by omega), y2 33 (by omega) (by omega), zHc_ne (t := 2) (s := 34) (i := 33) (by omega)]
    · have lo' : 8 ≤ k := lo
      have hi' : k < 12 := hi
      show zuI f10 1 10 (f10 33 10) 2 k = f 34 k
      rw [zi_ne (i := 1) (j := 2) (by omega), y10 2 (by omega) (by omega), y9 2 (by omega) (by omega), y8 2 (by omega) (by omega), y7 2 (by omega) (by omega), h6, zr_ne (i := 24) (j := 2) (by omega), y5 2 (by omega) (by omega), y4 2 (by omega) (by omega), y3 2 (by omega) (by omega) (by omega) (by omega) (by omega) (by omega), y2 2 (by omega) (by omega), zHc_o (by omega)]
    · have lo' : 0 ≤ k := lo
      have hi' : k < 12 := hi
      show zuI f10 1 10 (f10 33 10) 3 k = f 35 k
      rw [zi_ne (i := 1) (j := 3) (by omega), y10 3 (by omega) (by omega), y9 3 (by omega) (by omega), y8 3 (by omega) (by omega), y7 3 (by omega) (by omega), h6, zr_ne (i := 24) (j := 3) (by omega), y5 3 (by omega) (by omega), y4 3 (by omega) (by omega), y3 3 (by omega) (by omega) (by omega) (by omega) (by omega) (by omega), y2 3 (by omega) (by omega)]
      exact zHc_r (f := f) (t := 2) (s := 34) (j := 1) (k := k) (by omega) (by omega) hi'
    · have lo' : 0 ≤ k := lo
      have hi' : k < 12 := hi
      show zuI f10 1 10 (f10 33 10) 4 k = f 36 k
      rw [zi_ne (i := 1) (j := 4) (by omega), y10 4 (by omega) (by omega), y9 4 (by omega) (by omega), y8 4 (by omega) (by omega), y7 4 (by omega) (by omega), h6, zr_ne (i := 24) (j := 4) (by omega), y5 4 (by omega) (by omega), y4 4 (by omega) (by omega), y3 4 (by omega) (by omega) (by omega) (by omega) (by omega) (by omega), y2 4 (by omega) (by omega)]
      exact zHc_r (f := f) (t := 2) (s := 34) (j := 2) (k := k) (by omega) (by omega) hi'
    · have lo' : 0 ≤ k := lo
      have hi' : k < 12 := hi
      show zuI f10 1 10 (f10 33 10) 5 k = f 37 k
      rw [zi_ne (i := 1) (j := 5) (by omega), y10 5 (by omega) (by omega), y9 5 (by omega) (by omega), y8 5 (by omega) (by omega), y7 5 (by omega) (by omega), h6, zr_ne (i := 24) (j := 5) (by omega), y5 5 (by omega) (by omega), y4 5 (by omega) (by omega), y3 5 (by omega) (by omega) (by omega) (by omega) (by omega) (by omega), y2 5 (by omega) (by omega)]
      exact zHc_r (f := f) (t := 2) (s := 34) (j := 3) (k := k) (by omega) (by omega) hi'
    · have lo' : 0 ≤ k := lo
      have hi' : k < 12 := hi
      show zuI f10 1 10 (f10 33 10) 6 k = f 38 k
      rw [zi_ne (i := 1) (j := 6) (by omega), y10 6 (by omega) (by omega), y9 6 (by omega) (by omega), y8 6 (by omega) (by omega), y7 6 (by omega) (by omega), h6, zr_ne (i := 24) (j := 6) (by omega), y5 6 (by omega) (by omega), y4 6 (by omega) (by omega), y3 6 (by omega) (by omega) (by omega) (by omega) (by omega) (by omega), y2 6 (by omega) (by omega)]
      exact zHc_r (f := f) (t := 2) (s := 34) (j := 4) (k := k) (by omega) (by omega) hi'
    · have lo' : 0 ≤ k := lo
      have hi' : k < 12 := hi
      show zuI f10 1 10 (f10 33 10) 7 k = f 39 k
      rw [zi_ne (i := 1) (j := 7) (by omega), y10 7 (by omega) (by omega), y9 7 (by omega) (by omega), y8 7 (by omega) (by omega), y7 7 (by omega) (by omega), h6, zr_ne (i := 24) (j := 7) (by omega), y5 7 (by omega) (by omega), y4 7 (by omega) (by omega), y3 7 (by omega) (by omega) (by omega) (by omega) (by omega) (by omega), y2 7 (by omega) (by omega)]
      exact zHc_r (f := f) (t := 2) (s := 34) (j := 5) (k := k) (by omega) (by omega) hi'
    · have lo' : 0 ≤ k := lo
      have hi' : k < 12 := hi
      show zuI f10 1 10 (f10 33 10) 8 k = f 40 k
      rw [zi_ne (i := 1) (j := 8) (by omega), y10 8 (by omega) (by omega), y9 8 (by omega) (by omega), y8 8 (by omega) (by omega), y7 8 (by omega) (by omega), h6, zr_ne (i := 24) (j := 8) (by omega), y5 8 (by omega) (by omega), y4 8 (by omega) (by omega), y3 8 (by omega) (by omega) (by omega) (by omega) (by omega) (by omega), y2 8 (by omega) (by omega)]
      exact zHc_r (f := f) (t := 2) (s := 34) (j := 6) (k := k) (by omega) (by omega) hi'
    · have lo' : 0 ≤ k := lo
      have hi' : k < 12 := hi
      show zuI f10 1 10 (f10 33 10) 9 k = f 41 k
      rw [zi_ne (i := 1) (j := 9) (by omega), y10 9 (by omega) (by omega), y9 9 (by omega) (by omega), y8 9 (by omega) (by omega), y7 9 (by omega) (by omega), h6, zr_ne (i := 24) (j := 9) (by omega), y5 9 (by omega) (by omega), y4 9 (by omega) (by omega), y3 9 (by omega) (by omega) (by omega) (by omega) (by omega) (by omega), y2 9 (by omega) (by omega)]
      exact zHc_r (f := f) (t := 2) (s := 34) (j := 7) (k := k) (by omega) (by omega) hi'
    · have lo' : 0 ≤ k := lo
      have hi' : k < 12 := hi
      show zuI f10 1 10 (f10 33 10) 10 k = f 42 k
      rw [zi_ne (i := 1) (j := 10) (by omega), y10 10 (by omega) (by omega), y9 10 (by omega) (by omega), y8 10 (by omega) (by omega), y7 10 (by omega) (by omega), h6, zr_ne (i := 24) (j := 10) (by omega), y5 10 (by omega) (by omega), y4 10 (by omega) (by omega), y3 10 (by omega) (by omega) (by omega) (by omega) (by omega) (by omega), y2 10 (by omega) (by omega)]
      exact zHc_r (f := f) (t := 2) (s := 34) (j := 8) (k := k) (by omega) (by omega) hi'
    · have lo' : 1 ≤ k := lo
      have hi' : k < 2 := hi
      show zuI f10 1 10 (f10 33 10) 11 k = f 43 k
      have ek : k = 1 := by omega
      subst ek
      rw [zi_ne (i := 1) (j := 11) (by omega), y10 11 (by omega) (by omega), y9 11 (by omega) (by omega), y8 11 (by omega) (by omega), y7 11 (by omega) (by omega), h6, zr_ne (i := 24) (j := 11) (by omega), y5 11 (by omega) (by omega), y4 11 (by omega) (by omega), y3 11 (by omega) (by omega) (by omega) (by omega) (by omega) (by omega), u2, zHc_ne (t := 2) (s := 34) (i := 43) (by omega)]
    · have lo' : 0 ≤ k := lo
      have hi' : k < 600 := hi
      show zuI f10 1 10 (f10 33 10) 12 k = f 44 k
      rw [zi_ne (i := 1) (j := 12) (by omega), y10 12 (by omega) (by omega), y9 12 (by omega) (by omega), y8 12 (by omega) (by omega), y7 12 (by omega) (by omega), h6, zr_ne (i := 24) (j := 12) (by omega), y5 12 (by omega) (by omega), y4 12 (by omega) (by omega), y3 12 (by omega) (by omega) (by omega) (by omega) (by omega) (by omega), v2 k hi', zHc_ne (t := 2) (s := 34) (i := 44) (by omega)]
    · have lo' : 7 ≤ k := lo
      have hi' : k < 8 := hi
      show zuI f10 1 10 (f10 33 10) 13 k = f 45 k
      have ek : k = 7 := by omega
      subst ek
      rw [zi_ne (i := 1) (j := 13) (by omega), y10 13 (by omega) (by omega), y9 13 (by omega) (by omega), y8 13 (by omega) (by omega), y7 13 (by omega) (by omega), h6, zr_ne (i := 24) (j := 13) (by omega), y5 13 (by omega) (by omega), y4 13 (by omega) (by omega), u3, y2 45 (by omega) (by omega), zHc_ne (t := 2) (s := 34) (i := 45) (by omega)]
    · have lo' : 0 ≤ k := lo
      have hi' : k < 400 := hi
      show zuI f10 1 10 (f10 33 10) 14 k = f 46 k
      rw [zi_ne (i := 1) (j := 14) (by omega), y10 14 (by omega) (by omega), y9 14 (by omega) (by omega), y8 14 (by omega) (by omega), y7 14 (by omega) (by omega), h6, zr_ne (i := 24) (j := 14) (by omega), y5 14 (by omega) (by omega), y4 14 (by omega) (by omega), v3 k hi', y2 46 (by omega) (by omega), zHc_ne (t := 2) (s := 34) (i := 46) (by omega)]
    · have lo' : 0 ≤ k := lo
      have hi' : k < 16 := hi
      show zuI f10 1 10 (f10 33 10) 15 k = f 47 k
      rw [zi_ne (i := 1) (j := 15) (by omega), y10 15 (by omega) (by omega), y9 15 (by omega) (by omega), y8 15 (by omega) (by omega), y7 15 (by omega) (by omega), h6, zr_ne (i := 24) (j := 15) (by omega), y5 15 (by omega) (by omega), y4 15 (by omega) (by omega), v3a k hi', y2 47 (by omega) (by omega), zHc_ne (t := 2) (s := 34) (i := 47) (by omega)]
    · have lo' : 0 ≤ k := lo
      have hi' : k < 16 := hi
      show zuI f10 1 10 (f10 33 10) 16 k = f 48 k
      rw [zi_ne (i := 1) (j := 16) (by omega), y10 16 (by omega) (by omega), y9 16 (by omega) (by omega), y8 16 (by omega) (by omega), y7 16 (by omega) (by omega), h6, zr_ne (i := 24) (j := 16) (by omega), y5 16 (by omega) (by omega), y4 16 (by omega) (by omega), v3b k hi', y2 48 (by omega) (by omega), zHc_ne (t := 2) (s := 34) (i := 48) (by omega)]
    · have lo' : 0 ≤ k := lo
      have hi' : k < 16 := hi
      show zuI f10 1 10 (f10 33 10) 17 k = f 49 k
      rw [zi_ne (i := 1) (j := 17) (by omega), y10 17 (by omega) (by omega), y9 17 (by omega) (by omega), y8 17 (by omega) (by omega), y7 17 (by omega) (by omega), h6, zr_ne (i := 24) (j := 17) (by omega), y5 17 (by omega) (by omega), y4 17 (by omega) (by omega), v3c k hi', y2 49 (by omega) (by omega), zHc_ne (t := 2) (s := 34) (i := 49) (by omega)]
    · have lo' : 0 ≤ k := lo
      have hi' : k < 16 := hi
      show zuI f10 1 10 (f10 33 10) 18 k = f 50 k
      rw [zi_ne (i := 1) (j := 18) (by omega), y10 18 (by omega) (by omega), y9 18 (by omega) (by omega), y8 18 (by omega) (by omega), y7 18 (by omega) (by omega), h6, zr_ne (i := 24) (j := 18) (by omega), y5 18 (by omega) (by omega), y4 18 (by omega) (by omega), v3d k hi', y2 50 (by omega) (by omega), zHc_ne (t := 2) (s := 34) (i := 50) (by omega)]
    · exact absurd hi (Nat.not_lt_zero k)
    · have lo' : 1 ≤ k := lo
      have hi' : k < 2 := hi
      show zuI f10 1 10 (f10 33 10) 20 k = f 52 k
      have ek : k = 1 := by omega
      subst ek
      rw [zi_ne (i := 1) (j := 20) (by omega), y10 20 (by omega) (by omega), y9 20 (by omega) (by omega), y8 20 (by omega) (by omega), y7 20 (by omega) (by omega), h6, zr_ne (i := 24) (j := 20) (by omega), y5 20 (by omega) (by omega), u4, y3 52 (by omega) (by omega) (by omega) (by omega) (by omega) (by omega), y2 52 (by omega) (by omega), zHc_ne (t := 2) (s := 34) (i := 52) (by omega)]
    · have lo' : 0 ≤ k := lo
      have hi' : k < 80 := hi
      show zuI f10 1 10 (f10 33 10) 21 k = f 53 k
      rw [zi_ne (i := 1) (j := 21) (by omega), y10 21 (by omega) (by omega), y9 21 (by omega) (by omega), y8 21 (by omega) (by omega), y7 21 (by omega) (by omega), h6, zr_ne (i := 24) (j := 21) (by omega), y5 21 (by omega) (by omega), v4 k hi', y3 53 (by omega) (by omega) (by omega) (by omega) (by omega) (by omega), y2 53 (by omega) (by omega), zHc_ne (t := 2) (s := 34) (i := 53) (by omega)]
    · have lo' : 1 ≤ k := lo
      have hi' : k < 2 := hi
      show zuI f10 1 10 (f10 33 10) 22 k = f 54 k
      have ek : k = 1 := by omega
      subst ek
      rw [zi_ne (i := 1) (j := 22) (by omega), y10 22 (by omega) (by omega), y9 22 (by omega) (by omega), y8 22 (by omega) (by omega), y7 22 (by omega) (by omega), h6, zr_ne (i := 24) (j := 22) (by omega), u5, y4 54 (by omega) (by omega), y3 54 (by omega) (by omega) (by omega) (by omega) (by omega) (by omega), y2 54 (by omega) (by omega), zHc_ne (t := 2) (s := 34) (i := 54) (by omega)]
    · have lo' : 0 ≤ k := lo
      have hi' : k < 80 := hi
      show zuI f10 1 10 (f10 33 10) 23 k = f 55 k
      rw [zi_ne (i := 1) (j := 23) (by omega), y10 23 (by omega) (by omega), y9 23 (by omega) (by omega), y8 23 (by omega) (by omega), y7 23 (by omega) (by omega), h6, zr_ne (i := 24) (j := 23) (by omega), v5 k hi', y4 55 (by omega) (by omega), y3 55 (by omega) (by omega) (by omega) (by omega) (by omega) (by omega), y2 55 (by omega) (by omega), zHc_ne (t := 2) (s := 34) (i := 55) (by omega)]
    · have lo' : 0 ≤ k := lo
      have hi' : k < 36 := hi
      show zuI f10 1 10 (f10 33 10) 24 k = f 56 k
      rw [zi_ne (i := 1) (j := 24) (by omega), y10 24 (by omega) (by omega), y9 24 (by omega) (by omega), y8 24 (by omega) (by omega), y7 24 (by omega) (by omega), h6, zr_at, zcpn, if_pos hi', y5 56 (by omega) (by omega), y4 56 (by omega) (by omega), y3 56 (by omega) (by omega) (by omega) (by omega) (by omega) (by omega), y2 56 (by omega) (by omega), zHc_ne (t := 2) (s := 34) (i := 56) (by omega)]
    · have lo' : 1 ≤ k := lo
      have hi' : k < 2 := hi
      show zuI f10 1 10 (f10 33 10) 25 k = f 57 k
      have ek : k = 1 := by omega
      subst ek
      rw [zi_ne (i := 1) (j := 25) (by omega), y10 25 (by omega) (by omega), y9 25 (by omega) (by omega), y8 25 (by omega) (by omega), u7, h6, zr_ne (i := 24) (j := 57) (by omega), y5 57 (by omega) (by omega), y4 57 (by omega) (by omega), y3 57 (by omega) (by omega) (by omega) (by omega) (by omega) (by omega), y2 57 (by omega) (by omega), zHc_ne (t := 2) (s := 34) (i := 57) (by omega)]
    · have lo' : 0 ≤ k := lo
      have hi' : k < 12 := hi
      show zuI f10 1 10 (f10 33 10) 26 k = f 58 k
      rw [zi_ne (i := 1) (j := 26) (by omega), y10 26 (by omega) (by omega), y9 26 (by omega) (by omega), y8 26 (by omega) (by omega), v7 k hi', h6, zr_ne (i := 24) (j := 58) (by omega), y5 58 (by omega) (by omega), y4 58 (by omega) (by omega), y3 58 (by omega) (by omega) (by omega) (by omega) (by omega) (by omega), y2 58 (by omega) (by omega), zHc_ne (t := 2) (s := 34) (i := 58) (by omega)]
    · have lo' : 1 ≤ k := lo
      have hi' : k < 2 := hi
      show zuI f10 1 10 (f10 33 10) 27 k = f 59 k
      have ek : k = 1 := by omega
      subst ek
      rw [zi_ne (i := 1) (j := 27) (by omega), y10 27 (by omega) (by omega), y9 27 (by omega) (by omega), u8, y7 59 (by omega) (by omega), h6, zr_ne (i := 24) (j := 59) (by omega), y5 59 (by omega) (by omega), y4 59 (by omega) (by omega), y3 59 (by omega) (by omega) (by omega) (by omega) (by omega) (by omega), y2 59 (by omega) (by omega), zHc_ne (t := 2) (s := 34) (i := 59) (by omega)]
    · have lo' : 0 ≤ k := lo
      have hi' : k < 12 := hi
      show zuI f10 1 10 (f10 33 10) 28 k = f 60 k
      rw [zi_ne (i := 1) (j := 28) (by omega), y10 28 (by omega) (by omega), y9 28 (by omega) (by omega), v8 k hi', y7 60 (by omega) (by omega), h6, zr_ne (i := 24) (j := 60) (by omega), y5 60 (by omega) (by omega), y4 60 (by omega) (by omega), y3 60 (by omega) (by omega) (by omega) (by omega) (by omega) (by omega), y2 60 (by omega) (by omega), zHc_ne (t := 2) (s := 34) (i := 60) (by omega)]
    · have lo' : 1 ≤ k := lo
      have hi' : k < 2 := hi
      show zuI f10 1 10 (f10 33 10) 29 k = f 61 k
      have ek : k = 1 := by omega
      subst ek
      rw [zi_ne (i := 1) (j := 29) (by omega), y10 29 (by omega) (by omega), u9, y8 61 (by omega) (by omega), y7 61 (by omega) (by omega), h6, zr_ne (i := 24) (j := 61) (by omega), y5 61 (by omega) (by omega), y4 61 (by omega) (by omega), y3 61 (by omega) (by omega) (by omega) (by omega) (by omega) (by omega), y2 61 (by omega) (by omega), zHc_ne (t := 2) (s := 34) (i := 61) (by omega)]
    · have lo' : 0 ≤ k := lo
      have hi' : k < 10 := hi
      show zuI f10 1 10 (f10 33 10) 30 k = f 62 k
      rw [zi_ne (i := 1) (j := 30) (by omega), y10 30 (by omega) (by omega), v9 k hi', y8 62 (by omega) (by omega), y7 62 (by omega) (by omega), h6, zr_ne (i := 24) (j := 62) (by omega), y5 62 (by omega) (by omega), y4 62 (by omega) (by omega), y3 62 (by omega) (by omega) (by omega) (by omega) (by omega) (by omega), y2 62 (by omega) (by omega), zHc_ne (t := 2) (s := 34) (i := 62) (by omega)]
    · have lo' : 1 ≤ k := lo
      have hi' : k < 2 := hi
      show zuI f10 1 10 (f10 33 10) 31 k = f 63 k
      have ek : k = 1 := by omega
      subst ek
      rw [zi_ne (i := 1) (j := 31) (by omega), u10, y9 63 (by omega) (by omega), y8 63 (by omega) (by omega), y7 63 (by omega) (by omega), h6, zr_ne (i := 24) (j := 63) (by omega), y5 63 (by omega) (by omega), y4 63 (by omega) (by omega), y3 63 (by omega) (by omega) (by omega) (by omega) (by omega) (by omega), y2 63 (by omega) (by omega), zHc_ne (t := 2) (s := 34) (i := 63) (by omega)]
    · have lo' : 0 ≤ k := lo
      have hi' : k < 16 := hi
      show zuI f10 1 10 (f10 33 10) 32 k = f 64 k
      rw [zi_ne (i := 1) (j := 32) (by omega), v10 k hi', y9 64 (by omega) (by omega), y8 64 (by omega) (by omega), y7 64 (by omega) (by omega), h6, zr_ne (i := 24) (j := 64) (by omega), y5 64 (by omega) (by omega), y4 64 (by omega) (by omega), y3 64 (by omega) (by omega) (by omega) (by omega) (by omega) (by omega), y2 64 (by omega) (by omega), zHc_ne (t := 2) (s := 34) (i := 64) (by omega)]
    · have z : zKhi i = 0 := by
        unfold zKhi
        split <;> first | (exfalso; omega) | rfl
      rw [z] at hi
      exact absurd hi (Nat.not_lt_zero k)
end ZCX

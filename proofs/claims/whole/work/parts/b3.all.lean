/-- what relates both sides holds of the fresh memory -/
theorem zRck_rel {f : Nat → Nat → Int32} {g : Nat → Nat → Int64} (h : zRck f g = true) : zRel f g f := by
  unfold zRck at h
  simp only [Bool.and_eq_true, decide_eq_true_eq] at h
  obtain ⟨h1, h2, h3, h4, h5, h6, h7, h8, h9, h10, h11⟩ := h
  have z : ∀ q ∈ zZe, f q.1 q.2 = 0 := fun q hq => of_decide_eq_true (List.all_eq_true.mp h1 q hq)
  have z1 : f 27 1 = 0 := z (27, 1) (by decide)
  have z2 : f 178 46 = 0 := z (178, 46) (by decide)
  have z3 : f 25 1 = 0 := z (25, 1) (by decide)
  have z4 : f 178 44 = 0 := z (178, 44) (by decide)
  have z5 : f 29 1 = 0 := z (29, 1) (by decide)
  have z6 : f 178 49 = 0 := z (178, 49) (by decide)
  have z7 : f 31 1 = 0 := z (31, 1) (by decide)
  have z8 : f 178 52 = 0 := z (178, 52) (by decide)
  have z9 : f 13 7 = 0 := z (13, 7) (by decide)
  have z10 : f 187 0 = 0 := z (187, 0) (by decide)
  have z11 : f 20 1 = 0 := z (20, 1) (by decide)
  have z12 : f 178 33 = 0 := z (178, 33) (by decide)
  have z13 : f 22 1 = 0 := z (22, 1) (by decide)
  have z14 : f 178 35 = 0 := z (178, 35) (by decide)
  have z15 : f 178 7 = 0 := z (178, 7) (by decide)
  have z16 : f 2 8 = 0 := z (2, 8) (by decide)
  have z17 : f 11 1 = 0 := z (11, 1) (by decide)
  have z18 : f 179 2 = 0 := z (179, 2) (by decide)
  have z19 : f 65 5 = 0 := z (65, 5) (by decide)
  have z20 : f 178 11 = 0 := z (178, 11) (by decide)
  have z21 : f 81 3 = 0 := z (81, 3) (by decide)
  have z22 : f 178 3 = 0 := z (178, 3) (by decide)
  have z23 : f 81 2 = 0 := z (81, 2) (by decide)
  have z24 : f 0 9 = 0 := z (0, 9) (by decide)
  have z25 : f 178 57 = 0 := z (178, 57) (by decide)
  have z26 : f 158 2 = 0 := z (158, 2) (by decide)
  have z27 : f 178 5 = 0 := z (178, 5) (by decide)
  have z28 : f 179 0 = 0 := z (179, 0) (by decide)
  have z29 : f 2 11 = 0 := z (2, 11) (by decide)
  have e0 : (0 : Int32) = nI 0 := rfl
  have t0 : (0 : Int32).toInt = 0 := rfl
  have n0 : ∀ {P : Nat → Prop} (j : Nat), j < 0 → P j := fun j hj => absurd hj (Nat.not_lt_zero j)
  have cs : ∀ k, k < 36 → f 24 k = 0 ∧ f 201 k = 0 := fun k hk => by
    have := List.all_eq_true.mp h2 k (List.mem_range.mpr hk)
    simp only [Bool.and_eq_true, decide_eq_true_eq] at this
    exact this
  have pl : ∀ k, k < 48 → f 197 k = 0 := fun k hk => of_decide_eq_true (List.all_eq_true.mp h3 k (List.mem_range.mpr hk))
  have wd : ∀ k, k < 117 → f 186 k = nI (zWrd.getD k 0) := fun k hk => of_decide_eq_true (List.all_eq_true.mp h11 k (List.mem_range.mpr hk))
  refine ⟨⟨?_, ?_, ?_, ?_, ?_, ?_, ?_, ?_, ?_, ?_, ?_⟩, ?_, ⟨h8, h9⟩, ?_, ?_, ?_⟩
  · exact ⟨0, by omega, z1, z2, n0⟩
  · exact ⟨0, by omega, z3, z4, n0⟩
  · exact ⟨0, by omega, z5, z6, n0⟩
  · exact ⟨0, by omega, z7, z8, n0⟩
  · intro p q hp hq
    rw [(cs (6 * p + q) (by omega)).1, (cs (6 * p + q) (by omega)).2, (cs (6 * q + p) (by omega)).1, t0]
    exact ⟨rfl, rfl, by omega, by omega⟩
  · exact ⟨0, by omega, z9, z10, n0⟩
  · exact ⟨0, by omega, z11, z12, n0⟩
  · exact ⟨0, 0, by omega, by omega, z13, z14, z15, n0⟩
  · refine ⟨0, by omega, z16, z15, h5, h6, z28.trans z29.symm, ?_, ?_, n0⟩
    · rw [z28, t0]; omega
    · rw [z28, t0]; omega
  · refine ⟨⟨0, by decide, h4, fun k hk => ?_⟩, h7⟩
    rw [pl k hk, Nat.zero_testBit]
    rfl
  · exact ⟨0, by omega, z17, z18, fun j hj => absurd hj (by omega)⟩
  · exact ⟨0, by omega, z19, z20, n0⟩
  · exact ⟨0, 0, fun _ => 0, by omega, by omega, z21, z22, z23, z17, Nat.zero_le _, n0⟩
  · exact ⟨z24.trans z25.symm, Or.inl z24⟩
  · exact ⟨h10, z26, z27, wd⟩
theorem zcall_go {cf : Nat → List Value → zSt → zRes} {ck : List Value → Bool} {a b : Nat} {ls st As rest : List Value} {S S1 : zSt} {k : List Value → zSt → zRes} {r : Option Value} (hp : zpop b st [] = some (As, rest)) (hw : zw rest ≤ 8) (hc : ck As = true) (h : cf a As S = some (r, S1)) (hz : S1.1 = S.1 ∨ (zok S.1 ls = true ∧ zok S.1 rest = true)) : zcall cf ck a b ls st S k = k (r.toList ++ rest) S1 := by
  unfold zcall
  rw [hp]
  simp only
  rw [if_pos ⟨hw, hc⟩, h]
  simp only
  rw [if_pos hz]
theorem zstp_new {X : Nat × (Nat → Int32)} {cf : Nat → List Value → zSt → zRes} {M : zMe} {n pc i a b : Nat} {ls st : List Value} {S : zSt} {ks : List Nat} (hk : zlk M.2.2.2.2.2 pc = some (.new i, a, b)) (hz : zok S.1 ls = true ∧ zok S.1 st = true) (hl : zlay S.1 = some (a, ks)) (ha : a < 13) : zstp X cf M (n + 1) pc ls st S = zstp X cf M n (pc + 3) ls (.ref S.1 :: st) (zNw S ks) := by
  simp only [zstp, hk]
  rw [if_pos hz]
  unfold znwK
  rw [hl]
  simp only
  rw [if_pos ⟨trivial, ha⟩]
  rfl
theorem zlay_178 : zlay 178 = some (12, zK1) := by decide +kernel
set_option maxHeartbeats 4000000 in
set_option maxRecDepth 100000 in
/-- the law, up to its loop -/
theorem zpref {X : Nat × (Nat → Int32)} {cf : Nat → List Value → zSt → zRes} {S2 S4 : zSt} (h1 : cf 121 [.ref 0] (zNw zS0 zK0) = some (none, S2)) (h2 : S2.1 = 178) (h3 : cf 161 [.ref 178] (zNw S2 zK1) = some (none, S4)) (n : Nat) : zstp X cf zm290 (n + 10) 0 [.ref 7777, .null, .null, .null] [] zS0 = zstp X cf zm290 n 18 [.ref 7777, .ref 0, .ref 178, .int 0] [] S4 := by
  obtain ⟨c, z, rr, f, g⟩ := S2
  have hc : c = 178 := h2
  subst hc
  have a0 : zstp X cf zm290 (n + 10) 0 [.ref 7777, .null, .null, .null] [] zS0 = zstp X cf zm290 (n + 9) 3 [.ref 7777, .null, .null, .null] [.ref 0] (zNw zS0 zK0) := rfl
  have a1 : zstp X cf zm290 (n + 9) 3 [.ref 7777, .null, .null, .null] [.ref 0] (zNw zS0 zK0) = zstp X cf zm290 (n + 8) 4 [.ref 7777, .null, .null, .null] [.ref 0, .ref 0] (zNw zS0 zK0) := rfl
  have a2 : zstp X cf zm290 (n + 8) 4 [.ref 7777, .null, .null, .null] [.ref 0, .ref 0] (zNw zS0 zK0) = zcall cf zhd 121 1 [.ref 7777, .null, .null, .null] [.ref 0, .ref 0] (zNw zS0 zK0) (fun st1 S1 => zstp X cf zm290 (n + 7) 7 [.ref 7777, .null, .null, .null] st1 S1) := rfl
  have a3 : zcall cf zhd 121 1 [.ref 7777, .null, .null, .null] [.ref 0, .ref 0] (zNw zS0 zK0) (fun st1 S1 => zstp X cf zm290 (n + 7) 7 [.ref 7777, .null, .null, .null] st1 S1) = zstp X cf zm290 (n + 7) 7 [.ref 7777, .null, .null, .null] [.ref 0] (178, z, rr, f, g) := zcall_go (As := [.ref 0]) (rest := [.ref 0]) rfl (by decide) rfl h1 (Or.inr ⟨rfl, rfl⟩)
  have a4 : zstp X cf zm290 (n + 7) 7 [.ref 7777, .null, .null, .null] [.ref 0] (178, z, rr, f, g) = zstp X cf zm290 (n + 6) 8 [.ref 7777, .ref 0, .null, .null] [] (178, z, rr, f, g) := rfl
  have a5 : zstp X cf zm290 (n + 6) 8 [.ref 7777, .ref 0, .null, .null] [] (178, z, rr, f, g) = zstp X cf zm290 (n + 5) 11 [.ref 7777, .ref 0, .null, .null] [.ref 178] (zNw (178, z, rr, f, g) zK1) := zstp_new (i := 10) (a := 12) (b := 0) rfl ⟨rfl, rfl⟩ zlay_178 (by decide)
  have a6 : zstp X cf zm290 (n + 5) 11 [.ref 7777, .ref 0, .null, .null] [.ref 178] (zNw (178, z, rr, f, g) zK1) = zcall cf zhd 161 1 [.ref 7777, .ref 0, .null, .null] [.ref 178, .ref 178] (zNw (178, z, rr, f, g) zK1) (fun st1 S1 => zstp X cf zm290 (n + 3) 15 [.ref 7777, .ref 0, .null, .null] st1 S1) := rfl
  have a7 : zcall cf zhd 161 1 [.ref 7777, .ref 0, .null, .null] [.ref 178, .ref 178] (zNw (178, z, rr, f, g) zK1) (fun st1 S1 => zstp X cf zm290 (n + 3) 15 [.ref 7777, .ref 0, .null, .null] st1 S1) = zstp X cf zm290 (n + 3) 15 [.ref 7777, .ref 0, .null, .null] [.ref 178] S4 := zcall_go (As := [.ref 178]) (rest := [.ref 178]) rfl (by decide) rfl h3 (Or.inr ⟨rfl, rfl⟩)
  have a8 : zstp X cf zm290 (n + 3) 15 [.ref 7777, .ref 0, .null, .null] [.ref 178] S4 = zstp X cf zm290 n 18 [.ref 7777, .ref 0, .ref 178, .int 0] [] S4 := rfl
  rw [a0, a1, a2, a3, a4, a5, a6, a7, a8]
theorem zrun_deeper {X : Nat × (Nat → Int32)} {q : Option Value × zSt} {d n a : Nat} {As : List Value} {S : zSt} (h : zrun X d n a As S = some q) : ∀ k, zrun X (d + k) n a As S = some q
  | 0 => h
  | k + 1 => zrun_deep (d + k) n a As S (zrun_deeper h k)
/-- what the run of the law must come to, for every script -/
def zAll : Prop := ∀ X : Nat × (Nat → Int32), X.1 ≤ 3072 → ∃ d N n S', d ≤ 500 ∧ zstp X (zrun X d N) zm290 n 0 [.ref 7777, .null, .null, .null] [] zS0 = some (some (.int 1), S') ∧ S'.1 ≤ 600000 ∧ S'.2.1 ≤ 7302250
theorem zAll_ok : zAll := by
  intro X hX
  obtain ⟨S2, f, g, h1, h2, h3, h4⟩ := zstart0
  rw [zrun_X (X := zX0) (Y := X) 8 700 121 (by decide)] at h1
  rw [zrun_X (X := zX0) (Y := X) 8 700 161 (by decide)] at h3
  obtain ⟨N, n, r, S', k1, k2, k3⟩ := zloops hX X.1 0 (by omega) (by omega) f g (zRck_rel h4)
  obtain ⟨v, f', g', e1, e2, e3⟩ := zQi_imp r S' k3
  subst e1
  subst e2
  have e4 : v = 1 := e3
  subst e4
  refine ⟨30, max 700 N, n + 10, zs f' g', by omega, ?_, Nat.le_of_ble_eq_true rfl, Nat.le_of_ble_eq_true rfl⟩
  rw [zpref (zrun_fuel 30 700 _ _ _ _ (Nat.le_max_left _ _) (zrun_deeper h1 22)) h2 (zrun_fuel 30 700 _ _ _ _ (Nat.le_max_left _ _) (zrun_deeper h3 22)) n]
  exact zfuel (fun a As S q hq => zrun_fuel 30 N _ a As S (Nat.le_max_right _ _) hq) n n _ _ _ _ (Nat.le_refl _) k1

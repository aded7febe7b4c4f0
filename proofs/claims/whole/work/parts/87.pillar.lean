/-! a line of pillars, and their loop -/
theorem zfs_no {P : Nat → Bool} : ∀ m i, (∀ p, i ≤ p → p < i + m → P p = false) → zfs P m i = -1
  | 0, _, _ => rfl
  | m + 1, i, h => by
    unfold zfs
    rw [h i (by omega) (by omega), if_neg (by decide), zfs_no m (i + 1) (fun p h1 h2 => h p (by omega) (by omega))]
theorem nx_orl (a b : Nat) : lN a ||| lN b = lN (a ||| b) := by
  apply Int64.toBitVec_inj.1
  show BitVec.ofNat 64 a ||| BitVec.ofNat 64 b = BitVec.ofNat 64 (a ||| b)
  apply BitVec.eq_of_getLsbD_eq
  intro i hi
  simp [hi]
/-- the pillars told so far -/
def zPd (g : Nat → Nat → Int64) (R : Nat → Nat → Int32) : Prop := ∃ P : Nat, P < 2 ^ 48 ∧ g 70 6 = lN P ∧ ∀ k, k < 48 → R 197 (48 + k) = if P.testBit k = true then 1 else 0
/-- the same hall -/
def zHx (f r : Nat → Nat → Int32) (np : Nat) : Prop := np ≤ 12 ∧ f 2 8 = nI np ∧ r 178 7 = nI np ∧ zHal (f 2 8) (f 2 9) (f 2 10) (f 2 11) (f 3) (f 4) (f 5) (f 6) (f 7) (f 8) (f 9) (f 10) (r 179) (r 178 7) (r 183) 9999
section ZPN
variable {X : Nat × (Nat → Int32)} {d e : Nat} {f r F R : Nat → Nat → Int32} {g gr : Nat → Nat → Int64} {b : Nat → Nat} {n N j : Nat}
theorem pl_line {np : Nat} (hh : zHx f r np) (h : zJ f r b n N F R j) (hk : zKn b n N j = 149) (hs : zPd g R) :
    (∃ F' g' R' j', (∀ K : Int32 → (Nat → Nat → Int32) → (Nat → Nat → Int64) → Prop, K 1 F' g' → zCpi X (d + 4) 64 [.ref 70] (zs (zuI F 70 3 (nI (j + 1))) g) K) ∧ (∀ K : Int32 → (Nat → Nat → Int32) → (Nat → Nat → Int64) → Prop, K 0 R' gr → zCpi X (e + 7) 194 [.ref 178] (zs R gr) K) ∧ zJ f r b n N F' R' j' ∧ j < j' ∧ zPd g' R' ∧ (∀ i k, ¬ (i = 70 ∧ k = 6) → g' i k = g i k)) ∨ (∃ F' R', (∀ K : Int32 → (Nat → Nat → Int32) → (Nat → Nat → Int64) → Prop, K 0 F' g → zCpi X (d + 4) 64 [.ref 70] (zs (zuI F 70 3 (nI (j + 1))) g) K) ∧ (∀ K : Int32 → (Nat → Nat → Int32) → (Nat → Nat → Int64) → Prop, K (-1) R' gr → zCpi X (e + 7) 194 [.ref 178] (zs R gr) K) ∧ zEr f r F' R') := by
  have hne : ∀ v : Nat, v ≤ 9999 → ¬ nI v = (-1 : Int32) := fun v hv => nI_nem (by omega)
  obtain ⟨hnp, hf8, hr7, hHal⟩ := hh
  obtain ⟨P, hP, hgP, hRP⟩ := hs
  have hjN := zKn_lt (by omega) hk
  have e7 : (7 : Int32).toInt = 7 := rfl
  have e5 : (5 : Int32).toInt = 5 := rfl
  obtain ⟨R1, t1, t2, t3⟩ := zJ_rd (X := X) (d := e + 2) (g := gr) h hjN
  obtain ⟨F1, eF1⟩ : ∃ F1, F1 = zuI F 70 3 (nI (j + 1)) := ⟨_, rfl⟩
  have j1 : zJ f r b n N F1 R1 (j + 1) := by rw [eF1]; exact zJ_go h hjN t1 t2 (fun i hi _ => zi_ne hi) (by rw [zi_at, if_pos rfl]) (fun k hk => by rw [zi_at, if_neg hk])
  rw [← eF1]
  have hrp : ∀ K : Int32 → (Nat → Nat → Int32) → (Nat → Nat → Int64) → Prop, zCpi X (e + 6) 186 [.ref 178, .int 0, .int 7] (zs R1 gr) (fun v11 f9 g10 => if v11 = -1 then (K (-1) f9 g10) else (if (f9 178 14) = 3 then (zCpi X (e + 6) 165 [.ref 178, .int (f9 178 15), .int 0, .int 5] (zs f9 g10) (fun v14 f12 g13 => if v14 = 0 then (zCpi X (e + 6) 186 [.ref 178, .int 0, .int 5] (zs f12 g13) (fun v17 f15 g16 => if v17 = -1 then (K (-1) f15 g16) else (if ((48 + (zmO.1 8 v17)) + v11) < 0 ∨ 96 ≤ ((48 + (zmO.1 8 v17)) + v11).toNatClampNeg then False else (zCpi X (e + 6) 187 [.ref 178, .int 59] (zs (zuI f15 197 (((48 + (zmO.1 8 v17)) + v11).toNatClampNeg) 1) g16) (fun v20 f18 g19 => K v20 f18 g19))))) else (zCpi X (e + 6) 167 [.ref 178, .int ((zmO.1 8 (f12 178 15)) + v11)] (zs f12 g13) (fun v23 f21 g22 => if v23 = -1 then (zCpi X (e + 6) 186 [.ref 178, .int 0, .int 5] (zs f21 g22) (fun v17 f15 g16 => if v17 = -1 then (K (-1) f15 g16) else (if ((48 + (zmO.1 8 v17)) + v11) < 0 ∨ 96 ≤ ((48 + (zmO.1 8 v17)) + v11).toNatClampNeg then False else (zCpi X (e + 6) 187 [.ref 178, .int 59] (zs (zuI f15 197 (((48 + (zmO.1 8 v17)) + v11).toNatClampNeg) 1) g16) (fun v20 f18 g19 => K v20 f18 g19))))) else (zCpi X (e + 6) 183 [.ref 178, .int 2] (zs f21 g22) (fun v32 f30 g31 => K v32 f30 g31)))))) else (zCpi X (e + 6) 186 [.ref 178, .int 0, .int 5] (zs f9 g10) (fun v17 f15 g16 => if v17 = -1 then (K (-1) f15 g16) else (if ((48 + (zmO.1 8 v17)) + v11) < 0 ∨ 96 ≤ ((48 + (zmO.1 8 v17)) + v11).toNatClampNeg then False else (zCpi X (e + 6) 187 [.ref 178, .int 59] (zs (zuI f15 197 (((48 + (zmO.1 8 v17)) + v11).toNatClampNeg) 1) g16) (fun v20 f18 g19 => K v20 f18 g19))))))) → zCpi X (e + 7) 194 [.ref 178] (zs R gr) K := fun K hK => by
    apply e194_178
    rw [show (21 : Int32) = nI 21 from rfl, q182 (by omega) h.2.2.2.2.2.2.1, if_neg (by rw [zb_0]; omega), t3]
    exact hK
  rcases nm_j (X := X) (d := d + 1) (e := e + 1) (g := g) (gr := gr) (k := 3) (hi := 7) (by omega) j1 with ⟨R2, c2, r2, v2, v2', fk2, j2⟩ | ⟨F', R', c2, r2, er⟩
  case inr =>
    refine Or.inr ⟨F', R', fun K hK => e64_70 ?_, fun K hK => hrp K ?_, er⟩
    · rw [show (3 : Int32) = nI 3 from rfl, c2, if_pos rfl, if_pos (Or.inl rfl)]
      exact hK
    · rw [r2, if_pos rfl]
      exact hK
  obtain ⟨F2, eF2⟩ : ∃ F2, F2 = zuI (zuI F1 71 3 (nI (zVl b n (j + 1)))) 70 3 (nI (j + 1 + 1)) := ⟨_, rfl⟩
  rw [← eF2] at c2 j2
  rw [nI_ti (by omega), e7] at v2'
  obtain ⟨x1, x2, x3, x4, x5, x6, x7, x8, x9⟩ := id j2
  obtain ⟨z1, z2⟩ := zRk_num x7
  have kl := zKn_le (b := b) (n := n) (N := N) (j := j + 1 + 1)
  have hF23 : F2 71 3 = nI (zVl b n (j + 1)) := by rw [eF2, zi_ne (by omega), zi_at, if_pos rfl]
  have hF28 : F2 2 8 = nI np := by rw [x8.1 2 (by omega)]; exact hf8
  have hR27 : R2 178 7 = nI np := by rw [x9.2.1 7 (by omega)]; exact hr7
  have hon : ∀ v, v < 6 → zfs (fun p => decide (R2 179 (16 + p) = nI (8 * v + zVl b n (j + 1)))) np 0 = zfs (fun p => decide (F2 5 p = nI (zVl b n (j + 1)) ∧ F2 6 p = nI v)) np 0 := fun v hv => by
    rw [x9.1 179 (by omega) (by omega), x8.1 5 (by omega), x8.1 6 (by omega)]
    exact zHal_on hHal hf8 hnp (by omega) hv
  -- is there somebody?
  by_cases hoc : zKn b n N (j + 1 + 1) = 2 ∧ zVl b n (j + 1 + 1) < 6 ∧ ¬ zfs (fun p => decide (F2 5 p = nI (zVl b n (j + 1)) ∧ F2 6 p = nI (zVl b n (j + 1 + 1)))) np 0 = -1
  · obtain ⟨o1, o2, o3⟩ := hoc
    have hj2 := zKn_lt (by omega) o1
    refine Or.inr ⟨_, _, fun K hK => e64_70 ?_, fun K hK => hrp K ?_, zJ_er (c := 2) j2⟩
    · rw [show (3 : Int32) = nI 3 from rfl, c2, if_neg (by decide), x4, q85 x1 x5, if_pos (by rw [o1]; rfl), if_neg (show ¬ (nI 3 < 0 ∨ 5 ≤ (nI 3).toNatClampNeg) by decide), x4, q86 x1 hj2, hF23, q18_2 hF28 hnp, if_neg o3, q50 x1 x2 x3 x4 x5, if_pos (Or.inl rfl)]
      exact hK
    · rw [r2, if_neg (hne _ v2), if_pos (by rw [z1]; exact o1), z2 o1, q165, if_neg (by rw [zb_0, nI_ti (by omega), e5]; exact fun z => z ⟨by rw [show (0 : Int32).toInt = 0 from rfl]; omega, by omega⟩), z2 o1, zmO.2, show (8 : Int32) = nI 8 from rfl, nI_mb, q167 hR27 hnp, hon _ o2, if_neg o3, q183]
      exact hK
  have hC : ∀ K : Int32 → (Nat → Nat → Int32) → (Nat → Nat → Int64) → Prop, (zCpi X (d + 3) 60 [.ref 70, .int 4, .int 5] (zs F2 g) (fun v15 f13 g14 => if v15 = 0 then (if (0 : Int32) = 0 ∨ (0 : Int32) = 1 then (K 0 f13 g14) else False) else (zCpi X (d + 3) 57 [.ref 70, .int 59] (zs f13 g14) (fun v18 f16 g17 => if v18 = 0 then (if (0 : Int32) = 0 ∨ (0 : Int32) = 1 then (K 0 f16 g17) else False) else (if (4 : Int32) < 0 ∨ 5 ≤ (4 : Int32).toNatClampNeg then False else (if (3 : Int32) < 0 ∨ 5 ≤ (3 : Int32).toNatClampNeg then False else (if (1 : Int32) = 0 ∨ (1 : Int32) = 1 then (K 1 f16 (zuL g17 70 6 ((g17 70 6) ||| (zlH.1 (1 : Int64) ((zmO.1 8 (f16 71 4)) + (f16 71 3)))))) else False))))))) → zCpi X (d + 4) 64 [.ref 70] (zs F1 g) K := fun K hK => by
    apply e64_70
    by_cases o1 : zKn b n N (j + 1 + 1) = 2
    · have hj2 := zKn_lt (by omega) o1
      have o3 : zfs (fun p => decide (F2 5 p = nI (zVl b n (j + 1)) ∧ F2 6 p = nI (zVl b n (j + 1 + 1)))) np 0 = -1 := by
        by_cases o2 : zVl b n (j + 1 + 1) < 6
        · exact Decidable.byContradiction (fun z => hoc ⟨o1, o2, z⟩)
        · refine zfs_no np 0 (fun p _ hp => decide_eq_false ?_)
          rintro ⟨-, z⟩
          obtain ⟨n', hn', h1, -, -, -, -, -, -, h8⟩ := hHal
          have en : n' = np := (nI_eq (by omega) (by omega)).mp (h1.symm.trans hf8)
          subst en
          obtain ⟨-, -, ⟨x', y', hx', hy', u1, u2, u3⟩, -⟩ := h8 p (by omega)
          have hv : zVl b n (j + 1 + 1) ≤ 9999 := zVl_le (by unfold zKn at o1; rw [if_pos hj2] at o1; exact o1)
          rw [x8.1 6 (by omega), u2] at z
          have := (nI_eq (by omega) (by omega)).mp z
          omega
      rw [show (3 : Int32) = nI 3 from rfl, c2, if_neg (by decide), x4, q85 x1 x5, if_pos (by rw [o1]; rfl), if_neg (show ¬ (nI 3 < 0 ∨ 5 ≤ (nI 3).toNatClampNeg) by decide), x4, q86 x1 hj2, hF23, q18_2 hF28 hnp, if_pos o3]
      exact hK
    · rw [show (3 : Int32) = nI 3 from rfl, c2, if_neg (by decide), x4, q85 x1 x5, if_neg (show ¬ nI (zKn b n N (j + 1 + 1)) = (2 : Int32) from nI_neq (c := 2) (by omega) (by omega) o1)]
      exact hK
  have hRr : ∀ K : Int32 → (Nat → Nat → Int32) → (Nat → Nat → Int64) → Prop, (zCpi X (e + 6) 186 [.ref 178, .int 0, .int 5] (zs R2 gr) (fun v17 f15 g16 => if v17 = -1 then (K (-1) f15 g16) else (if ((48 + (zmO.1 8 v17)) + nI (zVl b n (j + 1))) < 0 ∨ 96 ≤ ((48 + (zmO.1 8 v17)) + nI (zVl b n (j + 1))).toNatClampNeg then False else (zCpi X (e + 6) 187 [.ref 178, .int 59] (zs (zuI f15 197 (((48 + (zmO.1 8 v17)) + nI (zVl b n (j + 1))).toNatClampNeg) 1) g16) (fun v20 f18 g19 => K v20 f18 g19))))) → zCpi X (e + 7) 194 [.ref 178] (zs R gr) K := fun K hK => by
    refine hrp K ?_
    rw [r2, if_neg (hne _ v2)]
    by_cases o1 : zKn b n N (j + 1 + 1) = 2
    · rw [if_pos (by rw [z1]; exact o1), z2 o1, q165]
      have hj2 := zKn_lt (by omega) o1
      have hv : zVl b n (j + 1 + 1) ≤ 9999 := zVl_le (by unfold zKn at o1; rw [if_pos hj2] at o1; exact o1)
      by_cases o2 : zVl b n (j + 1 + 1) < 6
      · rw [if_neg (by rw [zb_0, nI_ti (by omega), e5]; exact fun z => z ⟨by rw [show (0 : Int32).toInt = 0 from rfl]; omega, by omega⟩), z2 o1, zmO.2, show (8 : Int32) * nI (zVl b n (j + 1 + 1)) + nI (zVl b n (j + 1)) = nI (8 * zVl b n (j + 1 + 1) + zVl b n (j + 1)) from nI_mb _ 8 _, q167 hR27 hnp, hon _ o2, if_pos (Decidable.byContradiction (fun z => hoc ⟨o1, o2, z⟩))]
        exact hK
      · rw [if_pos (by rw [zb_0, nI_ti (by omega), e5]; omega)]
        exact hK
    · rw [if_neg (by rw [z1]; exact o1)]
      exact hK
  rcases nm_j (X := X) (d := d + 1) (e := e + 1) (g := g) (gr := gr) (k := 4) (hi := 5) (by omega) j2 with ⟨R3, c3, r3, v3, v3', fk3, j3⟩ | ⟨F', R', c3, r3, er⟩
  case inr =>
    refine Or.inr ⟨F', R', fun K hK => hC K ?_, fun K hK => hRr K ?_, er⟩
    · rw [show (4 : Int32) = nI 4 from rfl, c3, if_pos rfl, if_pos (Or.inl rfl)]
      exact hK
    · rw [r3, if_pos rfl]
      exact hK
  obtain ⟨F3, eF3⟩ : ∃ F3, F3 = zuI (zuI F2 71 4 (nI (zVl b n (j + 1 + 1)))) 70 3 (nI (j + 1 + 1 + 1)) := ⟨_, rfl⟩
  rw [← eF3] at c3 j3
  rw [nI_ti (by omega), e5] at v3'
  have hix : (48 : Int32) + zmO.1 8 (nI (zVl b n (j + 1 + 1))) + nI (zVl b n (j + 1)) = nI (48 + 8 * zVl b n (j + 1 + 1) + zVl b n (j + 1)) := by rw [zmO.2, show (8 : Int32) = nI 8 from rfl, pk_mul, show (48 : Int32) = nI 48 from rfl, nI_add, nI_add]
  have i4 := nI_in (c := 48 + 8 * zVl b n (j + 1 + 1) + zVl b n (j + 1)) (N := 96) (by omega) (by omega)
  have k4 := nI_cl (k := 48 + 8 * zVl b n (j + 1 + 1) + zVl b n (j + 1)) (by omega)
  obtain ⟨R4, eR4⟩ : ∃ R4, R4 = zuI R3 197 (48 + 8 * zVl b n (j + 1 + 1) + zVl b n (j + 1)) 1 := ⟨_, rfl⟩
  have j4 : zJ f r b n N F3 R4 (j + 1 + 1 + 1) := by rw [eR4]; exact zJ_u j3 (by omega)
  have hF33 : F3 71 3 = nI (zVl b n (j + 1)) := by rw [eF3, zi_ne (by omega), zi_at, if_neg (by omega), hF23]
  have hF34 : F3 71 4 = nI (zVl b n (j + 1 + 1)) := by rw [eF3, zi_ne (by omega), zi_at, if_pos rfl]
  rcases mk_j (X := X) (d := d + 1) (e := e + 1) (g := g) (gr := gr) (c := 59) (by decide) j4 with ⟨R5, -, c5, r5, fk5, j5⟩ | ⟨-, F', R', c5, r5, er⟩
  case inr =>
    refine Or.inr ⟨F', R', fun K hK => hC K ?_, fun K hK => hRr K ?_, er⟩
    · rw [show (4 : Int32) = nI 4 from rfl, c3, if_neg (by decide), show (59 : Int32) = nI 59 from rfl, c5, if_pos rfl, if_pos (Or.inl rfl)]
      exact hK
    · rw [r3, if_neg (hne _ v3), hix, if_neg i4, k4, ← eR4, show (59 : Int32) = nI 59 from rfl, r5]
      exact hK
  have hsq : zmO.1 8 (nI (zVl b n (j + 1 + 1))) + nI (zVl b n (j + 1)) = nI (8 * zVl b n (j + 1 + 1) + zVl b n (j + 1)) := by rw [zmO.2, show (8 : Int32) = nI 8 from rfl, nI_mb]
  have hgo : g 70 6 ||| zlH.1 (1 : Int64) (nI (8 * zVl b n (j + 1 + 1) + zVl b n (j + 1))) = lN (P ||| 2 ^ (8 * zVl b n (j + 1 + 1) + zVl b n (j + 1))) := by
    rw [hgP, show (1 : Int64) = lN 1 from rfl, zl1c (by omega), Nat.one_mul, nx_orl]
  refine Or.inl ⟨zuI F3 70 3 (nI (j + 1 + 1 + 1 + 1)), zuL g 70 6 (lN (P ||| 2 ^ (8 * zVl b n (j + 1 + 1) + zVl b n (j + 1)))), R5, j + 1 + 1 + 1 + 1, fun K hK => hC K ?_, fun K hK => hRr K ?_, j5, by omega, ⟨P ||| 2 ^ (8 * zVl b n (j + 1 + 1) + zVl b n (j + 1)), Nat.or_lt_two_pow hP (Nat.pow_lt_pow_right (by omega) (by omega)), by rw [zj_at, if_pos rfl], fun k hk => ?_⟩, fun i k hik => ?_⟩
  · rw [show (4 : Int32) = nI 4 from rfl, c3, if_neg (by decide), show (59 : Int32) = nI 59 from rfl, c5, if_neg (by decide), if_neg (by decide), if_neg (by decide), if_pos (Or.inr rfl), zi_ne (by omega), hF33, hF34, hsq, hgo]
    exact hK
  · rw [r3, if_neg (hne _ v3), hix, if_neg i4, k4, ← eR4, show (59 : Int32) = nI 59 from rfl, r5]
    exact hK
  · rw [fk5.1 197 (by omega), eR4, zi_at, Nat.testBit_or, Nat.testBit_two_pow]
    by_cases ek : k = 8 * zVl b n (j + 1 + 1) + zVl b n (j + 1)
    · rw [if_pos (by omega), if_pos (by rw [decide_eq_true ek.symm, Bool.or_true])]
    · rw [if_neg (by omega), decide_eq_false (fun z => ek z.symm), Bool.or_false, fk3.1 197 (by omega), fk2.1 197 (by omega), t1.1 197 (by omega)]
      exact hRP k hk
  · by_cases ei : i = 70
    · subst ei
      rw [zj_at, if_neg (fun z => hik ⟨rfl, z⟩)]
    · rw [zj_ne ei]
end ZPN

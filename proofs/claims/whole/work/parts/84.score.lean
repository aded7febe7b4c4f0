/-! a score, line by line -/
theorem zJ_R {f r F R S : Nat → Nat → Int32} {b : Nat → Nat} {n N j : Nat} (h : zJ f r b n N F R j) (h8 : S 178 = R 178) (h5 : S 185 = R 185) (h6 : S 186 = R 186) (hb : zFb r S) : zJ f r b n N F S j := by
  obtain ⟨a1, a2, a3, a4, a5, ⟨b1, b2, b3, b4⟩, a7, a8, a9⟩ := h
  refine ⟨a1, a2, a3, a4, a5, ⟨b1, by rw [h8]; exact b2, fun i hi => by rw [h5]; exact b3 i hi, fun k hk => by rw [h6]; exact b4 k hk⟩, ?_, a8, hb⟩
  unfold zRk at a7 ⊢
  rw [h8]
  exact a7
theorem zJ_F {f r F R G : Nat → Nat → Int32} {b : Nat → Nat} {n N j : Nat} (h : zJ f r b n N F R j) (h70 : G 70 = F 70) (hG : ∀ i, ¬ (70 ≤ i ∧ i ≤ 80) → G i = F i) : zJ f r b n N G R j := by
  obtain ⟨⟨t1, t2, t3⟩, a2, a3, a4, a5, a6, a7, a8, a9⟩ := h
  refine ⟨⟨by rw [hG 65 (by omega)]; exact t1, t2, fun i hi => ?_⟩, a2, by rw [hG 65 (by omega)]; exact a3, by rw [h70]; exact a4, a5, a6, a7, ⟨fun i hi => by rw [hG i (by omega), a8.1 i hi], by rw [hG 65 (by omega), a8.2.1], by rw [h70, a8.2.2.1], by rw [h70, a8.2.2.2]⟩, a9⟩
  rw [hG 67 (by omega), hG 68 (by omega), hG 69 (by omega)]
  exact t3 i hi
theorem zEr_R {f r F R : Nat → Nat → Int32} {i k : Nat} {x : Int32} (h : zEr f r F R) (hi : (188 ≤ i ∧ i ≤ 191 ∧ 32 ≤ k) ∨ (192 ≤ i ∧ i ≤ 193 ∧ 800 ≤ k) ∨ i = 194 ∨ (i = 195 ∧ 48 ≤ k) ∨ (i = 196 ∧ 64 ≤ k) ∨ (i = 197 ∧ 48 ≤ k)) : zEr f r F (zuI R i k x) := by
  obtain ⟨a1, a2, a3, a4⟩ := h
  exact ⟨a1, zFb_r a2 hi, by rw [zi_ne (by omega)]; exact a3, by rw [zi_ne (by omega)]; exact a4⟩
theorem zcp5 {a b : Nat → Int32} {p j : Nat} : va_cpy a b 0 p 5 j = if p ≤ j ∧ j < p + 5 then a (j - p) else b j := by
  unfold va_cpy
  simp only [Nat.zero_add]
section ZSR
variable {X : Nat × (Nat → Int32)} {d e : Nat} {f r F R : Nat → Nat → Int32} {g gr : Nat → Nat → Int64} {b : Nat → Nat} {n N j : Nat}
theorem q74 {k : Nat} {K : Int32 → (Nat → Nat → Int32) → (Nat → Nat → Int64) → Prop} (h : F 79 1 = nI k) (hk : k < 16) : zCpi X (d + 1) 74 [.ref 79, .ref 71] (zs F g) K = K 1 (zuI (zrI F 80 (va_cpy (F 71) (F 80) 0 (5 * k) 5)) 79 1 (nI (k + 1))) g := by
  refine zCpi_eq (fun K hK => e74_79_71 ?_)
  have e5 : nI k * (5 : Int32) = nI (5 * k) := by rw [Nat.mul_comm 5 k]; exact pk_mul k 5
  have c5 : (5 : Int32).toNatClampNeg = 5 := by decide
  have c0 : (0 : Int32).toNatClampNeg = 0 := by decide
  rw [h, if_neg (show ¬ (16 : Int32) ≤ nI k from nI_ge (b := 16) hk (by omega)), zmO.2, e5, nI_cl (by omega), if_pos ⟨by decide, nI_pos (by omega), by decide, by rw [c5, c0]; omega, by rw [c5]; omega⟩, if_pos (Or.inr rfl), nI_1]
  exact hK
/-- the draft of a score -/
def zSd (F R : Nat → Nat → Int32) (k : Nat) : Prop := F 79 1 = nI k ∧ k ≤ 16 ∧ ∀ i, i < k → F 80 (5 * i) = R 195 (48 + 3 * i) ∧ F 80 (5 * i + 2) = R 195 (48 + 3 * i + 1) ∧ F 80 (5 * i + 3) = R 195 (48 + 3 * i + 2) ∧ 0 ≤ (R 195 (48 + 3 * i + 2)).toInt ∧ (R 195 (48 + 3 * i + 2)).toInt ≤ 11
theorem sc_line {k np : Nat} (hnp : np ≤ 12) (hf8 : f 2 8 = nI np) (hr7 : r 178 7 = nI np) (h : zJ f r b n N F R j) (hk : zKn b n N j = 144) (hs : zSd F R k) (hk16 : k < 16) :
    (∃ F' R' j', (∀ K : Int32 → (Nat → Nat → Int32) → (Nat → Nat → Int64) → Prop, K 1 F' g → zCpi X (d + 5) 59 [.ref 70] (zs (zuI F 70 3 (nI (j + 1))) g) K) ∧ (∀ K : Int32 → (Nat → Nat → Int32) → (Nat → Nat → Int64) → Prop, K 0 R' gr → zCpi X (e + 7) 184 [.ref 178, .int (nI (48 + 3 * k))] (zs R gr) K) ∧ zJ f r b n N F' R' j' ∧ j < j' ∧ zSd F' R' (k + 1)) ∨ (∃ F' R', (∀ K : Int32 → (Nat → Nat → Int32) → (Nat → Nat → Int64) → Prop, K 0 F' g → zCpi X (d + 5) 59 [.ref 70] (zs (zuI F 70 3 (nI (j + 1))) g) K) ∧ (∀ K : Int32 → (Nat → Nat → Int32) → (Nat → Nat → Int64) → Prop, K (-1) R' gr → zCpi X (e + 7) 184 [.ref 178, .int (nI (48 + 3 * k))] (zs R gr) K) ∧ zEr f r F' R') := by
  have hne : ∀ v : Nat, v ≤ 9999 → ¬ nI v = (-1 : Int32) := fun v hv => nI_nem (by omega)
  have i0 := nI_in (c := 48 + 3 * k) (N := 96) (by omega) (by omega)
  have k0 := nI_cl (k := 48 + 3 * k) (by omega)
  have a1 : nI (48 + 3 * k) + (1 : Int32) = nI (48 + 3 * k + 1) := nI_1 _
  have a2 : nI (48 + 3 * k) + (2 : Int32) = nI (48 + 3 * k + 2) := nI_add _ 2
  have i1 := nI_in (c := 48 + 3 * k + 1) (N := 96) (by omega) (by omega)
  have k1 := nI_cl (k := 48 + 3 * k + 1) (by omega)
  have i2 := nI_in (c := 48 + 3 * k + 2) (N := 96) (by omega) (by omega)
  have k2 := nI_cl (k := 48 + 3 * k + 2) (by omega)
  obtain ⟨s1, s2, s3⟩ := hs
  obtain ⟨F1, eF1⟩ : ∃ F1, F1 = zuI F 70 3 (nI (j + 1)) := ⟨_, rfl⟩
  rw [← eF1]
  -- at, and its beat
  rcases wd_j (X := X) (d := d) (e := e + 1) (g := g) (gr := gr) (w := 16) (lo := 0) (hi := 999) (by omega) h with ⟨R1, -, -, ref1, fk1, j1⟩ | ⟨z, -⟩
  case inr => exact absurd hk z
  rw [← eF1] at j1
  rcases nm_j (X := X) (d := d + 2) (e := e) (g := g) (gr := gr) (k := 0) (hi := 999) (by omega) j1 with ⟨R2, c2, r2, v2, -, fk2, j2⟩ | ⟨F', R', c2, r2, er⟩
  case inr =>
    have c2 : ∀ K : Int32 → (Nat → Nat → Int32) → (Nat → Nat → Int64) → Prop, zCpi X (d + 4) 60 [.ref 70, .int 0, .int 999] (zs F1 g) K = K 0 F' g := c2
    refine Or.inr ⟨F', zuI R' 195 (48 + 3 * k) (-1), fun K hK => e59_70 ?_, fun K hK => e184_178 ?_, zEr_R er (by omega)⟩
    · rw [c2, if_pos rfl, if_pos (Or.inl rfl)]
      exact hK
    · refine ref1 _ ?_
      rw [r2, if_neg i0, if_neg i0, k0, zi_at, if_pos rfl, if_pos rfl]
      exact hK
  obtain ⟨F2, eF2⟩ : ∃ F2, F2 = zuI (zuI F1 71 0 (nI (zVl b n (j + 1)))) 70 3 (nI (j + 1 + 1)) := ⟨_, rfl⟩
  rw [← eF2] at c2 j2
  have c2 : ∀ K : Int32 → (Nat → Nat → Int32) → (Nat → Nat → Int64) → Prop, zCpi X (d + 4) 60 [.ref 70, .int 0, .int 999] (zs F1 g) K = K 1 F2 g := c2
  obtain ⟨R3, eR3⟩ : ∃ R3, R3 = zuI R2 195 (48 + 3 * k) (nI (zVl b n (j + 1))) := ⟨_, rfl⟩
  have j3 : zJ f r b n N F2 R3 (j + 1 + 1) := zJ_R j2 (by rw [eR3, zi_ne (by omega)]) (by rw [eR3, zi_ne (by omega)]) (by rw [eR3, zi_ne (by omega)]) (by rw [eR3]; exact zFb_r j2.2.2.2.2.2.2.2.2 (by omega))
  have hr3 : R3 178 7 = nI np := by rw [j3.2.2.2.2.2.2.2.2.2.1 7 (by omega)]; exact hr7
  have hR2r3 : R2 178 7 = nI np := by rw [j2.2.2.2.2.2.2.2.2.2.1 7 (by omega)]; exact hr7
  -- player, and who
  rcases wd_j (X := X) (d := d + 2) (e := e + 1) (g := g) (gr := gr) (w := 17) (lo := 0) (hi := zsO.1 (nI np) 1) (by omega) j3 with ⟨R4, -, c4, ref4, fk4, j4⟩ | ⟨-, F', R', c4, r4, er⟩
  case inr =>
    refine Or.inr ⟨F', zuI R' 195 (48 + 3 * k + 1) (-1), fun K hK => e59_70 ?_, fun K hK => e184_178 ?_, zEr_R er (by omega)⟩
    · rw [c2, if_neg (by decide), show (145 : Int32) = nI (128 + 17) from rfl, c4, if_pos rfl, if_pos (Or.inl rfl)]
      exact hK
    · refine ref1 _ ?_
      rw [r2, if_neg i0, if_neg i0, k0, zi_at, if_pos rfl, if_neg (hne _ v2), ← eR3, hR2r3]
      refine r4 _ ?_
      rw [a1, if_neg i1, if_neg i1, k1, zi_at, if_pos rfl, if_pos rfl]
      exact hK
  obtain ⟨F4, eF4⟩ : ∃ F4, F4 = zuI F2 70 3 (nI (j + 1 + 1 + 1)) := ⟨_, rfl⟩
  rw [← eF4] at c4 j4
  have hF48 : F4 2 8 = nI np := by rw [j4.2.2.2.2.2.2.2.1.1 2 (by omega)]; exact hf8
  rcases nm_j (X := X) (d := d + 1) (e := e) (g := g) (gr := gr) (k := 2) (hi := zsO.1 (nI np) 1) (by omega) j4 with ⟨R5, c5, r5, v5, -, fk5, j5⟩ | ⟨F', R', c5, r5, er⟩
  case inr =>
    refine Or.inr ⟨F', zuI R' 195 (48 + 3 * k + 1) (-1), fun K hK => e59_70 ?_, fun K hK => e184_178 ?_, zEr_R er (by omega)⟩
    · rw [c2, if_neg (by decide), show (145 : Int32) = nI (128 + 17) from rfl, c4, if_neg (by decide)]
      apply e61_70
      rw [hF48, show (2 : Int32) = nI 2 from rfl, c5, if_pos (Or.inl rfl), if_pos rfl, if_pos (Or.inl rfl)]
      exact hK
    · refine ref1 _ ?_
      rw [r2, if_neg i0, if_neg i0, k0, zi_at, if_pos rfl, if_neg (hne _ v2), ← eR3, hR2r3]
      refine ref4 _ ?_
      rw [r5, a1, if_neg i1, if_neg i1, k1, zi_at, if_pos rfl, if_pos rfl]
      exact hK
  obtain ⟨F5, eF5⟩ : ∃ F5, F5 = zuI (zuI F4 71 2 (nI (zVl b n (j + 1 + 1 + 1)))) 70 3 (nI (j + 1 + 1 + 1 + 1)) := ⟨_, rfl⟩
  rw [← eF5] at c5 j5
  obtain ⟨R6, eR6⟩ : ∃ R6, R6 = zuI R5 195 (48 + 3 * k + 1) (nI (zVl b n (j + 1 + 1 + 1))) := ⟨_, rfl⟩
  have j6 : zJ f r b n N F5 R6 (j + 1 + 1 + 1 + 1) := zJ_R j5 (by rw [eR6, zi_ne (by omega)]) (by rw [eR6, zi_ne (by omega)]) (by rw [eR6, zi_ne (by omega)]) (by rw [eR6]; exact zFb_r j5.2.2.2.2.2.2.2.2 (by omega))
  -- what both did so far
  have hcl : ∀ K : Int32 → (Nat → Nat → Int32) → (Nat → Nat → Int64) → Prop, zCpi X (d + 4) 57 [.ref 70, .int 140] (zs F5 g) (fun v12 f10 g11 => if v12 = 0 then (if (0 : Int32) = 0 ∨ (0 : Int32) = 1 then (K 0 f10 g11) else False) else (zCpi X (d + 4) 60 [.ref 70, .int 3, .int 11] (zs f10 g11) (fun v15 f13 g14 => if v15 = 0 then (if (0 : Int32) = 0 ∨ (0 : Int32) = 1 then (K 0 f13 g14) else False) else (zCpi X (d + 4) 57 [.ref 70, .int 59] (zs f13 g14) (fun v18 f16 g17 => if v18 = 0 then (if (0 : Int32) = 0 ∨ (0 : Int32) = 1 then (K 0 f16 g17) else False) else (zCpi X (d + 4) 74 [.ref 79, .ref 71] (zs f16 g17) (fun v21 f19 g20 => if v21 = 0 then (if (0 : Int32) = 0 ∨ (0 : Int32) = 1 then (K 0 f19 g20) else False) else (if (1 : Int32) = 0 ∨ (1 : Int32) = 1 then (K 1 f19 g20) else False)))))))) → zCpi X (d + 5) 59 [.ref 70] (zs F1 g) K := fun K hK => by
    apply e59_70
    rw [c2, if_neg (by decide), show (145 : Int32) = nI (128 + 17) from rfl, c4, if_neg (by decide)]
    apply e61_70
    rw [hF48, show (2 : Int32) = nI 2 from rfl, c5, if_pos (Or.inr rfl), if_neg (by decide)]
    exact hK
  have hrf : ∀ K : Int32 → (Nat → Nat → Int32) → (Nat → Nat → Int64) → Prop, zCpi X (e + 6) 185 [.ref 178, .int 12, .int 0, .int 11] (zs R6 gr) (fun v9 f7 g8 => if nI (48 + 3 * k + 2) < 0 ∨ 96 ≤ (nI (48 + 3 * k + 2)).toNatClampNeg then False else (if nI (48 + 3 * k + 2) < 0 ∨ 96 ≤ (nI (48 + 3 * k + 2)).toNatClampNeg then False else (if ((zuI f7 195 ((nI (48 + 3 * k + 2)).toNatClampNeg) v9) 195 ((nI (48 + 3 * k + 2)).toNatClampNeg)) = -1 then (K (-1) (zuI f7 195 ((nI (48 + 3 * k + 2)).toNatClampNeg) v9) g8) else (zCpi X (e + 6) 187 [.ref 178, .int 59] (zs (zuI f7 195 ((nI (48 + 3 * k + 2)).toNatClampNeg) v9) g8) (fun v12 f10 g11 => K v12 f10 g11))))) → zCpi X (e + 7) 184 [.ref 178, .int (nI (48 + 3 * k))] (zs R gr) K := fun K hK => by
    apply e184_178
    refine ref1 _ ?_
    rw [r2, if_neg i0, if_neg i0, k0, zi_at, if_pos rfl, if_neg (hne _ v2), ← eR3, hR2r3]
    refine ref4 _ ?_
    rw [r5, a1, if_neg i1, if_neg i1, k1, zi_at, if_pos rfl, if_neg (hne _ v5), ← eR6, a2]
    exact hK
  -- note, and which
  rcases wd_j (X := X) (d := d + 2) (e := e + 1) (g := g) (gr := gr) (w := 12) (lo := 0) (hi := 11) (by omega) j6 with ⟨R7, -, c7, ref7, fk7, j7⟩ | ⟨-, F', R', c7, r7, er⟩
  case inr =>
    refine Or.inr ⟨F', zuI R' 195 (48 + 3 * k + 2) (-1), fun K hK => hcl K ?_, fun K hK => hrf K ?_, zEr_R er (by omega)⟩
    · rw [show (140 : Int32) = nI (128 + 12) from rfl, c7, if_pos rfl, if_pos (Or.inl rfl)]
      exact hK
    · refine r7 _ ?_
      rw [if_neg i2, if_neg i2, k2, zi_at, if_pos rfl, if_pos rfl]
      exact hK
  obtain ⟨F7, eF7⟩ : ∃ F7, F7 = zuI F5 70 3 (nI (j + 1 + 1 + 1 + 1 + 1)) := ⟨_, rfl⟩
  rw [← eF7] at c7 j7
  rcases nm_j (X := X) (d := d + 2) (e := e) (g := g) (gr := gr) (k := 3) (hi := 11) (by omega) j7 with ⟨R8, c8, r8, v8, v8', fk8, j8⟩ | ⟨F', R', c8, r8, er⟩
  case inr =>
    refine Or.inr ⟨F', zuI R' 195 (48 + 3 * k + 2) (-1), fun K hK => hcl K ?_, fun K hK => hrf K ?_, zEr_R er (by omega)⟩
    · rw [show (140 : Int32) = nI (128 + 12) from rfl, c7, if_neg (by decide), show (3 : Int32) = nI 3 from rfl, c8, if_pos rfl, if_pos (Or.inl rfl)]
      exact hK
    · refine ref7 _ ?_
      rw [r8, if_neg i2, if_neg i2, k2, zi_at, if_pos rfl, if_pos rfl]
      exact hK
  obtain ⟨F8, eF8⟩ : ∃ F8, F8 = zuI (zuI F7 71 3 (nI (zVl b n (j + 1 + 1 + 1 + 1 + 1)))) 70 3 (nI (j + 1 + 1 + 1 + 1 + 1 + 1)) := ⟨_, rfl⟩
  rw [← eF8] at c8 j8
  obtain ⟨R9, eR9⟩ : ∃ R9, R9 = zuI R8 195 (48 + 3 * k + 2) (nI (zVl b n (j + 1 + 1 + 1 + 1 + 1))) := ⟨_, rfl⟩
  have j9 : zJ f r b n N F8 R9 (j + 1 + 1 + 1 + 1 + 1 + 1) := zJ_R j8 (by rw [eR9, zi_ne (by omega)]) (by rw [eR9, zi_ne (by omega)]) (by rw [eR9, zi_ne (by omega)]) (by rw [eR9]; exact zFb_r j8.2.2.2.2.2.2.2.2 (by omega))
  -- the mark at its end
  rcases mk_j (X := X) (d := d + 2) (e := e + 1) (g := g) (gr := gr) (c := 59) (by decide) j9 with ⟨Ra, -, ca, ra, fka, ja⟩ | ⟨-, F', R', ca, ra, er⟩
  case inr =>
    refine Or.inr ⟨F', R', fun K hK => hcl K ?_, fun K hK => hrf K ?_, er⟩
    · rw [show (140 : Int32) = nI (128 + 12) from rfl, c7, if_neg (by decide), show (3 : Int32) = nI 3 from rfl, c8, if_neg (by decide), show (59 : Int32) = nI 59 from rfl, ca, if_pos rfl, if_pos (Or.inl rfl)]
      exact hK
    · refine ref7 _ ?_
      rw [r8, if_neg i2, if_neg i2, k2, zi_at, if_pos rfl, if_neg (hne _ v8), ← eR9, show (59 : Int32) = nI 59 from rfl, ra]
      exact hK
  obtain ⟨Fa, eFa⟩ : ∃ Fa, Fa = zuI F8 70 3 (nI (j + 1 + 1 + 1 + 1 + 1 + 1 + 1)) := ⟨_, rfl⟩
  rw [← eFa] at ca ja
  have hFi : ∀ i, ¬ i = 70 → ¬ i = 71 → Fa i = F i := fun i x y => by rw [eFa, zi_ne x, eF8, zi_ne x, zi_ne y, eF7, zi_ne x, eF5, zi_ne x, zi_ne y, eF4, zi_ne x, eF2, zi_ne x, zi_ne y, eF1, zi_ne x]
  have l0 : Fa 71 0 = nI (zVl b n (j + 1)) := by rw [eFa, zi_ne (by omega), eF8, zi_ne (by omega), zi_at, if_neg (by omega), eF7, zi_ne (by omega), eF5, zi_ne (by omega), zi_at, if_neg (by omega), eF4, zi_ne (by omega), eF2, zi_ne (by omega), zi_at, if_pos rfl]
  have l2 : Fa 71 2 = nI (zVl b n (j + 1 + 1 + 1)) := by rw [eFa, zi_ne (by omega), eF8, zi_ne (by omega), zi_at, if_neg (by omega), eF7, zi_ne (by omega), eF5, zi_ne (by omega), zi_at, if_pos rfl]
  have l3 : Fa 71 3 = nI (zVl b n (j + 1 + 1 + 1 + 1 + 1)) := by rw [eFa, zi_ne (by omega), eF8, zi_ne (by omega), zi_at, if_pos rfl]
  have hRi : ∀ x, ¬ x = 48 + 3 * k → ¬ x = 48 + 3 * k + 1 → ¬ x = 48 + 3 * k + 2 → Ra 195 x = R 195 x := fun x y0 y1 y2 => by
    rw [fka.1 195 (by omega), eR9, zi_at, if_neg y2, fk8.1 195 (by omega), fk7.1 195 (by omega), eR6, zi_at, if_neg y1, fk5.1 195 (by omega), fk4.1 195 (by omega), eR3, zi_at, if_neg y0, fk2.1 195 (by omega), fk1.1 195 (by omega)]
  have m0 : Ra 195 (48 + 3 * k) = nI (zVl b n (j + 1)) := by rw [fka.1 195 (by omega), eR9, zi_at, if_neg (by omega), fk8.1 195 (by omega), fk7.1 195 (by omega), eR6, zi_at, if_neg (by omega), fk5.1 195 (by omega), fk4.1 195 (by omega), eR3, zi_at, if_pos rfl]
  have m1 : Ra 195 (48 + 3 * k + 1) = nI (zVl b n (j + 1 + 1 + 1)) := by rw [fka.1 195 (by omega), eR9, zi_at, if_neg (by omega), fk8.1 195 (by omega), fk7.1 195 (by omega), eR6, zi_at, if_pos rfl]
  have m2 : Ra 195 (48 + 3 * k + 2) = nI (zVl b n (j + 1 + 1 + 1 + 1 + 1)) := by rw [fka.1 195 (by omega), eR9, zi_at, if_pos rfl]
  have h79 : Fa 79 1 = nI k := by rw [hFi 79 (by omega) (by omega)]; exact s1
  refine Or.inl ⟨zuI (zrI Fa 80 (va_cpy (Fa 71) (Fa 80) 0 (5 * k) 5)) 79 1 (nI (k + 1)), Ra, _, fun K hK => hcl K ?_, fun K hK => hrf K ?_, zJ_F ja (by rw [zi_ne (by omega), zr_ne (by omega)]) (fun i hi => by rw [zi_ne (by omega), zr_ne (by omega)]), by omega, by rw [zi_at, if_pos rfl], by omega, fun i hi => ?_⟩
  · rw [show (140 : Int32) = nI (128 + 12) from rfl, c7, if_neg (by decide), show (3 : Int32) = nI 3 from rfl, c8, if_neg (by decide), show (59 : Int32) = nI 59 from rfl, ca, if_neg (by decide), q74 h79 hk16, if_neg (by decide), if_pos (Or.inr rfl)]
    exact hK
  · refine ref7 _ ?_
    rw [r8, if_neg i2, if_neg i2, k2, zi_at, if_pos rfl, if_neg (hne _ v8), ← eR9, show (59 : Int32) = nI 59 from rfl, ra]
    exact hK
  · rw [zi_ne (by omega), zr_at, zcp5, zcp5, zcp5]
    by_cases ei : i = k
    · subst ei
      rw [if_pos (by omega), if_pos (by omega), if_pos (by omega), Nat.sub_self, show 5 * i + 2 - 5 * i = 2 by omega, show 5 * i + 3 - 5 * i = 3 by omega, l0, l2, l3, m0, m1, m2]
      rw [nI_ti (by omega)] at v8' ⊢
      have e11 : (11 : Int32).toInt = 11 := rfl
      exact ⟨rfl, rfl, rfl, by omega, by omega⟩
    · rw [if_neg (by omega), if_neg (by omega), if_neg (by omega), hFi 80 (by omega) (by omega), hRi (48 + 3 * i) (by omega) (by omega) (by omega), hRi (48 + 3 * i + 1) (by omega) (by omega) (by omega), hRi (48 + 3 * i + 2) (by omega) (by omega) (by omega)]
      exact s3 i (by omega)
end ZSR

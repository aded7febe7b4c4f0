/-! a stage, line by line -/
theorem zJ_u {f r F R : Nat → Nat → Int32} {b : Nat → Nat} {n N j i k : Nat} {x : Int32} (h : zJ f r b n N F R j) (hi : (i = 195 ∧ 48 ≤ k) ∨ (i = 196 ∧ 64 ≤ k) ∨ (i = 197 ∧ 48 ≤ k) ∨ (188 ≤ i ∧ i ≤ 191 ∧ 32 ≤ k) ∨ (192 ≤ i ∧ i ≤ 193 ∧ 800 ≤ k) ∨ i = 194) : zJ f r b n N F (zuI R i k x) j := zJ_R h (zi_ne (by omega)) (zi_ne (by omega)) (zi_ne (by omega)) (zFb_r h.2.2.2.2.2.2.2.2 (by omega))
section ZSL
variable {X : Nat × (Nat → Int32)} {d e : Nat} {f r F R : Nat → Nat → Int32} {g gr : Nat → Nat → Int64} {b : Nat → Nat} {n N j : Nat}
/-- the mark at a line's end, and the line is laid to the others -/
theorem en_j {k : Nat} (h : zJ f r b n N F R j) (h79 : F 79 1 = nI k) (hk : k < 16) : (∃ F' S, (∀ K : Int32 → (Nat → Nat → Int32) → (Nat → Nat → Int64) → Prop, K 1 F' g → zCpi X (d + 2) 57 [.ref 70, .int 59] (zs F g) (fun v18 f16 g17 => if v18 = 0 then (if (0 : Int32) = 0 ∨ (0 : Int32) = 1 then (K 0 f16 g17) else False) else (zCpi X (d + 2) 74 [.ref 79, .ref 71] (zs f16 g17) (fun v21 f19 g20 => if v21 = 0 then (if (0 : Int32) = 0 ∨ (0 : Int32) = 1 then (K 0 f19 g20) else False) else (if (1 : Int32) = 0 ∨ (1 : Int32) = 1 then (K 1 f19 g20) else False))))) ∧ (∀ K : Int32 → (Nat → Nat → Int32) → (Nat → Nat → Int64) → Prop, zCpi X (e + 5) 187 [.ref 178, .int 59] (zs R gr) K = K 0 S gr) ∧ zFk R S ∧ zJ f r b n N F' S (j + 1) ∧ F' 79 1 = nI (k + 1) ∧ (∀ i, ¬ i = 70 → ¬ i = 79 → ¬ i = 80 → F' i = F i) ∧ ∀ x, F' 80 x = if 5 * k ≤ x ∧ x < 5 * k + 5 then F 71 (x - 5 * k) else F 80 x) ∨ (∃ F' R', (∀ K : Int32 → (Nat → Nat → Int32) → (Nat → Nat → Int64) → Prop, K 0 F' g → zCpi X (d + 2) 57 [.ref 70, .int 59] (zs F g) (fun v18 f16 g17 => if v18 = 0 then (if (0 : Int32) = 0 ∨ (0 : Int32) = 1 then (K 0 f16 g17) else False) else (zCpi X (d + 2) 74 [.ref 79, .ref 71] (zs f16 g17) (fun v21 f19 g20 => if v21 = 0 then (if (0 : Int32) = 0 ∨ (0 : Int32) = 1 then (K 0 f19 g20) else False) else (if (1 : Int32) = 0 ∨ (1 : Int32) = 1 then (K 1 f19 g20) else False))))) ∧ (∀ K : Int32 → (Nat → Nat → Int32) → (Nat → Nat → Int64) → Prop, zCpi X (e + 5) 187 [.ref 178, .int 59] (zs R gr) K = K (-1) R' gr) ∧ zEr f r F' R') := by
  rcases mk_j (X := X) (d := d) (e := e) (g := g) (gr := gr) (c := 59) (by decide) h with ⟨S, -, c1, r1, fk, j1⟩ | ⟨-, F', R', c1, r1, er⟩
  · obtain ⟨F1, eF1⟩ : ∃ F1, F1 = zuI F 70 3 (nI (j + 1)) := ⟨_, rfl⟩
    rw [← eF1] at c1 j1
    have h1 : F1 79 1 = nI k := by rw [eF1, zi_ne (by omega)]; exact h79
    refine Or.inl ⟨zuI (zrI F1 80 (va_cpy (F1 71) (F1 80) 0 (5 * k) 5)) 79 1 (nI (k + 1)), S, fun K hK => ?_, r1, fk, zJ_F j1 (by rw [zi_ne (by omega), zr_ne (by omega)]) (fun i hi => by rw [zi_ne (by omega), zr_ne (by omega)]), by rw [zi_at, if_pos rfl], fun i i1 i2 i3 => by rw [zi_ne i2, zr_ne i3, eF1, zi_ne i1], fun x => by rw [zi_ne (by omega), zr_at, zcp5, eF1, zi_ne (by omega), zi_ne (by omega)]⟩
    rw [show (59 : Int32) = nI 59 from rfl, c1, if_neg (by decide), q74 h1 hk, if_neg (by decide), if_pos (Or.inr rfl)]
    exact hK
  · refine Or.inr ⟨F', R', fun K hK => ?_, r1, er⟩
    rw [show (59 : Int32) = nI 59 from rfl, c1, if_pos rfl, if_pos (Or.inl rfl)]
    exact hK
theorem q191 {K : Int32 → (Nat → Nat → Int32) → (Nat → Nat → Int64) → Prop} (h : zRk R b n N j) : zCpi X (d + 2) 191 [.ref 178] (zs R g) K = K (if zKn b n N j = 146 then 0 else if zKn b n N j = 135 then 1 else if zKn b n N j = 147 then 2 else if zKn b n N j = 148 then 3 else -1) R g := by
  refine zCpi_eq (fun K hK => e191_178 ?_)
  rw [show (18 : Int32) = nI 18 from rfl, q182 (by omega) h]
  by_cases c1 : zKn b n N j = 146
  · rw [if_pos c1] at hK
    rw [if_neg (by rw [zb_0]; exact fun z => z c1)]
    exact hK
  · rw [if_neg c1] at hK
    rw [if_pos (by rw [zb_0]; exact c1), show (7 : Int32) = nI 7 from rfl, q182 (by omega) h]
    by_cases c2 : zKn b n N j = 135
    · rw [if_pos c2] at hK
      rw [if_neg (by rw [zb_0]; exact fun z => z c2)]
      exact hK
    · rw [if_neg c2] at hK
      rw [if_pos (by rw [zb_0]; exact c2), show (19 : Int32) = nI 19 from rfl, q182 (by omega) h]
      by_cases c3 : zKn b n N j = 147
      · rw [if_pos c3] at hK
        rw [if_neg (by rw [zb_0]; exact fun z => z c3)]
        exact hK
      · rw [if_neg c3] at hK
        rw [if_pos (by rw [zb_0]; exact c3), show (20 : Int32) = nI 20 from rfl, q182 (by omega) h]
        by_cases c4 : zKn b n N j = 148
        · rw [if_pos c4] at hK
          rw [if_neg (by rw [zb_0]; exact fun z => z c4)]
          exact hK
        · rw [if_neg c4] at hK
          rw [if_pos (by rw [zb_0]; exact c4)]
          exact hK
/-- the draft of a stage -/
def zSgl (F R : Nat → Nat → Int32) (np i : Nat) : Prop := F 80 (5 * i) = R 196 (64 + 4 * i) ∧ (∃ p : Nat, p < np ∧ F 80 (5 * i + 2) = nI p ∧ R 196 (64 + 4 * i + 2) = nI p) ∧
  ((F 80 (5 * i + 1) = 146 ∧ R 196 (64 + 4 * i + 1) = 0 ∧ ∃ x y : Nat, x < 8 ∧ y < 6 ∧ F 80 (5 * i + 3) = nI x ∧ F 80 (5 * i + 4) = nI y ∧ R 196 (64 + 4 * i + 3) = nI (8 * y + x)) ∨ (F 80 (5 * i + 1) = 135 ∧ R 196 (64 + 4 * i + 1) = 1 ∧ F 80 (5 * i + 3) = R 196 (64 + 4 * i + 3)) ∨ (F 80 (5 * i + 1) = 147 ∧ R 196 (64 + 4 * i + 1) = 2) ∨ (F 80 (5 * i + 1) = 148 ∧ R 196 (64 + 4 * i + 1) = 3))
def zSg (F R : Nat → Nat → Int32) (np k : Nat) : Prop := F 79 1 = nI k ∧ k ≤ 16 ∧ ∀ i, i < k → zSgl F R np i
theorem st_fin {k np jj : Nat} {F1 FF RR : Nat → Nat → Int32} (hs : zSg F R np k) (hk16 : k < 16) (h : zJ f r b n N FF RR jj) (hjj : j < jj)
    (hc : ∀ K : Int32 → (Nat → Nat → Int32) → (Nat → Nat → Int64) → Prop, zCpi X (d + 5) 57 [.ref 70, .int 59] (zs FF g) (fun v18 f16 g17 => if v18 = 0 then (if (0 : Int32) = 0 ∨ (0 : Int32) = 1 then (K 0 f16 g17) else False) else (zCpi X (d + 5) 74 [.ref 79, .ref 71] (zs f16 g17) (fun v21 f19 g20 => if v21 = 0 then (if (0 : Int32) = 0 ∨ (0 : Int32) = 1 then (K 0 f19 g20) else False) else (if (1 : Int32) = 0 ∨ (1 : Int32) = 1 then (K 1 f19 g20) else False)))) → zCpi X (d + 6) 62 [.ref 70] (zs F1 g) K)
    (hr : ∀ K : Int32 → (Nat → Nat → Int32) → (Nat → Nat → Int64) → Prop, zCpi X (e + 7) 187 [.ref 178, .int 59] (zs RR gr) (fun v29 f27 g28 => K v29 f27 g28) → zCpi X (e + 8) 190 [.ref 178, .int (nI (64 + 4 * k))] (zs R gr) K)
    (hF : ∀ i, ¬ i = 70 → ¬ i = 71 → FF i = F i) (hR : ∀ x, x < 64 + 4 * k → RR 196 x = R 196 x)
    (q0 : FF 71 0 = RR 196 (64 + 4 * k)) (q2 : ∃ p : Nat, p < np ∧ FF 71 2 = nI p ∧ RR 196 (64 + 4 * k + 2) = nI p)
    (q1 : (FF 71 1 = 146 ∧ RR 196 (64 + 4 * k + 1) = 0 ∧ ∃ x y : Nat, x < 8 ∧ y < 6 ∧ FF 71 3 = nI x ∧ FF 71 4 = nI y ∧ RR 196 (64 + 4 * k + 3) = nI (8 * y + x)) ∨ (FF 71 1 = 135 ∧ RR 196 (64 + 4 * k + 1) = 1 ∧ FF 71 3 = RR 196 (64 + 4 * k + 3)) ∨ (FF 71 1 = 147 ∧ RR 196 (64 + 4 * k + 1) = 2) ∨ (FF 71 1 = 148 ∧ RR 196 (64 + 4 * k + 1) = 3)) :
    (∃ F' R' j', (∀ K : Int32 → (Nat → Nat → Int32) → (Nat → Nat → Int64) → Prop, K 1 F' g → zCpi X (d + 6) 62 [.ref 70] (zs F1 g) K) ∧ (∀ K : Int32 → (Nat → Nat → Int32) → (Nat → Nat → Int64) → Prop, K 0 R' gr → zCpi X (e + 8) 190 [.ref 178, .int (nI (64 + 4 * k))] (zs R gr) K) ∧ zJ f r b n N F' R' j' ∧ j < j' ∧ zSg F' R' np (k + 1)) ∨ (∃ F' R', (∀ K : Int32 → (Nat → Nat → Int32) → (Nat → Nat → Int64) → Prop, K 0 F' g → zCpi X (d + 6) 62 [.ref 70] (zs F1 g) K) ∧ (∀ K : Int32 → (Nat → Nat → Int32) → (Nat → Nat → Int64) → Prop, K (-1) R' gr → zCpi X (e + 8) 190 [.ref 178, .int (nI (64 + 4 * k))] (zs R gr) K) ∧ zEr f r F' R') := by
  obtain ⟨s1, s2, s3⟩ := hs
  rcases en_j (X := X) (d := d + 3) (e := e + 2) (g := g) (gr := gr) (k := k) h (by rw [hF 79 (by omega) (by omega)]; exact s1) hk16 with ⟨F', S, c1, r1, fk, j1, z1, z2, z3⟩ | ⟨F', R', c1, r1, er⟩
  · refine Or.inl ⟨F', S, jj + 1, fun K hK => hc K (c1 K hK), fun K hK => hr K (by rw [r1]; exact hK), j1, by omega, z1, by omega, fun i hi => ?_⟩
    unfold zSgl
    rw [fk.1 196 (by omega), z3, z3, z3, z3, z3]
    by_cases ei : i = k
    · subst ei
      rw [if_pos (by omega), if_pos (by omega), if_pos (by omega), if_pos (by omega), if_pos (by omega), Nat.sub_self, show 5 * i + 1 - 5 * i = 1 by omega, show 5 * i + 2 - 5 * i = 2 by omega, show 5 * i + 3 - 5 * i = 3 by omega, show 5 * i + 4 - 5 * i = 4 by omega]
      exact ⟨q0, q2, q1⟩
    · rw [if_neg (by omega), if_neg (by omega), if_neg (by omega), if_neg (by omega), if_neg (by omega), hF 80 (by omega) (by omega), hR (64 + 4 * i) (by omega), hR (64 + 4 * i + 1) (by omega), hR (64 + 4 * i + 2) (by omega), hR (64 + 4 * i + 3) (by omega)]
      exact s3 i (by omega)
  · exact Or.inr ⟨F', R', fun K hK => hc K (c1 K hK), fun K hK => hr K (by rw [r1]; exact hK), er⟩
theorem st_line {k np : Nat} (hnp : np ≤ 12) (hf8 : f 2 8 = nI np) (hr7 : r 178 7 = nI np) (h : zJ f r b n N F R j) (hk : zKn b n N j = 144) (hs : zSg F R np k) (hk16 : k < 16) :
    (∃ F' R' j', (∀ K : Int32 → (Nat → Nat → Int32) → (Nat → Nat → Int64) → Prop, K 1 F' g → zCpi X (d + 6) 62 [.ref 70] (zs (zuI F 70 3 (nI (j + 1))) g) K) ∧ (∀ K : Int32 → (Nat → Nat → Int32) → (Nat → Nat → Int64) → Prop, K 0 R' gr → zCpi X (e + 8) 190 [.ref 178, .int (nI (64 + 4 * k))] (zs R gr) K) ∧ zJ f r b n N F' R' j' ∧ j < j' ∧ zSg F' R' np (k + 1)) ∨ (∃ F' R', (∀ K : Int32 → (Nat → Nat → Int32) → (Nat → Nat → Int64) → Prop, K 0 F' g → zCpi X (d + 6) 62 [.ref 70] (zs (zuI F 70 3 (nI (j + 1))) g) K) ∧ (∀ K : Int32 → (Nat → Nat → Int32) → (Nat → Nat → Int64) → Prop, K (-1) R' gr → zCpi X (e + 8) 190 [.ref 178, .int (nI (64 + 4 * k))] (zs R gr) K) ∧ zEr f r F' R') := by
  have hne : ∀ v : Nat, v ≤ 9999 → ¬ nI v = (-1 : Int32) := fun v hv => nI_nem (by omega)
  have i0 := nI_in (c := 64 + 4 * k) (N := 128) (by omega) (by omega)
  have k0 := nI_cl (k := 64 + 4 * k) (by omega)
  have a1 : nI (64 + 4 * k) + (1 : Int32) = nI (64 + 4 * k + 1) := nI_1 _
  have a2 : nI (64 + 4 * k) + (2 : Int32) = nI (64 + 4 * k + 2) := nI_add _ 2
  have a3 : nI (64 + 4 * k) + (3 : Int32) = nI (64 + 4 * k + 3) := nI_add _ 3
  have i1 := nI_in (c := 64 + 4 * k + 1) (N := 128) (by omega) (by omega)
  have k1 := nI_cl (k := 64 + 4 * k + 1) (by omega)
  have i2 := nI_in (c := 64 + 4 * k + 2) (N := 128) (by omega) (by omega)
  have k2 := nI_cl (k := 64 + 4 * k + 2) (by omega)
  have i3 := nI_in (c := 64 + 4 * k + 3) (N := 128) (by omega) (by omega)
  have k3 := nI_cl (k := 64 + 4 * k + 3) (by omega)
  have z15 : ¬ ((1 : Int32) < 0 ∨ 5 ≤ (1 : Int32).toNatClampNeg) := by decide
  obtain ⟨s1, s2, s3⟩ := hs
  obtain ⟨F1, eF1⟩ : ∃ F1, F1 = zuI F 70 3 (nI (j + 1)) := ⟨_, rfl⟩
  rw [← eF1]
  rcases wd_j (X := X) (d := d) (e := e + 2) (g := g) (gr := gr) (w := 16) (lo := 0) (hi := 999) (by omega) h with ⟨R1, -, -, ref1, fk1, j1⟩ | ⟨z, -⟩
  case inr => exact absurd hk z
  rw [← eF1] at j1
  rcases nm_j (X := X) (d := d + 3) (e := e + 1) (g := g) (gr := gr) (k := 0) (hi := 999) (by omega) j1 with ⟨R2, c2, r2, v2, -, fk2, j2⟩ | ⟨F', R', c2, r2, er⟩
  case inr =>
    have c2 : ∀ K : Int32 → (Nat → Nat → Int32) → (Nat → Nat → Int64) → Prop, zCpi X (d + 5) 60 [.ref 70, .int 0, .int 999] (zs F1 g) K = K 0 F' g := c2
    refine Or.inr ⟨F', zuI R' 196 (64 + 4 * k) (-1), fun K hK => e62_70 ?_, fun K hK => e190_178 ?_, zEr_R er (by omega)⟩
    · rw [c2, if_pos rfl, if_pos (Or.inl rfl)]
      exact hK
    · refine ref1 _ ?_
      rw [r2, if_neg i0, if_neg i0, k0, zi_at, if_pos rfl, if_pos rfl]
      exact hK
  obtain ⟨F2, eF2⟩ : ∃ F2, F2 = zuI (zuI F1 71 0 (nI (zVl b n (j + 1)))) 70 3 (nI (j + 1 + 1)) := ⟨_, rfl⟩
  rw [← eF2] at c2 j2
  have c2 : ∀ K : Int32 → (Nat → Nat → Int32) → (Nat → Nat → Int64) → Prop, zCpi X (d + 5) 60 [.ref 70, .int 0, .int 999] (zs F1 g) K = K 1 F2 g := c2
  obtain ⟨R3, eR3⟩ : ∃ R3, R3 = zuI R2 196 (64 + 4 * k) (nI (zVl b n (j + 1))) := ⟨_, rfl⟩
  have j3 : zJ f r b n N F2 R3 (j + 1 + 1) := by rw [eR3]; exact zJ_u j2 (by omega)
  obtain ⟨x1, x2, x3, x4, x5, x6, x7, x8, x9⟩ := id j3
  have kl := zKn_le (b := b) (n := n) (N := N) (j := j + 1 + 1)
  -- which kind
  have hkind : ∀ (kd w : Nat) (q : Int32), kd = 128 + w → w < 22 → zKn b n N (j + 1 + 1) = kd → (q = 0 ∨ q = 1 ∨ q = 2 ∨ q = 3) → (if zKn b n N (j + 1 + 1) = 146 then (0 : Int32) else if zKn b n N (j + 1 + 1) = 135 then 1 else if zKn b n N (j + 1 + 1) = 147 then 2 else if zKn b n N (j + 1 + 1) = 148 then 3 else -1) = q →
      (∃ F5 R6, (∀ K : Int32 → (Nat → Nat → Int32) → (Nat → Nat → Int64) → Prop, zCpi X (d + 5) 61 [.ref 70] (zs (zuI (zuI F2 71 1 (nI kd)) 70 3 (nI (j + 1 + 1) + 1)) g) K = K 1 F5 g) ∧ (∀ K : Int32 → (Nat → Nat → Int32) → (Nat → Nat → Int64) → Prop, (if q = 0 then (zCpi X (e + 7) 192 [.ref 178] (zs R6 gr) (fun v17 f15 g16 => if nI (64 + 4 * k + 3) < 0 ∨ 128 ≤ (nI (64 + 4 * k + 3)).toNatClampNeg then False else (if nI (64 + 4 * k + 3) < 0 ∨ 128 ≤ (nI (64 + 4 * k + 3)).toNatClampNeg then False else (if ((zuI f15 196 ((nI (64 + 4 * k + 3)).toNatClampNeg) v17) 196 ((nI (64 + 4 * k + 3)).toNatClampNeg)) = -1 then (K (-1) (zuI f15 196 ((nI (64 + 4 * k + 3)).toNatClampNeg) v17) g16) else (zCpi X (e + 7) 187 [.ref 178, .int 59] (zs (zuI f15 196 ((nI (64 + 4 * k + 3)).toNatClampNeg) v17) g16) (fun v20 f18 g19 => K v20 f18 g19)))))) else (if q = 1 then (zCpi X (e + 7) 186 [.ref 178, .int 1, .int 9] (zs R6 gr) (fun v23 f21 g22 => if nI (64 + 4 * k + 3) < 0 ∨ 128 ≤ (nI (64 + 4 * k + 3)).toNatClampNeg then False else (if nI (64 + 4 * k + 3) < 0 ∨ 128 ≤ (nI (64 + 4 * k + 3)).toNatClampNeg then False else (if ((zuI f21 196 ((nI (64 + 4 * k + 3)).toNatClampNeg) v23) 196 ((nI (64 + 4 * k + 3)).toNatClampNeg)) = -1 then (K (-1) (zuI f21 196 ((nI (64 + 4 * k + 3)).toNatClampNeg) v23) g22) else (zCpi X (e + 7) 187 [.ref 178, .int 59] (zs (zuI f21 196 ((nI (64 + 4 * k + 3)).toNatClampNeg) v23) g22) (fun v26 f24 g25 => K v26 f24 g25)))))) else (if nI (64 + 4 * k + 3) < 0 ∨ 128 ≤ (nI (64 + 4 * k + 3)).toNatClampNeg then False else (if nI (64 + 4 * k + 3) < 0 ∨ 128 ≤ (nI (64 + 4 * k + 3)).toNatClampNeg then False else (if ((zuI R6 196 ((nI (64 + 4 * k + 3)).toNatClampNeg) 0) 196 ((nI (64 + 4 * k + 3)).toNatClampNeg)) = -1 then (K (-1) (zuI R6 196 ((nI (64 + 4 * k + 3)).toNatClampNeg) 0) gr) else (zCpi X (e + 7) 187 [.ref 178, .int 59] (zs (zuI R6 196 ((nI (64 + 4 * k + 3)).toNatClampNeg) 0) gr) (fun v29 f27 g28 => K v29 f27 g28))))))) → zCpi X (e + 8) 190 [.ref 178, .int (nI (64 + 4 * k))] (zs R gr) K) ∧ zJ f r b n N F5 R6 (j + 1 + 1 + 1 + 1) ∧ F5 71 0 = nI (zVl b n (j + 1)) ∧ F5 71 1 = nI kd ∧ (∃ p : Nat, p < np ∧ F5 71 2 = nI p ∧ R6 196 (64 + 4 * k + 2) = nI p) ∧ R6 196 (64 + 4 * k) = nI (zVl b n (j + 1)) ∧ R6 196 (64 + 4 * k + 1) = q ∧ (∀ i, ¬ i = 70 → ¬ i = 71 → F5 i = F i) ∧ (∀ x, ¬ x = 64 + 4 * k → ¬ x = 64 + 4 * k + 1 → ¬ x = 64 + 4 * k + 2 → R6 196 x = R 196 x)) ∨ (∃ F' R', (∀ K : Int32 → (Nat → Nat → Int32) → (Nat → Nat → Int64) → Prop, zCpi X (d + 5) 61 [.ref 70] (zs (zuI (zuI F2 71 1 (nI kd)) 70 3 (nI (j + 1 + 1) + 1)) g) K = K 0 F' g) ∧ (∀ K : Int32 → (Nat → Nat → Int32) → (Nat → Nat → Int64) → Prop, K (-1) R' gr → zCpi X (e + 8) 190 [.ref 178, .int (nI (64 + 4 * k))] (zs R gr) K) ∧ zEr f r F' R') := by
    intro kd w q hkd hw hkn hq hqv
    have hjN := zKn_lt (k := kd) (by omega) hkn
    obtain ⟨S3, t1, t2, t3⟩ := zJ_rd (X := X) (d := e + 3) (g := gr) j3 hjN
    obtain ⟨F3, eF3⟩ : ∃ F3, F3 = zuI (zuI F2 71 1 (nI kd)) 70 3 (nI (j + 1 + 1 + 1)) := ⟨_, rfl⟩
    have j4 : zJ f r b n N F3 S3 (j + 1 + 1 + 1) := zJ_go j3 hjN t1 t2 (fun i hi hi2 => by rw [eF3, zi_ne hi, zi_ne (by omega)]) (by rw [eF3, zi_at, if_pos rfl]) (fun k hk => by rw [eF3, zi_at, if_neg hk, zi_ne (by omega)])
    obtain ⟨R4, eR4⟩ : ∃ R4, R4 = zuI S3 196 (64 + 4 * k + 1) q := ⟨_, rfl⟩
    have j5 : zJ f r b n N F3 R4 (j + 1 + 1 + 1) := by rw [eR4]; exact zJ_u j4 (by omega)
    have hF38 : F3 2 8 = nI np := by rw [j5.2.2.2.2.2.2.2.1.1 2 (by omega)]; exact hf8
    have hS37 : S3 178 7 = nI np := by rw [j4.2.2.2.2.2.2.2.2.2.1 7 (by omega)]; exact hr7
    have hqm : ¬ q = -1 := by rcases hq with rfl | rfl | rfl | rfl <;> decide
    have hpre : ∀ K : Int32 → (Nat → Nat → Int32) → (Nat → Nat → Int64) → Prop, zCpi X (e + 7) 186 [.ref 178, .int 0, .int (zsO.1 (nI np) 1)] (zs R4 gr) (fun v14 f12 g13 => if nI (64 + 4 * k + 2) < 0 ∨ 128 ≤ (nI (64 + 4 * k + 2)).toNatClampNeg then False else (if nI (64 + 4 * k + 2) < 0 ∨ 128 ≤ (nI (64 + 4 * k + 2)).toNatClampNeg then False else (if ((zuI f12 196 ((nI (64 + 4 * k + 2)).toNatClampNeg) v14) 196 ((nI (64 + 4 * k + 2)).toNatClampNeg)) = -1 then (K (-1) (zuI f12 196 ((nI (64 + 4 * k + 2)).toNatClampNeg) v14) g13) else (if q = 0 then (zCpi X (e + 7) 192 [.ref 178] (zs (zuI f12 196 ((nI (64 + 4 * k + 2)).toNatClampNeg) v14) g13) (fun v17 f15 g16 => if nI (64 + 4 * k + 3) < 0 ∨ 128 ≤ (nI (64 + 4 * k + 3)).toNatClampNeg then False else (if nI (64 + 4 * k + 3) < 0 ∨ 128 ≤ (nI (64 + 4 * k + 3)).toNatClampNeg then False else (if ((zuI f15 196 ((nI (64 + 4 * k + 3)).toNatClampNeg) v17) 196 ((nI (64 + 4 * k + 3)).toNatClampNeg)) = -1 then (K (-1) (zuI f15 196 ((nI (64 + 4 * k + 3)).toNatClampNeg) v17) g16) else (zCpi X (e + 7) 187 [.ref 178, .int 59] (zs (zuI f15 196 ((nI (64 + 4 * k + 3)).toNatClampNeg) v17) g16) (fun v20 f18 g19 => K v20 f18 g19)))))) else (if q = 1 then (zCpi X (e + 7) 186 [.ref 178, .int 1, .int 9] (zs (zuI f12 196 ((nI (64 + 4 * k + 2)).toNatClampNeg) v14) g13) (fun v23 f21 g22 => if nI (64 + 4 * k + 3) < 0 ∨ 128 ≤ (nI (64 + 4 * k + 3)).toNatClampNeg then False else (if nI (64 + 4 * k + 3) < 0 ∨ 128 ≤ (nI (64 + 4 * k + 3)).toNatClampNeg then False else (if ((zuI f21 196 ((nI (64 + 4 * k + 3)).toNatClampNeg) v23) 196 ((nI (64 + 4 * k + 3)).toNatClampNeg)) = -1 then (K (-1) (zuI f21 196 ((nI (64 + 4 * k + 3)).toNatClampNeg) v23) g22) else (zCpi X (e + 7) 187 [.ref 178, .int 59] (zs (zuI f21 196 ((nI (64 + 4 * k + 3)).toNatClampNeg) v23) g22) (fun v26 f24 g25 => K v26 f24 g25)))))) else (if nI (64 + 4 * k + 3) < 0 ∨ 128 ≤ (nI (64 + 4 * k + 3)).toNatClampNeg then False else (if nI (64 + 4 * k + 3) < 0 ∨ 128 ≤ (nI (64 + 4 * k + 3)).toNatClampNeg then False else (if ((zuI (zuI f12 196 ((nI (64 + 4 * k + 2)).toNatClampNeg) v14) 196 ((nI (64 + 4 * k + 3)).toNatClampNeg) 0) 196 ((nI (64 + 4 * k + 3)).toNatClampNeg)) = -1 then (K (-1) (zuI (zuI f12 196 ((nI (64 + 4 * k + 2)).toNatClampNeg) v14) 196 ((nI (64 + 4 * k + 3)).toNatClampNeg) 0) g13) else (zCpi X (e + 7) 187 [.ref 178, .int 59] (zs (zuI (zuI f12 196 ((nI (64 + 4 * k + 2)).toNatClampNeg) v14) 196 ((nI (64 + 4 * k + 3)).toNatClampNeg) 0) g13) (fun v29 f27 g28 => K v29 f27 g28)))))))))) → zCpi X (e + 8) 190 [.ref 178, .int (nI (64 + 4 * k))] (zs R gr) K := fun K hK => by
      apply e190_178
      refine ref1 _ ?_
      rw [r2, if_neg i0, if_neg i0, k0, zi_at, if_pos rfl, if_neg (hne _ v2), ← eR3, q191 x7, hqv, if_neg hqm, t3, a1, if_neg i1, k1, ← eR4, hS37, a2, a3]
      exact hK
    have h61 : zuI (zuI F2 71 1 (nI kd)) 70 3 (nI (j + 1 + 1) + 1) = F3 := by rw [eF3, nI_1]
    rcases nm_j (X := X) (d := d + 2) (e := e + 2) (g := g) (gr := gr) (k := 2) (hi := zsO.1 (nI np) 1) (by omega) j5 with ⟨R5, c5, r5, v5, v5', fk5, j6⟩ | ⟨F', R', c5, r5, er⟩
    · obtain ⟨F5, eF5⟩ : ∃ F5, F5 = zuI (zuI F3 71 2 (nI (zVl b n (j + 1 + 1 + 1)))) 70 3 (nI (j + 1 + 1 + 1 + 1)) := ⟨_, rfl⟩
      rw [← eF5] at c5 j6
      obtain ⟨R6, eR6⟩ : ∃ R6, R6 = zuI R5 196 (64 + 4 * k + 2) (nI (zVl b n (j + 1 + 1 + 1))) := ⟨_, rfl⟩
      have hvp : zVl b n (j + 1 + 1 + 1) < np := by
        rw [zsO.2, nI_ti (by omega), nI_st (by omega)] at v5'
        omega
      refine Or.inl ⟨F5, R6, fun K => zCpi_eq (fun K hK => e61_70 ?_), fun K hK => hpre K ?_, by rw [eR6]; exact zJ_u j6 (by omega), ?_, ?_, ⟨_, hvp, ?_, ?_⟩, ?_, ?_, fun i y1 y2 => ?_, fun x y0 y1 y2 => ?_⟩
      · rw [h61, hF38, show (2 : Int32) = nI 2 from rfl, c5, if_pos (Or.inr rfl)]
        exact hK
      · rw [r5, if_neg i2, if_neg i2, k2, zi_at, if_pos rfl, if_neg (hne _ v5), ← eR6]
        exact hK
      · rw [eF5, zi_ne (by omega), zi_at, if_neg (by omega), eF3, zi_ne (by omega), zi_at, if_neg (by omega), eF2, zi_ne (by omega), zi_at, if_pos rfl]
      · rw [eF5, zi_ne (by omega), zi_at, if_neg (by omega), eF3, zi_ne (by omega), zi_at, if_pos rfl]
      · rw [eF5, zi_ne (by omega), zi_at, if_pos rfl]
      · rw [eR6, zi_at, if_pos rfl]
      · rw [eR6, zi_at, if_neg (by omega), fk5.1 196 (by omega), eR4, zi_at, if_neg (by omega), t1.1 196 (by omega), eR3, zi_at, if_pos rfl]
      · rw [eR6, zi_at, if_neg (by omega), fk5.1 196 (by omega), eR4, zi_at, if_pos rfl]
      · rw [eF5, zi_ne y1, zi_ne y2, eF3, zi_ne y1, zi_ne y2, eF2, zi_ne y1, zi_ne y2, eF1, zi_ne y1]
      · rw [eR6, zi_at, if_neg y2, fk5.1 196 (by omega), eR4, zi_at, if_neg y1, t1.1 196 (by omega), eR3, zi_at, if_neg y0, fk2.1 196 (by omega), fk1.1 196 (by omega)]
    · refine Or.inr ⟨F', zuI R' 196 (64 + 4 * k + 2) (-1), fun K => zCpi_eq (fun K hK => e61_70 ?_), fun K hK => hpre K ?_, zEr_R er (by omega)⟩
      · rw [h61, hF38, show (2 : Int32) = nI 2 from rfl, c5, if_pos (Or.inl rfl)]
        exact hK
      · rw [r5, if_neg i2, if_neg i2, k2, zi_at, if_pos rfl, if_pos rfl]
        exact hK
  have hneq : ∀ {a : Nat}, a ≤ 200 → ¬ zKn b n N (j + 1 + 1) = a → ¬ nI (zKn b n N (j + 1 + 1)) = nI a := fun ha hna => nI_neq (by omega) (by omega) hna
  by_cases k146 : zKn b n N (j + 1 + 1) = 146
  · rcases hkind 146 18 0 rfl (by omega) k146 (Or.inl rfl) (if_pos k146) with ⟨F5, R6, c6, r6, j6, p0, p1, p2, p3, p4, p5, p6⟩ | ⟨F', R', c6, r6, er⟩
    case inr =>
      refine Or.inr ⟨F', R', fun K hK => e62_70 ?_, r6, er⟩
      rw [c2, if_neg (by decide), x4, q85 x1 x5, k146, if_pos (show nI 146 = (146 : Int32) from rfl), if_neg z15, x4, c6, if_pos rfl, if_pos (Or.inl rfl)]
      exact hK
    rcases nm_j (X := X) (d := d + 3) (e := e + 1) (g := g) (gr := gr) (k := 3) (hi := 7) (by omega) j6 with ⟨R7, c7, r7, v7, v7', fk7, j7⟩ | ⟨F', R', c7, r7, er⟩
    case inr =>
      refine Or.inr ⟨F', zuI R' 196 (64 + 4 * k + 3) (-1), fun K hK => e62_70 ?_, fun K hK => r6 K ?_, zEr_R er (by omega)⟩
      · rw [c2, if_neg (by decide), x4, q85 x1 x5, k146, if_pos (show nI 146 = (146 : Int32) from rfl), if_neg z15, x4, c6, if_neg (by decide), if_pos (show nI 146 = (146 : Int32) from rfl), show (3 : Int32) = nI 3 from rfl, c7, if_pos rfl, if_pos (Or.inl rfl)]
        exact hK
      · rw [if_pos rfl]
        apply e192_178
        rw [r7, if_pos rfl, if_neg i3, if_neg i3, k3, zi_at, if_pos rfl, if_pos rfl]
        exact hK
    obtain ⟨F7, eF7⟩ : ∃ F7, F7 = zuI (zuI F5 71 3 (nI (zVl b n (j + 1 + 1 + 1 + 1)))) 70 3 (nI (j + 1 + 1 + 1 + 1 + 1)) := ⟨_, rfl⟩
    rw [← eF7] at c7 j7
    rcases nm_j (X := X) (d := d + 3) (e := e + 1) (g := g) (gr := gr) (k := 4) (hi := 5) (by omega) j7 with ⟨R8, c8, r8, v8, v8', fk8, j8⟩ | ⟨F', R', c8, r8, er⟩
    case inr =>
      refine Or.inr ⟨F', zuI R' 196 (64 + 4 * k + 3) (-1), fun K hK => e62_70 ?_, fun K hK => r6 K ?_, zEr_R er (by omega)⟩
      · rw [c2, if_neg (by decide), x4, q85 x1 x5, k146, if_pos (show nI 146 = (146 : Int32) from rfl), if_neg z15, x4, c6, if_neg (by decide), if_pos (show nI 146 = (146 : Int32) from rfl), show (3 : Int32) = nI 3 from rfl, c7, if_neg (by decide), show (4 : Int32) = nI 4 from rfl, c8, if_pos rfl, if_pos (Or.inl rfl)]
        exact hK
      · rw [if_pos rfl]
        apply e192_178
        rw [r7, if_neg (hne _ v7), r8, if_pos rfl, if_neg i3, if_neg i3, k3, zi_at, if_pos rfl, if_pos rfl]
        exact hK
    obtain ⟨F8, eF8⟩ : ∃ F8, F8 = zuI (zuI F7 71 4 (nI (zVl b n (j + 1 + 1 + 1 + 1 + 1)))) 70 3 (nI (j + 1 + 1 + 1 + 1 + 1 + 1)) := ⟨_, rfl⟩
    rw [← eF8] at c8 j8
    have e7 : (7 : Int32).toInt = 7 := rfl
    have e5 : (5 : Int32).toInt = 5 := rfl
    rw [nI_ti (by omega), e7] at v7'
    rw [nI_ti (by omega), e5] at v8'
    have hsq : zmO.1 8 (nI (zVl b n (j + 1 + 1 + 1 + 1 + 1))) + nI (zVl b n (j + 1 + 1 + 1 + 1)) = nI (8 * zVl b n (j + 1 + 1 + 1 + 1 + 1) + zVl b n (j + 1 + 1 + 1 + 1)) := by
      rw [zmO.2, show (8 : Int32) = nI 8 from rfl, pk_mul, nI_add]
    refine st_fin ⟨s1, s2, s3⟩ hk16 (zJ_u (i := 196) (k := 64 + 4 * k + 3) (x := nI (8 * zVl b n (j + 1 + 1 + 1 + 1 + 1) + zVl b n (j + 1 + 1 + 1 + 1))) j8 (by omega)) (by omega) (fun K hK => e62_70 ?_) (fun K hK => r6 K ?_) (fun i y1 y2 => ?_) (fun x hx => ?_) ?_ ?_ (Or.inl ⟨?_, ?_, zVl b n (j + 1 + 1 + 1 + 1), zVl b n (j + 1 + 1 + 1 + 1 + 1), by omega, by omega, ?_, ?_, ?_⟩)
    · rw [c2, if_neg (by decide), x4, q85 x1 x5, k146, if_pos (show nI 146 = (146 : Int32) from rfl), if_neg z15, x4, c6, if_neg (by decide), if_pos (show nI 146 = (146 : Int32) from rfl), show (3 : Int32) = nI 3 from rfl, c7, if_neg (by decide), show (4 : Int32) = nI 4 from rfl, c8, if_neg (by decide), if_neg (show ¬ nI 146 = (135 : Int32) by decide)]
      exact hK
    · rw [if_pos rfl]
      apply e192_178
      rw [r7, if_neg (hne _ v7), r8, if_neg (hne _ v8), hsq, if_neg i3, if_neg i3, k3, zi_at, if_pos rfl, if_neg (hne _ (by omega))]
      exact hK
    · rw [eF8, zi_ne y1, zi_ne y2, eF7, zi_ne y1, zi_ne y2]
      exact p5 i y1 y2
    · rw [zi_at, if_neg (by omega), fk8.1 196 (by omega), fk7.1 196 (by omega)]
      exact p6 x (by omega) (by omega) (by omega)
    · rw [zi_at, if_neg (by omega), fk8.1 196 (by omega), fk7.1 196 (by omega), p3, eF8, zi_ne (by omega), zi_at, if_neg (by omega), eF7, zi_ne (by omega), zi_at, if_neg (by omega), p0]
    · rw [zi_at, if_neg (by omega), fk8.1 196 (by omega), fk7.1 196 (by omega), eF8, zi_ne (by omega), zi_at, if_neg (by omega), eF7, zi_ne (by omega), zi_at, if_neg (by omega)]
      exact p2
    · rw [eF8, zi_ne (by omega), zi_at, if_neg (by omega), eF7, zi_ne (by omega), zi_at, if_neg (by omega), p1]
      rfl
    · rw [zi_at, if_neg (by omega), fk8.1 196 (by omega), fk7.1 196 (by omega), p4]
    · rw [eF8, zi_ne (by omega), zi_at, if_neg (by omega), eF7, zi_ne (by omega), zi_at, if_pos rfl]
    · rw [eF8, zi_ne (by omega), zi_at, if_pos rfl]
    · rw [zi_at, if_pos rfl]
  · by_cases k135 : zKn b n N (j + 1 + 1) = 135
    · rcases hkind 135 7 1 rfl (by omega) k135 (Or.inr (Or.inl rfl)) (by rw [if_neg k146, if_pos k135]) with ⟨F5, R6, c6, r6, j6, p0, p1, p2, p3, p4, p5, p6⟩ | ⟨F', R', c6, r6, er⟩
      case inr =>
        refine Or.inr ⟨F', R', fun K hK => e62_70 ?_, r6, er⟩
        rw [c2, if_neg (by decide), x4, q85 x1 x5, k135, if_neg (show ¬ nI 135 = (146 : Int32) by decide), if_pos (show nI 135 = (135 : Int32) from rfl), if_neg z15, x4, c6, if_pos rfl, if_pos (Or.inl rfl)]
        exact hK
      rcases ld_j (X := X) (d := d + 1) (e := e + 2) (g := g) (gr := gr) j6 with ⟨R7, c7, r7, v7, v7', fk7, j7⟩ | ⟨F', R', c7, r7, er⟩
      case inr =>
        refine Or.inr ⟨F', zuI R' 196 (64 + 4 * k + 3) (-1), fun K hK => e62_70 ?_, fun K hK => r6 K ?_, zEr_R er (by omega)⟩
        · rw [c2, if_neg (by decide), x4, q85 x1 x5, k135, if_neg (show ¬ nI 135 = (146 : Int32) by decide), if_pos (show nI 135 = (135 : Int32) from rfl), if_neg z15, x4, c6, if_neg (by decide), if_neg (show ¬ nI 135 = (146 : Int32) by decide), if_pos (show nI 135 = (135 : Int32) from rfl), c7, if_pos rfl, if_pos (Or.inl rfl)]
          exact hK
        · rw [if_neg (show ¬ (1 : Int32) = 0 by decide), if_pos rfl, r7, if_neg i3, if_neg i3, k3, zi_at, if_pos rfl, if_pos rfl]
          exact hK
      obtain ⟨F7, eF7⟩ : ∃ F7, F7 = zuI (zuI F5 71 3 (nI (zVl b n (j + 1 + 1 + 1 + 1)))) 70 3 (nI (j + 1 + 1 + 1 + 1 + 1)) := ⟨_, rfl⟩
      rw [← eF7] at c7 j7
      refine st_fin ⟨s1, s2, s3⟩ hk16 (zJ_u (i := 196) (k := 64 + 4 * k + 3) (x := nI (zVl b n (j + 1 + 1 + 1 + 1))) j7 (by omega)) (by omega) (fun K hK => e62_70 ?_) (fun K hK => r6 K ?_) (fun i y1 y2 => ?_) (fun x hx => ?_) ?_ ?_ (Or.inr (Or.inl ⟨?_, ?_, ?_⟩))
      · rw [c2, if_neg (by decide), x4, q85 x1 x5, k135, if_neg (show ¬ nI 135 = (146 : Int32) by decide), if_pos (show nI 135 = (135 : Int32) from rfl), if_neg z15, x4, c6, if_neg (by decide), if_neg (show ¬ nI 135 = (146 : Int32) by decide), if_pos (show nI 135 = (135 : Int32) from rfl), c7, if_neg (by decide)]
        exact hK
      · rw [if_neg (show ¬ (1 : Int32) = 0 by decide), if_pos rfl, r7, if_neg i3, if_neg i3, k3, zi_at, if_pos rfl, if_neg (hne _ (by omega))]
        exact hK
      · rw [eF7, zi_ne y1, zi_ne y2]
        exact p5 i y1 y2
      · rw [zi_at, if_neg (by omega), fk7.1 196 (by omega)]
        exact p6 x (by omega) (by omega) (by omega)
      · rw [zi_at, if_neg (by omega), fk7.1 196 (by omega), p3, eF7, zi_ne (by omega), zi_at, if_neg (by omega), p0]
      · rw [zi_at, if_neg (by omega), fk7.1 196 (by omega), eF7, zi_ne (by omega), zi_at, if_neg (by omega)]
        exact p2
      · rw [eF7, zi_ne (by omega), zi_at, if_neg (by omega), p1]
        rfl
      · rw [zi_at, if_neg (by omega), fk7.1 196 (by omega), p4]
      · rw [eF7, zi_ne (by omega), zi_at, if_pos rfl, zi_at, if_pos rfl]
    · by_cases k147 : zKn b n N (j + 1 + 1) = 147
      · rcases hkind 147 19 2 rfl (by omega) k147 (Or.inr (Or.inr (Or.inl rfl))) (by rw [if_neg k146, if_neg k135, if_pos k147]) with ⟨F5, R6, c6, r6, j6, p0, p1, p2, p3, p4, p5, p6⟩ | ⟨F', R', c6, r6, er⟩
        case inr =>
          refine Or.inr ⟨F', R', fun K hK => e62_70 ?_, r6, er⟩
          rw [c2, if_neg (by decide), x4, q85 x1 x5, k147, if_neg (show ¬ nI 147 = (146 : Int32) by decide), if_neg (show ¬ nI 147 = (135 : Int32) by decide), if_pos (show nI 147 = (147 : Int32) from rfl), if_neg z15, x4, c6, if_pos rfl, if_pos (Or.inl rfl)]
          exact hK
        refine st_fin ⟨s1, s2, s3⟩ hk16 (zJ_u (i := 196) (k := 64 + 4 * k + 3) (x := 0) j6 (by omega)) (by omega) (fun K hK => e62_70 ?_) (fun K hK => r6 K ?_) p5 (fun x hx => ?_) ?_ ?_ (Or.inr (Or.inr (Or.inl ⟨?_, ?_⟩)))
        · rw [c2, if_neg (by decide), x4, q85 x1 x5, k147, if_neg (show ¬ nI 147 = (146 : Int32) by decide), if_neg (show ¬ nI 147 = (135 : Int32) by decide), if_pos (show nI 147 = (147 : Int32) from rfl), if_neg z15, x4, c6, if_neg (by decide), if_neg (show ¬ nI 147 = (146 : Int32) by decide), if_neg (show ¬ nI 147 = (135 : Int32) by decide)]
          exact hK
        · rw [if_neg (show ¬ (2 : Int32) = 0 by decide), if_neg (show ¬ (2 : Int32) = 1 by decide), if_neg i3, if_neg i3, k3, zi_at, if_pos rfl, if_neg (by decide)]
          exact hK
        · rw [zi_at, if_neg (by omega)]
          exact p6 x (by omega) (by omega) (by omega)
        · rw [zi_at, if_neg (by omega), p3, p0]
        · rw [zi_at, if_neg (by omega)]
          exact p2
        · rw [p1]
          rfl
        · rw [zi_at, if_neg (by omega), p4]
      · by_cases k148 : zKn b n N (j + 1 + 1) = 148
        · rcases hkind 148 20 3 rfl (by omega) k148 (Or.inr (Or.inr (Or.inr rfl))) (by rw [if_neg k146, if_neg k135, if_neg k147, if_pos k148]) with ⟨F5, R6, c6, r6, j6, p0, p1, p2, p3, p4, p5, p6⟩ | ⟨F', R', c6, r6, er⟩
          case inr =>
            refine Or.inr ⟨F', R', fun K hK => e62_70 ?_, r6, er⟩
            rw [c2, if_neg (by decide), x4, q85 x1 x5, k148, if_neg (show ¬ nI 148 = (146 : Int32) by decide), if_neg (show ¬ nI 148 = (135 : Int32) by decide), if_neg (show ¬ nI 148 = (147 : Int32) by decide), if_pos (show nI 148 = (148 : Int32) from rfl), if_neg z15, x4, c6, if_pos rfl, if_pos (Or.inl rfl)]
            exact hK
          refine st_fin ⟨s1, s2, s3⟩ hk16 (zJ_u (i := 196) (k := 64 + 4 * k + 3) (x := 0) j6 (by omega)) (by omega) (fun K hK => e62_70 ?_) (fun K hK => r6 K ?_) p5 (fun x hx => ?_) ?_ ?_ (Or.inr (Or.inr (Or.inr ⟨?_, ?_⟩)))
          · rw [c2, if_neg (by decide), x4, q85 x1 x5, k148, if_neg (show ¬ nI 148 = (146 : Int32) by decide), if_neg (show ¬ nI 148 = (135 : Int32) by decide), if_neg (show ¬ nI 148 = (147 : Int32) by decide), if_pos (show nI 148 = (148 : Int32) from rfl), if_neg z15, x4, c6, if_neg (by decide), if_neg (show ¬ nI 148 = (146 : Int32) by decide), if_neg (show ¬ nI 148 = (135 : Int32) by decide)]
            exact hK
          · rw [if_neg (show ¬ (3 : Int32) = 0 by decide), if_neg (show ¬ (3 : Int32) = 1 by decide), if_neg i3, if_neg i3, k3, zi_at, if_pos rfl, if_neg (by decide)]
            exact hK
          · rw [zi_at, if_neg (by omega)]
            exact p6 x (by omega) (by omega) (by omega)
          · rw [zi_at, if_neg (by omega), p3, p0]
          · rw [zi_at, if_neg (by omega)]
            exact p2
          · rw [p1]
            rfl
          · rw [zi_at, if_neg (by omega), p4]
        · refine Or.inr ⟨_, _, fun K hK => e62_70 ?_, fun K hK => e190_178 ?_, zJ_er (c := 1) j3⟩
          · rw [c2, if_neg (by decide), x4, q85 x1 x5, if_neg (show ¬ nI (zKn b n N (j + 1 + 1)) = (146 : Int32) from hneq (a := 146) (by omega) k146), if_neg (show ¬ nI (zKn b n N (j + 1 + 1)) = (135 : Int32) from hneq (a := 135) (by omega) k135), if_neg (show ¬ nI (zKn b n N (j + 1 + 1)) = (147 : Int32) from hneq (a := 147) (by omega) k147), if_neg (show ¬ nI (zKn b n N (j + 1 + 1)) = (148 : Int32) from hneq (a := 148) (by omega) k148), q50 x1 x2 x3 x4 x5, if_pos (Or.inl rfl)]
            exact hK
          · refine ref1 _ ?_
            rw [r2, if_neg i0, if_neg i0, k0, zi_at, if_pos rfl, if_neg (hne _ v2), ← eR3, q191 x7, if_neg k146, if_neg k135, if_neg k147, if_neg k148, if_pos rfl, q183]
            exact hK
end ZSL

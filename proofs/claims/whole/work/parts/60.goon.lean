/-! one beat, on both sides -/
section ZGO
variable {X : Nat × (Nat → Int32)} {d e : Nat} {g gr : Nat → Nat → Int64} {n P k : Nat} {wl al bl cl : Nat → Nat} {B : Int}
theorem lp_147 (hB : B ≤ 100000) : ∀ m p, p + m = n → ∀ (s : Int32) (f r : Nat → Nat → Int32), zMi_147 f g r n P k wl al bl cl B p → ∃ (v : Int32) (F R : Nat → Nat → Int32), zMi_147 F g R n P k wl al bl cl B n ∧ zGc_147 f F r R ∧ zBk_147 f r F R ∧ (∀ K : Int32 → (Nat → Nat → Int32) → (Nat → Nat → Int64) → Prop, zWp X (d + 9) zm5 12 [.ref 147, .int v, .int (nI n)] [] (zs F g) (zQi K) → zWp X (d + 9) zm5 12 [.ref 147, .int s, .int (nI p)] [] (zs f g) (zQi K)) ∧ (∀ K : Int32 → (Nat → Nat → Int32) → (Nat → Nat → Int64) → Prop, zWp X (e + 9) zm211 47 [.ref 178, .int v, .int (nI n)] [] (zs R gr) (zQi K) → zWp X (e + 9) zm211 47 [.ref 178, .int s, .int (nI p)] [] (zs r gr) (zQi K)) := by
  intro m
  induction m with
  | zero =>
    intro p hp s f r hM
    have ep : p = n := by omega
    subst ep
    exact ⟨s, f, r, hM, zGc_147_rf, zBk_147_rf hM.2.2.2.2.2.2.1, fun K h => h, fun K h => h⟩
  | succ m ih =>
    intro p hp s f r hM
    have hn : n ≤ 12 := hM.1.1
    have hc : f 148 8 = nI n := hM.1.2.2.1
    have h7 : r 178 7 = nI n := by
      obtain ⟨n', hn', y1, y2, -⟩ := hM.2.2.1
      have en : n' = n := (nI_eq (by omega) (by omega)).mp (y1.symm.trans hM.2.2.2.1)
      rw [y2, en]
    obtain ⟨v, F, R, a1, a2, a3, a4, a5, a6⟩ := pl_147 (X := X) (d := d) (e := e) (gr := gr) hM (by omega) hB
    have hcl : ∀ K : Int32 → (Nat → Nat → Int32) → (Nat → Nat → Int64) → Prop, zWp X (d + 9) zm5 12 [.ref 147, .int (s + v), .int (nI (p + 1))] [] (zs F g) (zQi K) → zWp X (d + 9) zm5 12 [.ref 147, .int s, .int (nI p)] [] (zs f g) (zQi K) := fun K hK => by
      apply s5_12_147
      rw [hc, if_neg (nI_ge (by omega) (by omega)), a2, nI_1]
      rcases a1 with rfl | rfl
      · rw [if_pos rfl]
        exact hK
      · rw [if_neg (by decide)]
        exact hK
    have hrf : ∀ K : Int32 → (Nat → Nat → Int32) → (Nat → Nat → Int64) → Prop, zWp X (e + 9) zm211 47 [.ref 178, .int (s + v), .int (nI (p + 1))] [] (zs R gr) (zQi K) → zWp X (e + 9) zm211 47 [.ref 178, .int s, .int (nI p)] [] (zs r gr) (zQi K) := fun K hK => by
      apply s211_47_178
      rw [h7, if_neg (nI_ge (by omega) (by omega)), a3, nI_1]
      rcases a1 with rfl | rfl
      · rw [if_pos rfl]
        rw [Int32.add_zero] at hK
        exact hK
      · rw [if_neg (by decide)]
        exact hK
    obtain ⟨v', F', R', b1, b2, b3, b4, b5⟩ := ih (p + 1) (by omega) (s + v) F R a4
    exact ⟨v', F', R', b1, zGc_147_tr a5 b2, zBk_147_tr a6 b3, fun K hK => hcl K (b4 K hK), fun K hK => hrf K (b5 K hK)⟩
set_option maxHeartbeats 2000000 in
theorem go_147 {f r : Nat → Nat → Int32} (hn : n ≤ 12) (hP : P < 2 ^ 48) (hg : g 2 12 = lN P) (h8 : f 2 8 = nI n) (hH : zHal (f 2 8) (f 2 9) (f 2 10) (f 2 11) (f 3) (f 4) (f 5) (f 6) (f 7) (f 8) (f 9) (f 10) (r 179) (r 178 7) (r 183) B) (hB : B ≤ 50000) (hpl : ∀ k, k < 48 → r 197 k = if P.testBit k = true then 1 else 0) (hLk : zLk f k wl al bl cl) (hLj : zLj r (f 14) k wl al bl cl) (hPr : zPr_147 f r) (hS : zSco (f 20 1) (f 21) (r 178 33) (r 195)) (hT : zSta (f 22 1) (f 23) (r 178 35) (r 196) (r 178 7)) : ∃ (v : Int32) (F R : Nat → Nat → Int32), (∀ K : Int32 → (Nat → Nat → Int32) → (Nat → Nat → Int64) → Prop, zCpi X (d + 10) 5 [.ref 147] (zs f g) K = K v F (zuL g 148 12 (g 2 12))) ∧ (∀ K : Int32 → (Nat → Nat → Int32) → (Nat → Nat → Int64) → Prop, zCpi X (e + 10) 211 [.ref 178] (zs r gr) K = K v R gr) ∧ zHal (F 2 8) (F 2 9) (F 2 10) (F 2 11) (F 3) (F 4) (F 5) (F 6) (F 7) (F 8) (F 9) (F 10) (R 179) (R 178 7) (R 183) (B + 1) ∧ zPr_147 F R ∧ zBk_147 f r F R ∧ (∀ i, ¬ (2 ≤ i ∧ i ≤ 10) → ¬ (148 ≤ i ∧ i ≤ 156) → ¬ i = 157 → ¬ i = 19 → ¬ i = 11 → ¬ i = 12 → F i = f i) ∧ F 2 8 = f 2 8 ∧ (∀ i, ¬ i = 179 → ¬ i = 182 → ¬ i = 184 → ¬ i = 198 → ¬ i = 199 → R i = r i) ∧ R 179 0 = r 179 0 + 1 := by
  have z0 : ¬ ((0 : Int32) < 0 ∨ 76 ≤ (0 : Int32).toNatClampNeg) := by decide
  have z3 : ¬ ((3 : Int32) < 0 ∨ 76 ≤ (3 : Int32).toNatClampNeg) := by decide
  have h7 : r 178 7 = nI n := by
    obtain ⟨n', hn', y1, y2, -⟩ := hH
    have en : n' = n := (nI_eq (by omega) (by omega)).mp (y1.symm.trans h8)
    rw [y2, en]
  obtain ⟨kt, nt, hkt, hnt, t1, t2, t3, t4⟩ := hT
  have ent : nt = n := (nI_eq (by omega) (by omega)).mp (t3.symm.trans h7)
  subst ent
  obtain ⟨fS, rS, s1, s2, s3, s4, s5, s6⟩ := st_147 (X := X) (d := d + 4) (e := e + 6) (gr := gr) (k := kt) (a := f 23) (b := r 196) hn hP hg hkt t4 kt 0 (by omega) f r h8 t1 rfl t2 rfl hpl hH
  obtain ⟨A, hA⟩ : ∃ A, A = zuI (zuI (zHc fS 148 2) 157 7 (nI (zpc 12 (zfold (zso (fS 7)) nt 0 0)))) 157 8 (fS 2 11) := ⟨_, rfl⟩
  obtain ⟨rA, hrA⟩ : ∃ rA, rA = zCz rS 182 0 179 0 76 := ⟨_, rfl⟩
  have Ai : ∀ i, ¬ (148 ≤ i ∧ i ≤ 156) → ¬ i = 157 → A i = fS i := fun i a1 a2 => by rw [hA, zi_ne a2, zi_ne a2, zHc_ne a1]
  have rAi : ∀ i, ¬ i = 182 → rA i = rS i := fun i a => by rw [hrA, zCz_ne a]
  have rA2 : ∀ j, j < 76 → rA 182 j = rS 179 j := fun j hj => by
    rw [hrA, zCz_at, if_pos (by omega)]
    exact congrArg (rS 179) (by omega)
  have h8S : fS 2 8 = nI nt := by rw [s2 2 (by omega)]; exact h8
  have hMi : zMi_147 A (zuL g 148 12 (g 2 12)) rA nt P k wl al bl cl B 0 := by
    refine ⟨?_, ?_, ?_, by rw [Ai 2 (by omega) (by omega)]; exact h8S, fun k hk => by rw [rAi 197 (by omega), s3 197 (by omega)]; exact hpl k hk, ?_, ?_, ?_, ?_⟩
    · rw [hA]
      refine zAc_147_at hn hP h8S hg ?_ (fun p hp => ?_)
      · obtain ⟨l1, l2, l3⟩ := hLk
        unfold zLk
        rw [s2 13 (by omega), s2 14 (by omega), s2 15 (by omega), s2 16 (by omega), s2 17 (by omega), s2 18 (by omega)]
        exact ⟨l1, l2, l3⟩
      · obtain ⟨n', hn', y1, y2, y3, y4, y5, y6, y7, y8⟩ := s1
        have en : n' = nt := (nI_eq (by omega) (by omega)).mp (y1.symm.trans h8S)
        obtain ⟨-, -, ⟨x, y, hx, hy, ex, ey, -⟩, -⟩ := y8 p (by omega)
        exact ⟨x, y, hx, hy, ex, ey⟩
    · rw [rAi 178 (by omega), rAi 183 (by omega)]
      exact zhal_t (f := fS) (F := A) (h := 2) (b := 148) (fun j j0 j8 k hk => by rw [hA, zi_ne (by omega), zi_ne (by omega), zHc_r j0 j8 hk]) (fun k hk => by rw [hA, zi_ne (by omega), zi_ne (by omega), zHc_o hk]) rA2 s1
    · rw [Ai 2 (by omega) (by omega), Ai 3 (by omega) (by omega), Ai 4 (by omega) (by omega), Ai 5 (by omega) (by omega), Ai 6 (by omega) (by omega), Ai 7 (by omega) (by omega), Ai 8 (by omega) (by omega), Ai 9 (by omega) (by omega), Ai 10 (by omega) (by omega), rAi 179 (by omega), rAi 178 (by omega), rAi 183 (by omega)]
      exact zHm_0 s1
    · obtain ⟨l1, l2, l3⟩ := hLj
      unfold zLj
      rw [Ai 14 (by omega) (by omega), s2 14 (by omega), rAi 187 (by omega), rAi 188 (by omega), rAi 189 (by omega), rAi 190 (by omega), rAi 191 (by omega), rAi 192 (by omega), rAi 193 (by omega), s3 187 (by omega), s3 188 (by omega), s3 189 (by omega), s3 190 (by omega), s3 191 (by omega), s3 192 (by omega), s3 193 (by omega)]
      exact ⟨l1, l2, l3⟩
    · exact zPr_147_g hPr (by rw [Ai 147 (by omega) (by omega), s2 147 (by omega)]) (by rw [Ai 11 (by omega) (by omega), s2 11 (by omega)]) (by rw [Ai 12 (by omega) (by omega), s2 12 (by omega)]) (by rw [rAi 178 (by omega), s3 178 (by omega)]) (by rw [rAi 179 (by omega), s4 2 (by omega)]) (by rw [rAi 184 (by omega), s3 184 (by omega)])
    · rw [Ai 20 (by omega) (by omega), s2 20 (by omega), Ai 21 (by omega) (by omega), s2 21 (by omega), rAi 178 (by omega), s3 178 (by omega), rAi 195 (by omega), s3 195 (by omega)]
      exact hS
    · have e11 : A 148 11 = fS 2 11 := by rw [hA, zi_ne (by omega), zi_ne (by omega), zHc_o (by omega)]
      rw [e11, rAi 179 (by omega)]
      exact (s1.choose_spec.2.2.2.2.2.1).symm
  obtain ⟨v, F, R, b1, b2, b3, b4, b5⟩ := lp_147 (X := X) (d := d) (e := e) (gr := gr) (B := B) (by omega) nt 0 (by omega) 0 A rA hMi
  obtain ⟨c1, c2, c3, c4, c5, c6, c7, c8, c9⟩ := id b1
  obtain ⟨g1, g2, g3, g4, g5, g6, g7⟩ := id b2
  have hcm := zHm_cm c3 c4 hn
  have R7 : R 178 7 = nI nt := by rw [g5 178 (by omega) (by omega) (by omega) (by omega), rAi 178 (by omega), s3 178 (by omega)]; exact h7
  obtain ⟨u, hu⟩ : ∃ u, u = zcm (F 7) nt 0 (-1) 0 := ⟨_, rfl⟩
  rw [← hu] at hcm
  have q28 : ∀ K : Int32 → (Nat → Nat → Int32) → (Nat → Nat → Int64) → Prop, zCpi X (d + 9) 28 [.ref 2] (zs F (zuL g 148 12 (g 2 12))) K = K u F (zuL g 148 12 (g 2 12)) := fun K => by rw [q28_2 hn c4, hu]
  have q236' : ∀ K : Int32 → (Nat → Nat → Int32) → (Nat → Nat → Int64) → Prop, zCpi X (e + 9) 236 [.ref 178] (zs R gr) K = K u R gr := fun K => by rw [q236 hn R7, hcm]
  -- how it ends
  have hfin : ∃ F4 R4, zWt_147 (if u = -1 then F else zuI F 2 10 (F 2 10 + 1)) (if u = -1 then R else zuI R 179 3 (R 179 3 + 1)) F4 R4 ∧ (∀ K : Int32 → (Nat → Nat → Int32) → (Nat → Nat → Int64) → Prop, K v (zuI F4 2 11 (F4 2 11 + 1)) (zuL g 148 12 (g 2 12)) → zWp X (d + 9) zm5 12 [.ref 147, .int v, .int (nI nt)] [] (zs F (zuL g 148 12 (g 2 12))) (zQi K)) ∧ (∀ K : Int32 → (Nat → Nat → Int32) → (Nat → Nat → Int64) → Prop, K v (zuI R4 179 0 (R4 179 0 + 1)) gr → zWp X (e + 9) zm211 47 [.ref 178, .int v, .int (nI nt)] [] (zs R gr) (zQi K)) := by
    by_cases eu : u = -1
    · rw [if_pos eu, if_pos eu]
      refine ⟨F, R, ⟨fun _ _ _ => rfl, fun _ _ _ => rfl, fun _ _ => rfl, zBk_147_rf c7, c7⟩, fun K hK => ?_, fun K hK => ?_⟩
      · apply s5_12_147
        rw [c1.2.2.1, if_pos (nI_le (by omega) (by omega)), q28, if_pos eu]
        exact hK
      · apply s211_47_178
        rw [R7, if_pos (nI_le (by omega) (by omega)), q236', if_pos eu, if_neg z0, if_neg z0]
        exact hK
    · rw [if_neg eu, if_neg eu]
      obtain ⟨F4, R4, w1, w2, w3⟩ := wr_147 (X := X) (d := d + 7) (e := e + 8) (g := zuL g 148 12 (g 2 12)) (gr := gr) (f := zuI F 2 10 (F 2 10 + 1)) (r := zuI R 179 3 (R 179 3 + 1)) (a1 := 3) (a2 := -1) (a3 := u) (zPr_147_g c7 (by rw [zi_ne (by omega)]) (by rw [zi_ne (by omega)]) (by rw [zi_ne (by omega)]) (by rw [zi_ne (by omega)]) (by rw [zi_at, if_neg (by omega)]) (by rw [zi_ne (by omega)])) (by rw [zi_ne (by omega), zi_at, if_neg (by omega)]; exact c9)
      refine ⟨F4, R4, w3, fun K hK => ?_, fun K hK => ?_⟩
      · apply s5_12_147
        rw [c1.2.2.1, if_pos (nI_le (by omega) (by omega)), q28, if_neg eu, w1]
        exact hK
      · apply s211_47_178
        rw [R7, if_pos (nI_le (by omega) (by omega)), q236', if_neg eu, if_neg z3, if_neg z3, w2, if_neg z0, if_neg z0]
        exact hK
  obtain ⟨F4, R4, ⟨w1, w2, w3, w4, w5⟩, hE1, hE2⟩ := hfin
  obtain ⟨F', hF'⟩ : ∃ F', F' = (if u = -1 then F else zuI F 2 10 (F 2 10 + 1)) := ⟨_, rfl⟩
  obtain ⟨R', hR'⟩ : ∃ R', R' = (if u = -1 then R else zuI R 179 3 (R 179 3 + 1)) := ⟨_, rfl⟩
  rw [← hF', ← hR'] at w4
  rw [← hF'] at w1
  rw [← hR'] at w2 w3
  have F'i : ∀ i, ¬ i = 2 → F' i = F i := fun i a => by
    rw [hF']
    split
    · rfl
    · rw [zi_ne a]
  have F'j : ∀ j, ¬ j = 10 → F' 2 j = F 2 j := fun j a => by
    rw [hF']
    split
    · rfl
    · rw [zi_at, if_neg a]
  have R'i : ∀ i, ¬ i = 179 → R' i = R i := fun i a => by
    rw [hR']
    split
    · rfl
    · rw [zi_ne a]
  have R'j : ∀ j, ¬ j = 3 → R' 179 j = R 179 j := fun j a => by
    rw [hR']
    split
    · rfl
    · rw [zi_at, if_neg a]
  have hun : R' 179 3 = F' 2 10 := by
    have e3 : R 179 3 = F 2 10 := c3.choose_spec.2.2.2.2.1
    rw [hF', hR']
    split
    · exact e3
    · rw [zi_at, zi_at, if_pos rfl, if_pos rfl, e3]
  have hF4 : ∀ i, ¬ i = 2 → ¬ i = 11 → ¬ i = 12 → F4 i = F i := fun i a b c => by rw [w1 i b c, F'i i a]
  have hF4h : ∀ j, ¬ j = 10 → F4 2 j = F 2 j := fun j a => by rw [w1 2 (by omega) (by omega), F'j j a]
  have hR4 : ∀ i, ¬ i = 179 → ¬ i = 184 → R4 i = R i := fun i a b => by rw [w2 i a b, R'i i a]
  have hR4j : ∀ j, ¬ j = 2 → ¬ j = 3 → R4 179 j = R 179 j := fun j a b => by rw [w3 j a, R'j j b]
  refine ⟨v, zuI F4 2 11 (F4 2 11 + 1), zuI R4 179 0 (R4 179 0 + 1), fun K => zCpi_eq (fun K hK => ?_), fun K => zCpi_eq (fun K hK => ?_), ?_, ?_, ?_, fun i a1 a2 a3 a4 a5 a6 => ?_, ?_, fun i a1 a2 a3 a4 a5 => ?_, ?_⟩
  · apply e5_147
    apply e6_147
    refine s5 _ ?_
    rw [q8_147 hn h8S, ← hA]
    exact b4 K (hE1 K hK)
  · apply e211_178
    refine s6 K ?_
    rw [q213, ← hrA]
    exact b5 K (hE2 K hK)
  · have e8 : zuI F4 2 11 (F4 2 11 + 1) 2 8 = F 2 8 := by rw [zi_at, if_neg (by omega), hF4h 8 (by omega)]
    have e9 : zuI F4 2 11 (F4 2 11 + 1) 2 9 = F 2 9 := by rw [zi_at, if_neg (by omega), hF4h 9 (by omega)]
    have er : ∀ j, 0 < j → j ≤ 8 → zuI F4 2 11 (F4 2 11 + 1) (2 + j) = F (2 + j) := fun j a b => by rw [zi_ne (by omega), hF4 (2 + j) (by omega) (by omega) (by omega)]
    rw [e8, e9, show zuI F4 2 11 (F4 2 11 + 1) 3 = F 3 from er 1 (by omega) (by omega), show zuI F4 2 11 (F4 2 11 + 1) 4 = F 4 from er 2 (by omega) (by omega), show zuI F4 2 11 (F4 2 11 + 1) 5 = F 5 from er 3 (by omega) (by omega), show zuI F4 2 11 (F4 2 11 + 1) 6 = F 6 from er 4 (by omega) (by omega), show zuI F4 2 11 (F4 2 11 + 1) 7 = F 7 from er 5 (by omega) (by omega), show zuI F4 2 11 (F4 2 11 + 1) 8 = F 8 from er 6 (by omega) (by omega), show zuI F4 2 11 (F4 2 11 + 1) 9 = F 9 from er 7 (by omega) (by omega), show zuI F4 2 11 (F4 2 11 + 1) 10 = F 10 from er 8 (by omega) (by omega), zi_ne (show ¬ 178 = 179 by omega), zi_ne (show ¬ 183 = 179 by omega), hR4 178 (by omega) (by omega), hR4 183 (by omega) (by omega)]
    refine zHm_end (n := nt) c3 c4 hn (by omega) (fun j _ a1 a2 a3 => ?_) ?_ ?_ ?_
    · rw [zi_at, if_neg a1, hR4j j a2 a3]
    · rw [zi_at, if_pos rfl, hR4j 0 (by omega) (by omega)]
    · rw [zi_at, if_pos rfl, hF4h 11 (by omega)]
    · rw [zi_at, if_neg (by omega), zi_at, if_neg (by omega), w3 3 (by omega), w1 2 (by omega) (by omega)]
      exact hun
  · exact zPr_147_g w5 (by rw [zi_ne (by omega)]) (by rw [zi_ne (by omega)]) (by rw [zi_ne (by omega)]) (by rw [zi_ne (by omega)]) (by rw [zi_at, if_neg (by omega)]) (by rw [zi_ne (by omega)])
  · have hPA := hMi.2.2.2.2.2.2.1
    have k1 : zBk_147 f r A rA := zBk_147_g hPr (by rw [Ai 11 (by omega) (by omega), s2 11 (by omega)]) (by rw [Ai 12 (by omega) (by omega), s2 12 (by omega)]) (by rw [rAi 184 (by omega), s3 184 (by omega)]) (by rw [rAi 179 (by omega), s4 2 (by omega)])
    have k2 : zBk_147 F R F' R' := zBk_147_g c7 (F'i 11 (by omega)) (F'i 12 (by omega)) (R'i 184 (by omega)) (R'j 2 (by omega))
    have k3 : zBk_147 F4 R4 (zuI F4 2 11 (F4 2 11 + 1)) (zuI R4 179 0 (R4 179 0 + 1)) := zBk_147_g w5 (by rw [zi_ne (by omega)]) (by rw [zi_ne (by omega)]) (by rw [zi_ne (by omega)]) (by rw [zi_at, if_neg (by omega)])
    exact zBk_147_tr k1 (zBk_147_tr b3 (zBk_147_tr k2 (zBk_147_tr w4 k3)))
  · rw [zi_ne (by omega), hF4 i (by omega) a5 a6, g1 i (by omega) (by omega) (by omega) (by omega) (by omega) a3 a4 a5 a6, Ai i a2 a3, s2 i (by omega)]
  · rw [zi_at, if_neg (by omega), hF4h 8 (by omega), c4, h8]
  · rw [zi_ne a1, hR4 i a1 a3, g5 i a1 a3 a4 a5, rAi i a2, s3 i a1]
  · rw [zi_at, if_pos rfl, hR4j 0 (by omega) (by omega), g6, rAi 179 (by omega), s4 0 (by omega)]
theorem lp_158 (hB : B ≤ 100000) : ∀ m p, p + m = n → ∀ (s : Int32) (f r : Nat → Nat → Int32), zMi_158 f g r n P k wl al bl cl B p → ∃ (v : Int32) (F R : Nat → Nat → Int32), zMi_158 F g R n P k wl al bl cl B n ∧ zGc_158 f F r R ∧ zBk_158 f r F R ∧ (∀ K : Int32 → (Nat → Nat → Int32) → (Nat → Nat → Int64) → Prop, zWp X (d + 9) zm5 12 [.ref 158, .int v, .int (nI n)] [] (zs F g) (zQi K) → zWp X (d + 9) zm5 12 [.ref 158, .int s, .int (nI p)] [] (zs f g) (zQi K)) ∧ (∀ K : Int32 → (Nat → Nat → Int32) → (Nat → Nat → Int64) → Prop, zWp X (e + 9) zm211 47 [.ref 178, .int v, .int (nI n)] [] (zs R gr) (zQi K) → zWp X (e + 9) zm211 47 [.ref 178, .int s, .int (nI p)] [] (zs r gr) (zQi K)) := by
  intro m
  induction m with
  | zero =>
    intro p hp s f r hM
    have ep : p = n := by omega
    subst ep
    exact ⟨s, f, r, hM, zGc_158_rf, zBk_158_rf hM.2.2.2.2.2.2.1, fun K h => h, fun K h => h⟩
  | succ m ih =>
    intro p hp s f r hM
    have hn : n ≤ 12 := hM.1.1
    have hc : f 159 8 = nI n := hM.1.2.2.1
    have h7 : r 178 7 = nI n := by
      obtain ⟨n', hn', y1, y2, -⟩ := hM.2.2.1
      have en : n' = n := (nI_eq (by omega) (by omega)).mp (y1.symm.trans hM.2.2.2.1)
      rw [y2, en]
    obtain ⟨v, F, R, a1, a2, a3, a4, a5, a6⟩ := pl_158 (X := X) (d := d) (e := e) (gr := gr) hM (by omega) hB
    have hcl : ∀ K : Int32 → (Nat → Nat → Int32) → (Nat → Nat → Int64) → Prop, zWp X (d + 9) zm5 12 [.ref 158, .int (s + v), .int (nI (p + 1))] [] (zs F g) (zQi K) → zWp X (d + 9) zm5 12 [.ref 158, .int s, .int (nI p)] [] (zs f g) (zQi K) := fun K hK => by
      apply s5_12_158
      rw [hc, if_neg (nI_ge (by omega) (by omega)), a2, nI_1]
      rcases a1 with rfl | rfl
      · rw [if_pos rfl]
        exact hK
      · rw [if_neg (by decide)]
        exact hK
    have hrf : ∀ K : Int32 → (Nat → Nat → Int32) → (Nat → Nat → Int64) → Prop, zWp X (e + 9) zm211 47 [.ref 178, .int (s + v), .int (nI (p + 1))] [] (zs R gr) (zQi K) → zWp X (e + 9) zm211 47 [.ref 178, .int s, .int (nI p)] [] (zs r gr) (zQi K) := fun K hK => by
      apply s211_47_178
      rw [h7, if_neg (nI_ge (by omega) (by omega)), a3, nI_1]
      rcases a1 with rfl | rfl
      · rw [if_pos rfl]
        rw [Int32.add_zero] at hK
        exact hK
      · rw [if_neg (by decide)]
        exact hK
    obtain ⟨v', F', R', b1, b2, b3, b4, b5⟩ := ih (p + 1) (by omega) (s + v) F R a4
    exact ⟨v', F', R', b1, zGc_158_tr a5 b2, zBk_158_tr a6 b3, fun K hK => hcl K (b4 K hK), fun K hK => hrf K (b5 K hK)⟩
set_option maxHeartbeats 2000000 in
theorem go_158 {f r : Nat → Nat → Int32} (hn : n ≤ 12) (hP : P < 2 ^ 48) (hg : g 138 12 = lN P) (h8 : f 138 8 = nI n) (hH : zHal (f 138 8) (f 138 9) (f 138 10) (f 138 11) (f 139) (f 140) (f 141) (f 142) (f 143) (f 144) (f 145) (f 146) (r 179) (r 178 7) (r 183) B) (hB : B ≤ 50000) (hpl : ∀ k, k < 48 → r 197 k = if P.testBit k = true then 1 else 0) (hLk : zLk f k wl al bl cl) (hLj : zLj r (f 14) k wl al bl cl) (hPr : zPr_158 f r) (hS : zSco (f 20 1) (f 21) (r 178 33) (r 195)) (hT : zSta (f 22 1) (f 23) (r 178 35) (r 196) (r 178 7)) : ∃ (v : Int32) (F R : Nat → Nat → Int32), (∀ K : Int32 → (Nat → Nat → Int32) → (Nat → Nat → Int64) → Prop, zCpi X (d + 10) 5 [.ref 158] (zs f g) K = K v F (zuL g 159 12 (g 138 12))) ∧ (∀ K : Int32 → (Nat → Nat → Int32) → (Nat → Nat → Int64) → Prop, zCpi X (e + 10) 211 [.ref 178] (zs r gr) K = K v R gr) ∧ zHal (F 138 8) (F 138 9) (F 138 10) (F 138 11) (F 139) (F 140) (F 141) (F 142) (F 143) (F 144) (F 145) (F 146) (R 179) (R 178 7) (R 183) (B + 1) ∧ zPr_158 F R ∧ zBk_158 f r F R ∧ (∀ i, ¬ (138 ≤ i ∧ i ≤ 146) → ¬ (159 ≤ i ∧ i ≤ 167) → ¬ i = 168 → ¬ i = 19 → ¬ i = 11 → ¬ i = 12 → F i = f i) ∧ F 138 8 = f 138 8 ∧ (∀ i, ¬ i = 179 → ¬ i = 182 → ¬ i = 184 → ¬ i = 198 → ¬ i = 199 → R i = r i) ∧ R 179 0 = r 179 0 + 1 := by
  have z0 : ¬ ((0 : Int32) < 0 ∨ 76 ≤ (0 : Int32).toNatClampNeg) := by decide
  have z3 : ¬ ((3 : Int32) < 0 ∨ 76 ≤ (3 : Int32).toNatClampNeg) := by decide
  have h7 : r 178 7 = nI n := by
    obtain ⟨n', hn', y1, y2, -⟩ := hH
    have en : n' = n := (nI_eq (by omega) (by omega)).mp (y1.symm.trans h8)
    rw [y2, en]
  obtain ⟨kt, nt, hkt, hnt, t1, t2, t3, t4⟩ := hT
  have ent : nt = n := (nI_eq (by omega) (by omega)).mp (t3.symm.trans h7)
  subst ent
  obtain ⟨fS, rS, s1, s2, s3, s4, s5, s6⟩ := st_158 (X := X) (d := d + 4) (e := e + 6) (gr := gr) (k := kt) (a := f 23) (b := r 196) hn hP hg hkt t4 kt 0 (by omega) f r h8 t1 rfl t2 rfl hpl hH
  obtain ⟨A, hA⟩ : ∃ A, A = zuI (zuI (zHc fS 159 138) 168 7 (nI (zpc 12 (zfold (zso (fS 143)) nt 0 0)))) 168 8 (fS 138 11) := ⟨_, rfl⟩
  obtain ⟨rA, hrA⟩ : ∃ rA, rA = zCz rS 182 0 179 0 76 := ⟨_, rfl⟩
  have Ai : ∀ i, ¬ (159 ≤ i ∧ i ≤ 167) → ¬ i = 168 → A i = fS i := fun i a1 a2 => by rw [hA, zi_ne a2, zi_ne a2, zHc_ne a1]
  have rAi : ∀ i, ¬ i = 182 → rA i = rS i := fun i a => by rw [hrA, zCz_ne a]
  have rA2 : ∀ j, j < 76 → rA 182 j = rS 179 j := fun j hj => by
    rw [hrA, zCz_at, if_pos (by omega)]
    exact congrArg (rS 179) (by omega)
  have h8S : fS 138 8 = nI nt := by rw [s2 138 (by omega)]; exact h8
  have hMi : zMi_158 A (zuL g 159 12 (g 138 12)) rA nt P k wl al bl cl B 0 := by
    refine ⟨?_, ?_, ?_, by rw [Ai 138 (by omega) (by omega)]; exact h8S, fun k hk => by rw [rAi 197 (by omega), s3 197 (by omega)]; exact hpl k hk, ?_, ?_, ?_, ?_⟩
    · rw [hA]
      refine zAc_158_at hn hP h8S hg ?_ (fun p hp => ?_)
      · obtain ⟨l1, l2, l3⟩ := hLk
        unfold zLk
        rw [s2 13 (by omega), s2 14 (by omega), s2 15 (by omega), s2 16 (by omega), s2 17 (by omega), s2 18 (by omega)]
        exact ⟨l1, l2, l3⟩
      · obtain ⟨n', hn', y1, y2, y3, y4, y5, y6, y7, y8⟩ := s1
        have en : n' = nt := (nI_eq (by omega) (by omega)).mp (y1.symm.trans h8S)
        obtain ⟨-, -, ⟨x, y, hx, hy, ex, ey, -⟩, -⟩ := y8 p (by omega)
        exact ⟨x, y, hx, hy, ex, ey⟩
    · rw [rAi 178 (by omega), rAi 183 (by omega)]
      exact zhal_t (f := fS) (F := A) (h := 138) (b := 159) (fun j j0 j8 k hk => by rw [hA, zi_ne (by omega), zi_ne (by omega), zHc_r j0 j8 hk]) (fun k hk => by rw [hA, zi_ne (by omega), zi_ne (by omega), zHc_o hk]) rA2 s1
    · rw [Ai 138 (by omega) (by omega), Ai 139 (by omega) (by omega), Ai 140 (by omega) (by omega), Ai 141 (by omega) (by omega), Ai 142 (by omega) (by omega), Ai 143 (by omega) (by omega), Ai 144 (by omega) (by omega), Ai 145 (by omega) (by omega), Ai 146 (by omega) (by omega), rAi 179 (by omega), rAi 178 (by omega), rAi 183 (by omega)]
      exact zHm_0 s1
    · obtain ⟨l1, l2, l3⟩ := hLj
      unfold zLj
      rw [Ai 14 (by omega) (by omega), s2 14 (by omega), rAi 187 (by omega), rAi 188 (by omega), rAi 189 (by omega), rAi 190 (by omega), rAi 191 (by omega), rAi 192 (by omega), rAi 193 (by omega), s3 187 (by omega), s3 188 (by omega), s3 189 (by omega), s3 190 (by omega), s3 191 (by omega), s3 192 (by omega), s3 193 (by omega)]
      exact ⟨l1, l2, l3⟩
    · exact zPr_158_g hPr (by rw [Ai 158 (by omega) (by omega), s2 158 (by omega)]) (by rw [Ai 11 (by omega) (by omega), s2 11 (by omega)]) (by rw [Ai 12 (by omega) (by omega), s2 12 (by omega)]) (by rw [rAi 178 (by omega), s3 178 (by omega)]) (by rw [rAi 179 (by omega), s4 2 (by omega)]) (by rw [rAi 184 (by omega), s3 184 (by omega)])
    · rw [Ai 20 (by omega) (by omega), s2 20 (by omega), Ai 21 (by omega) (by omega), s2 21 (by omega), rAi 178 (by omega), s3 178 (by omega), rAi 195 (by omega), s3 195 (by omega)]
      exact hS
    · have e11 : A 159 11 = fS 138 11 := by rw [hA, zi_ne (by omega), zi_ne (by omega), zHc_o (by omega)]
      rw [e11, rAi 179 (by omega)]
      exact (s1.choose_spec.2.2.2.2.2.1).symm
  obtain ⟨v, F, R, b1, b2, b3, b4, b5⟩ := lp_158 (X := X) (d := d) (e := e) (gr := gr) (B := B) (by omega) nt 0 (by omega) 0 A rA hMi
  obtain ⟨c1, c2, c3, c4, c5, c6, c7, c8, c9⟩ := id b1
  obtain ⟨g1, g2, g3, g4, g5, g6, g7⟩ := id b2
  have hcm := zHm_cm c3 c4 hn
  have R7 : R 178 7 = nI nt := by rw [g5 178 (by omega) (by omega) (by omega) (by omega), rAi 178 (by omega), s3 178 (by omega)]; exact h7
  obtain ⟨u, hu⟩ : ∃ u, u = zcm (F 143) nt 0 (-1) 0 := ⟨_, rfl⟩
  rw [← hu] at hcm
  have q28 : ∀ K : Int32 → (Nat → Nat → Int32) → (Nat → Nat → Int64) → Prop, zCpi X (d + 9) 28 [.ref 138] (zs F (zuL g 159 12 (g 138 12))) K = K u F (zuL g 159 12 (g 138 12)) := fun K => by rw [q28_138 hn c4, hu]
  have q236' : ∀ K : Int32 → (Nat → Nat → Int32) → (Nat → Nat → Int64) → Prop, zCpi X (e + 9) 236 [.ref 178] (zs R gr) K = K u R gr := fun K => by rw [q236 hn R7, hcm]
  -- how it ends
  have hfin : ∃ F4 R4, zWt_158 (if u = -1 then F else zuI F 138 10 (F 138 10 + 1)) (if u = -1 then R else zuI R 179 3 (R 179 3 + 1)) F4 R4 ∧ (∀ K : Int32 → (Nat → Nat → Int32) → (Nat → Nat → Int64) → Prop, K v (zuI F4 138 11 (F4 138 11 + 1)) (zuL g 159 12 (g 138 12)) → zWp X (d + 9) zm5 12 [.ref 158, .int v, .int (nI nt)] [] (zs F (zuL g 159 12 (g 138 12))) (zQi K)) ∧ (∀ K : Int32 → (Nat → Nat → Int32) → (Nat → Nat → Int64) → Prop, K v (zuI R4 179 0 (R4 179 0 + 1)) gr → zWp X (e + 9) zm211 47 [.ref 178, .int v, .int (nI nt)] [] (zs R gr) (zQi K)) := by
    by_cases eu : u = -1
    · rw [if_pos eu, if_pos eu]
      refine ⟨F, R, ⟨fun _ _ _ => rfl, fun _ _ _ => rfl, fun _ _ => rfl, zBk_158_rf c7, c7⟩, fun K hK => ?_, fun K hK => ?_⟩
      · apply s5_12_158
        rw [c1.2.2.1, if_pos (nI_le (by omega) (by omega)), q28, if_pos eu]
        exact hK
      · apply s211_47_178
        rw [R7, if_pos (nI_le (by omega) (by omega)), q236', if_pos eu, if_neg z0, if_neg z0]
        exact hK
    · rw [if_neg eu, if_neg eu]
      obtain ⟨F4, R4, w1, w2, w3⟩ := wr_158 (X := X) (d := d + 7) (e := e + 8) (g := zuL g 159 12 (g 138 12)) (gr := gr) (f := zuI F 138 10 (F 138 10 + 1)) (r := zuI R 179 3 (R 179 3 + 1)) (a1 := 3) (a2 := -1) (a3 := u) (zPr_158_g c7 (by rw [zi_ne (by omega)]) (by rw [zi_ne (by omega)]) (by rw [zi_ne (by omega)]) (by rw [zi_ne (by omega)]) (by rw [zi_at, if_neg (by omega)]) (by rw [zi_ne (by omega)])) (by rw [zi_ne (by omega), zi_at, if_neg (by omega)]; exact c9)
      refine ⟨F4, R4, w3, fun K hK => ?_, fun K hK => ?_⟩
      · apply s5_12_158
        rw [c1.2.2.1, if_pos (nI_le (by omega) (by omega)), q28, if_neg eu, w1]
        exact hK
      · apply s211_47_178
        rw [R7, if_pos (nI_le (by omega) (by omega)), q236', if_neg eu, if_neg z3, if_neg z3, w2, if_neg z0, if_neg z0]
        exact hK
  obtain ⟨F4, R4, ⟨w1, w2, w3, w4, w5⟩, hE1, hE2⟩ := hfin
  obtain ⟨F', hF'⟩ : ∃ F', F' = (if u = -1 then F else zuI F 138 10 (F 138 10 + 1)) := ⟨_, rfl⟩
  obtain ⟨R', hR'⟩ : ∃ R', R' = (if u = -1 then R else zuI R 179 3 (R 179 3 + 1)) := ⟨_, rfl⟩
  rw [← hF', ← hR'] at w4
  rw [← hF'] at w1
  rw [← hR'] at w2 w3
  have F'i : ∀ i, ¬ i = 138 → F' i = F i := fun i a => by
    rw [hF']
    split
    · rfl
    · rw [zi_ne a]
  have F'j : ∀ j, ¬ j = 10 → F' 138 j = F 138 j := fun j a => by
    rw [hF']
    split
    · rfl
    · rw [zi_at, if_neg a]
  have R'i : ∀ i, ¬ i = 179 → R' i = R i := fun i a => by
    rw [hR']
    split
    · rfl
    · rw [zi_ne a]
  have R'j : ∀ j, ¬ j = 3 → R' 179 j = R 179 j := fun j a => by
    rw [hR']
    split
    · rfl
    · rw [zi_at, if_neg a]
  have hun : R' 179 3 = F' 138 10 := by
    have e3 : R 179 3 = F 138 10 := c3.choose_spec.2.2.2.2.1
    rw [hF', hR']
    split
    · exact e3
    · rw [zi_at, zi_at, if_pos rfl, if_pos rfl, e3]
  have hF4 : ∀ i, ¬ i = 138 → ¬ i = 11 → ¬ i = 12 → F4 i = F i := fun i a b c => by rw [w1 i b c, F'i i a]
  have hF4h : ∀ j, ¬ j = 10 → F4 138 j = F 138 j := fun j a => by rw [w1 138 (by omega) (by omega), F'j j a]
  have hR4 : ∀ i, ¬ i = 179 → ¬ i = 184 → R4 i = R i := fun i a b => by rw [w2 i a b, R'i i a]
  have hR4j : ∀ j, ¬ j = 2 → ¬ j = 3 → R4 179 j = R 179 j := fun j a b => by rw [w3 j a, R'j j b]
  refine ⟨v, zuI F4 138 11 (F4 138 11 + 1), zuI R4 179 0 (R4 179 0 + 1), fun K => zCpi_eq (fun K hK => ?_), fun K => zCpi_eq (fun K hK => ?_), ?_, ?_, ?_, fun i a1 a2 a3 a4 a5 a6 => ?_, ?_, fun i a1 a2 a3 a4 a5 => ?_, ?_⟩
  · apply e5_158
    apply e6_158
    refine s5 _ ?_
    rw [q8_158 hn h8S, ← hA]
    exact b4 K (hE1 K hK)
  · apply e211_178
    refine s6 K ?_
    rw [q213, ← hrA]
    exact b5 K (hE2 K hK)
  · have e8 : zuI F4 138 11 (F4 138 11 + 1) 138 8 = F 138 8 := by rw [zi_at, if_neg (by omega), hF4h 8 (by omega)]
    have e9 : zuI F4 138 11 (F4 138 11 + 1) 138 9 = F 138 9 := by rw [zi_at, if_neg (by omega), hF4h 9 (by omega)]
    have er : ∀ j, 0 < j → j ≤ 8 → zuI F4 138 11 (F4 138 11 + 1) (138 + j) = F (138 + j) := fun j a b => by rw [zi_ne (by omega), hF4 (138 + j) (by omega) (by omega) (by omega)]
    rw [e8, e9, show zuI F4 138 11 (F4 138 11 + 1) 139 = F 139 from er 1 (by omega) (by omega), show zuI F4 138 11 (F4 138 11 + 1) 140 = F 140 from er 2 (by omega) (by omega), show zuI F4 138 11 (F4 138 11 + 1) 141 = F 141 from er 3 (by omega) (by omega), show zuI F4 138 11 (F4 138 11 + 1) 142 = F 142 from er 4 (by omega) (by omega), show zuI F4 138 11 (F4 138 11 + 1) 143 = F 143 from er 5 (by omega) (by omega), show zuI F4 138 11 (F4 138 11 + 1) 144 = F 144 from er 6 (by omega) (by omega), show zuI F4 138 11 (F4 138 11 + 1) 145 = F 145 from er 7 (by omega) (by omega), show zuI F4 138 11 (F4 138 11 + 1) 146 = F 146 from er 8 (by omega) (by omega), zi_ne (show ¬ 178 = 179 by omega), zi_ne (show ¬ 183 = 179 by omega), hR4 178 (by omega) (by omega), hR4 183 (by omega) (by omega)]
    refine zHm_end (n := nt) c3 c4 hn (by omega) (fun j _ a1 a2 a3 => ?_) ?_ ?_ ?_
    · rw [zi_at, if_neg a1, hR4j j a2 a3]
    · rw [zi_at, if_pos rfl, hR4j 0 (by omega) (by omega)]
    · rw [zi_at, if_pos rfl, hF4h 11 (by omega)]
    · rw [zi_at, if_neg (by omega), zi_at, if_neg (by omega), w3 3 (by omega), w1 138 (by omega) (by omega)]
      exact hun
  · exact zPr_158_g w5 (by rw [zi_ne (by omega)]) (by rw [zi_ne (by omega)]) (by rw [zi_ne (by omega)]) (by rw [zi_ne (by omega)]) (by rw [zi_at, if_neg (by omega)]) (by rw [zi_ne (by omega)])
  · have hPA := hMi.2.2.2.2.2.2.1
    have k1 : zBk_158 f r A rA := zBk_158_g hPr (by rw [Ai 11 (by omega) (by omega), s2 11 (by omega)]) (by rw [Ai 12 (by omega) (by omega), s2 12 (by omega)]) (by rw [rAi 184 (by omega), s3 184 (by omega)]) (by rw [rAi 179 (by omega), s4 2 (by omega)])
    have k2 : zBk_158 F R F' R' := zBk_158_g c7 (F'i 11 (by omega)) (F'i 12 (by omega)) (R'i 184 (by omega)) (R'j 2 (by omega))
    have k3 : zBk_158 F4 R4 (zuI F4 138 11 (F4 138 11 + 1)) (zuI R4 179 0 (R4 179 0 + 1)) := zBk_158_g w5 (by rw [zi_ne (by omega)]) (by rw [zi_ne (by omega)]) (by rw [zi_ne (by omega)]) (by rw [zi_at, if_neg (by omega)])
    exact zBk_158_tr k1 (zBk_158_tr b3 (zBk_158_tr k2 (zBk_158_tr w4 k3)))
  · rw [zi_ne (by omega), hF4 i (by omega) a5 a6, g1 i (by omega) (by omega) (by omega) (by omega) (by omega) a3 a4 a5 a6, Ai i a2 a3, s2 i (by omega)]
  · rw [zi_at, if_neg (by omega), hF4h 8 (by omega), c4, h8]
  · rw [zi_ne a1, hR4 i a1 a3, g5 i a1 a3 a4 a5, rAi i a2, s3 i a1]
  · rw [zi_at, if_pos rfl, hR4j 0 (by omega) (by omega), g6, rAi 179 (by omega), s4 0 (by omega)]
end ZGO

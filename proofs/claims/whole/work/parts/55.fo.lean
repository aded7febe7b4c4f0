/-! to follow one, on both sides -/
/-- what has changed of the class's hall h as p played (whom he follows aside) -/
def zUc (h v p : Nat) (f F : Nat → Nat → Int32) (kn : Nat) (of wr st : Int32) : Prop := (∀ i, ¬ i = h → ¬ i = h + 5 → ¬ i = h + 6 → ¬ i = h + 8 → ¬ i = v → ¬ i = 19 → F i = f i) ∧ F v 7 = f v 7 ∧ F v 8 = f v 8 ∧ (∀ j, ¬ j = 9 → F h j = f h j) ∧ F h 9 = st ∧ (∀ q, F (h + 5) q = if q = p then nI kn - 1 else f (h + 5) q) ∧ (∀ q, F (h + 6) q = if q = p then of else f (h + 6) q) ∧ (∀ q, F (h + 8) q = if q = p then wr else f (h + 8) q)
/-- and of the reference's -/
def zUr (p : Nat) (r R : Nat → Nat → Int32) (kn ka : Nat) (of wr st : Int32) : Prop := (∀ i, ¬ i = 179 → ¬ i = 198 → ¬ i = 199 → R i = r i) ∧ R 179 1 = st ∧ R 179 (28 + p) = nI kn ∧ R 179 (40 + p) = of ∧ R 179 (52 + p) = nI ka ∧ R 179 (64 + p) = wr ∧ ∀ j, ¬ j = 1 → ¬ j = 28 + p → ¬ j = 40 + p → ¬ j = 52 + p → ¬ j = 64 + p → R 179 j = r 179 j
theorem zHal_at {c st un bt pl : Int32} {L E Xs Ys N O A W w er : Nat → Int32} {B : Int} {n p : Nat} (h : zHal c st un bt L E Xs Ys N O A W w pl er B) (hc : c = nI n) (hn : n ≤ 12) (hp : p < n) : (∃ k : Nat, k ≤ 12 ∧ N p = nI k - 1 ∧ w (28 + p) = nI k) ∧ w (40 + p) = O p ∧ -50 ≤ (O p).toInt ∧ (O p).toInt ≤ 50 := by
  obtain ⟨n', hn', h1, h2, h3, h4, h5, h6, h7, h8⟩ := h
  have en : n' = n := (nI_eq (by omega) (by omega)).mp (h1.symm.trans hc)
  subst en
  obtain ⟨-, -, -, a4, a5, a6, a7, -⟩ := h8 p hp
  exact ⟨a4, a5, by rw [← a5]; exact a6, by rw [← a5]; exact a7⟩
theorem zr12 {k : Nat} (h1 : 1 ≤ k) (hk : k ≤ 12) : nI k - 1 + 1 - (nI k - 1 + 1) / 12 * 12 = nI (k % 12 + 1) - 1 ∧ nI k - nI k / 12 * 12 + 1 = nI (k % 12 + 1) := by
  have e : nI k - 1 + 1 = nI k := by rw [(nI_m1 (by omega)).2, nI_1]; congr 1; omega
  rw [e, nI_r12 (by omega), nI_pred, nI_1]
  exact ⟨rfl, rfl⟩
section ZFP
variable {X : Nat × (Nat → Int32)} {d e : Nat} {f r : Nat → Nat → Int32} {g gr : Nat → Nat → Int64} {K : Int32 → (Nat → Nat → Int32) → (Nat → Nat → Int64) → Prop} {n P k p o : Nat} {wl al bl cl : Nat → Nat} {B : Int}
theorem zAc_147_g {F : Nat → Nat → Int32} (h : zAc_147 f g n P k wl al bl cl) (e : ∀ i, (13 ≤ i ∧ i ≤ 18) ∨ (148 ≤ i ∧ i ≤ 156) → F i = f i) (e7 : F 157 7 = f 157 7) (e8 : F 157 8 = f 157 8) : zAc_147 F g n P k wl al bl cl := by
  obtain ⟨h1, h2, h3, h4, ⟨l1, l2, l3⟩, h6, h7, h8⟩ := h
  unfold zAc_147 zLk
  rw [e 148 (by omega), e 151 (by omega), e 152 (by omega), e 153 (by omega), e 13 (by omega), e 14 (by omega), e 15 (by omega), e 16 (by omega), e 17 (by omega), e 18 (by omega), e7, e8]
  exact ⟨h1, h2, h3, h4, ⟨l1, l2, l3⟩, h6, h7, h8⟩
theorem zPr_147_g {F R : Nat → Nat → Int32} (h : zPr_147 f r) (e1 : F 147 2 = f 147 2) (e2 : F 11 1 = f 11 1) (e3 : F 12 = f 12) (e4 : R 178 5 = r 178 5) (e5 : R 179 2 = r 179 2) (e6 : R 184 = r 184) : zPr_147 F R := by
  unfold zPr_147 at h ⊢
  simp only [e1, e2, e3, e4, e5, e6]
  exact h
set_option maxHeartbeats 2000000 in
theorem fo_147 (hA : zAc_147 f g n P k wl al bl cl) (hH : zHal (f 148 8) (f 148 9) (f 148 10) (f 148 11) (f 149) (f 150) (f 151) (f 152) (f 153) (f 154) (f 155) (f 156) (r 182) (r 178 7) (r 183) B) (hpl : ∀ k, k < 48 → r 197 k = if P.testBit k = true then 1 else 0) (hL : zLj r (f 14) k wl al bl cl) (hPr : zPr_147 f r) (hst : f 2 9 = r 179 1) (hwr : r 179 (64 + p) = f 10 p) (hp : p < n) (ho : o < n) (hs : ¬ f 153 o = -1)
    (hK : ∀ (v : Int32) (F R : Nat → Nat → Int32) (kn : Nat) (of wr st : Int32), (v = 0 ∨ v = 1) → 1 ≤ kn → kn ≤ 12 → -50 ≤ of.toInt → of.toInt ≤ 50 → (wr = f 10 p ∨ wr = f 10 p + 1) → zUc 2 157 p f F kn of wr st → zUr p r R kn (o + 1) of wr st → (∀ K' : Int32 → (Nat → Nat → Int32) → (Nat → Nat → Int64) → Prop, zCpi X (e + 8) 229 [.ref 178, .int (nI p), .int (nI o)] (zs r gr) K' = if v = 0 then K' 0 R gr else zCpv X (e + 7) 235 [.ref 178, .int 0, .int (nI p), .int (nI kn - 1)] (zs R gr) (fun f g => K' 1 f g)) → K v F g) : zCpi X (d + 8) 12 [.ref 147, .int (nI p), .int (nI o)] (zs f g) K := by
  have hn : n ≤ 12 := hA.1
  have hc : f 148 8 = nI n := hA.2.2.1
  obtain ⟨⟨kp, hkp, np1, np2⟩, op1, op2, op3⟩ := zHal_at hH hc hn hp
  obtain ⟨⟨ko, hko, no1, no2⟩, oo1, oo2, oo3⟩ := zHal_at hH hc hn ho
  have hko0 : 1 ≤ ko := by
    rcases Nat.eq_zero_or_pos ko with z | z
    · exact absurd (by rw [no1, z]; decide) hs
    · exact z
  obtain ⟨be, hbe⟩ : ∃ be, be = zLa (f 14) wl al bl cl k 2 (zVv (f 149) (f 150) (f 151) (f 152) (f 153) (f 154) (f 156) (f 148 11) n P p o) := ⟨_, rfl⟩
  obtain ⟨sl, hsl⟩ : ∃ sl, sl = zLa (f 14) wl al bl cl k 1 (zVv (f 149) (f 150) (f 151) (f 152) (f 153) (f 154) (f 156) (f 148 11) n P p o) := ⟨_, rfl⟩
  have be1 : 0 ≤ be.toInt ∧ be.toInt ≤ 50 := by
    rw [hbe]
    exact zhe_in (lo := 0) (hi := 50) (by decide)
  have sl1 : 0 ≤ sl.toInt ∧ sl.toInt ≤ 1000 := by
    rw [hsl]
    exact zhe_in (lo := 0) (hi := 1000) (by decide)
  obtain ⟨ap, hap⟩ : ∃ ap, ap = f 154 o - f 154 p := ⟨_, rfl⟩
  have tap : ap.toInt = (f 154 o).toInt - (f 154 p).toInt := by rw [hap, zt_sub (by omega) (by omega)]
  obtain ⟨of, hof⟩ : ∃ of, of = f 154 p + zhe ap (-be) be := ⟨_, rfl⟩
  have of1 : -50 ≤ of.toInt ∧ of.toInt ≤ 50 := by
    rw [hof, hap]
    exact zfo_in (by omega) (by omega) ⟨by omega, by omega⟩ ⟨by omega, by omega⟩
  obtain ⟨fq1, fq2⟩ := zfo_eq (a := ap) (b := be) (by omega) (by omega) (by omega) (by omega)
  -- the reference, as far as the draw
  obtain ⟨r0, hr0⟩ : ∃ r0, r0 = zuI (zuI r 179 (52 + p) (nI o + 1)) 179 (28 + p) (r 182 (28 + o)) := ⟨_, rfl⟩
  have r0i : ∀ i, ¬ i = 179 → r0 i = r i := fun i hi => by rw [hr0, zi_ne hi, zi_ne hi]
  have hLr : ∀ S : Nat → Nat → Int32, (∀ i, ¬ i = 179 → ¬ i = 198 → ¬ i = 199 → S i = r i) → zLj S (f 14) k wl al bl cl := fun S hS => by
    obtain ⟨l1, l2, l3⟩ := hL
    unfold zLj
    rw [hS 187 (by omega) (by omega) (by omega), hS 188 (by omega) (by omega) (by omega), hS 189 (by omega) (by omega) (by omega), hS 190 (by omega) (by omega) (by omega), hS 191 (by omega) (by omega) (by omega), hS 192 (by omega) (by omega) (by omega), hS 193 (by omega) (by omega) (by omega)]
    exact ⟨l1, l2, l3⟩
  obtain ⟨v1, R1, g1, ⟨ev1, hR1, eg1⟩, q1⟩ := zCpi_en (l230 (X := X) (d := e + 2) (f := r0) (g := gr) (K := fun v f g => be = v ∧ zSr r0 f ∧ g = gr) (B := B) (cd := f 14) (k := k) (wl := wl) (al := al) (bl := bl) (cl := cl) (P := P) (by rw [r0i 182 (by omega), r0i 178 (by omega), r0i 183 (by omega)]; exact hH) hc hn (fun k hk => by rw [r0i 197 (by omega)]; exact hpl k hk) (hLr r0 (fun i a _ _ => r0i i a)) hp ho (fun F hF => ⟨hbe, hF, rfl⟩))
  subst ev1 eg1
  obtain ⟨r1, hr1⟩ : ∃ r1, r1 = zuI R1 179 (40 + p) of := ⟨_, rfl⟩
  have r1i : ∀ i, ¬ i = 179 → ¬ i = 198 → ¬ i = 199 → r1 i = r i := fun i a b c => by rw [hr1, zi_ne a, hR1 i b c, r0i i a]
  obtain ⟨v2, R2, g2, ⟨ev2, hR2, eg2⟩, q2⟩ := zCpi_en (l231 (X := X) (d := e + 2) (f := r1) (g := g1) (K := fun v f g => sl = v ∧ zSr r1 f ∧ g = g1) (B := B) (cd := f 14) (k := k) (wl := wl) (al := al) (bl := bl) (cl := cl) (P := P) (by rw [r1i 182 (by omega) (by omega) (by omega), r1i 178 (by omega) (by omega) (by omega), r1i 183 (by omega) (by omega) (by omega)]; exact hH) hc hn (fun k hk => by rw [r1i 197 (by omega) (by omega) (by omega)]; exact hpl k hk) (hLr r1 r1i) hp ho (fun F hF => ⟨hsl, hF, rfl⟩))
  subst ev2 eg2
  have R2i : ∀ i, ¬ i = 179 → ¬ i = 198 → ¬ i = 199 → R2 i = r i := fun i a b c => by rw [hR2 i b c, r1i i a b c]
  have R2n : ∀ j, R2 179 j = if j = 40 + p then of else if j = 28 + p then nI ko else if j = 52 + p then nI (o + 1) else r 179 j := fun j => by
    rw [hR2 179 (by omega) (by omega), hr1, zi_at, hR1 179 (by omega) (by omega), hr0, zi_at, zi_at, no2, nI_1]
  -- the class, as far as the draw
  apply e12_147
  rw [nI_cl (k := o) (by omega), nI_cl (k := p) (by omega), if_neg (nI_in' (c := o) (N := 12) (by omega) (by omega)), if_neg (nI_in' (c := p) (N := 12) (by omega) (by omega)), q286, zsO.2, ← hap]
  refine l11_147 (d := d + 1) (w := 2) hA (by omega) hp ho (fun G hG => ?_)
  rw [← hbe, q288]
  obtain ⟨M, hM⟩ : ∃ M, M = zuI (zuI G 8 p of) 7 p (f 153 o) := ⟨_, rfl⟩
  have eA : 0 ≤ ap → G 154 p + zmn (zab ap) be = of := fun z => by rw [hG.1 154 (by omega) (by omega), fq1 z, hof]
  have eB : ¬ 0 ≤ ap → G 154 p + -(zmn (zab ap) be) = of := fun z => by rw [hG.1 154 (by omega) (by omega), fq2 z, hof]
  have eN : G 153 o = f 153 o := by rw [hG.1 153 (by omega) (by omega)]
  have hMi : ∀ i, ¬ i = 7 → ¬ i = 8 → ¬ i = 157 → ¬ i = 19 → M i = f i := fun i a b c d' => by rw [hM, zi_ne a, zi_ne b, hG.1 i c d']
  have hAM : zAc_147 M g n P k wl al bl cl := zAc_147_g hA (fun i hi => hMi i (by omega) (by omega) (by omega) (by omega)) (by rw [hM, zi_ne (by omega), zi_ne (by omega)]; exact hG.2.1) (by rw [hM, zi_ne (by omega), zi_ne (by omega)]; exact hG.2.2)
  have hgo : ∀ K0 : Int32 → (Nat → Nat → Int32) → (Nat → Nat → Int64) → Prop, (∀ G2, zSc 157 M G2 → K0 sl G2 g) → zCpi X (d + 7) 11 [.ref 147, .int 129, .int (nI p), .int (nI o)] (zs M g) K0 := fun K0 h0 => by
    refine l11_147 (d := d + 1) (w := 1) hAM (by omega) hp ho (fun G2 hG2 => ?_)
    have z := h0 G2 hG2
    rw [hsl] at z
    rw [hMi 14 (by omega) (by omega) (by omega) (by omega), hMi 148 (by omega) (by omega) (by omega) (by omega), hMi 149 (by omega) (by omega) (by omega) (by omega), hMi 150 (by omega) (by omega) (by omega) (by omega), hMi 151 (by omega) (by omega) (by omega) (by omega), hMi 152 (by omega) (by omega) (by omega) (by omega), hMi 153 (by omega) (by omega) (by omega) (by omega), hMi 154 (by omega) (by omega) (by omega) (by omega), hMi 156 (by omega) (by omega) (by omega) (by omega)]
    exact z
  have htail : ∀ G2, zSc 157 M G2 → zCpi X (d + 7) 13 [.ref 147, .int sl] (zs G2 g) (fun v15 f13 g14 => if v15 = 0 then K 0 f13 g14 else K 1 (zuI (zuI f13 7 p (f13 153 o + 1 - (f13 153 o + 1) / 12 * 12)) 10 p (f13 10 p + 1)) g14) := fun G2 hG2 => by
    have G2i : ∀ i, ¬ i = 7 → ¬ i = 8 → ¬ i = 157 → ¬ i = 19 → G2 i = f i := fun i a b c d' => by rw [hG2.1 i c d', hMi i a b c d']
    have G25 : ∀ q, G2 7 q = if q = p then nI ko - 1 else f 7 q := fun q => by rw [hG2.1 7 (by omega) (by omega), hM, zi_at, zi_ne (by omega), hG.1 7 (by omega) (by omega), no1]
    have G26 : ∀ q, G2 8 q = if q = p then of else f 8 q := fun q => by rw [hG2.1 8 (by omega) (by omega), hM, zi_ne (by omega), zi_at, hG.1 8 (by omega) (by omega)]
    have G27 : G2 157 7 = f 157 7 := by rw [hG2.2.1, hM, zi_ne (by omega), zi_ne (by omega)]; exact hG.2.1
    have G28 : G2 157 8 = f 157 8 := by rw [hG2.2.2, hM, zi_ne (by omega), zi_ne (by omega)]; exact hG.2.2
    have hP2 : zPr_147 G2 R2 := zPr_147_g hPr (by rw [G2i 147 (by omega) (by omega) (by omega) (by omega)]) (by rw [G2i 11 (by omega) (by omega) (by omega) (by omega)]) (G2i 12 (by omega) (by omega) (by omega) (by omega)) (by rw [R2i 178 (by omega) (by omega) (by omega)]) (by rw [R2n, if_neg (by omega), if_neg (by omega), if_neg (by omega)]) (R2i 184 (by omega) (by omega) (by omega))
    have hst2 : G2 2 9 = R2 179 1 := by rw [G2i 2 (by omega) (by omega) (by omega) (by omega), R2n, if_neg (by omega), if_neg (by omega), if_neg (by omega)]; exact hst
    obtain ⟨v, st, hv, hc1, hc2⟩ := hp_147 (X := X) (d := d + 5) (e := e + 5) (g := g) (gr := g2) hP2 hst2 sl1.1 sl1.2
    rw [hc1]
    have href : ∀ K' : Int32 → (Nat → Nat → Int32) → (Nat → Nat → Int64) → Prop, zCpi X (e + 8) 229 [.ref 178, .int (nI p), .int (nI o)] (zs r g2) K' = if v = 0 then K' 0 (zuI R2 179 1 st) g2 else zCpv X (e + 7) 235 [.ref 178, .int 0, .int (nI p), .int (nI (ko % 12 + 1) - 1)] (zs (zuI (zuI (zuI R2 179 1 st) 179 (28 + p) (nI (ko % 12 + 1))) 179 (64 + p) (f 10 p + 1)) g2) (fun f g => K' 1 f g) := fun K' => by
      have i28o := nI_in (c := 28 + o) (N := 76) (by omega) (by omega)
      have i28p := nI_in (c := 28 + p) (N := 76) (by omega) (by omega)
      have i40o := nI_in (c := 40 + o) (N := 76) (by omega) (by omega)
      have i40p := nI_in (c := 40 + p) (N := 76) (by omega) (by omega)
      have i52p := nI_in (c := 52 + p) (N := 76) (by omega) (by omega)
      have i64p := nI_in (c := 64 + p) (N := 76) (by omega) (by omega)
      have t0 : zCpi X (e + 8) 229 [.ref 178, .int (nI p), .int (nI o)] (zs r g2) (fun v f g => (v = 0 ∧ f = zuI R2 179 1 st ∧ g = g2) ∨ v = 1) → True := fun _ => trivial
      have hstep : ∀ K2 : Int32 → (Nat → Nat → Int32) → (Nat → Nat → Int64) → Prop, (if v = 0 then K2 0 (zuI R2 179 1 st) g2 else zCpv X (e + 7) 235 [.ref 178, .int 0, .int (nI p), .int (nI (ko % 12 + 1) - 1)] (zs (zuI (zuI (zuI R2 179 1 st) 179 (28 + p) (nI (ko % 12 + 1))) 179 (64 + p) (f 10 p + 1)) g2) (fun f g => K2 1 f g)) → zCpi X (e + 8) 229 [.ref 178, .int (nI p), .int (nI o)] (zs r g2) K2 := fun K2 hK2 => by
        apply e229_178
        rw [nI_l52, nI_l28, nI_l28, nI_l40, nI_l40, nI_l64, if_neg i52p, if_neg i28o, if_neg i28p, if_neg i40o, if_neg i40p, nI_cl (k := 52 + p) (by omega), nI_cl (k := 28 + p) (by omega), nI_cl (k := 28 + o) (by omega), nI_cl (k := 40 + o) (by omega), nI_cl (k := 40 + p) (by omega), nI_cl (k := 64 + p) (by omega), ← hr0, q1]
        have e1 : R1 182 = r 182 := by rw [hR1 182 (by omega) (by omega), r0i 182 (by omega)]
        rw [if_neg (nI_in' (c := 40 + p) (N := 76) (by omega) (by omega)), q228, znO.2, zsO.2, oo1, op1, ← hap, if_neg (nI_in' (c := 40 + p) (N := 76) (by omega) (by omega)), e1, op1, ← hof, ← hr1, q2, hc2]
        rcases hv with rfl | rfl
        · rw [if_pos rfl] at hK2
          rw [if_pos rfl]
          simp only [true_or, or_true, false_or, or_false, or_self, and_self, true_and, and_true, not_true_eq_false, not_false_eq_true, ↓reduceIte, eq_self, zq_01, zq_10, zq_m0, zq_m1, zq_0m, zq_1m, zq_2, zq_6, zq_8, zq_10z, zq_12, zq_1000, Int32.reduceLT, Int32.reduceLE, Int32.reduceToInt, Int32.reduceToNatClampNeg, Int32.reduceOfNat, Int.reduceLT, Int.reduceLE, Int.reduceEq, Nat.reduceLeDiff, Nat.reduceEqDiff, zl_2, zl_8, zl_12, zl_50, zl_132, zl_133, zl_134, zl_999, zl_10000]
          exact hK2
        · rw [if_neg (by decide)] at hK2
          rw [if_neg (by decide), if_neg (nI_in' (c := 28 + p) (N := 76) (by omega) (by omega)), if_neg (by decide), if_neg (nI_in' (c := 28 + p) (N := 76) (by omega) (by omega)), if_neg (nI_in' (c := 64 + p) (N := 76) (by omega) (by omega)), if_neg (nI_in' (c := 64 + p) (N := 76) (by omega) (by omega)), q234 (by omega)]
          have a1 : zuI R2 179 1 st 179 (28 + p) = nI ko := by rw [zi_at, if_neg (by omega), R2n, if_neg (by omega), if_pos rfl]
          have a3 : zuI (zuI R2 179 1 st) 179 (28 + p) (nI (ko % 12 + 1)) 179 (64 + p) = f 10 p := by rw [zi_at, if_neg (by omega), zi_at, if_neg (by omega), R2n, if_neg (by omega), if_neg (by omega), if_neg (by omega), hwr]
          have a2 : zuI (zuI (zuI R2 179 1 st) 179 (28 + p) (nI (ko % 12 + 1))) 179 (64 + p) (f 10 p + 1) 179 (28 + p) = nI (ko % 12 + 1) := by rw [zi_at, if_neg (by omega), zi_at, if_pos rfl]
          rw [zrO.2, a1, (zr12 hko0 hko).2, a3, a2]
          simp only [true_or, or_true, false_or, or_false, or_self, and_self, true_and, and_true, not_true_eq_false, not_false_eq_true, ↓reduceIte, eq_self, zq_01, zq_10, zq_m0, zq_m1, zq_0m, zq_1m, zq_2, zq_6, zq_8, zq_10z, zq_12, zq_1000, Int32.reduceLT, Int32.reduceLE, Int32.reduceToInt, Int32.reduceToNatClampNeg, Int32.reduceOfNat, Int.reduceLT, Int.reduceLE, Int.reduceEq, Nat.reduceLeDiff, Nat.reduceEqDiff, zl_2, zl_8, zl_12, zl_50, zl_132, zl_133, zl_134, zl_999, zl_10000]
          exact hK2
      refine propext ⟨fun z => ?_, hstep K'⟩
      rcases hv with rfl | rfl
      · rw [if_pos rfl]
        have w := hstep (fun v f g => v = 0 ∧ f = zuI R2 179 1 st ∧ g = g2) (by rw [if_pos rfl]; exact ⟨rfl, rfl, rfl⟩)
        obtain ⟨v', f', g', ⟨w1, w2, w3⟩, w4⟩ := zCpi_en w
        rw [w4, w1, w2, w3] at z
        exact z
      · rw [if_neg (by decide)]
        have hwb : ∃ F' R', (∀ K : (Nat → Nat → Int32) → (Nat → Nat → Int64) → Prop, zCpv X (e + 7) 14 [.ref 147, .int 0, .int (nI p), .int (nI (ko % 12 + 1) - 1)] (zs (zuI G2 148 11 (R2 179 0)) g) K = K F' g) ∧ (∀ K : (Nat → Nat → Int32) → (Nat → Nat → Int64) → Prop, zCpv X (e + 7) 235 [.ref 178, .int 0, .int (nI p), .int (nI (ko % 12 + 1) - 1)] (zs (zuI (zuI (zuI R2 179 1 st) 179 (28 + p) (nI (ko % 12 + 1))) 179 (64 + p) (f 10 p + 1)) g2) K = K R' g2) ∧ zWt_147 (zuI G2 148 11 (R2 179 0)) (zuI (zuI (zuI R2 179 1 st) 179 (28 + p) (nI (ko % 12 + 1))) 179 (64 + p) (f 10 p + 1)) F' R' := wr_147 (d := e + 5) (e := e + 6) (zPr_147_g hP2 (by rw [zi_ne (by omega)]) (by rw [zi_ne (by omega)]) (by rw [zi_ne (by omega)]) (by rw [zi_ne (by omega), zi_ne (by omega), zi_ne (by omega)]) (by rw [zi_at, if_neg (by omega), zi_at, if_neg (by omega), zi_at, if_neg (by omega)]) (by rw [zi_ne (by omega), zi_ne (by omega), zi_ne (by omega)])) (by rw [zi_at, if_pos rfl, zi_at, if_neg (by omega), zi_at, if_neg (by omega), zi_at, if_neg (by omega)])
        obtain ⟨F', R', -, w2, -⟩ := hwb
        rw [w2]
        have w := hstep (fun v f g => v = 1 ∧ f = R' ∧ g = g2) (by rw [if_neg (by decide), w2]; exact ⟨rfl, rfl, rfl⟩)
        obtain ⟨v', f', g', ⟨w1, w3, w4⟩, w5⟩ := zCpi_en w
        rw [w5, w1, w3, w4] at z
        exact z
    rcases hv with rfl | rfl
    · rw [if_pos rfl]
      refine hK 0 (zuI G2 2 9 st) (zuI R2 179 1 st) ko of (f 10 p) st (Or.inl rfl) hko0 hko of1.1 of1.2 (Or.inl rfl) ⟨fun i a1 a2 a3 a4 a5 a6 => by rw [zi_ne a1]; exact G2i i a2 a3 a5 a6, by rw [zi_ne (by omega)]; exact G27, by rw [zi_ne (by omega)]; exact G28, fun j hj => by rw [zi_at, if_neg hj, G2i 2 (by omega) (by omega) (by omega) (by omega)], by rw [zi_at, if_pos rfl], fun q => by rw [zi_ne (by omega)]; exact G25 q, fun q => by rw [zi_ne (by omega)]; exact G26 q, fun q => ?_⟩ ⟨fun i a1 a2 a3 => by rw [zi_ne a1]; exact R2i i a1 a2 a3, by rw [zi_at, if_pos rfl], by rw [zi_at, if_neg (by omega), R2n, if_neg (by omega), if_pos rfl], by rw [zi_at, if_neg (by omega), R2n, if_pos rfl], by rw [zi_at, if_neg (by omega), R2n, if_neg (by omega), if_neg (by omega), if_pos rfl], by rw [zi_at, if_neg (by omega), R2n, if_neg (by omega), if_neg (by omega), if_neg (by omega)]; exact hwr, fun j a1 a2 a3 a4 a5 => by rw [zi_at, if_neg a1, R2n, if_neg a3, if_neg a2, if_neg a4]⟩ (fun K' => by rw [href, if_pos rfl, if_pos rfl])
      rw [zi_ne (by omega), G2i 10 (by omega) (by omega) (by omega) (by omega)]
      split
      · next e => rw [e]
      · rfl
    · rw [if_neg (by decide)]
      have hx : zuI G2 2 9 st 153 o = nI ko - 1 := by rw [zi_ne (by omega), G2i 153 (by omega) (by omega) (by omega) (by omega), no1]
      rw [hx, (zr12 hko0 hko).1]
      refine hK 1 (zuI (zuI (zuI G2 2 9 st) 7 p (nI (ko % 12 + 1) - 1)) 10 p (zuI G2 2 9 st 10 p + 1)) (zuI (zuI (zuI R2 179 1 st) 179 (28 + p) (nI (ko % 12 + 1))) 179 (64 + p) (f 10 p + 1)) (ko % 12 + 1) of (f 10 p + 1) st (Or.inr rfl) (by omega) (by omega) of1.1 of1.2 (Or.inr rfl) ⟨fun i a1 a2 a3 a4 a5 a6 => by rw [zi_ne a4, zi_ne a2, zi_ne a1]; exact G2i i a2 a3 a5 a6, by rw [zi_ne (by omega), zi_ne (by omega), zi_ne (by omega)]; exact G27, by rw [zi_ne (by omega), zi_ne (by omega), zi_ne (by omega)]; exact G28, fun j hj => by rw [zi_ne (by omega), zi_ne (by omega), zi_at, if_neg hj, G2i 2 (by omega) (by omega) (by omega) (by omega)], by rw [zi_ne (by omega), zi_ne (by omega), zi_at, if_pos rfl], fun q => ?_, fun q => by rw [zi_ne (by omega), zi_ne (by omega), zi_ne (by omega)]; exact G26 q, fun q => ?_⟩ ⟨fun i a1 a2 a3 => by rw [zi_ne a1, zi_ne a1, zi_ne a1]; exact R2i i a1 a2 a3, by rw [zi_at, if_neg (by omega), zi_at, if_neg (by omega), zi_at, if_pos rfl], by rw [zi_at, if_neg (by omega), zi_at, if_pos rfl], by rw [zi_at, if_neg (by omega), zi_at, if_neg (by omega), zi_at, if_neg (by omega), R2n, if_pos rfl], by rw [zi_at, if_neg (by omega), zi_at, if_neg (by omega), zi_at, if_neg (by omega), R2n, if_neg (by omega), if_neg (by omega), if_pos rfl], by rw [zi_at, if_pos rfl], fun j a1 a2 a3 a4 a5 => by rw [zi_at, if_neg a5, zi_at, if_neg a2, zi_at, if_neg a1, R2n, if_neg a3, if_neg a2, if_neg a4]⟩ (fun K' => by rw [href, if_neg (by decide), if_neg (by decide)])
      · rw [zi_ne (by omega), zi_at, zi_ne (by omega), G25]
        split <;> rfl
      · rw [zi_at, zi_ne (by omega), zi_ne (by omega), zi_ne (by omega), G2i 10 (by omega) (by omega) (by omega) (by omega)]
  rw [if_neg (nI_in' (c := p) (N := 12) (by omega) (by omega))]
  by_cases ha : 0 ≤ ap
  · rw [if_pos ha, if_neg (nI_in' (c := p) (N := 12) (by omega) (by omega)), if_neg (nI_in' (c := o) (N := 12) (by omega) (by omega)), if_neg (nI_in' (c := p) (N := 12) (by omega) (by omega)), eA ha, eN, ← hM]
    refine hgo _ (fun G2 hG2 => ?_)
    have z := htail G2 hG2
    simp only [if_neg (nI_in' (c := p) (N := 12) (by omega) (by omega)), if_neg (nI_in' (c := o) (N := 12) (by omega) (by omega)), zrO.2, zi_ne, Nat.reduceEqDiff, true_or, or_true, false_or, or_false, or_self, and_self, true_and, and_true, not_true_eq_false, not_false_eq_true, ↓reduceIte, eq_self, zq_01, zq_10, zq_m0, zq_m1, zq_0m, zq_1m, zq_2, zq_6, zq_8, zq_10z, zq_12, zq_1000, Int32.reduceLT, Int32.reduceLE, Int32.reduceToInt, Int32.reduceToNatClampNeg, Int32.reduceOfNat, Int.reduceLT, Int.reduceLE, Int.reduceEq, Nat.reduceLeDiff, Nat.reduceEqDiff, zl_2, zl_8, zl_12, zl_50, zl_132, zl_133, zl_134, zl_999, zl_10000] at z ⊢
    exact z
  · rw [if_neg ha, if_neg (nI_in' (c := p) (N := 12) (by omega) (by omega)), if_neg (nI_in' (c := o) (N := 12) (by omega) (by omega)), if_neg (nI_in' (c := p) (N := 12) (by omega) (by omega)), znO.2, eB ha, eN, ← hM]
    refine hgo _ (fun G2 hG2 => ?_)
    have z := htail G2 hG2
    simp only [if_neg (nI_in' (c := p) (N := 12) (by omega) (by omega)), if_neg (nI_in' (c := o) (N := 12) (by omega) (by omega)), zrO.2, zi_ne, Nat.reduceEqDiff, true_or, or_true, false_or, or_false, or_self, and_self, true_and, and_true, not_true_eq_false, not_false_eq_true, ↓reduceIte, eq_self, zq_01, zq_10, zq_m0, zq_m1, zq_0m, zq_1m, zq_2, zq_6, zq_8, zq_10z, zq_12, zq_1000, Int32.reduceLT, Int32.reduceLE, Int32.reduceToInt, Int32.reduceToNatClampNeg, Int32.reduceOfNat, Int.reduceLT, Int.reduceLE, Int.reduceEq, Nat.reduceLeDiff, Nat.reduceEqDiff, zl_2, zl_8, zl_12, zl_50, zl_132, zl_133, zl_134, zl_999, zl_10000] at z ⊢
    exact z
theorem zAc_158_g {F : Nat → Nat → Int32} (h : zAc_158 f g n P k wl al bl cl) (e : ∀ i, (13 ≤ i ∧ i ≤ 18) ∨ (159 ≤ i ∧ i ≤ 167) → F i = f i) (e7 : F 168 7 = f 168 7) (e8 : F 168 8 = f 168 8) : zAc_158 F g n P k wl al bl cl := by
  obtain ⟨h1, h2, h3, h4, ⟨l1, l2, l3⟩, h6, h7, h8⟩ := h
  unfold zAc_158 zLk
  rw [e 159 (by omega), e 162 (by omega), e 163 (by omega), e 164 (by omega), e 13 (by omega), e 14 (by omega), e 15 (by omega), e 16 (by omega), e 17 (by omega), e 18 (by omega), e7, e8]
  exact ⟨h1, h2, h3, h4, ⟨l1, l2, l3⟩, h6, h7, h8⟩
theorem zPr_158_g {F R : Nat → Nat → Int32} (h : zPr_158 f r) (e1 : F 158 2 = f 158 2) (e2 : F 11 1 = f 11 1) (e3 : F 12 = f 12) (e4 : R 178 5 = r 178 5) (e5 : R 179 2 = r 179 2) (e6 : R 184 = r 184) : zPr_158 F R := by
  unfold zPr_158 at h ⊢
  simp only [e1, e2, e3, e4, e5, e6]
  exact h
set_option maxHeartbeats 2000000 in
theorem fo_158 (hA : zAc_158 f g n P k wl al bl cl) (hH : zHal (f 159 8) (f 159 9) (f 159 10) (f 159 11) (f 160) (f 161) (f 162) (f 163) (f 164) (f 165) (f 166) (f 167) (r 182) (r 178 7) (r 183) B) (hpl : ∀ k, k < 48 → r 197 k = if P.testBit k = true then 1 else 0) (hL : zLj r (f 14) k wl al bl cl) (hPr : zPr_158 f r) (hst : f 138 9 = r 179 1) (hwr : r 179 (64 + p) = f 146 p) (hp : p < n) (ho : o < n) (hs : ¬ f 164 o = -1)
    (hK : ∀ (v : Int32) (F R : Nat → Nat → Int32) (kn : Nat) (of wr st : Int32), (v = 0 ∨ v = 1) → 1 ≤ kn → kn ≤ 12 → -50 ≤ of.toInt → of.toInt ≤ 50 → (wr = f 146 p ∨ wr = f 146 p + 1) → zUc 138 168 p f F kn of wr st → zUr p r R kn (o + 1) of wr st → (∀ K' : Int32 → (Nat → Nat → Int32) → (Nat → Nat → Int64) → Prop, zCpi X (e + 8) 229 [.ref 178, .int (nI p), .int (nI o)] (zs r gr) K' = if v = 0 then K' 0 R gr else zCpv X (e + 7) 235 [.ref 178, .int 0, .int (nI p), .int (nI kn - 1)] (zs R gr) (fun f g => K' 1 f g)) → K v F g) : zCpi X (d + 8) 12 [.ref 158, .int (nI p), .int (nI o)] (zs f g) K := by
  have hn : n ≤ 12 := hA.1
  have hc : f 159 8 = nI n := hA.2.2.1
  obtain ⟨⟨kp, hkp, np1, np2⟩, op1, op2, op3⟩ := zHal_at hH hc hn hp
  obtain ⟨⟨ko, hko, no1, no2⟩, oo1, oo2, oo3⟩ := zHal_at hH hc hn ho
  have hko0 : 1 ≤ ko := by
    rcases Nat.eq_zero_or_pos ko with z | z
    · exact absurd (by rw [no1, z]; decide) hs
    · exact z
  obtain ⟨be, hbe⟩ : ∃ be, be = zLa (f 14) wl al bl cl k 2 (zVv (f 160) (f 161) (f 162) (f 163) (f 164) (f 165) (f 167) (f 159 11) n P p o) := ⟨_, rfl⟩
  obtain ⟨sl, hsl⟩ : ∃ sl, sl = zLa (f 14) wl al bl cl k 1 (zVv (f 160) (f 161) (f 162) (f 163) (f 164) (f 165) (f 167) (f 159 11) n P p o) := ⟨_, rfl⟩
  have be1 : 0 ≤ be.toInt ∧ be.toInt ≤ 50 := by
    rw [hbe]
    exact zhe_in (lo := 0) (hi := 50) (by decide)
  have sl1 : 0 ≤ sl.toInt ∧ sl.toInt ≤ 1000 := by
    rw [hsl]
    exact zhe_in (lo := 0) (hi := 1000) (by decide)
  obtain ⟨ap, hap⟩ : ∃ ap, ap = f 165 o - f 165 p := ⟨_, rfl⟩
  have tap : ap.toInt = (f 165 o).toInt - (f 165 p).toInt := by rw [hap, zt_sub (by omega) (by omega)]
  obtain ⟨of, hof⟩ : ∃ of, of = f 165 p + zhe ap (-be) be := ⟨_, rfl⟩
  have of1 : -50 ≤ of.toInt ∧ of.toInt ≤ 50 := by
    rw [hof, hap]
    exact zfo_in (by omega) (by omega) ⟨by omega, by omega⟩ ⟨by omega, by omega⟩
  obtain ⟨fq1, fq2⟩ := zfo_eq (a := ap) (b := be) (by omega) (by omega) (by omega) (by omega)
  -- the reference, as far as the draw
  obtain ⟨r0, hr0⟩ : ∃ r0, r0 = zuI (zuI r 179 (52 + p) (nI o + 1)) 179 (28 + p) (r 182 (28 + o)) := ⟨_, rfl⟩
  have r0i : ∀ i, ¬ i = 179 → r0 i = r i := fun i hi => by rw [hr0, zi_ne hi, zi_ne hi]
  have hLr : ∀ S : Nat → Nat → Int32, (∀ i, ¬ i = 179 → ¬ i = 198 → ¬ i = 199 → S i = r i) → zLj S (f 14) k wl al bl cl := fun S hS => by
    obtain ⟨l1, l2, l3⟩ := hL
    unfold zLj
    rw [hS 187 (by omega) (by omega) (by omega), hS 188 (by omega) (by omega) (by omega), hS 189 (by omega) (by omega) (by omega), hS 190 (by omega) (by omega) (by omega), hS 191 (by omega) (by omega) (by omega), hS 192 (by omega) (by omega) (by omega), hS 193 (by omega) (by omega) (by omega)]
    exact ⟨l1, l2, l3⟩
  obtain ⟨v1, R1, g1, ⟨ev1, hR1, eg1⟩, q1⟩ := zCpi_en (l230 (X := X) (d := e + 2) (f := r0) (g := gr) (K := fun v f g => be = v ∧ zSr r0 f ∧ g = gr) (B := B) (cd := f 14) (k := k) (wl := wl) (al := al) (bl := bl) (cl := cl) (P := P) (by rw [r0i 182 (by omega), r0i 178 (by omega), r0i 183 (by omega)]; exact hH) hc hn (fun k hk => by rw [r0i 197 (by omega)]; exact hpl k hk) (hLr r0 (fun i a _ _ => r0i i a)) hp ho (fun F hF => ⟨hbe, hF, rfl⟩))
  subst ev1 eg1
  obtain ⟨r1, hr1⟩ : ∃ r1, r1 = zuI R1 179 (40 + p) of := ⟨_, rfl⟩
  have r1i : ∀ i, ¬ i = 179 → ¬ i = 198 → ¬ i = 199 → r1 i = r i := fun i a b c => by rw [hr1, zi_ne a, hR1 i b c, r0i i a]
  obtain ⟨v2, R2, g2, ⟨ev2, hR2, eg2⟩, q2⟩ := zCpi_en (l231 (X := X) (d := e + 2) (f := r1) (g := g1) (K := fun v f g => sl = v ∧ zSr r1 f ∧ g = g1) (B := B) (cd := f 14) (k := k) (wl := wl) (al := al) (bl := bl) (cl := cl) (P := P) (by rw [r1i 182 (by omega) (by omega) (by omega), r1i 178 (by omega) (by omega) (by omega), r1i 183 (by omega) (by omega) (by omega)]; exact hH) hc hn (fun k hk => by rw [r1i 197 (by omega) (by omega) (by omega)]; exact hpl k hk) (hLr r1 r1i) hp ho (fun F hF => ⟨hsl, hF, rfl⟩))
  subst ev2 eg2
  have R2i : ∀ i, ¬ i = 179 → ¬ i = 198 → ¬ i = 199 → R2 i = r i := fun i a b c => by rw [hR2 i b c, r1i i a b c]
  have R2n : ∀ j, R2 179 j = if j = 40 + p then of else if j = 28 + p then nI ko else if j = 52 + p then nI (o + 1) else r 179 j := fun j => by
    rw [hR2 179 (by omega) (by omega), hr1, zi_at, hR1 179 (by omega) (by omega), hr0, zi_at, zi_at, no2, nI_1]
  -- the class, as far as the draw
  apply e12_158
  rw [nI_cl (k := o) (by omega), nI_cl (k := p) (by omega), if_neg (nI_in' (c := o) (N := 12) (by omega) (by omega)), if_neg (nI_in' (c := p) (N := 12) (by omega) (by omega)), q286, zsO.2, ← hap]
  refine l11_158 (d := d + 1) (w := 2) hA (by omega) hp ho (fun G hG => ?_)
  rw [← hbe, q288]
  obtain ⟨M, hM⟩ : ∃ M, M = zuI (zuI G 144 p of) 143 p (f 164 o) := ⟨_, rfl⟩
  have eA : 0 ≤ ap → G 165 p + zmn (zab ap) be = of := fun z => by rw [hG.1 165 (by omega) (by omega), fq1 z, hof]
  have eB : ¬ 0 ≤ ap → G 165 p + -(zmn (zab ap) be) = of := fun z => by rw [hG.1 165 (by omega) (by omega), fq2 z, hof]
  have eN : G 164 o = f 164 o := by rw [hG.1 164 (by omega) (by omega)]
  have hMi : ∀ i, ¬ i = 143 → ¬ i = 144 → ¬ i = 168 → ¬ i = 19 → M i = f i := fun i a b c d' => by rw [hM, zi_ne a, zi_ne b, hG.1 i c d']
  have hAM : zAc_158 M g n P k wl al bl cl := zAc_158_g hA (fun i hi => hMi i (by omega) (by omega) (by omega) (by omega)) (by rw [hM, zi_ne (by omega), zi_ne (by omega)]; exact hG.2.1) (by rw [hM, zi_ne (by omega), zi_ne (by omega)]; exact hG.2.2)
  have hgo : ∀ K0 : Int32 → (Nat → Nat → Int32) → (Nat → Nat → Int64) → Prop, (∀ G2, zSc 168 M G2 → K0 sl G2 g) → zCpi X (d + 7) 11 [.ref 158, .int 129, .int (nI p), .int (nI o)] (zs M g) K0 := fun K0 h0 => by
    refine l11_158 (d := d + 1) (w := 1) hAM (by omega) hp ho (fun G2 hG2 => ?_)
    have z := h0 G2 hG2
    rw [hsl] at z
    rw [hMi 14 (by omega) (by omega) (by omega) (by omega), hMi 159 (by omega) (by omega) (by omega) (by omega), hMi 160 (by omega) (by omega) (by omega) (by omega), hMi 161 (by omega) (by omega) (by omega) (by omega), hMi 162 (by omega) (by omega) (by omega) (by omega), hMi 163 (by omega) (by omega) (by omega) (by omega), hMi 164 (by omega) (by omega) (by omega) (by omega), hMi 165 (by omega) (by omega) (by omega) (by omega), hMi 167 (by omega) (by omega) (by omega) (by omega)]
    exact z
  have htail : ∀ G2, zSc 168 M G2 → zCpi X (d + 7) 13 [.ref 158, .int sl] (zs G2 g) (fun v15 f13 g14 => if v15 = 0 then K 0 f13 g14 else K 1 (zuI (zuI f13 143 p (f13 164 o + 1 - (f13 164 o + 1) / 12 * 12)) 146 p (f13 146 p + 1)) g14) := fun G2 hG2 => by
    have G2i : ∀ i, ¬ i = 143 → ¬ i = 144 → ¬ i = 168 → ¬ i = 19 → G2 i = f i := fun i a b c d' => by rw [hG2.1 i c d', hMi i a b c d']
    have G25 : ∀ q, G2 143 q = if q = p then nI ko - 1 else f 143 q := fun q => by rw [hG2.1 143 (by omega) (by omega), hM, zi_at, zi_ne (by omega), hG.1 143 (by omega) (by omega), no1]
    have G26 : ∀ q, G2 144 q = if q = p then of else f 144 q := fun q => by rw [hG2.1 144 (by omega) (by omega), hM, zi_ne (by omega), zi_at, hG.1 144 (by omega) (by omega)]
    have G27 : G2 168 7 = f 168 7 := by rw [hG2.2.1, hM, zi_ne (by omega), zi_ne (by omega)]; exact hG.2.1
    have G28 : G2 168 8 = f 168 8 := by rw [hG2.2.2, hM, zi_ne (by omega), zi_ne (by omega)]; exact hG.2.2
    have hP2 : zPr_158 G2 R2 := zPr_158_g hPr (by rw [G2i 158 (by omega) (by omega) (by omega) (by omega)]) (by rw [G2i 11 (by omega) (by omega) (by omega) (by omega)]) (G2i 12 (by omega) (by omega) (by omega) (by omega)) (by rw [R2i 178 (by omega) (by omega) (by omega)]) (by rw [R2n, if_neg (by omega), if_neg (by omega), if_neg (by omega)]) (R2i 184 (by omega) (by omega) (by omega))
    have hst2 : G2 138 9 = R2 179 1 := by rw [G2i 138 (by omega) (by omega) (by omega) (by omega), R2n, if_neg (by omega), if_neg (by omega), if_neg (by omega)]; exact hst
    obtain ⟨v, st, hv, hc1, hc2⟩ := hp_158 (X := X) (d := d + 5) (e := e + 5) (g := g) (gr := g2) hP2 hst2 sl1.1 sl1.2
    rw [hc1]
    have href : ∀ K' : Int32 → (Nat → Nat → Int32) → (Nat → Nat → Int64) → Prop, zCpi X (e + 8) 229 [.ref 178, .int (nI p), .int (nI o)] (zs r g2) K' = if v = 0 then K' 0 (zuI R2 179 1 st) g2 else zCpv X (e + 7) 235 [.ref 178, .int 0, .int (nI p), .int (nI (ko % 12 + 1) - 1)] (zs (zuI (zuI (zuI R2 179 1 st) 179 (28 + p) (nI (ko % 12 + 1))) 179 (64 + p) (f 146 p + 1)) g2) (fun f g => K' 1 f g) := fun K' => by
      have i28o := nI_in (c := 28 + o) (N := 76) (by omega) (by omega)
      have i28p := nI_in (c := 28 + p) (N := 76) (by omega) (by omega)
      have i40o := nI_in (c := 40 + o) (N := 76) (by omega) (by omega)
      have i40p := nI_in (c := 40 + p) (N := 76) (by omega) (by omega)
      have i52p := nI_in (c := 52 + p) (N := 76) (by omega) (by omega)
      have i64p := nI_in (c := 64 + p) (N := 76) (by omega) (by omega)
      have t0 : zCpi X (e + 8) 229 [.ref 178, .int (nI p), .int (nI o)] (zs r g2) (fun v f g => (v = 0 ∧ f = zuI R2 179 1 st ∧ g = g2) ∨ v = 1) → True := fun _ => trivial
      have hstep : ∀ K2 : Int32 → (Nat → Nat → Int32) → (Nat → Nat → Int64) → Prop, (if v = 0 then K2 0 (zuI R2 179 1 st) g2 else zCpv X (e + 7) 235 [.ref 178, .int 0, .int (nI p), .int (nI (ko % 12 + 1) - 1)] (zs (zuI (zuI (zuI R2 179 1 st) 179 (28 + p) (nI (ko % 12 + 1))) 179 (64 + p) (f 146 p + 1)) g2) (fun f g => K2 1 f g)) → zCpi X (e + 8) 229 [.ref 178, .int (nI p), .int (nI o)] (zs r g2) K2 := fun K2 hK2 => by
        apply e229_178
        rw [nI_l52, nI_l28, nI_l28, nI_l40, nI_l40, nI_l64, if_neg i52p, if_neg i28o, if_neg i28p, if_neg i40o, if_neg i40p, nI_cl (k := 52 + p) (by omega), nI_cl (k := 28 + p) (by omega), nI_cl (k := 28 + o) (by omega), nI_cl (k := 40 + o) (by omega), nI_cl (k := 40 + p) (by omega), nI_cl (k := 64 + p) (by omega), ← hr0, q1]
        have e1 : R1 182 = r 182 := by rw [hR1 182 (by omega) (by omega), r0i 182 (by omega)]
        rw [if_neg (nI_in' (c := 40 + p) (N := 76) (by omega) (by omega)), q228, znO.2, zsO.2, oo1, op1, ← hap, if_neg (nI_in' (c := 40 + p) (N := 76) (by omega) (by omega)), e1, op1, ← hof, ← hr1, q2, hc2]
        rcases hv with rfl | rfl
        · rw [if_pos rfl] at hK2
          rw [if_pos rfl]
          simp only [true_or, or_true, false_or, or_false, or_self, and_self, true_and, and_true, not_true_eq_false, not_false_eq_true, ↓reduceIte, eq_self, zq_01, zq_10, zq_m0, zq_m1, zq_0m, zq_1m, zq_2, zq_6, zq_8, zq_10z, zq_12, zq_1000, Int32.reduceLT, Int32.reduceLE, Int32.reduceToInt, Int32.reduceToNatClampNeg, Int32.reduceOfNat, Int.reduceLT, Int.reduceLE, Int.reduceEq, Nat.reduceLeDiff, Nat.reduceEqDiff, zl_2, zl_8, zl_12, zl_50, zl_132, zl_133, zl_134, zl_999, zl_10000]
          exact hK2
        · rw [if_neg (by decide)] at hK2
          rw [if_neg (by decide), if_neg (nI_in' (c := 28 + p) (N := 76) (by omega) (by omega)), if_neg (by decide), if_neg (nI_in' (c := 28 + p) (N := 76) (by omega) (by omega)), if_neg (nI_in' (c := 64 + p) (N := 76) (by omega) (by omega)), if_neg (nI_in' (c := 64 + p) (N := 76) (by omega) (by omega)), q234 (by omega)]
          have a1 : zuI R2 179 1 st 179 (28 + p) = nI ko := by rw [zi_at, if_neg (by omega), R2n, if_neg (by omega), if_pos rfl]
          have a3 : zuI (zuI R2 179 1 st) 179 (28 + p) (nI (ko % 12 + 1)) 179 (64 + p) = f 146 p := by rw [zi_at, if_neg (by omega), zi_at, if_neg (by omega), R2n, if_neg (by omega), if_neg (by omega), if_neg (by omega), hwr]
          have a2 : zuI (zuI (zuI R2 179 1 st) 179 (28 + p) (nI (ko % 12 + 1))) 179 (64 + p) (f 146 p + 1) 179 (28 + p) = nI (ko % 12 + 1) := by rw [zi_at, if_neg (by omega), zi_at, if_pos rfl]
          rw [zrO.2, a1, (zr12 hko0 hko).2, a3, a2]
          simp only [true_or, or_true, false_or, or_false, or_self, and_self, true_and, and_true, not_true_eq_false, not_false_eq_true, ↓reduceIte, eq_self, zq_01, zq_10, zq_m0, zq_m1, zq_0m, zq_1m, zq_2, zq_6, zq_8, zq_10z, zq_12, zq_1000, Int32.reduceLT, Int32.reduceLE, Int32.reduceToInt, Int32.reduceToNatClampNeg, Int32.reduceOfNat, Int.reduceLT, Int.reduceLE, Int.reduceEq, Nat.reduceLeDiff, Nat.reduceEqDiff, zl_2, zl_8, zl_12, zl_50, zl_132, zl_133, zl_134, zl_999, zl_10000]
          exact hK2
      refine propext ⟨fun z => ?_, hstep K'⟩
      rcases hv with rfl | rfl
      · rw [if_pos rfl]
        have w := hstep (fun v f g => v = 0 ∧ f = zuI R2 179 1 st ∧ g = g2) (by rw [if_pos rfl]; exact ⟨rfl, rfl, rfl⟩)
        obtain ⟨v', f', g', ⟨w1, w2, w3⟩, w4⟩ := zCpi_en w
        rw [w4, w1, w2, w3] at z
        exact z
      · rw [if_neg (by decide)]
        have hwb : ∃ F' R', (∀ K : (Nat → Nat → Int32) → (Nat → Nat → Int64) → Prop, zCpv X (e + 7) 14 [.ref 158, .int 0, .int (nI p), .int (nI (ko % 12 + 1) - 1)] (zs (zuI G2 159 11 (R2 179 0)) g) K = K F' g) ∧ (∀ K : (Nat → Nat → Int32) → (Nat → Nat → Int64) → Prop, zCpv X (e + 7) 235 [.ref 178, .int 0, .int (nI p), .int (nI (ko % 12 + 1) - 1)] (zs (zuI (zuI (zuI R2 179 1 st) 179 (28 + p) (nI (ko % 12 + 1))) 179 (64 + p) (f 146 p + 1)) g2) K = K R' g2) ∧ zWt_158 (zuI G2 159 11 (R2 179 0)) (zuI (zuI (zuI R2 179 1 st) 179 (28 + p) (nI (ko % 12 + 1))) 179 (64 + p) (f 146 p + 1)) F' R' := wr_158 (d := e + 5) (e := e + 6) (zPr_158_g hP2 (by rw [zi_ne (by omega)]) (by rw [zi_ne (by omega)]) (by rw [zi_ne (by omega)]) (by rw [zi_ne (by omega), zi_ne (by omega), zi_ne (by omega)]) (by rw [zi_at, if_neg (by omega), zi_at, if_neg (by omega), zi_at, if_neg (by omega)]) (by rw [zi_ne (by omega), zi_ne (by omega), zi_ne (by omega)])) (by rw [zi_at, if_pos rfl, zi_at, if_neg (by omega), zi_at, if_neg (by omega), zi_at, if_neg (by omega)])
        obtain ⟨F', R', -, w2, -⟩ := hwb
        rw [w2]
        have w := hstep (fun v f g => v = 1 ∧ f = R' ∧ g = g2) (by rw [if_neg (by decide), w2]; exact ⟨rfl, rfl, rfl⟩)
        obtain ⟨v', f', g', ⟨w1, w3, w4⟩, w5⟩ := zCpi_en w
        rw [w5, w1, w3, w4] at z
        exact z
    rcases hv with rfl | rfl
    · rw [if_pos rfl]
      refine hK 0 (zuI G2 138 9 st) (zuI R2 179 1 st) ko of (f 146 p) st (Or.inl rfl) hko0 hko of1.1 of1.2 (Or.inl rfl) ⟨fun i a1 a2 a3 a4 a5 a6 => by rw [zi_ne a1]; exact G2i i a2 a3 a5 a6, by rw [zi_ne (by omega)]; exact G27, by rw [zi_ne (by omega)]; exact G28, fun j hj => by rw [zi_at, if_neg hj, G2i 138 (by omega) (by omega) (by omega) (by omega)], by rw [zi_at, if_pos rfl], fun q => by rw [zi_ne (by omega)]; exact G25 q, fun q => by rw [zi_ne (by omega)]; exact G26 q, fun q => ?_⟩ ⟨fun i a1 a2 a3 => by rw [zi_ne a1]; exact R2i i a1 a2 a3, by rw [zi_at, if_pos rfl], by rw [zi_at, if_neg (by omega), R2n, if_neg (by omega), if_pos rfl], by rw [zi_at, if_neg (by omega), R2n, if_pos rfl], by rw [zi_at, if_neg (by omega), R2n, if_neg (by omega), if_neg (by omega), if_pos rfl], by rw [zi_at, if_neg (by omega), R2n, if_neg (by omega), if_neg (by omega), if_neg (by omega)]; exact hwr, fun j a1 a2 a3 a4 a5 => by rw [zi_at, if_neg a1, R2n, if_neg a3, if_neg a2, if_neg a4]⟩ (fun K' => by rw [href, if_pos rfl, if_pos rfl])
      rw [zi_ne (by omega), G2i 146 (by omega) (by omega) (by omega) (by omega)]
      split
      · next e => rw [e]
      · rfl
    · rw [if_neg (by decide)]
      have hx : zuI G2 138 9 st 164 o = nI ko - 1 := by rw [zi_ne (by omega), G2i 164 (by omega) (by omega) (by omega) (by omega), no1]
      rw [hx, (zr12 hko0 hko).1]
      refine hK 1 (zuI (zuI (zuI G2 138 9 st) 143 p (nI (ko % 12 + 1) - 1)) 146 p (zuI G2 138 9 st 146 p + 1)) (zuI (zuI (zuI R2 179 1 st) 179 (28 + p) (nI (ko % 12 + 1))) 179 (64 + p) (f 146 p + 1)) (ko % 12 + 1) of (f 146 p + 1) st (Or.inr rfl) (by omega) (by omega) of1.1 of1.2 (Or.inr rfl) ⟨fun i a1 a2 a3 a4 a5 a6 => by rw [zi_ne a4, zi_ne a2, zi_ne a1]; exact G2i i a2 a3 a5 a6, by rw [zi_ne (by omega), zi_ne (by omega), zi_ne (by omega)]; exact G27, by rw [zi_ne (by omega), zi_ne (by omega), zi_ne (by omega)]; exact G28, fun j hj => by rw [zi_ne (by omega), zi_ne (by omega), zi_at, if_neg hj, G2i 138 (by omega) (by omega) (by omega) (by omega)], by rw [zi_ne (by omega), zi_ne (by omega), zi_at, if_pos rfl], fun q => ?_, fun q => by rw [zi_ne (by omega), zi_ne (by omega), zi_ne (by omega)]; exact G26 q, fun q => ?_⟩ ⟨fun i a1 a2 a3 => by rw [zi_ne a1, zi_ne a1, zi_ne a1]; exact R2i i a1 a2 a3, by rw [zi_at, if_neg (by omega), zi_at, if_neg (by omega), zi_at, if_pos rfl], by rw [zi_at, if_neg (by omega), zi_at, if_pos rfl], by rw [zi_at, if_neg (by omega), zi_at, if_neg (by omega), zi_at, if_neg (by omega), R2n, if_pos rfl], by rw [zi_at, if_neg (by omega), zi_at, if_neg (by omega), zi_at, if_neg (by omega), R2n, if_neg (by omega), if_neg (by omega), if_pos rfl], by rw [zi_at, if_pos rfl], fun j a1 a2 a3 a4 a5 => by rw [zi_at, if_neg a5, zi_at, if_neg a2, zi_at, if_neg a1, R2n, if_neg a3, if_neg a2, if_neg a4]⟩ (fun K' => by rw [href, if_neg (by decide), if_neg (by decide)])
      · rw [zi_ne (by omega), zi_at, zi_ne (by omega), G25]
        split <;> rfl
      · rw [zi_at, zi_ne (by omega), zi_ne (by omega), zi_ne (by omega), G2i 146 (by omega) (by omega) (by omega) (by omega)]
  rw [if_neg (nI_in' (c := p) (N := 12) (by omega) (by omega))]
  by_cases ha : 0 ≤ ap
  · rw [if_pos ha, if_neg (nI_in' (c := p) (N := 12) (by omega) (by omega)), if_neg (nI_in' (c := o) (N := 12) (by omega) (by omega)), if_neg (nI_in' (c := p) (N := 12) (by omega) (by omega)), eA ha, eN, ← hM]
    refine hgo _ (fun G2 hG2 => ?_)
    have z := htail G2 hG2
    simp only [if_neg (nI_in' (c := p) (N := 12) (by omega) (by omega)), if_neg (nI_in' (c := o) (N := 12) (by omega) (by omega)), zrO.2, zi_ne, Nat.reduceEqDiff, true_or, or_true, false_or, or_false, or_self, and_self, true_and, and_true, not_true_eq_false, not_false_eq_true, ↓reduceIte, eq_self, zq_01, zq_10, zq_m0, zq_m1, zq_0m, zq_1m, zq_2, zq_6, zq_8, zq_10z, zq_12, zq_1000, Int32.reduceLT, Int32.reduceLE, Int32.reduceToInt, Int32.reduceToNatClampNeg, Int32.reduceOfNat, Int.reduceLT, Int.reduceLE, Int.reduceEq, Nat.reduceLeDiff, Nat.reduceEqDiff, zl_2, zl_8, zl_12, zl_50, zl_132, zl_133, zl_134, zl_999, zl_10000] at z ⊢
    exact z
  · rw [if_neg ha, if_neg (nI_in' (c := p) (N := 12) (by omega) (by omega)), if_neg (nI_in' (c := o) (N := 12) (by omega) (by omega)), if_neg (nI_in' (c := p) (N := 12) (by omega) (by omega)), znO.2, eB ha, eN, ← hM]
    refine hgo _ (fun G2 hG2 => ?_)
    have z := htail G2 hG2
    simp only [if_neg (nI_in' (c := p) (N := 12) (by omega) (by omega)), if_neg (nI_in' (c := o) (N := 12) (by omega) (by omega)), zrO.2, zi_ne, Nat.reduceEqDiff, true_or, or_true, false_or, or_false, or_self, and_self, true_and, and_true, not_true_eq_false, not_false_eq_true, ↓reduceIte, eq_self, zq_01, zq_10, zq_m0, zq_m1, zq_0m, zq_1m, zq_2, zq_6, zq_8, zq_10z, zq_12, zq_1000, Int32.reduceLT, Int32.reduceLE, Int32.reduceToInt, Int32.reduceToNatClampNeg, Int32.reduceOfNat, Int.reduceLT, Int.reduceLE, Int.reduceEq, Nat.reduceLeDiff, Nat.reduceEqDiff, zl_2, zl_8, zl_12, zl_50, zl_132, zl_133, zl_134, zl_999, zl_10000] at z ⊢
    exact z
end ZFP

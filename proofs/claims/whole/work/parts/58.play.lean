/-! one plays -/
/-- what is written of one who has played, the reference's side -/
def zTr (X : Nat × (Nat → Int32)) (D : Nat) (a1 : Int32) (f : Nat → Nat → Int32) (g : Nat → Nat → Int64) (K : (Nat → Nat → Int32) → (Nat → Nat → Int64) → Prop) : Prop := zCpi X D 217 [.ref 178, .int a1] (zs f g) (fun v53 f51 g52 => if v53 = 0 then (zCpi X D 217 [.ref 178, .int a1] (zs f51 g52) (fun v56 f54 g55 => if v56 = 0 then (zCpi X D 234 [.ref 178, .int a1] (zs f54 g55) (fun v59 f57 g58 => if v59 = -1 then (K f57 g58) else (zCpi X D 234 [.ref 178, .int a1] (zs f57 g58) (fun v62 f60 g61 => zCpv X D 235 [.ref 178, .int 2, .int a1, .int v62] (zs f60 g61) (fun f63 g64 => K f63 g64))))) else (K f54 g55))) else (zCpi X D 234 [.ref 178, .int a1] (zs f51 g52) (fun v67 f65 g66 => if v67 = -1 then (if (28 + a1) < 0 ∨ 76 ≤ (28 + a1).toNatClampNeg then False else (zCpv X D 235 [.ref 178, .int 1, .int a1, .int (zsO.1 (f65 182 ((28 + a1).toNatClampNeg)) 1)] (zs f65 g66) (fun f68 g69 => zCpi X D 217 [.ref 178, .int a1] (zs f68 g69) (fun v72 f70 g71 => if v72 = 0 then (zCpi X D 234 [.ref 178, .int a1] (zs f70 g71) (fun v75 f73 g74 => if v75 = -1 then (K f73 g74) else (zCpi X D 234 [.ref 178, .int a1] (zs f73 g74) (fun v78 f76 g77 => zCpv X D 235 [.ref 178, .int 2, .int a1, .int v78] (zs f76 g77) (fun f79 g80 => K f79 g80))))) else (K f70 g71))))) else (zCpi X D 217 [.ref 178, .int a1] (zs f65 g66) (fun v83 f81 g82 => if v83 = 0 then (zCpi X D 234 [.ref 178, .int a1] (zs f81 g82) (fun v86 f84 g85 => if v86 = -1 then (K f84 g85) else (zCpi X D 234 [.ref 178, .int a1] (zs f84 g85) (fun v89 f87 g88 => zCpv X D 235 [.ref 178, .int 2, .int a1, .int v89] (zs f87 g88) (fun f90 g91 => K f90 g91))))) else (K f81 g82))))))
/-- the same, the class's -/
def zTc_147 (X : Nat × (Nat → Int32)) (D : Nat) (a1 W : Int32) (f : Nat → Nat → Int32) (g : Nat → Nat → Int64) (K : (Nat → Nat → Int32) → (Nat → Nat → Int64) → Prop) : Prop := if W = -1 then (if W = -1 then (if a1 < 0 ∨ 12 ≤ a1.toNatClampNeg then False else (if (f 7 a1.toNatClampNeg) = -1 then (K f g) else (if a1 < 0 ∨ 12 ≤ a1.toNatClampNeg then False else (zCpv X D 14 [.ref 147, .int 2, .int a1, .int (f 7 a1.toNatClampNeg)] (zs f g) (fun f16 g17 => K f16 g17))))) else (K f g)) else (if a1 < 0 ∨ 12 ≤ a1.toNatClampNeg then False else (if (f 7 a1.toNatClampNeg) = -1 then (zCpv X D 14 [.ref 147, .int 1, .int a1, .int W] (zs f g) (fun f18 g19 => K f18 g19)) else (if W = -1 then (if a1 < 0 ∨ 12 ≤ a1.toNatClampNeg then False else (if (f 7 a1.toNatClampNeg) = -1 then (K f g) else (if a1 < 0 ∨ 12 ≤ a1.toNatClampNeg then False else (zCpv X D 14 [.ref 147, .int 2, .int a1, .int (f 7 a1.toNatClampNeg)] (zs f g) (fun f20 g21 => K f20 g21))))) else (K f g))))
/-- both sides in the midst of a beat: the first i have played -/
def zMi_147 (f : Nat → Nat → Int32) (g : Nat → Nat → Int64) (r : Nat → Nat → Int32) (n P k : Nat) (wl al bl cl : Nat → Nat) (B : Int) (i : Nat) : Prop := zAc_147 f g n P k wl al bl cl ∧ zHal (f 148 8) (f 148 9) (f 148 10) (f 148 11) (f 149) (f 150) (f 151) (f 152) (f 153) (f 154) (f 155) (f 156) (r 182) (r 178 7) (r 183) B ∧ zHm (f 2 8) (f 2 9) (f 2 10) (f 2 11) (f 3) (f 4) (f 5) (f 6) (f 7) (f 8) (f 9) (f 10) (r 179) (r 178 7) (r 183) B i ∧ f 2 8 = nI n ∧ (∀ k, k < 48 → r 197 k = if P.testBit k = true then 1 else 0) ∧ zLj r (f 14) k wl al bl cl ∧ zPr_147 f r ∧ zSco (f 20 1) (f 21) (r 178 33) (r 195) ∧ f 148 11 = r 179 0
/-- what one who plays may change -/
def zGc_147 (f F r R : Nat → Nat → Int32) : Prop := (∀ i, ¬ i = 2 → ¬ i = 7 → ¬ i = 8 → ¬ i = 9 → ¬ i = 10 → ¬ i = 157 → ¬ i = 19 → ¬ i = 11 → ¬ i = 12 → F i = f i) ∧ F 157 7 = f 157 7 ∧ F 157 8 = f 157 8 ∧ (∀ j, ¬ j = 9 → F 2 j = f 2 j) ∧ (∀ i, ¬ i = 179 → ¬ i = 184 → ¬ i = 198 → ¬ i = 199 → R i = r i) ∧ R 179 0 = r 179 0 ∧ R 179 3 = r 179 3
theorem zGc_147_rf {f r : Nat → Nat → Int32} : zGc_147 f f r r := ⟨fun _ _ _ _ _ _ _ _ _ _ => rfl, rfl, rfl, fun _ _ => rfl, fun _ _ _ _ _ => rfl, rfl, rfl⟩
theorem zGc_147_tr {f F G r R S : Nat → Nat → Int32} (h1 : zGc_147 f F r R) (h2 : zGc_147 F G R S) : zGc_147 f G r S := ⟨fun i a1 a2 a3 a4 a5 a6 a7 a8 a9 => (h2.1 i a1 a2 a3 a4 a5 a6 a7 a8 a9).trans (h1.1 i a1 a2 a3 a4 a5 a6 a7 a8 a9), h2.2.1.trans h1.2.1, h2.2.2.1.trans h1.2.2.1, fun j hj => (h2.2.2.2.1 j hj).trans (h1.2.2.2.1 j hj), fun i a1 a2 a3 a4 => (h2.2.2.2.2.1 i a1 a2 a3 a4).trans (h1.2.2.2.2.1 i a1 a2 a3 a4), h2.2.2.2.2.2.1.trans h1.2.2.2.2.2.1, h2.2.2.2.2.2.2.trans h1.2.2.2.2.2.2⟩
section ZPL147
variable {X : Nat × (Nat → Int32)} {d e : Nat} {f r : Nat → Nat → Int32} {g gr : Nat → Nat → Int64} {n P k p : Nat} {wl al bl cl : Nat → Nat} {B : Int}
theorem zMi_147_next {F R : Nat → Nat → Int32} {kn ka : Nat} {of wr : Int32} (hM : zMi_147 f g r n P k wl al bl cl B p) (hp : p < n) (hB : B ≤ 100000) (hG : zGc_147 f F r R) (hkn : kn ≤ 12) (hka : ka ≤ 12) (hof : -50 ≤ of.toInt) (hof2 : of.toInt ≤ 50) (hwr : wr = f 10 p ∨ wr = f 10 p + 1)
    (h5 : ∀ q, F 7 q = if q = p then nI kn - 1 else f 7 q) (h6 : ∀ q, F 8 q = if q = p then of else f 8 q) (h7 : ∀ q, F 9 q = if q = p then nI ka - 1 else f 9 q) (h8 : ∀ q, F 10 q = if q = p then wr else f 10 q)
    (r1 : R 179 1 = F 2 9) (r28 : R 179 (28 + p) = nI kn) (r40 : R 179 (40 + p) = of) (r52 : R 179 (52 + p) = nI ka) (r64 : R 179 (64 + p) = wr) (rj : ∀ j, ¬ j = 1 → ¬ j = 2 → ¬ j = 28 + p → ¬ j = 40 + p → ¬ j = 52 + p → ¬ j = 64 + p → R 179 j = r 179 j) (hPr : zPr_147 F R) : zMi_147 F g R n P k wl al bl cl B (p + 1) := by
  obtain ⟨hA, hH, hm, h8', hpl, hL, hP0, hS, hb⟩ := hM
  have hn : n ≤ 12 := hA.1
  have e := fun i (a1 : ¬ i = 2) (a2 : ¬ i = 7) (a3 : ¬ i = 8) (a4 : ¬ i = 9) (a5 : ¬ i = 10) (a6 : ¬ i = 157) (a7 : ¬ i = 19) (a8 : ¬ i = 11) (a9 : ¬ i = 12) => hG.1 i a1 a2 a3 a4 a5 a6 a7 a8 a9
  have er := fun i (a1 : ¬ i = 179) (a2 : ¬ i = 184) (a3 : ¬ i = 198) (a4 : ¬ i = 199) => hG.2.2.2.2.1 i a1 a2 a3 a4
  refine ⟨zAc_147_g hA (fun i hi => e i (by omega) (by omega) (by omega) (by omega) (by omega) (by omega) (by omega) (by omega) (by omega)) hG.2.1 hG.2.2.1, ?_, ?_, by rw [hG.2.2.2.1 8 (by omega)]; exact h8', fun k hk => by rw [er 197 (by omega) (by omega) (by omega) (by omega)]; exact hpl k hk, ?_, hPr, ?_, ?_⟩
  · rw [e 148 (by omega) (by omega) (by omega) (by omega) (by omega) (by omega) (by omega) (by omega) (by omega), e 149 (by omega) (by omega) (by omega) (by omega) (by omega) (by omega) (by omega) (by omega) (by omega), e 150 (by omega) (by omega) (by omega) (by omega) (by omega) (by omega) (by omega) (by omega) (by omega), e 151 (by omega) (by omega) (by omega) (by omega) (by omega) (by omega) (by omega) (by omega) (by omega), e 152 (by omega) (by omega) (by omega) (by omega) (by omega) (by omega) (by omega) (by omega) (by omega), e 153 (by omega) (by omega) (by omega) (by omega) (by omega) (by omega) (by omega) (by omega) (by omega), e 154 (by omega) (by omega) (by omega) (by omega) (by omega) (by omega) (by omega) (by omega) (by omega), e 155 (by omega) (by omega) (by omega) (by omega) (by omega) (by omega) (by omega) (by omega) (by omega), e 156 (by omega) (by omega) (by omega) (by omega) (by omega) (by omega) (by omega) (by omega) (by omega), er 182 (by omega) (by omega) (by omega) (by omega), er 178 (by omega) (by omega) (by omega) (by omega), er 183 (by omega) (by omega) (by omega) (by omega)]
    exact hH
  · rw [hG.2.2.2.1 8 (by omega), hG.2.2.2.1 10 (by omega), hG.2.2.2.1 11 (by omega), er 178 (by omega) (by omega) (by omega) (by omega), er 183 (by omega) (by omega) (by omega) (by omega), e 3 (by omega) (by omega) (by omega) (by omega) (by omega) (by omega) (by omega) (by omega) (by omega), e 4 (by omega) (by omega) (by omega) (by omega) (by omega) (by omega) (by omega) (by omega) (by omega), e 5 (by omega) (by omega) (by omega) (by omega) (by omega) (by omega) (by omega) (by omega) (by omega), e 6 (by omega) (by omega) (by omega) (by omega) (by omega) (by omega) (by omega) (by omega) (by omega)]
    refine zHm_put (p := p) hm (by omega) (fun q _ hq => ⟨rfl, rfl, rfl, rfl, by rw [h5, if_neg hq], by rw [h6, if_neg hq], by rw [h7, if_neg hq], by rw [h8, if_neg hq]⟩) (fun j _ a1 a2 _ _ a5 a6 a7 a8 => rj j a1 a2 a5 a6 a7 a8) r1 (by omega) (fun z => ?_)
    obtain ⟨b1, b2, b3, b4, b5, b6, b7, b8, b9, b10, b11⟩ := z
    rw [rj (4 + p) (by omega) (by omega) (by omega) (by omega) (by omega) (by omega), rj (16 + p) (by omega) (by omega) (by omega) (by omega) (by omega) (by omega), r28, r40, r52, r64, h5, h6, h7, h8, if_pos rfl, if_pos rfl, if_pos rfl, if_pos rfl]
    rw [if_neg (Nat.lt_irrefl p)] at b11
    rw [if_pos (Nat.lt_succ_self p)]
    have hw0 : (r 179 0).toInt ≤ B := hm.choose_spec.2.2.2.2.2.2.2.1
    refine ⟨b1, b2, b3, ⟨kn, hkn, rfl, rfl⟩, rfl, hof, hof2, ⟨ka, hka, rfl, rfl⟩, rfl, ?_, ?_⟩
    · rcases hwr with z | z
      · rw [z, ← b9]; exact b10
      · rw [z, ← b9, zt_add (by have : (1 : Int32).toInt = 1 := rfl; omega) (by have : (1 : Int32).toInt = 1 := rfl; omega)]
        have : (1 : Int32).toInt = 1 := rfl
        omega
    · rcases hwr with z | z
      · rw [z, ← b9]; omega
      · rw [z, ← b9, zt_add (by have : (1 : Int32).toInt = 1 := rfl; omega) (by have : (1 : Int32).toInt = 1 := rfl; omega)]
        have : (1 : Int32).toInt = 1 := rfl
        omega
  · obtain ⟨l1, l2, l3⟩ := hL
    unfold zLj
    rw [e 14 (by omega) (by omega) (by omega) (by omega) (by omega) (by omega) (by omega) (by omega) (by omega), er 187 (by omega) (by omega) (by omega) (by omega), er 188 (by omega) (by omega) (by omega) (by omega), er 189 (by omega) (by omega) (by omega) (by omega), er 190 (by omega) (by omega) (by omega) (by omega), er 191 (by omega) (by omega) (by omega) (by omega), er 192 (by omega) (by omega) (by omega) (by omega), er 193 (by omega) (by omega) (by omega) (by omega)]
    exact ⟨l1, l2, l3⟩
  · rw [e 20 (by omega) (by omega) (by omega) (by omega) (by omega) (by omega) (by omega) (by omega) (by omega), e 21 (by omega) (by omega) (by omega) (by omega) (by omega) (by omega) (by omega) (by omega) (by omega), er 178 (by omega) (by omega) (by omega) (by omega), er 195 (by omega) (by omega) (by omega) (by omega)]
    exact hS
  · rw [hG.2.2.2.2.2.1, e 148 (by omega) (by omega) (by omega) (by omega) (by omega) (by omega) (by omega) (by omega) (by omega)]
    exact hb
theorem tl_147 {kw kn : Nat} (hkw : kw ≤ 12) (hkn : kn ≤ 12) (hp : p < 12) (hPr : zPr_147 f r) (hb : f 148 11 = r 179 0) (hr : r 182 (28 + p) = nI kw) (h5 : f 7 p = nI kn - 1) (hrn : r 179 (28 + p) = nI kn) : ∃ F R, zWt_147 f r F R ∧ (∀ K : (Nat → Nat → Int32) → (Nat → Nat → Int64) → Prop, K F g → zTc_147 X (d + 2) (nI p) (nI kw - 1) f g K) ∧ (∀ K : (Nat → Nat → Int32) → (Nat → Nat → Int64) → Prop, K R gr → zTr X (e + 1) (nI p) r gr K) := by
  have i1 := nI_in' (c := p) (N := 12) (by omega) (by omega)
  have i2 := nI_in' (c := 28 + p) (N := 76) (by omega) (by omega)
  have kp := nI_cl (k := p) (by omega)
  have kp2 := nI_cl (k := 28 + p) (by omega)
  by_cases a : kw = 0
  · have cw : (nI kw - 1 = -1) = True := by rw [zmm1 hkw]; exact eq_true a
    have q1 : ∀ K : Int32 → (Nat → Nat → Int32) → (Nat → Nat → Int64) → Prop, zCpi X (e + 1) 217 [.ref 178, .int (nI p)] (zs r gr) K = K 0 r gr := fun K => by
      rw [q217 hp hkw hr]
      unfold zb
      rw [if_neg (fun z => z a)]
    by_cases b : kn = 0
    · have cn : (nI kn - 1 = -1) = True := by rw [zmm1 hkn]; exact eq_true b
      refine ⟨f, r, ⟨fun _ _ _ => rfl, fun _ _ _ => rfl, fun _ _ => rfl, zBk_147_rf hPr, hPr⟩, fun K hK => ?_, fun K hK => ?_⟩
      · unfold zTc_147
        simp only [kp, if_neg i1, h5, cw, cn, ↓reduceIte]
        exact hK
      · unfold zTr
        simp only [q1, q234 hp, hrn, cn, ↓reduceIte]
        exact hK
    · have cn : (nI kn - 1 = -1) = False := by rw [zmm1 hkn]; exact eq_false b
      obtain ⟨F, R, w1, w2, w3⟩ := wr_147 (X := X) (d := d) (e := e) (g := g) (gr := gr) (a1 := 2) (a2 := nI p) (a3 := nI kn - 1) hPr hb
      refine ⟨F, R, w3, fun K hK => ?_, fun K hK => ?_⟩
      · unfold zTc_147
        simp only [kp, if_neg i1, h5, cw, cn, ↓reduceIte]
        rw [w1]
        exact hK
      · unfold zTr
        simp only [q1, q234 hp, hrn, cn, ↓reduceIte]
        rw [w2]
        exact hK
  · have cw : (nI kw - 1 = -1) = False := by rw [zmm1 hkw]; exact eq_false a
    have q1 : ∀ (K : Int32 → (Nat → Nat → Int32) → (Nat → Nat → Int64) → Prop) (S : Nat → Nat → Int32), S 182 = r 182 → zCpi X (e + 1) 217 [.ref 178, .int (nI p)] (zs S gr) K = K 1 S gr := fun K S hS => by
      rw [q217 hp hkw (by rw [hS]; exact hr)]
      unfold zb
      rw [if_pos a]
    by_cases b : kn = 0
    · have cn : (nI kn - 1 = -1) = True := by rw [zmm1 hkn]; exact eq_true b
      obtain ⟨F, R, w1, w2, w3⟩ := wr_147 (X := X) (d := d) (e := e) (g := g) (gr := gr) (a1 := 1) (a2 := nI p) (a3 := nI kw - 1) hPr hb
      refine ⟨F, R, w3, fun K hK => ?_, fun K hK => ?_⟩
      · unfold zTc_147
        simp only [kp, if_neg i1, h5, cw, cn, ↓reduceIte]
        rw [w1]
        exact hK
      · unfold zTr
        rw [q1 _ r rfl, if_neg (by decide), q234 hp, hrn, if_pos (by rw [cn]; trivial), nI_l28, kp2, if_neg i2, zsO.2, hr, w2, q1 _ R (w3.2.1 182 (by omega) (by omega)), if_neg (by decide)]
        exact hK
    · have cn : (nI kn - 1 = -1) = False := by rw [zmm1 hkn]; exact eq_false b
      refine ⟨f, r, ⟨fun _ _ _ => rfl, fun _ _ _ => rfl, fun _ _ => rfl, zBk_147_rf hPr, hPr⟩, fun K hK => ?_, fun K hK => ?_⟩
      · unfold zTc_147
        simp only [kp, if_neg i1, h5, cw, cn, ↓reduceIte]
        exact hK
      · unfold zTr
        rw [q1 _ r rfl, if_neg (by decide), q234 hp, hrn, if_neg (by rw [cn]; exact id), q1 _ r rfl, if_neg (by decide)]
        exact hK
end ZPL147
/-- the same, the class's -/
def zTc_158 (X : Nat × (Nat → Int32)) (D : Nat) (a1 W : Int32) (f : Nat → Nat → Int32) (g : Nat → Nat → Int64) (K : (Nat → Nat → Int32) → (Nat → Nat → Int64) → Prop) : Prop := if W = -1 then (if W = -1 then (if a1 < 0 ∨ 12 ≤ a1.toNatClampNeg then False else (if (f 143 a1.toNatClampNeg) = -1 then (K f g) else (if a1 < 0 ∨ 12 ≤ a1.toNatClampNeg then False else (zCpv X D 14 [.ref 158, .int 2, .int a1, .int (f 143 a1.toNatClampNeg)] (zs f g) (fun f16 g17 => K f16 g17))))) else (K f g)) else (if a1 < 0 ∨ 12 ≤ a1.toNatClampNeg then False else (if (f 143 a1.toNatClampNeg) = -1 then (zCpv X D 14 [.ref 158, .int 1, .int a1, .int W] (zs f g) (fun f18 g19 => K f18 g19)) else (if W = -1 then (if a1 < 0 ∨ 12 ≤ a1.toNatClampNeg then False else (if (f 143 a1.toNatClampNeg) = -1 then (K f g) else (if a1 < 0 ∨ 12 ≤ a1.toNatClampNeg then False else (zCpv X D 14 [.ref 158, .int 2, .int a1, .int (f 143 a1.toNatClampNeg)] (zs f g) (fun f20 g21 => K f20 g21))))) else (K f g))))
/-- both sides in the midst of a beat: the first i have played -/
def zMi_158 (f : Nat → Nat → Int32) (g : Nat → Nat → Int64) (r : Nat → Nat → Int32) (n P k : Nat) (wl al bl cl : Nat → Nat) (B : Int) (i : Nat) : Prop := zAc_158 f g n P k wl al bl cl ∧ zHal (f 159 8) (f 159 9) (f 159 10) (f 159 11) (f 160) (f 161) (f 162) (f 163) (f 164) (f 165) (f 166) (f 167) (r 182) (r 178 7) (r 183) B ∧ zHm (f 138 8) (f 138 9) (f 138 10) (f 138 11) (f 139) (f 140) (f 141) (f 142) (f 143) (f 144) (f 145) (f 146) (r 179) (r 178 7) (r 183) B i ∧ f 138 8 = nI n ∧ (∀ k, k < 48 → r 197 k = if P.testBit k = true then 1 else 0) ∧ zLj r (f 14) k wl al bl cl ∧ zPr_158 f r ∧ zSco (f 20 1) (f 21) (r 178 33) (r 195) ∧ f 159 11 = r 179 0
/-- what one who plays may change -/
def zGc_158 (f F r R : Nat → Nat → Int32) : Prop := (∀ i, ¬ i = 138 → ¬ i = 143 → ¬ i = 144 → ¬ i = 145 → ¬ i = 146 → ¬ i = 168 → ¬ i = 19 → ¬ i = 11 → ¬ i = 12 → F i = f i) ∧ F 168 7 = f 168 7 ∧ F 168 8 = f 168 8 ∧ (∀ j, ¬ j = 9 → F 138 j = f 138 j) ∧ (∀ i, ¬ i = 179 → ¬ i = 184 → ¬ i = 198 → ¬ i = 199 → R i = r i) ∧ R 179 0 = r 179 0 ∧ R 179 3 = r 179 3
theorem zGc_158_rf {f r : Nat → Nat → Int32} : zGc_158 f f r r := ⟨fun _ _ _ _ _ _ _ _ _ _ => rfl, rfl, rfl, fun _ _ => rfl, fun _ _ _ _ _ => rfl, rfl, rfl⟩
theorem zGc_158_tr {f F G r R S : Nat → Nat → Int32} (h1 : zGc_158 f F r R) (h2 : zGc_158 F G R S) : zGc_158 f G r S := ⟨fun i a1 a2 a3 a4 a5 a6 a7 a8 a9 => (h2.1 i a1 a2 a3 a4 a5 a6 a7 a8 a9).trans (h1.1 i a1 a2 a3 a4 a5 a6 a7 a8 a9), h2.2.1.trans h1.2.1, h2.2.2.1.trans h1.2.2.1, fun j hj => (h2.2.2.2.1 j hj).trans (h1.2.2.2.1 j hj), fun i a1 a2 a3 a4 => (h2.2.2.2.2.1 i a1 a2 a3 a4).trans (h1.2.2.2.2.1 i a1 a2 a3 a4), h2.2.2.2.2.2.1.trans h1.2.2.2.2.2.1, h2.2.2.2.2.2.2.trans h1.2.2.2.2.2.2⟩
section ZPL158
variable {X : Nat × (Nat → Int32)} {d e : Nat} {f r : Nat → Nat → Int32} {g gr : Nat → Nat → Int64} {n P k p : Nat} {wl al bl cl : Nat → Nat} {B : Int}
theorem zMi_158_next {F R : Nat → Nat → Int32} {kn ka : Nat} {of wr : Int32} (hM : zMi_158 f g r n P k wl al bl cl B p) (hp : p < n) (hB : B ≤ 100000) (hG : zGc_158 f F r R) (hkn : kn ≤ 12) (hka : ka ≤ 12) (hof : -50 ≤ of.toInt) (hof2 : of.toInt ≤ 50) (hwr : wr = f 146 p ∨ wr = f 146 p + 1)
    (h5 : ∀ q, F 143 q = if q = p then nI kn - 1 else f 143 q) (h6 : ∀ q, F 144 q = if q = p then of else f 144 q) (h7 : ∀ q, F 145 q = if q = p then nI ka - 1 else f 145 q) (h8 : ∀ q, F 146 q = if q = p then wr else f 146 q)
    (r1 : R 179 1 = F 138 9) (r28 : R 179 (28 + p) = nI kn) (r40 : R 179 (40 + p) = of) (r52 : R 179 (52 + p) = nI ka) (r64 : R 179 (64 + p) = wr) (rj : ∀ j, ¬ j = 1 → ¬ j = 2 → ¬ j = 28 + p → ¬ j = 40 + p → ¬ j = 52 + p → ¬ j = 64 + p → R 179 j = r 179 j) (hPr : zPr_158 F R) : zMi_158 F g R n P k wl al bl cl B (p + 1) := by
  obtain ⟨hA, hH, hm, h8', hpl, hL, hP0, hS, hb⟩ := hM
  have hn : n ≤ 12 := hA.1
  have e := fun i (a1 : ¬ i = 138) (a2 : ¬ i = 143) (a3 : ¬ i = 144) (a4 : ¬ i = 145) (a5 : ¬ i = 146) (a6 : ¬ i = 168) (a7 : ¬ i = 19) (a8 : ¬ i = 11) (a9 : ¬ i = 12) => hG.1 i a1 a2 a3 a4 a5 a6 a7 a8 a9
  have er := fun i (a1 : ¬ i = 179) (a2 : ¬ i = 184) (a3 : ¬ i = 198) (a4 : ¬ i = 199) => hG.2.2.2.2.1 i a1 a2 a3 a4
  refine ⟨zAc_158_g hA (fun i hi => e i (by omega) (by omega) (by omega) (by omega) (by omega) (by omega) (by omega) (by omega) (by omega)) hG.2.1 hG.2.2.1, ?_, ?_, by rw [hG.2.2.2.1 8 (by omega)]; exact h8', fun k hk => by rw [er 197 (by omega) (by omega) (by omega) (by omega)]; exact hpl k hk, ?_, hPr, ?_, ?_⟩
  · rw [e 159 (by omega) (by omega) (by omega) (by omega) (by omega) (by omega) (by omega) (by omega) (by omega), e 160 (by omega) (by omega) (by omega) (by omega) (by omega) (by omega) (by omega) (by omega) (by omega), e 161 (by omega) (by omega) (by omega) (by omega) (by omega) (by omega) (by omega) (by omega) (by omega), e 162 (by omega) (by omega) (by omega) (by omega) (by omega) (by omega) (by omega) (by omega) (by omega), e 163 (by omega) (by omega) (by omega) (by omega) (by omega) (by omega) (by omega) (by omega) (by omega), e 164 (by omega) (by omega) (by omega) (by omega) (by omega) (by omega) (by omega) (by omega) (by omega), e 165 (by omega) (by omega) (by omega) (by omega) (by omega) (by omega) (by omega) (by omega) (by omega), e 166 (by omega) (by omega) (by omega) (by omega) (by omega) (by omega) (by omega) (by omega) (by omega), e 167 (by omega) (by omega) (by omega) (by omega) (by omega) (by omega) (by omega) (by omega) (by omega), er 182 (by omega) (by omega) (by omega) (by omega), er 178 (by omega) (by omega) (by omega) (by omega), er 183 (by omega) (by omega) (by omega) (by omega)]
    exact hH
  · rw [hG.2.2.2.1 8 (by omega), hG.2.2.2.1 10 (by omega), hG.2.2.2.1 11 (by omega), er 178 (by omega) (by omega) (by omega) (by omega), er 183 (by omega) (by omega) (by omega) (by omega), e 139 (by omega) (by omega) (by omega) (by omega) (by omega) (by omega) (by omega) (by omega) (by omega), e 140 (by omega) (by omega) (by omega) (by omega) (by omega) (by omega) (by omega) (by omega) (by omega), e 141 (by omega) (by omega) (by omega) (by omega) (by omega) (by omega) (by omega) (by omega) (by omega), e 142 (by omega) (by omega) (by omega) (by omega) (by omega) (by omega) (by omega) (by omega) (by omega)]
    refine zHm_put (p := p) hm (by omega) (fun q _ hq => ⟨rfl, rfl, rfl, rfl, by rw [h5, if_neg hq], by rw [h6, if_neg hq], by rw [h7, if_neg hq], by rw [h8, if_neg hq]⟩) (fun j _ a1 a2 _ _ a5 a6 a7 a8 => rj j a1 a2 a5 a6 a7 a8) r1 (by omega) (fun z => ?_)
    obtain ⟨b1, b2, b3, b4, b5, b6, b7, b8, b9, b10, b11⟩ := z
    rw [rj (4 + p) (by omega) (by omega) (by omega) (by omega) (by omega) (by omega), rj (16 + p) (by omega) (by omega) (by omega) (by omega) (by omega) (by omega), r28, r40, r52, r64, h5, h6, h7, h8, if_pos rfl, if_pos rfl, if_pos rfl, if_pos rfl]
    rw [if_neg (Nat.lt_irrefl p)] at b11
    rw [if_pos (Nat.lt_succ_self p)]
    have hw0 : (r 179 0).toInt ≤ B := hm.choose_spec.2.2.2.2.2.2.2.1
    refine ⟨b1, b2, b3, ⟨kn, hkn, rfl, rfl⟩, rfl, hof, hof2, ⟨ka, hka, rfl, rfl⟩, rfl, ?_, ?_⟩
    · rcases hwr with z | z
      · rw [z, ← b9]; exact b10
      · rw [z, ← b9, zt_add (by have : (1 : Int32).toInt = 1 := rfl; omega) (by have : (1 : Int32).toInt = 1 := rfl; omega)]
        have : (1 : Int32).toInt = 1 := rfl
        omega
    · rcases hwr with z | z
      · rw [z, ← b9]; omega
      · rw [z, ← b9, zt_add (by have : (1 : Int32).toInt = 1 := rfl; omega) (by have : (1 : Int32).toInt = 1 := rfl; omega)]
        have : (1 : Int32).toInt = 1 := rfl
        omega
  · obtain ⟨l1, l2, l3⟩ := hL
    unfold zLj
    rw [e 14 (by omega) (by omega) (by omega) (by omega) (by omega) (by omega) (by omega) (by omega) (by omega), er 187 (by omega) (by omega) (by omega) (by omega), er 188 (by omega) (by omega) (by omega) (by omega), er 189 (by omega) (by omega) (by omega) (by omega), er 190 (by omega) (by omega) (by omega) (by omega), er 191 (by omega) (by omega) (by omega) (by omega), er 192 (by omega) (by omega) (by omega) (by omega), er 193 (by omega) (by omega) (by omega) (by omega)]
    exact ⟨l1, l2, l3⟩
  · rw [e 20 (by omega) (by omega) (by omega) (by omega) (by omega) (by omega) (by omega) (by omega) (by omega), e 21 (by omega) (by omega) (by omega) (by omega) (by omega) (by omega) (by omega) (by omega) (by omega), er 178 (by omega) (by omega) (by omega) (by omega), er 195 (by omega) (by omega) (by omega) (by omega)]
    exact hS
  · rw [hG.2.2.2.2.2.1, e 159 (by omega) (by omega) (by omega) (by omega) (by omega) (by omega) (by omega) (by omega) (by omega)]
    exact hb
theorem tl_158 {kw kn : Nat} (hkw : kw ≤ 12) (hkn : kn ≤ 12) (hp : p < 12) (hPr : zPr_158 f r) (hb : f 159 11 = r 179 0) (hr : r 182 (28 + p) = nI kw) (h5 : f 143 p = nI kn - 1) (hrn : r 179 (28 + p) = nI kn) : ∃ F R, zWt_158 f r F R ∧ (∀ K : (Nat → Nat → Int32) → (Nat → Nat → Int64) → Prop, K F g → zTc_158 X (d + 2) (nI p) (nI kw - 1) f g K) ∧ (∀ K : (Nat → Nat → Int32) → (Nat → Nat → Int64) → Prop, K R gr → zTr X (e + 1) (nI p) r gr K) := by
  have i1 := nI_in' (c := p) (N := 12) (by omega) (by omega)
  have i2 := nI_in' (c := 28 + p) (N := 76) (by omega) (by omega)
  have kp := nI_cl (k := p) (by omega)
  have kp2 := nI_cl (k := 28 + p) (by omega)
  by_cases a : kw = 0
  · have cw : (nI kw - 1 = -1) = True := by rw [zmm1 hkw]; exact eq_true a
    have q1 : ∀ K : Int32 → (Nat → Nat → Int32) → (Nat → Nat → Int64) → Prop, zCpi X (e + 1) 217 [.ref 178, .int (nI p)] (zs r gr) K = K 0 r gr := fun K => by
      rw [q217 hp hkw hr]
      unfold zb
      rw [if_neg (fun z => z a)]
    by_cases b : kn = 0
    · have cn : (nI kn - 1 = -1) = True := by rw [zmm1 hkn]; exact eq_true b
      refine ⟨f, r, ⟨fun _ _ _ => rfl, fun _ _ _ => rfl, fun _ _ => rfl, zBk_158_rf hPr, hPr⟩, fun K hK => ?_, fun K hK => ?_⟩
      · unfold zTc_158
        simp only [kp, if_neg i1, h5, cw, cn, ↓reduceIte]
        exact hK
      · unfold zTr
        simp only [q1, q234 hp, hrn, cn, ↓reduceIte]
        exact hK
    · have cn : (nI kn - 1 = -1) = False := by rw [zmm1 hkn]; exact eq_false b
      obtain ⟨F, R, w1, w2, w3⟩ := wr_158 (X := X) (d := d) (e := e) (g := g) (gr := gr) (a1 := 2) (a2 := nI p) (a3 := nI kn - 1) hPr hb
      refine ⟨F, R, w3, fun K hK => ?_, fun K hK => ?_⟩
      · unfold zTc_158
        simp only [kp, if_neg i1, h5, cw, cn, ↓reduceIte]
        rw [w1]
        exact hK
      · unfold zTr
        simp only [q1, q234 hp, hrn, cn, ↓reduceIte]
        rw [w2]
        exact hK
  · have cw : (nI kw - 1 = -1) = False := by rw [zmm1 hkw]; exact eq_false a
    have q1 : ∀ (K : Int32 → (Nat → Nat → Int32) → (Nat → Nat → Int64) → Prop) (S : Nat → Nat → Int32), S 182 = r 182 → zCpi X (e + 1) 217 [.ref 178, .int (nI p)] (zs S gr) K = K 1 S gr := fun K S hS => by
      rw [q217 hp hkw (by rw [hS]; exact hr)]
      unfold zb
      rw [if_pos a]
    by_cases b : kn = 0
    · have cn : (nI kn - 1 = -1) = True := by rw [zmm1 hkn]; exact eq_true b
      obtain ⟨F, R, w1, w2, w3⟩ := wr_158 (X := X) (d := d) (e := e) (g := g) (gr := gr) (a1 := 1) (a2 := nI p) (a3 := nI kw - 1) hPr hb
      refine ⟨F, R, w3, fun K hK => ?_, fun K hK => ?_⟩
      · unfold zTc_158
        simp only [kp, if_neg i1, h5, cw, cn, ↓reduceIte]
        rw [w1]
        exact hK
      · unfold zTr
        rw [q1 _ r rfl, if_neg (by decide), q234 hp, hrn, if_pos (by rw [cn]; trivial), nI_l28, kp2, if_neg i2, zsO.2, hr, w2, q1 _ R (w3.2.1 182 (by omega) (by omega)), if_neg (by decide)]
        exact hK
    · have cn : (nI kn - 1 = -1) = False := by rw [zmm1 hkn]; exact eq_false b
      refine ⟨f, r, ⟨fun _ _ _ => rfl, fun _ _ _ => rfl, fun _ _ => rfl, zBk_158_rf hPr, hPr⟩, fun K hK => ?_, fun K hK => ?_⟩
      · unfold zTc_158
        simp only [kp, if_neg i1, h5, cw, cn, ↓reduceIte]
        exact hK
      · unfold zTr
        rw [q1 _ r rfl, if_neg (by decide), q234 hp, hrn, if_neg (by rw [cn]; exact id), q1 _ r rfl, if_neg (by decide)]
        exact hK
end ZPL158

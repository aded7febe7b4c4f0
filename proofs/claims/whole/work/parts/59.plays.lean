/-! one plays, on both sides -/
theorem zlp_in {N H : Nat → Int32} {p n : Nat} : (zfold (zlp N H p) n 0 (-1, 0)).1 = -1 ∨ ∃ o, o < n ∧ ¬ N o = -1 ∧ (zfold (zlp N H p) n 0 (-1, 0)).1 = nI o := by
  have h := zfold_inv (st := zlp N H p) (I := fun i s => s.1 = -1 ∨ ∃ o, o < i ∧ ¬ N o = -1 ∧ s.1 = nI o) n (fun i s hi hs => by
    have hs' : s.1 = -1 ∨ ∃ o, o < i + 1 ∧ ¬ N o = -1 ∧ s.1 = nI o := by
      rcases hs with z | ⟨o, a, b, c⟩
      · exact Or.inl z
      · exact Or.inr ⟨o, by omega, b, c⟩
    unfold zlp
    by_cases e1 : i = p ∨ N i = -1
    · rw [if_pos e1]; exact hs'
    · rw [if_neg e1]
      by_cases e2 : s.2 < H i
      · rw [if_pos e2]; exact Or.inr ⟨i, by omega, fun z => e1 (Or.inr z), rfl⟩
      · rw [if_neg e2]; exact hs') n 0 (-1, 0) (by omega) (Or.inl rfl)
  exact h
theorem zBk_147_g {f r F R : Nat → Nat → Int32} (h : zPr_147 f r) (e1 : F 11 = f 11) (_ : F 12 = f 12) (_ : R 184 = r 184) (_ : R 179 2 = r 179 2) : zBk_147 f r F R := by
  obtain ⟨-, -, k, hk, h1, h2, -⟩ := h
  exact ⟨k, k, h1, by rw [e1]; exact h1, Nat.le_refl _, hk⟩
theorem zBk_158_g {f r F R : Nat → Nat → Int32} (_ : zPr_158 f r) (e1 : F 11 = f 11) (e2 : F 12 = f 12) (e3 : R 184 = r 184) (e4 : R 179 2 = r 179 2) : zBk_158 f r F R := ⟨e1, e2, e3, e4⟩
section ZPY
variable {X : Nat × (Nat → Int32)} {d e : Nat} {f r : Nat → Nat → Int32} {g gr : Nat → Nat → Int64} {n P k p : Nat} {wl al bl cl : Nat → Nat} {B : Int}
set_option maxHeartbeats 2000000 in
theorem pl_147 (hM : zMi_147 f g r n P k wl al bl cl B p) (hp : p < n) (hB : B ≤ 100000) : ∃ (v : Int32) (F R : Nat → Nat → Int32), (v = 0 ∨ v = 1) ∧ (∀ K : Int32 → (Nat → Nat → Int32) → (Nat → Nat → Int64) → Prop, zCpi X (d + 9) 9 [.ref 147, .int (nI p)] (zs f g) K = K v F g) ∧ (∀ K : Int32 → (Nat → Nat → Int32) → (Nat → Nat → Int64) → Prop, zCpi X (e + 9) 214 [.ref 178, .int (nI p)] (zs r gr) K = K v R gr) ∧ zMi_147 F g R n P k wl al bl cl B (p + 1) ∧ zGc_147 f F r R ∧ zBk_147 f r F R := by
  obtain ⟨hA, hH, hm, h8, hpl, hL, hPr, hS, hb⟩ := id hM
  have hn : n ≤ 12 := hA.1
  have hc : f 148 8 = nI n := hA.2.2.1
  have kp := nI_cl (k := p) (by omega)
  have ip := nI_in (c := p) (N := 12) (by omega) (by omega)
  have k28 : (28 + nI p : Int32).toNatClampNeg = 28 + p := by rw [nI_l28, nI_cl (by omega)]
  have k52 : (52 + nI p : Int32).toNatClampNeg = 52 + p := by rw [nI_l52, nI_cl (by omega)]
  have i28 : ¬ ((28 + nI p : Int32) < 0 ∨ 76 ≤ (28 + nI p : Int32).toNatClampNeg) := by rw [nI_l28]; exact nI_in (by omega) (by omega)
  have i52 : ¬ ((52 + nI p : Int32) < 0 ∨ 76 ≤ (52 + nI p : Int32).toNatClampNeg) := by rw [nI_l52]; exact nI_in (by omega) (by omega)
  obtain ⟨ks, hks, s1, s2, s3⟩ := hS
  obtain ⟨m, hm12, em⟩ := zlsn_in (A := fun j => r 195 (3 * j)) (W := fun j => r 195 (3 * j + 1)) (N := fun j => r 195 (3 * j + 2)) (bt := r 179 0) (p := nI p) ks (fun j hj => ⟨(s3 j hj).2.2.2.1, (s3 j hj).2.2.2.2⟩)
  have ecl : zlsn (fun j => f 21 (5 * j)) (fun j => f 21 (5 * j + 2)) (fun j => f 21 (5 * j + 3)) (f 148 11) (nI p) ks = nI m - 1 := by
    rw [hb, ← em]
    exact zlsn_congr ks (fun j hj => ⟨(s3 j hj).1, (s3 j hj).2.1, (s3 j hj).2.2.1⟩)
  have hq72 : ∀ K : Int32 → (Nat → Nat → Int32) → (Nat → Nat → Int64) → Prop, zCpi X (d + 8) 72 [.ref 20, .int (nI p), .int (f 148 11)] (zs f g) K = K (nI m - 1) f g := fun K => by rw [q72 hks s1, ecl]
  have hq215 : ∀ K : Int32 → (Nat → Nat → Int32) → (Nat → Nat → Int64) → Prop, zCpi X (e + 8) 215 [.ref 178, .int (nI p)] (zs r gr) K = K (nI m - 1) r gr := fun K => by rw [q215 hks s2, em]
  obtain ⟨⟨kw, hkw, w1, w2⟩, -⟩ := zHal_at hH hc hn hp
  obtain ⟨hz, hr1⟩ : zPl (r 179 0).toInt (f 3 p) (f 4 p) (f 5 p) (f 6 p) (f 7 p) (f 8 p) (f 9 p) (f 10 p) (r 179 (4 + p)) (r 183 p) (r 179 (16 + p)) (r 179 (28 + p)) (r 179 (40 + p)) (r 179 (52 + p)) (r 179 (64 + p)) (if p < p then 1 else 0) ∧ r 179 1 = f 2 9 := by
    obtain ⟨n', hn', y1, y2, y3, y4, y5, y6, y7, y8⟩ := hm
    have en : n' = n := (nI_eq (by omega) (by omega)).mp (y1.symm.trans h8)
    subst en
    exact ⟨y8 p hp, y3⟩
  obtain ⟨-, -, -, -, z40, z41, z42, -, z64, -, -⟩ := hz
  have hsim : ∀ (f1 r1 : Nat → Nat → Int32) (m : Nat), m ≤ 12 → zSc 157 f f1 → zSr r r1 → ∃ F R, zMi_147 F g R n P k wl al bl cl B (p + 1) ∧ zGc_147 f F r R ∧ zBk_147 f r F R ∧ (∀ K : (Nat → Nat → Int32) → (Nat → Nat → Int64) → Prop, K F g → zTc_147 X (d + 8) (nI p) (f1 153 (nI p).toNatClampNeg) (zuI (zuI f1 9 (nI p).toNatClampNeg (-1)) 7 (nI p).toNatClampNeg (nI m - 1)) g K) ∧ (∀ K : (Nat → Nat → Int32) → (Nat → Nat → Int64) → Prop, K R gr → zTr X (e + 8) (nI p) (zuI (zuI r1 179 (28 + nI p : Int32).toNatClampNeg (nI m)) 179 (52 + nI p : Int32).toNatClampNeg 0) gr K) := by
    intro f1 r1 m hm12 hS1 hR1
    obtain ⟨fS, hfS⟩ : ∃ fS, fS = zuI (zuI f1 9 (nI p).toNatClampNeg (-1)) 7 (nI p).toNatClampNeg (nI m - 1) := ⟨_, rfl⟩
    obtain ⟨rS, hrS⟩ : ∃ rS, rS = zuI (zuI r1 179 (28 + nI p : Int32).toNatClampNeg (nI m)) 179 (52 + nI p : Int32).toNatClampNeg 0 := ⟨_, rfl⟩
    have fi : ∀ i, ¬ i = 9 → ¬ i = 7 → ¬ i = 157 → ¬ i = 19 → fS i = f i := fun i a b c d' => by rw [hfS, zi_ne b, zi_ne a, hS1.1 i c d']
    have f7 : ∀ q, fS 9 q = if q = p then -1 else f 9 q := fun q => by rw [hfS, zi_ne (by omega), zi_at, kp, hS1.1 9 (by omega) (by omega)]
    have f5 : ∀ q, fS 7 q = if q = p then nI m - 1 else f 7 q := fun q => by rw [hfS, zi_at, kp, zi_ne (by omega), hS1.1 7 (by omega) (by omega)]
    have fv : fS 157 = f1 157 := by rw [hfS, zi_ne (by omega), zi_ne (by omega)]
    have ri : ∀ i, ¬ i = 179 → ¬ i = 198 → ¬ i = 199 → rS i = r i := fun i a b c => by rw [hrS, zi_ne a, zi_ne a, hR1 i b c]
    have rn : ∀ j, rS 179 j = if j = 52 + p then 0 else if j = 28 + p then nI m else r 179 j := fun j => by rw [hrS, zi_at, zi_at, k28, k52, hR1 179 (by omega) (by omega)]
    have hP2 : zPr_147 fS rS := zPr_147_g hPr (by rw [fi 147 (by omega) (by omega) (by omega) (by omega)]) (by rw [fi 11 (by omega) (by omega) (by omega) (by omega)]) (fi 12 (by omega) (by omega) (by omega) (by omega)) (by rw [ri 178 (by omega) (by omega) (by omega)]) (by rw [rn, if_neg (by omega), if_neg (by omega)]) (ri 184 (by omega) (by omega) (by omega))
    obtain ⟨F, R, ⟨t1, t2, t3, t4, t5⟩, tc, tr⟩ := tl_147 (X := X) (d := d + 6) (e := e + 7) (g := g) (gr := gr) (p := p) (f := fS) (r := rS) (kw := kw) (kn := m) hkw hm12 (by omega) hP2 (by rw [fi 148 (by omega) (by omega) (by omega) (by omega), rn, if_neg (by omega), if_neg (by omega)]; exact hb) (by rw [ri 182 (by omega) (by omega) (by omega)]; exact w2) (by rw [f5, if_pos rfl]) (by rw [rn, if_neg (by omega), if_pos rfl])
    have hG : zGc_147 f F r R := ⟨fun i a1 a2 a3 a4 a5 a6 a7 a8 a9 => by rw [t1 i a8 a9, fi i a4 a2 a6 a7], by rw [t1 157 (by omega) (by omega), fv]; exact hS1.2.1, by rw [t1 157 (by omega) (by omega), fv]; exact hS1.2.2, fun j hj => by rw [t1 2 (by omega) (by omega), fi 2 (by omega) (by omega) (by omega) (by omega)], fun i a1 a2 a3 a4 => by rw [t2 i a1 a2, ri i a1 a3 a4], by rw [t3 0 (by omega), rn, if_neg (by omega), if_neg (by omega)], by rw [t3 3 (by omega), rn, if_neg (by omega), if_neg (by omega)]⟩
    refine ⟨F, R, zMi_147_next (kn := m) (ka := 0) (of := f 8 p) (wr := f 10 p) hM hp hB hG hm12 (by omega) (by rw [← z40]; exact z41) (by rw [← z40]; exact z42) (Or.inl rfl) (fun q => by rw [t1 7 (by omega) (by omega), f5]) (fun q => ?_) (fun q => by rw [t1 9 (by omega) (by omega), f7]; rfl) (fun q => ?_) ?_ (by rw [t3 (28 + p) (by omega), rn, if_neg (by omega), if_pos rfl]) (by rw [t3 (40 + p) (by omega), rn, if_neg (by omega), if_neg (by omega)]; exact z40) (by rw [t3 (52 + p) (by omega), rn, if_pos rfl]; rfl) (by rw [t3 (64 + p) (by omega), rn, if_neg (by omega), if_neg (by omega)]; exact z64) (fun j a1 a2 a3 a4 a5 a6 => by rw [t3 j a2, rn, if_neg a5, if_neg a3]) t5, hG, zBk_147_tr (zBk_147_g hPr (fi 11 (by omega) (by omega) (by omega) (by omega)) (fi 12 (by omega) (by omega) (by omega) (by omega)) (ri 184 (by omega) (by omega) (by omega)) (by rw [rn, if_neg (by omega), if_neg (by omega)])) t4, fun K hK => ?_, fun K hK => ?_⟩
    · rw [t1 8 (by omega) (by omega), fi 8 (by omega) (by omega) (by omega) (by omega)]
      split
      · next e => rw [e]
      · rfl
    · rw [t1 10 (by omega) (by omega), fi 10 (by omega) (by omega) (by omega) (by omega)]
      split
      · next e => rw [e]
      · rfl
    · rw [t3 1 (by omega), rn, if_neg (by omega), if_neg (by omega), t1 2 (by omega) (by omega), fi 2 (by omega) (by omega) (by omega) (by omega)]
      exact hr1
    · have z := tc K hK
      rw [hfS] at z
      rw [kp, hS1.1 153 (by omega) (by omega), w1]
      rw [kp] at z
      exact z
    · have z := tr K hK
      rw [hrS] at z
      exact z
  by_cases hm0 : m = 0
  case neg =>
    have hne : ¬ nI m - 1 = -1 := by rw [zmm1 hm12]; exact hm0
    obtain ⟨F, R, a1, a2, a3, a4, a5⟩ := hsim f r m hm12 zSc_rf (fun _ _ _ => rfl)
    refine ⟨0, F, R, Or.inl rfl, fun K => zCpi_eq (fun K hK => ?_), fun K => zCpi_eq (fun K hK => ?_), a1, a2, a3⟩
    · apply e9_147
      rw [hq72, if_neg hne, if_neg ip, if_neg ip, if_neg ip]
      exact a4 (fun f g => if (0 : Int32) = 0 ∨ (0 : Int32) = 1 then K 0 f g else False) (by rw [if_pos (Or.inl rfl)]; exact hK)
    · apply e214_178
      rw [hq215, if_neg hne, if_neg i28, if_neg i52, show nI m - 1 + 1 = nI m by rw [(nI_m1 (by omega)).2, nI_1]; congr 1; omega]
      exact a5 (fun f g => if (0 : Int32) = 0 ∨ (0 : Int32) = 1 then K 0 f g else False) (by rw [if_pos (Or.inl rfl)]; exact hK)
  subst hm0
  have hm1 : nI 0 - 1 = (-1 : Int32) := by decide
  have hlin := zlp_in (N := f 153) (H := fun o => zLa (f 14) wl al bl cl k 0 (zVv (f 149) (f 150) (f 151) (f 152) (f 153) (f 154) (f 156) (f 148 11) n P p o)) (p := p) (n := n)
  obtain ⟨lo, hlo⟩ : ∃ lo, lo = (zfold (zlp (f 153) (fun o => zLa (f 14) wl al bl cl k 0 (zVv (f 149) (f 150) (f 151) (f 152) (f 153) (f 154) (f 156) (f 148 11) n P p o)) p) n 0 (-1, 0)).1 := ⟨_, rfl⟩
  rw [← hlo] at hlin
  obtain ⟨v1, F1, g1, ⟨ev1, hS1, eg1⟩, q10⟩ := zCpi_en (l10_147 (X := X) (d := d) (f := f) (g := g) (K := fun v F' g' => lo = v ∧ zSc 157 f F' ∧ g = g') hA hp (fun F hF => ⟨hlo, hF, rfl⟩))
  subst ev1 eg1
  obtain ⟨v2, R1, g2, ⟨ev2, hR1, eg2⟩, q216⟩ := zCpi_en (l216 (X := X) (d := e + 1) (f := r) (g := gr) (K := fun v F' g' => lo = v ∧ zSr r F' ∧ gr = g') hH hc hn hpl hL hp (fun F hF => ⟨hlo, hF, rfl⟩))
  subst ev2 eg2
  rcases hlin with hl1 | ⟨o, ho, hno, hl1⟩
  · obtain ⟨F, R, a1, a2, a3, a4, a5⟩ := hsim F1 R1 0 (by omega) hS1 hR1
    refine ⟨0, F, R, Or.inl rfl, fun K => zCpi_eq (fun K hK => ?_), fun K => zCpi_eq (fun K hK => ?_), a1, a2, a3⟩
    · apply e9_147
      rw [hq72, if_pos hm1, q10, hl1, if_neg ip, if_pos rfl, if_neg ip, if_neg ip]
      exact a4 (fun f g => if (0 : Int32) = 0 ∨ (0 : Int32) = 1 then K 0 f g else False) (by rw [if_pos (Or.inl rfl)]; exact hK)
    · apply e214_178
      rw [hq215, if_pos hm1, q216, hl1, if_pos rfl, if_neg i28, if_neg i52]
      exact a5 (fun f g => if (0 : Int32) = 0 ∨ (0 : Int32) = 1 then K 0 f g else False) (by rw [if_pos (Or.inl rfl)]; exact hK)
  · obtain ⟨f2, hf2⟩ : ∃ f2, f2 = zuI F1 9 (nI p).toNatClampNeg (nI o) := ⟨_, rfl⟩
    have f2i : ∀ i, ¬ i = 9 → ¬ i = 157 → ¬ i = 19 → f2 i = f i := fun i a b c => by rw [hf2, zi_ne a, hS1.1 i b c]
    have f27 : ∀ q, f2 9 q = if q = p then nI o else f 9 q := fun q => by rw [hf2, zi_at, kp, hS1.1 9 (by omega) (by omega)]
    have f2v : f2 157 = F1 157 := by rw [hf2, zi_ne (by omega)]
    have hA2 : zAc_147 f2 g n P k wl al bl cl := zAc_147_g hA (fun i hi => f2i i (by omega) (by omega) (by omega)) (by rw [f2v]; exact hS1.2.1) (by rw [f2v]; exact hS1.2.2)
    have hP2 : zPr_147 f2 R1 := zPr_147_g hPr (by rw [f2i 147 (by omega) (by omega) (by omega)]) (by rw [f2i 11 (by omega) (by omega) (by omega)]) (f2i 12 (by omega) (by omega) (by omega)) (by rw [hR1 178 (by omega) (by omega)]) (by rw [hR1 179 (by omega) (by omega)]) (hR1 184 (by omega) (by omega))
    have hL2 : zLj R1 (f2 14) k wl al bl cl := by rw [f2i 14 (by omega) (by omega) (by omega)]; exact zLj_f hR1 hL
    have hfo := fo_147 (X := X) (d := d) (e := e) (f := f2) (r := R1) (g := g) (gr := gr) (n := n) (P := P) (k := k) (p := p) (o := o) (wl := wl) (al := al) (bl := bl) (cl := cl) (B := B) (K := fun v F' g' => g = g' ∧ (v = 0 ∨ v = 1) ∧ ∃ (R : Nat → Nat → Int32) (kn : Nat) (of wr st : Int32), 1 ≤ kn ∧ kn ≤ 12 ∧ -50 ≤ of.toInt ∧ of.toInt ≤ 50 ∧ (wr = f2 10 p ∨ wr = f2 10 p + 1) ∧ zUc 2 157 p f2 F' kn of wr st ∧ zUr p R1 R kn (o + 1) of wr st ∧ (∀ K' : Int32 → (Nat → Nat → Int32) → (Nat → Nat → Int64) → Prop, zCpi X (e + 8) 229 [.ref 178, .int (nI p), .int (nI o)] (zs R1 gr) K' = if v = 0 then K' 0 R gr else zCpv X (e + 7) 235 [.ref 178, .int 0, .int (nI p), .int (nI kn - 1)] (zs R gr) (fun f g => K' 1 f g))) hA2 (by rw [f2i 148 (by omega) (by omega) (by omega), f2i 149 (by omega) (by omega) (by omega), f2i 150 (by omega) (by omega) (by omega), f2i 151 (by omega) (by omega) (by omega), f2i 152 (by omega) (by omega) (by omega), f2i 153 (by omega) (by omega) (by omega), f2i 154 (by omega) (by omega) (by omega), f2i 155 (by omega) (by omega) (by omega), f2i 156 (by omega) (by omega) (by omega), hR1 182 (by omega) (by omega), hR1 178 (by omega) (by omega), hR1 183 (by omega) (by omega)]; exact hH) (fun k hk => by rw [hR1 197 (by omega) (by omega)]; exact hpl k hk) hL2 hP2 (by rw [f2i 2 (by omega) (by omega) (by omega), hR1 179 (by omega) (by omega)]; exact hr1.symm) (by rw [f2i 10 (by omega) (by omega) (by omega), hR1 179 (by omega) (by omega)]; exact z64) hp ho (by rw [f2i 153 (by omega) (by omega) (by omega)]; exact hno) (fun v F R kn of wr st a1 a2 a3 a4 a5 a6 a7 a8 a9 => ⟨rfl, a1, R, kn, of, wr, st, a2, a3, a4, a5, a6, a7, a8, a9⟩)
    obtain ⟨v, F3, g3, ⟨eg3, hv, R3, kn, of, wr, st, y1, y2, y3, y4, y5, ⟨u1, u2, u3, u4, u5, u6, u7, u8⟩, ⟨x1, x2, x3, x4, x5, x6, x7⟩, q229⟩, q12⟩ := zCpi_en hfo
    subst eg3
    have u6' : ∀ q, F3 7 q = if q = p then nI kn - 1 else f2 7 q := u6
    have u7' : ∀ q, F3 8 q = if q = p then of else f2 8 q := u7
    have u8' : ∀ q, F3 10 q = if q = p then wr else f2 10 q := u8
    have F3i : ∀ i, ¬ i = 2 → ¬ i = 7 → ¬ i = 8 → ¬ i = 9 → ¬ i = 10 → ¬ i = 157 → ¬ i = 19 → F3 i = f i := fun i a1 a2 a3 a4 a5 a6 a7 => by rw [u1 i a1 a2 a3 a5 a6 a7, f2i i a4 a6 a7]
    have F37 : ∀ q, F3 9 q = if q = p then nI o else f 9 q := fun q => by rw [u1 9 (by omega) (by omega) (by omega) (by omega) (by omega) (by omega)]; exact f27 q
    have R3i : ∀ i, ¬ i = 179 → ¬ i = 198 → ¬ i = 199 → R3 i = r i := fun i a1 a2 a3 => by rw [x1 i a1 a2 a3, hR1 i a2 a3]
    have R3j : ∀ j, ¬ j = 1 → ¬ j = 28 + p → ¬ j = 40 + p → ¬ j = 52 + p → ¬ j = 64 + p → R3 179 j = r 179 j := fun j a1 a2 a3 a4 a5 => by rw [x7 j a1 a2 a3 a4 a5, hR1 179 (by omega) (by omega)]
    have hP3 : zPr_147 F3 R3 := zPr_147_g hPr (by rw [F3i 147 (by omega) (by omega) (by omega) (by omega) (by omega) (by omega) (by omega)]) (by rw [F3i 11 (by omega) (by omega) (by omega) (by omega) (by omega) (by omega) (by omega)]) (F3i 12 (by omega) (by omega) (by omega) (by omega) (by omega) (by omega) (by omega)) (by rw [R3i 178 (by omega) (by omega) (by omega)]) (R3j 2 (by omega) (by omega) (by omega) (by omega) (by omega)) (R3i 184 (by omega) (by omega) (by omega))
    have hb3 : F3 148 11 = R3 179 0 := by rw [F3i 148 (by omega) (by omega) (by omega) (by omega) (by omega) (by omega) (by omega), R3j 0 (by omega) (by omega) (by omega) (by omega) (by omega)]; exact hb
    have hw : ∃ F4 R4, zWt_147 F3 R3 F4 R4 ∧ (v = 0 → F4 = F3 ∧ R4 = R3) ∧ (v = 1 → (∀ K : (Nat → Nat → Int32) → (Nat → Nat → Int64) → Prop, zCpv X (d + 8) 14 [.ref 147, .int 0, .int (nI p), .int (nI kn - 1)] (zs F3 g) K = K F4 g) ∧ (∀ K : (Nat → Nat → Int32) → (Nat → Nat → Int64) → Prop, zCpv X (e + 7) 235 [.ref 178, .int 0, .int (nI p), .int (nI kn - 1)] (zs R3 gr) K = K R4 gr)) := by
      rcases hv with rfl | rfl
      · exact ⟨F3, R3, ⟨fun _ _ _ => rfl, fun _ _ _ => rfl, fun _ _ => rfl, zBk_147_rf hP3, hP3⟩, fun _ => ⟨rfl, rfl⟩, fun z => absurd z (by decide)⟩
      · obtain ⟨F4, R4, b1, b2, b3⟩ := wr_147 (X := X) (d := d + 6) (e := e + 6) (g := g) (gr := gr) (a1 := 0) (a2 := nI p) (a3 := nI kn - 1) hP3 hb3
        exact ⟨F4, R4, b3, fun z => absurd z (by decide), fun _ => ⟨b1, b2⟩⟩
    obtain ⟨F4, R4, ⟨m1, m2, m3, m4, m5⟩, mv0, mv1⟩ := hw
    obtain ⟨F, R, ⟨t1, t2, t3, t4, t5⟩, tc, tr⟩ := tl_147 (X := X) (d := d + 6) (e := e + 7) (g := g) (gr := gr) (p := p) (f := F4) (r := R4) (kw := kw) (kn := kn) hkw y2 (by omega) m5 (by rw [m1 148 (by omega) (by omega), m3 0 (by omega)]; exact hb3) (by rw [m2 182 (by omega) (by omega), R3i 182 (by omega) (by omega) (by omega)]; exact w2) (by rw [m1 7 (by omega) (by omega), u6', if_pos rfl]) (by rw [m3 (28 + p) (by omega)]; exact x3)
    have Fi : ∀ i, ¬ i = 11 → ¬ i = 12 → F i = F3 i := fun i a b => by rw [t1 i a b, m1 i a b]
    have Ri : ∀ i, ¬ i = 179 → ¬ i = 184 → R i = R3 i := fun i a b => by rw [t2 i a b, m2 i a b]
    have Rj : ∀ j, ¬ j = 2 → R 179 j = R3 179 j := fun j a => by rw [t3 j a, m3 j a]
    have hG : zGc_147 f F r R := ⟨fun i a1 a2 a3 a4 a5 a6 a7 a8 a9 => by rw [Fi i a8 a9, F3i i a1 a2 a3 a4 a5 a6 a7], by rw [Fi 157 (by omega) (by omega), u2, f2v]; exact hS1.2.1, by rw [Fi 157 (by omega) (by omega), u3, f2v]; exact hS1.2.2, fun j hj => by rw [Fi 2 (by omega) (by omega), u4 j hj, f2i 2 (by omega) (by omega) (by omega)], fun i a1 a2 a3 a4 => by rw [Ri i a1 a2, R3i i a1 a3 a4], by rw [Rj 0 (by omega), R3j 0 (by omega) (by omega) (by omega) (by omega) (by omega)], by rw [Rj 3 (by omega), R3j 3 (by omega) (by omega) (by omega) (by omega) (by omega)]⟩
    have hwr' : wr = f 10 p ∨ wr = f 10 p + 1 := by
      rw [f2i 10 (by omega) (by omega) (by omega)] at y5
      exact y5
    have hne : nI o = nI (o + 1) - 1 := (nI_pred o).symm
    refine ⟨v, F, R, hv, fun K => zCpi_eq (fun K hK => ?_), fun K => zCpi_eq (fun K hK => ?_), zMi_147_next (kn := kn) (ka := o + 1) (of := of) (wr := wr) hM hp hB hG y2 (by omega) y3 y4 hwr' (fun q => by rw [Fi 7 (by omega) (by omega), u6', f2i 7 (by omega) (by omega) (by omega)]) (fun q => by rw [Fi 8 (by omega) (by omega), u7', f2i 8 (by omega) (by omega) (by omega)]) (fun q => by rw [Fi 9 (by omega) (by omega), F37, hne]) (fun q => by rw [Fi 10 (by omega) (by omega), u8', f2i 10 (by omega) (by omega) (by omega)]) (by rw [Rj 1 (by omega), x2, Fi 2 (by omega) (by omega), u5]) (by rw [Rj (28 + p) (by omega)]; exact x3) (by rw [Rj (40 + p) (by omega)]; exact x4) (by rw [Rj (52 + p) (by omega)]; exact x5) (by rw [Rj (64 + p) (by omega)]; exact x6) (fun j a1 a2 a3 a4 a5 a6 => by rw [Rj j a2, R3j j a1 a3 a4 a5 a6]) t5, hG, zBk_147_tr (zBk_147_g hPr (F3i 11 (by omega) (by omega) (by omega) (by omega) (by omega) (by omega) (by omega)) (F3i 12 (by omega) (by omega) (by omega) (by omega) (by omega) (by omega) (by omega)) (R3i 184 (by omega) (by omega) (by omega)) (R3j 2 (by omega) (by omega) (by omega) (by omega) (by omega))) (zBk_147_tr m4 t4)⟩
    · have hbv : F3 153 (nI p).toNatClampNeg = nI kw - 1 := by rw [kp, F3i 153 (by omega) (by omega) (by omega) (by omega) (by omega) (by omega) (by omega)]; exact w1
      have hnv : F3 7 (nI p).toNatClampNeg = nI kn - 1 := by rw [kp, u6', if_pos rfl]
      apply e9_147
      rw [hq72, if_pos hm1, q10, hl1, if_neg ip, if_neg (nI_nem (by omega)), ← hf2, q12, if_neg ip]
      rcases hv with rfl | rfl
      · obtain ⟨ef, er⟩ := mv0 rfl
        rw [if_pos rfl, hbv]
        rw [ef] at tc
        exact tc (fun f g => if (0 : Int32) = 0 ∨ (0 : Int32) = 1 then K 0 f g else False) (by rw [if_pos (Or.inl rfl)]; exact hK)
      · rw [if_neg (by decide), if_neg ip, hnv, (mv1 rfl).1, hbv]
        exact tc (fun f g => if (1 : Int32) = 0 ∨ (1 : Int32) = 1 then K 1 f g else False) (by rw [if_pos (Or.inr rfl)]; exact hK)
    · apply e214_178
      rw [hq215, if_pos hm1, q216, hl1, if_neg (nI_nem (by omega)), q229]
      rcases hv with rfl | rfl
      · obtain ⟨ef, er⟩ := mv0 rfl
        rw [if_pos rfl]
        rw [er] at tr
        exact tr (fun f g => if (0 : Int32) = 0 ∨ (0 : Int32) = 1 then K 0 f g else False) (by rw [if_pos (Or.inl rfl)]; exact hK)
      · rw [if_neg (by decide), (mv1 rfl).2]
        exact tr (fun f g => if (1 : Int32) = 0 ∨ (1 : Int32) = 1 then K 1 f g else False) (by rw [if_pos (Or.inr rfl)]; exact hK)
set_option maxHeartbeats 2000000 in
theorem pl_158 (hM : zMi_158 f g r n P k wl al bl cl B p) (hp : p < n) (hB : B ≤ 100000) : ∃ (v : Int32) (F R : Nat → Nat → Int32), (v = 0 ∨ v = 1) ∧ (∀ K : Int32 → (Nat → Nat → Int32) → (Nat → Nat → Int64) → Prop, zCpi X (d + 9) 9 [.ref 158, .int (nI p)] (zs f g) K = K v F g) ∧ (∀ K : Int32 → (Nat → Nat → Int32) → (Nat → Nat → Int64) → Prop, zCpi X (e + 9) 214 [.ref 178, .int (nI p)] (zs r gr) K = K v R gr) ∧ zMi_158 F g R n P k wl al bl cl B (p + 1) ∧ zGc_158 f F r R ∧ zBk_158 f r F R := by
  obtain ⟨hA, hH, hm, h8, hpl, hL, hPr, hS, hb⟩ := id hM
  have hn : n ≤ 12 := hA.1
  have hc : f 159 8 = nI n := hA.2.2.1
  have kp := nI_cl (k := p) (by omega)
  have ip := nI_in (c := p) (N := 12) (by omega) (by omega)
  have k28 : (28 + nI p : Int32).toNatClampNeg = 28 + p := by rw [nI_l28, nI_cl (by omega)]
  have k52 : (52 + nI p : Int32).toNatClampNeg = 52 + p := by rw [nI_l52, nI_cl (by omega)]
  have i28 : ¬ ((28 + nI p : Int32) < 0 ∨ 76 ≤ (28 + nI p : Int32).toNatClampNeg) := by rw [nI_l28]; exact nI_in (by omega) (by omega)
  have i52 : ¬ ((52 + nI p : Int32) < 0 ∨ 76 ≤ (52 + nI p : Int32).toNatClampNeg) := by rw [nI_l52]; exact nI_in (by omega) (by omega)
  obtain ⟨ks, hks, s1, s2, s3⟩ := hS
  obtain ⟨m, hm12, em⟩ := zlsn_in (A := fun j => r 195 (3 * j)) (W := fun j => r 195 (3 * j + 1)) (N := fun j => r 195 (3 * j + 2)) (bt := r 179 0) (p := nI p) ks (fun j hj => ⟨(s3 j hj).2.2.2.1, (s3 j hj).2.2.2.2⟩)
  have ecl : zlsn (fun j => f 21 (5 * j)) (fun j => f 21 (5 * j + 2)) (fun j => f 21 (5 * j + 3)) (f 159 11) (nI p) ks = nI m - 1 := by
    rw [hb, ← em]
    exact zlsn_congr ks (fun j hj => ⟨(s3 j hj).1, (s3 j hj).2.1, (s3 j hj).2.2.1⟩)
  have hq72 : ∀ K : Int32 → (Nat → Nat → Int32) → (Nat → Nat → Int64) → Prop, zCpi X (d + 8) 72 [.ref 20, .int (nI p), .int (f 159 11)] (zs f g) K = K (nI m - 1) f g := fun K => by rw [q72 hks s1, ecl]
  have hq215 : ∀ K : Int32 → (Nat → Nat → Int32) → (Nat → Nat → Int64) → Prop, zCpi X (e + 8) 215 [.ref 178, .int (nI p)] (zs r gr) K = K (nI m - 1) r gr := fun K => by rw [q215 hks s2, em]
  obtain ⟨⟨kw, hkw, w1, w2⟩, -⟩ := zHal_at hH hc hn hp
  obtain ⟨hz, hr1⟩ : zPl (r 179 0).toInt (f 139 p) (f 140 p) (f 141 p) (f 142 p) (f 143 p) (f 144 p) (f 145 p) (f 146 p) (r 179 (4 + p)) (r 183 p) (r 179 (16 + p)) (r 179 (28 + p)) (r 179 (40 + p)) (r 179 (52 + p)) (r 179 (64 + p)) (if p < p then 1 else 0) ∧ r 179 1 = f 138 9 := by
    obtain ⟨n', hn', y1, y2, y3, y4, y5, y6, y7, y8⟩ := hm
    have en : n' = n := (nI_eq (by omega) (by omega)).mp (y1.symm.trans h8)
    subst en
    exact ⟨y8 p hp, y3⟩
  obtain ⟨-, -, -, -, z40, z41, z42, -, z64, -, -⟩ := hz
  have hsim : ∀ (f1 r1 : Nat → Nat → Int32) (m : Nat), m ≤ 12 → zSc 168 f f1 → zSr r r1 → ∃ F R, zMi_158 F g R n P k wl al bl cl B (p + 1) ∧ zGc_158 f F r R ∧ zBk_158 f r F R ∧ (∀ K : (Nat → Nat → Int32) → (Nat → Nat → Int64) → Prop, K F g → zTc_158 X (d + 8) (nI p) (f1 164 (nI p).toNatClampNeg) (zuI (zuI f1 145 (nI p).toNatClampNeg (-1)) 143 (nI p).toNatClampNeg (nI m - 1)) g K) ∧ (∀ K : (Nat → Nat → Int32) → (Nat → Nat → Int64) → Prop, K R gr → zTr X (e + 8) (nI p) (zuI (zuI r1 179 (28 + nI p : Int32).toNatClampNeg (nI m)) 179 (52 + nI p : Int32).toNatClampNeg 0) gr K) := by
    intro f1 r1 m hm12 hS1 hR1
    obtain ⟨fS, hfS⟩ : ∃ fS, fS = zuI (zuI f1 145 (nI p).toNatClampNeg (-1)) 143 (nI p).toNatClampNeg (nI m - 1) := ⟨_, rfl⟩
    obtain ⟨rS, hrS⟩ : ∃ rS, rS = zuI (zuI r1 179 (28 + nI p : Int32).toNatClampNeg (nI m)) 179 (52 + nI p : Int32).toNatClampNeg 0 := ⟨_, rfl⟩
    have fi : ∀ i, ¬ i = 145 → ¬ i = 143 → ¬ i = 168 → ¬ i = 19 → fS i = f i := fun i a b c d' => by rw [hfS, zi_ne b, zi_ne a, hS1.1 i c d']
    have f7 : ∀ q, fS 145 q = if q = p then -1 else f 145 q := fun q => by rw [hfS, zi_ne (by omega), zi_at, kp, hS1.1 145 (by omega) (by omega)]
    have f5 : ∀ q, fS 143 q = if q = p then nI m - 1 else f 143 q := fun q => by rw [hfS, zi_at, kp, zi_ne (by omega), hS1.1 143 (by omega) (by omega)]
    have fv : fS 168 = f1 168 := by rw [hfS, zi_ne (by omega), zi_ne (by omega)]
    have ri : ∀ i, ¬ i = 179 → ¬ i = 198 → ¬ i = 199 → rS i = r i := fun i a b c => by rw [hrS, zi_ne a, zi_ne a, hR1 i b c]
    have rn : ∀ j, rS 179 j = if j = 52 + p then 0 else if j = 28 + p then nI m else r 179 j := fun j => by rw [hrS, zi_at, zi_at, k28, k52, hR1 179 (by omega) (by omega)]
    have hP2 : zPr_158 fS rS := zPr_158_g hPr (by rw [fi 158 (by omega) (by omega) (by omega) (by omega)]) (by rw [fi 11 (by omega) (by omega) (by omega) (by omega)]) (fi 12 (by omega) (by omega) (by omega) (by omega)) (by rw [ri 178 (by omega) (by omega) (by omega)]) (by rw [rn, if_neg (by omega), if_neg (by omega)]) (ri 184 (by omega) (by omega) (by omega))
    obtain ⟨F, R, ⟨t1, t2, t3, t4, t5⟩, tc, tr⟩ := tl_158 (X := X) (d := d + 6) (e := e + 7) (g := g) (gr := gr) (p := p) (f := fS) (r := rS) (kw := kw) (kn := m) hkw hm12 (by omega) hP2 (by rw [fi 159 (by omega) (by omega) (by omega) (by omega), rn, if_neg (by omega), if_neg (by omega)]; exact hb) (by rw [ri 182 (by omega) (by omega) (by omega)]; exact w2) (by rw [f5, if_pos rfl]) (by rw [rn, if_neg (by omega), if_pos rfl])
    have hG : zGc_158 f F r R := ⟨fun i a1 a2 a3 a4 a5 a6 a7 a8 a9 => by rw [t1 i a8 a9, fi i a4 a2 a6 a7], by rw [t1 168 (by omega) (by omega), fv]; exact hS1.2.1, by rw [t1 168 (by omega) (by omega), fv]; exact hS1.2.2, fun j hj => by rw [t1 138 (by omega) (by omega), fi 138 (by omega) (by omega) (by omega) (by omega)], fun i a1 a2 a3 a4 => by rw [t2 i a1 a2, ri i a1 a3 a4], by rw [t3 0 (by omega), rn, if_neg (by omega), if_neg (by omega)], by rw [t3 3 (by omega), rn, if_neg (by omega), if_neg (by omega)]⟩
    refine ⟨F, R, zMi_158_next (kn := m) (ka := 0) (of := f 144 p) (wr := f 146 p) hM hp hB hG hm12 (by omega) (by rw [← z40]; exact z41) (by rw [← z40]; exact z42) (Or.inl rfl) (fun q => by rw [t1 143 (by omega) (by omega), f5]) (fun q => ?_) (fun q => by rw [t1 145 (by omega) (by omega), f7]; rfl) (fun q => ?_) ?_ (by rw [t3 (28 + p) (by omega), rn, if_neg (by omega), if_pos rfl]) (by rw [t3 (40 + p) (by omega), rn, if_neg (by omega), if_neg (by omega)]; exact z40) (by rw [t3 (52 + p) (by omega), rn, if_pos rfl]; rfl) (by rw [t3 (64 + p) (by omega), rn, if_neg (by omega), if_neg (by omega)]; exact z64) (fun j a1 a2 a3 a4 a5 a6 => by rw [t3 j a2, rn, if_neg a5, if_neg a3]) t5, hG, zBk_158_tr (zBk_158_g hPr (fi 11 (by omega) (by omega) (by omega) (by omega)) (fi 12 (by omega) (by omega) (by omega) (by omega)) (ri 184 (by omega) (by omega) (by omega)) (by rw [rn, if_neg (by omega), if_neg (by omega)])) t4, fun K hK => ?_, fun K hK => ?_⟩
    · rw [t1 144 (by omega) (by omega), fi 144 (by omega) (by omega) (by omega) (by omega)]
      split
      · next e => rw [e]
      · rfl
    · rw [t1 146 (by omega) (by omega), fi 146 (by omega) (by omega) (by omega) (by omega)]
      split
      · next e => rw [e]
      · rfl
    · rw [t3 1 (by omega), rn, if_neg (by omega), if_neg (by omega), t1 138 (by omega) (by omega), fi 138 (by omega) (by omega) (by omega) (by omega)]
      exact hr1
    · have z := tc K hK
      rw [hfS] at z
      rw [kp, hS1.1 164 (by omega) (by omega), w1]
      rw [kp] at z
      exact z
    · have z := tr K hK
      rw [hrS] at z
      exact z
  by_cases hm0 : m = 0
  case neg =>
    have hne : ¬ nI m - 1 = -1 := by rw [zmm1 hm12]; exact hm0
    obtain ⟨F, R, a1, a2, a3, a4, a5⟩ := hsim f r m hm12 zSc_rf (fun _ _ _ => rfl)
    refine ⟨0, F, R, Or.inl rfl, fun K => zCpi_eq (fun K hK => ?_), fun K => zCpi_eq (fun K hK => ?_), a1, a2, a3⟩
    · apply e9_158
      rw [hq72, if_neg hne, if_neg ip, if_neg ip, if_neg ip]
      exact a4 (fun f g => if (0 : Int32) = 0 ∨ (0 : Int32) = 1 then K 0 f g else False) (by rw [if_pos (Or.inl rfl)]; exact hK)
    · apply e214_178
      rw [hq215, if_neg hne, if_neg i28, if_neg i52, show nI m - 1 + 1 = nI m by rw [(nI_m1 (by omega)).2, nI_1]; congr 1; omega]
      exact a5 (fun f g => if (0 : Int32) = 0 ∨ (0 : Int32) = 1 then K 0 f g else False) (by rw [if_pos (Or.inl rfl)]; exact hK)
  subst hm0
  have hm1 : nI 0 - 1 = (-1 : Int32) := by decide
  have hlin := zlp_in (N := f 164) (H := fun o => zLa (f 14) wl al bl cl k 0 (zVv (f 160) (f 161) (f 162) (f 163) (f 164) (f 165) (f 167) (f 159 11) n P p o)) (p := p) (n := n)
  obtain ⟨lo, hlo⟩ : ∃ lo, lo = (zfold (zlp (f 164) (fun o => zLa (f 14) wl al bl cl k 0 (zVv (f 160) (f 161) (f 162) (f 163) (f 164) (f 165) (f 167) (f 159 11) n P p o)) p) n 0 (-1, 0)).1 := ⟨_, rfl⟩
  rw [← hlo] at hlin
  obtain ⟨v1, F1, g1, ⟨ev1, hS1, eg1⟩, q10⟩ := zCpi_en (l10_158 (X := X) (d := d) (f := f) (g := g) (K := fun v F' g' => lo = v ∧ zSc 168 f F' ∧ g = g') hA hp (fun F hF => ⟨hlo, hF, rfl⟩))
  subst ev1 eg1
  obtain ⟨v2, R1, g2, ⟨ev2, hR1, eg2⟩, q216⟩ := zCpi_en (l216 (X := X) (d := e + 1) (f := r) (g := gr) (K := fun v F' g' => lo = v ∧ zSr r F' ∧ gr = g') hH hc hn hpl hL hp (fun F hF => ⟨hlo, hF, rfl⟩))
  subst ev2 eg2
  rcases hlin with hl1 | ⟨o, ho, hno, hl1⟩
  · obtain ⟨F, R, a1, a2, a3, a4, a5⟩ := hsim F1 R1 0 (by omega) hS1 hR1
    refine ⟨0, F, R, Or.inl rfl, fun K => zCpi_eq (fun K hK => ?_), fun K => zCpi_eq (fun K hK => ?_), a1, a2, a3⟩
    · apply e9_158
      rw [hq72, if_pos hm1, q10, hl1, if_neg ip, if_pos rfl, if_neg ip, if_neg ip]
      exact a4 (fun f g => if (0 : Int32) = 0 ∨ (0 : Int32) = 1 then K 0 f g else False) (by rw [if_pos (Or.inl rfl)]; exact hK)
    · apply e214_178
      rw [hq215, if_pos hm1, q216, hl1, if_pos rfl, if_neg i28, if_neg i52]
      exact a5 (fun f g => if (0 : Int32) = 0 ∨ (0 : Int32) = 1 then K 0 f g else False) (by rw [if_pos (Or.inl rfl)]; exact hK)
  · obtain ⟨f2, hf2⟩ : ∃ f2, f2 = zuI F1 145 (nI p).toNatClampNeg (nI o) := ⟨_, rfl⟩
    have f2i : ∀ i, ¬ i = 145 → ¬ i = 168 → ¬ i = 19 → f2 i = f i := fun i a b c => by rw [hf2, zi_ne a, hS1.1 i b c]
    have f27 : ∀ q, f2 145 q = if q = p then nI o else f 145 q := fun q => by rw [hf2, zi_at, kp, hS1.1 145 (by omega) (by omega)]
    have f2v : f2 168 = F1 168 := by rw [hf2, zi_ne (by omega)]
    have hA2 : zAc_158 f2 g n P k wl al bl cl := zAc_158_g hA (fun i hi => f2i i (by omega) (by omega) (by omega)) (by rw [f2v]; exact hS1.2.1) (by rw [f2v]; exact hS1.2.2)
    have hP2 : zPr_158 f2 R1 := zPr_158_g hPr (by rw [f2i 158 (by omega) (by omega) (by omega)]) (by rw [f2i 11 (by omega) (by omega) (by omega)]) (f2i 12 (by omega) (by omega) (by omega)) (by rw [hR1 178 (by omega) (by omega)]) (by rw [hR1 179 (by omega) (by omega)]) (hR1 184 (by omega) (by omega))
    have hL2 : zLj R1 (f2 14) k wl al bl cl := by rw [f2i 14 (by omega) (by omega) (by omega)]; exact zLj_f hR1 hL
    have hfo := fo_158 (X := X) (d := d) (e := e) (f := f2) (r := R1) (g := g) (gr := gr) (n := n) (P := P) (k := k) (p := p) (o := o) (wl := wl) (al := al) (bl := bl) (cl := cl) (B := B) (K := fun v F' g' => g = g' ∧ (v = 0 ∨ v = 1) ∧ ∃ (R : Nat → Nat → Int32) (kn : Nat) (of wr st : Int32), 1 ≤ kn ∧ kn ≤ 12 ∧ -50 ≤ of.toInt ∧ of.toInt ≤ 50 ∧ (wr = f2 146 p ∨ wr = f2 146 p + 1) ∧ zUc 138 168 p f2 F' kn of wr st ∧ zUr p R1 R kn (o + 1) of wr st ∧ (∀ K' : Int32 → (Nat → Nat → Int32) → (Nat → Nat → Int64) → Prop, zCpi X (e + 8) 229 [.ref 178, .int (nI p), .int (nI o)] (zs R1 gr) K' = if v = 0 then K' 0 R gr else zCpv X (e + 7) 235 [.ref 178, .int 0, .int (nI p), .int (nI kn - 1)] (zs R gr) (fun f g => K' 1 f g))) hA2 (by rw [f2i 159 (by omega) (by omega) (by omega), f2i 160 (by omega) (by omega) (by omega), f2i 161 (by omega) (by omega) (by omega), f2i 162 (by omega) (by omega) (by omega), f2i 163 (by omega) (by omega) (by omega), f2i 164 (by omega) (by omega) (by omega), f2i 165 (by omega) (by omega) (by omega), f2i 166 (by omega) (by omega) (by omega), f2i 167 (by omega) (by omega) (by omega), hR1 182 (by omega) (by omega), hR1 178 (by omega) (by omega), hR1 183 (by omega) (by omega)]; exact hH) (fun k hk => by rw [hR1 197 (by omega) (by omega)]; exact hpl k hk) hL2 hP2 (by rw [f2i 138 (by omega) (by omega) (by omega), hR1 179 (by omega) (by omega)]; exact hr1.symm) (by rw [f2i 146 (by omega) (by omega) (by omega), hR1 179 (by omega) (by omega)]; exact z64) hp ho (by rw [f2i 164 (by omega) (by omega) (by omega)]; exact hno) (fun v F R kn of wr st a1 a2 a3 a4 a5 a6 a7 a8 a9 => ⟨rfl, a1, R, kn, of, wr, st, a2, a3, a4, a5, a6, a7, a8, a9⟩)
    obtain ⟨v, F3, g3, ⟨eg3, hv, R3, kn, of, wr, st, y1, y2, y3, y4, y5, ⟨u1, u2, u3, u4, u5, u6, u7, u8⟩, ⟨x1, x2, x3, x4, x5, x6, x7⟩, q229⟩, q12⟩ := zCpi_en hfo
    subst eg3
    have u6' : ∀ q, F3 143 q = if q = p then nI kn - 1 else f2 143 q := u6
    have u7' : ∀ q, F3 144 q = if q = p then of else f2 144 q := u7
    have u8' : ∀ q, F3 146 q = if q = p then wr else f2 146 q := u8
    have F3i : ∀ i, ¬ i = 138 → ¬ i = 143 → ¬ i = 144 → ¬ i = 145 → ¬ i = 146 → ¬ i = 168 → ¬ i = 19 → F3 i = f i := fun i a1 a2 a3 a4 a5 a6 a7 => by rw [u1 i a1 a2 a3 a5 a6 a7, f2i i a4 a6 a7]
    have F37 : ∀ q, F3 145 q = if q = p then nI o else f 145 q := fun q => by rw [u1 145 (by omega) (by omega) (by omega) (by omega) (by omega) (by omega)]; exact f27 q
    have R3i : ∀ i, ¬ i = 179 → ¬ i = 198 → ¬ i = 199 → R3 i = r i := fun i a1 a2 a3 => by rw [x1 i a1 a2 a3, hR1 i a2 a3]
    have R3j : ∀ j, ¬ j = 1 → ¬ j = 28 + p → ¬ j = 40 + p → ¬ j = 52 + p → ¬ j = 64 + p → R3 179 j = r 179 j := fun j a1 a2 a3 a4 a5 => by rw [x7 j a1 a2 a3 a4 a5, hR1 179 (by omega) (by omega)]
    have hP3 : zPr_158 F3 R3 := zPr_158_g hPr (by rw [F3i 158 (by omega) (by omega) (by omega) (by omega) (by omega) (by omega) (by omega)]) (by rw [F3i 11 (by omega) (by omega) (by omega) (by omega) (by omega) (by omega) (by omega)]) (F3i 12 (by omega) (by omega) (by omega) (by omega) (by omega) (by omega) (by omega)) (by rw [R3i 178 (by omega) (by omega) (by omega)]) (R3j 2 (by omega) (by omega) (by omega) (by omega) (by omega)) (R3i 184 (by omega) (by omega) (by omega))
    have hb3 : F3 159 11 = R3 179 0 := by rw [F3i 159 (by omega) (by omega) (by omega) (by omega) (by omega) (by omega) (by omega), R3j 0 (by omega) (by omega) (by omega) (by omega) (by omega)]; exact hb
    have hw : ∃ F4 R4, zWt_158 F3 R3 F4 R4 ∧ (v = 0 → F4 = F3 ∧ R4 = R3) ∧ (v = 1 → (∀ K : (Nat → Nat → Int32) → (Nat → Nat → Int64) → Prop, zCpv X (d + 8) 14 [.ref 158, .int 0, .int (nI p), .int (nI kn - 1)] (zs F3 g) K = K F4 g) ∧ (∀ K : (Nat → Nat → Int32) → (Nat → Nat → Int64) → Prop, zCpv X (e + 7) 235 [.ref 178, .int 0, .int (nI p), .int (nI kn - 1)] (zs R3 gr) K = K R4 gr)) := by
      rcases hv with rfl | rfl
      · exact ⟨F3, R3, ⟨fun _ _ _ => rfl, fun _ _ _ => rfl, fun _ _ => rfl, zBk_158_rf hP3, hP3⟩, fun _ => ⟨rfl, rfl⟩, fun z => absurd z (by decide)⟩
      · obtain ⟨F4, R4, b1, b2, b3⟩ := wr_158 (X := X) (d := d + 6) (e := e + 6) (g := g) (gr := gr) (a1 := 0) (a2 := nI p) (a3 := nI kn - 1) hP3 hb3
        exact ⟨F4, R4, b3, fun z => absurd z (by decide), fun _ => ⟨b1, b2⟩⟩
    obtain ⟨F4, R4, ⟨m1, m2, m3, m4, m5⟩, mv0, mv1⟩ := hw
    obtain ⟨F, R, ⟨t1, t2, t3, t4, t5⟩, tc, tr⟩ := tl_158 (X := X) (d := d + 6) (e := e + 7) (g := g) (gr := gr) (p := p) (f := F4) (r := R4) (kw := kw) (kn := kn) hkw y2 (by omega) m5 (by rw [m1 159 (by omega) (by omega), m3 0 (by omega)]; exact hb3) (by rw [m2 182 (by omega) (by omega), R3i 182 (by omega) (by omega) (by omega)]; exact w2) (by rw [m1 143 (by omega) (by omega), u6', if_pos rfl]) (by rw [m3 (28 + p) (by omega)]; exact x3)
    have Fi : ∀ i, ¬ i = 11 → ¬ i = 12 → F i = F3 i := fun i a b => by rw [t1 i a b, m1 i a b]
    have Ri : ∀ i, ¬ i = 179 → ¬ i = 184 → R i = R3 i := fun i a b => by rw [t2 i a b, m2 i a b]
    have Rj : ∀ j, ¬ j = 2 → R 179 j = R3 179 j := fun j a => by rw [t3 j a, m3 j a]
    have hG : zGc_158 f F r R := ⟨fun i a1 a2 a3 a4 a5 a6 a7 a8 a9 => by rw [Fi i a8 a9, F3i i a1 a2 a3 a4 a5 a6 a7], by rw [Fi 168 (by omega) (by omega), u2, f2v]; exact hS1.2.1, by rw [Fi 168 (by omega) (by omega), u3, f2v]; exact hS1.2.2, fun j hj => by rw [Fi 138 (by omega) (by omega), u4 j hj, f2i 138 (by omega) (by omega) (by omega)], fun i a1 a2 a3 a4 => by rw [Ri i a1 a2, R3i i a1 a3 a4], by rw [Rj 0 (by omega), R3j 0 (by omega) (by omega) (by omega) (by omega) (by omega)], by rw [Rj 3 (by omega), R3j 3 (by omega) (by omega) (by omega) (by omega) (by omega)]⟩
    have hwr' : wr = f 146 p ∨ wr = f 146 p + 1 := by
      rw [f2i 146 (by omega) (by omega) (by omega)] at y5
      exact y5
    have hne : nI o = nI (o + 1) - 1 := (nI_pred o).symm
    refine ⟨v, F, R, hv, fun K => zCpi_eq (fun K hK => ?_), fun K => zCpi_eq (fun K hK => ?_), zMi_158_next (kn := kn) (ka := o + 1) (of := of) (wr := wr) hM hp hB hG y2 (by omega) y3 y4 hwr' (fun q => by rw [Fi 143 (by omega) (by omega), u6', f2i 143 (by omega) (by omega) (by omega)]) (fun q => by rw [Fi 144 (by omega) (by omega), u7', f2i 144 (by omega) (by omega) (by omega)]) (fun q => by rw [Fi 145 (by omega) (by omega), F37, hne]) (fun q => by rw [Fi 146 (by omega) (by omega), u8', f2i 146 (by omega) (by omega) (by omega)]) (by rw [Rj 1 (by omega), x2, Fi 138 (by omega) (by omega), u5]) (by rw [Rj (28 + p) (by omega)]; exact x3) (by rw [Rj (40 + p) (by omega)]; exact x4) (by rw [Rj (52 + p) (by omega)]; exact x5) (by rw [Rj (64 + p) (by omega)]; exact x6) (fun j a1 a2 a3 a4 a5 a6 => by rw [Rj j a2, R3j j a1 a3 a4 a5 a6]) t5, hG, zBk_158_tr (zBk_158_g hPr (F3i 11 (by omega) (by omega) (by omega) (by omega) (by omega) (by omega) (by omega)) (F3i 12 (by omega) (by omega) (by omega) (by omega) (by omega) (by omega) (by omega)) (R3i 184 (by omega) (by omega) (by omega)) (R3j 2 (by omega) (by omega) (by omega) (by omega) (by omega))) (zBk_158_tr m4 t4)⟩
    · have hbv : F3 164 (nI p).toNatClampNeg = nI kw - 1 := by rw [kp, F3i 164 (by omega) (by omega) (by omega) (by omega) (by omega) (by omega) (by omega)]; exact w1
      have hnv : F3 143 (nI p).toNatClampNeg = nI kn - 1 := by rw [kp, u6', if_pos rfl]
      apply e9_158
      rw [hq72, if_pos hm1, q10, hl1, if_neg ip, if_neg (nI_nem (by omega)), ← hf2, q12, if_neg ip]
      rcases hv with rfl | rfl
      · obtain ⟨ef, er⟩ := mv0 rfl
        rw [if_pos rfl, hbv]
        rw [ef] at tc
        exact tc (fun f g => if (0 : Int32) = 0 ∨ (0 : Int32) = 1 then K 0 f g else False) (by rw [if_pos (Or.inl rfl)]; exact hK)
      · rw [if_neg (by decide), if_neg ip, hnv, (mv1 rfl).1, hbv]
        exact tc (fun f g => if (1 : Int32) = 0 ∨ (1 : Int32) = 1 then K 1 f g else False) (by rw [if_pos (Or.inr rfl)]; exact hK)
    · apply e214_178
      rw [hq215, if_pos hm1, q216, hl1, if_neg (nI_nem (by omega)), q229]
      rcases hv with rfl | rfl
      · obtain ⟨ef, er⟩ := mv0 rfl
        rw [if_pos rfl]
        rw [er] at tr
        exact tr (fun f g => if (0 : Int32) = 0 ∨ (0 : Int32) = 1 then K 0 f g else False) (by rw [if_pos (Or.inl rfl)]; exact hK)
      · rw [if_neg (by decide), (mv1 rfl).2]
        exact tr (fun f g => if (1 : Int32) = 0 ∨ (1 : Int32) = 1 then K 1 f g else False) (by rw [if_pos (Or.inr rfl)]; exact hK)
end ZPY

/-! whom one hears loudest -/
def zlp (N : Nat → Int32) (H : Nat → Int32) (p o : Nat) (s : Int32 × Int32) : Int32 × Int32 := if o = p ∨ N o = -1 then s else if s.2 < H o then (nI o, H o) else s
section ZLO
variable {X : Nat × (Nat → Int32)} {d : Nat} {f : Nat → Nat → Int32} {g : Nat → Nat → Int64} {K : Int32 → (Nat → Nat → Int32) → (Nat → Nat → Int64) → Prop} {n P k p : Nat} {wl al bl cl : Nat → Nat}
theorem Int32_nle {a b : Int32} : ¬ a ≤ b ↔ b < a := by simp only [Int32.lt_iff_toInt_lt, Int32.le_iff_toInt_le]; omega
theorem l10_147 (hA : zAc_147 f g n P k wl al bl cl) (hp : p < n) (hK : ∀ F, zSc 157 f F → K (zfold (zlp (f 153) (fun o => zLa (f 14) wl al bl cl k 0 (zVv (f 149) (f 150) (f 151) (f 152) (f 153) (f 154) (f 156) (f 148 11) n P p o)) p) n 0 (-1, 0)).1 F g) : zCpi X (d + 8) 10 [.ref 147, .int (nI p)] (zs f g) K := by
  apply e10_147
  have hn : n ≤ 12 := hA.1
  have h8 : f 148 8 = nI n := hA.2.2.1
  refine zloop (st := zlp (f 153) (fun o => zLa (f 14) wl al bl cl k 0 (zVv (f 149) (f 150) (f 151) (f 152) (f 153) (f 154) (f 156) (f 148 11) n P p o)) p) (W := fun i s => ∀ F, zSc 157 f F → zWp X (d + 7) zm10 7 [.ref 147, .int (nI p), .int s.1, .int s.2, .int (nI i), .null] [] (zs F g) (zQi K)) (E := fun s => ∀ F, zSc 157 f F → K s.1 F g) n ?_ ?_ n 0 (-1, 0) (by omega) hK f zSc_rf
  · intro s hs F hF
    apply s10_7_147
    rw [hF.1 148 (by omega) (by omega), h8, if_pos (nI_le (by omega) (by omega))]
    exact hs F hF
  · intro i s hi hs F hF
    apply s10_7_147
    rw [hF.1 148 (by omega) (by omega), h8, if_neg (nI_ge (by omega) (by omega))]
    unfold zlp at hs
    by_cases e : i = p
    · rw [if_pos (Or.inl e)] at hs
      rw [if_pos (by rw [e]), nI_1]
      exact hs F hF
    · rw [if_neg (nI_neq (by omega) (by omega) e), if_neg (nI_in (by omega) (by omega)), nI_cl (by omega), hF.1 153 (by omega) (by omega)]
      by_cases e2 : f 153 i = -1
      · rw [if_pos (Or.inr e2)] at hs
        rw [if_pos e2, nI_1]
        exact hs F hF
      · rw [if_neg (fun z => z.elim e e2)] at hs
        rw [if_neg e2]
        refine l11_147 (d := d + 1) (w := 0) (zAc_147_f hF hA) (by omega) hp hi (fun G hG => ?_)
        rw [hF.1 14 (by omega) (by omega), hF.1 148 (by omega) (by omega), hF.1 149 (by omega) (by omega), hF.1 150 (by omega) (by omega), hF.1 151 (by omega) (by omega), hF.1 152 (by omega) (by omega), hF.1 153 (by omega) (by omega), hF.1 154 (by omega) (by omega), hF.1 156 (by omega) (by omega), nI_1]
        have hFG := zSc_tr hF hG
        split
        · next h =>
          rw [if_neg (fun z => Int32_nle.mpr z h)] at hs
          exact hs G hFG
        · next h =>
          rw [if_pos (Int32_nle.mp h)] at hs
          exact hs G hFG
theorem l10_158 (hA : zAc_158 f g n P k wl al bl cl) (hp : p < n) (hK : ∀ F, zSc 168 f F → K (zfold (zlp (f 164) (fun o => zLa (f 14) wl al bl cl k 0 (zVv (f 160) (f 161) (f 162) (f 163) (f 164) (f 165) (f 167) (f 159 11) n P p o)) p) n 0 (-1, 0)).1 F g) : zCpi X (d + 8) 10 [.ref 158, .int (nI p)] (zs f g) K := by
  apply e10_158
  have hn : n ≤ 12 := hA.1
  have h8 : f 159 8 = nI n := hA.2.2.1
  refine zloop (st := zlp (f 164) (fun o => zLa (f 14) wl al bl cl k 0 (zVv (f 160) (f 161) (f 162) (f 163) (f 164) (f 165) (f 167) (f 159 11) n P p o)) p) (W := fun i s => ∀ F, zSc 168 f F → zWp X (d + 7) zm10 7 [.ref 158, .int (nI p), .int s.1, .int s.2, .int (nI i), .null] [] (zs F g) (zQi K)) (E := fun s => ∀ F, zSc 168 f F → K s.1 F g) n ?_ ?_ n 0 (-1, 0) (by omega) hK f zSc_rf
  · intro s hs F hF
    apply s10_7_158
    rw [hF.1 159 (by omega) (by omega), h8, if_pos (nI_le (by omega) (by omega))]
    exact hs F hF
  · intro i s hi hs F hF
    apply s10_7_158
    rw [hF.1 159 (by omega) (by omega), h8, if_neg (nI_ge (by omega) (by omega))]
    unfold zlp at hs
    by_cases e : i = p
    · rw [if_pos (Or.inl e)] at hs
      rw [if_pos (by rw [e]), nI_1]
      exact hs F hF
    · rw [if_neg (nI_neq (by omega) (by omega) e), if_neg (nI_in (by omega) (by omega)), nI_cl (by omega), hF.1 164 (by omega) (by omega)]
      by_cases e2 : f 164 i = -1
      · rw [if_pos (Or.inr e2)] at hs
        rw [if_pos e2, nI_1]
        exact hs F hF
      · rw [if_neg (fun z => z.elim e e2)] at hs
        rw [if_neg e2]
        refine l11_158 (d := d + 1) (w := 0) (zAc_158_f hF hA) (by omega) hp hi (fun G hG => ?_)
        rw [hF.1 14 (by omega) (by omega), hF.1 159 (by omega) (by omega), hF.1 160 (by omega) (by omega), hF.1 161 (by omega) (by omega), hF.1 162 (by omega) (by omega), hF.1 163 (by omega) (by omega), hF.1 164 (by omega) (by omega), hF.1 165 (by omega) (by omega), hF.1 167 (by omega) (by omega), nI_1]
        have hFG := zSc_tr hF hG
        split
        · next h =>
          rw [if_neg (fun z => Int32_nle.mpr z h)] at hs
          exact hs G hFG
        · next h =>
          rw [if_pos (Int32_nle.mp h)] at hs
          exact hs G hFG
variable {cd : Nat → Int32} {c st un bt pl : Int32} {L E Xs Ys N O A W : Nat → Int32} {B : Int}
theorem zLj_f {F : Nat → Nat → Int32} (hS : zSr f F) (h : zLj f cd k wl al bl cl) : zLj F cd k wl al bl cl := by
  obtain ⟨l1, l2, l3⟩ := h
  unfold zLj
  rw [hS 187 (by omega) (by omega), hS 188 (by omega) (by omega), hS 189 (by omega) (by omega), hS 190 (by omega) (by omega), hS 191 (by omega) (by omega), hS 192 (by omega) (by omega), hS 193 (by omega) (by omega)]
  exact ⟨l1, l2, l3⟩
theorem l216 (hH : zHal c st un bt L E Xs Ys N O A W (f 182) (f 178 7) (f 183) B) (hc : c = nI n) (hn : n ≤ 12) (hpl : ∀ k, k < 48 → f 197 k = if P.testBit k = true then 1 else 0) (hL : zLj f cd k wl al bl cl) (hp : p < n) (hK : ∀ F, zSr f F → K (zfold (zlp N (fun o => zLa cd wl al bl cl k 0 (zVv L E Xs Ys N O W bt n P p o)) p) n 0 (-1, 0)).1 F g) : zCpi X (d + 7) 216 [.ref 178, .int (nI p)] (zs f g) K := by
  apply e216_178
  have h7 : f 178 7 = nI n := by
    obtain ⟨n', hn', h1, h2, -⟩ := hH
    have en : n' = n := (nI_eq (by omega) (by omega)).mp (h1.symm.trans hc)
    rw [← en]
    exact h2
  refine zloop (st := zlp N (fun o => zLa cd wl al bl cl k 0 (zVv L E Xs Ys N O W bt n P p o)) p) (W := fun i s => ∀ F, zSr f F → zWp X (d + 6) zm216 7 [.ref 178, .int (nI p), .int s.1, .int s.2, .int (nI i), .null] [] (zs F g) (zQi K)) (E := fun s => ∀ F, zSr f F → K s.1 F g) n ?_ ?_ n 0 (-1, 0) (by omega) hK f (fun _ _ _ => rfl)
  · intro s hs F hF
    apply s216_7_178
    rw [hF 178 (by omega) (by omega), h7, if_pos (nI_le (by omega) (by omega))]
    exact hs F hF
  · intro i s hi hs F hF
    have hk : ∃ ki : Nat, ki ≤ 12 ∧ N i = nI ki - 1 ∧ f 182 (28 + i) = nI ki := by
      obtain ⟨n', hn', h1, h2, h3, h4, h5, h6, h7, h8⟩ := hH
      have en : n' = n := (nI_eq (by omega) (by omega)).mp (h1.symm.trans hc)
      obtain ⟨-, -, -, h9, -⟩ := h8 i (by omega)
      exact h9
    obtain ⟨ki, hki, eki, ewi⟩ := hk
    apply s216_7_178
    rw [hF 178 (by omega) (by omega), h7, if_neg (nI_ge (by omega) (by omega))]
    unfold zlp at hs
    by_cases e : i = p
    · rw [if_pos (Or.inl e)] at hs
      rw [if_pos (by rw [e]), nI_1]
      exact hs F hF
    · rw [if_neg (nI_neq (by omega) (by omega) e), q217 (by omega) hki (by rw [hF 182 (by omega) (by omega)]; exact ewi)]
      simp only [zb_0, nI_1]
      by_cases e2 : ki = 0
      · rw [if_pos (Or.inr (by rw [eki, zmm1 hki]; exact e2))] at hs
        rw [if_pos (fun z => z e2)]
        exact hs F hF
      · rw [if_neg (fun z => z.elim e (by rw [eki, zmm1 hki]; exact e2))] at hs
        rw [if_neg (fun z => z e2)]
        refine l218 (d := d + 1) (n := n) (P := P) (by rw [hF 182 (by omega) (by omega), hF 178 (by omega) (by omega), hF 183 (by omega) (by omega)]; exact hH) hc hn (fun k hk => by rw [hF 197 (by omega) (by omega)]; exact hpl k hk) (zLj_f hF hL) hp hi (fun G hG => ?_)
        have hFG : zSr f G := fun j a b => (hG j a b).trans (hF j a b)
        split
        · next h => rw [if_pos h] at hs; exact hs G hFG
        · next h => rw [if_neg h] at hs; exact hs G hFG
end ZLO

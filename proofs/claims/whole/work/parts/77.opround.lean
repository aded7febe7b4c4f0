/-! round: both sides -/
section ZOR
variable {X : Nat × (Nat → Int32)} {d : Nat} {g : Nat → Nat → Int64}
theorem q141 {f : Nat → Nat → Int32} {K : Int32 → (Nat → Nat → Int32) → (Nat → Nat → Int64) → Prop} {P : Nat} {x : Int32} (hP : P < 2 ^ 48) (hg : g 2 12 = lN P) : zCpi X (d + 3) 141 [.ref 0, .int x] (zs f g) K = K (zb ((0 ≤ x.toInt ∧ x.toInt ≤ 47) ∧ P.testBit x.toInt.toNat = false)) f g := by
  refine zCpi_eq (fun K hK => e141_0 ?_)
  rw [q124]
  unfold zb at hK
  by_cases h : 0 ≤ x.toInt ∧ x.toInt ≤ 47
  · obtain ⟨k, hk, ek⟩ := zixn (x := x) (n := 48) (by omega) (by omega) (by omega)
    subst ek
    have tk : (nI k).toInt.toNat = k := by rw [nI_ti (by omega)]; omega
    rw [tk] at hK
    have hin : (0 : Int32).toInt ≤ (nI k).toInt ∧ (nI k).toInt ≤ (47 : Int32).toInt := h
    rw [if_neg (by rw [zb_0]; exact fun z => z hin), if_neg (by decide), if_neg (by decide), zrO.2, zdO.2, nI_r8 hk, nI_d8 hk, q17_2 hP hg (by omega) (by omega), show 8 * (k / 8) + k % 8 = k by omega]
    by_cases hp : P.testBit k = true
    · rw [if_neg (fun z => by rw [z.2] at hp; exact absurd hp (by decide))] at hK
      rw [if_neg (by rw [zb_0]; exact fun z => z hp), if_pos (Or.inl rfl)]
      exact hK
    · have hp' : P.testBit k = false := by
        rcases hb : P.testBit k with _ | _
        · rfl
        · exact absurd hb hp
      rw [if_pos ⟨h, hp'⟩] at hK
      rw [if_pos (by rw [zb_0]; exact hp), if_pos (Or.inr rfl)]
      exact hK
  · have hin : ¬ ((0 : Int32).toInt ≤ x.toInt ∧ x.toInt ≤ (47 : Int32).toInt) := h
    rw [if_neg (fun z => h z.1)] at hK
    rw [if_pos (by rw [zb_0]; exact hin), if_pos (Or.inl rfl)]
    exact hK
theorem l88 {f : Nat → Nat → Int32} {K : (Nat → Nat → Int32) → (Nat → Nat → Int64) → Prop} {P a : Nat} (hP : P < 2 ^ 48) (ha : a < 48) (hK : ∀ (F : Nat → Nat → Int32) (s q : Nat → Nat) (w : Nat), zBm F s q w → zBq P a s q w w → (∀ i, ¬ i = 170 → ¬ i = 171 → F i = f i) → K F g) : zCpv X (d + 3) 88 [.ref 169, .long (lN P), .int (nI a)] (zs f g) K := by
  apply e88_169
  have hini : ∀ m k, k + m = 48 → ∀ F : Nat → Nat → Int32, (∀ j, j < k → F 170 j = -1) → (∀ i, ¬ i = 170 → F i = f i) → zWp X (d + 2) zm88 3 [.ref 169, .long (lN P), .null, .int (nI a), .int (nI k), .null, .null, .null, .null] [] (zs F g) (zQv K) := by
    intro m
    induction m with
    | zero =>
      intro k hk F hS hF
      have ek : k = 48 := by omega
      subst ek
      have hin : (0 : Int32).toInt ≤ (nI a).toInt ∧ (nI a).toInt ≤ (47 : Int32).toInt := by
        rw [nI_ti (by omega)]
        have e0 : (0 : Int32).toInt = 0 := rfl
        have e9 : (47 : Int32).toInt = 47 := rfl
        omega
      apply s88_3_169
      rw [if_pos (show (48 : Int32) ≤ nI 48 from by decide), q124, if_neg (by rw [zb_0]; exact fun z => z hin), if_neg (nI_in (by omega) (by omega)), nI_cl (by omega), if_neg (by decide)]
      have hc1 : zcn (fun k => if k = a then 1 else 0) 48 = 1 := by
        have e : (fun k => if k = a then 1 else 0) = zupn (fun _ => 0) a 1 := rfl
        have hz : ∀ n, zcn (fun _ => 0) n = 0 := by
          intro n
          induction n with
          | zero => rfl
          | succ n ih => unfold zcn; rw [ih]; rfl
        rw [e, zcn_up rfl (by omega) 48 ha, hz]
      refine l88_55 (d := d) (P := P) (a := a) hP hK 48 0 (by omega) _ (fun k => if k = a then 1 else 0) (fun _ => a) 1 ⟨fun k hk => ?_, fun i hi => ?_⟩ ⟨by omega, by omega, hc1, fun i hi => ?_, fun k hk hs => ?_, fun i j _ hj => Nat.le_refl _, fun _ j hj => Nat.le_succ _, fun i hi => absurd hi (Nat.not_lt_zero i), if_pos rfl⟩ (fun i i1 i2 => by rw [zi_ne i2, zi_ne i1, hF i i1])
      · rw [zi_ne (by omega), zi_at]
        show (if k = a then (0 : Int32) else F 170 k) = nI (if k = a then 1 else 0) - 1
        by_cases e : k = a
        · rw [if_pos e, if_pos e]
          rfl
        · rw [if_neg e, if_neg e, hS k hk]
          rfl
      · rw [zi_at, if_pos (by omega)]
      · show a < 48 ∧ 0 < (if a = a then 1 else 0) ∧ (if a = a then 1 else 0) ≤ i + 1 ∧ zRt P a ((if a = a then 1 else 0) - 1) a
        rw [if_pos rfl]
        exact ⟨ha, by omega, by omega, rfl⟩
      · refine ⟨0, by omega, ?_⟩
        by_cases e : k = a
        · exact e.symm
        · have hs' : 0 < (if k = a then 1 else 0) := hs
          rw [if_neg e] at hs'
          omega
    | succ m ih =>
      intro k hk F hS hF
      apply s88_3_169
      rw [if_neg (show ¬ (48 : Int32) ≤ nI k from nI_ge (b := 48) (by omega) (by omega)), if_neg (nI_in (by omega) (by omega)), nI_cl (by omega), nI_1]
      refine ih (k + 1) (by omega) _ (fun j hj => ?_) (fun i hi => by rw [zi_ne hi, hF i hi])
      rw [zi_at]
      by_cases e : j = k
      · rw [if_pos e]
      · rw [if_neg e]
        exact hS j (by omega)
  exact hini 48 0 (by omega) f (fun j hj => absurd hj (Nat.not_lt_zero j)) (fun _ _ => rfl)
/-- those no further -/
def zcf (p : Nat → Bool) : Nat → Nat → Nat := fun k c => if p k = true then c + 1 else c
theorem l91 {F : Nat → Nat → Int32} {K : Int32 → (Nat → Nat → Int32) → (Nat → Nat → Int64) → Prop} {s : Nat → Nat} {b : Nat} (hb : b < 48) (hS : ∀ k, k < 48 → F 170 k = nI (s k) - 1 ∧ s k ≤ 48) (hK : K (if s b = 0 then -1 else nI (zfold (zcf (fun k => decide (0 < s k ∧ s k ≤ s b))) 48 0 0)) F g) : zCpi X (d + 4) 91 [.ref 169, .int (nI b)] (zs F g) K := by
  have hin : (0 : Int32).toInt ≤ (nI b).toInt ∧ (nI b).toInt ≤ (47 : Int32).toInt := by
    rw [nI_ti (by omega)]
    have e0 : (0 : Int32).toInt = 0 := rfl
    have e9 : (47 : Int32).toInt = 47 := rfl
    omega
  apply e91_169
  apply e90_169
  rw [q124, if_neg (by rw [zb_0]; exact fun z => z hin), if_neg (nI_in (by omega) (by omega)), nI_cl (by omega), (hS b hb).1]
  by_cases e : s b = 0
  · rw [if_pos e] at hK
    rw [if_pos (by rw [e]; decide)]
    exact hK
  · rw [if_neg e] at hK
    have hle := (hS b hb).2
    rw [if_neg (by rw [zmm (by omega)]; exact e)]
    refine zloop (st := zcf (fun k => decide (0 < s k ∧ s k ≤ s b))) (W := fun k c => zWp X (d + 3) zm91 18 [.ref 169, .int (nI b), .int (nI (s b) - 1), .int (nI c), .int (nI k)] [] (zs F g) (zQi K)) (E := fun c => K (nI c) F g) 48 ?_ ?_ 48 0 0 (by omega) hK
    · intro c hc
      apply s91_18_169
      rw [if_pos (show (48 : Int32) ≤ nI 48 from by decide)]
      exact hc
    · intro k c hk hc
      obtain ⟨y1, y2⟩ := hS k hk
      unfold zcf at hc
      apply s91_18_169
      rw [if_neg (show ¬ (48 : Int32) ≤ nI k from nI_ge (b := 48) hk (by omega)), if_neg (nI_in (by omega) (by omega)), nI_cl (by omega), q124, y1, nI_st (by omega), nI_st (by omega), nI_1, nI_1]
      have e0 : (0 : Int32).toInt = 0 := rfl
      by_cases h : 0 < s k ∧ s k ≤ s b
      · rw [if_pos (decide_eq_true h)] at hc
        rw [if_neg (by rw [zb_0]; omega)]
        exact hc
      · rw [if_neg (by rw [decide_eq_true_eq]; exact h)] at hc
        rw [if_pos (by rw [zb_0]; omega)]
        exact hc
theorem l249 {F : Nat → Nat → Int32} {K : Int32 → (Nat → Nat → Int32) → (Nat → Nat → Int64) → Prop} {S : Nat → Nat} {b : Nat} {x1 x3 : Int32} (hb : b < 48) (hS : ∀ k, k < 48 → F 200 k = nI (S k) ∧ S k ≤ 100000000) (hK : K (nI (zfold (zcf (fun k => decide (S k ≤ S b))) 48 0 0)) F g) : zWp X (d + 1) zm249 95 [.ref 178, .int x1, .int (nI b), .int x3, .int 0, .int 0] [] (zs F g) (zQi K) := by
  refine zloop (st := zcf (fun k => decide (S k ≤ S b))) (W := fun k c => zWp X (d + 1) zm249 95 [.ref 178, .int x1, .int (nI b), .int x3, .int (nI c), .int (nI k)] [] (zs F g) (zQi K)) (E := fun c => K (nI c) F g) 48 ?_ ?_ 48 0 0 (by omega) hK
  · intro c hc
    apply s249_95_178
    rw [if_pos (show (48 : Int32) ≤ nI 48 from by decide)]
    exact hc
  · intro k c hk hc
    obtain ⟨y1, y2⟩ := hS k hk
    obtain ⟨z1, z2⟩ := hS b hb
    unfold zcf at hc
    apply s249_95_178
    rw [if_neg (show ¬ (48 : Int32) ≤ nI k from nI_ge (b := 48) hk (by omega)), if_neg (nI_in (by omega) (by omega)), if_neg (nI_in (by omega) (by omega)), nI_cl (k := k) (by omega), nI_cl (k := b) (by omega), y1, z1, nI_1, nI_1]
    by_cases h : S k ≤ S b
    · rw [if_pos (decide_eq_true h)] at hc
      rw [if_neg (by simp only [Int32.lt_iff_toInt_lt, Int32.le_iff_toInt_le, nI_toInt (show S k < 2 ^ 31 by omega), nI_toInt (show S b < 2 ^ 31 by omega)]; omega)]
      exact hc
    · rw [if_neg (by rw [decide_eq_true_eq]; exact h)] at hc
      rw [if_pos (nI_lt (by omega) (by omega))]
      exact hc
end ZOR
theorem op_round {X : Nat × (Nat → Int32)} {d : Nat} {a b w : Int32} : zOp X (d + 5) 140 249 [.int a, .int b, .int w] := by
  intro fc fr gc gr hR
  have hR0 : zRel fc gc (zuI fr 178 0 0) := zRel_scr (fun _ _ _ => rfl) rfl rfl (fun _ _ => rfl) (fun i a1 _ _ _ _ => zi_ne a1) (fun j hj => by rw [zi_at, if_neg hj]) hR
  obtain ⟨⟨P, hP, p1, p2⟩, p3⟩ := hR.1.2.2.2.2.2.2.2.2.2.1
  have hr97 : zuI fr 178 0 0 197 = fr 197 := zi_ne (by omega)
  by_cases ha : 0 ≤ a.toInt ∧ a.toInt ≤ 47
  case neg =>
    have hin : ¬ ((0 : Int32).toInt ≤ a.toInt ∧ a.toInt ≤ (47 : Int32).toInt) := ha
    apply e140_0
    rw [q141 hP p1, if_pos (by rw [zb_0]; exact fun z => ha z.1)]
    apply e249_178
    rw [q165, if_pos (by rw [zb_0]; exact hin)]
    exact ⟨rfl, hR0⟩
  have hin : (0 : Int32).toInt ≤ a.toInt ∧ a.toInt ≤ (47 : Int32).toInt := ha
  obtain ⟨A, hA, eA⟩ := zixn (x := a) (n := 48) (by omega) (by omega) (by omega)
  subst eA
  have tA : (nI A).toInt.toNat = A := by rw [nI_ti (by omega)]; omega
  have rA : zuI fr 178 0 0 197 A = if P.testBit A = true then 1 else 0 := by rw [hr97]; exact p2 A hA
  have iA := nI_in (c := A) (N := 96) (by omega) (by omega)
  have kA := nI_cl (k := A) (by omega)
  -- the reference, refused behind the first check
  have hrb : ¬ ((0 ≤ b.toInt ∧ b.toInt ≤ 47) ∧ (0 ≤ w.toInt ∧ w.toInt ≤ 1) ∧ P.testBit A = false ∧ P.testBit b.toInt.toNat = false) → zCpi X (d + 5) 249 [.ref 178, .int (nI A), .int b, .int w] (zs fr gr) (fun r' f2 _ => zAn r' (-1) ∧ zRel fc gc f2) := fun h => by
    apply e249_178
    rw [q165, if_neg (by rw [zb_0]; exact fun z => z hin)]
    by_cases hb : (0 : Int32).toInt ≤ b.toInt ∧ b.toInt ≤ (47 : Int32).toInt
    · have hb' : 0 ≤ b.toInt ∧ b.toInt ≤ 47 := hb
      rw [q165, if_neg (by rw [zb_0]; exact fun z => z hb)]
      by_cases hw : (0 : Int32).toInt ≤ w.toInt ∧ w.toInt ≤ (1 : Int32).toInt
      · have hw' : 0 ≤ w.toInt ∧ w.toInt ≤ 1 := hw
        obtain ⟨B, hB, eB⟩ := zixn (x := b) (n := 48) (by omega) (by omega) (by omega)
        subst eB
        have tB : (nI B).toInt.toNat = B := by rw [nI_ti (by omega)]; omega
        rw [q165, if_neg (by rw [zb_0]; exact fun z => z hw), if_neg iA, kA, rA]
        by_cases pA : P.testBit A = true
        · rw [if_pos pA, if_pos rfl]
          exact ⟨rfl, hR0⟩
        · rw [if_neg pA, if_neg (by decide), if_neg (nI_in (by omega) (by omega)), nI_cl (by omega), hr97, p2 B hB]
          by_cases pB : P.testBit B = true
          · rw [if_pos pB, if_pos rfl]
            exact ⟨rfl, hR0⟩
          · rw [tB] at h
            exact absurd ⟨hb', hw', by simpa using pA, by simpa using pB⟩ h
      · rw [q165, if_pos (by rw [zb_0]; exact hw)]
        exact ⟨rfl, hR0⟩
    · rw [q165, if_pos (by rw [zb_0]; exact hb)]
      exact ⟨rfl, hR0⟩
  by_cases pA : P.testBit A = false
  case neg =>
    apply e140_0
    rw [q141 hP p1, if_pos (by rw [zb_0, tA]; exact fun z => pA z.2)]
    exact hrb (fun z => pA z.2.2.1)
  by_cases hb : (0 ≤ b.toInt ∧ b.toInt ≤ 47) ∧ P.testBit b.toInt.toNat = false
  case neg =>
    apply e140_0
    rw [q141 hP p1, if_neg (by rw [zb_0, tA]; exact fun z => z ⟨ha, pA⟩), q141 hP p1, if_pos (by rw [zb_0]; exact hb)]
    exact hrb (fun z => hb ⟨z.1, z.2.2.2⟩)
  by_cases hw : (0 : Int32).toInt ≤ w.toInt ∧ w.toInt ≤ (1 : Int32).toInt
  case neg =>
    apply e140_0
    rw [q141 hP p1, if_neg (by rw [zb_0, tA]; exact fun z => z ⟨ha, pA⟩), q141 hP p1, if_neg (by rw [zb_0]; exact fun z => z hb), q124, if_pos (by rw [zb_0]; exact hw)]
    exact hrb (fun z => hw z.2.1)
  have hb2 : (0 : Int32).toInt ≤ b.toInt ∧ b.toInt ≤ (47 : Int32).toInt := hb.1
  obtain ⟨B, hB, eB⟩ := zixn (x := b) (n := 48) (by have := hb.1; omega) (by have := hb.1; omega) (by omega)
  subst eB
  have tB : (nI B).toInt.toNat = B := by rw [nI_ti (by omega)]; omega
  have pB : P.testBit B = false := by rw [← tB]; exact hb.2
  apply e140_0
  rw [q141 hP p1, if_neg (by rw [zb_0, tA]; exact fun z => z ⟨ha, pA⟩), q141 hP p1, if_neg (by rw [zb_0]; exact fun z => z hb), q124, if_neg (by rw [zb_0]; exact fun z => z hw), p1]
  refine l88 (d := d + 1) hP hA (fun F s q wq hM hBq hF => ?_)
  obtain ⟨k1, k2⟩ := zBq_end hBq
  have hsle : ∀ k, k < 48 → s k ≤ 48 := fun k hk => by
    rcases Nat.eq_zero_or_pos (s k) with z | z
    · omega
    · exact (k1 k hk z).1
  -- the reference's walk
  have href : ∀ (v : Int32) (F' : Nat → Nat → Int32), (∀ i, ¬ i = 170 → ¬ i = 171 → F' i = fc i) → (∀ S : Nat → Nat, (∀ k, k < 48 → (0 < s k ∧ S k = s k - 1) ∨ (s k = 0 ∧ S k = 100000000)) → v = if s B = 0 then -1 else if w = 0 then nI (s B - 1) else nI (zfold (zcf (fun k => decide (S k ≤ S B))) 48 0 0)) → zCpi X (d + 5) 249 [.ref 178, .int (nI A), .int (nI B), .int w] (zs fr gr) (fun r' f2 _ => zAn r' v ∧ zRel F' gc f2) := fun v F' hF' hv => by
    apply e249_178
    rw [q165, if_neg (by rw [zb_0]; exact fun z => z hin), q165, if_neg (by rw [zb_0]; exact fun z => z hb2), q165, if_neg (by rw [zb_0]; exact fun z => z hw), if_neg iA, kA, rA, if_neg (by rw [pA]; decide), if_neg (nI_in (by omega) (by omega)), nI_cl (by omega), hr97, p2 B hB, if_neg (by rw [pB]; decide)]
    refine l250 (d := d + 1) (P := P) (a := A) hA (fun k hk => by rw [hr97]; exact p2 k hk) (fun G S hS hW hG => ?_)
    obtain ⟨w1, w2, w3, -⟩ := hW
    have hrel : zRel F' gc G := zRel_tho (fun i hi => hF' i (by omega) (by omega)) (fun i a1 a2 a3 a4 a5 a6 a7 => hG i a2) (fun j hj => by rw [hG 178 (by omega)]) hR0
    have hsS : ∀ k, k < 48 → (0 < s k ∧ S k = s k - 1) ∨ (s k = 0 ∧ S k = 100000000) := fun k hk => by
      rcases Nat.eq_zero_or_pos (s k) with z | z
      · refine Or.inr ⟨z, ?_⟩
        by_cases e : S k < 100000000
        · have := (k2 _ k (w2 k hk e) hk).1
          omega
        · have := w1 k hk
          omega
      · refine Or.inl ⟨z, ?_⟩
        obtain ⟨y1, y2⟩ := k1 k hk z
        have y3 := w3 (s k - 1) (by omega) k hk y2
        have y4 := (k2 _ k (w2 k hk (by omega)) hk).2
        omega
    have hv' := hv S hsS
    have hBS := hsS B hB
    rw [if_neg (nI_in' (by omega) (by omega)), hS B hB]
    by_cases e : s B = 0
    · rw [if_pos e] at hv'
      rw [if_neg (show ¬ nI (S B) < Int32.ofNat 100000000 from fun y => by
        rw [show S B = 100000000 by omega] at y
        exact absurd y (by decide))]
      exact ⟨hv'.symm, hrel⟩
    · rw [if_neg e] at hv'
      have hsl := hsle B hB
      rw [if_pos (show nI (S B) < Int32.ofNat 100000000 from nI_lt (b := 100000000) (by omega) (by omega))]
      by_cases ew : w = 0
      · rw [if_pos ew] at hv'
        rw [if_pos ew, if_neg (nI_in' (by omega) (by omega)), show S B = s B - 1 by omega]
        exact ⟨hv'.symm, hrel⟩
      · rw [if_neg ew] at hv'
        rw [if_neg ew]
        exact l249 (d := d + 3) hB (fun k hk => ⟨hS k hk, w1 k hk⟩) ⟨hv'.symm, hrel⟩
  by_cases ew : w = 0
  · rw [if_pos ew]
    apply e90_169
    rw [q124, if_neg (by rw [zb_0]; exact fun z => z hb2), if_neg (nI_in (by omega) (by omega)), nI_cl (by omega), hM.1 B hB]
    refine href _ F hF (fun S hS => ?_)
    by_cases e : s B = 0
    · rw [if_pos e, e]
      rfl
    · rw [if_neg e, if_pos ew, (nI_m1 (by omega)).2]
  · rw [if_neg ew]
    refine l91 (d := d) (s := s) hB (fun k hk => ⟨hM.1 k hk, hsle k hk⟩) (href _ F hF (fun S hS => ?_))
    by_cases e : s B = 0
    · rw [if_pos e, if_pos e]
    · rw [if_neg e, if_neg e, if_neg ew]
      congr 1
      refine zfold_congr _ _ _ (fun k c _ hk => ?_)
      have y1 := hS k (by omega)
      have y2 := hS B hB
      have y3 := hsle B hB
      unfold zcf
      by_cases h : S k ≤ S B
      · rw [if_pos (decide_eq_true (show 0 < s k ∧ s k ≤ s B by omega)), if_pos (decide_eq_true h)]
      · rw [if_neg (by rw [decide_eq_true_eq]; omega), if_neg (by rw [decide_eq_true_eq]; exact h)]

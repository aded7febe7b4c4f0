/-! desks: both sides -/
theorem op_desks {X : Nat × (Nat → Int32)} {d : Nat} {a w : Int32} : zOp X (d + 6) 143 252 [.int a, .int w] := by
  intro fc fr gc gr hR
  have hR0 : zRel fc gc (zuI fr 178 0 0) := zRel_scr (fun _ _ _ => rfl) rfl rfl (fun _ _ => rfl) (fun i a1 _ _ _ _ => zi_ne a1) (fun j hj => by rw [zi_at, if_neg hj]) hR
  by_cases hin : (1 : Int32).toInt ≤ a.toInt ∧ a.toInt ≤ (6 : Int32).toInt
  case neg =>
    apply e143_0
    rw [q124, if_pos (by rw [zb_0]; exact hin)]
    apply e252_178
    rw [q165, if_pos (by rw [zb_0]; exact hin)]
    exact ⟨rfl, hR0⟩
  by_cases hi2 : (0 : Int32).toInt ≤ w.toInt ∧ w.toInt ≤ (1 : Int32).toInt
  case neg =>
    apply e143_0
    rw [q124, if_neg (by rw [zb_0]; exact fun z => z hin), q124, if_pos (by rw [zb_0]; exact hi2)]
    apply e252_178
    rw [q165, if_neg (by rw [zb_0]; exact fun z => z hin), q165, if_pos (by rw [zb_0]; exact hi2)]
    exact ⟨rfl, hR0⟩
  have hin' : 1 ≤ a.toInt ∧ a.toInt ≤ 6 := hin
  have hi2' : 0 ≤ w.toInt ∧ w.toInt ≤ 1 := hi2
  have hw : w = 0 ∨ w = 1 := by
    obtain ⟨W, hW, eW⟩ := zixn (x := w) (n := 2) (by omega) (by omega) (by omega)
    have h4 : W = 0 ∨ W = 1 := by omega
    rcases h4 with rfl | rfl
    · exact Or.inl eW
    · exact Or.inr eW
  obtain ⟨n, hn7, eN⟩ := zixn (x := a) (n := 7) (by omega) (by omega) (by omega)
  subst eN
  have tn := nI_ti (k := n) (by omega)
  have h0 : 0 < n := by omega
  have hn : n ≤ 6 := by omega
  have hcos := hR.1.2.2.2.2.1
  obtain ⟨T, hTd⟩ : ∃ T : Nat → Nat, T = fun k => (fc 24 k).toInt.toNat := ⟨_, rfl⟩
  have hk6 : ∀ k, k < 36 → k = 6 * (k / 6) + k % 6 ∧ k / 6 < 6 ∧ k % 6 < 6 := fun k hk => ⟨by omega, by omega, by omega⟩
  have hTc : ∀ k, k < 36 → fc 24 k = nI (T k) ∧ T k ≤ 9 := fun k hk => by
    obtain ⟨e1, e2, e3⟩ := hk6 k hk
    obtain ⟨-, -, y3, y4⟩ := hcos (k / 6) (k % 6) e2 e3
    rw [← e1] at y3 y4
    rw [hTd]
    refine ⟨?_, by show (fc 24 k).toInt.toNat ≤ 9; omega⟩
    apply Int32.toInt_inj.mp
    show (fc 24 k).toInt = (nI (fc 24 k).toInt.toNat).toInt
    rw [nI_ti (by omega)]
    omega
  have hTr : ∀ k, k < 36 → zuI fr 178 0 0 201 k = nI (T k) := fun k hk => by
    obtain ⟨e1, e2, e3⟩ := hk6 k hk
    obtain ⟨y1, -⟩ := hcos (k / 6) (k % 6) e2 e3
    rw [← e1] at y1
    rw [zi_ne (by omega), ← y1]
    exact (hTc k hk).1
  have hTs : ∀ k, k < 36 → T (znm (k, 0)).1 = T k := fun k hk => by
    obtain ⟨e1, e2, e3⟩ := hk6 k hk
    obtain ⟨-, y2, -⟩ := hcos (k / 6) (k % 6) e2 e3
    rw [← e1] at y2
    show T (if k / 6 < k % 6 then 6 * (k % 6) + k / 6 else k) = T k
    split
    · rw [hTd]
      show (fc 24 (6 * (k % 6) + k / 6)).toInt.toNat = (fc 24 k).toInt.toNat
      rw [y2]
    · rfl
  obtain ⟨C, hCd⟩ : ∃ C : Nat → Nat, C = fun c => zlsum T (zpo (zdg n c) n n 0) := ⟨_, rfl⟩
  have hC : ∀ c, C c = zlsum T (zpo (zdg n c) n n 0) := fun c => by rw [hCd]
  have hCin : ∀ c, c ∈ zPl6 n → C c ≤ 900 ∧ zCr T n c = C c := fun c hc => by
    obtain ⟨y1, y2, y3, y4, y5, y6, y7⟩ := zchkp_at h0 hn7 hc
    have l1 := zlsum_le (fun k hk => (hTc k hk).2) _ y5
    refine ⟨by rw [hC]; omega, ?_⟩
    unfold zCr
    rw [if_pos y1, hC, ← zlsum_nm hTs _ y6, ← zlsum_nm hTs _ y5]
    exact (zlsum_perm y4).symm
  obtain ⟨q1, q2, q3, q4, q5⟩ := zP_head n hn7 h0
  have hbd : ∀ c, c < 10 ^ n → zCr T n c ≤ 100000000 := fun c hc => by
    by_cases e : zokc n n c 0 = true
    · have := hCin c (zP_mem h0 hn7 hc e)
      omega
    · unfold zCr
      rw [if_neg e]
      omega
  obtain ⟨t, et⟩ : ∃ t, zPl6 n = zfst n :: t := by
    rcases hL : zPl6 n with _ | ⟨c, t⟩
    · rw [hL] at q1
      exact absurd q1 (by simp)
    · rw [hL] at q1
      have : c = zfst n := by simpa using q1
      exact ⟨t, by rw [this]⟩
  have hch := zP_c h0 hn7
  rw [et] at hch
  obtain ⟨ht1, ht2⟩ := zchn_lt t (zfst n) hch
  have hfm : zfst n ∈ zPl6 n := by rw [et]; exact List.mem_cons_self
  have hgd := zbd_gd (C := C) t (fun y => y = zfst n) (C (zfst n)) (zfst n) ⟨rfl, rfl, fun y hy => by rw [hy]; exact Nat.le_refl _, fun y hy hy2 => by omega⟩ (fun y hy z hz => by rw [hy]; exact ht1 z hz) (zchn_pw t ht2)
  obtain ⟨g1, g2, g3, g4⟩ := hgd
  have hmem : ∀ y, (y = zfst n ∨ y ∈ t) ↔ y ∈ zPl6 n := fun y => by rw [et, List.mem_cons]
  have hb1 := (hmem _).mp g1
  have hfin : ∀ b, zBst (zCr T n) (zfst n) (zlst n + 1) b → b = (zbd C t (C (zfst n)) (zfst n)).2 := fun b hb => by
    obtain ⟨z1, z2, z3, z4⟩ := hb
    have r0 := List.all_eq_true.mp q5
    have rng : ∀ c, c ∈ zPl6 n → zfst n ≤ c ∧ c ≤ zlst n := fun c hc => by
      have := r0 c hc
      simp only [Bool.and_eq_true, decide_eq_true_eq] at this
      exact this
    have hbm : b ∈ zPl6 n := by
      have h1 := z3 (zfst n) (Nat.le_refl _) (by omega)
      have h2 := hCin (zfst n) hfm
      by_cases e : zokc n n b 0 = true
      · exact zP_mem h0 hn7 (by omega) e
      · unfold zCr at h1
        rw [if_neg e] at h1
        have h3 : zCr T n (zfst n) = C (zfst n) := h2.2
        unfold zCr at h3
        omega
    have hb' := rng _ hb1
    have v1 := (hCin b hbm).2
    have v2 := (hCin _ hb1).2
    rcases Nat.lt_trichotomy b (zbd C t (C (zfst n)) (zfst n)).2 with h | h | h
    · have y1 := g4 b ((hmem b).mpr hbm) h
      have y2 := z3 _ hb'.1 (by omega)
      omega
    · exact h
    · have y1 := z4 _ hb'.1 h
      have y2 := g3 b ((hmem b).mpr hbm)
      omega
  have href : ∀ (F : Nat → Nat → Int32), (∀ i, ¬ i = 172 → F i = fc i) → zCpi X (d + 6) 252 [.ref 178, .int (nI n), .int w] (zs fr gr) (fun r' f2 _ => zAn r' (if w = 0 then nI (zbd C t (C (zfst n)) (zfst n)).1 else nI (zbd C t (C (zfst n)) (zfst n)).2) ∧ zRel F gc f2) := fun F hF => by
    apply e252_178
    rw [q165, if_neg (by rw [zb_0]; exact fun z => z hin), q165, if_neg (by rw [zb_0]; exact fun z => z hi2)]
    refine l252 (d := d) (T := T) h0 hn hTr hbd q3 q4 (fun b R hb hr => ⟨?_, ?_⟩)
    · have eb := hfin b hb
      unfold zAn
      rw [eb, (hCin _ hb1).2, ← g2]
    · exact zRel_tho (fun i hi => hF i (by omega)) (fun i a1 a2 a3 a4 a5 a6 a7 => hr i a3) (fun j hj => by rw [hr 178 (by omega)]) hR0
  have hcls : ∀ w' : Int32, w' = w → zCpi X (d + 5) 92 [.ref 169, .ref 24, .int (nI n), .int w'] (zs fc gc) (fun r f1 g1 => zCpi X (d + 6) 252 [.ref 178, .int (nI n), .int w] (zs fr gr) (fun r' f2 _ => zAn r' r ∧ zRel f1 g1 f2)) := fun w' ew => by
    subst ew
    apply e92_169_24
    have hini : ∀ u k, k + u = 6 → ∀ F : Nat → Nat → Int32, (∀ i, ¬ i = 172 → F i = fc i) → (∀ j, j < k → F 172 j = nI j) → zWp X (d + 4) zm92 3 [.ref 169, .ref 24, .int (nI n), .int w', .int (nI k), .null, .null, .null] [] (zs F gc) (zQi (fun r f1 g1 => zCpi X (d + 6) 252 [.ref 178, .int (nI n), .int w'] (zs fr gr) (fun r' f2 _ => zAn r' r ∧ zRel f1 g1 f2))) := by
      intro u
      induction u with
      | zero =>
        intro k hk F hF hr
        have ek : k = 6 := by omega
        subst ek
        obtain ⟨-, hcode, hd, -⟩ := zchkp_at h0 hn7 hfm
        have hdg : ∀ j, j < n → zdg n (zfst n) j = j := by
          have hall : ∀ n, n < 7 → 0 < n → ∀ j, j < n → zdg n (zfst n) j = j := by decide +kernel
          exact hall n hn7 h0
        have hrow : ∀ j, j < n → F 172 j = nI (zdg n (zfst n) j) := fun j hj => by rw [hdg j hj]; exact hr j (by omega)
        apply s92_3_169_24
        rw [if_pos (show (6 : Int32) ≤ nI 6 from by decide), q93 (T := T) (r := zdg n (zfst n)) hn (fun j hj => ⟨hrow j hj, by have := (hd j hj).1; omega⟩) (fun k hk => by rw [hF 24 (by omega)]; exact (hTc k hk).1), q94 hn hrow, hcode, ← hC]
        have hlen : t.length < 720 := by
          have : (zPl6 n).length = t.length + 1 := by rw [et]; rfl
          omega
        exact l92_43 (d := d) (T := T) (C := C) (f := fc) h0 hn (fun k hk => (hTc k hk).1) hC (fun c hc => by have := (hCin c hc).1; omega) t (zfst n) (C (zfst n)) (zfst n) 0 F hch (fun y hy => by rw [et]; exact hy) (by omega) (by have := (hCin _ hfm).1; omega) hrow hF (fun G hG => href G hG)
      | succ u ih =>
        intro k hk F hF hr
        apply s92_3_169_24
        rw [if_neg (show ¬ (6 : Int32) ≤ nI k from nI_ge (b := 6) (by omega) (by omega)), if_neg (nI_in (by omega) (by omega)), nI_cl (by omega), nI_1]
        refine ih (k + 1) (by omega) _ (fun i hi => by rw [zi_ne hi, hF i hi]) (fun j hj => ?_)
        rw [zi_at]
        by_cases e : j = k
        · rw [if_pos e, e]
        · rw [if_neg e]
          exact hr j (by omega)
    exact hini 6 0 (by omega) fc (fun _ _ => rfl) (fun j hj => absurd hj (by omega))
  apply e143_0
  rw [q124, if_neg (by rw [zb_0]; exact fun z => z hin), q124, if_neg (by rw [zb_0]; exact fun z => z hi2)]
  rcases hw with rfl | rfl
  · rw [if_neg (by decide)]
    exact hcls 0 rfl
  · rw [if_pos rfl]
    exact hcls 1 rfl

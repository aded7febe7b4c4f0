/-! tokens: reads -/
theorem zfold_snoc {S : Type} {st : Nat → S → S} : ∀ m i s, zfold st (m + 1) i s = st (i + m) (zfold st m i s)
  | 0, i, s => rfl
  | m + 1, i, s => by
    have ih := zfold_snoc (st := st) m (i + 1) (st i s)
    show zfold st (m + 1) (i + 1) (st i s) = st (i + (m + 1)) (zfold st m (i + 1) (st i s))
    rw [ih, show i + 1 + m = i + (m + 1) by omega]
theorem znv_lt {b : Nat → Nat} {p q : Nat} (hd : ∀ i, p ≤ i → i < q → zdB (b i) = true) : ∀ m, p + m ≤ q → zfold (znv b) m p 0 < 10 ^ m
  | 0, _ => by
    show 0 < 10 ^ 0
    decide
  | m + 1, h => by
    have ih := znv_lt hd m (by omega)
    have hb := zdB_b (hd (p + m) (by omega) (by omega))
    have e : znv b (p + m) (zfold (znv b) m p 0) = 10 * zfold (znv b) m p 0 + (b (p + m) - 48) := rfl
    rw [zfold_snoc, Nat.pow_succ, e]
    omega
theorem zwix_in {b : Nat → Nat} {p q : Nat} : ∀ (ws : List (List Nat)) (k : Nat), zwix b p q ws k = 1 ∨ (k ≤ zwix b p q ws k ∧ zwix b p q ws k < k + ws.length)
  | [], k => Or.inl rfl
  | w :: t, k => by
    have ih := zwix_in (b := b) (p := p) (q := q) t (k + 1)
    have e : zwix b p q (w :: t) k = if zwm b p q w = true then k else zwix b p q t (k + 1) := rfl
    have el : (w :: t).length = t.length + 1 := rfl
    rw [e, el]
    split
    · exact Or.inr ⟨Nat.le_refl _, by omega⟩
    · rcases ih with z | z
      · exact Or.inl z
      · exact Or.inr ⟨by omega, by omega⟩
section ZRE
variable {X : Nat × (Nat → Int32)} {d : Nat} {r : Nat → Nat → Int32} {g : Nat → Nat → Int64} {Kv : (Nat → Nat → Int32) → (Nat → Nat → Int64) → Prop} {b : Nat → Nat} {n N : Nat}
theorem q180 {f : Nat → Nat → Int32} {K : Int32 → (Nat → Nat → Int32) → (Nat → Nat → Int64) → Prop} {c : Nat} (hc : c < 256) : zCpi X (d + 1) 180 [.ref 178, .int (nI c)] (zs f g) K = K (zb (zsgs.contains c = true)) f g := by
  refine zCpi_eq (fun K hK => e180_178 ?_)
  unfold zb at hK
  by_cases h : c = 59 ∨ c = 43 ∨ c = 45 ∨ c = 42 ∨ c = 47 ∨ c = 40 ∨ c = 41 ∨ c = 60 ∨ c = 61 ∨ c = 62
  · have hs : zsgs.contains c = true := by
      rcases h with rfl | rfl | rfl | rfl | rfl | rfl | rfl | rfl | rfl | rfl <;> decide
    rw [if_pos hs] at hK
    rcases h with rfl | rfl | rfl | rfl | rfl | rfl | rfl | rfl | rfl | rfl
    all_goals
      repeat (first | rw [if_neg (by decide)] | rw [if_pos (by decide)])
    all_goals exact hK
  · have hs : ¬ zsgs.contains c = true := by
      unfold zsgs
      simp only [List.contains_cons, List.contains_nil, Bool.or_false, Bool.or_eq_true, beq_iff_eq]
      omega
    rw [if_neg hs] at hK
    have key : ∀ k : Nat, k ≤ 100000 → ¬ c = k → ¬ nI c = nI k := fun k hk hn => nI_neq (by omega) hk hn
    rw [if_neg (show ¬ nI c = (59 : Int32) from key 59 (by omega) (by omega)), if_neg (show ¬ nI c = (43 : Int32) from key 43 (by omega) (by omega)), if_neg (show ¬ nI c = (45 : Int32) from key 45 (by omega) (by omega)), if_neg (show ¬ nI c = (42 : Int32) from key 42 (by omega) (by omega)), if_neg (show ¬ nI c = (47 : Int32) from key 47 (by omega) (by omega)), if_neg (show ¬ nI c = (40 : Int32) from key 40 (by omega) (by omega)), if_neg (show ¬ nI c = (41 : Int32) from key 41 (by omega) (by omega)), if_neg (show ¬ nI c = (60 : Int32) from key 60 (by omega) (by omega)), if_neg (show ¬ nI c = (61 : Int32) from key 61 (by omega) (by omega)), if_neg (show ¬ nI c = (62 : Int32) from key 62 (by omega) (by omega)), if_pos (Or.inl rfl)]
    exact hK
theorem zBr_f {R : Nat → Nat → Int32} (h : zFk r R) (hB : zBr r b n) : zBr R b n := by
  obtain ⟨b1, b2, b3, b4⟩ := hB
  exact ⟨b1, by rw [h.2 11 (by omega)]; exact b2, fun i hi => by rw [h.1 185 (by omega)]; exact b3 i hi, fun k hk => by rw [h.1 186 (by omega)]; exact b4 k hk⟩
theorem zrawt {p : Int → Bool} {i : Nat} (hm : p (-1) = false) (hb : i < n → b i ≤ 255) : (p (if i < n then nI (b i) else (-1 : Int32)).toInt = true) = (i < n ∧ p (b i) = true) := by
  by_cases h : i < n
  · rw [if_pos h, nI_ti (by have := hb h; omega)]
    exact propext ⟨fun z => ⟨h, z⟩, fun z => z.2⟩
  · rw [if_neg h]
    refine propext ⟨fun z => ?_, fun z => absurd z.1 h⟩
    have e : (-1 : Int32).toInt = -1 := rfl
    rw [e, hm] at z
    exact absurd z (by decide)
theorem l175 {p j : Nat} (hB : zBr r b n) (hp : r 178 12 = nI p) (hpn : p ≤ n) (hs : zskp b n p = ztp b n j) (hj : (j < N ∧ ztp b n j < n) ∨ (j = N ∧ ztp b n j = n)) (hK : ∀ R, zRk R b n N j → zFk r R → Kv R g) : zCpv X (d + 4) 175 [.ref 178] (zs r g) Kv := by
  obtain ⟨b1, b2, b3, b4⟩ := id hB
  have hby : ∀ i, i < n → b i ≤ 255 := fun i hi => (b3 i hi).2
  obtain ⟨s, es⟩ : ∃ s, s = ztp b n j := ⟨_, rfl⟩
  -- a word is over
  have hwend : ∀ (i : Nat) (Q : Nat → Nat → Int32), s < i → i ≤ n → s < n → j < N → zlB (b s) = true → zFk r Q → Q 178 12 = nI i → Q 178 13 = nI s → Q 178 14 = 1 → zbhd b n s = i → zCpi X (d + 3) 178 [.ref 178, .int (Q 178 13), .int (Q 178 12)] (zs Q g) (fun v9 f7 g8 => if v9 = -1 then (Kv (zuI f7 178 15 v9) g8) else (Kv (zuI (zuI f7 178 15 v9) 178 14 2) g8)) := by
    intro i Q h1 h2 h3 hjN hlt hF q12 q13 q14 hbh
    have hns : ∀ k, s ≤ k → k < i → ¬ b k = 32 := fun k k1 k2 z => by
      have hl : zlB (b k) = true := by
        by_cases ek : k = s
        · rw [ek]
          exact hlt
        · have ez : zbhd b n s = zxt zlB b n 400 (s + 1) := by
            unfold zbhd
            rw [if_pos hlt]
          exact zxt_in (n := n) 400 (s + 1) k (by omega) (by rw [← ez, hbh]; exact k2)
      rw [z] at hl
      exact absurd hl (by decide)
    have hkd : zKd b n j = zwix b s i zwrds 128 := by
      unfold zKd ztkd
      rw [← es, if_pos hlt, hbh]
    rw [q13, q12, q178 (zBr_f hF hB) h2 (by omega) hns]
    rcases zwix_in (b := b) (p := s) (q := i) zwrds 128 with z | ⟨z1, z2⟩
    · rw [if_pos z, if_pos rfl]
      refine hK _ ⟨?_, Or.inl ⟨hjN, ?_, Or.inl ⟨?_, ?_⟩⟩⟩ (zFk_u hF (by omega) (by omega))
      · rw [zi_at, if_neg (by omega), ← es]; exact q13
      · rw [zi_at, if_neg (by omega), ← es, hbh]; exact q12
      · rw [hkd]; exact z
      · rw [zi_at, if_neg (by omega)]; exact q14
    · have hl22 : zwrds.length = 22 := zwrds_ok.2.2
      rw [if_neg (show ¬ zwix b s i zwrds 128 = 1 by omega), if_neg (nI_nem (by omega))]
      refine hK _ ⟨?_, Or.inl ⟨hjN, ?_, Or.inr (Or.inr (Or.inl ⟨?_, ?_, ?_, ?_⟩))⟩⟩ (zFk_u (zFk_u hF (by omega) (by omega)) (by omega) (by omega))
      · rw [zi_at, if_neg (by omega), zi_at, if_neg (by omega), ← es]; exact q13
      · rw [zi_at, if_neg (by omega), zi_at, if_neg (by omega), ← es, hbh]; exact q12
      · rw [hkd]; exact z1
      · rw [hkd]; omega
      · rw [zi_at, if_pos rfl]
      · rw [zi_at, if_neg (by omega), zi_at, if_pos rfl, hkd]
  -- letters
  have h95 : ∀ (u i : Nat) (Q : Nat → Nat → Int32) (x : Int32), n ≤ i + u → s < i → i ≤ n → s < n → j < N → zlB (b s) = true → zFk r Q → Q 178 12 = nI i → Q 178 13 = nI s → Q 178 14 = 1 → zxt zlB b n 400 (s + 1) = zxt zlB b n u i → zWp X (d + 3) zm175 95 [.ref 178, .int x] [] (zs Q g) (zQv Kv) := by
    intro u
    induction u with
    | zero =>
      intro i Q x hu h1 h2 h3 hjN hlt hF q12 q13 q14 hz
      have hbh : zbhd b n s = i := by
        unfold zbhd
        rw [if_pos hlt, hz]
        rfl
      apply s175_95_178
      rw [q12, q176 (zBr_f hF hB) h2, q177, if_pos (by rw [zb_0, zrawt (by decide) (hby i)]; omega)]
      exact hwend i Q h1 h2 h3 hjN hlt hF q12 q13 q14 hbh
    | succ u ih =>
      intro i Q x hu h1 h2 h3 hjN hlt hF q12 q13 q14 hz
      have ez : zxt zlB b n (u + 1) i = if i < n ∧ zlB (b i) = true then zxt zlB b n u (i + 1) else i := rfl
      rw [ez] at hz
      apply s175_95_178
      rw [q12, q176 (zBr_f hF hB) h2, q177]
      by_cases hc : i < n ∧ zlB (b i) = true
      · rw [if_pos hc] at hz
        rw [if_neg (by rw [zb_0, zrawt (by decide) (hby i)]; exact fun z => z hc), q12, nI_1]
        exact ih (i + 1) _ x (by omega) (by omega) (by omega) h3 hjN hlt (zFk_u hF (by omega) (by omega)) (by rw [zi_at, if_pos rfl]) (by rw [zi_at, if_neg (by omega)]; exact q13) (by rw [zi_at, if_neg (by omega)]; exact q14) hz
      · rw [if_neg hc] at hz
        have hbh : zbhd b n s = i := by
          unfold zbhd
          rw [if_pos hlt, hz]
        rw [if_pos (by rw [zb_0, zrawt (by decide) (hby i)]; exact hc)]
        exact hwend i Q h1 h2 h3 hjN hlt hF q12 q13 q14 hbh
  -- a number is over
  have hdend : ∀ (i : Nat) (Q : Nat → Nat → Int32), s < i → i ≤ n → s < n → j < N → ¬ zlB (b s) = true → zdB (b s) = true → zFk r Q → Q 178 12 = nI i → Q 178 13 = nI s → Q 178 14 = 1 → (i - s ≤ 4 → Q 178 15 = nI (zfold (znv b) (i - s) s 0)) → zbhd b n s = i → (if 5 ≤ (zsO.1 (Q 178 12) (Q 178 13)) then (Kv Q g) else (Kv (zuI Q 178 14 3) g)) := by
    intro i Q h1 h2 h3 hjN hlt hdg hF q12 q13 q14 q15 hbh
    rw [zsO.2, q12, q13, pk_sub (by omega)]
    have hkd : zKd b n j = if i - s ≤ 4 then 2 else 1 := by
      unfold zKd ztkd
      rw [← es, if_neg hlt, if_pos hdg, hbh]
    have hvl : zVl b n j = if i - s ≤ 4 then zfold (znv b) (i - s) s 0 else 0 := by
      unfold zVl ztvl
      rw [← es, if_neg hlt, if_pos hdg, hbh]
    by_cases h4 : i - s ≤ 4
    · rw [if_pos h4] at hkd hvl
      rw [if_neg (show ¬ (5 : Int32) ≤ nI (i - s) from nI_ge (b := 5) (by omega) (by omega))]
      refine hK _ ⟨?_, Or.inl ⟨hjN, ?_, Or.inr (Or.inl ⟨hkd, ?_, ?_⟩)⟩⟩ (zFk_u hF (by omega) (by omega))
      · rw [zi_at, if_neg (by omega), ← es]; exact q13
      · rw [zi_at, if_neg (by omega), ← es, hbh]; exact q12
      · rw [zi_at, if_pos rfl]
      · rw [zi_at, if_neg (by omega), hvl]; exact q15 h4
    · rw [if_neg h4] at hkd
      rw [if_pos (show (5 : Int32) ≤ nI (i - s) from nI_le (a := 5) (by omega) (by omega))]
      exact hK _ ⟨by rw [← es]; exact q13, Or.inl ⟨hjN, by rw [← es, hbh]; exact q12, Or.inl ⟨hkd, q14⟩⟩⟩ hF
  have h171 : ∀ (u i : Nat) (Q : Nat → Nat → Int32) (x : Int32), n ≤ i + u → s < i → i ≤ n → s < n → j < N → ¬ zlB (b s) = true → zdB (b s) = true → zFk r Q → Q 178 12 = nI i → Q 178 13 = nI s → Q 178 14 = 1 → (i - s ≤ 4 → Q 178 15 = nI (zfold (znv b) (i - s) s 0)) → (∀ k, s ≤ k → k < i → zdB (b k) = true) → zxt zdB b n 400 (s + 1) = zxt zdB b n u i → zWp X (d + 3) zm175 171 [.ref 178, .int x] [] (zs Q g) (zQv Kv) := by
    intro u
    induction u with
    | zero =>
      intro i Q x hu h1 h2 h3 hjN hlt hdg hF q12 q13 q14 q15 hall hz
      have hbh : zbhd b n s = i := by
        unfold zbhd
        rw [if_neg hlt, if_pos hdg, hz]
        rfl
      apply s175_171_178
      rw [q12, q176 (zBr_f hF hB) h2, q179, if_pos (by rw [zb_0, zrawt (by decide) (hby i)]; omega)]
      exact hdend i Q h1 h2 h3 hjN hlt hdg hF q12 q13 q14 q15 hbh
    | succ u ih =>
      intro i Q x hu h1 h2 h3 hjN hlt hdg hF q12 q13 q14 q15 hall hz
      have ez : zxt zdB b n (u + 1) i = if i < n ∧ zdB (b i) = true then zxt zdB b n u (i + 1) else i := rfl
      rw [ez] at hz
      apply s175_171_178
      rw [q12, q176 (zBr_f hF hB) h2, q179]
      by_cases hc : i < n ∧ zdB (b i) = true
      · rw [if_pos hc] at hz
        rw [if_neg (by rw [zb_0, zrawt (by decide) (hby i)]; exact fun z => z hc)]
        have hall' : ∀ k, s ≤ k → k < i + 1 → zdB (b k) = true := fun k k1 k2 => by
          by_cases ek : k = i
          · rw [ek]
            exact hc.2
          · exact hall k k1 (by omega)
        by_cases h4 : i - s ≤ 3
        · have hv := q15 (by omega)
          have hlt2 := znv_lt (b := b) (p := s) (q := i) hall (i - s) (by omega)
          have hp3 : 10 ^ (i - s) ≤ 10 ^ 3 := Nat.pow_le_pow_right (by omega) h4
          have e3 : (10 : Nat) ^ 3 = 1000 := by decide
          have hdgi := zdB_b hc.2
          rw [hv, if_neg (show ¬ (10000 : Int32) ≤ nI (zfold (znv b) (i - s) s 0) from nI_ge (b := 10000) (by omega) (by omega)), q12, q176 (zBr_f hF hB) h2, if_pos hc.1, zmO.2, zsO.2, show (10 : Int32) * nI (zfold (znv b) (i - s) s 0) + nI (b i) = nI (10 * zfold (znv b) (i - s) s 0 + b i) from nI_mb _ 10 _, show nI (10 * zfold (znv b) (i - s) s 0 + b i) - (48 : Int32) = nI (10 * zfold (znv b) (i - s) s 0 + b i - 48) from pk_sub (b := 48) (by omega), q12, nI_1]
          refine ih (i + 1) _ x (by omega) (by omega) (by omega) h3 hjN hlt hdg (zFk_u (zFk_u hF (by omega) (by omega)) (by omega) (by omega)) (by rw [zi_at, if_pos rfl]) (by rw [zi_at, if_neg (by omega), zi_at, if_neg (by omega)]; exact q13) (by rw [zi_at, if_neg (by omega), zi_at, if_neg (by omega)]; exact q14) (fun _ => ?_) hall' hz
          rw [zi_at, if_neg (by omega), zi_at, if_pos rfl, show i + 1 - s = (i - s) + 1 by omega, zfold_snoc, show s + (i - s) = i by omega]
          congr 1
          show 10 * zfold (znv b) (i - s) s 0 + b i - 48 = 10 * zfold (znv b) (i - s) s 0 + (b i - 48)
          omega
        · by_cases hbig : (10000 : Int32) ≤ Q 178 15
          · rw [if_pos hbig, q12, nI_1]
            exact ih (i + 1) _ x (by omega) (by omega) (by omega) h3 hjN hlt hdg (zFk_u (zFk_u hF (by omega) (by omega)) (by omega) (by omega)) (by rw [zi_at, if_pos rfl]) (by rw [zi_at, if_neg (by omega), zi_at, if_neg (by omega)]; exact q13) (by rw [zi_at, if_neg (by omega), zi_at, if_neg (by omega)]; exact q14) (fun z => absurd z (by omega)) hall' hz
          · rw [if_neg hbig, q12, q176 (zBr_f hF hB) h2, q12, nI_1]
            exact ih (i + 1) _ x (by omega) (by omega) (by omega) h3 hjN hlt hdg (zFk_u (zFk_u hF (by omega) (by omega)) (by omega) (by omega)) (by rw [zi_at, if_pos rfl]) (by rw [zi_at, if_neg (by omega), zi_at, if_neg (by omega)]; exact q13) (by rw [zi_at, if_neg (by omega), zi_at, if_neg (by omega)]; exact q14) (fun z => absurd z (by omega)) hall' hz
      · rw [if_neg hc] at hz
        have hbh : zbhd b n s = i := by
          unfold zbhd
          rw [if_neg hlt, if_pos hdg, hz]
        rw [if_pos (by rw [zb_0, zrawt (by decide) (hby i)]; exact hc)]
        exact hdend i Q h1 h2 h3 hjN hlt hdg hF q12 q13 q14 q15 hbh
  -- what is no space
  have h0 : ∀ (Q : Nat → Nat → Int32), zFk r Q → Q 178 12 = nI s → s ≤ n → (s < n → ¬ zsB (b s) = true) → zWp X (d + 3) zm175 0 [.ref 178, .null] [] (zs Q g) (zQv Kv) := by
    intro Q hF q12 hsn hns
    have hv32 : ∀ c : Nat, (c = 32 ∨ c = 10) → ¬ (if s < n then nI (b s) else (-1 : Int32)) = nI c := fun c hc => by
      by_cases h : s < n
      · rw [if_pos h]
        refine nI_neq (by have := hby s h; omega) (by omega) (fun z => hns h ?_)
        unfold zsB
        simp only [Bool.or_eq_true, decide_eq_true_eq]
        omega
      · rw [if_neg h]
        exact fun z => nI_nem (k := c) (by omega) z.symm
    obtain ⟨Q1, hQ1⟩ : ∃ Q1, Q1 = zuI (zuI Q 178 13 (nI s)) 178 14 1 := ⟨_, rfl⟩
    have hF1 : zFk r Q1 := by rw [hQ1]; exact zFk_u (zFk_u hF (by omega) (by omega)) (by omega) (by omega)
    have x12 : Q1 178 12 = nI s := by rw [hQ1, zi_at, if_neg (by omega), zi_at, if_neg (by omega)]; exact q12
    have x13 : Q1 178 13 = nI s := by rw [hQ1, zi_at, if_neg (by omega), zi_at, if_pos rfl]
    have x14 : Q1 178 14 = 1 := by rw [hQ1, zi_at, if_pos rfl]
    apply s175_0_178
    rw [q12, q176 (zBr_f hF hB) hsn, if_neg (show ¬ (if s < n then nI (b s) else (-1 : Int32)) = 32 from hv32 32 (Or.inl rfl)), q12, q176 (zBr_f hF hB) hsn, if_neg (show ¬ (if s < n then nI (b s) else (-1 : Int32)) = 10 from hv32 10 (Or.inr rfl)), q12, ← hQ1, q176 (zBr_f hF1 hB) hsn]
    by_cases hsl : s < n
    · have hjN : j < N := by
        rcases hj with z | z
        · exact z.1
        · omega
      have hbs := hby s hsl
      obtain ⟨Q2, hQ2⟩ : ∃ Q2, Q2 = zuI (zuI Q1 178 12 (nI (s + 1))) 178 15 (nI (b s)) := ⟨_, rfl⟩
      have hF2 : zFk r Q2 := by rw [hQ2]; exact zFk_u (zFk_u hF1 (by omega) (by omega)) (by omega) (by omega)
      have y12 : Q2 178 12 = nI (s + 1) := by rw [hQ2, zi_at, if_neg (by omega), zi_at, if_pos rfl]
      have y13 : Q2 178 13 = nI s := by rw [hQ2, zi_at, if_neg (by omega), zi_at, if_neg (by omega)]; exact x13
      have y14 : Q2 178 14 = 1 := by rw [hQ2, zi_at, if_neg (by omega), zi_at, if_neg (by omega)]; exact x14
      have y15 : Q2 178 15 = nI (b s) := by rw [hQ2, zi_at, if_pos rfl]
      rw [if_pos hsl, if_neg (nI_nem (by omega)), x12, nI_1, ← hQ2, q177, nI_ti (by omega)]
      by_cases e : zlB (b s) = true
      · rw [if_neg (by rw [zb_0]; exact fun z => z e)]
        exact h95 400 (s + 1) Q2 _ (by omega) (by omega) (by omega) hsl hjN e hF2 y12 y13 y14 rfl
      · rw [if_pos (by rw [zb_0]; exact e), q179, nI_ti (by omega)]
        by_cases e2 : zdB (b s) = true
        · have hdg := zdB_b e2
          rw [if_neg (by rw [zb_0]; exact fun z => z e2), zsO.2, show nI (b s) - (48 : Int32) = nI (b s - 48) from pk_sub (b := 48) (by omega)]
          refine h171 400 (s + 1) _ _ (by omega) (by omega) (by omega) hsl hjN e e2 (zFk_u hF2 (by omega) (by omega)) (by rw [zi_at, if_neg (by omega)]; exact y12) (by rw [zi_at, if_neg (by omega)]; exact y13) (by rw [zi_at, if_neg (by omega)]; exact y14) (fun _ => ?_) (fun k k1 k2 => by rw [show k = s by omega]; exact e2) rfl
          rw [zi_at, if_pos rfl, show s + 1 - s = 1 by omega]
          congr 1
          show b s - 48 = 10 * 0 + (b s - 48)
          omega
        · have hbh : zbhd b n s = s + 1 := by
            unfold zbhd
            rw [if_neg e, if_neg e2]
          rw [if_pos (by rw [zb_0]; exact e2), q180 (by omega)]
          have hkd : zKd b n j = if zsgs.contains (b s) = true then b s else 1 := by
            unfold zKd ztkd
            rw [← es, if_neg e, if_neg e2]
          by_cases e5 : zsgs.contains (b s) = true
          · rw [if_pos e5] at hkd
            rw [if_neg (by rw [zb_0]; exact fun z => z e5)]
            refine hK _ ⟨?_, Or.inl ⟨hjN, ?_, Or.inr (Or.inr (Or.inr ⟨?_, ?_, ?_⟩))⟩⟩ (zFk_u hF2 (by omega) (by omega))
            · rw [zi_at, if_neg (by omega), ← es]; exact y13
            · rw [zi_at, if_neg (by omega), ← es, hbh]; exact y12
            · rw [hkd]; exact e5
            · rw [zi_at, if_pos rfl]
            · rw [zi_at, if_neg (by omega), hkd]; exact y15
          · rw [if_neg e5] at hkd
            rw [if_pos (by rw [zb_0]; exact e5)]
            exact hK _ ⟨by rw [← es]; exact y13, Or.inl ⟨hjN, by rw [← es, hbh]; exact y12, Or.inl ⟨hkd, y14⟩⟩⟩ hF2
    · have hjN : j = N := by
        rcases hj with z | z
        · omega
        · exact z.1
      rw [if_neg hsl, if_pos rfl]
      exact hK _ ⟨by rw [zi_at, if_neg (by omega), ← es]; exact x13, Or.inr ⟨hjN, by rw [zi_at, if_pos rfl]⟩⟩ (zFk_u hF1 (by omega) (by omega))
  -- spaces
  have hsp : ∀ (u p : Nat) (Q : Nat → Nat → Int32), n ≤ p + u → p ≤ n → zFk r Q → Q 178 12 = nI p → zskp b n p = s → zWp X (d + 3) zm175 0 [.ref 178, .null] [] (zs Q g) (zQv Kv) := by
    intro u
    induction u with
    | zero =>
      intro p Q hu h1 hF q12 hz
      have ep : p = s := by
        rw [← hz, zskp_0 (by omega)]
      rw [ep] at q12
      exact h0 Q hF q12 (by omega) (fun z => by omega)
    | succ u ih =>
      intro p Q hu h1 hF q12 hz
      by_cases hc : p < n ∧ zsB (b p) = true
      · have hsp : b p = 32 ∨ b p = 10 := by
          have := hc.2
          unfold zsB at this
          simp only [Bool.or_eq_true, decide_eq_true_eq] at this
          omega
        have hgo : zWp X (d + 3) zm175 0 [.ref 178, .null] [] (zs (zuI Q 178 12 (nI (p + 1))) g) (zQv Kv) := ih (p + 1) _ (by omega) (by omega) (zFk_u hF (by omega) (by omega)) (by rw [zi_at, if_pos rfl]) (by rw [zskp_1 b1 hc.1 hc.2]; exact hz)
        apply s175_0_178
        rw [q12, q176 (zBr_f hF hB) h1, if_pos hc.1]
        rcases hsp with h | h
        · rw [h, if_pos (by rfl), q12, nI_1]
          exact hgo
        · rw [h, if_neg (by decide), q12, q176 (zBr_f hF hB) h1, if_pos hc.1, h, if_pos (by rfl), q12, nI_1]
          exact hgo
      · have ep : p = s := by rw [← hz, zskp_0 hc]
        rw [ep] at q12 hc
        exact h0 Q hF q12 (by omega) (fun z1 z2 => hc ⟨z1, z2⟩)
  apply e175_178
  exact hsp n p r (by omega) hpn zFk_rf hp (by rw [hs, es])
end ZRE

/-! a text: its beginning on both sides, and what relates them behind it -/
theorem zRel_tx {f F : Nat → Nat → Int32} {g G : Nat → Nat → Int64} {r R : Nat → Nat → Int32} (hR : zRel f g r)
    (hF : ∀ i, ¬ (65 ≤ i ∧ i ≤ 80) → ¬ i = 81 → ¬ (20 ≤ i ∧ i ≤ 23) → ¬ i = 1 → ¬ (13 ≤ i ∧ i ≤ 18) → F i = f i)
    (hr : ∀ i, ¬ i = 178 → ¬ (187 ≤ i ∧ i ≤ 197) → R i = r i) (hs : ∀ s, (4 ≤ s ∧ s ≤ 7) ∨ 38 ≤ s → R 178 s = r 178 s)
    (hG : ∀ i, ¬ i = 70 → ¬ i = 2 → G i = g i)
    (law : zLaw (F 13 7) (F 14) (F 15) (F 16) (F 17) (F 18) (R 187 0) (R 188) (R 189) (R 190) (R 191) (R 192) (R 193)) (sco : zSco (F 20 1) (F 21) (R 178 33) (R 195)) (sta : zSta (F 22 1) (F 23) (R 178 35) (R 196) (R 178 7)) (pil : zPil (G 2 12) (R 197) ∧ F 1 10 = R 178 37)
    (ta : F 65 5 = 0) (tb : R 178 11 = 0) (fa : F 70 7 = R 178 31 ∧ F 70 8 = R 178 32) (pas : zPas F G R) : zRel F G R := by
  obtain ⟨⟨c1, c2, c3, c4, c5, c6, c7, c8, c9, c10, c11⟩, c12, c13, c14, c15, c16⟩ := hR
  have fn : ∀ i, ¬ (65 ≤ i ∧ i ≤ 80) ∧ ¬ i = 81 ∧ ¬ (20 ≤ i ∧ i ≤ 23) ∧ ¬ i = 1 ∧ ¬ (13 ≤ i ∧ i ≤ 18) → F i = f i := fun i h => hF i h.1 h.2.1 h.2.2.1 h.2.2.2.1 h.2.2.2.2
  refine ⟨⟨?_, ?_, ?_, ?_, ?_, law, sco, sta, ?_, pil, ?_⟩, ?_, fa, pas, ?_, ?_⟩
  · rw [fn 27 (by omega), fn 28 (by omega), hs 46 (by omega), hr 204 (by omega) (by omega)]; exact c1
  · rw [fn 25 (by omega), fn 26 (by omega), hs 44 (by omega), hr 203 (by omega) (by omega)]; exact c2
  · rw [fn 29 (by omega), fn 30 (by omega), hs 49 (by omega), hr 206 (by omega) (by omega)]; exact c3
  · rw [fn 31 (by omega), fn 32 (by omega), hs 52 (by omega), hr 208 (by omega) (by omega)]; exact c4
  · rw [fn 24 (by omega), hr 201 (by omega) (by omega)]; exact c5
  · rw [fn 2 (by omega), fn 3 (by omega), fn 4 (by omega), fn 5 (by omega), fn 6 (by omega), fn 7 (by omega), fn 8 (by omega), fn 9 (by omega), fn 10 (by omega), hs 7 (by omega), hr 183 (by omega) (by omega), hr 179 (by omega) (by omega)]; exact c9
  · rw [fn 11 (by omega), fn 12 (by omega), hr 184 (by omega) (by omega), hr 179 (by omega) (by omega)]; exact c11
  · rw [ta, tb]; exact ⟨0, by omega, rfl, rfl, fun j hj => absurd hj (Nat.not_lt_zero j)⟩
  · exact zIma_frame (by rw [fn 0 (by omega)]) (fun i i1 i2 => fn i (by omega)) (by rw [hG 34 (by omega) (by omega)]) (hr 211 (by omega) (by omega)) (hs 57 (by omega)) c15
  · rw [fn 147 (by omega), fn 158 (by omega), hs 5 (by omega), hr 186 (by omega) (by omega)]; exact c16
/-- where a text starts -/
def zF0 (f : Nat → Nat → Int32) : Nat → Nat → Int32 := zuI (zuI f 70 7 0) 70 8 (-1)
def zR0 (r : Nat → Nat → Int32) : Nat → Nat → Int32 := zuI (zuI (zuI (zuI (zuI (zuI r 178 0 0) 178 31 0) 178 32 (-1)) 178 12 0) 178 25 0) 178 26 0
section ZSH
variable {X : Nat × (Nat → Int32)} {d e : Nat} {f r : Nat → Nat → Int32} {g gr : Nat → Nat → Int64}
theorem tx_pre {a : Int32} (ha : (0 : Int32).toInt ≤ a.toInt ∧ a.toInt ≤ (3 : Int32).toInt) (hR : zRel f g r) : ∃ (b : Nat → Nat) (n N : Nat) (F R : Nat → Nat → Int32),
    (∀ K : Int32 → (Nat → Nat → Int32) → (Nat → Nat → Int64) → Prop, zWp X (d + 6) zm48 54 [.ref 70, .int a, .int 0, .null] [] (zs F (zuL g 70 6 0)) (zQi K) → zCpi X (d + 7) 48 [.ref 70, .int a] (zs f g) K) ∧
    (∀ K : Int32 → (Nat → Nat → Int32) → (Nat → Nat → Int64) → Prop, (if a = 1 then (zCpi X (e + 4) 181 [.ref 178] (zs R gr) K) else (if a = 2 then (zCpi X (e + 4) 189 [.ref 178] (zs R gr) K) else (if a = 3 then (zCpi X (e + 4) 193 [.ref 178] (zs R gr) K) else (zCpi X (e + 4) 195 [.ref 178] (zs R gr) K)))) → zCpi X (e + 5) 174 [.ref 178, .int a] (zs (zR0 r) gr) K) ∧
    zJ (zF0 f) (zR0 r) b n N F R 0 ∧ F 79 1 = 0 ∧ F 72 6 = 0 ∧ F 72 7 = 0 ∧ R 178 24 = 0 ∧ R 178 25 = 0 ∧ R 178 26 = 0 := by
  obtain ⟨n, hn, e1, e2, e3⟩ := hR.2.1
  obtain ⟨c1, c2, c3, c4⟩ := hR.2.2.2.2.2
  have hb : ∀ x : Int32, 0 ≤ x.toInt → x = nI x.toInt.toNat := fun x hx => by
    apply Int32.toInt_inj.mp
    have h2 := x.toInt_lt
    rw [nI_toInt (by omega)]
    omega
  obtain ⟨b, eb⟩ : ∃ b : Nat → Nat, b = fun i => (f 66 i).toInt.toNat := ⟨_, rfl⟩
  obtain ⟨f1, ef1⟩ : ∃ f1, f1 = zuI (zuI (zuI (zuI (zF0 f) 70 3 0) 72 6 0) 72 7 0) 79 1 0 := ⟨_, rfl⟩
  have hf1 : ∀ i, ¬ i = 70 → ¬ i = 72 → ¬ i = 79 → f1 i = f i := fun i y1 y2 y3 => by
    rw [ef1, zi_ne y3, zi_ne y2, zi_ne y2, zi_ne y1]
    unfold zF0
    rw [zi_ne y1, zi_ne y1]
  have hBy : zBy f1 b n := by
    refine ⟨hn, by rw [hf1 65 (by omega) (by omega) (by omega)]; exact e1, fun i hi => ?_⟩
    obtain ⟨y1, y2, y3⟩ := e3 i hi
    rw [hf1 66 (by omega) (by omega) (by omega), eb]
    exact ⟨hb _ y2, by show (f 66 i).toInt.toNat ≤ 255; omega⟩
  have hl := l78 (X := X) (d := d) (g := zuL g 70 6 0) (Kv := fun F g' => ∃ N, zTs F b n N ∧ ztp b n N = n ∧ N ≤ n ∧ (∀ i, ¬ i = 65 → ¬ i = 67 → ¬ i = 68 → ¬ i = 69 → F i = f1 i) ∧ (∀ j, ¬ j = 4 → F 65 j = f1 65 j) ∧ zuL g 70 6 0 = g') hBy (fun F N s1 s2 s3 s4 s5 => ⟨N, s1, s2, s3, s4, s5, rfl⟩)
  obtain ⟨F, g', ⟨N, s1, s2, s3, s4, s5, s6⟩, s7⟩ := zCpv_en hl
  subst s6
  obtain ⟨r1, er1⟩ : ∃ r1, r1 = zuI (zR0 r) 178 24 0 := ⟨_, rfl⟩
  have hr1 : ∀ i, ¬ i = 178 → r1 i = r i := fun i y => by
    rw [er1, zi_ne y]
    unfold zR0
    rw [zi_ne y, zi_ne y, zi_ne y, zi_ne y, zi_ne y, zi_ne y]
  have hBr : zBr r1 b n := by
    refine ⟨hn, ?_, fun i hi => ?_, fun k hk => by rw [hr1 186 (by omega)]; exact c4 k hk⟩
    · rw [er1, zi_at, if_neg (by omega)]
      unfold zR0
      rw [zi_at, if_neg (by omega), zi_at, if_neg (by omega), zi_at, if_neg (by omega), zi_at, if_neg (by omega), zi_at, if_neg (by omega), zi_at, if_neg (by omega)]
      exact e2
    · obtain ⟨y1, y2, y3⟩ := e3 i hi
      rw [hr1 185 (by omega), ← y1, eb]
      exact ⟨hb _ y2, by show (f 66 i).toInt.toNat ≤ 255; omega⟩
  have h12 : r1 178 12 = nI 0 := by
    rw [er1, zi_at, if_neg (by omega)]
    unfold zR0
    rw [zi_at, if_neg (by omega), zi_at, if_neg (by omega), zi_at, if_pos rfl]
    rfl
  have hl2 := l175 (X := X) (d := e) (g := gr) (N := N) (j := 0) (Kv := fun S g' => zRk S b n N 0 ∧ zFk r1 S ∧ gr = g') hBr h12 (Nat.zero_le _) rfl (by
    by_cases z : 0 < N
    · exact Or.inl ⟨z, (s1.2.2 0 z).1⟩
    · have z2 : 0 = N := by omega
      exact Or.inr ⟨z2, by rw [z2]; exact s2⟩) (fun S y1 y2 => ⟨y1, y2, rfl⟩)
  obtain ⟨R, g', ⟨u1, u2, u3⟩, u4⟩ := zCpv_en hl2
  subst u3
  have hF : ∀ i, ¬ (65 ≤ i ∧ i ≤ 70) → ¬ i = 72 → ¬ i = 79 → F i = f i := fun i y1 y2 y3 => by rw [s4 i (by omega) (by omega) (by omega) (by omega), hf1 i (by omega) y2 y3]
  have h70 : ∀ k, ¬ k = 3 → F 70 k = zF0 f 70 k := fun k hk => by rw [s4 70 (by omega) (by omega) (by omega) (by omega), ef1, zi_ne (by omega), zi_ne (by omega), zi_ne (by omega), zi_at, if_neg hk]
  have f0 : ∀ i, ¬ i = 70 → zF0 f i = f i := fun i y => by unfold zF0; rw [zi_ne y, zi_ne y]
  have q24 : ∀ s, 15 < s → R 178 s = r1 178 s := fun s hs => u2.2 s (by omega)
  refine ⟨b, n, N, F, R, fun K hK => e48_70 ?_, fun K hK => e174_178 ?_, ⟨s1, s2, ?_, ?_, Nat.zero_le _, zBr_f u2 hBr, u1, ⟨fun i hi => ?_, ?_, h70 7 (by omega), h70 8 (by omega)⟩, ⟨fun i y1 y2 => ?_, fun s hs => ?_, fun i y1 y2 k hk => ?_, fun i y1 y2 k hk => ?_, fun k hk => ?_, fun k hk => ?_, fun k hk => ?_⟩⟩, ?_, ?_, ?_, ?_, ?_, ?_⟩
  · rw [q124, if_neg (by rw [zb_0]; exact fun z => z ha)]
    apply e37_72
    apply e73_79
    show zCpv X (d + 6) 78 [.ref 65] (zs (zuI (zuI (zuI (zuI (zF0 f) 70 3 0) 72 6 0) 72 7 0) 79 1 0) (zuL g 70 6 0)) _
    rw [← ef1, s7]
    exact hK
  · rw [← er1, u4]
    exact hK
  · rw [s5 5 (by omega), hf1 65 (by omega) (by omega) (by omega)]; exact e1
  · rw [s4 70 (by omega) (by omega) (by omega) (by omega), ef1, zi_ne (by omega), zi_ne (by omega), zi_ne (by omega), zi_at, if_pos rfl]
    rfl
  · by_cases e66 : i = 66
    · subst e66
      rw [s4 66 (by omega) (by omega) (by omega) (by omega), hf1 66 (by omega) (by omega) (by omega), f0 66 (by omega)]
    · rw [hF i (by omega) (by omega) (by omega), f0 i (by omega)]
  · rw [s5 5 (by omega), hf1 65 (by omega) (by omega) (by omega), f0 65 (by omega)]
  · rw [u2.1 i y1, hr1 i y1]
    unfold zR0
    rw [zi_ne y1, zi_ne y1, zi_ne y1, zi_ne y1, zi_ne y1, zi_ne y1]
  · rw [u2.2 s (by omega), er1, zi_at, if_neg (by omega)]
  · rw [u2.1 i (by omega), er1, zi_ne (by omega)]
  · rw [u2.1 i (by omega), er1, zi_ne (by omega)]
  · rw [u2.1 195 (by omega), er1, zi_ne (by omega)]
  · rw [u2.1 196 (by omega), er1, zi_ne (by omega)]
  · rw [u2.1 197 (by omega), er1, zi_ne (by omega)]
  · rw [s4 79 (by omega) (by omega) (by omega) (by omega), ef1, zi_at, if_pos rfl]
  · rw [s4 72 (by omega) (by omega) (by omega) (by omega), ef1, zi_ne (by omega), zi_at, if_neg (by omega), zi_at, if_pos rfl]
  · rw [s4 72 (by omega) (by omega) (by omega) (by omega), ef1, zi_ne (by omega), zi_at, if_pos rfl]
  · rw [q24 24 (by omega), er1, zi_at, if_pos rfl]
  · rw [q24 25 (by omega), er1, zi_at, if_neg (by omega)]
    unfold zR0
    rw [zi_at, if_neg (by omega), zi_at, if_pos rfl]
  · rw [q24 26 (by omega), er1, zi_at, if_neg (by omega)]
    unfold zR0
    rw [zi_at, if_pos rfl]
end ZSH

/-! the law's code as it is written -/
/-- both have written the same c places -/
def zCs (F R : Nat → Nat → Int32) (c : Nat) : Prop := F 72 6 = nI c ∧ R 178 25 = nI c ∧ ∀ i, i < c → zCod (F 73 i) (R 192 (800 + i)) (R 193 (800 + i))
/-- what else stays while code is written from c on -/
def zLf (F G R S : Nat → Nat → Int32) (c : Nat) : Prop := (∀ i, ¬ i = 70 → ¬ i = 72 → ¬ i = 73 → G i = F i) ∧ G 72 7 = F 72 7 ∧ (∀ k, k < c → G 73 k = F 73 k) ∧ (∀ i, ¬ i = 178 → ¬ i = 192 → ¬ i = 193 → S i = R i) ∧ ∀ s, (s < 12 ∨ 15 < s) → ¬ s = 25 → S 178 s = R 178 s
theorem zLf_rf {F R : Nat → Nat → Int32} {c : Nat} : zLf F F R R c := ⟨fun _ _ _ _ => rfl, rfl, fun _ _ => rfl, fun _ _ _ _ => rfl, fun _ _ _ => rfl⟩
theorem zLf_tr {F G H R S T : Nat → Nat → Int32} {c e : Nat} (h1 : zLf F G R S c) (h2 : zLf G H S T e) (hce : c ≤ e) : zLf F H R T c := by
  obtain ⟨a1, a2, a3, a4, a5⟩ := h1
  obtain ⟨b1, b2, b3, b4, b5⟩ := h2
  exact ⟨fun i y1 y2 y3 => by rw [b1 i y1 y2 y3, a1 i y1 y2 y3], by rw [b2, a2], fun k hk => by rw [b3 k (by omega), a3 k hk], fun i y1 y2 y3 => by rw [b4 i y1 y2 y3, a4 i y1 y2 y3], fun s y1 y2 => by rw [b5 s y1 y2, a5 s y1 y2]⟩
theorem zJ_S {f r F R S : Nat → Nat → Int32} {b : Nat → Nat} {n N j : Nat} (h : zJ f r b n N F R j) (h8 : ∀ s, s ≤ 15 → S 178 s = R 178 s) (h5 : S 185 = R 185) (h6 : S 186 = R 186) (hb : zFb r S) : zJ f r b n N F S j := by
  obtain ⟨a1, a2, a3, a4, a5, ⟨b1, b2, b3, b4⟩, a7, a8, a9⟩ := h
  refine ⟨a1, a2, a3, a4, a5, ⟨b1, by rw [h8 11 (by omega)]; exact b2, fun i hi => by rw [h5]; exact b3 i hi, fun k hk => by rw [h6]; exact b4 k hk⟩, ?_, a8, hb⟩
  unfold zRk at a7 ⊢
  rw [h8 12 (by omega), h8 13 (by omega), h8 14 (by omega), h8 15 (by omega)]
  exact a7
/-- one place more, on each side -/
def zPut (F : Nat → Nat → Int32) (c : Nat) (v : Int32) : Nat → Nat → Int32 := zuI (zuI F 73 c v) 72 6 (nI (c + 1))
def zEmi (R : Nat → Nat → Int32) (c : Nat) (o a : Int32) : Nat → Nat → Int32 := zuI (zuI (zuI R 192 (800 + c) o) 193 (800 + c) a) 178 25 (nI (c + 1))
section ZCO
variable {X : Nat × (Nat → Int32)} {d e : Nat} {f r F R : Nat → Nat → Int32} {g gr : Nat → Nat → Int64} {b : Nat → Nat} {n N j c : Nat}
theorem q39 {v : Int32} {K : Int32 → (Nat → Nat → Int32) → (Nat → Nat → Int64) → Prop} (h : F 72 6 = nI c) (hc : c < 400) : zCpi X (d + 1) 39 [.ref 72, .int v] (zs F g) K = K 1 (zPut F c v) g := by
  refine zCpi_eq (fun K hK => e39_72 ?_)
  rw [h, if_neg (show ¬ (400 : Int32) ≤ nI c from nI_ge (b := 400) hc (by omega)), if_neg (nI_in (by omega) (by omega)), nI_cl (by omega), if_pos (Or.inr rfl), nI_1]
  exact hK
theorem q201 {o a : Int32} {K : (Nat → Nat → Int32) → (Nat → Nat → Int64) → Prop} (h : R 178 25 = nI c) (hc : c < 400) : zCpv X (d + 1) 201 [.ref 178, .int o, .int a] (zs R g) K = K (zEmi R c o a) g := by
  refine zCpv_eq (fun K hK => e201_178 ?_)
  have e8 : (800 : Int32) + nI c = nI (800 + c) := nI_add 800 c
  rw [h, e8, if_neg (nI_in (by omega) (by omega)), if_neg (nI_in (by omega) (by omega)), nI_cl (by omega), nI_1]
  exact hK
/-- the same is written -/
theorem jp {v o a : Int32} (h : zJ f r b n N F R j) (hs : zCs F R c) (hv : zCod v o a) : zJ f r b n N (zPut F c v) (zEmi R c o a) j ∧ zCs (zPut F c v) (zEmi R c o a) (c + 1) ∧ zLf F (zPut F c v) R (zEmi R c o a) c ∧ zPut F c v 73 c = v := by
  obtain ⟨s1, s2, s3⟩ := hs
  unfold zPut zEmi
  refine ⟨zJ_S (zJ_F h (by rw [zi_ne (by omega), zi_ne (by omega)]) (fun i hi => by rw [zi_ne (by omega), zi_ne (by omega)])) (fun s hs => by rw [zi_at, if_neg (by omega), zi_ne (by omega), zi_ne (by omega)]) (by rw [zi_ne (by omega), zi_ne (by omega), zi_ne (by omega)]) (by rw [zi_ne (by omega), zi_ne (by omega), zi_ne (by omega)]) (zFb_s (zFb_r (zFb_r h.2.2.2.2.2.2.2.2 (by omega)) (by omega)) (by omega) (by omega)), ⟨by rw [zi_at, if_pos rfl], by rw [zi_at, if_pos rfl], fun i hi => ?_⟩, ⟨fun i y1 y2 y3 => by rw [zi_ne y2, zi_ne y3], by rw [zi_at, if_neg (by omega), zi_ne (by omega)], fun k hk => by rw [zi_ne (by omega), zi_at, if_neg (by omega)], fun i y1 y2 y3 => by rw [zi_ne y1, zi_ne y3, zi_ne y2], fun s y1 y2 => by rw [zi_at, if_neg y2, zi_ne (by omega), zi_ne (by omega)]⟩, by rw [zi_ne (by omega), zi_at, if_pos rfl]⟩
  rw [zi_ne (by omega), zi_at, zi_ne (by omega), zi_ne (by omega), zi_at, zi_ne (by omega), zi_at]
  by_cases ei : i = c
  · rw [if_pos ei, if_pos (by omega), if_pos (by omega)]
    exact hv
  · rw [if_neg ei, if_neg (by omega), if_neg (by omega)]
    exact s3 i (by omega)
/-- on to the next token, code kept -/
theorem jn (h : zJ f r b n N F R j) (hs : zCs F R c) (hj : j < N) : ∃ S, (∀ Kv : (Nat → Nat → Int32) → (Nat → Nat → Int64) → Prop, zCpv X (d + 4) 175 [.ref 178] (zs R g) Kv = Kv S g) ∧ zJ f r b n N (zuI F 70 3 (nI (j + 1))) S (j + 1) ∧ zCs (zuI F 70 3 (nI (j + 1))) S c ∧ zLf F (zuI F 70 3 (nI (j + 1))) R S c ∧ zFk R S := by
  obtain ⟨S, s1, s2, s3⟩ := zJ_rd (X := X) (d := d) (g := g) h hj
  obtain ⟨u1, u2, u3⟩ := hs
  refine ⟨S, s3, zJ_go h hj s1 s2 (fun i hi _ => zi_ne hi) (by rw [zi_at, if_pos rfl]) (fun k hk => by rw [zi_at, if_neg hk]), ⟨by rw [zi_ne (by omega)]; exact u1, by rw [s1.2 25 (by omega)]; exact u2, fun i hi => ?_⟩, ⟨fun i y1 _ _ => zi_ne y1, by rw [zi_ne (by omega)], fun k _ => by rw [zi_ne (by omega)], fun i y1 _ _ => s1.1 i y1, fun s y1 _ => s1.2 s y1⟩, s1⟩
  rw [zi_ne (by omega), s1.1 192 (by omega), s1.1 193 (by omega)]
  exact u3 i hi
/-- a number or a thing that is asked -/
theorem un_j (h : zJ f r b n N F R j) (hs : zCs F R c) (hcj : c ≤ j) :
    (∃ F' R', (∀ K : Int32 → (Nat → Nat → Int32) → (Nat → Nat → Int64) → Prop, zCpi X (d + 2) 53 [.ref 70] (zs F g) K = K 1 F' g) ∧ (∀ K : Int32 → (Nat → Nat → Int32) → (Nat → Nat → Int64) → Prop, zCpi X (e + 5) 199 [.ref 178] (zs R gr) K = K 0 R' gr) ∧ j < N ∧ zJ f r b n N F' R' (j + 1) ∧ zCs F' R' (c + 1) ∧ zLf F F' R R' c ∧ (0 ≤ (F' 73 c).toInt ∨ ((F' 73 c).toInt ≤ -135 ∧ -143 ≤ (F' 73 c).toInt)) ∧ (zKn b n N j = 2 → F' 73 c = nI (zVl b n j))) ∨
    (∃ F' R', (∀ K : Int32 → (Nat → Nat → Int32) → (Nat → Nat → Int64) → Prop, zCpi X (d + 2) 53 [.ref 70] (zs F g) K = K 0 F' g) ∧ (∀ K : Int32 → (Nat → Nat → Int32) → (Nat → Nat → Int64) → Prop, zCpi X (e + 5) 199 [.ref 178] (zs R gr) K = K (-1) R' gr) ∧ zEr f r F' R') := by
  obtain ⟨x1, x2, x3, x4, x5, x6, x7, x8, x9⟩ := id h
  obtain ⟨s1, s2, s3⟩ := id hs
  obtain ⟨z1, z2⟩ := zRk_num x7
  have kl := zKn_le (b := b) (n := n) (N := N) (j := j)
  have hN : N ≤ 400 := x1.2.1
  by_cases k2 : zKn b n N j = 2
  · have hj := zKn_lt (by omega) k2
    have hv : zVl b n j ≤ 9999 := zVl_le (by unfold zKn at k2; rw [if_pos hj] at k2; exact k2)
    obtain ⟨p1, p2, p3, p4⟩ := jp h hs (Or.inl ⟨zVl b n j, hv, rfl, rfl, rfl⟩ : zCod (nI (zVl b n j)) 0 (nI (zVl b n j)))
    obtain ⟨S, t1, t2, t3, t4, t5⟩ := jn (X := X) (d := e) (g := gr) p1 p2 hj
    refine Or.inl ⟨_, S, fun K => zCpi_eq (fun K hK => e53_70 ?_), fun K => zCpi_eq (fun K hK => e199_178 ?_), hj, t2, t3, zLf_tr p3 t4 (by omega), ?_, fun _ => ?_⟩
    · rw [x4, q85 x1 x5, if_pos (by rw [k2]; rfl), x4, q86 x1 hj, q39 s1 (by omega), if_pos (Or.inr rfl), show zPut F c (nI (zVl b n j)) 70 3 = nI j from p1.2.2.2.1, nI_1]
      exact hK
    · have h14 : R 178 14 = 3 := by rw [z1]; exact k2
      rw [if_neg (by rw [h14]; decide), if_pos h14, z2 k2, q201 s2 (by omega), t1]
      exact hK
    · rw [zi_ne (by omega), p4, nI_ti (by omega)]
      omega
    · rw [zi_ne (by omega), p4]
  · by_cases kw : 135 ≤ zKn b n N j ∧ zKn b n N j ≤ 143
    · have hj := zKn_lt (k := zKn b n N j) (by omega) rfl
      have hw := zRk_word (w := zKn b n N j - 128) (by omega) x7
      have hw2 : R 178 14 = 2 ∧ R 178 15 = nI (zKn b n N j - 128) := by rw [hw]; omega
      obtain ⟨p1, p2, p3, p4⟩ := jp h hs (Or.inr (Or.inl ⟨zKn b n N j - 135, by omega, rfl, rfl, rfl⟩) : zCod (-(nI (135 + (zKn b n N j - 135)))) 1 (nI (zKn b n N j - 135)))
      rw [show 135 + (zKn b n N j - 135) = zKn b n N j by omega] at p1 p2 p3 p4
      obtain ⟨S, t1, t2, t3, t4, t5⟩ := jn (X := X) (d := e) (g := gr) p1 p2 hj
      have e135 : (135 : Int32).toInt = 135 := rfl
      have e143 : (143 : Int32).toInt = 143 := rfl
      have e7 : (7 : Int32).toInt = 7 := rfl
      have e15 : (15 : Int32).toInt = 15 := rfl
      refine Or.inl ⟨_, S, fun K => zCpi_eq (fun K hK => e53_70 ?_), fun K => zCpi_eq (fun K hK => e199_178 ?_), hj, t2, t3, zLf_tr p3 t4 (by omega), ?_, fun z => absurd z k2⟩
      · rw [x4, q85 x1 x5, if_neg (show ¬ nI (zKn b n N j) = (2 : Int32) from nI_neq (c := 2) (by omega) (by omega) k2), q124, if_neg (by rw [zb_0, nI_ti (by omega), e135, e143]; omega), znO.2, q39 s1 (by omega), if_pos (Or.inr rfl), show zPut F c (-(nI (zKn b n N j))) 70 3 = nI j from p1.2.2.2.1, nI_1]
        exact hK
      · rw [if_pos hw2.1]
        apply e200_178
        rw [hw2.2, q165, if_pos (by rw [zb_or]; trivial), if_neg (by rw [zb_0, nI_ti (by omega), e7, e15]; omega), hw2.2, zsO.2, show nI (zKn b n N j - 128) - (7 : Int32) = nI (zKn b n N j - 135) from by rw [show zKn b n N j - 128 = zKn b n N j - 135 + 7 by omega, ← nI_add]; exact Int32.add_sub_cancel _ _, q201 s2 (by omega), t1]
        exact hK
      · have hz := (zng (w := zKn b n N j - 135) (by omega)).1
        rw [show 135 + (zKn b n N j - 135) = zKn b n N j by omega] at hz
        rw [zi_ne (by omega), p4, hz]
        omega
    · have e135 : (135 : Int32).toInt = 135 := rfl
      have e143 : (143 : Int32).toInt = 143 := rfl
      have e7 : (7 : Int32).toInt = 7 := rfl
      have e15 : (15 : Int32).toInt = 15 := rfl
      refine Or.inr ⟨_, _, fun K => zCpi_eq (fun K hK => e53_70 ?_), fun K => zCpi_eq (fun K hK => e199_178 ?_), zJ_er (c := 1) h⟩
      · rw [x4, q85 x1 x5, if_neg (show ¬ nI (zKn b n N j) = (2 : Int32) from nI_neq (c := 2) (by omega) (by omega) k2), q124, if_pos (by rw [zb_0, nI_ti (by omega), e135, e143]; omega), q50 x1 x2 x3 x4 x5, if_pos (Or.inl rfl)]
        exact hK
      · have h14 : ¬ R 178 14 = 3 := by rw [z1]; exact k2
        by_cases h2 : R 178 14 = 2
        · rw [if_pos h2]
          apply e200_178
          have hin : ¬ ((7 : Int32).toInt ≤ (R 178 15).toInt ∧ (R 178 15).toInt ≤ (15 : Int32).toInt) := fun z => by
            have hlt := (R 178 15).toInt_lt
            have ew : R 178 15 = nI (R 178 15).toInt.toNat := by
              apply Int32.toInt_inj.mp
              rw [nI_toInt (by omega)]
              omega
            have := zRk_word (w := (R 178 15).toInt.toNat) (by omega) x7
            rw [← ew] at this
            have z3 := this.mp ⟨h2, rfl⟩
            omega
          rw [q165, if_pos (by rw [zb_or]; trivial), if_pos (by rw [zb_0]; exact hin), if_neg h14, q183]
          exact hK
        · rw [if_neg h2, if_neg h14, q183]
          exact hK
end ZCO

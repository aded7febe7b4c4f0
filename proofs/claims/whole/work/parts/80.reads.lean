/-! tokens: the reference reads the next one -/
def zBr (R : Nat → Nat → Int32) (b : Nat → Nat) (n : Nat) : Prop := n ≤ 400 ∧ R 178 11 = nI n ∧ (∀ i, i < n → R 185 i = nI (b i) ∧ b i ≤ 255) ∧ ∀ k, k < 117 → R 186 k = nI (zWrd.getD k 0)
def zFk (r R : Nat → Nat → Int32) : Prop := (∀ i, ¬ i = 178 → R i = r i) ∧ ∀ s, (s < 12 ∨ 15 < s) → R 178 s = r 178 s
theorem zFk_rf {r : Nat → Nat → Int32} : zFk r r := ⟨fun _ _ => rfl, fun _ _ => rfl⟩
theorem zFk_tr {r R S : Nat → Nat → Int32} (h1 : zFk r R) (h2 : zFk R S) : zFk r S := ⟨fun i hi => (h2.1 i hi).trans (h1.1 i hi), fun s hs => (h2.2 s hs).trans (h1.2 s hs)⟩
theorem zFk_u {r R : Nat → Nat → Int32} {s : Nat} {x : Int32} (h : zFk r R) (h1 : 12 ≤ s) (h2 : s ≤ 15) : zFk r (zuI R 178 s x) := ⟨fun i hi => by rw [zi_ne hi]; exact h.1 i hi, fun t ht => by rw [zi_at, if_neg (by omega)]; exact h.2 t ht⟩
def zTkn (tok val : Int32) (k v : Nat) : Prop := (k = 1 ∧ tok = 1) ∨ (k = 2 ∧ tok = 3 ∧ val = nI v) ∨ (128 ≤ k ∧ k < 150 ∧ tok = 2 ∧ val = nI (k - 128)) ∨ (zsgs.contains k = true ∧ tok = 4 ∧ val = nI k)
def zKd (b : Nat → Nat) (n j : Nat) : Nat := ztkd b (ztp b n j) (zbhd b n (ztp b n j))
def zVl (b : Nat → Nat) (n j : Nat) : Nat := ztvl b (ztp b n j) (zbhd b n (ztp b n j))
/-- the reference stands at token j of N -/
def zRk (R : Nat → Nat → Int32) (b : Nat → Nat) (n N j : Nat) : Prop := R 178 13 = nI (ztp b n j) ∧ ((j < N ∧ R 178 12 = nI (zbhd b n (ztp b n j)) ∧ zTkn (R 178 14) (R 178 15) (zKd b n j) (zVl b n j)) ∨ (j = N ∧ R 178 14 = 0))
theorem zgD {l : List Nat} {k i : Nat} : (l.drop k).getD i 0 = l.getD (k + i) 0 := by
  rw [List.getD_eq_getElem?_getD, List.getD_eq_getElem?_getD, List.getElem?_drop]
section ZRD
variable {X : Nat × (Nat → Int32)} {d : Nat} {f : Nat → Nat → Int32} {g : Nat → Nat → Int64} {K : Int32 → (Nat → Nat → Int32) → (Nat → Nat → Int64) → Prop} {b : Nat → Nat} {n : Nat}
theorem q176 {i : Nat} (hB : zBr f b n) (hi : i ≤ n) : zCpi X (d + 1) 176 [.ref 178, .int (nI i)] (zs f g) K = K (if i < n then nI (b i) else -1) f g := by
  obtain ⟨b1, b2, b3, b4⟩ := hB
  refine zCpi_eq (fun K hK => e176_178 ?_)
  by_cases h : i < n
  · rw [if_pos h] at hK
    rw [b2, if_neg (nI_ge h (by omega)), if_neg (nI_in (by omega) (by omega)), nI_cl (by omega), (b3 i h).1]
    exact hK
  · rw [if_neg h] at hK
    rw [b2, if_pos (nI_le (by omega) (by omega))]
    exact hK
theorem zwm_no {p q : Nat} : ∀ (w : List Nat), zwm b p q w = true → q = p + w.length
  | [], h => by
    unfold zwm at h
    rw [decide_eq_true_eq] at h
    rw [h]
    rfl
  | c :: t, h => by
    have h' : (decide (p < q) && decide (b p = c) && zwm b (p + 1) q t) = true := h
    simp only [Bool.and_eq_true] at h'
    have := zwm_no t h'.2
    show q = p + (t.length + 1)
    omega
theorem l178 {p q : Nat} (hB : zBr f b n) (hq : q ≤ n) (hpq : p ≤ q) (hns : ∀ i, p ≤ i → i < q → ¬ b i = 32) : ∀ (ws : List (List Nat)) (k m : Nat), zWrd.drop k = 32 :: ws.flatMap (fun w => w ++ [32]) → (∀ w, w ∈ ws → ¬ w = [] ∧ ∀ c, c ∈ w → ¬ c = 32 ∧ c ≤ 255) → m + ws.length = 22 → K (if zwix b p q ws (128 + m) = 1 then -1 else nI (zwix b p q ws (128 + m) - 128)) f g → zWp X (d + 0) zm178 5 [.ref 178, .int (nI p), .int (nI q), .int (nI m - 1), .int (nI k), .null] [] (zs f g) (zQi K)
  | [], k, m, hd, hw, hm, hK => by
    have hk : zWrd.length = k + 1 := by
      have := congrArg List.length hd
      rw [List.length_drop] at this
      have e1 : (32 :: [].flatMap (fun (w : List Nat) => w ++ [32])).length = 1 := rfl
      rw [e1] at this
      omega
    have hk2 : k = 116 := by
      have e : zWrd.length = 117 := by decide +kernel
      omega
    rw [if_pos (show zwix b p q [] (128 + m) = 1 from rfl)] at hK
    apply s178_5_178
    rw [hk2, if_pos (show (116 : Int32) ≤ nI 116 from by decide)]
    exact hK
  | w :: t, k, m, hd, hw, hm, hK => by
    obtain ⟨b1, b2, b3, b4⟩ := id hB
    have hlen : zWrd.length = 117 := by decide +kernel
    obtain ⟨hw0, hwc⟩ := hw w List.mem_cons_self
    have e0 : (w :: t).flatMap (fun w => w ++ [32]) = w ++ 32 :: t.flatMap (fun w => w ++ [32]) := by
      rw [List.flatMap_cons, List.append_assoc]
      rfl
    rw [e0] at hd
    have hd1 : zWrd.drop (k + 1) = w ++ 32 :: t.flatMap (fun w => w ++ [32]) := by
      have : (zWrd.drop k).drop 1 = w ++ 32 :: t.flatMap (fun w => w ++ [32]) := by rw [hd]; rfl
      rw [List.drop_drop] at this
      exact this
    have hkl : k + 1 + w.length + 1 ≤ 117 := by
      have := congrArg List.length hd1
      rw [List.length_drop, hlen, List.length_append] at this
      simp only [List.length_cons] at this
      omega
    have hat : ∀ i, i < w.length → zWrd.getD (k + 1 + i) 0 = w.getD i 0 := fun i hi => by
      rw [← zgD, hd1, List.getD_eq_getElem?_getD, List.getElem?_append_left hi, ← List.getD_eq_getElem?_getD]
    have hsp : zWrd.getD (k + 1 + w.length) 0 = 32 := by
      rw [← zgD, hd1, List.getD_eq_getElem?_getD, List.getElem?_append_right (Nat.le_refl _), Nat.sub_self]
      rfl
    have hd2 : zWrd.drop (k + 1 + w.length) = 32 :: t.flatMap (fun w => w ++ [32]) := by
      have : (zWrd.drop (k + 1)).drop w.length = 32 :: t.flatMap (fun w => w ++ [32]) := by
        rw [hd1, List.drop_left]
      rw [List.drop_drop] at this
      exact this
    have hwne : ∀ i, i < w.length → ¬ w.getD i 0 = 32 ∧ w.getD i 0 ≤ 255 := fun i hi => by
      have e : w.getD i 0 = w[i] := by
        rw [List.getD_eq_getElem?_getD, List.getElem?_eq_getElem hi]
        rfl
      rw [e]
      exact hwc _ (List.getElem_mem hi)
    have hwl : 0 < w.length := List.length_pos_iff.mpr hw0
    have hz : zwix b p q (w :: t) (128 + m) = if zwm b p q w = true then 128 + m else zwix b p q t (128 + m + 1) := rfl
    rw [hz] at hK
    have ih := l178 hB hq hpq hns t (k + 1 + w.length) (m + 1) hd2 (fun x hx => hw x (List.mem_cons_of_mem _ hx)) (by have : (w :: t).length = t.length + 1 := rfl; omega)
    -- on to the next one
    have hnext : ∀ y : Int32, ¬ zwm b p q w = true → zWp X (d + 0) zm178 93 [.ref 178, .int (nI p), .int (nI q), .int (nI m), .int (nI (k + 1)), .int y] [] (zs f g) (zQi K) := fun y hno => by
      rw [if_neg hno] at hK
      have hl : ∀ u i, i + u = w.length → zWp X (d + 0) zm178 93 [.ref 178, .int (nI p), .int (nI q), .int (nI m), .int (nI (k + 1 + i)), .int y] [] (zs f g) (zQi K) := by
        intro u
        induction u with
        | zero =>
          intro i hi
          have ei : i = w.length := by omega
          subst ei
          apply s178_93_178
          rw [if_neg (nI_in (by omega) (by omega)), nI_cl (by omega), b4 _ (by omega), hsp, if_pos (by rfl)]
          have z := ih hK
          rw [nI_pred] at z
          exact z
        | succ u ih2 =>
          intro i hi
          have := hwne i (by omega)
          apply s178_93_178
          rw [if_neg (nI_in (by omega) (by omega)), nI_cl (by omega), b4 _ (by omega), hat i (by omega), if_neg (show ¬ nI (w.getD i 0) = (32 : Int32) from nI_neq (c := 32) (by omega) (by omega) this.1), nI_1]
          exact ih2 (i + 1) (by omega)
      exact hl w.length 0 (by omega)
    -- sign by sign
    have hin : ∀ u i, i + u = w.length → p + i ≤ q → (zwm b p q w = true ↔ zwm b (p + i) q (w.drop i) = true) → zWp X (d + 0) zm178 19 [.ref 178, .int (nI p), .int (nI q), .int (nI m), .int (nI k), .int (nI i)] [] (zs f g) (zQi K) := by
      intro u
      induction u with
      | zero =>
        intro i hi hpi heq
        have ei : i = w.length := by omega
        subst ei
        rw [List.drop_length] at heq
        have heq' : zwm b p q w = true ↔ p + w.length = q := by
          rw [heq]
          show decide (p + w.length = q) = true ↔ _
          rw [decide_eq_true_eq]
        apply s178_19_178
        by_cases hlt : p + w.length < q
        · have hb := b3 (p + w.length) (by omega)
          rw [nI_add, if_neg (nI_ge hlt (by omega)), nI_1, nI_add, if_neg (nI_in (by omega) (by omega)), if_neg (nI_in (by omega) (by omega)), nI_cl (k := k + 1 + w.length) (by omega), nI_cl (k := p + w.length) (by omega), b4 _ (by omega), hsp, hb.1, if_neg (show ¬ nI 32 = nI (b (p + w.length)) from fun z => hns _ (by omega) hlt ((nI_eq (by omega) (by omega)).mp z).symm), if_neg (nI_neq (by omega) (by omega) (by omega))]
          exact hnext _ (fun z => by have := heq'.mp z; omega)
        · have epq : p + w.length = q := by omega
          rw [nI_add, if_pos (nI_le (by omega) (by omega)), if_pos (by rw [epq]), nI_1, nI_add, if_neg (nI_in (by omega) (by omega)), nI_cl (by omega), b4 _ (by omega), hsp, if_pos (by rfl)]
          rw [if_pos (heq'.mpr epq), if_neg (by omega), show 128 + m - 128 = m by omega] at hK
          exact hK
      | succ u ih2 =>
        intro i hi hpi heq
        have hwi := hwne i (by omega)
        have hdr : w.drop i = w.getD i 0 :: w.drop (i + 1) := by
          rw [List.drop_eq_getElem_cons (show i < w.length by omega), List.getD_eq_getElem?_getD, List.getElem?_eq_getElem (show i < w.length by omega)]
          rfl
        rw [hdr] at heq
        have heq' : zwm b p q w = true ↔ (p + i < q ∧ b (p + i) = w.getD i 0 ∧ zwm b (p + (i + 1)) q (w.drop (i + 1)) = true) := by
          rw [heq]
          show (decide (p + i < q) && decide (b (p + i) = w.getD i 0) && zwm b (p + i + 1) q (w.drop (i + 1))) = true ↔ _
          simp only [Bool.and_eq_true, decide_eq_true_eq]
          exact ⟨fun z => ⟨z.1.1, z.1.2, z.2⟩, fun z => ⟨⟨z.1, z.2.1⟩, z.2.2⟩⟩
        apply s178_19_178
        by_cases hlt : p + i < q
        · have hb := b3 (p + i) (by omega)
          rw [nI_add, if_neg (nI_ge hlt (by omega)), nI_1, nI_add, if_neg (nI_in (by omega) (by omega)), if_neg (nI_in (by omega) (by omega)), nI_cl (k := k + 1 + i) (by omega), nI_cl (k := p + i) (by omega), b4 _ (by omega), hat i (by omega), hb.1]
          by_cases e : w.getD i 0 = b (p + i)
          · rw [if_pos (by rw [e]), nI_1]
            exact ih2 (i + 1) (by omega) (by omega) ⟨fun z => (heq'.mp z).2.2, fun z => heq'.mpr ⟨hlt, e.symm, z⟩⟩
          · rw [if_neg (nI_neq (by omega) (by omega) e), if_neg (nI_neq (by omega) (by omega) (by omega))]
            exact hnext _ (fun z => e (heq'.mp z).2.1.symm)
        · have epq : p + i = q := by omega
          rw [nI_add, if_pos (nI_le (by omega) (by omega)), if_pos (by rw [epq]), nI_1, nI_add, if_neg (nI_in (by omega) (by omega)), nI_cl (by omega), b4 _ (by omega), hat i (by omega), if_neg (show ¬ nI (w.getD i 0) = (32 : Int32) from nI_neq (c := 32) (by omega) (by omega) hwi.1)]
          exact hnext _ (fun z => by have := (heq'.mp z).1; omega)
    apply s178_5_178
    have hsmall : nI m - 1 + 1 = nI m := by
      rcases Nat.eq_zero_or_pos m with z | z
      · rw [z]
        decide
      · rw [(nI_m1 z).2, nI_1, show m - 1 + 1 = m by omega]
    rw [if_neg (show ¬ (116 : Int32) ≤ nI k from nI_ge (b := 116) (by omega) (by omega)), hsmall]
    exact hin w.length 0 (by omega) (by omega) (by rw [List.drop_zero, Nat.add_zero])
theorem zwrds_ok : (∀ w, w ∈ zwrds → ¬ w = [] ∧ ∀ c, c ∈ w → ¬ c = 32 ∧ c ≤ 255) ∧ zWrd.drop 0 = 32 :: zwrds.flatMap (fun w => w ++ [32]) ∧ zwrds.length = 22 := by decide +kernel
theorem q178 {p q : Nat} (hB : zBr f b n) (hq : q ≤ n) (hpq : p ≤ q) (hns : ∀ i, p ≤ i → i < q → ¬ b i = 32) : zCpi X (d + 1) 178 [.ref 178, .int (nI p), .int (nI q)] (zs f g) K = K (if zwix b p q zwrds 128 = 1 then -1 else nI (zwix b p q zwrds 128 - 128)) f g := by
  refine zCpi_eq (fun K hK => e178_178 ?_)
  have z := l178 (X := X) (d := d) (K := K) (g := g) hB hq hpq hns zwrds 0 0 zwrds_ok.2.1 zwrds_ok.1 (by rw [zwrds_ok.2.2]) hK
  exact z
end ZRD

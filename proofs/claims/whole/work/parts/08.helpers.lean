/-! THE INTERPRETER IS SOUND: what it runs, the machine runs -/
def zA (h0 : Nat) : Nat → Prop := fun q => h0 ≤ q
def zNW : List Cond := zFN.map (fun q => Cond.fieldLinkNest (zR q.1) q.2.1 ((zC q.2.2.1).2.1 q.2.2.2.1).1 ((zC q.2.2.1).2.1 q.2.2.2.1).2.1 ((zC q.2.2.1).2.1 q.2.2.2.1).2.2.1 "HearsayOrchestra") ++ (zSN.map (fun q => Cond.methodLinkNest (zR q.1) q.2.1 (zyy q.2.2.1) "HearsayOrchestra") ++ zIN.map (fun q => Cond.methodLinkNest (zR q.1) q.2.1 (zyy q.2.2.1) "HearsayOrchestra"))
def zKK (KS : State → Prop) (U : State) : Prop := (∀ w ∈ zNW, va_Nw w U) ∧ va_AO RX2 U ∧ KS U
def zKst (h0 : Nat) (KS : State → Prop) : Prop := ∀ s U : State, KS s → s.WarmedH U.vm → (∀ q, q < h0 → U.heap[q]? = s.heap[q]?) → KS U
theorem zKK_st {h0 : Nat} {KS : State → Prop} (hKS : zKst h0 KS) {s U : State} (h : zKK KS s) (hW : s.WarmedH U.vm) (hq : ∀ q, q < h0 → U.heap[q]? = s.heap[q]?) : zKK KS U := by
  obtain ⟨h1, h2, h3⟩ := h
  refine ⟨fun w hw => ?_, va_AO.moved hW.alike h2, hKS s U h3 hW hq⟩
  have h4 := h1 w hw
  rcases List.mem_append.mp hw with hw | hw
  · obtain ⟨q, -, rfl⟩ := List.mem_map.mp hw
    exact va_Nw.warmF hW h4
  · rcases List.mem_append.mp hw with hw | hw
    · obtain ⟨q, -, rfl⟩ := List.mem_map.mp hw
      exact va_Nw.warmM hW h4
    · obtain ⟨q, -, rfl⟩ := List.mem_map.mp hw
      exact va_Nw.warmM hW h4
def zinv (S : zSt) : Prop := ∀ i ci ks, i < S.1 → zlay i = some (ci, ks) → (ci < 13 → ∀ k j, ks[k]? = some (j + 3) → zin S.2.2.1 i k = false → j < S.1) ∧ (ci = 101 → ∀ k j, ks[k]? = some j → zin S.2.2.1 i k = false → j < S.1)
/-! what the helpers say -/
theorem zgfK_ok {S : zSt} {i a b : Nat} {k : Value → zRes} {q : Option Value × zSt} (h : zgfK S i a b k = some q) : ∃ v ks kd, zlay i = some (a, ks) ∧ i < S.1 ∧ ks[b]? = some kd ∧ k v = some q ∧ ∀ ad, zkv ad S i b kd = zcv ad v := by
  unfold zgfK at h
  split at h
  next ci ks hl =>
    split at h
    next hc =>
      obtain ⟨rfl, hi⟩ := hc
      split at h
      next hk => exact ⟨_, ks, 0, hl, hi, hk, h, fun _ => rfl⟩
      next hk => exact ⟨_, ks, 1, hl, hi, hk, h, fun _ => rfl⟩
      next hk => exact ⟨_, ks, 2, hl, hi, hk, h, fun _ => rfl⟩
      next j hk =>
        split at h
        next => cases h
        next hz => exact ⟨_, ks, j + 3, hl, hi, hk, h, fun ad => by simp only [zkv, hz, zcv]⟩
      next => cases h
    next => cases h
  next => cases h
theorem zpfK_ok {S : zSt} {i a b : Nat} {v : Value} {k : zSt → zRes} {q : Option Value × zSt} (h : zpfK S i a b v k = some q) : ∃ S1 ks kd, zlay i = some (a, ks) ∧ i < S.1 ∧ ks[b]? = some kd ∧ k S1 = some q ∧ S1.1 = S.1 ∧ S1.2.1 = S.2.1 ∧
    (∀ ad, zkv ad S1 i b kd = zcv ad v) ∧ (∀ ad k' kd', k' ≠ b → zkv ad S1 i k' kd' = zkv ad S i k' kd') ∧ (∀ j, j ≠ i → S1.2.2.2.1 j = S.2.2.2.1 j ∧ S1.2.2.2.2 j = S.2.2.2.2 j ∧ ∀ k', zin S1.2.2.1 j k' = zin S.2.2.1 j k') ∧ (∀ ty, zkd kd ty = true → narrow ty v = v ∧ fits ty v = true) ∧ (∀ j k', zin S1.2.2.1 j k' = false → zin S.2.2.1 j k' = true → j = i ∧ k' = b ∧ v = .ref (kd - 3) ∧ kd - 3 < S.1) := by
  unfold zpfK at h
  split at h
  next ci ks hl =>
    split at h
    next hc =>
      obtain ⟨rfl, hi⟩ := hc
      split at h
      next hk =>
        split at h
        next x =>
          refine ⟨_, ks, 0, hl, hi, hk, h, rfl, rfl, fun ad => by simp [zkv, zuI, zcv], fun ad k' kd' hne => ?_, fun j hj => ⟨zuI_ne hj, rfl, fun _ => rfl⟩, fun ty ht => ?_, fun j k' h1 h2 => ?_⟩
          · match kd' with
            | 0 => simp [zkv, zuI, hne]
            | 1 => simp [zkv, zuI, hne]
            | 2 => rfl
            | d + 3 => rfl
          · have : ty = .int := by simpa [zkd] using ht
            subst this
            exact ⟨rfl, rfl⟩
          · exact absurd (h1.symm.trans h2) (by simp)
        next => cases h
      next hk =>
        split at h
        next x =>
          split at h
          next hx =>
            refine ⟨_, ks, 1, hl, hi, hk, h, rfl, rfl, fun ad => by simp [zkv, zuI, zcv], fun ad k' kd' hne => ?_, fun j hj => ⟨zuI_ne hj, rfl, fun _ => rfl⟩, fun ty ht => ?_, fun j k' h1 h2 => ?_⟩
            · match kd' with
              | 0 => simp [zkv, zuI, hne]
              | 1 => simp [zkv, zuI, hne]
              | 2 => rfl
              | d + 3 => rfl
            · have : ty = .boolean := by simpa [zkd] using ht
              subst this
              rcases hx with rfl | rfl <;> exact ⟨by decide, by decide⟩
            · exact absurd (h1.symm.trans h2) (by simp)
          next => cases h
        next => cases h
      next hk =>
        split at h
        next x =>
          refine ⟨_, ks, 2, hl, hi, hk, h, rfl, rfl, fun ad => by simp [zkv, zuL, zcv], fun ad k' kd' hne => ?_, fun j hj => ⟨rfl, zuL_ne hj, fun _ => rfl⟩, fun ty ht => ?_, fun j k' h1 h2 => ?_⟩
          · match kd' with
            | 0 => rfl
            | 1 => rfl
            | 2 => simp [zkv, zuL, hne]
            | d + 3 => rfl
          · have : ty = .long := by simpa [zkd] using ht
            subst this
            exact ⟨rfl, rfl⟩
          · exact absurd (h1.symm.trans h2) (by simp)
        next => cases h
      next j hk =>
        split at h
        next x =>
          split at h
          next hx =>
            obtain ⟨rfl, hlt⟩ := hx
            refine ⟨_, ks, x + 3, hl, hi, hk, h, rfl, rfl, fun ad => ?_, fun ad k' kd' hne => ?_, fun j hj => ⟨rfl, rfl, fun k' => ?_⟩, fun ty ht => ?_, fun j k' h1 h2 => ?_⟩
            · simp only [zkv, zin_filter]; simp [zcv]
            · match kd' with
              | 0 => rfl
              | 1 => rfl
              | 2 => rfl
              | d + 3 => simp only [zkv, zin_filter, (beq_eq_false_iff_ne.mpr hne : (k' == b) = false), Bool.and_false, Bool.not_false, Bool.and_true]
            · simp only [zin_filter]; simp [hj]
            · cases ty <;> first | (simp [zkd] at ht; done) | exact ⟨rfl, rfl⟩
            · rw [zin_filter, h2] at h1
              simp at h1
              exact ⟨h1.1, h1.2, by simp, by simpa using hlt⟩
          next => cases h
        next => cases h
      next => cases h
    next => cases h
  next => cases h
theorem zalK_ok {X : Nat × (Nat → Int32)} {S : zSt} {i : Nat} {x : Int32} {k : Int32 → zRes} {q : Option Value × zSt} (h : zalK X S i x k = some q) : (i = 7777 ∧ vp_in x X.1 ∧ k (X.2 x.toNatClampNeg) = some q) ∨ (∃ ks, zlay i = some (100, ks) ∧ i < S.1 ∧ vp_in x (ks.headD 0) ∧ k (S.2.2.2.1 i x.toNatClampNeg) = some q) := by
  unfold zalK at h
  split at h
  next hi =>
    split at h
    next => cases h
    next hx => exact Or.inl ⟨hi, hx, h⟩
  next =>
    split at h
    next ci ks hl =>
      split at h
      next hc =>
        obtain ⟨rfl, hi⟩ := hc
        split at h
        next => cases h
        next hx => exact Or.inr ⟨ks, hl, hi, hx, h⟩
      next => cases h
    next => cases h
theorem zasK_ok {S : zSt} {i : Nat} {x v : Int32} {k : zSt → zRes} {q : Option Value × zSt} (h : zasK S i x v k = some q) : ∃ ks, zlay i = some (100, ks) ∧ i < S.1 ∧ vp_in x (ks.headD 0) ∧ k (S.1, S.2.1, S.2.2.1, zuI S.2.2.2.1 i x.toNatClampNeg v, S.2.2.2.2) = some q := by
  unfold zasK at h
  split at h
  next ci ks hl =>
    split at h
    next hc =>
      obtain ⟨rfl, hi⟩ := hc
      split at h
      next => cases h
      next hx => exact ⟨ks, hl, hi, hx, h⟩
    next => cases h
  next => cases h
theorem zlnK_ok {X : Nat × (Nat → Int32)} {S : zSt} {i : Nat} {k : Int32 → zRes} {q : Option Value × zSt} (h : zlnK X S i k = some q) : (i = 7777 ∧ k (Int32.ofNat X.1) = some q) ∨ (∃ ks, zlay i = some (100, ks) ∧ i < S.1 ∧ k (Int32.ofNat (ks.headD 0)) = some q) ∨ (∃ ks, zlay i = some (101, ks) ∧ i < S.1 ∧ k (Int32.ofNat ks.length) = some q) := by
  unfold zlnK at h
  split at h
  next hi => exact Or.inl ⟨hi, h⟩
  next =>
    split at h
    next ci ks hl =>
      split at h
      next hc =>
        obtain ⟨rfl, hi⟩ := hc
        exact Or.inr (Or.inl ⟨ks, hl, hi, h⟩)
      next =>
        split at h
        next hc =>
          obtain ⟨rfl, hi⟩ := hc
          exact Or.inr (Or.inr ⟨ks, hl, hi, h⟩)
        next => cases h
    next => cases h
theorem zaaK_ok {S : zSt} {i : Nat} {x : Int32} {k : Nat → zRes} {q : Option Value × zSt} (h : zaaK S i x k = some q) : ∃ ks j, zlay i = some (101, ks) ∧ i < S.1 ∧ vp_in x ks.length ∧ ks[x.toNatClampNeg]? = some j ∧ zin S.2.2.1 i x.toNatClampNeg = false ∧ k j = some q := by
  unfold zaaK at h
  split at h
  next ci ks hl =>
    split at h
    next hc =>
      obtain ⟨rfl, hi⟩ := hc
      split at h
      next => cases h
      next hx =>
        split at h
        next => cases h
        next hz =>
          split at h
          next j hj => exact ⟨ks, j, hl, hi, hx, hj, hz, h⟩
          next => cases h
    next => cases h
  next => cases h
theorem zraK_ok {S : zSt} {i : Nat} {x : Int32} {v : Nat} {k : zSt → zRes} {q : Option Value × zSt} (h : zraK S i x v k = some q) : ∃ ks, zlay i = some (101, ks) ∧ i < S.1 ∧ vp_in x ks.length ∧ ks[x.toNatClampNeg]? = some v ∧ v < S.1 ∧ (∃ kq, zlay v = some (2, kq)) ∧ k (S.1, S.2.1, S.2.2.1.filter (fun r => !(r.1 == i && r.2 == x.toNatClampNeg)), S.2.2.2.1, S.2.2.2.2) = some q := by
  unfold zraK at h
  split at h
  next ci ks hl =>
    split at h
    next hc =>
      obtain ⟨rfl, hi⟩ := hc
      split at h
      next => cases h
      next hx =>
        split at h
        next j hj =>
          split at h
          next hq =>
            obtain ⟨rfl, h1, h2⟩ := hq
            refine ⟨ks, hl, hi, hx, hj, h1, ?_, h⟩
            cases hv : zlay v with
            | none => rw [hv] at h2; cases h2
            | some p =>
              obtain ⟨c, kq⟩ := p
              rw [hv] at h2
              have : c = 2 := by simpa using h2
              subst this
              exact ⟨kq, rfl⟩
          next => cases h
        next => cases h
    next => cases h
  next => cases h
theorem znwK_ok {S : zSt} {C : Nat} {k : zSt → zRes} {q : Option Value × zSt} (h : znwK S C k = some q) : ∃ ks, zlay S.1 = some (C, ks) ∧ C < 13 ∧ k (S.1 + 1, S.2.1 + ks.length, znr S.1 0 ks ++ S.2.2.1, zrI S.2.2.2.1 S.1 (fun _ => 0), zrL S.2.2.2.2 S.1 (fun _ => 0)) = some q := by
  unfold znwK at h
  split at h
  next ci ks hl =>
    split at h
    next hc =>
      obtain ⟨rfl, hi⟩ := hc
      exact ⟨ks, hl, hi, h⟩
    next => cases h
  next => cases h
theorem znaK_ok {S : zSt} {n : Int32} {k : zSt → zRes} {q : Option Value × zSt} (h : znaK S n k = some q) : ∃ ks, zlay S.1 = some (100, ks) ∧ ¬ n < 0 ∧ n.toNatClampNeg = ks.headD 0 ∧ ks.headD 0 ≤ 100000 ∧ k (S.1 + 1, S.2.1 + ks.headD 0, S.2.2.1, zrI S.2.2.2.1 S.1 (fun _ => 0), S.2.2.2.2) = some q := by
  unfold znaK at h
  split at h
  next ci ks hl =>
    split at h
    next hc =>
      obtain ⟨rfl, h1, h2, h3⟩ := hc
      exact ⟨ks, hl, h1, h2, h3, h⟩
    next => cases h
  next => cases h
theorem zqaK_ok {S : zSt} {n : Int32} {k : zSt → zRes} {q : Option Value × zSt} (h : zqaK S n k = some q) : ∃ ks, zlay S.1 = some (101, ks) ∧ ¬ n < 0 ∧ n.toNatClampNeg = ks.length ∧ ks.length ≤ 100000 ∧ k (S.1 + 1, S.2.1 + ks.length, (List.range ks.length).map (fun j => (S.1, j)) ++ S.2.2.1, S.2.2.2.1, S.2.2.2.2) = some q := by
  unfold zqaK at h
  split at h
  next ci ks hl =>
    split at h
    next hc =>
      obtain ⟨rfl, h1, h2, h3⟩ := hc
      exact ⟨ks, hl, h1, h2, h3, h⟩
    next => cases h
  next => cases h
theorem zcpK_ok {S : zSt} {i j : Nat} {sp dp n : Int32} {k : zSt → zRes} {q : Option Value × zSt} (h : zcpK S i sp j dp n k = some q) : ∃ k1 k2, zlay i = some (100, k1) ∧ zlay j = some (100, k2) ∧ i < S.1 ∧ j < S.1 ∧ ¬ sp < 0 ∧ ¬ dp < 0 ∧ ¬ n < 0 ∧ sp.toNatClampNeg + n.toNatClampNeg ≤ k1.headD 0 ∧ dp.toNatClampNeg + n.toNatClampNeg ≤ k2.headD 0 ∧
    k (S.1, S.2.1, S.2.2.1, zrI S.2.2.2.1 j (va_cpy (S.2.2.2.1 i) (S.2.2.2.1 j) sp.toNatClampNeg dp.toNatClampNeg n.toNatClampNeg), S.2.2.2.2) = some q := by
  unfold zcpK at h
  split at h
  next c1 k1 c2 k2 h1 h2 =>
    split at h
    next hc =>
      obtain ⟨rfl, rfl, hi, hj⟩ := hc
      split at h
      next hc =>
        obtain ⟨e1, e2, e3, e4, e5⟩ := hc
        exact ⟨k1, k2, h1, h2, hi, hj, e1, e2, e3, e4, e5, h⟩
      next => cases h
    next => cases h
  next => cases h
theorem zpop_ok : ∀ (k : Nat) (st acc As rest : List Value), zpop k st acc = some (As, rest) → ∃ B, As = B ++ acc ∧ st = B.reverse ++ rest ∧ B.length = k
  | 0, st, acc, As, rest, h => by
    simp only [zpop, Option.some.injEq, Prod.mk.injEq] at h
    obtain ⟨rfl, rfl⟩ := h
    exact ⟨[], rfl, rfl, rfl⟩
  | k + 1, [], acc, As, rest, h => by cases h
  | k + 1, v :: st, acc, As, rest, h => by
    obtain ⟨B, h1, h2, h3⟩ := zpop_ok k st (v :: acc) As rest h
    exact ⟨B ++ [v], by rw [h1]; simp, by rw [h2]; simp, by simp [h3]⟩
theorem zw_sum (ad : Nat → Nat) : ∀ (l : List Value), ((l.map (zcv ad)).map fun v => v.category).sum = zw l
  | [] => rfl
  | v :: t => by
    simp only [List.map_cons, List.sum_cons, zw_sum ad t, zw, zcv_cat]
theorem zok_map {n : Nat} {ad ad' : Nat → Nat} (h : ∀ i, i < n ∨ 5000 ≤ i → ad' i = ad i) : ∀ (l : List Value), zok n l = true → l.map (zcv ad') = l.map (zcv ad)
  | [], _ => rfl
  | v :: t, hl => by
    have ht : zok n t = true ∧ zcv ad' v = zcv ad v := by
      cases v with
      | ref q =>
        simp only [zok, Bool.and_eq_true, Bool.or_eq_true, decide_eq_true_eq] at hl
        exact ⟨hl.2, by simp only [zcv, h q hl.1]⟩
      | _ => exact ⟨hl, rfl⟩
    simp only [List.map_cons, ht.2, zok_map h t ht.1]
theorem zok_loc {n nL : Nat} {ad ad' : Nat → Nat} {ls : List Value} {sl : Array Slot} (h : ∀ i, i < n ∨ 5000 ≤ i → ad' i = ad i) (hl : zok n ls = true) (hz : zloc nL ad ls sl) : zloc nL ad' ls sl := by
  obtain ⟨h1, h2, h3, h4⟩ := hz
  refine ⟨h1, h2, h3, fun i v hi hv => ?_⟩
  have e := zok_map h ls hl
  have e1 : (ls.map (zcv ad'))[i]? = (ls.map (zcv ad))[i]? := by rw [e]
  rw [List.getElem?_map, List.getElem?_map, hi] at e1
  have e2 : zcv ad' v = zcv ad v := by simpa using e1
  rw [e2]
  exact h4 i v hi hv

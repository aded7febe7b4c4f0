/-! the counts grow, and what is set points at cells that are -/
theorem zinv_same {S S1 : zSt} (h : zinv S) (h1 : S1.1 = S.1) (h2 : S1.2.2.1 = S.2.2.1) : zinv S1 := by
  intro i ci ks hi hl
  rw [h1] at hi
  rw [h1, h2]
  exact h i ci ks hi hl
theorem zinv_put {S S1 : zSt} {i b kd a : Nat} {ks : List Nat} {v : Value} (hI : zinv S) (h1 : S1.1 = S.1) (hl : zlay i = some (a, ks)) (ha : a < 13 ∨ a = 101) (hk : ks[b]? = some kd)
    (hz : ∀ j k', zin S1.2.2.1 j k' = false → zin S.2.2.1 j k' = true → j = i ∧ k' = b ∧ (a < 13 → kd - 3 < S.1) ∧ (a = 101 → kd < S.1)) : zinv S1 := by
  intro i0 ci ks0 hi0 hl0
  rw [h1] at hi0 ⊢
  obtain ⟨g1, g2⟩ := hI i0 ci ks0 hi0 hl0
  refine ⟨fun hc k j hkj hf => ?_, fun hc k j hkj hf => ?_⟩
  · cases hz1 : zin S.2.2.1 i0 k with
    | false => exact g1 hc k j hkj hz1
    | true =>
      obtain ⟨rfl, rfl, h3, h4⟩ := hz i0 k hf hz1
      rw [hl] at hl0
      cases hl0
      rw [hk] at hkj
      have : kd = j + 3 := Option.some.inj hkj
      have h5 := h3 hc
      omega
  · cases hz1 : zin S.2.2.1 i0 k with
    | false => exact g2 hc k j hkj hz1
    | true =>
      obtain ⟨rfl, rfl, h3, h4⟩ := hz i0 k hf hz1
      rw [hl] at hl0
      cases hl0
      rw [hk] at hkj
      have : kd = j := Option.some.inj hkj
      have h5 := h4 hc
      omega
theorem znr_in {i : Nat} : ∀ (ks : List Nat) (k0 k j : Nat), ks[k]? = some (j + 3) → zin (znr i k0 ks) i (k0 + k) = true
  | [], k0, k, j, h => by simp at h
  | d :: t, k0, 0, j, h => by
    have : d = j + 3 := by simpa using h
    subst this
    simp [znr, zin]
  | d :: t, k0, k + 1, j, h => by
    have h1 := znr_in (i := i) t (k0 + 1) k j (by simpa using h)
    have e : k0 + 1 + k = k0 + (k + 1) := by omega
    rw [e] at h1
    match d with
    | 0 => simpa [znr] using h1
    | 1 => simpa [znr] using h1
    | 2 => simpa [znr] using h1
    | x + 3 => simp [znr, zin, h1]
theorem znr_ne {i j : Nat} (hj : j ≠ i) : ∀ (ks : List Nat) (k0 k : Nat), zin (znr i k0 ks) j k = false
  | [], k0, k => rfl
  | d :: t, k0, k => by
    have h1 := znr_ne hj t (k0 + 1) k
    match d with
    | 0 => simpa [znr] using h1
    | 1 => simpa [znr] using h1
    | 2 => simpa [znr] using h1
    | x + 3 => simp only [znr, zin, h1, Bool.or_false, Bool.and_eq_false_iff, beq_eq_false_iff_ne]; exact Or.inl (Ne.symm hj)
theorem zinv_new {S S1 : zSt} (hI : zinv S) (h1 : S1.1 = S.1 + 1) (ho : ∀ j k, j ≠ S.1 → zin S1.2.2.1 j k = zin S.2.2.1 j k) (hn : ∀ ci ks, zlay S.1 = some (ci, ks) → (ci < 13 → ∀ k j, ks[k]? = some (j + 3) → zin S1.2.2.1 S.1 k = true) ∧ (ci = 101 → ∀ k j, ks[k]? = some j → zin S1.2.2.1 S.1 k = true)) : zinv S1 := by
  intro i ci ks hi hl
  rw [h1] at hi ⊢
  by_cases he : i = S.1
  · subst he
    obtain ⟨g1, g2⟩ := hn ci ks hl
    exact ⟨fun hc k j hk hf => absurd (hf.symm.trans (g1 hc k j hk)) (by simp), fun hc k j hk hf => absurd (hf.symm.trans (g2 hc k j hk)) (by simp)⟩
  · obtain ⟨g1, g2⟩ := hI i ci ks (by omega) hl
    exact ⟨fun hc k j hk hf => Nat.lt_succ_of_lt (g1 hc k j hk (by rw [← ho i k he]; exact hf)), fun hc k j hk hf => Nat.lt_succ_of_lt (g2 hc k j hk (by rw [← ho i k he]; exact hf))⟩
theorem zinv_nw {S : zSt} {C : Nat} {ks : List Nat} {f : Nat → Nat → Int32} {g : Nat → Nat → Int64} {z : Nat} (hI : zinv S) (hl : zlay S.1 = some (C, ks)) (hC : C < 13) : zinv (S.1 + 1, z, znr S.1 0 ks ++ S.2.2.1, f, g) := by
  refine zinv_new hI rfl (fun j k hj => by simp only [zin_app, znr_ne hj, Bool.false_or]) (fun ci ks' hl' => ?_)
  rw [hl] at hl'
  cases hl'
  refine ⟨fun _ k j hk => ?_, fun h => by omega⟩
  have := znr_in (i := S.1) ks 0 k j hk
  rw [Nat.zero_add] at this
  simp only [zin_app, this, Bool.true_or]
theorem zinv_na {S : zSt} {ks : List Nat} {f : Nat → Nat → Int32} {g : Nat → Nat → Int64} {z : Nat} (hI : zinv S) (hl : zlay S.1 = some (100, ks)) : zinv (S.1 + 1, z, S.2.2.1, f, g) := by
  refine zinv_new hI rfl (fun j k hj => rfl) (fun ci ks' hl' => ?_)
  rw [hl] at hl'
  cases hl'
  exact ⟨fun h => by omega, fun h => by omega⟩
theorem zinv_qa {S : zSt} {ks : List Nat} {f : Nat → Nat → Int32} {g : Nat → Nat → Int64} {z : Nat} (hI : zinv S) (hl : zlay S.1 = some (101, ks)) : zinv (S.1 + 1, z, (List.range ks.length).map (fun j => (S.1, j)) ++ S.2.2.1, f, g) := by
  have hm : ∀ j k, zin ((List.range ks.length).map (fun j => (S.1, j))) j k = true ↔ j = S.1 ∧ k < ks.length := by
    intro j k
    rw [zin_iff, List.mem_map]
    constructor
    · rintro ⟨x, hx, he⟩
      cases he
      exact ⟨rfl, List.mem_range.mp hx⟩
    · rintro ⟨rfl, hx⟩
      exact ⟨k, List.mem_range.mpr hx, rfl⟩
  refine zinv_new hI rfl (fun j k hj => ?_) (fun ci ks' hl' => ?_)
  · simp only [zin_app]
    have : zin ((List.range ks.length).map (fun j => (S.1, j))) j k = false := by
      cases hz : zin ((List.range ks.length).map (fun j => (S.1, j))) j k with
      | false => rfl
      | true => exact absurd ((hm j k).mp hz).1 hj
    rw [this, Bool.false_or]
  · rw [hl] at hl'
    cases hl'
    refine ⟨fun h => by omega, fun _ k j hk => ?_⟩
    have := (hm S.1 k).mpr ⟨rfl, (List.getElem?_eq_some_iff.mp hk).1⟩
    simp only [zin_app, this, Bool.true_or]
theorem zinv_pf {S S1 : zSt} {i a b kd : Nat} {ks : List Nat} {v : Value} (hI : zinv S) (h1 : S1.1 = S.1) (hl : zlay i = some (a, ks)) (ha : a < 13) (hk : ks[b]? = some kd) (hz : ∀ j k', zin S1.2.2.1 j k' = false → zin S.2.2.1 j k' = true → j = i ∧ k' = b ∧ v = .ref (kd - 3) ∧ kd - 3 < S.1) : zinv S1 :=
  zinv_put hI h1 hl (Or.inl ha) hk (v := v) (fun j k' q1 q2 => by
    obtain ⟨e1, e2, -, e4⟩ := hz j k' q1 q2
    exact ⟨e1, e2, fun _ => e4, fun q => by omega⟩)
theorem zinv_ra {S : zSt} {i x v : Nat} {ks : List Nat} {f : Nat → Nat → Int32} {g : Nat → Nat → Int64} {z : Nat} (hI : zinv S) (hl : zlay i = some (101, ks)) (hk : ks[x]? = some v) (hv : v < S.1) : zinv (S.1, z, S.2.2.1.filter (fun r => !(r.1 == i && r.2 == x)), f, g) :=
  zinv_put (b := x) (kd := v) (v := .null) hI rfl hl (Or.inr rfl) hk (fun j k' q1 q2 => by
    simp only [zin_filter, q2, Bool.true_and, Bool.not_eq_false', Bool.and_eq_true, beq_iff_eq] at q1
    exact ⟨q1.1, q1.2, fun q => by omega, fun _ => hv⟩)
set_option maxHeartbeats 4000000 in
set_option maxRecDepth 100000 in
theorem zmono {X : Nat × (Nat → Int32)} {cf : Nat → List Value → zSt → zRes} {M : zMe} {q : Option Value × zSt} (hMk : zchkM M = true)
    (hcf : ∀ a As S r S1, cf a As S = some (r, S1) → zinv S → S.1 ≤ S1.1 ∧ S.2.1 ≤ S1.2.1 ∧ zinv S1) :
    ∀ (n pc : Nat) (ls st : List Value) (S : zSt), zstp X cf M n pc ls st S = some q → zinv S → S.1 ≤ q.2.1 ∧ S.2.1 ≤ q.2.2.1 ∧ zinv q.2 := by
  intro n
  induction n with
  | zero => intro pc ls st S h; cases h
  | succ n ih =>
    intro pc ls st S h hI
    have hcall : ∀ (ck : List Value → Bool) (a b pc' : Nat), zcall cf ck a b ls st S (fun st1 S1 => zstp X cf M n pc' ls st1 S1) = some q → S.1 ≤ q.2.1 ∧ S.2.1 ≤ q.2.2.1 ∧ zinv q.2 := by
      intro ck a b pc' h
      unfold zcall at h
      split at h
      next => cases h
      next As rest hp =>
        split at h
        next =>
          split at h
          next => cases h
          next r S1 hr =>
            split at h
            next =>
              obtain ⟨g1, g2, g3⟩ := hcf _ _ _ _ _ hr hI
              obtain ⟨k1, k2, k3⟩ := ih _ _ _ _ h g3
              exact ⟨Nat.le_trans g1 k1, Nat.le_trans g2 k2, k3⟩
            next => cases h
        next => cases h
    simp only [zstp] at h
    split at h
    next => cases h
    next ins a b hk =>
    have hck := zchkM_ok hMk hk
    simp only [zchk, Bool.and_eq_true] at hck
    obtain ⟨hd, hex⟩ := hck
    cases ins
    case iaload =>
      simp only at h
      split at h
      · rcases zalK_ok h with ⟨-, -, h⟩ | ⟨ks, -, -, -, h⟩
        · exact ih _ _ _ _ h hI
        · exact ih _ _ _ _ h hI
      · cases h
    case iastore =>
      simp only at h
      split at h
      · obtain ⟨ks, -, -, -, h⟩ := zasK_ok h
        have g := ih _ _ _ _ h (zinv_same hI rfl rfl)
        exact g
      · cases h
    case aaload =>
      simp only at h
      split at h
      · obtain ⟨ks, j, -, -, -, -, -, h⟩ := zaaK_ok h
        exact ih _ _ _ _ h hI
      · cases h
    case aastore =>
      simp only at h
      split at h
      · obtain ⟨ks, h1, h2, h3, h4, h5, h6, h⟩ := zraK_ok h
        have g := ih _ _ _ _ h (zinv_ra hI h1 h4 h5)
        exact g
      · cases h
    case arraylength =>
      simp only at h
      split at h
      · rcases zlnK_ok h with ⟨-, h⟩ | ⟨ks, -, -, h⟩ | ⟨ks, -, -, h⟩
        · exact ih _ _ _ _ h hI
        · exact ih _ _ _ _ h hI
        · exact ih _ _ _ _ h hI
      · cases h
    case getfield i =>
      simp only at h
      split at h
      · obtain ⟨v, ks, kd, -, -, -, h, -⟩ := zgfK_ok h
        exact ih _ _ _ _ h hI
      · cases h
    case putfield i =>
      simp only at h
      split at h
      · obtain ⟨S1, ks, kd, h1, h2, h3, h, h4, h5, h6, h7, h8, h9, h10⟩ := zpfK_ok h
        simp only [zex, Bool.and_eq_true] at hex
        obtain ⟨k1, k2, k3⟩ := ih _ _ _ _ h (zinv_pf hI h4 h1 (zFL_use hex.1).1 h3 h10)
        exact ⟨by rw [← h4]; exact k1, by rw [← h5]; exact k2, k3⟩
      · cases h
    case new i =>
      simp only at h
      split at h
      · obtain ⟨ks, h1, h2, h⟩ := znwK_ok h
        obtain ⟨k1, k2, k3⟩ := ih _ _ _ _ h (zinv_nw hI h1 h2)
        exact ⟨Nat.le_trans (Nat.le_succ _) k1, Nat.le_trans (Nat.le_add_right _ _) k2, k3⟩
      · cases h
    case newarray i =>
      simp only at h
      split at h
      · split at h
        · obtain ⟨ks, h1, h2, h3, h4, h⟩ := znaK_ok h
          obtain ⟨k1, k2, k3⟩ := ih _ _ _ _ h (zinv_na hI h1)
          exact ⟨Nat.le_trans (Nat.le_succ _) k1, Nat.le_trans (Nat.le_add_right _ _) k2, k3⟩
        · cases h
      · cases h
    case anewarray i =>
      simp only at h
      split at h
      · split at h
        · obtain ⟨ks, h1, h2, h3, h4, h⟩ := zqaK_ok h
          obtain ⟨k1, k2, k3⟩ := ih _ _ _ _ h (zinv_qa hI h1)
          exact ⟨Nat.le_trans (Nat.le_succ _) k1, Nat.le_trans (Nat.le_add_right _ _) k2, k3⟩
        · cases h
      · cases h
    case invokevirtual i => exact hcall _ _ _ _ h
    case invokestatic i =>
      simp only at h
      split at h
      · split at h
        · split at h
          · obtain ⟨k1, k2, h1, h2, h3, h4, h5, h6, h7, h8, h9, h⟩ := zcpK_ok h
            have g := ih _ _ _ _ h (zinv_same hI rfl rfl)
            exact g
          · cases h
        · cases h
      · exact hcall _ _ _ _ h
    case invokespecial i =>
      simp only at h
      split at h
      · split at h
        · split at h
          · exact ih _ _ _ _ h hI
          · cases h
        · cases h
      · exact hcall _ _ _ _ h
    case ireturn =>
      simp only at h
      split at h
      · split at h
        · split at h
          · cases h
            exact ⟨Nat.le_refl _, Nat.le_refl _, hI⟩
          · cases h
        · cases h
          exact ⟨Nat.le_refl _, Nat.le_refl _, hI⟩
        · cases h
      · cases h
    case return_ =>
      simp only at h
      split at h
      · split at h
        · cases h
          exact ⟨Nat.le_refl _, Nat.le_refl _, hI⟩
        · cases h
      · cases h
    all_goals simp only at h
    all_goals first
      | exact ih _ _ _ _ h hI
      | (cases h; done)
      | (split at h <;> first
          | exact ih _ _ _ _ h hI
          | (cases h; done)
          | (split at h <;> first
              | exact ih _ _ _ _ h hI
              | (cases h; done)
              | (split at h <;> first
                  | exact ih _ _ _ _ h hI
                  | (cases h; done)
                  | (split at h <;> first
                      | exact ih _ _ _ _ h hI
                      | (cases h; done)))))

/-! THE WORLD that a state of the interpreter stands for: the cells at their addresses -/
def zkv (ad : Nat → Nat) (S : zSt) (i k : Nat) (kd : Nat) : Value := match kd with
  | 0 => .int (S.2.2.2.1 i k)
  | 1 => .int (S.2.2.2.1 i k)
  | 2 => .long (S.2.2.2.2 i k)
  | j + 3 => (match zin S.2.2.1 i k with
    | true => .null
    | false => .ref (ad j))
def zrfn (r : List (Nat × Nat)) (i : Nat) (ks : List Nat) (ad : Nat → Nat) (j : Nat) : Option Nat := match zin r i j with
  | true => none
  | false => (ks[j]?).map ad
def zce (cI cR : ClassId) (ad : Nat → Nat) (S : zSt) (i : Nat) : va_E := match zlay i with
  | some (ci, ks) => if ci = 100 then .inl (cI, ks.headD 0, .inl (S.2.2.2.1 i)) else if ci = 101 then .inl (cR, ks.length, .inr (.inr (.inr (.inr (zrfn S.2.2.1 i ks ad))))) else .inr (ci, ks.mapIdx (fun k kd => zkv ad S i k kd))
  | none => .inr (0, [])
def zwo (cI cR : ClassId) (ad : Nat → Nat) (S : zSt) : va_W := (List.range S.1).map (fun i => (ad i, zce cI cR ad S i))
def zcv (ad : Nat → Nat) : Value → Value
  | .ref i => .ref (ad i)
  | v => v
theorem zcv_cat (ad : Nat → Nat) (v : Value) : (zcv ad v).category = v.category := by cases v <;> rfl
/-! the layout's rows -/
def zkd (kd : Nat) (ty : FieldType) : Bool := match kd with
  | 0 => decide (ty = .int)
  | 1 => decide (ty = .boolean)
  | 2 => decide (ty = .long)
  | _ + 3 => (match ty with
    | .object _ => true
    | .array _ => true
    | _ => false)
def zlck (q : Nat × List Nat) : Bool := (decide (q.1 < 13) && decide (q.2.length = (zC q.1).2.2) && (List.range q.2.length).all (fun k => zkd (q.2.getD k 0) (zty q.1 k))) || (q.1 == 100 && decide (q.2.length = 1)) || q.1 == 101
theorem zLt_ok : zLt.all (fun c => c.all (fun o => match o with
  | some q => zlck q
  | none => true)) = true := by decide +kernel
theorem zlay_ck {i : Nat} {q : Nat × List Nat} (h : zlay i = some q) : zlck q = true := by
  refine zlk_all (P := fun q => zlck q = true) (l := zLt) (fun c hc o ho x hx => ?_) h
  have h1 := List.all_eq_true.mp (List.all_eq_true.mp zLt_ok c hc) o ho
  rw [hx] at h1
  exact h1
theorem zlay_lt {i : Nat} {q : Nat × List Nat} (h : zlay i = some q) : i < 5000 := by
  obtain ⟨c, h1, -⟩ := zlk_mem h
  have h2 := (List.getElem?_eq_some_iff.mp h1).1
  have h3 : zLt.length = 14 := by decide +kernel
  omega
theorem zlay_obj {i ci : Nat} {ks : List Nat} (h : zlay i = some (ci, ks)) (hc : ci < 13) : ks.length = (zC ci).2.2 ∧ ∀ k kd, ks[k]? = some kd → zkd kd (zty ci k) = true := by
  have h1 := zlay_ck h
  simp only [zlck, Bool.or_eq_true, Bool.and_eq_true, decide_eq_true_eq, beq_iff_eq] at h1
  rcases h1 with (⟨⟨-, h2⟩, h3⟩ | ⟨h2, -⟩) | h2
  · refine ⟨h2, fun k kd hk => ?_⟩
    have hl := (List.getElem?_eq_some_iff.mp hk).1
    have h4 := List.all_eq_true.mp h3 k (List.mem_range.mpr hl)
    rw [List.getD_eq_getElem?_getD, hk] at h4
    exact h4
  · omega
  · omega
theorem zlay_cases {i ci : Nat} {ks : List Nat} (h : zlay i = some (ci, ks)) : ci < 13 ∨ ci = 100 ∨ ci = 101 := by
  have h1 := zlay_ck h
  simp only [zlck, Bool.or_eq_true, Bool.and_eq_true, decide_eq_true_eq, beq_iff_eq] at h1
  rcases h1 with (⟨⟨h2, -⟩, -⟩ | ⟨h2, -⟩) | h2
  · exact Or.inl h2
  · exact Or.inr (Or.inl h2)
  · exact Or.inr (Or.inr h2)
theorem zce_obj {cI cR : ClassId} {ad : Nat → Nat} {S : zSt} {i ci : Nat} {ks : List Nat} (h : zlay i = some (ci, ks)) (hc : ci < 13) : zce cI cR ad S i = .inr (ci, ks.mapIdx (fun k kd => zkv ad S i k kd)) := by
  unfold zce
  rw [h]
  simp only
  rw [if_neg (by omega), if_neg (by omega)]
theorem zce_int {cI cR : ClassId} {ad : Nat → Nat} {S : zSt} {i : Nat} {ks : List Nat} (h : zlay i = some (100, ks)) : zce cI cR ad S i = .inl (cI, ks.headD 0, .inl (S.2.2.2.1 i)) := by
  unfold zce
  rw [h]
  rfl
theorem zce_ref {cI cR : ClassId} {ad : Nat → Nat} {S : zSt} {i : Nat} {ks : List Nat} (h : zlay i = some (101, ks)) : zce cI cR ad S i = .inl (cR, ks.length, .inr (.inr (.inr (.inr (zrfn S.2.2.1 i ks ad))))) := by
  unfold zce
  rw [h]
  rfl
theorem zwo_at {cI cR : ClassId} {ad : Nat → Nat} {S : zSt} {i : Nat} (h : i < S.1) : (zwo cI cR ad S)[i]? = some (ad i, zce cI cR ad S i) := by
  simp [zwo, List.getElem?_map, List.getElem?_range h]
theorem zwo_len {cI cR : ClassId} {ad : Nat → Nat} {S : zSt} : (zwo cI cR ad S).length = S.1 := by simp [zwo]
theorem zwo_set {cI cR : ClassId} {ad : Nat → Nat} {S S' : zSt} (hS : S'.1 = S.1) {i : Nat} {e : va_E} (he : zce cI cR ad S' i = e) (ho : ∀ j, j ≠ i → zce cI cR ad S' j = zce cI cR ad S j) : (zwo cI cR ad S).set i (ad i, e) = zwo cI cR ad S' := by
  apply List.ext_getElem?
  intro j
  by_cases hl : j < S.1
  · rw [zwo_at (S := S') (by rw [hS]; exact hl)]
    by_cases hj : j = i
    · subst hj
      rw [List.getElem?_set_self (by rw [zwo_len]; exact hl), he]
    · rw [List.getElem?_set_ne (Ne.symm hj), zwo_at hl, ho j hj]
  · rw [List.getElem?_eq_none (by rw [List.length_set, zwo_len]; omega), List.getElem?_eq_none (by rw [zwo_len, hS]; omega)]
def zad (ad : Nat → Nat) (n q : Nat) : Nat → Nat := fun i => if i = n then q else ad i
theorem zwo_push {cI cR : ClassId} {ad : Nat → Nat} {S S' : zSt} {q : Nat} (hS : S'.1 = S.1 + 1) {e : va_E} (he : zce cI cR (zad ad S.1 q) S' S.1 = e) (ho : ∀ j, j < S.1 → zce cI cR (zad ad S.1 q) S' j = zce cI cR ad S j) : zwo cI cR ad S ++ [(q, e)] = zwo cI cR (zad ad S.1 q) S' := by
  apply List.ext_getElem?
  intro j
  by_cases hl : j < S.1
  · rw [List.getElem?_append_left (by rw [zwo_len]; exact hl), zwo_at hl, zwo_at (by omega), ho j hl]
    have : zad ad S.1 q j = ad j := by simp [zad]; omega
    rw [this]
  · by_cases hj : j = S.1
    · subst hj
      rw [List.getElem?_append_right (by rw [zwo_len]; exact Nat.le_refl _), zwo_at (by omega), he, zwo_len]
      simp [zad]
    · rw [List.getElem?_eq_none (by rw [List.length_append, zwo_len]; simp; omega), List.getElem?_eq_none (by rw [zwo_len, hS]; omega)]
theorem zce_congr {cI cR : ClassId} {ad : Nat → Nat} {S S' : zSt} {j : Nat} (h1 : S'.2.2.2.1 j = S.2.2.2.1 j) (h2 : S'.2.2.2.2 j = S.2.2.2.2 j) (h3 : ∀ k, zin S'.2.2.1 j k = zin S.2.2.1 j k) : zce cI cR ad S' j = zce cI cR ad S j := by
  have hk : ∀ k kd, zkv ad S' j k kd = zkv ad S j k kd := by
    intro k kd
    unfold zkv
    simp only [h1, h2, h3]
  have hr : ∀ ks, zrfn S'.2.2.1 j ks ad = zrfn S.2.2.1 j ks ad := fun ks => by
    funext k
    simp only [zrfn, h3]
  unfold zce
  simp only [h1, hr, hk]
theorem zuI_ne {f : Nat → Nat → Int32} {i k : Nat} {x : Int32} {j : Nat} (h : j ≠ i) : zuI f i k x j = f j := by
  funext b
  simp [zuI, h]
theorem zuL_ne {f : Nat → Nat → Int64} {i k : Nat} {x : Int64} {j : Nat} (h : j ≠ i) : zuL f i k x j = f j := by
  funext b
  simp [zuL, h]
theorem zrI_ne {f : Nat → Nat → Int32} {i : Nat} {g : Nat → Int32} {j : Nat} (h : j ≠ i) : zrI f i g j = f j := by simp [zrI, h]
theorem zrI_eq {f : Nat → Nat → Int32} {i : Nat} {g : Nat → Int32} : zrI f i g i = g := by simp [zrI]
theorem zrL_ne {f : Nat → Nat → Int64} {i : Nat} {g : Nat → Int64} {j : Nat} (h : j ≠ i) : zrL f i g j = f j := by simp [zrL, h]
theorem zrL_eq {f : Nat → Nat → Int64} {i : Nat} {g : Nat → Int64} : zrL f i g i = g := by simp [zrL]
theorem zuI_at {f : Nat → Nat → Int32} {i k : Nat} {x : Int32} : zuI f i k x i = upd (f i) k x := by
  funext b
  simp [zuI, upd]
theorem zin_iff {r : List (Nat × Nat)} {i k : Nat} : zin r i k = true ↔ (i, k) ∈ r := by
  induction r with
  | nil => simp [zin]
  | cons q t ih =>
    obtain ⟨a, b⟩ := q
    simp only [zin, Bool.or_eq_true, Bool.and_eq_true, beq_iff_eq, ih, List.mem_cons, Prod.mk.injEq]
    constructor
    · rintro (⟨h1, h2⟩ | h)
      · exact Or.inl ⟨h1.symm, h2.symm⟩
      · exact Or.inr h
    · rintro (⟨h1, h2⟩ | h)
      · exact Or.inl ⟨h1.symm, h2.symm⟩
      · exact Or.inr h
theorem zin_filter {r : List (Nat × Nat)} {i k j m : Nat} : zin (r.filter (fun q => !(q.1 == i && q.2 == k))) j m = (zin r j m && !(j == i && m == k)) := by
  rw [Bool.eq_iff_iff, zin_iff, Bool.and_eq_true, zin_iff, List.mem_filter]
theorem zin_app {r t : List (Nat × Nat)} {i k : Nat} : zin (r ++ t) i k = (zin r i k || zin t i k) := by
  induction r with
  | nil => simp [zin]
  | cons q r ih => simp only [List.cons_append, zin, ih, Bool.or_assoc]
theorem zput_map {ad : Nat → Nat} {S S' : zSt} {i b kd : Nat} {ks : List Nat} (hk : ks[b]? = some kd) (ho : ∀ k kd', k ≠ b → zkv ad S' i k kd' = zkv ad S i k kd') : ks.mapIdx (fun k kd => zkv ad S' i k kd) = (ks.mapIdx (fun k kd => zkv ad S i k kd)).set b (zkv ad S' i b kd) := by
  apply List.ext_getElem?
  intro k
  have hl := (List.getElem?_eq_some_iff.mp hk).1
  by_cases h : k = b
  · subst h
    rw [List.getElem?_set_self (by simpa using hl), List.getElem?_mapIdx, hk]
    rfl
  · rw [List.getElem?_set_ne (Ne.symm h), List.getElem?_mapIdx, List.getElem?_mapIdx]
    cases ks[k]? with
    | none => rfl
    | some d => simp [ho k d h]
/-! locals -/
def zloc (nL : Nat) (ad : Nat → Nat) (ls : List Value) (sl : Array Slot) : Prop := ls.length = nL ∧ sl.size = nL ∧ lv_wf sl ∧ ∀ (i : Nat) (v : Value), ls[i]? = some v → v ≠ .null → sl[i]? = some (.val (zcv ad v))
def zlv (ad : Nat → Nat) (ls : List Value) : List (Nat × Value) := (List.range ls.length).filterMap (fun i => match (ls[i]? : Option Value) with
  | some .null => none
  | some v => some (i, zcv ad v)
  | none => none)
theorem zlv_mem {ad : Nat → Nat} {ls : List Value} {i : Nat} {v : Value} (h : ls[i]? = some v) (hv : v ≠ .null) : (i, zcv ad v) ∈ zlv ad ls := by
  refine List.mem_filterMap.mpr ⟨i, List.mem_range.mpr (List.getElem?_eq_some_iff.mp h).1, ?_⟩
  rw [h]
  cases v <;> first | rfl | exact absurd rfl hv
theorem zlv_has {nL : Nat} {ad : Nat → Nat} {ls : List Value} {sl : Array Slot} (h : zloc nL ad ls sl) : lv_has sl nL (zlv ad ls) := by
  obtain ⟨h1, h2, h3, h4⟩ := h
  refine ⟨h2, h3, fun q hq => ?_⟩
  obtain ⟨i, -, hi⟩ := List.mem_filterMap.mp hq
  cases hl : ls[i]? with
  | none => rw [hl] at hi; cases hi
  | some v =>
    rw [hl] at hi
    cases v <;> first | (cases hi; done) | (cases hi; exact h4 i _ hl (fun z => by cases z))
theorem zst_at {ls : List Value} {i j : Nat} {v x : Value} (hi : i < ls.length) (h : (zst ls i v)[j]? = some x) (hx : x ≠ .null) : (j = i ∧ x = v) ∨ (j ≠ i ∧ ls[j]? = some x ∧ ¬ (j + 1 = i ∧ x.category = 2)) := by
  have key : ∀ (i : Nat), i + 1 < ls.length → ((ls.set i .null).set (i + 1) v)[j]? = some x → (j = i + 1 ∧ x = v) ∨ (j ≠ i + 1 ∧ ls[j]? = some x ∧ ¬ (j + 1 = i + 1 ∧ x.category = 2)) := by
    intro i hi h
    by_cases hj : j = i + 1
    · subst hj
      rw [List.getElem?_set_self (by simpa using hi)] at h
      exact Or.inl ⟨rfl, (Option.some.inj h).symm⟩
    · rw [List.getElem?_set_ne (Ne.symm hj)] at h
      by_cases hj2 : j = i
      · subst hj2
        rw [List.getElem?_set_self (by omega)] at h
        exact absurd (Option.some.inj h).symm hx
      · rw [List.getElem?_set_ne (Ne.symm hj2)] at h
        exact Or.inr ⟨hj, h, fun z => by omega⟩
  unfold zst at h
  cases i with
  | zero =>
    simp only at h
    by_cases hj : j = 0
    · subst hj
      rw [List.getElem?_set_self hi] at h
      exact Or.inl ⟨rfl, (Option.some.inj h).symm⟩
    · rw [List.getElem?_set_ne (Ne.symm hj)] at h
      exact Or.inr ⟨hj, h, fun z => by omega⟩
  | succ i =>
    simp only at h
    split at h
    next q hq => exact key i hi h
    next q hq => exact key i hi h
    next hq hq2 =>
      by_cases hj : j = i + 1
      · subst hj
        rw [List.getElem?_set_self hi] at h
        exact Or.inl ⟨rfl, (Option.some.inj h).symm⟩
      · rw [List.getElem?_set_ne (Ne.symm hj)] at h
        refine Or.inr ⟨hj, h, fun ⟨z, e⟩ => ?_⟩
        have : j = i := by omega
        subst this
        cases x with
        | long q => exact hq q h
        | double q => exact hq2 q h
        | _ => cases e
theorem zst_len {ls : List Value} {i : Nat} {v : Value} : (zst ls i v).length = ls.length := by
  unfold zst
  cases i with
  | zero => simp
  | succ i =>
    simp only
    split <;> simp
theorem zst_loc {nL : Nat} {ad : Nat → Nat} {ls : List Value} {sl sl' : Array Slot} {i : Nat} {v : Value} (hi : i < nL) (h : zloc nL ad ls sl) (hv : v.category = 1) (h' : lv_has sl' nL ((i, zcv ad v) :: (zlv ad ls).filter (fun q => !(q.1 == i) && !(q.1 + 1 == i && q.2.category == 2)))) : zloc nL ad (zst ls i v) sl' := by
  obtain ⟨h1, h2, h3, h4⟩ := h
  refine ⟨zst_len.trans h1, h'.1, h'.2.1, fun j x hx hn => ?_⟩
  rcases zst_at (by rw [h1]; exact hi) hx hn with ⟨rfl, rfl⟩ | ⟨hj, hl, hc⟩
  · exact h'.2.2 (_, _) List.mem_cons_self
  · refine h'.2.2 (j, zcv ad x) (List.mem_cons_of_mem _ (List.mem_filter.mpr ⟨zlv_mem hl hn, ?_⟩))
    simp only [Bool.and_eq_true, Bool.not_eq_true', beq_eq_false_iff_ne, Bool.and_eq_false_iff, zcv_cat]
    refine ⟨hj, ?_⟩
    by_cases hji : j + 1 = i
    · right
      intro hcat
      exact hc ⟨hji, hcat⟩
    · left
      exact hji

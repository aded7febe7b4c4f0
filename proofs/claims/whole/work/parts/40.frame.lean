/-! WHAT A RUN LEAVES ALONE: cells outside a set that the layout's references don't leave -/
def zRf (D : Nat → Bool) (l : List Value) : Prop := ∀ q, Value.ref q ∈ l → D q = true ∨ 5000 ≤ q
def zFo (D : Nat → Bool) (S : zSt) (q : Option Value × zSt) : Prop := zRf D q.1.toList ∧ q.2.1 = S.1 ∧ ∀ i, D i = false → q.2.2.2.2.1 i = S.2.2.2.1 i ∧ q.2.2.2.2.2 i = S.2.2.2.2 i
section ZFR
variable {D : Nat → Bool}
theorem zRf_nil : zRf D [] := fun q hq => by cases hq
theorem zRf_i {x : Int32} {l : List Value} (h : zRf D l) : zRf D (.int x :: l) := fun q hq => by
  rcases List.mem_cons.mp hq with e | e
  · cases e
  · exact h q e
theorem zRf_l {x : Int64} {l : List Value} (h : zRf D l) : zRf D (.long x :: l) := fun q hq => by
  rcases List.mem_cons.mp hq with e | e
  · cases e
  · exact h q e
theorem zRf_r {p : Nat} {l : List Value} (hp : D p = true ∨ 5000 ≤ p) (h : zRf D l) : zRf D (.ref p :: l) := fun q hq => by
  rcases List.mem_cons.mp hq with e | e
  · cases e; exact hp
  · exact h q e
theorem zRf_t {v : Value} {l : List Value} (h : zRf D (v :: l)) : zRf D l := fun q hq => h q (List.mem_cons_of_mem _ hq)
theorem zRf_h {p : Nat} {l : List Value} (h : zRf D (.ref p :: l)) : D p = true ∨ 5000 ≤ p := h p List.mem_cons_self
theorem zRf_g {ls : List Value} {i p : Nat} (h : zRf D ls) (e : ls[i]? = some (.ref p)) : D p = true ∨ 5000 ≤ p := h p (List.mem_of_getElem? e)
theorem zRf_set {ls : List Value} {i : Nat} {v : Value} (h : zRf D ls) (hv : zRf D [v]) : zRf D (ls.set i v) := fun q hq => by
  rcases List.mem_or_eq_of_mem_set hq with e | e
  · exact h q e
  · exact hv q (by rw [e]; exact List.mem_cons_self)
theorem zRf_n {l : List Value} (h : zRf D l) : zRf D (.null :: l) := fun q hq => by
  rcases List.mem_cons.mp hq with e | e
  · cases e
  · exact h q e
theorem zRf_st {ls : List Value} {i : Nat} {v : Value} (h : zRf D ls) (hv : zRf D [v]) : zRf D (zst ls i v) := by
  cases i with
  | zero => exact zRf_set h hv
  | succ j =>
    unfold zst
    simp only
    split
    · exact zRf_set (zRf_set h (zRf_n zRf_nil)) hv
    · exact zRf_set (zRf_set h (zRf_n zRf_nil)) hv
    · exact zRf_set h hv
theorem zRf_st2 {ls : List Value} {i : Nat} {v : Value} (h : zRf D ls) (hv : zRf D [v]) : zRf D (zst2 ls i v) := zRf_set (zRf_st h hv) (zRf_n zRf_nil)
theorem zRf_app {a b : List Value} (ha : zRf D a) (hb : zRf D b) : zRf D (a ++ b) := fun q hq => by
  rcases List.mem_append.mp hq with e | e
  · exact ha q e
  · exact hb q e
theorem zRf_pop : ∀ {k : Nat} {st acc As rest : List Value}, zRf D st → zRf D acc → zpop k st acc = some (As, rest) → zRf D As ∧ zRf D rest
  | 0, st, acc, As, rest, h1, h2, h => by
    simp only [zpop, Option.some.injEq, Prod.mk.injEq] at h
    rw [← h.1, ← h.2]
    exact ⟨h2, h1⟩
  | k + 1, [], acc, As, rest, h1, h2, h => by simp only [zpop] at h; cases h
  | k + 1, v :: st, acc, As, rest, h1, h2, h => by
    simp only [zpop] at h
    refine zRf_pop (zRf_t h1) (fun q hq => ?_) h
    rcases List.mem_cons.mp hq with e | e
    · exact h1 q (by rw [e]; exact List.mem_cons_self)
    · exact h2 q e
theorem zFo_tr {S S1 : zSt} {q : Option Value × zSt} (h : zFo D S1 q) (h1 : S1.1 = S.1) (h2 : ∀ i, D i = false → S1.2.2.2.1 i = S.2.2.2.1 i ∧ S1.2.2.2.2 i = S.2.2.2.2 i) : zFo D S q := by
  refine ⟨h.1, h.2.1.trans h1, fun i hi => ?_⟩
  obtain ⟨a1, a2⟩ := h.2.2 i hi
  obtain ⟨b1, b2⟩ := h2 i hi
  exact ⟨a1.trans b1, a2.trans b2⟩
variable {q : Option Value × zSt} {X : Nat × (Nat → Int32)} {P : Prop}
theorem zgf_f {S : zSt} {i a b : Nat} {k : Value → zRes} (hD : ∀ i ci ks, D i = true → zlay i = some (ci, ks) → ∀ (b j : Nat), (ks[b]? = some (j + 3) → ci < 13 → D j = true) ∧ (ks[b]? = some j → ci = 101 → D j = true)) (ha : a < 13) (hi : D i = true ∨ 5000 ≤ i) (hS : S.1 = 212) (hk : ∀ v, zRf D [v] → k v = some q → P) (h : zgfK S i a b k = some q) : P := by
  unfold zgfK at h
  split at h
  next ci ks hl =>
    split at h
    next hc =>
      have hDi : D i = true := hi.resolve_right (by rw [hS] at hc; omega)
      split at h
      next => exact hk _ (zRf_i zRf_nil) h
      next => exact hk _ (zRf_i zRf_nil) h
      next => exact hk _ (zRf_l zRf_nil) h
      next j hb =>
        split at h
        next => cases h
        next => exact hk _ (zRf_r (Or.inl (((hD i ci ks hDi hl) b j).1 hb (by omega))) zRf_nil) h
      next => cases h
    next => cases h
  next => cases h
theorem zpf_f {S : zSt} {i a b : Nat} {v : Value} {k : zSt → zRes} (hi : D i = true ∨ 5000 ≤ i) (hS : S.1 = 212) (hk : ∀ S1, S1.1 = 212 → k S1 = some q → zFo D S1 q) (h : zpfK S i a b v k = some q) : zFo D S q := by
  unfold zpfK at h
  split at h
  next ci ks hl =>
    split at h
    next hc =>
      have hDi : D i = true := hi.resolve_right (by rw [hS] at hc; omega)
      have hne : ∀ j, D j = false → ¬ j = i := fun j hj e => by rw [e, hDi] at hj; cases hj
      split at h
      next =>
        split at h
        next => have z := hk _ (by exact hS) h; exact zFo_tr z (by rfl) (fun j hj => ⟨zi_ne (hne j hj), rfl⟩)
        next => cases h
      next =>
        split at h
        next =>
          split at h
          next => have z := hk _ (by exact hS) h; exact zFo_tr z (by rfl) (fun j hj => ⟨zi_ne (hne j hj), rfl⟩)
          next => cases h
        next => cases h
      next =>
        split at h
        next => have z := hk _ (by exact hS) h; exact zFo_tr z (by rfl) (fun j hj => ⟨rfl, zj_ne (hne j hj)⟩)
        next => cases h
      next =>
        split at h
        next =>
          split at h
          next => have z := hk _ (by exact hS) h; exact zFo_tr z (by rfl) (fun j hj => ⟨rfl, rfl⟩)
          next => cases h
        next => cases h
      next => cases h
    next => cases h
  next => cases h
theorem zas_f {S : zSt} {i : Nat} {x v : Int32} {k : zSt → zRes} (hi : D i = true ∨ 5000 ≤ i) (hS : S.1 = 212) (hk : ∀ S1, S1.1 = 212 → k S1 = some q → zFo D S1 q) (h : zasK S i x v k = some q) : zFo D S q := by
  unfold zasK at h
  split at h
  next ci ks hl =>
    split at h
    next hc =>
      have hDi : D i = true := hi.resolve_right (by rw [hS] at hc; omega)
      have hne : ∀ j, D j = false → ¬ j = i := fun j hj e => by rw [e, hDi] at hj; cases hj
      split at h
      next => cases h
      next => have z := hk _ (by exact hS) h; exact zFo_tr z (by rfl) (fun j hj => ⟨zi_ne (hne j hj), rfl⟩)
    next => cases h
  next => cases h
theorem zal_f {S : zSt} {i : Nat} {x : Int32} {k : Int32 → zRes} (hk : ∀ v, k v = some q → P) (h : zalK X S i x k = some q) : P := by
  unfold zalK at h
  split at h
  next =>
    split at h
    next => cases h
    next => exact hk _ h
  next =>
    split at h
    next =>
      split at h
      next =>
        split at h
        next => cases h
        next => exact hk _ h
      next => cases h
    next => cases h
theorem zln_f {S : zSt} {i : Nat} {k : Int32 → zRes} (hk : ∀ v, k v = some q → P) (h : zlnK X S i k = some q) : P := by
  unfold zlnK at h
  split at h
  next => exact hk _ h
  next =>
    split at h
    next =>
      split at h
      next => exact hk _ h
      next =>
        split at h
        next => exact hk _ h
        next => cases h
    next => cases h
theorem zaa_f {S : zSt} {i : Nat} {x : Int32} {k : Nat → zRes} (hD : ∀ i ci ks, D i = true → zlay i = some (ci, ks) → ∀ (b j : Nat), (ks[b]? = some (j + 3) → ci < 13 → D j = true) ∧ (ks[b]? = some j → ci = 101 → D j = true)) (hi : D i = true ∨ 5000 ≤ i) (hS : S.1 = 212) (hk : ∀ v, D v = true → k v = some q → P) (h : zaaK S i x k = some q) : P := by
  unfold zaaK at h
  split at h
  next ci ks hl =>
    split at h
    next hc =>
      have hDi : D i = true := hi.resolve_right (by rw [hS] at hc; omega)
      split at h
      next => cases h
      next =>
        split at h
        next => cases h
        next =>
          split at h
          next j hj => exact hk _ (((hD i ci ks hDi hl) _ j).2 hj hc.1) h
          next => cases h
    next => cases h
  next => cases h
theorem zra_f {S : zSt} {i p : Nat} {x : Int32} {k : zSt → zRes} (hS : S.1 = 212) (hk : ∀ S1, S1.1 = 212 → k S1 = some q → zFo D S1 q) (h : zraK S i x p k = some q) : zFo D S q := by
  unfold zraK at h
  split at h
  next =>
    split at h
    next =>
      split at h
      next => cases h
      next =>
        split at h
        next =>
          split at h
          next => have z := hk _ (by exact hS) h; exact zFo_tr z (by rfl) (fun j hj => ⟨rfl, rfl⟩)
          next => cases h
        next => cases h
    next => cases h
  next => cases h
theorem zcp_f {S : zSt} {i j : Nat} {sp dp n : Int32} {k : zSt → zRes} (hj : D j = true ∨ 5000 ≤ j) (hS : S.1 = 212) (hk : ∀ S1, S1.1 = 212 → k S1 = some q → zFo D S1 q) (h : zcpK S i sp j dp n k = some q) : zFo D S q := by
  unfold zcpK at h
  split at h
  next =>
    split at h
    next hc =>
      have hDi : D j = true := hj.resolve_right (by rw [hS] at hc; omega)
      have hne : ∀ p, D p = false → ¬ p = j := fun p hp e => by rw [e, hDi] at hp; cases hp
      split at h
      next => have z := hk _ (by exact hS) h; exact zFo_tr z (by rfl) (fun p hp => ⟨zr_ne (hne p hp), rfl⟩)
      next => cases h
    next => cases h
  next => cases h
theorem zlay_212 : zlay 212 = none := by decide
theorem znw_f {S : zSt} {C : Nat} {k : zSt → zRes} (hS : S.1 = 212) (h : znwK S C k = some q) : P := by
  unfold znwK at h
  rw [hS, zlay_212] at h
  cases h
theorem zna_f {S : zSt} {n : Int32} {k : zSt → zRes} (hS : S.1 = 212) (h : znaK S n k = some q) : P := by
  unfold znaK at h
  rw [hS, zlay_212] at h
  cases h
theorem zqa_f {S : zSt} {n : Int32} {k : zSt → zRes} (hS : S.1 = 212) (h : zqaK S n k = some q) : P := by
  unfold zqaK at h
  rw [hS, zlay_212] at h
  cases h
theorem zcl_f {cf : Nat → List Value → zSt → zRes} {ck : List Value → Bool} {a b : Nat} {ls st : List Value} {S : zSt} {k : List Value → zSt → zRes} (hcf : ∀ a As S q, S.1 = 212 → zRf D As → cf a As S = some q → zFo D S q) (hS : S.1 = 212) (hst : zRf D st) (hk : ∀ st1 S1, S1.1 = 212 → zRf D st1 → k st1 S1 = some q → zFo D S1 q) (h : zcall cf ck a b ls st S k = some q) : zFo D S q := by
  unfold zcall at h
  split at h
  next => cases h
  next As rest hp =>
    obtain ⟨r1, r2⟩ := zRf_pop hst zRf_nil hp
    split at h
    next =>
      split at h
      next => cases h
      next r S1 hr =>
        have hf := hcf a As S (r, S1) hS r1 hr
        split at h
        next => exact zFo_tr (hk _ _ (hf.2.1.trans hS) (zRf_app hf.1 r2) h) hf.2.1 hf.2.2
        next => cases h
    next => cases h
/-- strings are the only constants that are references -/
def zldI (e : zI) : Bool := match e with
  | (.ldc _, a, b) => decide (b = 0) || decide (5000 ≤ a)
  | (.getfield _, a, _) => decide (a < 13)
  | _ => true
def zldM (M : zMe) : Bool := M.2.2.2.2.2.all (fun c => c.all (fun o => match o with
  | some e => zldI e
  | none => true))
theorem zld_all : zPt.all (fun c => c.all (fun o => match o with
  | some M => zldM M
  | none => true)) = true := by decide +kernel
theorem zP_ld {a : Nat} {M : zMe} (h : zP a = some M) : zldM M = true := by
  refine zlk_all (P := fun q => zldM q = true) (l := zPt) (fun c hc o ho x hx => ?_) h
  have h1 := List.all_eq_true.mp (List.all_eq_true.mp zld_all c hc) o ho
  rw [hx] at h1
  exact h1
theorem zld_at {M : zMe} (hM : zldM M = true) {pc : Nat} {e : zI} (h : zlk M.2.2.2.2.2 pc = some e) : zldI e = true := by
  refine zlk_all (P := fun e : zI => zldI e = true) (l := M.2.2.2.2.2) (fun c hc o ho x hx => ?_) h
  have h1 := List.all_eq_true.mp (List.all_eq_true.mp hM c hc) o ho
  rw [hx] at h1
  exact h1
set_option maxHeartbeats 4000000 in
set_option maxRecDepth 100000 in
theorem zfrm {cf : Nat → List Value → zSt → zRes} {M : zMe} (hM : zldM M = true) (hD : ∀ i ci ks, D i = true → zlay i = some (ci, ks) → ∀ (b j : Nat), (ks[b]? = some (j + 3) → ci < 13 → D j = true) ∧ (ks[b]? = some j → ci = 101 → D j = true)) (hcf : ∀ a As S q, S.1 = 212 → zRf D As → cf a As S = some q → zFo D S q) :
    ∀ (n pc : Nat) (ls st : List Value) (S : zSt), S.1 = 212 → zRf D ls → zRf D st → zstp X cf M n pc ls st S = some q → zFo D S q := by
  intro n
  induction n with
  | zero => intro pc ls st S hS hl hst h; cases h
  | succ n ih =>
    intro pc ls st S hS hl hst h
    have ih0 := fun pc st h1 => ih pc ls st S hS hl h1
    simp only [zstp] at h
    split at h
    next => cases h
    next ins a b hk =>
    have hld := zld_at hM hk
    cases ins
    case aload i => simp only at h; split at h <;> first | (next e => exact ih0 _ _ (zRf_r (zRf_g hl e) hst) h) | (cases h; done)
    case aload_n i => simp only at h; split at h <;> first | (next e => exact ih0 _ _ (zRf_r (zRf_g hl e) hst) h) | (cases h; done)
    case iload i => simp only at h; split at h <;> first | exact ih0 _ _ (zRf_i hst) h | (cases h; done)
    case iload_n i => simp only at h; split at h <;> first | exact ih0 _ _ (zRf_i hst) h | (cases h; done)
    case lload i => simp only at h; split at h <;> first | exact ih0 _ _ (zRf_l hst) h | (cases h; done)
    case lload_n i => simp only at h; split at h <;> first | exact ih0 _ _ (zRf_l hst) h | (cases h; done)
    case iinc i dd => simp only at h; split at h <;> first | exact ih _ _ _ _ hS (zRf_st hl (zRf_i zRf_nil)) hst h | (cases h; done)
    case astore i => simp only at h; split at h <;> first | exact ih _ _ _ _ hS (zRf_st hl (zRf_r (zRf_h hst) zRf_nil)) (zRf_t hst) h | (cases h; done)
    case astore_n i => simp only at h; split at h <;> first | exact ih _ _ _ _ hS (zRf_st hl (zRf_r (zRf_h hst) zRf_nil)) (zRf_t hst) h | (cases h; done)
    case istore i => simp only at h; split at h <;> first | exact ih _ _ _ _ hS (zRf_st hl (zRf_i zRf_nil)) (zRf_t hst) h | (cases h; done)
    case istore_n i => simp only at h; split at h <;> first | exact ih _ _ _ _ hS (zRf_st hl (zRf_i zRf_nil)) (zRf_t hst) h | (cases h; done)
    case lstore i => simp only at h; split at h <;> first | exact ih _ _ _ _ hS (zRf_st2 hl (zRf_l zRf_nil)) (zRf_t hst) h | (cases h; done)
    case lstore_n i => simp only at h; split at h <;> first | exact ih _ _ _ _ hS (zRf_st2 hl (zRf_l zRf_nil)) (zRf_t hst) h | (cases h; done)
    case ldc i =>
      simp only [zldI] at h hld
      split at h
      · exact ih0 _ _ (zRf_i hst) h
      · next hb =>
        rw [decide_eq_false hb, Bool.false_or] at hld
        exact ih0 _ _ (zRf_r (Or.inr (of_decide_eq_true hld)) hst) h
    case iaload =>
      simp only at h
      split at h
      · exact zal_f (fun v => ih0 _ _ (zRf_i (zRf_t (zRf_t hst)))) h
      · cases h
    case iastore =>
      simp only at h
      split at h
      · exact zas_f (zRf_h (zRf_t (zRf_t hst))) hS (fun S1 h1 => ih _ _ _ S1 h1 hl (zRf_t (zRf_t (zRf_t hst)))) h
      · cases h
    case aaload =>
      simp only at h
      split at h
      · exact zaa_f hD (zRf_h (zRf_t hst)) hS (fun v hv => ih0 _ _ (zRf_r (Or.inl hv) (zRf_t (zRf_t hst)))) h
      · cases h
    case aastore =>
      simp only at h
      split at h
      · exact zra_f hS (fun S1 h1 => ih _ _ _ S1 h1 hl (zRf_t (zRf_t (zRf_t hst)))) h
      · cases h
    case arraylength =>
      simp only at h
      split at h
      · exact zln_f (fun v => ih0 _ _ (zRf_i (zRf_t hst))) h
      · cases h
    case getfield i =>
      simp only [zldI] at h hld
      split at h
      · exact zgf_f hD (of_decide_eq_true hld) (zRf_h hst) hS (fun v hv => ih0 _ _ (fun p hp => by
          rcases List.mem_cons.mp hp with e | e
          · exact hv p (by rw [e]; exact List.mem_cons_self)
          · exact zRf_t hst p e)) h
      · cases h
    case putfield i =>
      simp only at h
      split at h
      · exact zpf_f (zRf_h (zRf_t hst)) hS (fun S1 h1 => ih _ _ _ S1 h1 hl (zRf_t (zRf_t hst))) h
      · cases h
    case new i =>
      simp only at h
      split at h
      · exact znw_f hS h
      · cases h
    case newarray i =>
      simp only at h
      split at h
      · split at h
        · exact zna_f hS h
        · cases h
      · cases h
    case anewarray i =>
      simp only at h
      split at h
      · split at h
        · exact zqa_f hS h
        · cases h
      · cases h
    case invokevirtual i => exact zcl_f hcf hS hst (fun st1 S1 h1 h2 => ih _ _ _ S1 h1 hl h2) h
    case invokestatic i =>
      simp only at h
      split at h
      · split at h
        · split at h
          · exact zcp_f (zRf_h (zRf_t (zRf_t hst))) hS (fun S1 h1 => ih _ _ _ S1 h1 hl (zRf_t (zRf_t (zRf_t (zRf_t (zRf_t hst)))))) h
          · cases h
        · cases h
      · exact zcl_f hcf hS hst (fun st1 S1 h1 h2 => ih _ _ _ S1 h1 hl h2) h
    case invokespecial i =>
      simp only at h
      split at h
      · split at h
        · split at h
          · exact ih0 _ _ (zRf_t hst) h
          · cases h
        · cases h
      · exact zcl_f hcf hS hst (fun st1 S1 h1 h2 => ih _ _ _ S1 h1 hl h2) h
    case ireturn =>
      simp only at h
      split at h
      · split at h
        · split at h
          · cases h; exact ⟨zRf_i zRf_nil, rfl, fun i hi => ⟨rfl, rfl⟩⟩
          · cases h
        · cases h; exact ⟨zRf_i zRf_nil, rfl, fun i hi => ⟨rfl, rfl⟩⟩
        · cases h
      · cases h
    case return_ =>
      simp only at h
      split at h
      · split at h
        · cases h; exact ⟨zRf_nil, rfl, fun i hi => ⟨rfl, rfl⟩⟩
        · cases h
      · cases h
    case if_icmp cc off =>
      simp only at h
      split at h
      · cases cc <;> simp only at h <;> split at h <;> exact ih0 _ _ (zRf_t (zRf_t hst)) h
      · cases h
    case ifCond cc off =>
      simp only at h
      split at h
      · cases cc <;> simp only at h <;> split at h <;> exact ih0 _ _ (zRf_t hst) h
      · cases h
    case tableswitch dd lo hi offs =>
      simp only at h
      split at h
      · split at h
        · split at h
          · exact ih0 _ _ (zRf_t hst) h
          · cases h
        · split at h
          · split at h
            · exact ih0 _ _ (zRf_t hst) h
            · cases h
          · cases h
      · cases h
    case lookupswitch dd ps =>
      simp only at h
      split at h
      · split at h
        · exact ih0 _ _ (zRf_t hst) h
        · cases h
      · cases h
    case idiv =>
      simp only at h
      split at h
      · split at h
        · cases h
        · exact ih0 _ _ (zRf_i (zRf_t (zRf_t hst))) h
      · cases h
    case irem =>
      simp only at h
      split at h
      · split at h
        · cases h
        · exact ih0 _ _ (zRf_i (zRf_t (zRf_t hst))) h
      · cases h
    case dup =>
      simp only at h
      split at h
      · exact ih0 _ _ (zRf_i hst) h
      · exact ih0 _ _ (zRf_r (zRf_h hst) hst) h
      · cases h
    case dup2 =>
      simp only at h
      split at h
      · exact ih0 _ _ (zRf_i (zRf_r (zRf_h (zRf_t hst)) hst)) h
      · cases h
    case pop =>
      simp only at h
      split at h
      · exact ih0 _ _ (zRf_t hst) h
      · cases h
    case goto o => exact ih0 _ _ hst h
    all_goals simp only at h
    all_goals first
      | (cases h; done)
      | exact ih0 _ _ (zRf_i hst) h
      | exact ih0 _ _ (zRf_l hst) h
      | (split at h <;> first
          | (cases h; done)
          | exact ih0 _ _ (zRf_i (zRf_t (zRf_t hst))) h
          | exact ih0 _ _ (zRf_l (zRf_t (zRf_t hst))) h
          | exact ih0 _ _ (zRf_i (zRf_t hst)) h)
theorem zRf_ini : ∀ {l : List Value}, zRf D l → zRf D (zini l)
  | [], _ => zRf_nil
  | v :: t, h => by
    have ht := zRf_ini (zRf_t h)
    have nv : ∀ {v : Value} {l : List Value}, (∀ q, ¬ v = .ref q) → zRf D l → zRf D (v :: l) := fun hv hl q hq => by
      rcases List.mem_cons.mp hq with e | e
      · exact absurd e.symm (hv q)
      · exact hl q e
    cases v with
    | ref p => exact zRf_r (zRf_h h) ht
    | int x => exact zRf_i ht
    | long x => exact zRf_l (zRf_n ht)
    | double x => exact nv (fun q z => by cases z) (zRf_n ht)
    | float x => exact nv (fun q z => by cases z) ht
    | null => exact zRf_n ht
    | retAddr x => exact nv (fun q z => by cases z) ht
theorem zstr_f {a : Nat} {As : List Value} {v : Value} (h : zstr a As = some v) : zRf D [v] := by
  unfold zstr at h
  split at h
  · split at h
    · cases h; exact zRf_i zRf_nil
    · cases h
  · split at h
    · split at h
      · cases h
      · cases h; exact zRf_i zRf_nil
    · split at h
      · cases h; exact zRf_i zRf_nil
      · cases h
  · cases h
/-- what a call leaves alone -/
theorem zrun_frm (hD : ∀ i ci ks, D i = true → zlay i = some (ci, ks) → ∀ (b j : Nat), (ks[b]? = some (j + 3) → ci < 13 → D j = true) ∧ (ks[b]? = some j → ci = 101 → D j = true)) : ∀ (d n a : Nat) (As : List Value) (S : zSt) (q : Option Value × zSt), S.1 = 212 → zRf D As → zrun X d n a As S = some q → zFo D S q := by
  intro d
  induction d with
  | zero => intro n a As S q hS hA h; cases h
  | succ d ih =>
    intro n a As S q hS hA h
    simp only [zrun] at h
    split at h
    next =>
      split at h
      next v hv =>
        cases h
        exact ⟨zstr_f hv, rfl, fun i hi => ⟨rfl, rfl⟩⟩
      next => cases h
    next =>
      split at h
      next => cases h
      next =>
        split at h
        next => cases h
        next M hM =>
          split at h
          next => exact zfrm (zP_ld hM) hD (fun a As S q h1 h2 h3 => ih n a As S q h1 h2 h3) n _ _ _ S hS (zRf_app (zRf_ini hA) (fun q hq => by rw [List.mem_replicate] at hq; cases hq.2)) zRf_nil h
          next => cases h
end ZFR

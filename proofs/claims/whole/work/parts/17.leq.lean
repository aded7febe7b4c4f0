/-! fewer known locals, the same answer -/
def zle (ls' ls : List Value) : Prop := ls'.length = ls.length ∧ ∀ i : Nat, ls'[i]? = ls[i]? ∨ (ls'[i]? = some .null ∧ ∃ x, ls[i]? = some (.int x))
theorem zle_get {ls' ls : List Value} (h : zle ls' ls) {i : Nat} {v : Value} (hv : ls'[i]? = some v) (hn : v ≠ .null) : ls[i]? = some v := by
  rcases h.2 i with e | ⟨e, -⟩
  · rw [← e]; exact hv
  · rw [hv] at e
    exact absurd (Option.some.inj e) hn
theorem zle_set {ls' ls : List Value} (h : zle ls' ls) (i : Nat) (v : Value) : zle (ls'.set i v) (ls.set i v) := by
  refine ⟨by simp [h.1], fun j => ?_⟩
  by_cases hj : i = j
  · subst hj
    left
    by_cases hl : i < ls'.length
    · rw [List.getElem?_set_self hl, List.getElem?_set_self (by rw [← h.1]; exact hl)]
    · rw [List.getElem?_eq_none (by simp; omega), List.getElem?_eq_none (by simp; rw [← h.1]; omega)]
  · rw [List.getElem?_set_ne hj, List.getElem?_set_ne hj]
    exact h.2 j
theorem zle_st {ls' ls : List Value} (h : zle ls' ls) (i : Nat) (v : Value) : zle (zst ls' i v) (zst ls i v) := by
  cases i with
  | zero => exact zle_set h 0 v
  | succ j =>
    unfold zst
    simp only
    rcases h.2 j with e | ⟨e, x, e2⟩
    · rw [e]
      split
      · exact zle_set (zle_set h j .null) (j + 1) v
      · exact zle_set (zle_set h j .null) (j + 1) v
      · exact zle_set h (j + 1) v
    · rw [e, e2]
      exact zle_set h (j + 1) v
theorem zle_st2 {ls' ls : List Value} (h : zle ls' ls) (i : Nat) (v : Value) : zle (zst2 ls' i v) (zst2 ls i v) := zle_set (zle_st h i v) (i + 1) .null
theorem zok_iff {n : Nat} : ∀ (l : List Value), zok n l = true ↔ ∀ q, Value.ref q ∈ l → q < n ∨ 5000 ≤ q
  | [] => by simp [zok]
  | v :: t => by
    have ih := zok_iff (n := n) t
    cases v with
    | ref q =>
      simp only [zok, Bool.and_eq_true, Bool.or_eq_true, decide_eq_true_eq, ih]
      constructor
      · rintro ⟨h1, h2⟩ p hp
        rcases List.mem_cons.mp hp with e | e
        · cases e; exact h1
        · exact h2 p e
      · intro h
        exact ⟨h q List.mem_cons_self, fun p hp => h p (List.mem_cons_of_mem _ hp)⟩
    | _ =>
      simp only [zok, ih]
      constructor
      · intro h p hp
        rcases List.mem_cons.mp hp with e | e
        · cases e
        · exact h p e
      · intro h p hp
        exact h p (List.mem_cons_of_mem _ hp)
theorem zle_ok {ls' ls : List Value} (h : zle ls' ls) {n : Nat} (hz : zok n ls' = true) : zok n ls = true := by
  rw [zok_iff] at hz ⊢
  intro q hq
  obtain ⟨i, hi⟩ := List.getElem?_of_mem hq
  rcases h.2 i with e | ⟨-, x, e2⟩
  · exact hz q (List.mem_of_getElem? (e.trans hi))
  · rw [hi] at e2; cases e2
section ZF
variable {X : Nat × (Nat → Int32)} {q : Option Value × zSt}
theorem zcall_le {cf : Nat → List Value → zSt → zRes} {ck : List Value → Bool} {a b : Nat} {ls ls' st : List Value} {S : zSt} {k k' : List Value → zSt → zRes} (hl : zle ls' ls) (hk : ∀ v S, k v S = some q → k' v S = some q) (h : zcall cf ck a b ls' st S k = some q) : zcall cf ck a b ls st S k' = some q := by
  unfold zcall at h ⊢
  split at h
  next => cases h
  next As rest hp =>
    split at h
    next hc =>
      rw [if_pos hc]
      split at h
      next => cases h
      next r S1 hr =>
        split at h
        next hd =>
          rw [if_pos (by rcases hd with z | z
                         · exact Or.inl z
                         · exact Or.inr ⟨zle_ok hl z.1, z.2⟩)]
          exact hk _ _ h
        next => cases h
    next => cases h
set_option maxHeartbeats 4000000 in
set_option maxRecDepth 100000 in
theorem zleq {cf : Nat → List Value → zSt → zRes} {M : zMe} :
    ∀ (n : Nat) (pc : Nat) (ls' ls st : List Value) (S : zSt), zle ls' ls → zstp X cf M n pc ls' st S = some q → zstp X cf M n pc ls st S = some q := by
  intro n
  induction n with
  | zero => intro pc ls' ls st S hl h; cases h
  | succ n ih =>
    intro pc ls' ls st S hl h
    have ih0 := fun pc st S => ih pc ls' ls st S hl
    simp only [zstp] at h ⊢
    split at h
    next => cases h
    next ins a b hk =>
    cases ins
    case aload i => simp only at h ⊢; split at h <;> first | (next e => rw [zle_get hl e (fun z => by cases z)]; exact ih0 _ _ _ h) | (cases h; done)
    case iload i => simp only at h ⊢; split at h <;> first | (next e => rw [zle_get hl e (fun z => by cases z)]; exact ih0 _ _ _ h) | (cases h; done)
    case lload i => simp only at h ⊢; split at h <;> first | (next e => rw [zle_get hl e (fun z => by cases z)]; exact ih0 _ _ _ h) | (cases h; done)
    case aload_n i => simp only at h ⊢; split at h <;> first | (next e => rw [zle_get hl e (fun z => by cases z)]; exact ih0 _ _ _ h) | (cases h; done)
    case iload_n i => simp only at h ⊢; split at h <;> first | (next e => rw [zle_get hl e (fun z => by cases z)]; exact ih0 _ _ _ h) | (cases h; done)
    case lload_n i => simp only at h ⊢; split at h <;> first | (next e => rw [zle_get hl e (fun z => by cases z)]; exact ih0 _ _ _ h) | (cases h; done)
    case iinc i dd => simp only at h ⊢; split at h <;> first | (next e => rw [zle_get hl e (fun z => by cases z)]; exact ih _ _ _ _ _ (zle_st hl _ _) h) | (cases h; done)
    case astore i => simp only at h ⊢; split at h <;> first | exact ih _ _ _ _ _ (zle_st hl _ _) h | (cases h; done)
    case istore i => simp only at h ⊢; split at h <;> first | exact ih _ _ _ _ _ (zle_st hl _ _) h | (cases h; done)
    case astore_n i => simp only at h ⊢; split at h <;> first | exact ih _ _ _ _ _ (zle_st hl _ _) h | (cases h; done)
    case istore_n i => simp only at h ⊢; split at h <;> first | exact ih _ _ _ _ _ (zle_st hl _ _) h | (cases h; done)
    case lstore i => simp only at h ⊢; split at h <;> first | exact ih _ _ _ _ _ (zle_st2 hl _ _) h | (cases h; done)
    case lstore_n i => simp only at h ⊢; split at h <;> first | exact ih _ _ _ _ _ (zle_st2 hl _ _) h | (cases h; done)
    case iaload =>
      simp only at h ⊢
      split at h
      · exact zalK_m (fun v => ih0 _ _ _) h
      · cases h
    case iastore =>
      simp only at h ⊢
      split at h
      · exact zasK_m (fun v => ih0 _ _ _) h
      · cases h
    case aaload =>
      simp only at h ⊢
      split at h
      · exact zaaK_m (fun v => ih0 _ _ _) h
      · cases h
    case aastore =>
      simp only at h ⊢
      split at h
      · exact zraK_m (fun v => ih0 _ _ _) h
      · cases h
    case arraylength =>
      simp only at h ⊢
      split at h
      · exact zlnK_m (fun v => ih0 _ _ _) h
      · cases h
    case getfield i =>
      simp only at h ⊢
      split at h
      · exact zgfK_m (fun v => ih0 _ _ _) h
      · cases h
    case putfield i =>
      simp only at h ⊢
      split at h
      · exact zpfK_m (fun v => ih0 _ _ _) h
      · cases h
    case new i =>
      simp only at h ⊢
      split at h
      · next hc => rw [if_pos ⟨zle_ok hl hc.1, hc.2⟩]; exact znwK_m (fun v => ih0 _ _ _) h
      · cases h
    case newarray i =>
      simp only at h ⊢
      split at h
      · split at h
        · next hc => rw [if_pos ⟨zle_ok hl hc.1, hc.2⟩]; exact znaK_m (fun v => ih0 _ _ _) h
        · cases h
      · cases h
    case anewarray i =>
      simp only at h ⊢
      split at h
      · split at h
        · next hc => rw [if_pos ⟨zle_ok hl hc.1, hc.2⟩]; exact zqaK_m (fun v => ih0 _ _ _) h
        · cases h
      · cases h
    case invokevirtual i => exact zcall_le hl (fun v S => ih0 _ _ _) h
    case invokestatic i =>
      simp only at h ⊢
      split at h
      · next h99 =>
        rw [if_pos h99]
        split at h
        · split at h
          · next hc => rw [if_pos hc]; exact zcpK_m (fun v => ih0 _ _ _) h
          · cases h
        · cases h
      · next h99 => rw [if_neg h99]; exact zcall_le hl (fun v S => ih0 _ _ _) h
    case invokespecial i =>
      simp only at h ⊢
      split at h
      · next h99 =>
        rw [if_pos h99]
        split at h
        · split at h
          · next hc => rw [if_pos hc]; exact ih0 _ _ _ h
          · cases h
        · cases h
      · next h99 => rw [if_neg h99]; exact zcall_le hl (fun v S => ih0 _ _ _) h
    case ireturn => exact h
    case return_ => exact h
    case if_icmp cc off =>
      simp only at h ⊢
      split at h
      · cases cc <;> simp only at h ⊢ <;> split at h <;> (first | (next hc => rw [if_pos hc]; exact ih0 _ _ _ h) | (next hc => rw [if_neg hc]; exact ih0 _ _ _ h))
      · cases h
    case ifCond cc off =>
      simp only at h ⊢
      split at h
      · cases cc <;> simp only at h ⊢ <;> split at h <;> (first | (next hc => rw [if_pos hc]; exact ih0 _ _ _ h) | (next hc => rw [if_neg hc]; exact ih0 _ _ _ h))
      · cases h
    case tableswitch dd lo hi offs =>
      simp only at h ⊢
      split at h
      · split at h
        · next hc =>
          rw [if_pos hc]
          split at h
          · next hd => rw [if_pos hd]; exact ih0 _ _ _ h
          · cases h
        · next hc =>
          rw [if_neg hc]
          split at h
          · split at h
            · next hd => rw [if_pos hd]; exact ih0 _ _ _ h
            · cases h
          · cases h
      · cases h
    case lookupswitch dd ps =>
      simp only at h ⊢
      split at h
      · split at h
        · next hd => rw [if_pos hd]; exact ih0 _ _ _ h
        · cases h
      · cases h
    case idiv =>
      simp only at h ⊢
      split at h
      · split at h
        · cases h
        · next hd => rw [if_neg hd]; exact ih0 _ _ _ h
      · cases h
    case irem =>
      simp only at h ⊢
      split at h
      · split at h
        · cases h
        · next hd => rw [if_neg hd]; exact ih0 _ _ _ h
      · cases h
    case ldc i =>
      simp only at h ⊢
      split at h
      · next hd => rw [if_pos hd]; exact ih0 _ _ _ h
      · next hd => rw [if_neg hd]; exact ih0 _ _ _ h
    all_goals simp only at h ⊢
    all_goals first
      | exact ih0 _ _ _ h
      | (cases h; done)
      | (split at h <;> first
          | exact ih0 _ _ _ h
          | (cases h; done))
end ZF
/-- places of ints that aren't asked any more become unknown -/
def znz : List Nat → List Value → List Value
  | [], ls => ls
  | i :: t, ls => znz t (match ls[i]? with
    | some (.int _) => ls.set i .null
    | _ => ls)
theorem zle_rf (ls : List Value) : zle ls ls := ⟨rfl, fun _ => Or.inl rfl⟩
theorem zle_tr {a b c : List Value} (h : zle a b) (k : zle b c) : zle a c := by
  refine ⟨h.1.trans k.1, fun i => ?_⟩
  rcases h.2 i with e | ⟨e, x, e2⟩
  · rw [e]; exact k.2 i
  · refine Or.inr ⟨e, x, ?_⟩
    rcases k.2 i with e3 | ⟨e3, -⟩
    · rw [← e3]; exact e2
    · rw [e2] at e3; cases e3
theorem znz_le : ∀ (l : List Nat) (ls : List Value), zle (znz l ls) ls
  | [], ls => zle_rf ls
  | i :: t, ls => by
    refine zle_tr (znz_le t _) ?_
    split
    next x hx =>
      refine ⟨by simp, fun j => ?_⟩
      by_cases hj : i = j
      · subst hj
        right
        rw [List.getElem?_set_self (List.getElem?_eq_some_iff.mp hx).1]
        exact ⟨rfl, x, hx⟩
      · rw [List.getElem?_set_ne hj]
        exact Or.inl rfl
    next => exact zle_rf ls
section ZWJ
variable {X : Nat × (Nat → Int32)} {d : Nat} {M : zMe} {Q : zQ}
theorem zWp_le {pc : Nat} {ls ls' st : List Value} {S : zSt} (hl : zle ls' ls) (h : zWp X d M pc ls' st S Q) : zWp X d M pc ls st S Q := by
  obtain ⟨N, n, r, S1, h1, h2, h3⟩ := h
  exact ⟨N, n, r, S1, zleq n pc ls' ls st S hl h1, h2, h3⟩
/-- from a place in a method: at the cuts what must hold there, with some locals forgotten -/
theorem zWj_of {op : Nat → Nat} {F : Nat} (cut : Nat → Bool) (jk : Nat → List Nat) (n : Nat) {pc : Nat} {ls st : List Value} {S : zSt} (hr : zrgM M = true) (h : zW X (zWr X op F d) M cut (fun pc ls st S => zWp X d M pc (znz (jk pc) ls) st S Q) n pc ls st S Q) : zWp X d M pc ls st S Q :=
  zW_ok hr (fun a As S Q z => zWr_ok d a As S Q z) (fun pc ls st S _ z => zWp_le (znz_le _ _) z) n pc ls st S h
/-- an int's end, a void's end, in a state in which all is made -/
def zQi (K : Int32 → (Nat → Nat → Int32) → (Nat → Nat → Int64) → Prop) : zQ := fun r S => match r with
  | some (.int v) => (match S.2.2.1 with
    | [] => if S.1 = 212 ∧ S.2.1 = 14525 then K v S.2.2.2.1 S.2.2.2.2 else False
    | _ :: _ => False)
  | _ => False
def zQv (K : (Nat → Nat → Int32) → (Nat → Nat → Int64) → Prop) : zQ := fun r S => match r with
  | none => (match S.2.2.1 with
    | [] => if S.1 = 212 ∧ S.2.1 = 14525 then K S.2.2.2.1 S.2.2.2.2 else False
    | _ :: _ => False)
  | _ => False
theorem zQi_imp {K : Int32 → (Nat → Nat → Int32) → (Nat → Nat → Int64) → Prop} (r : Option Value) (S : zSt) (h : zQi K r S) : ∃ v f g, r = some (.int v) ∧ S = zs f g ∧ K v f g := by
  obtain ⟨c, z, rho, f, g⟩ := S
  unfold zQi at h
  split at h
  next v =>
    simp only at h
    split at h
    next =>
      split at h
      next hc =>
        obtain ⟨rfl, rfl⟩ := hc
        exact ⟨v, f, g, rfl, rfl, h⟩
      next => cases h
    next => cases h
  next => cases h
theorem zQv_imp {K : (Nat → Nat → Int32) → (Nat → Nat → Int64) → Prop} (r : Option Value) (S : zSt) (h : zQv K r S) : ∃ f g, r = none ∧ S = zs f g ∧ K f g := by
  obtain ⟨c, z, rho, f, g⟩ := S
  unfold zQv at h
  split at h
  next =>
    simp only at h
    split at h
    next =>
      split at h
      next hc =>
        obtain ⟨rfl, rfl⟩ := hc
        exact ⟨f, g, rfl, rfl, h⟩
      next => cases h
    next => cases h
  next => cases h
theorem zCpi_of {op : Nat → Nat} {F a : Nat} {As : List Value} {S : zSt} {K : Int32 → (Nat → Nat → Int32) → (Nat → Nat → Int64) → Prop} (h : zWr X op F d a As S (zQi K)) : zCpi X d a As S K := zCp_mono zQi_imp (zWr_ok d a As S _ h)
theorem zCpv_of {op : Nat → Nat} {F a : Nat} {As : List Value} {S : zSt} {K : (Nat → Nat → Int32) → (Nat → Nat → Int64) → Prop} (h : zWr X op F d a As S (zQv K)) : zCpv X d a As S K := zCp_mono zQv_imp (zWr_ok d a As S _ h)
theorem zCpi_w {a : Nat} {As : List Value} {S : zSt} {K : Int32 → (Nat → Nat → Int32) → (Nat → Nat → Int64) → Prop} (ha : a < 290) (hM : zP a = some M) (hl : (zini As).length ≤ M.2.2.2.1) (h : zWp X d M 0 (zpad M.2.2.2.1 (zini As)) [] S (zQi K)) : zCpi X (d + 1) a As S K := zCp_mono zQi_imp (zCp_of ha hM hl h)
theorem zCpv_w {a : Nat} {As : List Value} {S : zSt} {K : (Nat → Nat → Int32) → (Nat → Nat → Int64) → Prop} (ha : a < 290) (hM : zP a = some M) (hl : (zini As).length ≤ M.2.2.2.1) (h : zWp X d M 0 (zpad M.2.2.2.1 (zini As)) [] S (zQv K)) : zCpv X (d + 1) a As S K := zCp_mono zQv_imp (zCp_of ha hM hl h)
theorem zCpi_deep {a : Nat} {As : List Value} {S : zSt} {K : Int32 → (Nat → Nat → Int32) → (Nat → Nat → Int64) → Prop} (h : zCpi X d a As S K) : zCpi X (d + 1) a As S K := zCp_deep h
theorem zCpv_deep {a : Nat} {As : List Value} {S : zSt} {K : (Nat → Nat → Int32) → (Nat → Nat → Int64) → Prop} (h : zCpv X d a As S K) : zCpv X (d + 1) a As S K := zCp_deep h
theorem zCpi_mono {a : Nat} {As : List Value} {S : zSt} {K K' : Int32 → (Nat → Nat → Int32) → (Nat → Nat → Int64) → Prop} (hK : ∀ v f g, K v f g → K' v f g) (h : zCpi X d a As S K) : zCpi X d a As S K' := zCp_mono (fun r S ⟨v, f, g, e1, e2, z⟩ => ⟨v, f, g, e1, e2, hK v f g z⟩) h
theorem zCpv_mono {a : Nat} {As : List Value} {S : zSt} {K K' : (Nat → Nat → Int32) → (Nat → Nat → Int64) → Prop} (hK : ∀ f g, K f g → K' f g) (h : zCpv X d a As S K) : zCpv X d a As S K' := zCp_mono (fun r S ⟨f, g, e1, e2, z⟩ => ⟨f, g, e1, e2, hK f g z⟩) h
end ZWJ

/-! more fuel, the same answer -/
section ZF
variable {X : Nat × (Nat → Int32)} {S : zSt} {q : Option Value × zSt}
theorem zgfK_m {i a b : Nat} {k k' : Value → zRes} (hk : ∀ v, k v = some q → k' v = some q) (h : zgfK S i a b k = some q) : zgfK S i a b k' = some q := by
  unfold zgfK at h ⊢
  split at h
  next ci ks hl =>
    split at h
    next hc =>
      rw [if_pos hc]
      split at h
      next => exact hk _ h
      next => exact hk _ h
      next => exact hk _ h
      next j hkj =>
        split at h
        next => cases h
        next hz => exact hk _ h
      next => cases h
    next => cases h
  next => cases h
theorem zpfK_m {i a b : Nat} {v : Value} {k k' : zSt → zRes} (hk : ∀ v, k v = some q → k' v = some q) (h : zpfK S i a b v k = some q) : zpfK S i a b v k' = some q := by
  unfold zpfK at h ⊢
  split at h
  next ci ks hl =>
    split at h
    next hc =>
      rw [if_pos hc]
      split at h
      next =>
        split at h
        next => exact hk _ h
        next => cases h
      next =>
        split at h
        next =>
          split at h
          next hx => rw [if_pos hx]; exact hk _ h
          next => cases h
        next => cases h
      next =>
        split at h
        next => exact hk _ h
        next => cases h
      next =>
        split at h
        next =>
          split at h
          next hx => rw [if_pos hx]; exact hk _ h
          next => cases h
        next => cases h
      next => cases h
    next => cases h
  next => cases h
theorem zalK_m {i : Nat} {x : Int32} {k k' : Int32 → zRes} (hk : ∀ v, k v = some q → k' v = some q) (h : zalK X S i x k = some q) : zalK X S i x k' = some q := by
  unfold zalK at h ⊢
  split at h
  next hi =>
    rw [if_pos hi]
    split at h
    next => cases h
    next hx => rw [if_neg hx]; exact hk _ h
  next hi =>
    rw [if_neg hi]
    split at h
    next ci ks hl =>
      split at h
      next hc =>
        rw [if_pos hc]
        split at h
        next => cases h
        next hx => rw [if_neg hx]; exact hk _ h
      next => cases h
    next => cases h
theorem zasK_m {i : Nat} {x v : Int32} {k k' : zSt → zRes} (hk : ∀ v, k v = some q → k' v = some q) (h : zasK S i x v k = some q) : zasK S i x v k' = some q := by
  unfold zasK at h ⊢
  split at h
  next ci ks hl =>
    split at h
    next hc =>
      rw [if_pos hc]
      split at h
      next => cases h
      next hx => rw [if_neg hx]; exact hk _ h
    next => cases h
  next => cases h
theorem zlnK_m {i : Nat} {k k' : Int32 → zRes} (hk : ∀ v, k v = some q → k' v = some q) (h : zlnK X S i k = some q) : zlnK X S i k' = some q := by
  unfold zlnK at h ⊢
  split at h
  next hi => rw [if_pos hi]; exact hk _ h
  next hi =>
    rw [if_neg hi]
    split at h
    next ci ks hl =>
      split at h
      next hc => rw [if_pos hc]; exact hk _ h
      next hc =>
        rw [if_neg hc]
        split at h
        next hd => rw [if_pos hd]; exact hk _ h
        next => cases h
    next => cases h
theorem zaaK_m {i : Nat} {x : Int32} {k k' : Nat → zRes} (hk : ∀ v, k v = some q → k' v = some q) (h : zaaK S i x k = some q) : zaaK S i x k' = some q := by
  unfold zaaK at h ⊢
  split at h
  next ci ks hl =>
    split at h
    next hc =>
      rw [if_pos hc]
      split at h
      next => cases h
      next hx =>
        rw [if_neg hx]
        split at h
        next => cases h
        next hz =>
          split at h
          next j hj => exact hk _ h
          next => cases h
    next => cases h
  next => cases h
theorem zraK_m {i : Nat} {x : Int32} {v : Nat} {k k' : zSt → zRes} (hk : ∀ v, k v = some q → k' v = some q) (h : zraK S i x v k = some q) : zraK S i x v k' = some q := by
  unfold zraK at h ⊢
  split at h
  next ci ks hl =>
    split at h
    next hc =>
      rw [if_pos hc]
      split at h
      next => cases h
      next hx =>
        rw [if_neg hx]
        split at h
        next j hj =>
          split at h
          next hq => rw [if_pos hq]; exact hk _ h
          next => cases h
        next => cases h
    next => cases h
  next => cases h
theorem znwK_m {C : Nat} {k k' : zSt → zRes} (hk : ∀ v, k v = some q → k' v = some q) (h : znwK S C k = some q) : znwK S C k' = some q := by
  unfold znwK at h ⊢
  split at h
  next ci ks hl =>
    split at h
    next hc => rw [if_pos hc]; exact hk _ h
    next => cases h
  next => cases h
theorem znaK_m {n : Int32} {k k' : zSt → zRes} (hk : ∀ v, k v = some q → k' v = some q) (h : znaK S n k = some q) : znaK S n k' = some q := by
  unfold znaK at h ⊢
  split at h
  next ci ks hl =>
    split at h
    next hc => rw [if_pos hc]; exact hk _ h
    next => cases h
  next => cases h
theorem zqaK_m {n : Int32} {k k' : zSt → zRes} (hk : ∀ v, k v = some q → k' v = some q) (h : zqaK S n k = some q) : zqaK S n k' = some q := by
  unfold zqaK at h ⊢
  split at h
  next ci ks hl =>
    split at h
    next hc => rw [if_pos hc]; exact hk _ h
    next => cases h
  next => cases h
theorem zcpK_m {i j : Nat} {sp dp n : Int32} {k k' : zSt → zRes} (hk : ∀ v, k v = some q → k' v = some q) (h : zcpK S i sp j dp n k = some q) : zcpK S i sp j dp n k' = some q := by
  unfold zcpK at h ⊢
  split at h
  next c1 k1 c2 k2 h1 h2 =>
    split at h
    next hc =>
      rw [if_pos hc]
      split at h
      next hd => rw [if_pos hd]; exact hk _ h
      next => cases h
    next => cases h
  next => cases h
theorem zcall_m {cf cf' : Nat → List Value → zSt → zRes} (hcf : ∀ a As S q, cf a As S = some q → cf' a As S = some q) {ck : List Value → Bool} {a b : Nat} {ls st : List Value} {k k' : List Value → zSt → zRes} (hk : ∀ v S, k v S = some q → k' v S = some q) (h : zcall cf ck a b ls st S k = some q) : zcall cf' ck a b ls st S k' = some q := by
  unfold zcall at h ⊢
  split at h
  next => cases h
  next As rest hp =>
    split at h
    next hc =>
      rw [if_pos hc]
      split at h
      next => cases h
      next r S1 hr =>
        split at h
        next hd =>
          rw [hcf _ _ _ _ hr]
          simp only
          rw [if_pos hd]
          exact hk _ _ h
        next => cases h
    next => cases h
set_option maxHeartbeats 4000000 in
set_option maxRecDepth 100000 in
theorem zfuel {cf cf' : Nat → List Value → zSt → zRes} {M : zMe} (hcf : ∀ a As S q, cf a As S = some q → cf' a As S = some q) :
    ∀ (n : Nat) (n' : Nat) (pc : Nat) (ls st : List Value) (S : zSt), n ≤ n' → zstp X cf M n pc ls st S = some q → zstp X cf' M n' pc ls st S = some q := by
  intro n
  induction n with
  | zero => intro n' pc ls st S hn h; cases h
  | succ n ih =>
    intro n' pc ls st S hn h
    obtain ⟨n', rfl⟩ : ∃ m, n' = m + 1 := ⟨n' - 1, by omega⟩
    have ih := fun pc ls st S => ih n' pc ls st S (by omega)
    simp only [zstp] at h ⊢
    split at h
    next => cases h
    next ins a b hk =>
    cases ins
    case iaload =>
      simp only at h ⊢
      split at h
      · exact zalK_m (fun v => ih _ _ _ _) h
      · cases h
    case iastore =>
      simp only at h ⊢
      split at h
      · exact zasK_m (fun v => ih _ _ _ _) h
      · cases h
    case aaload =>
      simp only at h ⊢
      split at h
      · exact zaaK_m (fun v => ih _ _ _ _) h
      · cases h
    case aastore =>
      simp only at h ⊢
      split at h
      · exact zraK_m (fun v => ih _ _ _ _) h
      · cases h
    case arraylength =>
      simp only at h ⊢
      split at h
      · exact zlnK_m (fun v => ih _ _ _ _) h
      · cases h
    case getfield i =>
      simp only at h ⊢
      split at h
      · exact zgfK_m (fun v => ih _ _ _ _) h
      · cases h
    case putfield i =>
      simp only at h ⊢
      split at h
      · exact zpfK_m (fun v => ih _ _ _ _) h
      · cases h
    case new i =>
      simp only at h ⊢
      split at h
      · next hc => rw [if_pos hc]; exact znwK_m (fun v => ih _ _ _ _) h
      · cases h
    case newarray i =>
      simp only at h ⊢
      split at h
      · split at h
        · next hc => rw [if_pos hc]; exact znaK_m (fun v => ih _ _ _ _) h
        · cases h
      · cases h
    case anewarray i =>
      simp only at h ⊢
      split at h
      · split at h
        · next hc => rw [if_pos hc]; exact zqaK_m (fun v => ih _ _ _ _) h
        · cases h
      · cases h
    case invokevirtual i => exact zcall_m hcf (fun v S => ih _ _ _ _) h
    case invokestatic i =>
      simp only at h ⊢
      split at h
      · next h99 =>
        rw [if_pos h99]
        split at h
        · split at h
          · next hc => rw [if_pos hc]; exact zcpK_m (fun v => ih _ _ _ _) h
          · cases h
        · cases h
      · next h99 => rw [if_neg h99]; exact zcall_m hcf (fun v S => ih _ _ _ _) h
    case invokespecial i =>
      simp only at h ⊢
      split at h
      · next h99 =>
        rw [if_pos h99]
        split at h
        · split at h
          · next hc => rw [if_pos hc]; exact ih _ _ _ _ h
          · cases h
        · cases h
      · next h99 => rw [if_neg h99]; exact zcall_m hcf (fun v S => ih _ _ _ _) h
    case ireturn => exact h
    case return_ => exact h
    case if_icmp cc off =>
      simp only at h ⊢
      split at h
      · cases cc <;> simp only at h ⊢ <;> split at h <;> (first | (next hc => rw [if_pos hc]; exact ih _ _ _ _ h) | (next hc => rw [if_neg hc]; exact ih _ _ _ _ h))
      · cases h
    case ifCond cc off =>
      simp only at h ⊢
      split at h
      · cases cc <;> simp only at h ⊢ <;> split at h <;> (first | (next hc => rw [if_pos hc]; exact ih _ _ _ _ h) | (next hc => rw [if_neg hc]; exact ih _ _ _ _ h))
      · cases h
    case tableswitch dd lo hi offs =>
      simp only at h ⊢
      split at h
      · split at h
        · next hc =>
          rw [if_pos hc]
          split at h
          · next hd => rw [if_pos hd]; exact ih _ _ _ _ h
          · cases h
        · next hc =>
          rw [if_neg hc]
          split at h
          · split at h
            · next hd => rw [if_pos hd]; exact ih _ _ _ _ h
            · cases h
          · cases h
      · cases h
    case lookupswitch dd ps =>
      simp only at h ⊢
      split at h
      · split at h
        · next hd => rw [if_pos hd]; exact ih _ _ _ _ h
        · cases h
      · cases h
    case idiv =>
      simp only at h ⊢
      split at h
      · split at h
        · cases h
        · next hd => rw [if_neg hd]; exact ih _ _ _ _ h
      · cases h
    case irem =>
      simp only at h ⊢
      split at h
      · split at h
        · cases h
        · next hd => rw [if_neg hd]; exact ih _ _ _ _ h
      · cases h
    case ldc i =>
      simp only at h ⊢
      split at h
      · next hd => rw [if_pos hd]; exact ih _ _ _ _ h
      · next hd => rw [if_neg hd]; exact ih _ _ _ _ h
    all_goals simp only at h ⊢
    all_goals first
      | exact ih _ _ _ _ h
      | (cases h; done)
      | (split at h <;> first
          | exact ih _ _ _ _ h
          | (cases h; done))
theorem zrun_fuel : ∀ (d n n' : Nat) (a : Nat) (As : List Value) (S : zSt), n ≤ n' → zrun X d n a As S = some q → zrun X d n' a As S = some q := by
  intro d
  induction d generalizing q with
  | zero => intro n n' a As S hn h; cases h
  | succ d ih =>
    intro n n' a As S hn h
    simp only [zrun] at h ⊢
    split at h
    next h9 => rw [if_pos h9]; exact h
    next h9 =>
      rw [if_neg h9]
      split at h
      next => cases h
      next h29 =>
        rw [if_neg h29]
        split at h
        next => cases h
        next M hM =>
          split at h
          next hl =>
            rw [if_pos hl]
            exact zfuel (fun a As S q hq => ih (q := q) n n' a As S hn hq) n n' _ _ _ _ hn h
          next => cases h
theorem zrun_deep : ∀ (d n : Nat) (a : Nat) (As : List Value) (S : zSt), zrun X d n a As S = some q → zrun X (d + 1) n a As S = some q := by
  intro d
  induction d generalizing q with
  | zero => intro n a As S h; cases h
  | succ d ih =>
    intro n a As S h
    rw [zrun] at h ⊢
    split at h
    next h9 => rw [if_pos h9]; exact h
    next h9 =>
      rw [if_neg h9]
      split at h
      next => cases h
      next h29 =>
        rw [if_neg h29]
        split at h
        next => cases h
        next M hM =>
          split at h
          next hl =>
            rw [if_pos hl]
            exact zfuel (fun a As S q hq => ih (q := q) n a As S hq) n n _ _ _ _ (Nat.le_refl _) h
          next => cases h
end ZF

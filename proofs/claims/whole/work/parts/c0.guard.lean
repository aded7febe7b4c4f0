/-! THE STRING METHODS ARE CALLED ON THE TWO CONSTANTS ONLY (zrc says so at every call); zsound again, with that -/
section ZG
variable {X : Nat × (Nat → Int32)} {S : zSt} {q : Option Value × zSt}
theorem zst9 {o i a b : Nat} (h : (zq5 zSL o i a b || zq5 zSN o i a b) = true) : a < 290 := by
  have h2 := zVL_lt
  simp only [Bool.and_eq_true] at h2
  rcases Bool.or_eq_true_iff.mp h with h | h
  · obtain ⟨x, hq⟩ := zq5_ok h
    exact of_decide_eq_true (List.all_eq_true.mp h2.1.1.1.2 _ hq)
  · obtain ⟨x, hq⟩ := zq5_ok h
    exact of_decide_eq_true (List.all_eq_true.mp h2.1.2 _ hq)
theorem zsp9 {o i a b : Nat} (h : (zq5 zIL o i a b || zq5 zIN o i a b) = true) : a < 290 := by
  have h2 := zVL_lt
  simp only [Bool.and_eq_true] at h2
  rcases Bool.or_eq_true_iff.mp h with h | h
  · obtain ⟨x, hq⟩ := zq5_ok h
    exact of_decide_eq_true (List.all_eq_true.mp h2.1.1.2 _ hq)
  · obtain ⟨x, hq⟩ := zq5_ok h
    exact of_decide_eq_true (List.all_eq_true.mp h2.2 _ hq)
theorem zcall_g {cf cf' : Nat → List Value → zSt → zRes} (hcf : ∀ a As S q, (9000 ≤ a → zrc a As S = true) → cf a As S = some q → cf' a As S = some q) {ck : List Value → Bool} {a b : Nat} {ls st : List Value} {k k' : List Value → zSt → zRes} (hk : ∀ v S, k v S = some q → k' v S = some q) (hg : ∀ As, ck As = true → 9000 ≤ a → zrc a As S = true) (h : zcall cf ck a b ls st S k = some q) : zcall cf' ck a b ls st S k' = some q := by
  unfold zcall at h ⊢
  split at h
  next => cases h
  next As rest hp =>
    split at h
    next hc =>
      rw [if_pos hc]
      split at h
      next => cases h
      next r S1 hr =>
        split at h
        next hd =>
          rw [hcf _ _ _ _ (hg _ hc.2) hr]
          simp only
          rw [if_pos hd]
          exact hk _ _ h
        next => cases h
    next => cases h
set_option maxHeartbeats 4000000 in
set_option maxRecDepth 100000 in
theorem zguard {cf cf' : Nat → List Value → zSt → zRes} {M : zMe} (hMk : zchkM M = true) (hcf : ∀ a As S q, (9000 ≤ a → zrc a As S = true) → cf a As S = some q → cf' a As S = some q) :
    ∀ (n : Nat) (n' : Nat) (pc : Nat) (ls st : List Value) (S : zSt), n ≤ n' → zstp X cf M n pc ls st S = some q → zstp X cf' M n' pc ls st S = some q := by
  intro n
  induction n with
  | zero => intro n' pc ls st S hn h; cases h
  | succ n ih =>
    intro n' pc ls st S hn h
    obtain ⟨n', rfl⟩ : ∃ m, n' = m + 1 := ⟨n' - 1, by omega⟩
    have ih := fun pc ls st S => ih n' pc ls st S (by omega)
    simp only [zstp] at h ⊢
    split at h
    next => cases h
    next ins a b hk =>
    have hex := (Bool.and_eq_true_iff.mp (zchkM_ok hMk hk)).2
    cases ins
    case iaload =>
      simp only at h ⊢
      split at h
      · exact zalK_m (fun v => ih _ _ _ _) h
      · cases h
    case iastore =>
      simp only at h ⊢
      split at h
      · exact zasK_m (fun v => ih _ _ _ _) h
      · cases h
    case aaload =>
      simp only at h ⊢
      split at h
      · exact zaaK_m (fun v => ih _ _ _ _) h
      · cases h
    case aastore =>
      simp only at h ⊢
      split at h
      · exact zraK_m (fun v => ih _ _ _ _) h
      · cases h
    case arraylength =>
      simp only at h ⊢
      split at h
      · exact zlnK_m (fun v => ih _ _ _ _) h
      · cases h
    case getfield i =>
      simp only at h ⊢
      split at h
      · exact zgfK_m (fun v => ih _ _ _ _) h
      · cases h
    case putfield i =>
      simp only at h ⊢
      split at h
      · exact zpfK_m (fun v => ih _ _ _ _) h
      · cases h
    case new i =>
      simp only at h ⊢
      split at h
      · next hc => rw [if_pos hc]; exact znwK_m (fun v => ih _ _ _ _) h
      · cases h
    case newarray i =>
      simp only at h ⊢
      split at h
      · split at h
        · next hc => rw [if_pos hc]; exact znaK_m (fun v => ih _ _ _ _) h
        · cases h
      · cases h
    case anewarray i =>
      simp only at h ⊢
      split at h
      · split at h
        · next hc => rw [if_pos hc]; exact zqaK_m (fun v => ih _ _ _ _) h
        · cases h
      · cases h
    case invokevirtual i => exact zcall_g hcf (fun v S => ih _ _ _ _) (fun _ h _ => h) h
    case invokestatic i =>
      simp only at h ⊢
      split at h
      · next h99 =>
        rw [if_pos h99]
        split at h
        · split at h
          · next hc => rw [if_pos hc]; exact zcpK_m (fun v => ih _ _ _ _) h
          · cases h
        · cases h
      · next h99 => rw [if_neg h99]; exact zcall_g hcf (fun v S => ih _ _ _ _) (fun _ _ h9 => absurd (zst9 (by simpa only [zex, if_neg h99] using hex)) (by omega)) h
    case invokespecial i =>
      simp only at h ⊢
      split at h
      · next h99 =>
        rw [if_pos h99]
        split at h
        · split at h
          · next hc => rw [if_pos hc]; exact ih _ _ _ _ h
          · cases h
        · cases h
      · next h99 => rw [if_neg h99]; exact zcall_g hcf (fun v S => ih _ _ _ _) (fun _ _ h9 => absurd (zsp9 (by simpa only [zex, if_neg h99] using hex)) (by omega)) h
    case ireturn => exact h
    case return_ => exact h
    case if_icmp cc off =>
      simp only at h ⊢
      split at h
      · cases cc <;> simp only at h ⊢ <;> split at h <;> (first | (next hc => rw [if_pos hc]; exact ih _ _ _ _ h) | (next hc => rw [if_neg hc]; exact ih _ _ _ _ h))
      · cases h
    case ifCond cc off =>
      simp only at h ⊢
      split at h
      · cases cc <;> simp only at h ⊢ <;> split at h <;> (first | (next hc => rw [if_pos hc]; exact ih _ _ _ _ h) | (next hc => rw [if_neg hc]; exact ih _ _ _ _ h))
      · cases h
    case tableswitch dd lo hi offs =>
      simp only at h ⊢
      split at h
      · split at h
        · next hc =>
          rw [if_pos hc]
          split at h
          · next hd => rw [if_pos hd]; exact ih _ _ _ _ h
          · cases h
        · next hc =>
          rw [if_neg hc]
          split at h
          · split at h
            · next hd => rw [if_pos hd]; exact ih _ _ _ _ h
            · cases h
          · cases h
      · cases h
    case lookupswitch dd ps =>
      simp only at h ⊢
      split at h
      · split at h
        · next hd => rw [if_pos hd]; exact ih _ _ _ _ h
        · cases h
      · cases h
    case idiv =>
      simp only at h ⊢
      split at h
      · split at h
        · cases h
        · next hd => rw [if_neg hd]; exact ih _ _ _ _ h
      · cases h
    case irem =>
      simp only at h ⊢
      split at h
      · split at h
        · cases h
        · next hd => rw [if_neg hd]; exact ih _ _ _ _ h
      · cases h
    case ldc i =>
      simp only at h ⊢
      split at h
      · next hd => rw [if_pos hd]; exact ih _ _ _ _ h
      · next hd => rw [if_neg hd]; exact ih _ _ _ _ h
    all_goals simp only at h ⊢
    all_goals first
      | exact ih _ _ _ _ h
      | (cases h; done)
      | (split at h <;> first
          | exact ih _ _ _ _ h
          | (cases h; done))
/-- calls of string methods on anything but the constants answer nothing -/
def zgd (X : Nat × (Nat → Int32)) (d n : Nat) (a : Nat) (As : List Value) (S : zSt) : zRes := if 9000 ≤ a ∧ zrc a As S = false then none else zrun X d n a As S
end ZG
section ZR2
variable {l : Launch} {dC : Nat → ClassId} {dI : Nat → Nat → Nat} {cI cR : ClassId} {h0 : Nat} {KS : State → Prop} {adX : Nat → Nat} {X : Nat × (Nat → Int32)}
def zStr2 (l : Launch) (dC : Nat → ClassId) (dI : Nat → Nat → Nat) (cI cR : ClassId) (h0 : Nat) (KS : State → Prop) (adX : Nat → Nat) : Prop := ∀ (d a : Nat) (As : List Value) (S : zSt) (v : Value), 9000 ≤ a → zrc a As S = true → zstr a As = some v → zMet l dC dI cI cR h0 KS adX (d + 6) a As S (some v) S
set_option maxHeartbeats 4000000 in
set_option maxRecDepth 100000 in
theorem zsound2 (hPW : zPW) (hPk : ∀ a M, zP a = some M → zchkM M = true) (hKS : zKst h0 KS) (hScr : zScr KS adX h0 X) (hLdc : zLdc KS adX) (hRcv : zRcv KS adX h0) (hStr : zStr2 l dC dI cI cR h0 KS adX) :
    ∀ (d n a : Nat) (As : List Value) (S : zSt) (r : Option Value) (S' : zSt), zrun X d n a As S = some (r, S') → (9000 ≤ a → zrc a As S = true) → zinv S → (S.1 ≤ S'.1 ∧ S.2.1 ≤ S'.2.1 ∧ zinv S') ∧ (∀ ad, r.toList.map (zcv ad) = r.toList) ∧ zMet l dC dI cI cR h0 KS adX (d + 5) a As S r S' := by
  intro d
  induction d with
  | zero => intro n a As S r S' h; cases h
  | succ d ih =>
    intro n a As S r S' h hg hI
    simp only [zrun] at h
    split at h
    next h9 =>
      split at h
      next v hv =>
        cases h
        obtain ⟨x, rfl⟩ := zstr_int hv
        exact ⟨⟨Nat.le_refl _, Nat.le_refl _, hI⟩, fun ad => rfl, hStr d a As S _ h9 (hg h9) hv⟩
      next => cases h
    next h9 =>
      split at h
      next => cases h
      next h29 =>
      split at h
      next => cases h
      next M hM =>
        split at h
        next hlen =>
          have hMk := hPk a M hM
          have h := zguard (cf' := zgd X d n) hMk (fun a As S q hg h => by simp only [zgd]; rw [if_neg (fun z => by have := hg z.1; rw [z.2] at this; cases this)]; exact h) n n 0 _ _ S (Nat.le_refl _) h
          have hcf : ∀ a As S r S1, zgd X d n a As S = some (r, S1) → zinv S → (S.1 ≤ S1.1 ∧ S.2.1 ≤ S1.2.1 ∧ zinv S1) ∧ (∀ ad, r.toList.map (zcv ad) = r.toList) ∧ zMet l dC dI cI cR h0 KS adX (d + 5) a As S r S1 := fun a As S r S1 h hI => by
            simp only [zgd] at h
            split at h
            · cases h
            · next hz => exact ih n a As S r S1 h (fun h9 => by cases hc : zrc a As S with
                | true => rfl
                | false => exact absurd ⟨h9, hc⟩ hz) hI
          have hm := zmono hMk (fun a As S r S1 h hI => (hcf a As S r S1 h hI).1) n 0 _ [] S h hI
          refine ⟨hm, zstp_int n 0 _ [] S h, fun ad had => ?_⟩
          have hinf : zinf a = (M.2.1, M.2.2.1, M.2.2.2.1, M.2.2.2.2.1) := by
            unfold zinf
            rw [if_neg h9, hM]
          have hplain : plainFor M.2.1 = true ∧ M.2.1.cls = zR M.1 := by
            obtain ⟨M', q, e1, -, e3⟩ := hPW a (by omega)
            rw [hM] at e1
            cases e1
            simp only [zmw, Bool.and_eq_true, decide_eq_true_eq] at e3
            obtain ⟨⟨⟨⟨⟨⟨⟨-, -⟩, e5⟩, e4⟩, -⟩, -⟩, -⟩, -⟩ := e3
            exact ⟨e5, e4⟩
          rw [zws, hinf]
          simp only
          refine va_MetF (cc := M.2.2.1) (maxL := M.2.2.2.1) (ret := M.2.2.2.2.1) hplain.1 rfl ?_
          intro p e s m args below meth c s₁ B hml hv
          obtain ⟨rfl, hh, hW, hK, hKK⟩ := hv
          have hts := atoms_spec (ws := Cond.code M.2.1 M.2.2.1 M.2.2.2.1 M.2.2.2.2.1 :: zT) B.pre
          have hr := B.returns
          have hown : s.vm.findClass M.2.1.cls = some m.cls := findClass_of_methodNamed B.named
          have hlocks := B.notSynchronized
          have hin : meth.name = M.2.1.name := (name_of_methodNamed B.named B.method).1
          rw [lg_entry_eq]
          have hBd : zBd p s m (List.map (zcv ad) As).toArray meth c (headSpec (Cond.code M.2.1 M.2.2.1 M.2.2.2.1 M.2.2.2.2.1 :: zT) (zrm (d + 1 + 5) S S')).room dC dI cI cR h0 KS (d + 5) M :=
            ⟨B.exec, B.bytes, hml, by rw [← hplain.2]; exact hown, fun w hw => hts w (List.mem_cons_of_mem _ hw), fun z => hin.trans z, hK, hh, hKK, hKS, by show d + 5 + 1 ≤ d + 1 + 5; omega, by show 100 * (d + 5) + 100 ≤ 100 * (d + 1 + 5); omega⟩
          have key := zsound_stp (p := p) (l := l) (e := e) (below := below) (Q := MQ below (zQc dC dI cI cR h0 ad S r S') (List.map (zcv ad) As).toArray s (S'.1 - S.1) (S'.2.1 - S.2.1) (zA h0)) (c0 := S.1) (z0 := S.2.1) (ad0 := ad) (r := r) (S' := S') hPW hMk hBd hScr hLdc hRcv had hcf (Nat.le_refl _) (Nat.le_refl _)
            (fun v hv hret pc sl H locs ad' hdg hW' hS' hag hade => by
              subst hv
              rcases hret with hret | ⟨hret, hv⟩
              · exact W.iret B.exec B.bytes (hr.trans hret) (fun t ht hw => ⟨⟨rfl, ad', hag, hade, by rw [ht]; exact hW'⟩, hS'.F ht⟩) hS'.2.2 hdg
              · exact W.zret B.exec B.bytes (hr.trans hret) (by rcases hv with rfl | rfl <;> decide) (fun t ht hw => ⟨⟨rfl, ad', hag, hade, by rw [ht]; exact hW'⟩, hS'.F ht⟩) hS'.2.2 hdg)
            (fun hv hret pc sl H locs ad' hdg hW' hS' hag hade => by
              subst hv
              exact W.vret B.exec B.bytes (hr.trans hret) (fun t ht hw => ⟨⟨rfl, ad', hag, hade, by rw [ht]; exact hW'⟩, hS'.F ht⟩) hS'.2.2 hdg)
            n 0 _ [] S h hI ad _ s.heap [] (zini_loc ad hlen) hW va_S.rf (Nat.le_refl _) (Nat.le_refl _) (fun _ _ => rfl) (fun _ => rfl)
          rw [Nat.sub_self, Nat.sub_self] at key
          exact key
        next => cases h
end ZR2

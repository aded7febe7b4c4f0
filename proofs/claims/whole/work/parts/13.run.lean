/-! the locals with which a method begins -/
theorem zini_sl (ad : Nat → Nat) : ∀ (As : List Value), (zini As).length = (lg_sl (As.map (zcv ad))).length ∧ ∀ (i : Nat) (v : Value), (zini As)[i]? = some v → v ≠ .null → (lg_sl (As.map (zcv ad)))[i]? = some (.val (zcv ad v))
  | [] => ⟨rfl, fun i v h => by simp [zini] at h⟩
  | a :: t => by
    obtain ⟨h1, h2⟩ := zini_sl ad t
    have one : a.category = 1 → zini (a :: t) = a :: zini t → (zini (a :: t)).length = (lg_sl ((a :: t).map (zcv ad))).length ∧ ∀ (i : Nat) (v : Value), (zini (a :: t))[i]? = some v → v ≠ .null → (lg_sl ((a :: t).map (zcv ad)))[i]? = some (.val (zcv ad v)) := by
      intro hc hz
      have e : lg_sl ((a :: t).map (zcv ad)) = .val (zcv ad a) :: lg_sl (t.map (zcv ad)) := by
        simp [lg_sl, zcv_cat, hc]
      rw [hz, e]
      refine ⟨by simp [h1], fun i v h hv => ?_⟩
      cases i with
      | zero =>
        have : a = v := by simpa using h
        subst this
        rfl
      | succ i => simpa using h2 i v (by simpa using h) hv
    have two : a.category = 2 → zini (a :: t) = a :: .null :: zini t → (zini (a :: t)).length = (lg_sl ((a :: t).map (zcv ad))).length ∧ ∀ (i : Nat) (v : Value), (zini (a :: t))[i]? = some v → v ≠ .null → (lg_sl ((a :: t).map (zcv ad)))[i]? = some (.val (zcv ad v)) := by
      intro hc hz
      have e : lg_sl ((a :: t).map (zcv ad)) = .val (zcv ad a) :: .second :: lg_sl (t.map (zcv ad)) := by
        simp [lg_sl, zcv_cat, hc]
      rw [hz, e]
      refine ⟨by simp [h1], fun i v h hv => ?_⟩
      match i with
      | 0 =>
        have : a = v := by simpa using h
        subst this
        rfl
      | 1 =>
        have : Value.null = v := by simpa using h
        exact absurd this.symm hv
      | i + 2 => simpa using h2 i v (by simpa using h) hv
    cases a with
    | long x => exact two rfl rfl
    | double x => exact two rfl rfl
    | int x => exact one rfl rfl
    | float x => exact one rfl rfl
    | null => exact one rfl rfl
    | ref x => exact one rfl rfl
    | retAddr x => exact one rfl rfl
theorem zini_loc (ad : Nat → Nat) {As : List Value} {n : Nat} (h : (zini As).length ≤ n) : zloc n ad (zpad n (zini As)) (lg_sl (As.map (zcv ad)) ++ List.replicate (n - (lg_sl (As.map (zcv ad))).length) Slot.unset).toArray := by
  obtain ⟨h1, h2⟩ := zini_sl ad As
  have hl := lv_entry (As.map (zcv ad)) (n := n) (by rw [← h1]; exact h)
  refine ⟨by simp [zpad]; omega, hl.1, hl.2.1, fun i v hi hv => ?_⟩
  unfold zpad at hi
  by_cases hlt : i < (zini As).length
  · rw [List.getElem?_append_left hlt] at hi
    have := h2 i v hi hv
    simp only [List.getElem?_toArray]
    rw [List.getElem?_append_left (by rw [← h1]; exact hlt)]
    exact this
  · rw [List.getElem?_append_right (by omega)] at hi
    have := List.eq_of_mem_replicate (List.mem_of_getElem? hi)
    exact absurd this hv
section ZR
variable {l : Launch} {dC : Nat → ClassId} {dI : Nat → Nat → Nat} {cI cR : ClassId} {h0 : Nat} {KS : State → Prop} {adX : Nat → Nat} {X : Nat × (Nat → Int32)}
/-- the string methods' contracts: they answer, and change nothing -/
def zStr (l : Launch) (dC : Nat → ClassId) (dI : Nat → Nat → Nat) (cI cR : ClassId) (h0 : Nat) (KS : State → Prop) (adX : Nat → Nat) : Prop := ∀ (d a : Nat) (As : List Value) (S : zSt) (v : Value), 9000 ≤ a → zstr a As = some v → zMet l dC dI cI cR h0 KS adX (d + 6) a As S (some v) S
theorem zstr_int {a : Nat} {As : List Value} {v : Value} (h : zstr a As = some v) : ∃ x, v = .int x := by
  unfold zstr at h
  split at h
  · split at h
    · cases h; exact ⟨_, rfl⟩
    · cases h
  · split at h
    · split at h
      · cases h
      · cases h; exact ⟨_, rfl⟩
    · split at h
      · cases h; exact ⟨_, rfl⟩
      · cases h
  · cases h
set_option maxHeartbeats 4000000 in
set_option maxRecDepth 100000 in
theorem zstp_int0 {X : Nat × (Nat → Int32)} {cf : Nat → List Value → zSt → zRes} {M : zMe} {q : Option Value × zSt} : ∀ (n pc : Nat) (ls st : List Value) (S : zSt), zstp X cf M n pc ls st S = some q → q.1 = none ∨ ∃ v, q.1 = some (.int v) := by
  intro n
  induction n with
  | zero => intro pc ls st S h; cases h
  | succ n ih =>
    intro pc ls st S h
    have hcall : ∀ (ck : List Value → Bool) (a b pc' : Nat), zcall cf ck a b ls st S (fun st1 S1 => zstp X cf M n pc' ls st1 S1) = some q → q.1 = none ∨ ∃ v, q.1 = some (.int v) := by
      intro ck a b pc' h
      unfold zcall at h
      split at h
      next => cases h
      next As rest hp =>
        split at h
        next =>
          split at h
          next => cases h
          next r S1 hr =>
            split at h
            next => exact ih _ _ _ _ h
            next => cases h
        next => cases h
    simp only [zstp] at h
    split at h
    next => cases h
    next ins a b hk =>
    cases ins
    case iaload =>
      simp only at h
      split at h
      · rcases zalK_ok h with ⟨-, -, h⟩ | ⟨ks, -, -, -, h⟩
        · exact ih _ _ _ _ h
        · exact ih _ _ _ _ h
      · cases h
    case iastore =>
      simp only at h
      split at h
      · obtain ⟨ks, -, -, -, h⟩ := zasK_ok h
        exact ih _ _ _ _ h
      · cases h
    case aaload =>
      simp only at h
      split at h
      · obtain ⟨ks, j, -, -, -, -, -, h⟩ := zaaK_ok h
        exact ih _ _ _ _ h
      · cases h
    case aastore =>
      simp only at h
      split at h
      · obtain ⟨ks, h1, h2, h3, h4, h5, h6, h⟩ := zraK_ok h
        exact ih _ _ _ _ h
      · cases h
    case arraylength =>
      simp only at h
      split at h
      · rcases zlnK_ok h with ⟨-, h⟩ | ⟨ks, -, -, h⟩ | ⟨ks, -, -, h⟩
        · exact ih _ _ _ _ h
        · exact ih _ _ _ _ h
        · exact ih _ _ _ _ h
      · cases h
    case getfield i =>
      simp only at h
      split at h
      · obtain ⟨v, ks, kd, -, -, -, h, -⟩ := zgfK_ok h
        exact ih _ _ _ _ h
      · cases h
    case putfield i =>
      simp only at h
      split at h
      · obtain ⟨S1, ks, kd, h1, h2, h3, h, -⟩ := zpfK_ok h
        exact ih _ _ _ _ h
      · cases h
    case new i =>
      simp only at h
      split at h
      · obtain ⟨ks, h1, h2, h⟩ := znwK_ok h
        exact ih _ _ _ _ h
      · cases h
    case newarray i =>
      simp only at h
      split at h
      · split at h
        · obtain ⟨ks, h1, h2, h3, h4, h⟩ := znaK_ok h
          exact ih _ _ _ _ h
        · cases h
      · cases h
    case anewarray i =>
      simp only at h
      split at h
      · split at h
        · obtain ⟨ks, h1, h2, h3, h4, h⟩ := zqaK_ok h
          exact ih _ _ _ _ h
        · cases h
      · cases h
    case invokevirtual i => exact hcall _ _ _ _ h
    case invokestatic i =>
      simp only at h
      split at h
      · split at h
        · split at h
          · obtain ⟨k1, k2, h1, h2, h3, h4, h5, h6, h7, h8, h9, h⟩ := zcpK_ok h
            exact ih _ _ _ _ h
          · cases h
        · cases h
      · exact hcall _ _ _ _ h
    case invokespecial i =>
      simp only at h
      split at h
      · split at h
        · split at h
          · exact ih _ _ _ _ h
          · cases h
        · cases h
      · exact hcall _ _ _ _ h
    case ireturn =>
      simp only at h
      split at h
      · split at h
        · split at h
          · cases h
            exact Or.inr ⟨_, rfl⟩
          · cases h
        · cases h
          exact Or.inr ⟨_, rfl⟩
        · cases h
      · cases h
    case return_ =>
      simp only at h
      split at h
      · split at h
        · cases h
          exact Or.inl rfl
        · cases h
      · cases h
    all_goals simp only at h
    all_goals first
      | exact ih _ _ _ _ h
      | (cases h; done)
      | (split at h <;> first
          | exact ih _ _ _ _ h
          | (cases h; done)
          | (split at h <;> first
              | exact ih _ _ _ _ h
              | (cases h; done)
              | (split at h <;> first
                  | exact ih _ _ _ _ h
                  | (cases h; done)
                  | (split at h <;> first
                      | exact ih _ _ _ _ h
                      | (cases h; done)))))
theorem zstp_int {X : Nat × (Nat → Int32)} {cf : Nat → List Value → zSt → zRes} {M : zMe} {q : Option Value × zSt} (n pc : Nat) (ls st : List Value) (S : zSt) (h : zstp X cf M n pc ls st S = some q) (ad : Nat → Nat) : q.1.toList.map (zcv ad) = q.1.toList := by
  rcases zstp_int0 n pc ls st S h with e | ⟨v, e⟩
  · rw [e]; rfl
  · rw [e]; rfl
set_option maxHeartbeats 4000000 in
theorem zsound (hPW : zPW) (hPk : ∀ a M, zP a = some M → zchkM M = true) (hKS : zKst h0 KS) (hScr : zScr KS adX h0 X) (hLdc : zLdc KS adX) (hRcv : zRcv KS adX h0) (hStr : zStr l dC dI cI cR h0 KS adX) :
    ∀ (d n a : Nat) (As : List Value) (S : zSt) (r : Option Value) (S' : zSt), zrun X d n a As S = some (r, S') → zinv S → (S.1 ≤ S'.1 ∧ S.2.1 ≤ S'.2.1 ∧ zinv S') ∧ (∀ ad, r.toList.map (zcv ad) = r.toList) ∧ zMet l dC dI cI cR h0 KS adX (d + 5) a As S r S' := by
  intro d
  induction d with
  | zero => intro n a As S r S' h; cases h
  | succ d ih =>
    intro n a As S r S' h hI
    simp only [zrun] at h
    split at h
    next h9 =>
      split at h
      next v hv =>
        cases h
        obtain ⟨x, rfl⟩ := zstr_int hv
        exact ⟨⟨Nat.le_refl _, Nat.le_refl _, hI⟩, fun ad => rfl, hStr d a As S _ h9 hv⟩
      next => cases h
    next h9 =>
      split at h
      next => cases h
      next h29 =>
      split at h
      next => cases h
      next M hM =>
        split at h
        next hlen =>
          have hMk := hPk a M hM
          have hcf : ∀ a As S r S1, zrun X d n a As S = some (r, S1) → zinv S → (S.1 ≤ S1.1 ∧ S.2.1 ≤ S1.2.1 ∧ zinv S1) ∧ (∀ ad, r.toList.map (zcv ad) = r.toList) ∧ zMet l dC dI cI cR h0 KS adX (d + 5) a As S r S1 := fun a As S r S1 h hI => ih n a As S r S1 h hI
          have hm := zmono hMk (fun a As S r S1 h hI => (hcf a As S r S1 h hI).1) n 0 _ [] S h hI
          refine ⟨hm, zstp_int n 0 _ [] S h, fun ad had => ?_⟩
          have hinf : zinf a = (M.2.1, M.2.2.1, M.2.2.2.1, M.2.2.2.2.1) := by
            unfold zinf
            rw [if_neg h9, hM]
          have hplain : plainFor M.2.1 = true ∧ M.2.1.cls = zR M.1 := by
            obtain ⟨M', q, e1, -, e3⟩ := hPW a (by omega)
            rw [hM] at e1
            cases e1
            simp only [zmw, Bool.and_eq_true, decide_eq_true_eq] at e3
            obtain ⟨⟨⟨⟨⟨⟨⟨-, -⟩, e5⟩, e4⟩, -⟩, -⟩, -⟩, -⟩ := e3
            exact ⟨e5, e4⟩
          rw [zws, hinf]
          simp only
          refine va_MetF (cc := M.2.2.1) (maxL := M.2.2.2.1) (ret := M.2.2.2.2.1) hplain.1 rfl ?_
          intro p e s m args below meth c s₁ B hml hv
          obtain ⟨rfl, hh, hW, hK, hKK⟩ := hv
          have hts := atoms_spec (ws := Cond.code M.2.1 M.2.2.1 M.2.2.2.1 M.2.2.2.2.1 :: zT) B.pre
          have hr := B.returns
          have hown : s.vm.findClass M.2.1.cls = some m.cls := findClass_of_methodNamed B.named
          have hlocks := B.notSynchronized
          have hin : meth.name = M.2.1.name := (name_of_methodNamed B.named B.method).1
          rw [lg_entry_eq]
          have hBd : zBd p s m (List.map (zcv ad) As).toArray meth c (headSpec (Cond.code M.2.1 M.2.2.1 M.2.2.2.1 M.2.2.2.2.1 :: zT) (zrm (d + 1 + 5) S S')).room dC dI cI cR h0 KS (d + 5) M :=
            ⟨B.exec, B.bytes, hml, by rw [← hplain.2]; exact hown, fun w hw => hts w (List.mem_cons_of_mem _ hw), fun z => hin.trans z, hK, hh, hKK, hKS, by show d + 5 + 1 ≤ d + 1 + 5; omega, by show 100 * (d + 5) + 100 ≤ 100 * (d + 1 + 5); omega⟩
          have key := zsound_stp (p := p) (l := l) (e := e) (below := below) (Q := MQ below (zQc dC dI cI cR h0 ad S r S') (List.map (zcv ad) As).toArray s (S'.1 - S.1) (S'.2.1 - S.2.1) (zA h0)) (c0 := S.1) (z0 := S.2.1) (ad0 := ad) (r := r) (S' := S') hPW hMk hBd hScr hLdc hRcv had hcf (Nat.le_refl _) (Nat.le_refl _)
            (fun v hv hret pc sl H locs ad' hdg hW' hS' hag hade => by
              subst hv
              rcases hret with hret | ⟨hret, hv⟩
              · exact W.iret B.exec B.bytes (hr.trans hret) (fun t ht hw => ⟨⟨rfl, ad', hag, hade, by rw [ht]; exact hW'⟩, hS'.F ht⟩) hS'.2.2 hdg
              · exact W.zret B.exec B.bytes (hr.trans hret) (by rcases hv with rfl | rfl <;> decide) (fun t ht hw => ⟨⟨rfl, ad', hag, hade, by rw [ht]; exact hW'⟩, hS'.F ht⟩) hS'.2.2 hdg)
            (fun hv hret pc sl H locs ad' hdg hW' hS' hag hade => by
              subst hv
              exact W.vret B.exec B.bytes (hr.trans hret) (fun t ht hw => ⟨⟨rfl, ad', hag, hade, by rw [ht]; exact hW'⟩, hS'.F ht⟩) hS'.2.2 hdg)
            n 0 _ [] S h hI ad _ s.heap [] (zini_loc ad hlen) hW va_S.rf (Nat.le_refl _) (Nat.le_refl _) (fun _ _ => rfl) (fun _ => rfl)
          rw [Nat.sub_self, Nat.sub_self] at key
          exact key
        next => cases h
end ZR

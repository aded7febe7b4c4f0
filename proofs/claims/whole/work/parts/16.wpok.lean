def zrgI : Instr → Bool
  | .iconst v => decide (Int32.ofInt v = zlit v)
  | .bipush v => decide ((Int8.ofInt v).toInt32 = zlit v)
  | .sipush v => decide ((Int16.ofInt v).toInt32 = zlit v)
  | .iinc _ v => decide (Int32.ofInt v = zlit v)
  | .tableswitch _ lo hi offs => decide (hi + 1 = lo + offs.size) && (List.range offs.size).all (fun k => decide ((zlit (lo + k)).toInt = lo + k))
  | .lookupswitch _ ps => ps.toList.all (fun q => decide ((zlit q.1).toInt = q.1))
  | _ => true
def zrgM (M : zMe) : Bool := M.2.2.2.2.2.all (fun c => c.all (fun o => match o with
  | some e => zrgI e.1
  | none => true))
theorem zrg_all : zPt.all (fun c => c.all (fun o => match o with
  | some M => zrgM M
  | none => true)) = true := by decide +kernel
theorem zP_rg {a : Nat} {M : zMe} (h : zP a = some M) : zrgM M = true := by
  refine zlk_all (P := fun q => zrgM q = true) (l := zPt) (fun c hc o ho x hx => ?_) h
  have h1 := List.all_eq_true.mp (List.all_eq_true.mp zrg_all c hc) o ho
  rw [hx] at h1
  exact h1
theorem zrg_at {M : zMe} (hM : zrgM M = true) {pc : Nat} {e : zI} (h : zlk M.2.2.2.2.2 pc = some e) : zrgI e.1 = true := by
  refine zlk_all (P := fun e => zrgI e.1 = true) (l := M.2.2.2.2.2) (fun c hc o ho x hx => ?_) h
  have h1 := List.all_eq_true.mp (List.all_eq_true.mp hM c hc) o ho
  rw [hx] at h1
  exact h1
theorem zlit_iff {x : Int32} {v : Int} (h : (zlit v).toInt = v) : x = zlit v ↔ x.toInt = v := by
  constructor
  · intro e
    rw [e]
    exact h
  · intro e
    exact Int32.toInt_inj.mp (e.trans h.symm)
theorem zts_ok {x : Int32} {k : Nat → Prop} {pc : Nat} {d : Int} : ∀ {t : List Int} {v : Int}, (∀ j : Nat, j < t.length → (zlit (v + j)).toInt = v + j) → zts x k pc d v t → (∃ (j : Nat) (o : Int), t[j]? = some o ∧ x.toInt = v + j ∧ 0 ≤ (pc : Int) + o ∧ k ((pc : Int) + o).toNat) ∨ ((∀ j : Nat, j < t.length → x.toInt ≠ v + j) ∧ 0 ≤ (pc : Int) + d ∧ k ((pc : Int) + d).toNat)
  | [], v, _, h => by
    simp only [zts, ztg] at h
    split at h
    next hp => exact Or.inr ⟨fun j hj => by simp at hj, of_decide_eq_true hp, h⟩
    next => cases h
  | o :: t, v, hv, h => by
    simp only [zts] at h
    split at h
    next hx =>
      simp only [ztg] at h
      split at h
      next hp =>
        have e := (zlit_iff (by have := hv 0 (by simp); simpa using this)).mp hx
        exact Or.inl ⟨0, o, rfl, by simpa using e, of_decide_eq_true hp, h⟩
      next => cases h
    next hx =>
      have e : ¬ x.toInt = v := fun z => hx ((zlit_iff (by have := hv 0 (by simp); simpa using this)).mpr z)
      have hv2 : ∀ j : Nat, j < t.length → (zlit (v + 1 + j)).toInt = v + 1 + j := by
        intro j hj
        have h1 := hv (j + 1) (by simpa using hj)
        have e2 : v + 1 + (j : Int) = v + ((j + 1 : Nat) : Int) := by omega
        rw [e2]
        exact h1
      rcases zts_ok (t := t) (v := v + 1) hv2 h with ⟨j, o', g1, g2, g3, g4⟩ | ⟨g1, g2, g3⟩
      · exact Or.inl ⟨j + 1, o', by simpa using g1, by omega, g3, g4⟩
      · refine Or.inr ⟨fun j hj => ?_, g2, g3⟩
        cases j with
        | zero => simpa using e
        | succ j =>
          have := g1 j (by simpa using hj)
          omega
theorem zls_ok {x : Int32} {k : Nat → Prop} {pc : Nat} {d : Int} : ∀ {t : List (Int × Int)}, (∀ q ∈ t, (zlit q.1).toInt = q.1) → zls x k pc d t → 0 ≤ (pc : Int) + Op.lookupswitch.offset t d x.toInt ∧ k ((pc : Int) + Op.lookupswitch.offset t d x.toInt).toNat
  | [], _, h => by
    simp only [zls, ztg] at h
    split at h
    next hp => exact ⟨of_decide_eq_true hp, h⟩
    next => cases h
  | q :: t, hv, h => by
    obtain ⟨v, o⟩ := q
    simp only [zls] at h
    split at h
    next hx =>
      simp only [ztg] at h
      have e := (zlit_iff (hv (v, o) List.mem_cons_self)).mp hx
      rw [Op.lookupswitch.offset_cons, if_pos e.symm]
      split at h
      next hp => exact ⟨of_decide_eq_true hp, h⟩
      next => cases h
    next hx =>
      have e : ¬ x.toInt = v := fun z => hx ((zlit_iff (hv (v, o) List.mem_cons_self)).mpr z)
      rw [Op.lookupswitch.offset_cons, if_neg (fun z => e z.symm)]
      exact zls_ok (fun q hq => hv q (List.mem_cons_of_mem _ hq)) h
section ZWK
variable {X : Nat × (Nat → Int32)} {d : Nat} {M : zMe} {Q : zQ}
theorem zWp_step {pc pc' : Nat} {ls ls' st st' : List Value} {S S' : zSt} (hS : S'.1 = S.1) (hs : ∀ (cf : Nat → List Value → zSt → zRes) (n : Nat) (q : Option Value × zSt), zstp X cf M n pc' ls' st' S' = some q → zstp X cf M (n + 1) pc ls st S = some q) (h : zWp X d M pc' ls' st' S' Q) : zWp X d M pc ls st S Q := by
  obtain ⟨N, n, r, S1, h1, h2, h3⟩ := h
  exact ⟨N, n + 1, r, S1, hs _ _ _ h1, h2.trans hS, h3⟩
theorem zWp_mono {pc : Nat} {ls st : List Value} {S : zSt} {Q' : zQ} (hQ : ∀ r S, Q r S → Q' r S) (h : zWp X d M pc ls st S Q) : zWp X d M pc ls st S Q' := by
  obtain ⟨N, n, r, S1, h1, h2, h3⟩ := h
  exact ⟨N, n, r, S1, h1, h2, hQ _ _ h3⟩
theorem zCp_mono {a : Nat} {As : List Value} {S : zSt} {Q' : zQ} (hQ : ∀ r S, Q r S → Q' r S) (h : zCp X d a As S Q) : zCp X d a As S Q' := by
  obtain ⟨n, r, S1, h1, h2, h3⟩ := h
  exact ⟨n, r, S1, h1, h2, hQ _ _ h3⟩
theorem zCp_deep {a : Nat} {As : List Value} {S : zSt} (h : zCp X d a As S Q) : zCp X (d + 1) a As S Q := by
  obtain ⟨n, r, S1, h1, h2, h3⟩ := h
  exact ⟨n, r, S1, zrun_deep _ _ _ _ _ h1, h2, h3⟩
/-- a call of a method by its body -/
theorem zCp_of {a : Nat} {As : List Value} {S : zSt} (ha : a < 290) (hM : zP a = some M) (hl : (zini As).length ≤ M.2.2.2.1) (h : zWp X d M 0 (zpad M.2.2.2.1 (zini As)) [] S Q) : zCp X (d + 1) a As S Q := by
  obtain ⟨N, n, r, S1, h1, h2, h3⟩ := h
  refine ⟨max N n, r, S1, ?_, h2, h3⟩
  simp only [zrun]
  rw [if_neg (by omega), if_neg (by omega), hM]
  simp only
  rw [if_pos hl]
  exact zfuel (fun a As S q hq => zrun_fuel d N _ a As S (Nat.le_max_left _ _) hq) n _ _ _ _ _ (Nat.le_max_right _ _) h1
theorem zCp_str {a : Nat} {As : List Value} {S : zSt} {v : Value} (ha : 9000 ≤ a) (h : zstr a As = some v) (hQ : Q (some v) S) : zCp X (d + 1) a As S Q := by
  refine ⟨0, some v, S, ?_, rfl, hQ⟩
  simp only [zrun]
  rw [if_pos ha, h]
theorem zWp_call {virtual : Bool} {ck : List Value → Bool} {a b pc pc' : Nat} {ls st As rest : List Value} {S : zSt} (hp : zpop b st [] = some (As, rest)) (hw : zw rest ≤ 8) (hc : ck As = true)
    (hs : ∀ (cf : Nat → List Value → zSt → zRes) (n : Nat) (q : Option Value × zSt), zcall cf ck a b ls st S (fun st1 S1 => zstp X cf M n pc' ls st1 S1) = some q → zstp X cf M (n + 1) pc ls st S = some q)
    (h : zCp X d a As S (fun r S1 => zWp X d M pc' ls (r.toList ++ rest) S1 Q)) : zWp X d M pc ls st S Q := by
  obtain ⟨N, r, S1, h1, h2, N2, n2, r2, S2, h3, h4, h5⟩ := h
  refine ⟨max N N2, n2 + 1, r2, S2, hs _ _ _ ?_, h4.trans h2, h5⟩
  unfold zcall
  rw [hp]
  simp only
  rw [if_pos ⟨hw, hc⟩, zrun_fuel d N _ a As S (Nat.le_max_left _ _) h1]
  simp only
  rw [if_pos (Or.inl h2)]
  exact zfuel (fun a As S q hq => zrun_fuel d N2 _ a As S (Nat.le_max_right _ _) hq) n2 n2 _ _ _ _ (Nat.le_refl _) h3
set_option maxHeartbeats 4000000 in
set_option maxRecDepth 100000 in
theorem zW_ok {cw : Nat → List Value → zSt → zQ → Prop} {cut : Nat → Bool} {L : Nat → List Value → List Value → zSt → Prop} (hr : zrgM M = true) (hcw : ∀ a As S Q, cw a As S Q → zCp X d a As S Q) (hL : ∀ pc ls st S, cut pc = true → L pc ls st S → zWp X d M pc ls st S Q) :
    ∀ (n pc : Nat) (ls st : List Value) (S : zSt), zW X cw M cut L n pc ls st S Q → zWp X d M pc ls st S Q := by
  intro n
  induction n with
  | zero => intro pc ls st S h; cases h
  | succ n ih =>
    intro pc ls st S h
    obtain ⟨c, z, rr, f, g⟩ := S
    have hn : ∀ pc ls st S, (match cut pc with | true => L pc ls st S | false => zW X cw M cut L n pc ls st S Q) → zWp X d M pc ls st S Q := by
      intro pc ls st S h
      cases hc : cut pc with
      | true => rw [hc] at h; exact hL pc ls st S hc h
      | false => rw [hc] at h; exact ih pc ls st S h
    have hcall : ∀ (ck : List Value → Bool) (a b pc' : Nat), (∀ (cf : Nat → List Value → zSt → zRes) (n : Nat) (q : Option Value × zSt), zcall cf ck a b ls st (c, z, rr, f, g) (fun st1 S1 => zstp X cf M n pc' ls st1 S1) = some q → zstp X cf M (n + 1) pc ls st (c, z, rr, f, g) = some q) → zclW cw ck a b st (c, z, rr, f, g) (fun st1 S1 => (match cut pc' with | true => L pc' ls st1 S1 | false => zW X cw M cut L n pc' ls st1 S1 Q)) → zWp X d M pc ls st (c, z, rr, f, g) Q := by
      intro ck a b pc' hs h
      unfold zclW at h
      split at h
      next => cases h
      next As rest hp =>
        split at h
        next hw =>
          split at h
          next hc => exact zWp_call (virtual := true) hp (of_decide_eq_true hw) hc hs (zCp_mono (fun r S1 z => hn _ _ _ _ z) (hcw _ _ _ _ h))
          next => cases h
        next => cases h
    simp only [zW] at h
    split at h
    next => cases h
    next ins a b hk =>
    have hrg := zrg_at hr hk
    cases ins
    case astore i =>
      simp only [zfrc_eq] at h
      split at h
      · exact zWp_step rfl (fun cf n q h2 => by simp only [zstp, hk]; exact h2) (hn _ _ _ _ h)
      · cases h
    case istore i =>
      simp only [zfrc_eq] at h
      split at h
      · exact zWp_step rfl (fun cf n q h2 => by simp only [zstp, hk]; exact h2) (hn _ _ _ _ h)
      · cases h
    case lstore i =>
      simp only [zfrc_eq] at h
      split at h
      · exact zWp_step rfl (fun cf n q h2 => by simp only [zstp, hk]; exact h2) (hn _ _ _ _ h)
      · cases h
    case astore_n i =>
      simp only [zfrc_eq] at h
      split at h
      · exact zWp_step rfl (fun cf n q h2 => by simp only [zstp, hk]; exact h2) (hn _ _ _ _ h)
      · cases h
    case istore_n i =>
      simp only [zfrc_eq] at h
      split at h
      · exact zWp_step rfl (fun cf n q h2 => by simp only [zstp, hk]; exact h2) (hn _ _ _ _ h)
      · cases h
    case lstore_n i =>
      simp only [zfrc_eq] at h
      split at h
      · exact zWp_step rfl (fun cf n q h2 => by simp only [zstp, hk]; exact h2) (hn _ _ _ _ h)
      · cases h
    case aload i =>
      simp only at h
      split at h
      · next q hq => exact zWp_step rfl (fun cf n q h2 => by simp only [zstp, hk, hq]; exact h2) (hn _ _ _ _ h)
      · cases h
    case iload i =>
      simp only at h
      split at h
      · next q hq => exact zWp_step rfl (fun cf n q h2 => by simp only [zstp, hk, hq]; exact h2) (hn _ _ _ _ h)
      · cases h
    case lload i =>
      simp only at h
      split at h
      · next q hq => exact zWp_step rfl (fun cf n q h2 => by simp only [zstp, hk, hq]; exact h2) (hn _ _ _ _ h)
      · cases h
    case aload_n i =>
      simp only at h
      split at h
      · next q hq => exact zWp_step rfl (fun cf n q h2 => by simp only [zstp, hk, hq]; exact h2) (hn _ _ _ _ h)
      · cases h
    case iload_n i =>
      simp only at h
      split at h
      · next q hq => exact zWp_step rfl (fun cf n q h2 => by simp only [zstp, hk, hq]; exact h2) (hn _ _ _ _ h)
      · cases h
    case lload_n i =>
      simp only at h
      split at h
      · next q hq => exact zWp_step rfl (fun cf n q h2 => by simp only [zstp, hk, hq]; exact h2) (hn _ _ _ _ h)
      · cases h
    case iinc i dd =>
      simp only [zfrc_eq] at h
      split at h
      · next q hq =>
        have e : Int32.ofInt dd = zlit dd := of_decide_eq_true hrg
        exact zWp_step rfl (fun cf n q h2 => by simp only [zstp, hk, hq, e]; exact h2) (hn _ _ _ _ h)
      · cases h
    case iconst v =>
      simp only at h
      have e : Int32.ofInt v = zlit v := of_decide_eq_true hrg
      exact zWp_step rfl (fun cf n q h2 => by simp only [zstp, hk, e]; exact h2) (hn _ _ _ _ h)
    case bipush v =>
      simp only at h
      have e : (Int8.ofInt v).toInt32 = zlit v := of_decide_eq_true hrg
      exact zWp_step rfl (fun cf n q h2 => by simp only [zstp, hk, e]; exact h2) (hn _ _ _ _ h)
    case sipush v =>
      simp only at h
      have e : (Int16.ofInt v).toInt32 = zlit v := of_decide_eq_true hrg
      exact zWp_step rfl (fun cf n q h2 => by simp only [zstp, hk, e]; exact h2) (hn _ _ _ _ h)
    case ldc i =>
      simp only at h
      split at h
      · next hb => exact zWp_step rfl (fun cf n q h2 => by simp only [zstp, hk]; rw [if_pos (of_decide_eq_true hb)]; exact h2) (hn _ _ _ _ h)
      · next hb => exact zWp_step rfl (fun cf n q h2 => by simp only [zstp, hk]; rw [if_neg (of_decide_eq_false hb)]; exact h2) (hn _ _ _ _ h)
    case isub =>
      simp only [zsO.2] at h
      split at h
      · exact zWp_step rfl (fun cf n q h2 => by simp only [zstp, hk]; exact h2) (hn _ _ _ _ h)
      · cases h
    case imul =>
      simp only [zmO.2] at h
      split at h
      · exact zWp_step rfl (fun cf n q h2 => by simp only [zstp, hk]; exact h2) (hn _ _ _ _ h)
      · cases h
    case ineg =>
      simp only [znO.2] at h
      split at h
      · exact zWp_step rfl (fun cf n q h2 => by simp only [zstp, hk]; exact h2) (hn _ _ _ _ h)
      · cases h
    case ishl =>
      simp only [zhO.2] at h
      split at h
      · exact zWp_step rfl (fun cf n q h2 => by simp only [zstp, hk]; exact h2) (hn _ _ _ _ h)
      · cases h
    case ishr =>
      simp only [zgO.2] at h
      split at h
      · exact zWp_step rfl (fun cf n q h2 => by simp only [zstp, hk]; exact h2) (hn _ _ _ _ h)
      · cases h
    case iushr =>
      simp only [zuO.2] at h
      split at h
      · exact zWp_step rfl (fun cf n q h2 => by simp only [zstp, hk]; exact h2) (hn _ _ _ _ h)
      · cases h
    case lshl =>
      simp only [zlH.2] at h
      split at h
      · exact zWp_step rfl (fun cf n q h2 => by simp only [zstp, hk]; exact h2) (hn _ _ _ _ h)
      · cases h
    case lushr =>
      simp only [zlU.2] at h
      split at h
      · exact zWp_step rfl (fun cf n q h2 => by simp only [zstp, hk]; exact h2) (hn _ _ _ _ h)
      · cases h
    case lsub =>
      simp only [zlS.2] at h
      split at h
      · exact zWp_step rfl (fun cf n q h2 => by simp only [zstp, hk]; exact h2) (hn _ _ _ _ h)
      · cases h
    case idiv =>
      simp only [zdO.2, zrO.2] at h
      split at h
      · split at h
        · cases h
        · next hy => exact zWp_step rfl (fun cf n q h2 => by simp only [zstp, hk]; rw [if_neg hy]; exact h2) (hn _ _ _ _ h)
      · cases h
    case irem =>
      simp only [zdO.2, zrO.2] at h
      split at h
      · split at h
        · cases h
        · next hy => exact zWp_step rfl (fun cf n q h2 => by simp only [zstp, hk]; rw [if_neg hy]; exact h2) (hn _ _ _ _ h)
      · cases h
    case if_icmp cc off =>
      simp only at h
      split at h
      · cases cc <;> simp only at h <;> split at h <;> first
          | (next hc => exact zWp_step rfl (fun cf n q h2 => by simp only [zstp, hk]; rw [if_pos hc]; exact h2) (hn _ _ _ _ h))
          | (next hc => exact zWp_step rfl (fun cf n q h2 => by simp only [zstp, hk]; rw [if_neg hc]; exact h2) (hn _ _ _ _ h))
      · cases h
    case ifCond cc off =>
      simp only at h
      split at h
      · cases cc <;> simp only at h <;> split at h <;> first
          | (next hc => exact zWp_step rfl (fun cf n q h2 => by simp only [zstp, hk]; rw [if_pos hc]; exact h2) (hn _ _ _ _ h))
          | (next hc => exact zWp_step rfl (fun cf n q h2 => by simp only [zstp, hk]; rw [if_neg hc]; exact h2) (hn _ _ _ _ h))
      · cases h
    case iaload =>
      simp only at h
      split at h
      · next x i rs =>
        unfold zalW at h
        split at h
        next h7 =>
          split at h
          next => cases h
          next e =>
            refine zWp_step rfl (fun cf n q h2 => ?_) (hn _ _ _ _ h)
            simp only [zstp, hk, zalK]
            rw [if_pos (of_decide_eq_true h7), if_neg e]
            exact h2
        next h7 =>
          split at h
          next ci ks hl =>
            split at h
            next hc =>
              split at h
              next => cases h
              next e =>
                refine zWp_step rfl (fun cf n q h2 => ?_) (hn _ _ _ _ h)
                simp only [zstp, hk, zalK]
                rw [if_neg (of_decide_eq_false h7), hl]
                simp only
                rw [if_pos (of_decide_eq_true hc), if_neg e]
                exact h2
            next => cases h
          next => cases h
      · cases h
    case iastore =>
      simp only at h
      split at h
      · next v x i rs =>
        unfold zasW at h
        split at h
        next ci ks hl =>
          split at h
          next hc =>
            split at h
            next => cases h
            next e =>
            refine zWp_step ?_ (fun cf n q h2 => ?_) (hn _ _ _ _ h)
            · rfl
            · simp only [zstp, hk, zasK]
              rw [hl]
              simp only
              rw [if_pos (of_decide_eq_true hc), if_neg e]
              exact h2
          next => cases h
        next => cases h
      · cases h
    case aaload =>
      simp only at h
      split at h
      · next x i rs =>
        unfold zaaW at h
        split at h
        next ci ks hl =>
          split at h
          next hc =>
            split at h
            next =>
              split at h
              next => cases h
              next e =>
              refine zWp_step rfl (fun cf n q h2 => ?_) (hn _ _ _ _ h)
              have hlt : x.toNatClampNeg < ks.length := Nat.not_le.mp (fun z => e (Or.inr z))
              simp only [zstp, hk, zaaK]
              rw [hl]
              simp only
              rw [if_pos (of_decide_eq_true hc), if_neg e]
              simp only [zin]
              rw [List.getElem?_eq_getElem hlt]
              simp only
              rw [List.getD_eq_getElem?_getD, List.getElem?_eq_getElem hlt] at h2
              exact h2
            next => cases h
          next => cases h
        next => cases h
      · cases h
    case arraylength =>
      simp only at h
      split at h
      · next i rs =>
        unfold zlnW at h
        split at h
        next h7 => exact zWp_step rfl (fun cf n q h2 => by simp only [zstp, hk, zlnK]; rw [if_pos (of_decide_eq_true h7)]; exact h2) (hn _ _ _ _ h)
        next h7 =>
          split at h
          next ci ks hl =>
            split at h
            next hc => exact zWp_step rfl (fun cf n q h2 => by simp only [zstp, hk, zlnK]; rw [if_neg (of_decide_eq_false h7), hl]; simp only; rw [if_pos (of_decide_eq_true hc)]; exact h2) (hn _ _ _ _ h)
            next => cases h
          next => cases h
      · cases h
    case getfield idx =>
      simp only at h
      split at h
      · next i rs =>
        unfold zgW at h
        split at h
        next ci ks hl =>
          split at h
          next hc =>
            split at h
            next hb => exact zWp_step rfl (fun cf n q h2 => by simp only [zstp, hk, zgfK]; rw [hl]; simp only; rw [if_pos (of_decide_eq_true hc), hb]; exact h2) (hn _ _ _ _ h)
            next hb => exact zWp_step rfl (fun cf n q h2 => by simp only [zstp, hk, zgfK]; rw [hl]; simp only; rw [if_pos (of_decide_eq_true hc), hb]; exact h2) (hn _ _ _ _ h)
            next hb => exact zWp_step rfl (fun cf n q h2 => by simp only [zstp, hk, zgfK]; rw [hl]; simp only; rw [if_pos (of_decide_eq_true hc), hb]; exact h2) (hn _ _ _ _ h)
            next j hb =>
              split at h
              next => cases h
              next hz => exact zWp_step rfl (fun cf n q h2 => by simp only [zstp, hk, zgfK]; rw [hl]; simp only; rw [if_pos (of_decide_eq_true hc), hb]; simp only; rw [hz]; exact h2) (hn _ _ _ _ h)
            next => cases h
          next => cases h
        next => cases h
      · cases h
    case putfield idx =>
      simp only at h
      split at h
      · next v i rs =>
        unfold zpW at h
        split at h
        next ci ks hl =>
          split at h
          next hc =>
            split at h
            next hb =>
              split at h
              next => exact zWp_step (by rfl) (fun cf n q h2 => by simp only [zstp, hk, zpfK]; rw [hl]; simp only; rw [if_pos (of_decide_eq_true hc), hb]; exact h2) (hn _ _ _ _ h)
              next => cases h
            next hb =>
              split at h
              next =>
                split at h
                next hx => exact zWp_step (by rfl) (fun cf n q h2 => by simp only [zstp, hk, zpfK]; rw [hl]; simp only; rw [if_pos (of_decide_eq_true hc), hb]; simp only; rw [if_pos hx]; exact h2) (hn _ _ _ _ h)
                next => cases h
              next => cases h
            next hb =>
              split at h
              next => exact zWp_step (by rfl) (fun cf n q h2 => by simp only [zstp, hk, zpfK]; rw [hl]; simp only; rw [if_pos (of_decide_eq_true hc), hb]; exact h2) (hn _ _ _ _ h)
              next => cases h
            next => cases h
          next => cases h
        next => cases h
      · cases h
    case invokevirtual idx =>
      exact hcall _ _ _ _ (fun cf n q h2 => by simp only [zstp, hk]; exact h2) h
    case invokestatic idx =>
      simp only at h
      split at h
      · next h99 =>
        split at h
        · next k dp j sp i rs =>
          split at h
          · next hw =>
            unfold zcpW at h
            split at h
            next c1 k1 c2 k2 hl1 hl2 =>
              split at h
              next hc =>
                split at h
                next hx =>
                  refine zWp_step (by rfl) (fun cf n q h2 => ?_) (hn _ _ _ _ h)
                  simp only [zstp, hk, zcpK]
                  rw [if_pos (of_decide_eq_true h99), if_pos (of_decide_eq_true hw), hl1, hl2]
                  simp only
                  have hc := of_decide_eq_true hc
                  rw [if_pos ⟨hc.1.1, hc.1.2, hc.2⟩, if_pos hx]
                  exact h2
                next => cases h
              next => cases h
            next => cases h
          · cases h
        · cases h
      · next h99 => exact hcall _ _ _ _ (fun cf n q h2 => by simp only [zstp, hk]; rw [if_neg (of_decide_eq_false h99)]; exact h2) h
    case tableswitch dd lo hi offs =>
      simp only at h
      split at h
      · next x rs =>
        simp only [zrgI, Bool.and_eq_true, decide_eq_true_eq] at hrg
        obtain ⟨hr1, hr2⟩ := hrg
        rcases zts_ok (fun k hk => of_decide_eq_true (List.all_eq_true.mp hr2 k (List.mem_range.mpr (by simpa using hk)))) h with ⟨k, o, g1, g2, g3, g4⟩ | ⟨g1, g2, g3⟩
        · have hl : k < offs.toList.length := (List.getElem?_eq_some_iff.mp g1).1
          have hl2 : k < offs.size := by simpa using hl
          have hc : ¬ (x.toInt < lo ∨ hi < x.toInt) := by omega
          have ho : offs[(x.toInt - lo).toNat]? = some o := by
            have e : (x.toInt - lo).toNat = k := by omega
            rw [e, ← Array.getElem?_toList]
            exact g1
          exact zWp_step rfl (fun cf n q z => by simp only [zstp, hk]; rw [if_neg hc, ho]; simp only; rw [if_pos g3]; exact z) (hn _ _ _ _ g4)
        · have hc : x.toInt < lo ∨ hi < x.toInt := by
            by_cases h1 : x.toInt < lo
            · exact Or.inl h1
            · by_cases h2 : hi < x.toInt
              · exact Or.inr h2
              · have h3 := g1 (x.toInt - lo).toNat (by simp only [Array.length_toList]; omega)
                omega
          exact zWp_step rfl (fun cf n q z => by simp only [zstp, hk]; rw [if_pos hc, if_pos g2]; exact z) (hn _ _ _ _ g3)
      · cases h
    case lookupswitch dd ps =>
      simp only at h
      split at h
      · next x rs =>
        obtain ⟨g1, g2⟩ := zls_ok (fun q hq => of_decide_eq_true (List.all_eq_true.mp hrg q hq)) h
        exact zWp_step rfl (fun cf n q z => by simp only [zstp, hk]; rw [if_pos g1]; exact z) (hn _ _ _ _ g2)
      · cases h
    case ireturn =>
      simp only at h
      split at h
      · next v =>
        split at h
        · next hb =>
          split at h
          · next hv => exact ⟨0, 1, some (.int v), (c, z, rr, f, g), by simp only [zstp, hk]; rw [hb]; simp only; rw [if_pos hv], rfl, h⟩
          · cases h
        · next hb => exact ⟨0, 1, some (.int v), (c, z, rr, f, g), by simp only [zstp, hk]; rw [hb], rfl, h⟩
        · cases h
      · cases h
    case return_ =>
      simp only at h
      split at h
      · split at h
        · next hb => exact ⟨0, 1, none, (c, z, rr, f, g), by simp only [zstp, hk]; rw [hb], rfl, h⟩
        · cases h
      · cases h
    all_goals simp only at h
    all_goals first
      | (exact zWp_step rfl (fun cf n q h2 => by simp only [zstp, hk]; exact h2) (hn _ _ _ _ h))
      | (cases h; done)
      | (split at h <;> first
          | (exact zWp_step rfl (fun cf n q h2 => by simp only [zstp, hk]; exact h2) (hn _ _ _ _ h))
          | (cases h; done))
theorem zWr_ok {op : Nat → Nat} {F : Nat} : ∀ (d a : Nat) (As : List Value) (S : zSt) (Q : zQ), zWr X op F d a As S Q → zCp X d a As S Q := by
  intro d
  induction d with
  | zero => intro a As S Q h; cases h
  | succ d ih =>
    intro a As S Q h
    simp only [zWr] at h
    split at h
    next =>
      split at h
      next => cases h
      next h9 =>
        split at h
        next => cases h
        next M hM =>
          split at h
          next hl => exact zCp_of (by have := of_decide_eq_false h9; omega) hM (of_decide_eq_true hl) (zW_ok (zP_rg hM) ih (fun _ _ _ _ z => by cases z) _ _ _ _ _ h)
          next => cases h
    next => exact zCp_mono (fun r S1 ⟨v, f, g, e1, e2, z⟩ => by rw [e1, e2]; exact z) h
    next => exact zCp_mono (fun r S1 ⟨f, g, e1, e2, z⟩ => by rw [e1, e2]; exact z) h
    next =>
      split at h
      next v hv =>
        by_cases h9 : 9000 ≤ a
        · exact zCp_str h9 hv h
        · exfalso
          unfold zstr at hv
          split at hv
          · rw [if_neg (by omega)] at hv; cases hv
          · rw [if_neg (by omega), if_neg (by omega)] at hv; cases hv
          · cases hv
      next => cases h
/-- from a place in a method: cuts give what must hold there -/
theorem zWp_of {op : Nat → Nat} {F : Nat} (cut : Nat → Bool) (n : Nat) {pc : Nat} {ls st : List Value} {S : zSt} (hr : zrgM M = true) (h : zW X (zWr X op F d) M cut (fun pc ls st S => zWp X d M pc ls st S Q) n pc ls st S Q) : zWp X d M pc ls st S Q :=
  zW_ok hr (fun a As S Q z => zWr_ok d a As S Q z) (fun pc ls st S _ z => z) n pc ls st S h
end ZWK

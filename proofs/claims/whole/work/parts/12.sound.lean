theorem zva9 {o i a b : Nat} (h : (zq5 zVL o i a b || (zq5 zVS o i a b && decide (9000 ≤ a))) = true) : a < 290 ∨ 9000 ≤ a := by
  simp only [Bool.or_eq_true, Bool.and_eq_true, decide_eq_true_eq] at h
  rcases h with h | h
  · obtain ⟨x, hq⟩ := zq5_ok h
    have h2 := zVL_lt
    simp only [Bool.and_eq_true] at h2
    exact Or.inl (of_decide_eq_true (List.all_eq_true.mp h2.1.1.1.1 _ hq))
  · exact Or.inr h.2
theorem zfit {ty : FieldType} {v : Value} {ad : Nat → Nat} (h1 : narrow ty v = v) (h2 : fits ty v = true) : narrow ty (zcv ad v) = zcv ad v ∧ fits ty (zcv ad v) = true := by
  cases v with
  | ref q => cases ty <;> first | (cases h2; done) | exact ⟨rfl, rfl⟩
  | _ => exact ⟨h1, h2⟩
section ZS2
variable {p : Program} {l : Launch} {e : Env} {R : Room} {s : State} {m : MethodId} {args : Array Value} {below : List Frame} {meth : Method} {c : Code} {Q : State → Prop}
variable {dC : Nat → ClassId} {dI : Nat → Nat → Nat} {cI cR : ClassId} {h0 : Nat} {KS : State → Prop} {adX : Nat → Nat} {X : Nat × (Nat → Int32)}
theorem zst2_loc {nL : Nat} {ad : Nat → Nat} {ls : List Value} {sl sl' : Array Slot} {i : Nat} {x : Int64} (hi : i + 1 < nL) (h : zloc nL ad ls sl) (h' : lv_has sl' nL ((i, Value.long x) :: (zlv ad ls).filter (fun q => !(q.1 == i) && (!(q.1 == i + 1) && !(q.1 + 1 == i && q.2.category == 2))))) : zloc nL ad (zst2 ls i (.long x)) sl' := by
  obtain ⟨h1, h2, h3, h4⟩ := h
  refine ⟨by simp only [zst2, List.length_set, zst_len]; exact h1, h'.1, h'.2.1, fun j v hv hn => ?_⟩
  by_cases hj1 : j = i + 1
  · subst hj1
    unfold zst2 at hv
    rw [List.getElem?_set_self (by rw [zst_len, h1]; exact hi)] at hv
    exact absurd (Option.some.inj hv).symm hn
  · unfold zst2 at hv
    rw [List.getElem?_set_ne (Ne.symm hj1)] at hv
    rcases zst_at (by rw [h1]; omega) hv hn with ⟨rfl, rfl⟩ | ⟨hj, hl, hc⟩
    · exact h'.2.2 (_, _) List.mem_cons_self
    · refine h'.2.2 (j, zcv ad v) (List.mem_cons_of_mem _ (List.mem_filter.mpr ⟨zlv_mem hl hn, ?_⟩))
      simp only [Bool.and_eq_true, Bool.not_eq_true', beq_eq_false_iff_ne, Bool.and_eq_false_iff, zcv_cat]
      refine ⟨hj, hj1, ?_⟩
      by_cases hji : j + 1 = i
      · right
        intro hcat
        exact hc ⟨hji, hcat⟩
      · left
        exact hji
/-- what a method's body stands on: the machine, its code, the words, the classes -/
def zBd (p : Program) (s : State) (m : MethodId) (args : Array Value) (meth : Method) (c : Code) (R : Room) (dC : Nat → ClassId) (dI : Nat → Nat → Nat) (cI cR : ClassId) (h0 : Nat) (KS : State → Prop) (d : Nat) (M : zMe) : Prop :=
  p.tables.exec = Jvm.exec ∧ c.code = M.2.2.1 ∧ c.maxLocals = M.2.2.2.1 ∧ s.vm.findClass (zR M.1) = some m.cls ∧ (∀ w ∈ zT, w.before args s = true) ∧ (M.2.1.name = "<init>" → meth.name = "<init>") ∧ va_K (dC, dI) vwCl (ztys cI cR) s ∧ h0 ≤ s.heap.size ∧ zKK KS s ∧ zKst h0 KS ∧ d + 1 ≤ R.frames ∧ 100 * d + 100 ≤ R.locals
/-- the script, and the two strings -/
def zScr (KS : State → Prop) (adX : Nat → Nat) (h0 : Nat) (X : Nat × (Nat → Int32)) : Prop := ∀ U : State, KS U → va_X (adX 7777) X.1 X.2 U U.heap ∧ adX 7777 < h0
def zLdc (KS : State → Prop) (adX : Nat → Nat) : Prop := ∀ U : State, KS U → ∀ q ∈ zST, ∃ tx, vk_R (zR q.1) q.2.1 tx (adX q.2.2.1) U
def zRcv (KS : State → Prop) (adX : Nat → Nat) (h0 : Nat) : Prop := ∀ (U : State) (i : Nat), KS U → (i = 5000 ∨ i = 5001) → ∃ cell : Cell, U.heap[adX i]? = some cell ∧ cell.vm.isStatics = false ∧ U.vm.findClass "java/lang/String" = some cell.cls ∧ adX i < h0
theorem zrecv {a : Nat} {As : List Value} {S : zSt} {ad : Nat → Nat} {H : Heap} {locs : List Loc} (hrc : zrc a As S = true) (hPW : zPW) (hK : va_K (dC, dI) vwCl (ztys cI cR) s) (hh : h0 ≤ s.heap.size) (hKK : zKK KS s) (hRcv : zRcv KS adX h0) (hX : ∀ i, 5000 ≤ i → ad i = adX i) (hW : zWd dC dI cI cR h0 ad S H) (hS : va_S (zA h0) s.heap H locs) (ha9 : a < 290 ∨ 9000 ≤ a) :
    ∃ i As0, As = .ref i :: As0 ∧ ∃ cellB : Cell, H[ad i]? = some cellB ∧ cellB.vm.isStatics = false ∧ s.vm.findClass (zinf a).1.cls = some cellB.cls := by
  unfold zrc at hrc
  split at hrc
  next i As0 =>
    refine ⟨i, As0, rfl, ?_⟩
    split at hrc
    next h9 =>
      simp only [Bool.or_eq_true, beq_iff_eq] at hrc
      obtain ⟨cell, g1, g2, g3, g4⟩ := hRcv s i hKK.2.2 hrc
      have hi : zinf a = zsm a := by unfold zinf; rw [if_pos h9]
      refine ⟨cell, ?_, g2, by rw [hi, (zsm_cls a).1]; exact g3⟩
      rw [hX i (by rcases hrc with rfl | rfl <;> decide), zlow hh hS _ g4]
      exact g1
    next h9 =>
      simp only [Bool.and_eq_true, decide_eq_true_eq] at hrc
      obtain ⟨hi, hrc⟩ := hrc
      split at hrc
      next ci ks hl =>
        split at hrc
        next M hM =>
          simp only [Bool.and_eq_true, beq_iff_eq, decide_eq_true_eq] at hrc
          obtain ⟨rfl, hc⟩ := hrc
          have ha : a < 290 := by omega
          obtain ⟨M', q, e1, -, e3⟩ := hPW a ha
          rw [hM] at e1
          cases e1
          simp only [zmw, Bool.and_eq_true, decide_eq_true_eq] at e3
          obtain ⟨⟨⟨⟨⟨⟨⟨-, -⟩, -⟩, e4⟩, -⟩, -⟩, -⟩, -⟩ := e3
          obtain ⟨cell, g1, g2, g3⟩ := va_recv (q := zC M.1) hK hW.1 (zC_at _ hc) (q0 := i) (by rw [zwo_at hi, zce_obj hl hc])
          exact ⟨cell, g1, g2, by rw [zinf_lt ha hM]; simp only; rw [e4, ← zR_C _ hc]; exact g3⟩
        next => cases hrc
      next => cases hrc
  next => cases hrc
theorem znfw : nativeFrameWords "java/lang/System" "arraycopy" 5 ≤ 50 := by decide +kernel
theorem zce_push {ad : Nat → Nat} {S S1 : zSt} {q : Nat} (hI : zinv S) (h1 : ∀ j, j < S.1 → S1.2.2.2.1 j = S.2.2.2.1 j ∧ S1.2.2.2.2 j = S.2.2.2.2 j ∧ ∀ k, zin S1.2.2.1 j k = zin S.2.2.1 j k) : ∀ j, j < S.1 → zce cI cR (zad ad S.1 q) S1 j = zce cI cR ad S j := by
  intro j hj
  obtain ⟨e1, e2, e3⟩ := h1 j hj
  rw [zce_congr e1 e2 e3]
  cases hl : zlay j with
  | none => simp only [zce, hl]
  | some p =>
    obtain ⟨ci, ks⟩ := p
    obtain ⟨g1, g2⟩ := hI j ci ks hj hl
    rcases zlay_cases hl with hc | rfl | rfl
    · rw [zce_obj hl hc, zce_obj hl hc]
      congr 2
      apply List.ext_getElem?
      intro k
      rw [List.getElem?_mapIdx, List.getElem?_mapIdx]
      cases hk : ks[k]? with
      | none => rfl
      | some kd =>
        simp only [Option.map_some, Option.some.injEq]
        match kd, hk with
        | 0, _ => rfl
        | 1, _ => rfl
        | 2, _ => rfl
        | x + 3, hk =>
          simp only [zkv]
          cases hz : zin S.2.2.1 j k with
          | true => rfl
          | false =>
            have := g1 hc k x hk hz
            simp only [zad, if_neg (show ¬ x = S.1 by omega)]
    · rw [zce_int hl, zce_int hl]
    · rw [zce_ref hl, zce_ref hl]
      refine congrArg (fun f => (Sum.inl (cR, ks.length, Sum.inr (Sum.inr (Sum.inr (Sum.inr f)))) : va_E)) ?_
      funext k
      simp only [zrfn]
      cases hz : zin S.2.2.1 j k with
      | true => rfl
      | false =>
        cases hk : ks[k]? with
        | none => rfl
        | some x =>
          have := g2 rfl k x hk hz
          simp only [Option.map_some, zad, if_neg (show ¬ x = S.1 by omega)]
theorem zad_agree {ad : Nat → Nat} {n q : Nat} (hn : n < 5000) : ∀ i, i < n ∨ 5000 ≤ i → zad ad n q i = ad i := by
  intro i hi
  simp only [zad]
  rw [if_neg (by omega)]
set_option maxHeartbeats 4000000 in
set_option maxRecDepth 100000 in
theorem zsound_stp {cf : Nat → List Value → zSt → zRes} {M : zMe} {d : Nat} {r : Option Value} {S' : zSt} {c0 z0 : Nat} {ad0 : Nat → Nat}
    (hPW : zPW) (hMk : zchkM M = true) (hBd : zBd p s m args meth c R dC dI cI cR h0 KS d M) (hScr : zScr KS adX h0 X) (hLdc : zLdc KS adX) (hRcv : zRcv KS adX h0) (had0 : ∀ i, 5000 ≤ i → ad0 i = adX i)
    (hcf : ∀ a As S r S1, cf a As S = some (r, S1) → zinv S → (S.1 ≤ S1.1 ∧ S.2.1 ≤ S1.2.1 ∧ zinv S1) ∧ (∀ ad, r.toList.map (zcv ad) = r.toList) ∧ zMet l dC dI cI cR h0 KS adX d a As S r S1)
    (hRc : S'.1 - c0 ≤ R.cells) (hRs : S'.2.1 - z0 ≤ R.slots)
    (hendI : ∀ v, r = some (.int v) → (M.2.2.2.2.1 = some .int ∨ (M.2.2.2.2.1 = some .boolean ∧ (v = 0 ∨ v = 1))) → ∀ pc sl H locs ad, decode M.2.2.1 pc = .ok (.ireturn, 1) → zWd dC dI cI cR h0 ad S' H → va_S (zA h0) s.heap H locs → (∀ i, i < c0 ∨ 5000 ≤ i → ad i = ad0 i) → (S'.1 = c0 → ad = ad0) → W p l e R s m args below meth c H locs (S'.1 - c0) (S'.2.1 - z0) Q (F0 m pc sl [.int v]))
    (hendV : r = none → M.2.2.2.2.1 = none → ∀ pc sl H locs ad, decode M.2.2.1 pc = .ok (.return_, 1) → zWd dC dI cI cR h0 ad S' H → va_S (zA h0) s.heap H locs → (∀ i, i < c0 ∨ 5000 ≤ i → ad i = ad0 i) → (S'.1 = c0 → ad = ad0) → W p l e R s m args below meth c H locs (S'.1 - c0) (S'.2.1 - z0) Q (F0 m pc sl [])) :
    ∀ (n pc : Nat) (ls st : List Value) (S : zSt), zstp X cf M n pc ls st S = some (r, S') → zinv S → ∀ (ad : Nat → Nat) (sl : Array Slot) (H : Heap) (locs : List Loc), zloc M.2.2.2.1 ad ls sl → zWd dC dI cI cR h0 ad S H → va_S (zA h0) s.heap H locs → c0 ≤ S.1 → z0 ≤ S.2.1 → (∀ i, i < c0 ∨ 5000 ≤ i → ad i = ad0 i) → (S.1 = c0 → ad = ad0) →
      W p l e R s m args below meth c H locs (S.1 - c0) (S.2.1 - z0) Q (F0 m pc sl (st.map (zcv ad))) := by
  obtain ⟨hx, hb, hml, hown, hts, hname, hK, hh, hKK, hKS, hRf, hRl⟩ := id hBd
  intro n
  induction n with
  | zero => intro pc ls st S h; cases h
  | succ n ih =>
    intro pc ls st S h hI ad sl H locs hL hW hS hc0 hz0 had hade
    have hmono := fun (pc : Nat) (ls st : List Value) (S : zSt) (h : zstp X cf M n pc ls st S = some (r, S')) (hI : zinv S) => zmono hMk (fun a As S r S1 h hI => (hcf a As S r S1 h hI).1) n pc ls st S h hI
    have hA : ∀ q, s.heap.size ≤ q → zA h0 q := fun q hq => Nat.le_trans hh hq
    have hX : ∀ i, 5000 ≤ i → ad i = adX i := fun i hi => (had i (Or.inr hi)).trans (had0 i hi)
    have hsz : sl.size = M.2.2.2.1 := hL.2.1
    have hRd : d + 1 ≤ R.frames ∧ 100 * d + 100 ≤ R.locals := ⟨hRf, hRl⟩
    simp only [zstp] at h
    split at h
    next => cases h
    next ins a b hk =>
    have hck := zchkM_ok hMk hk
    simp only [zchk, Bool.and_eq_true] at hck
    obtain ⟨hd, hex⟩ := hck
    have hafter : ∀ (As rest : List Value) (r1 : Option Value) (S1 : zSt), cf a As S = some (r1, S1) → S1.1 = S.1 ∨ (zok S.1 ls = true ∧ zok S.1 rest = true) → zstp X cf M n (pc + 3) ls (r1.toList ++ rest) S1 = some (r, S') →
        (S.1 - c0 + (S1.1 - S.1) ≤ R.cells ∧ S.2.1 - z0 + (S1.2.1 - S.2.1) ≤ R.slots) ∧ ∀ (ad' : Nat → Nat) (H1 : Heap) (locs1 : List Loc), (∀ i, i < S.1 ∨ 5000 ≤ i → ad' i = ad i) → (S1.1 = S.1 → ad' = ad) → zWd dC dI cI cR h0 ad' S1 H1 → va_S (zA h0) s.heap H1 locs1 → W p l e R s m args below meth c H1 locs1 (S.1 - c0 + (S1.1 - S.1)) (S.2.1 - z0 + (S1.2.1 - S.2.1)) Q (F0 m (pc + 3) sl (r1.toList ++ rest.map (zcv ad))) := by
      intro As rest r1 S1 hr hok h
      obtain ⟨⟨g1, g2, g3⟩, g4, -⟩ := hcf _ _ _ _ _ hr hI
      obtain ⟨k1, k2, -⟩ := hmono _ _ _ _ h g3
      simp only at k1 k2
      have e1 : S.1 - c0 + (S1.1 - S.1) = S1.1 - c0 := by omega
      have e2 : S.2.1 - z0 + (S1.2.1 - S.2.1) = S1.2.1 - z0 := by omega
      rw [e1, e2]
      refine ⟨⟨by omega, by omega⟩, fun ad' H1 locs1 q1 q2 q3 q4 => ?_⟩
      have hrest : rest.map (zcv ad') = rest.map (zcv ad) := by
        rcases hok with hq | hq
        · rw [q2 hq]
        · exact zok_map q1 rest hq.2
      have hL' : zloc M.2.2.2.1 ad' ls sl := by
        rcases hok with hq | hq
        · rw [q2 hq]; exact hL
        · exact zok_loc q1 hq.1 hL
      have k3 := ih _ _ _ _ h g3 ad' sl H1 locs1 hL' q3 q4 (by omega) (by omega) (fun i hi => (q1 i (by omega)).trans (had i hi)) (fun z => (q2 (by omega)).trans (hade (by omega)))
      rw [List.map_append, g4 ad', hrest] at k3
      exact k3
    cases ins
    case aload i =>
      have hdg := zdec_ok hd rfl
      simp only at h
      split at h
      · next q hq =>
        have k2 := ih _ _ _ _ h hI ad sl H locs hL hW hS hc0 hz0 had hade
        exact lv_aload hx hb hdg (hL.2.2.2 i _ hq (fun z => by cases z)) k2
      · cases h
    case aload_n i =>
      have hdg := zdec_ok hd rfl
      simp only at h
      split at h
      · next q hq =>
        have k2 := ih _ _ _ _ h hI ad sl H locs hL hW hS hc0 hz0 had hade
        exact lv_aload_n hx hb hdg rfl (hL.2.2.2 i.val _ hq (fun z => by cases z)) k2
      · cases h
    case iload i =>
      have hdg := zdec_ok hd rfl
      simp only at h
      split at h
      · next q hq =>
        have k2 := ih _ _ _ _ h hI ad sl H locs hL hW hS hc0 hz0 had hade
        exact lv_iload hx hb hdg (hL.2.2.2 i _ hq (fun z => by cases z)) k2
      · cases h
    case iload_n i =>
      have hdg := zdec_ok hd rfl
      simp only at h
      split at h
      · next q hq =>
        have k2 := ih _ _ _ _ h hI ad sl H locs hL hW hS hc0 hz0 had hade
        exact lv_iload_n hx hb hdg rfl (hL.2.2.2 i.val _ hq (fun z => by cases z)) k2
      · cases h
    case lload i =>
      have hdg := zdec_ok hd rfl
      simp only at h
      split at h
      · next q hq =>
        have k2 := ih _ _ _ _ h hI ad sl H locs hL hW hS hc0 hz0 had hade
        exact lv_lload hx hb hdg (hL.2.2.2 i _ hq (fun z => by cases z)) k2
      · cases h
    case lload_n i =>
      have hdg := zdec_ok hd rfl
      simp only at h
      split at h
      · next q hq =>
        have k2 := ih _ _ _ _ h hI ad sl H locs hL hW hS hc0 hz0 had hade
        exact lv_lload_n hx hb hdg rfl (hL.2.2.2 i.val _ hq (fun z => by cases z)) k2
      · cases h
    case astore i =>
      have hdg := zdec_ok hd rfl
      have hlt : i < M.2.2.2.1 := of_decide_eq_true hex
      simp only at h
      split at h
      · next q rr =>
        exact lv_astore hx hb hdg (zlv_has hL) hlt rfl (fun sl' h' => ih _ _ _ _ h hI ad sl' H locs (zst_loc (v := .ref q) hlt hL rfl h') hW hS hc0 hz0 had hade)
      · cases h
    case astore_n i =>
      have hdg := zdec_ok hd rfl
      have hlt : i.val < M.2.2.2.1 := of_decide_eq_true hex
      simp only at h
      split at h
      · next q rr =>
        exact lv_astore_n hx hb hdg rfl (zlv_has hL) hlt rfl (fun sl' h' => ih _ _ _ _ h hI ad sl' H locs (zst_loc (v := .ref q) hlt hL rfl h') hW hS hc0 hz0 had hade)
      · cases h
    case istore i =>
      have hdg := zdec_ok hd rfl
      have hlt : i < M.2.2.2.1 := of_decide_eq_true hex
      simp only at h
      split at h
      · next q rr =>
        exact lv_istore hx hb hdg (zlv_has hL) hlt rfl (fun sl' h' => ih _ _ _ _ h hI ad sl' H locs (zst_loc (v := .int q) hlt hL rfl h') hW hS hc0 hz0 had hade)
      · cases h
    case istore_n i =>
      have hdg := zdec_ok hd rfl
      have hlt : i.val < M.2.2.2.1 := of_decide_eq_true hex
      simp only at h
      split at h
      · next q rr =>
        exact lv_istore_n hx hb hdg rfl (zlv_has hL) hlt rfl (fun sl' h' => ih _ _ _ _ h hI ad sl' H locs (zst_loc (v := .int q) hlt hL rfl h') hW hS hc0 hz0 had hade)
      · cases h
    case lstore i =>
      have hdg := zdec_ok hd rfl
      have hlt : i + 1 < M.2.2.2.1 := of_decide_eq_true hex
      simp only at h
      split at h
      · next q rr =>
        exact lv_lstore hx hb hdg (zlv_has hL) hlt rfl (fun sl' h' => ih _ _ _ _ h hI ad sl' H locs (zst2_loc hlt hL h') hW hS hc0 hz0 had hade)
      · cases h
    case lstore_n i =>
      have hdg := zdec_ok hd rfl
      have hlt : i.val + 1 < M.2.2.2.1 := of_decide_eq_true hex
      simp only at h
      split at h
      · next q rr =>
        exact lv_lstore_n hx hb hdg rfl (zlv_has hL) hlt rfl (fun sl' h' => ih _ _ _ _ h hI ad sl' H locs (zst2_loc hlt hL h') hW hS hc0 hz0 had hade)
      · cases h
    case iinc i dd =>
      have hdg := zdec_ok hd rfl
      have hlt : i < M.2.2.2.1 := of_decide_eq_true hex
      simp only at h
      split at h
      · next q hq =>
        obtain ⟨k, hk2⟩ := List.getElem?_of_mem (zlv_mem (ad := ad) hq (fun z => by cases z))
        exact lv_iinc hx hb hdg (zlv_has hL) hk2 rfl hlt rfl (fun sl' h' => ih _ _ _ _ h hI ad sl' H locs (zst_loc (v := .int (q + Int32.ofInt dd)) hlt hL rfl h') hW hS hc0 hz0 had hade)
      · cases h
    case iconst v =>
      have hdg := zdec_ok hd rfl
      simp only at h
      have k2 := ih _ _ _ _ h hI ad sl H locs hL hW hS hc0 hz0 had hade
      exact lv_iconst hx hb hdg rfl k2
    case bipush v =>
      have hdg := zdec_ok hd rfl
      simp only at h
      have k2 := ih _ _ _ _ h hI ad sl H locs hL hW hS hc0 hz0 had hade
      exact lv_bipush hx hb hdg rfl k2
    case sipush v =>
      have hdg := zdec_ok hd rfl
      simp only at h
      have k2 := ih _ _ _ _ h hI ad sl H locs hL hW hS hc0 hz0 had hade
      exact lv_sipush hx hb hdg rfl k2
    case lconst v =>
      have hdg := zdec_ok hd rfl
      simp only at h
      have k2 := ih _ _ _ _ h hI ad sl H locs hL hW hS hc0 hz0 had hade
      exact lv_lconst hx hb hdg rfl k2
    case ldc i =>
      have hdg := zdec_ok hd rfl
      simp only at h
      simp only [zex] at hex
      split at h
      next hb0 =>
        rw [if_pos hb0] at hex
        obtain ⟨x, hq⟩ := zq4_ok hex
        have h1 := List.all_eq_true.mp zCL_ok _ hq
        have k2 := ih _ _ _ _ h hI ad sl H locs hL hW hS hc0 hz0 had hade
        exact lv_ldc hx hb hown (hts _ (zat_ok h1)) hdg k2
      next hb0 =>
        rw [if_neg hb0] at hex
        obtain ⟨x, hq⟩ := zq4_ok hex
        obtain ⟨tx, hR⟩ := hLdc s hKK.2.2 _ hq
        have k2 := ih _ _ _ _ h hI ad sl H locs hL hW hS hc0 hz0 had hade
        have ha : ad a = adX a := hX a (zST_big hq)
        simp only [List.map_cons, zcv, ha] at k2
        exact va_ldcS hx hb hown hR hdg k2
    case ldc_w i =>
      have hdg := zdec_ok hd rfl
      simp only at h
      obtain ⟨x, hq⟩ := zq4_ok hex
      have h1 := List.all_eq_true.mp zCL_ok _ hq
      have k2 := ih _ _ _ _ h hI ad sl H locs hL hW hS hc0 hz0 had hade
      exact lv_ldcw hx hb hown (hts _ (zat_ok h1)) hdg k2
    case ldc2_w i =>
      have hdg := zdec_ok hd rfl
      simp only at h
      obtain ⟨x, hq⟩ := zq4_ok hex
      have h1 := List.all_eq_true.mp zLL_ok _ hq
      have k2 := ih _ _ _ _ h hI ad sl H locs hL hW hS hc0 hz0 had hade
      exact lv_ldc2 hx hb hown (hts _ (zat_ok h1)) hdg k2
    case iadd =>
      have hdg := zdec_ok hd rfl
      simp only at h
      split at h
      · have k2 := ih _ _ _ _ h hI ad sl H locs hL hW hS hc0 hz0 had hade
        exact lv_iadd hx hb hdg k2
      · cases h
    case isub =>
      have hdg := zdec_ok hd rfl
      simp only at h
      split at h
      · have k2 := ih _ _ _ _ h hI ad sl H locs hL hW hS hc0 hz0 had hade
        exact lv_isub hx hb hdg k2
      · cases h
    case imul =>
      have hdg := zdec_ok hd rfl
      simp only at h
      split at h
      · have k2 := ih _ _ _ _ h hI ad sl H locs hL hW hS hc0 hz0 had hade
        exact lv_imul hx hb hdg k2
      · cases h
    case iand =>
      have hdg := zdec_ok hd rfl
      simp only at h
      split at h
      · have k2 := ih _ _ _ _ h hI ad sl H locs hL hW hS hc0 hz0 had hade
        exact lv_iand hx hb hdg k2
      · cases h
    case ior =>
      have hdg := zdec_ok hd rfl
      simp only at h
      split at h
      · have k2 := ih _ _ _ _ h hI ad sl H locs hL hW hS hc0 hz0 had hade
        exact lv_ior hx hb hdg k2
      · cases h
    case ixor =>
      have hdg := zdec_ok hd rfl
      simp only at h
      split at h
      · have k2 := ih _ _ _ _ h hI ad sl H locs hL hW hS hc0 hz0 had hade
        exact lv_ixor hx hb hdg k2
      · cases h
    case ishl =>
      have hdg := zdec_ok hd rfl
      simp only at h
      split at h
      · have k2 := ih _ _ _ _ h hI ad sl H locs hL hW hS hc0 hz0 had hade
        exact lv_ishl hx hb hdg k2
      · cases h
    case ishr =>
      have hdg := zdec_ok hd rfl
      simp only at h
      split at h
      · have k2 := ih _ _ _ _ h hI ad sl H locs hL hW hS hc0 hz0 had hade
        exact lv_ishr hx hb hdg k2
      · cases h
    case ladd =>
      have hdg := zdec_ok hd rfl
      simp only at h
      split at h
      · have k2 := ih _ _ _ _ h hI ad sl H locs hL hW hS hc0 hz0 had hade
        exact lv_ladd hx hb hdg k2
      · cases h
    case lsub =>
      have hdg := zdec_ok hd rfl
      simp only at h
      split at h
      · have k2 := ih _ _ _ _ h hI ad sl H locs hL hW hS hc0 hz0 had hade
        exact lv_lsub hx hb hdg k2
      · cases h
    case land =>
      have hdg := zdec_ok hd rfl
      simp only at h
      split at h
      · have k2 := ih _ _ _ _ h hI ad sl H locs hL hW hS hc0 hz0 had hade
        exact lv_land hx hb hdg k2
      · cases h
    case lor =>
      have hdg := zdec_ok hd rfl
      simp only at h
      split at h
      · have k2 := ih _ _ _ _ h hI ad sl H locs hL hW hS hc0 hz0 had hade
        exact lv_lor hx hb hdg k2
      · cases h
    case ineg =>
      have hdg := zdec_ok hd rfl
      simp only at h
      split at h
      · have k2 := ih _ _ _ _ h hI ad sl H locs hL hW hS hc0 hz0 had hade
        exact lv_ineg hx hb hdg k2
      · cases h
    case iushr =>
      have hdg := zdec_ok hd rfl
      simp only at h
      split at h
      · have k2 := ih _ _ _ _ h hI ad sl H locs hL hW hS hc0 hz0 had hade
        exact lv_iushr hx hb hdg rfl k2
      · cases h
    case lshl =>
      have hdg := zdec_ok hd rfl
      simp only at h
      split at h
      · have k2 := ih _ _ _ _ h hI ad sl H locs hL hW hS hc0 hz0 had hade
        exact lv_lshl hx hb hdg rfl k2
      · cases h
    case lushr =>
      have hdg := zdec_ok hd rfl
      simp only at h
      split at h
      · have k2 := ih _ _ _ _ h hI ad sl H locs hL hW hS hc0 hz0 had hade
        exact lv_lushr hx hb hdg rfl k2
      · cases h
    case l2i =>
      have hdg := zdec_ok hd rfl
      simp only at h
      split at h
      · have k2 := ih _ _ _ _ h hI ad sl H locs hL hW hS hc0 hz0 had hade
        exact lv_l2i hx hb hdg rfl k2
      · cases h
    case i2c =>
      have hdg := zdec_ok hd rfl
      simp only at h
      split at h
      · have k2 := ih _ _ _ _ h hI ad sl H locs hL hW hS hc0 hz0 had hade
        exact lv_i2c hx hb hdg rfl k2
      · cases h
    case lcmp =>
      have hdg := zdec_ok hd rfl
      simp only at h
      split at h
      · have k2 := ih _ _ _ _ h hI ad sl H locs hL hW hS hc0 hz0 had hade
        exact W.lcmp hx hb hdg k2
      · cases h
    case idiv =>
      have hdg := zdec_ok hd rfl
      simp only at h
      split at h
      · split at h
        · cases h
        · next hne =>
          have k2 := ih _ _ _ _ h hI ad sl H locs hL hW hS hc0 hz0 had hade
          exact lv_idiv hx hb hdg hne k2
      · cases h
    case irem =>
      have hdg := zdec_ok hd rfl
      simp only at h
      split at h
      · split at h
        · cases h
        · next hne =>
          have k2 := ih _ _ _ _ h hI ad sl H locs hL hW hS hc0 hz0 had hade
          exact lv_irem hx hb hdg hne k2
      · cases h
    case dup =>
      have hdg := zdec_ok hd rfl
      simp only at h
      split at h
      · have k2 := ih _ _ _ _ h hI ad sl H locs hL hW hS hc0 hz0 had hade
        exact lv_dup hx hb hdg rfl k2
      · have k2 := ih _ _ _ _ h hI ad sl H locs hL hW hS hc0 hz0 had hade
        exact lv_dup hx hb hdg rfl k2
      · cases h
    case dup2 =>
      have hdg := zdec_ok hd rfl
      simp only at h
      split at h
      · have k2 := ih _ _ _ _ h hI ad sl H locs hL hW hS hc0 hz0 had hade
        exact lv_dup2_11 hx hb hdg rfl rfl k2
      · cases h
    case pop =>
      have hdg := zdec_ok hd rfl
      simp only at h
      split at h
      · next x rr =>
        have k2 := ih _ _ _ _ h hI ad sl H locs hL hW hS hc0 hz0 had hade
        exact lv_pop (va := .int x) hx hb hdg rfl k2
      · cases h
    case goto off =>
      have hdg := zdec_ok hd rfl
      have ht := of_decide_eq_true hex
      simp only at h
      have k2 := ih _ _ _ _ h hI ad sl H locs hL hW hS hc0 hz0 had hade
      exact lv_goto hx hb hdg ht k2
    case if_icmp cc off =>
      have ht := of_decide_eq_true hex
      simp only at h
      split at h
      · cases cc
        case eq =>
          have hdg := zdec_ok hd rfl
          simp only at h
          split at h
          · next hp =>
            have k2 := ih _ _ _ _ h hI ad sl H locs hL hW hS hc0 hz0 had hade
            exact lv_icmp_eq hx hb hdg ht (fun _ => k2) (fun z => absurd hp z)
          · next hp =>
            have k2 := ih _ _ _ _ h hI ad sl H locs hL hW hS hc0 hz0 had hade
            exact lv_icmp_eq hx hb hdg ht (fun z => absurd z hp) (fun _ => k2)
        case ne =>
          have hdg := zdec_ok hd rfl
          simp only at h
          split at h
          · next hp =>
            have k2 := ih _ _ _ _ h hI ad sl H locs hL hW hS hc0 hz0 had hade
            exact lv_icmp_ne hx hb hdg ht (fun z => absurd hp z) (fun _ => k2)
          · next hp =>
            have k2 := ih _ _ _ _ h hI ad sl H locs hL hW hS hc0 hz0 had hade
            exact lv_icmp_ne hx hb hdg ht (fun _ => k2) (fun z => absurd z hp)
        case lt =>
          have hdg := zdec_ok hd rfl
          simp only at h
          split at h
          · next hp =>
            have k2 := ih _ _ _ _ h hI ad sl H locs hL hW hS hc0 hz0 had hade
            exact lv_icmp_lt hx hb hdg ht (fun _ => k2) (fun z => absurd hp z)
          · next hp =>
            have k2 := ih _ _ _ _ h hI ad sl H locs hL hW hS hc0 hz0 had hade
            exact lv_icmp_lt hx hb hdg ht (fun z => absurd z hp) (fun _ => k2)
        case ge =>
          have hdg := zdec_ok hd rfl
          simp only at h
          split at h
          · next hp =>
            have k2 := ih _ _ _ _ h hI ad sl H locs hL hW hS hc0 hz0 had hade
            exact lv_icmp_ge hx hb hdg ht (fun _ => k2) (fun z => absurd hp z)
          · next hp =>
            have k2 := ih _ _ _ _ h hI ad sl H locs hL hW hS hc0 hz0 had hade
            exact lv_icmp_ge hx hb hdg ht (fun z => absurd z hp) (fun _ => k2)
        case gt =>
          have hdg := zdec_ok hd rfl
          simp only at h
          split at h
          · next hp =>
            have k2 := ih _ _ _ _ h hI ad sl H locs hL hW hS hc0 hz0 had hade
            exact lv_icmp_gt hx hb hdg ht (fun _ => k2) (fun z => absurd hp z)
          · next hp =>
            have k2 := ih _ _ _ _ h hI ad sl H locs hL hW hS hc0 hz0 had hade
            exact lv_icmp_gt hx hb hdg ht (fun z => absurd z hp) (fun _ => k2)
        case le =>
          have hdg := zdec_ok hd rfl
          simp only at h
          split at h
          · next hp =>
            have k2 := ih _ _ _ _ h hI ad sl H locs hL hW hS hc0 hz0 had hade
            exact lv_icmp_le hx hb hdg ht (fun _ => k2) (fun z => absurd hp z)
          · next hp =>
            have k2 := ih _ _ _ _ h hI ad sl H locs hL hW hS hc0 hz0 had hade
            exact lv_icmp_le hx hb hdg ht (fun z => absurd z hp) (fun _ => k2)
      · cases h
    case ifCond cc off =>
      have ht := of_decide_eq_true hex
      simp only at h
      split at h
      · cases cc
        case eq =>
          have hdg := zdec_ok hd rfl
          simp only at h
          split at h
          · next hp =>
            have k2 := ih _ _ _ _ h hI ad sl H locs hL hW hS hc0 hz0 had hade
            exact lv_if_eq hx hb hdg ht (fun _ => k2) (fun z => absurd hp z)
          · next hp =>
            have k2 := ih _ _ _ _ h hI ad sl H locs hL hW hS hc0 hz0 had hade
            exact lv_if_eq hx hb hdg ht (fun z => absurd z hp) (fun _ => k2)
        case ne =>
          have hdg := zdec_ok hd rfl
          simp only at h
          split at h
          · next hp =>
            have k2 := ih _ _ _ _ h hI ad sl H locs hL hW hS hc0 hz0 had hade
            exact lv_if_ne hx hb hdg ht (fun z => absurd hp z) (fun _ => k2)
          · next hp =>
            have k2 := ih _ _ _ _ h hI ad sl H locs hL hW hS hc0 hz0 had hade
            exact lv_if_ne hx hb hdg ht (fun _ => k2) (fun z => absurd z hp)
        case lt =>
          have hdg := zdec_ok hd rfl
          simp only at h
          split at h
          · next hp =>
            have k2 := ih _ _ _ _ h hI ad sl H locs hL hW hS hc0 hz0 had hade
            exact lv_if_lt hx hb hdg ht (fun _ => k2) (fun z => absurd hp z)
          · next hp =>
            have k2 := ih _ _ _ _ h hI ad sl H locs hL hW hS hc0 hz0 had hade
            exact lv_if_lt hx hb hdg ht (fun z => absurd z hp) (fun _ => k2)
        case ge =>
          have hdg := zdec_ok hd rfl
          simp only at h
          split at h
          · next hp =>
            have k2 := ih _ _ _ _ h hI ad sl H locs hL hW hS hc0 hz0 had hade
            exact lv_if_ge hx hb hdg ht (fun _ => k2) (fun z => absurd hp z)
          · next hp =>
            have k2 := ih _ _ _ _ h hI ad sl H locs hL hW hS hc0 hz0 had hade
            exact lv_if_ge hx hb hdg ht (fun z => absurd z hp) (fun _ => k2)
        case gt =>
          have hdg := zdec_ok hd rfl
          simp only at h
          split at h
          · next hp =>
            have k2 := ih _ _ _ _ h hI ad sl H locs hL hW hS hc0 hz0 had hade
            exact lv_if_gt hx hb hdg ht (fun _ => k2) (fun z => absurd hp z)
          · next hp =>
            have k2 := ih _ _ _ _ h hI ad sl H locs hL hW hS hc0 hz0 had hade
            exact lv_if_gt hx hb hdg ht (fun z => absurd z hp) (fun _ => k2)
        case le =>
          have hdg := zdec_ok hd rfl
          simp only at h
          split at h
          · next hp =>
            have k2 := ih _ _ _ _ h hI ad sl H locs hL hW hS hc0 hz0 had hade
            exact lv_if_le hx hb hdg ht (fun _ => k2) (fun z => absurd hp z)
          · next hp =>
            have k2 := ih _ _ _ _ h hI ad sl H locs hL hW hS hc0 hz0 had hade
            exact lv_if_le hx hb hdg ht (fun z => absurd z hp) (fun _ => k2)
      · cases h
    case tableswitch dd lo hi offs =>
      obtain ⟨len, hdg, -⟩ := zdec_sw hd
      simp only at h
      split at h
      · next x rr =>
        split at h
        · next hlo =>
          split at h
          · next hn =>
            have k2 := ih _ _ _ _ h hI ad sl H locs hL hW hS hc0 hz0 had hade
            exact lv_tableOut hx hb hdg hlo (Int.toNat_of_nonneg hn).symm k2
          · cases h
        · next hlo =>
          split at h
          · next o ho =>
            split at h
            · next hn =>
              have k2 := ih _ _ _ _ h hI ad sl H locs hL hW hS hc0 hz0 had hade
              exact lv_tableIn hx hb hdg (fun z => hlo (Or.inl z)) (fun z => hlo (Or.inr z)) ho (Int.toNat_of_nonneg hn).symm k2
            · cases h
          · cases h
      · cases h
    case lookupswitch dd ps =>
      obtain ⟨len, hdg, hsw⟩ := zdec_sw hd
      simp only at h
      split at h
      · next x rr =>
        split at h
        · next hn =>
          have k2 := ih _ _ _ _ h hI ad sl H locs hL hW hS hc0 hz0 had hade
          exact lv_lookup hx hb hdg hex rfl (Int.toNat_of_nonneg hn).symm k2
        · cases h
      · cases h
    case iaload =>
      have hdg := zdec_ok hd rfl
      simp only at h
      split at h
      · next x i rr =>
        rcases zalK_ok h with ⟨rfl, hin, h⟩ | ⟨ks, hl, hi, hin, h⟩
        · have k2 := ih _ _ _ _ h hI ad sl H locs hL hW hS hc0 hz0 had hade
          have ha : ad 7777 = adX 7777 := hX 7777 (by decide)
          obtain ⟨hXs, hXl⟩ := hScr s hKK.2.2
          simp only [List.map_cons, zcv, ha] at k2 ⊢
          exact va_sld (A := zA h0) hx hb hXs (by omega) (fun z => by simp only [zA] at z; omega) hS hin hdg k2
        · have k2 := ih _ _ _ _ h hI ad sl H locs hL hW hS hc0 hz0 had hade
          exact va_iald (q0 := i) (t0 := 0) hx hb hK hW.1 (by rw [zwo_at hi, zce_int hl]) rfl hin hdg k2
      · cases h
    case iastore =>
      have hdg := zdec_ok hd rfl
      simp only at h
      split at h
      · next v x i rr =>
        obtain ⟨ks, hl, hi, hin, h⟩ := zasK_ok h
        have hset : (zwo cI cR ad S).set i (ad i, .inl (cI, ks.headD 0, .inl (upd (S.2.2.2.1 i) x.toNatClampNeg v))) = zwo cI cR ad (S.1, S.2.1, S.2.2.1, zuI S.2.2.2.1 i x.toNatClampNeg v, S.2.2.2.2) := zwo_set (S := S) (S' := (S.1, S.2.1, S.2.2.1, zuI S.2.2.2.1 i x.toNatClampNeg v, S.2.2.2.2)) rfl (by rw [zce_int hl]; simp only [zuI_at]) (fun j hj => zce_congr (zuI_ne hj) rfl (fun _ => rfl))
        have hI2 : zinv (S.1, S.2.1, S.2.2.1, zuI S.2.2.2.1 i x.toNatClampNeg v, S.2.2.2.2) := zinv_same hI rfl rfl
        refine va_iast (q0 := i) (t0 := 0) hx hb hK hW.1 hW.2 hS (by rw [zwo_at hi, zce_int hl]) rfl hin hdg (fun H1 locs1 hP1 hD1 hS1 => ?_)
        rw [hset] at hP1 hD1
        exact ih _ _ _ _ h hI2 ad sl H1 locs1 hL ⟨hP1, hD1⟩ hS1 hc0 hz0 had hade
      · cases h
    case aaload =>
      have hdg := zdec_ok hd rfl
      simp only at h
      split at h
      · next x i rr =>
        obtain ⟨ks, j, hl, hi, hin, hj, hz, h⟩ := zaaK_ok h
        have k2 := ih _ _ _ _ h hI ad sl H locs hL hW hS hc0 hz0 had hade
        refine va_aldq (q0 := i) (t0 := 1) hx hb hK hW.1 (by rw [zwo_at hi, zce_ref hl]) rfl hin hdg ?_
        simp only [zrfn, hz, hj, Option.map_some, va_rf]
        exact k2
      · cases h
    case aastore =>
      have hdg := zdec_ok hd rfl
      simp only at h
      split at h
      · next v x i rr =>
        obtain ⟨ks, hl, hi, hin, hj, hv, ⟨kq, hq⟩, h⟩ := zraK_ok h
        have hset : (zwo cI cR ad S).set i (ad i, .inl (cR, ks.length, .inr (.inr (.inr (.inr (va_up (zrfn S.2.2.1 i ks ad) x.toNatClampNeg (some (ad v)))))))) = zwo cI cR ad (S.1, S.2.1, S.2.2.1.filter (fun r => !(r.1 == i && r.2 == x.toNatClampNeg)), S.2.2.2.1, S.2.2.2.2) := by
          refine zwo_set (S := S) (S' := (S.1, S.2.1, S.2.2.1.filter (fun r => !(r.1 == i && r.2 == x.toNatClampNeg)), S.2.2.2.1, S.2.2.2.2)) rfl ?_ (fun j hj => zce_congr rfl rfl (fun k => by simp only [zin_filter]; simp [hj]))
          rw [zce_ref hl]
          refine congrArg (fun f => (Sum.inl (cR, ks.length, Sum.inr (Sum.inr (Sum.inr (Sum.inr f)))) : va_E)) ?_
          funext k
          simp only [zrfn, zin_filter, va_up]
          by_cases hkx : k = x.toNatClampNeg
          · subst hkx
            simp [hj]
          · simp only [beq_eq_false_iff_ne.mpr hkx, Bool.and_false, Bool.not_false, Bool.and_true, if_neg hkx]
        have hI2 : zinv (S.1, S.2.1, S.2.2.1.filter (fun r => !(r.1 == i && r.2 == x.toNatClampNeg)), S.2.2.2.1, S.2.2.2.2) := zinv_ra hI hl hj hv
        refine va_astq (q0 := i) (t0 := 1) (qk := v) (ci := 2) (r := zC 2) hx hb hK hW.1 hW.2 hS (by rw [zwo_at hi, zce_ref hl]) rfl (by rw [zwo_at hv, zce_obj hq (by decide)]) (zC_at 2 (by decide)) hin hdg (fun H1 locs1 hP1 hD1 hS1 => ?_)
        rw [hset] at hP1 hD1
        exact ih _ _ _ _ h hI2 ad sl H1 locs1 hL ⟨hP1, hD1⟩ hS1 hc0 hz0 had hade
      · cases h
    case arraylength =>
      have hdg := zdec_ok hd rfl
      simp only at h
      split at h
      · next i rr =>
        rcases zlnK_ok h with ⟨rfl, h⟩ | ⟨ks, hl, hi, h⟩ | ⟨ks, hl, hi, h⟩
        · have k2 := ih _ _ _ _ h hI ad sl H locs hL hW hS hc0 hz0 had hade
          have ha : ad 7777 = adX 7777 := hX 7777 (by decide)
          obtain ⟨hXs, hXl⟩ := hScr s hKK.2.2
          simp only [List.map_cons, zcv, ha] at k2 ⊢
          exact va_slen (A := zA h0) hx hb hXs (by omega) (fun z => by simp only [zA] at z; omega) hS hdg k2
        · have k2 := ih _ _ _ _ h hI ad sl H locs hL hW hS hc0 hz0 had hade
          exact va_alen (q0 := i) (t0 := 0) (x := (ks.headD 0, .inl (S.2.2.2.1 i))) hx hb hK hW.1 (by rw [zwo_at hi, zce_int hl]) rfl rfl hdg k2
        · have k2 := ih _ _ _ _ h hI ad sl H locs hL hW hS hc0 hz0 had hade
          exact va_alen (q0 := i) (t0 := 1) (x := (ks.length, .inr (.inr (.inr (.inr (zrfn S.2.2.1 i ks ad)))))) hx hb hK hW.1 (by rw [zwo_at hi, zce_ref hl]) rfl rfl hdg k2
      · cases h
    case getfield idx =>
      have hdg := zdec_ok hd rfl
      simp only at h
      split at h
      · next i rr =>
        obtain ⟨v, ks, kd, hl, hi, hkd, h, hv⟩ := zgfK_ok h
        have k2 := ih _ _ _ _ h hI ad sl H locs hL hW hS hc0 hz0 had hade
        simp only [zex, Bool.or_eq_true] at hex
        rcases hex with hex | hex
        · obtain ⟨ha, hbn, hm⟩ := zFL_use hex
          exact va_get (D := (dC, dI)) (ci := a) (C := (zC a).1) (T := (zC a).2.1) (N := (zC a).2.2) hx hb hts (zC_ws a ha) hown hK hW.1 i (by rw [zwo_at hi, zce_obj hl ha]) (zC_at a ha) b hbn (hts _ hm) (fun _ z => z) (by rw [List.getElem?_mapIdx, hkd, Option.map_some, hv ad]) hdg k2
        · obtain ⟨ha, hbn, hm⟩ := zFN_use hex
          exact va_getN (D := (dC, dI)) (ci := a) (C := (zC a).1) (T := (zC a).2.1) (N := (zC a).2.2) hx hb hts (zC_ws a ha) hown hK hW.1 i (by rw [zwo_at hi, zce_obj hl ha]) (zC_at a ha) b hbn (va_Nw.use rfl (hKK.1 _ hm)) (fun _ z => z) (by rw [List.getElem?_mapIdx, hkd, Option.map_some, hv ad]) hdg k2
      · cases h
    case putfield idx =>
      have hdg := zdec_ok hd rfl
      simp only at h
      split at h
      · next v i rr =>
        obtain ⟨S1, ks, kd, hl, hi, hkd, h, e1, e2, e3, e4, e5, e6, e7⟩ := zpfK_ok h
        simp only [zex, Bool.and_eq_true, Bool.or_eq_true, decide_eq_true_eq] at hex
        obtain ⟨hex, hfin⟩ := hex
        obtain ⟨ha, hbn, hm⟩ := zFL_use hex
        obtain ⟨hlen, hkinds⟩ := zlay_obj hl ha
        obtain ⟨n1, n2⟩ := e6 _ (hkinds b kd hkd)
        have hty := zC_ty a ha b hbn
        have nn : narrow (zty a b) (zcv ad v) = zcv ad v ∧ fits (zty a b) (zcv ad v) = true := zfit n1 n2
        have hset : (zwo cI cR ad S).set i (ad i, .inr (a, (ks.mapIdx (fun k kd => zkv ad S i k kd)).set b (zcv ad v))) = zwo cI cR ad S1 := by
          refine zwo_set (S := S) e1 ?_ (fun j hj => zce_congr (e5 j hj).1 (e5 j hj).2.1 (e5 j hj).2.2)
          rw [zce_obj hl ha, zput_map hkd (fun k kd' hne => e4 ad k kd' hne), e3 ad]
        have hI2 : zinv S1 := zinv_pf hI e1 hl ha hkd e7
        have hlb : b < (ks.mapIdx (fun k kd => zkv ad S i k kd)).length := by rw [List.length_mapIdx]; exact (List.getElem?_eq_some_iff.mp hkd).1
        have hkk : ∀ (H1 : Heap) (locs1 : List Loc), va_P (dC, dI) vwCl ((zwo cI cR ad S).set i (ad i, .inr (a, (ks.mapIdx (fun k kd => zkv ad S i k kd)).set b (zcv ad v)))) H1 → va_D (zA h0) ((zwo cI cR ad S).set i (ad i, .inr (a, (ks.mapIdx (fun k kd => zkv ad S i k kd)).set b (zcv ad v)))) → va_S (zA h0) s.heap H1 locs1 → W p l e R s m args below meth c H1 locs1 (S.1 - c0) (S.2.1 - z0) Q (F0 m (pc + 3) sl (rr.map (zcv ad))) := by
          intro H1 locs1 hP1 hD1 hS1
          rw [hset] at hP1 hD1
          have := ih _ _ _ _ h hI2 ad sl H1 locs1 hL ⟨hP1, hD1⟩ hS1 (by rw [e1]; exact hc0) (by rw [e2]; exact hz0) had (fun z => hade (by rw [← e1]; exact z))
          rw [e1, e2] at this
          exact this
        rcases hfin with hfin | ⟨⟨hfin, hin⟩, hdecl⟩
        · exact va_put (D := (dC, dI)) (ci := a) (C := (zC a).1) (T := (zC a).2.1) (N := (zC a).2.2) hx hb hts (zC_ws a ha) (zty a) (zC_ty a ha) (zC_nm a ha) hown hK hW.1 hW.2 hS i (by rw [zwo_at hi, zce_obj hl ha]) (zC_at a ha) b hbn (hts _ hm) (fun _ z => z) hfin hty nn.1 nn.2 hlb hdg hkk
        · exact va_putF (D := (dC, dI)) (ci := a) (C := (zC a).1) (T := (zC a).2.1) (N := (zC a).2.2) hx hb hts (zC_ws a ha) (zty a) (zC_ty a ha) (zC_nm a ha) hown hK hW.1 hW.2 hS i (by rw [zwo_at hi, zce_obj hl ha]) (zC_at a ha) b hbn (hts _ hm) (fun _ z => z) hfin (hname hin) hdecl hty nn.1 nn.2 hlb hdg hkk
      · cases h
    case new idx =>
      have hdg := zdec_ok hd rfl
      simp only at h
      split at h
      · next hok =>
        obtain ⟨ks, hl, hC, h⟩ := znwK_ok h
        obtain ⟨x, hq⟩ := zq4_ok hex
        have h1 := List.all_eq_true.mp zNL_ok _ hq
        simp only [Bool.and_eq_true, decide_eq_true_eq] at h1
        obtain ⟨i1, i2⟩ := zC_inst a hC
        obtain ⟨hlen, hkinds⟩ := zlay_obj hl hC
        have hI2 := zinv_nw (f := zrI S.2.2.2.1 S.1 (fun _ => 0)) (g := zrL S.2.2.2.2 S.1 (fun _ => 0)) (z := S.2.1 + ks.length) hI hl hC
        obtain ⟨k1, k2, -⟩ := hmono _ _ _ _ h hI2
        simp only at k1 k2
        have hS5 := zlay_lt hl
        have hfs : ∀ j, j < (zC a).2.2 → defaultValue (zty a j) = vp_V (ks.mapIdx (fun k kd => zkv ad (S.1 + 1, S.2.1 + ks.length, znr S.1 0 ks ++ S.2.2.1, zrI S.2.2.2.1 S.1 (fun _ => 0), zrL S.2.2.2.2 S.1 (fun _ => 0)) S.1 k kd)) j := by
          intro j hj
          rw [← hlen] at hj
          have hkj : ks[j]? = some ks[j] := List.getElem?_eq_getElem hj
          have hkd := hkinds j _ hkj
          unfold vp_V
          rw [List.getD_eq_getElem?_getD, List.getElem?_mapIdx, hkj]
          simp only [Option.map_some, Option.getD_some]
          revert hkd
          generalize ks[j] = kd at hkj
          intro hkd
          match kd, hkj, hkd with
          | 0, _, hkd =>
            have : zty a j = .int := by simpa [zkd] using hkd
            rw [this]
            simp [zkv, zrI, defaultValue]
          | 1, _, hkd =>
            have : zty a j = .boolean := by simpa [zkd] using hkd
            rw [this]
            simp [zkv, zrI, defaultValue]
          | 2, _, hkd =>
            have : zty a j = .long := by simpa [zkd] using hkd
            rw [this]
            simp [zkv, zrL, defaultValue]
          | y + 3, hkj, hkd =>
            have hz := znr_in (i := S.1) ks 0 j y hkj
            rw [Nat.zero_add] at hz
            simp only [zkv, zin_app, hz, Bool.true_or]
            revert hkd
            cases zty a j <;> intro hkd <;> first | rfl | (simp [zkd] at hkd)
        refine va_new (D := (dC, dI)) (ci := a) (C := (zC a).1) (T := (zC a).2.1) (N := (zC a).2.2) hx hb hts (zC_ws a hC) (zty a) (zC_ty a hC) hown (hts _ (zat_ok h1.2)) (hts _ i1) (hts _ i2) hK hW.1 hW.2 hS hA (zC_at a hC) hfs (by omega) (by omega) hdg (fun q H1 hP1 hD1 hS1 => ?_)
        have hpush : zwo cI cR ad S ++ [(q, .inr (a, ks.mapIdx (fun k kd => zkv ad (S.1 + 1, S.2.1 + ks.length, znr S.1 0 ks ++ S.2.2.1, zrI S.2.2.2.1 S.1 (fun _ => 0), zrL S.2.2.2.2 S.1 (fun _ => 0)) S.1 k kd)))] = zwo cI cR (zad ad S.1 q) (S.1 + 1, S.2.1 + ks.length, znr S.1 0 ks ++ S.2.2.1, zrI S.2.2.2.1 S.1 (fun _ => 0), zrL S.2.2.2.2 S.1 (fun _ => 0)) := by
          refine zwo_push rfl ?_ (zce_push hI (fun j hj => ⟨zrI_ne (by omega), zrL_ne (by omega), fun k => by simp only [zin_app, znr_ne (show j ≠ S.1 by omega), Bool.false_or]⟩))
          rw [zce_obj hl hC]
          congr 2
          apply List.ext_getElem?
          intro k
          rw [List.getElem?_mapIdx, List.getElem?_mapIdx]
          cases hk2 : ks[k]? with
          | none => rfl
          | some kd =>
            simp only [Option.map_some, Option.some.injEq]
            match kd, hk2 with
            | 0, _ => rfl
            | 1, _ => rfl
            | 2, _ => rfl
            | y + 3, hk2 =>
              have hz := znr_in (i := S.1) ks 0 k y hk2
              rw [Nat.zero_add] at hz
              simp only [zkv, zin_app, hz, Bool.true_or]
        rw [hpush] at hP1 hD1
        have hag := zad_agree (ad := ad) (q := q) hS5
        have k3 := ih _ _ _ _ h hI2 (zad ad S.1 q) sl H1 locs (zok_loc hag hok.1 hL) ⟨hP1, hD1⟩ hS1 (by show c0 ≤ S.1 + 1; omega) (by show z0 ≤ S.2.1 + ks.length; omega) (fun i hi => (hag i (by omega)).trans (had i hi)) (fun z => by simp only at z; omega)
        have e1 : S.1 - c0 + 1 = S.1 + 1 - c0 := by omega
        have e2 : S.2.1 - z0 + (zC a).2.2 = S.2.1 + ks.length - z0 := by omega
        have e3 : zcv (zad ad S.1 q) (.ref S.1) = .ref q := by simp [zcv, zad]
        rw [List.map_cons, e3, zok_map hag st hok.2] at k3
        rw [e1, e2]
        exact k3
      · cases h
    case newarray ty =>
      have hdg := zdec_ok hd rfl
      simp only at h
      have hty : ty = .int := of_decide_eq_true hex
      subst hty
      split at h
      · next x rr =>
        split at h
        · next hok =>
          obtain ⟨ks, hl, hn, hN, hbig, h⟩ := znaK_ok h
          have hI2 := zinv_na (f := zrI S.2.2.2.1 S.1 (fun _ => 0)) (g := S.2.2.2.2) (z := S.2.1 + ks.headD 0) hI hl
          obtain ⟨k1, k2, -⟩ := hmono _ _ _ _ h hI2
          simp only at k1 k2
          have hS5 := zlay_lt hl
          refine va_newa (atype := .int) (ty := .int) (a0 := (ks.headD 0, .inl (fun _ => 0))) hx hb (hts _ zia_ok) rfl hK hW.1 hW.2 hS hA (fun cA => rfl) hn hN (by show ks.headD 0 * 4 ≤ _; omega) (by omega) (by omega) hdg (fun q cA H1 hK1 hP1 hD1 hS1 => ?_)
          have hcA : cA = cI := by
            have g1 : va_RA s cA .int := (hK1.2 2 (cA, .int) rfl).2
            have g2 : va_RA s cI .int := (hK.2 0 (cI, .int) rfl).2
            exact Option.some.inj (g1.symm.trans g2)
          subst hcA
          have hpush : zwo cA cR ad S ++ [(q, .inl (cA, ks.headD 0, .inl (fun _ => 0)))] = zwo cA cR (zad ad S.1 q) (S.1 + 1, S.2.1 + ks.headD 0, S.2.2.1, zrI S.2.2.2.1 S.1 (fun _ => 0), S.2.2.2.2) := by
            refine zwo_push rfl ?_ (zce_push hI (fun j hj => ⟨zrI_ne (by omega), rfl, fun k => rfl⟩))
            rw [zce_int hl]
            simp only [zrI_eq]
          rw [hpush] at hP1 hD1
          have hag := zad_agree (ad := ad) (q := q) hS5
          have k3 := ih _ _ _ _ h hI2 (zad ad S.1 q) sl H1 locs (zok_loc hag hok.1 hL) ⟨hP1, hD1⟩ hS1 (by show c0 ≤ S.1 + 1; omega) (by show z0 ≤ S.2.1 + ks.headD 0; omega) (fun i hi => (hag i (by omega)).trans (had i hi)) (fun z => by simp only at z; omega)
          have e1 : S.1 - c0 + 1 = S.1 + 1 - c0 := by omega
          have e2 : S.2.1 - z0 + ks.headD 0 = S.2.1 + ks.headD 0 - z0 := by omega
          have e3 : zcv (zad ad S.1 q) (.ref S.1) = .ref q := by simp [zcv, zad]
          rw [List.map_cons, e3, zok_map hag rr hok.2] at k3
          rw [e1, e2]
          exact k3
        · cases h
      · cases h
    case anewarray idx =>
      have hdg := zdec_ok hd rfl
      simp only at h
      split at h
      · next x rr =>
        split at h
        · next hok =>
          obtain ⟨ks, hl, hn, hN, hbig, h⟩ := zqaK_ok h
          obtain ⟨y, hq⟩ := zq4_ok hex
          have h1 := List.all_eq_true.mp zQL_ok _ hq
          simp only [Bool.and_eq_true, decide_eq_true_eq] at h1
          have hI2 := zinv_qa (f := S.2.2.2.1) (g := S.2.2.2.2) (z := S.2.1 + ks.length) hI hl
          obtain ⟨k1, k2, -⟩ := hmono _ _ _ _ h hI2
          simp only at k1 k2
          have hS5 := zlay_lt hl
          refine va_newq (C := RX2) hx hb hown (hts _ (zat_ok h1.2)) hKK.2.1 hK hW.1 hW.2 hS hA hn hN (by omega) (by omega) (by omega) hdg (fun q cA H1 hK1 hP1 hD1 hS1 => ?_)
          have hcA : cA = cR := by
            obtain ⟨-, -, -, -, -, g1⟩ : va_RA s cA (.object RX2) := (hK1.2 2 (cA, .object RX2) rfl).2
            obtain ⟨-, -, -, -, -, g2⟩ : va_RA s cR (.object RX2) := (hK.2 1 (cR, .object RX2) rfl).2
            exact Option.some.inj (g1.symm.trans g2)
          subst hcA
          have hm : ∀ k, k < ks.length → zin ((List.range ks.length).map (fun j => (S.1, j))) S.1 k = true := fun k hk => zin_iff.mpr (List.mem_map.mpr ⟨k, List.mem_range.mpr hk, rfl⟩)
          have hm2 : ∀ j k, j ≠ S.1 → zin ((List.range ks.length).map (fun j => (S.1, j))) j k = false := by
            intro j k hj
            cases hz : zin ((List.range ks.length).map (fun j => (S.1, j))) j k with
            | false => rfl
            | true =>
              obtain ⟨x, -, he⟩ := List.mem_map.mp (zin_iff.mp hz)
              cases he
              exact absurd rfl hj
          have hpush : zwo cI cA ad S ++ [(q, .inl (cA, ks.length, .inr (.inr (.inr (.inr (fun _ => none))))))] = zwo cI cA (zad ad S.1 q) (S.1 + 1, S.2.1 + ks.length, (List.range ks.length).map (fun j => (S.1, j)) ++ S.2.2.1, S.2.2.2.1, S.2.2.2.2) := by
            refine zwo_push rfl ?_ (zce_push hI (fun j hj => ⟨rfl, rfl, fun k => by simp only [zin_app, hm2 j k (by omega), Bool.false_or]⟩))
            rw [zce_ref hl]
            refine congrArg (fun f => (Sum.inl (cA, ks.length, Sum.inr (Sum.inr (Sum.inr (Sum.inr f)))) : va_E)) ?_
            funext k
            by_cases hk2 : k < ks.length
            · simp only [zrfn, zin_app, hm k hk2, Bool.true_or]
            · simp only [zrfn]
              rw [List.getElem?_eq_none (by omega)]
              split <;> rfl
          rw [hpush] at hP1 hD1
          have hag := zad_agree (ad := ad) (q := q) hS5
          have k3 := ih _ _ _ _ h hI2 (zad ad S.1 q) sl H1 locs (zok_loc hag hok.1 hL) ⟨hP1, hD1⟩ hS1 (by show c0 ≤ S.1 + 1; omega) (by show z0 ≤ S.2.1 + ks.length; omega) (fun i hi => (hag i (by omega)).trans (had i hi)) (fun z => by simp only at z; omega)
          have e1 : S.1 - c0 + 1 = S.1 + 1 - c0 := by omega
          have e2 : S.2.1 - z0 + ks.length = S.2.1 + ks.length - z0 := by omega
          have e3 : zcv (zad ad S.1 q) (.ref S.1) = .ref q := by simp [zcv, zad]
          rw [List.map_cons, e3, zok_map hag rr hok.2] at k3
          rw [e1, e2]
          exact k3
        · cases h
      · cases h
    case invokevirtual idx =>
      have hdg := zdec_ok hd rfl
      simp only at h
      unfold zcall at h
      split at h
      next => cases h
      next As rest hp =>
        split at h
        next hc =>
          split at h
          next => cases h
          next r1 S1 hr =>
            split at h
            next hok =>
              obtain ⟨hf, kk⟩ := hafter As rest r1 S1 hr hok h
              obtain ⟨B, rfl, rfl, hB⟩ := zpop_ok _ _ _ _ _ hp
              rw [List.append_nil] at hr hc
              obtain ⟨-, -, hMt⟩ := hcf _ _ _ _ _ hr hI
              have ha9 : a < 290 ∨ 9000 ≤ a := zva9 hex
              obtain ⟨i, As0, rfl, hcell⟩ := zrecv hc.2 hPW hK hh hKK hRcv hX hW hS ha9
              refine zcallW (va_runV (As := As0.map (zcv ad)) (rest := rest.map (zcv ad)) (b := ad i) ⟨hx, hb, hml, hown, hts⟩ (hMt ad hX) (zcwV hPW hts hex hRd) ⟨zPc_blind hKS, hcell, fun U hU hw => zPc_of (As := .ref i :: As0) hKS hK hh hKK hW hS U hU hw⟩ rfl (by rw [List.length_map]; simpa using hB) hsz ?_ ?_ hdg hf) hS kk
              · show List.map (zcv ad) ((Value.ref i :: As0).reverse ++ rest) = _
                simp [zcv]
              · show 2 * 0 + _ ≤ 8
                rw [zw_sum]
                omega
            next => cases h
        next => cases h
    case invokestatic idx =>
      have hdg := zdec_ok hd rfl
      simp only at h
      simp only [zex] at hex
      split at h
      next h99 =>
        rw [if_pos h99] at hex
        split at h
        · next k dp j sp i rr =>
          split at h
          · next hw8 =>
            obtain ⟨k1, k2, hl1, hl2, hi, hj, q1, q2, q3, q4, q5, h⟩ := zcpK_ok h
            obtain ⟨x, hq⟩ := zq3_ok hex
            have h1 := List.all_eq_true.mp zAL_ok _ hq
            obtain ⟨w1, w2, w3⟩ := zac_ok
            have hset : (zwo cI cR ad S).set j (ad j, .inl (cI, k2.headD 0, .inl (va_cpy (S.2.2.2.1 i) (S.2.2.2.1 j) sp.toNatClampNeg dp.toNatClampNeg k.toNatClampNeg))) = zwo cI cR ad (S.1, S.2.1, S.2.2.1, zrI S.2.2.2.1 j (va_cpy (S.2.2.2.1 i) (S.2.2.2.1 j) sp.toNatClampNeg dp.toNatClampNeg k.toNatClampNeg), S.2.2.2.2) := zwo_set (S := S) (S' := (S.1, S.2.1, S.2.2.1, zrI S.2.2.2.1 j (va_cpy (S.2.2.2.1 i) (S.2.2.2.1 j) sp.toNatClampNeg dp.toNatClampNeg k.toNatClampNeg), S.2.2.2.2)) rfl (by rw [zce_int hl2]; simp only [zrI_eq]) (fun j' hj' => zce_congr (zrI_ne hj') rfl (fun _ => rfl))
            have hI2 : zinv (S.1, S.2.1, S.2.2.1, zrI S.2.2.2.1 j (va_cpy (S.2.2.2.1 i) (S.2.2.2.1 j) sp.toNatClampNeg dp.toNatClampNeg k.toNatClampNeg), S.2.2.2.2) := zinv_same hI rfl rfl
            refine va_copyi (q0 := i) (q1 := j) (t0 := 0) (t1 := 0) (ty := .int) hx hb (hml.trans hsz.symm) hown (hts _ (zat_ok h1)) (hts _ w1) (hts _ w2) (hts _ w3) hK hW.1 hW.2 hS (by rw [zwo_at hi, zce_int hl1]) (by rw [zwo_at hj, zce_int hl2]) rfl rfl rfl q1 q2 q3 q4 q5 (fun _ _ => rfl) (by omega) ?_ hdg (fun H1 locs1 hP1 hD1 hS1 => ?_)
            · rw [zw_sum]
              have := znfw
              omega
            · rw [hset] at hP1 hD1
              exact ih _ _ _ _ h hI2 ad sl H1 locs1 hL ⟨hP1, hD1⟩ hS1 hc0 hz0 had hade
          · cases h
        · cases h
      next h99 =>
        rw [if_neg h99] at hex
        unfold zcall at h
        split at h
        next => cases h
        next As rest hp =>
          split at h
          next hc =>
            split at h
            next => cases h
            next r1 S1 hr =>
              split at h
              next hok =>
                obtain ⟨hf, kk⟩ := hafter As rest r1 S1 hr hok h
                obtain ⟨B, rfl, rfl, hB⟩ := zpop_ok _ _ _ _ _ hp
                rw [List.append_nil] at hr
                obtain ⟨-, -, hMt⟩ := hcf _ _ _ _ _ hr hI
                simp only [Bool.or_eq_true] at hex
                rcases hex with hex | hex
                · refine zcallW (va_runS (As := B.map (zcv ad)) (rest := rest.map (zcv ad)) ⟨hx, hb, hml, hown, hts⟩ (hMt ad hX) (zcwS hPW hts hex hRd) ⟨zPc_blind hKS, fun U hU hw => zPc_of hKS hK hh hKK hW hS U hU hw⟩ rfl (by rw [List.length_map]; exact hB) hsz ?_ ?_ hdg hf) hS kk
                  · show List.map (zcv ad) (B.reverse ++ rest) = _
                    simp
                  · show 2 * 0 + _ ≤ 8
                    rw [zw_sum]
                    omega
                · refine zcallW (va_runSN (As := B.map (zcv ad)) (rest := rest.map (zcv ad)) ⟨hx, hb, hml, hown, hts⟩ (hMt ad hX) (zcwSN hPW hts hKK.1 hex hRd) ⟨zPc_blind hKS, fun U hU hw => zPc_of hKS hK hh hKK hW hS U hU hw⟩ rfl (by rw [List.length_map]; exact hB) hsz ?_ ?_ hdg hf) hS kk
                  · show List.map (zcv ad) (B.reverse ++ rest) = _
                    simp
                  · show 2 * 0 + _ ≤ 8
                    rw [zw_sum]
                    omega
              next => cases h
          next => cases h
    case invokespecial idx =>
      have hdg := zdec_ok hd rfl
      simp only at h
      simp only [zex] at hex
      split at h
      next h98 =>
        rw [if_pos h98] at hex
        split at h
        · next i rr =>
          split at h
          · next hw8 =>
            obtain ⟨x, hq⟩ := zq3_ok hex
            have h1 := List.all_eq_true.mp zOL_ok _ hq
            obtain ⟨w1, w2⟩ := zoi_ok
            have k2 := ih _ _ _ _ h hI ad sl H locs hL hW hS hc0 hz0 had hade
            refine W.objInit hx hb hown (hts _ (zat_ok h1)) (hts _ w1) (hts _ w2) rfl (by show sl.size = c.maxLocals; rw [hml]; exact hsz) rfl hdg (by omega) ?_ k2
            show 2 * 0 + _ + 12 ≤ R.locals
            rw [zw_sum]
            omega
          · cases h
        · cases h
      next h98 =>
        rw [if_neg h98] at hex
        unfold zcall at h
        split at h
        next => cases h
        next As rest hp =>
          split at h
          next hc =>
            split at h
            next => cases h
            next r1 S1 hr =>
              split at h
              next hok =>
                obtain ⟨hf, kk⟩ := hafter As rest r1 S1 hr hok h
                obtain ⟨B, rfl, rfl, hB⟩ := zpop_ok _ _ _ _ _ hp
                rw [List.append_nil] at hr hc
                obtain ⟨-, -, hMt⟩ := hcf _ _ _ _ _ hr hI
                obtain ⟨v, B0, rfl⟩ : ∃ v B0, B = v :: B0 := by
                  cases B with
                  | nil => cases hB
                  | cons v B0 => exact ⟨v, B0, rfl⟩
                cases v with
                | ref i =>
                  simp only [Bool.or_eq_true] at hex
                  rcases hex with hex | hex
                  · obtain ⟨hno, hcw⟩ := zcwI (S := S) (S1 := S1) hPW hts hex hRd
                    refine zcallW (va_runI (As := B0.map (zcv ad)) (rest := rest.map (zcv ad)) (b := ad i) ⟨hx, hb, hml, hown, hts⟩ (hMt ad hX) hcw ⟨zPc_blind hKS, fun U hU hw => zPc_of (As := .ref i :: B0) hKS hK hh hKK hW hS U hU hw⟩ rfl (by rw [List.length_map]; simpa using hB) hsz ?_ ?_ hdg hf) hS kk
                    · show List.map (zcv ad) ((Value.ref i :: B0).reverse ++ rest) = _
                      simp [zcv]
                    · show 2 * 0 + _ ≤ 8
                      rw [zw_sum]
                      omega
                  · refine zcallW (va_runIN (As := B0.map (zcv ad)) (rest := rest.map (zcv ad)) (b := ad i) ⟨hx, hb, hml, hown, hts⟩ (hMt ad hX) (zcwIN hPW hts hKK.1 hex hRd) ⟨zPc_blind hKS, fun U hU hw => zPc_of (As := .ref i :: B0) hKS hK hh hKK hW hS U hU hw⟩ rfl (by rw [List.length_map]; simpa using hB) hsz ?_ ?_ hdg hf) hS kk
                    · show List.map (zcv ad) ((Value.ref i :: B0).reverse ++ rest) = _
                      simp [zcv]
                    · show 2 * 0 + _ ≤ 8
                      rw [zw_sum]
                      omega
                | _ => exact absurd hc.2 (by simp [zhd])
              next => cases h
          next => cases h
    case ireturn =>
      have hdg := zdec_ok hd rfl
      simp only at h
      split at h
      · next v =>
        split at h
        · next hbo =>
          split at h
          · next hv =>
            cases h
            exact hendI v rfl (Or.inr ⟨hbo, hv⟩) pc sl H locs ad hdg hW hS had hade
          · cases h
        · next hbo =>
          cases h
          exact hendI v rfl (Or.inl hbo) pc sl H locs ad hdg hW hS had hade
        · cases h
      · cases h
    case return_ =>
      have hdg := zdec_ok hd rfl
      simp only at h
      split at h
      · split at h
        · next hno =>
          cases h
          exact hendV rfl hno pc sl H locs ad hdg hW hS had hade
        · cases h
      · cases h
    all_goals (simp only at h; cases h)
end ZS2

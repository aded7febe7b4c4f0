section ZS
variable {p : Program} {l : Launch} {e : Env} {R : Room} {s : State} {m : MethodId} {args : Array Value} {below : List Frame} {meth : Method} {c : Code} {Q : State → Prop}
variable {dC : Nat → ClassId} {dI : Nat → Nat → Nat} {cI cR : ClassId} {h0 : Nat} {KS : State → Prop} {adX : Nat → Nat} {X : Nat × (Nat → Int32)}
abbrev ztys (cI cR : ClassId) : List (ClassId × FieldType) := [(cI, .int), (cR, .object RX2)]
/-- what holds of the cells: they stand in the heap, apart from each other, from h0 on -/
def zWd (dC : Nat → ClassId) (dI : Nat → Nat → Nat) (cI cR : ClassId) (h0 : Nat) (ad : Nat → Nat) (S : zSt) (H : Heap) : Prop := va_P (dC, dI) vwCl (zwo cI cR ad S) H ∧ va_D (zA h0) (zwo cI cR ad S)
def zPc (dC : Nat → ClassId) (dI : Nat → Nat → Nat) (cI cR : ClassId) (h0 : Nat) (KS : State → Prop) (ad : Nat → Nat) (As : List Value) (S : zSt) : Array Value → State → Prop := va_Pc (As.map (zcv ad)) (fun U => h0 ≤ U.heap.size ∧ zWd dC dI cI cR h0 ad S U.heap ∧ va_K (dC, dI) vwCl (ztys cI cR) U ∧ zKK KS U)
def zQc (dC : Nat → ClassId) (dI : Nat → Nat → Nat) (cI cR : ClassId) (h0 : Nat) (ad : Nat → Nat) (S : zSt) (r : Option Value) (S' : zSt) : Array Value → State → Outcome → State → Prop := fun _ st o t => (o = .returned r ∧ ∃ ad' : Nat → Nat, (∀ i, i < S.1 ∨ 5000 ≤ i → ad' i = ad i) ∧ (S'.1 = S.1 → ad' = ad) ∧ zWd dC dI cI cR h0 ad' S' t.heap) ∧ va_F (zA h0) st t
def zsm (a : Nat) : MethodName × ByteArray × Nat × Option FieldType := if a = 9001 then (⟨"java/lang/String", "length", "()I"⟩, prog_19_method_54_code, 1, some .int) else if a = 9002 then (⟨"java/lang/String", "charAt", "(I)C"⟩, prog_19_method_56_code, 2, some .char) else (⟨"java/lang/String", "indexOf", "(I)I"⟩, prog_19_method_79_code, 2, some .int)
def zinf (a : Nat) : MethodName × ByteArray × Nat × Option FieldType := if 9000 ≤ a then zsm a else match zP a with
  | some M => (M.2.1, M.2.2.1, M.2.2.2.1, M.2.2.2.2.1)
  | none => (Lib.objectInit, ⟨#[]⟩, 0, none)
abbrev zws (a : Nat) : List Cond := Cond.code (zinf a).1 (zinf a).2.1 (zinf a).2.2.1 (zinf a).2.2.2 :: zT
def zrm (d : Nat) (S S' : zSt) : Room := { frames := d, cells := S'.1 - S.1, slots := S'.2.1 - S.2.1, locals := 100 * d }
def zMet (l : Launch) (dC : Nat → ClassId) (dI : Nat → Nat → Nat) (cI cR : ClassId) (h0 : Nat) (KS : State → Prop) (adX : Nat → Nat) (d a : Nat) (As : List Value) (S : zSt) (r : Option Value) (S' : zSt) : Prop :=
  ∀ ad : Nat → Nat, (∀ i, 5000 ≤ i → ad i = adX i) → Met l (zinf a).1 (zws a) (zrm d S S') (zPc dC dI cI cR h0 KS ad As S) (zQc dC dI cI cR h0 ad S r S') (S'.1 - S.1) (S'.2.1 - S.2.1) (zA h0)
theorem zPc_blind {ad : Nat → Nat} {As : List Value} {S : zSt} (hKS : zKst h0 KS) : FrameBlind (zPc dC dI cI cR h0 KS ad As S) := by
  intro a U g mk h
  obtain ⟨h1, h2, h3, h4, h5⟩ := h
  exact ⟨h1, h2, h3, va_K.moved (u := U) (U := U.calling g mk a) (Vm.Alike.refl U.vm) h4, zKK_st hKS h5 (State.WarmedH.refl U) (fun _ _ => rfl)⟩
theorem zlow {H : Heap} {locs : List Loc} (hh : h0 ≤ s.heap.size) (hS : va_S (zA h0) s.heap H locs) : ∀ q, q < h0 → H[q]? = s.heap[q]? := fun q hq => hS.2.1 q (by omega) (fun z => by simp only [zA] at z; omega)
theorem zPc_of {ad : Nat → Nat} {As : List Value} {S : zSt} {H : Heap} {locs : List Loc} (hKS : zKst h0 KS) (hK : va_K (dC, dI) vwCl (ztys cI cR) s) (hh : h0 ≤ s.heap.size) (hKK : zKK KS s) (hW : zWd dC dI cI cR h0 ad S H) (hS : va_S (zA h0) s.heap H locs) (U : State) (hU : U.heap = H) (hw : s.WarmedH U.vm) : zPc dC dI cI cR h0 KS ad As S (As.map (zcv ad)).toArray U :=
  ⟨rfl, by rw [hU]; exact Nat.le_trans hh hS.1, by rw [hU]; exact hW, va_K.moved hw.alike hK, zKK_st hKS hKK hw (fun q hq => by rw [hU]; exact zlow hh hS q hq)⟩
/-- behind a call -/
theorem zcallW {H : Heap} {locs : List Loc} {cells slots mc ms pc : Nat} {ls : Array Slot} {st0 rest : List Value} {a : Array Value} {ad : Nat → Nat} {S S1 : zSt} {r : Option Value}
    (hr : va_Run p l e R s m args below meth c H locs cells slots mc ms (F0 m pc ls st0) rest (zQc dC dI cI cR h0 ad S r S1 a) (zA h0)) (hS : va_S (zA h0) s.heap H locs)
    (kk : ∀ (ad' : Nat → Nat) (H1 : Heap) (locs1 : List Loc), (∀ i, i < S.1 ∨ 5000 ≤ i → ad' i = ad i) → (S1.1 = S.1 → ad' = ad) → zWd dC dI cI cR h0 ad' S1 H1 → va_S (zA h0) s.heap H1 locs1 → W p l e R s m args below meth c H1 locs1 (cells + mc) (slots + ms) Q (F0 m (pc + 3) ls (r.toList ++ rest))) : W p l e R s m args below meth c H locs cells slots Q (F0 m pc ls st0) := by
  intro T hT X
  obtain ⟨v, st₀, t, T', L, g0, X', hL, e1, e2, ⟨⟨hv, ad', h1, h3, h2⟩, hz, hk⟩, st⟩ := hr T hT X
  cases hv
  rw [g0] at hz hk
  obtain ⟨t2, a1, b1⟩ := kk ad' T'.heap (locs ++ L) h1 h3 (by rw [e1]; exact h2) ⟨Nat.le_trans hS.1 (by rw [e1]; exact hz), fun q q1 q2 => by rw [e1, hk q (Nat.lt_of_lt_of_le q1 hS.1) q2]; exact hS.2.1 q q1 q2, fun q hq => by
      rcases List.mem_append.mp hq with h | h
      · exact hS.2.2 q h
      · exact hL q h⟩ T' rfl X'
  exact ⟨t2, st t2 a1, b1⟩
/-! tables by rows -/
theorem zq5_ok {l : List (Nat × Nat × Nat × Nat × Nat)} {o i a b : Nat} (h : zq5 l o i a b = true) : ∃ x, (o, i, a, b, x) ∈ l := by
  obtain ⟨⟨o', i', a', b', x⟩, hq, h⟩ := List.any_eq_true.mp h
  simp only [Bool.and_eq_true, beq_iff_eq] at h
  obtain ⟨⟨⟨rfl, rfl⟩, rfl⟩, rfl⟩ := h
  exact ⟨x, hq⟩
theorem zq4_ok {l : List (Nat × Nat × Nat × Nat)} {o i a : Nat} (h : zq4 l o i a = true) : ∃ x, (o, i, a, x) ∈ l := by
  obtain ⟨⟨o', i', a', x⟩, hq, h⟩ := List.any_eq_true.mp h
  simp only [Bool.and_eq_true, beq_iff_eq] at h
  obtain ⟨⟨rfl, rfl⟩, rfl⟩ := h
  exact ⟨x, hq⟩
theorem zq3_ok {l : List (Nat × Nat × Nat)} {o i : Nat} (h : zq3 l o i = true) : ∃ x, (o, i, x) ∈ l := by
  obtain ⟨⟨o', i', x⟩, hq, h⟩ := List.any_eq_true.mp h
  simp only [Bool.and_eq_true, beq_iff_eq] at h
  obtain ⟨rfl, rfl⟩ := h
  exact ⟨x, hq⟩
theorem zFL_use {o i a b : Nat} (h : zq5 zFL o i a b = true) : a < 13 ∧ b < (zC a).2.2 ∧ Cond.fieldLink (zR o) i ((zC a).2.1 b).1 ((zC a).2.1 b).2.1 ((zC a).2.1 b).2.2.1 ∈ zT := by
  obtain ⟨x, hq⟩ := zq5_ok h
  have h1 := List.all_eq_true.mp zFL_ok _ hq
  simp only [Bool.and_eq_true, decide_eq_true_eq] at h1
  exact ⟨h1.1.1, h1.1.2, zat_ok h1.2⟩
theorem zFN_use {o i a b : Nat} (h : zq5 zFN o i a b = true) : a < 13 ∧ b < (zC a).2.2 ∧ Cond.fieldLinkNest (zR o) i ((zC a).2.1 b).1 ((zC a).2.1 b).2.1 ((zC a).2.1 b).2.2.1 "HearsayOrchestra" ∈ zNW := by
  obtain ⟨x, hq⟩ := zq5_ok h
  have h1 := List.all_eq_true.mp zFN_ok _ hq
  simp only [Bool.and_eq_true, decide_eq_true_eq] at h1
  exact ⟨h1.1.1, h1.1.2, List.mem_append_left _ (List.mem_map.mpr ⟨_, hq, rfl⟩)⟩
theorem zdec_ok {cc : ByteArray} {pc : Nat} {ins : Instr} (h : zdec cc pc ins = true) (hs : zswi ins = false) : decode cc pc = .ok (ins, zlenI ins) := by
  unfold zdec at h
  split at h
  next i n hd =>
    simp only [Bool.and_eq_true, Bool.or_eq_true, decide_eq_true_eq, hs, Bool.false_eq_true, or_false] at h
    rw [hd, h.1, h.2]
  next => cases h
theorem zdec_sw {cc : ByteArray} {pc : Nat} {ins : Instr} (h : zdec cc pc ins = true) : ∃ n, decode cc pc = .ok (ins, n) ∧ (zswi ins = true ∨ n = zlenI ins) := by
  unfold zdec at h
  split at h
  next i n hd =>
    simp only [Bool.and_eq_true, Bool.or_eq_true, decide_eq_true_eq] at h
    exact ⟨n, by rw [hd, h.1], h.2.symm⟩
  next => cases h
end ZS

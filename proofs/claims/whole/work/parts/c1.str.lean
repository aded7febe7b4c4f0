/-! THE STRING METHODS ON THE TWO CONSTANTS -/
section ZJ
variable {l : Launch} {dC : Nat → ClassId} {dI : Nat → Nat → Nat} {cI cR : ClassId} {h0 : Nat} {KS : State → Prop} {adX : Nat → Nat} {fm : Value}
/-- what is known of the two constants, of the formatter, of the switch -/
def zKT (adX : Nat → Nat) (fm : Value) (h0 : Nat) (U : State) : Prop :=
  va_Z "java/lang/String" "COMPACT_STRINGS" "Z" (.int 1) (zA h0) U U.heap ∧ va_Z "jdk/internal/util/Preconditions" "SIOOBE_FORMATTER" "Ljava/util/function/BiFunction;" (zcv adX fm) (zA h0) U U.heap ∧
  ∀ i, (i = 5000 ∨ i = 5001) → va_O "java/lang/String" (adX i) (zA h0) U U.heap ∧ va_OF "java/lang/String" "coder" "B" (.int 0) (adX i) (zA h0) U U.heap ∧ va_OF "java/lang/String" "value" "[B" (.ref (adX (i + 10))) (adX i) (zA h0) U U.heap ∧ va_T .byte (adX (i + 10)) (zsb i).length (fun j => .int (Int32.ofNat ((zsb i).getD j 0))) (zA h0) U U.heap
theorem zKT_st {fm : Value} : zKst h0 (zKT adX fm h0) := by
  intro s U h hW hq
  obtain ⟨h1, h2, h3⟩ := h
  have hk : ∀ a : Nat, a < s.heap.size → ¬ zA h0 a → U.heap[a]? = s.heap[a]? := fun a _ h => hq a (by simp only [zA] at h; omega)
  refine ⟨(va_Z.moved hW.alike h1).kept hk, (va_Z.moved hW.alike h2).kept hk, fun i hi => ?_⟩
  obtain ⟨g1, g2, g3, g4⟩ := h3 i hi
  exact ⟨(va_O.moved hW.alike g1).kept hk, (va_OF.moved hW.alike g2).kept hk, (va_OF.moved hW.alike g3).kept hk, (va_T.moved hW.alike g4).kept hk⟩
def zrj (d : Nat) : Room := { frames := d, cells := 0, slots := 0, locals := 100 * d }
/-- a contract: it answers, and changes nothing -/
def zMj (l : Launch) (dC : Nat → ClassId) (dI : Nat → Nat → Nat) (cI cR : ClassId) (h0 : Nat) (KS : State → Prop) (adX : Nat → Nat) (d : Nat) (y : MethodName) (cc : ByteArray) (n : Nat) (ret : Option FieldType) (As : List Value) (S : zSt) (r : Option Value) : Prop :=
  ∀ ad : Nat → Nat, (∀ i, 5000 ≤ i → ad i = adX i) → Met l y (Cond.code y cc n ret :: zT) (zrj d) (zPc dC dI cI cR h0 KS ad As S) (zQc dC dI cI cR h0 ad S r S) 0 0 (zA h0)
/-- what holds in its body -/
def zJB (dC : Nat → ClassId) (dI : Nat → Nat → Nat) (cI cR : ClassId) (h0 : Nat) (KS : State → Prop) (y : MethodName) (cc : ByteArray) (n : Nat) (ret : Option FieldType) (As : List Value) (S : zSt) (ad : Nat → Nat) (p : Program) (s : State) (m : MethodId) (meth : Method) (c : Code) (sl : Array Slot) : Prop :=
  p.tables.exec = Jvm.exec ∧ c.code = cc ∧ c.maxLocals = n ∧ s.vm.findClass y.cls = some m.cls ∧ (∀ w ∈ zT, w.before (As.map (zcv ad)).toArray s = true) ∧ meth.sig.returnType = ret ∧ meth.locks = false ∧ h0 ≤ s.heap.size ∧ zWd dC dI cI cR h0 ad S s.heap ∧ va_K (dC, dI) vwCl (ztys cI cR) s ∧ zKK KS s ∧ zloc n ad (zpad n (zini As)) sl
theorem zmj_of {d n : Nat} {y : MethodName} {cc : ByteArray} {ret : Option FieldType} {As : List Value} {S : zSt} {r : Option Value} (hy : plainFor y = true) (hlen : (zini As).length ≤ n)
    (body : ∀ (ad : Nat → Nat), (∀ i, 5000 ≤ i → ad i = adX i) → ∀ (p : Program) (e : Env) (s : State) (m : MethodId) (below : List Frame) (meth : Method) (c : Code) (sl : Array Slot), zJB dC dI cI cR h0 KS y cc n ret As S ad p s m meth c sl → W p l e (zrj d) s m (As.map (zcv ad)).toArray below meth c s.heap [] 0 0 (MQ below (zQc dC dI cI cR h0 ad S r S) (As.map (zcv ad)).toArray s 0 0 (zA h0)) (F0 m 0 sl [])) :
    zMj l dC dI cI cR h0 KS adX d y cc n ret As S r := by
  intro ad had
  refine va_MetF (cc := cc) (maxL := n) (ret := ret) hy rfl ?_
  intro p e s m args below meth c s₁ B hml hv
  obtain ⟨rfl, hh, hW, hK, hKK⟩ := hv
  have hts := atoms_spec (ws := Cond.code y cc n ret :: zT) B.pre
  rw [lg_entry_eq]
  exact body ad had p e s m below meth c _ ⟨B.exec, B.bytes, hml, findClass_of_methodNamed B.named, fun w hw => hts w (List.mem_cons_of_mem _ hw), B.returns, B.notSynchronized, hh, hW, hK, hKK, zini_loc ad hlen⟩
section ZJ1
variable {p : Program} {e : Env} {R : Room} {s : State} {m : MethodId} {args : Array Value} {below : List Frame} {meth : Method} {c : Code} {Q : State → Prop} {H : Heap} {locs : List Loc} {ad : Nat → Nat} {S : zSt}
theorem zjret {cc : ByteArray} {ty : FieldType} {v : Int32} {pc : Nat} {sl : Array Slot} (hx : p.tables.exec = Jvm.exec) (hb : c.code = cc) (hr : meth.sig.returnType = some ty) (hlk : meth.locks = false) (hn : narrow ty (.int v) = .int v) (hW : zWd dC dI cI cR h0 ad S H) (hS : va_S (zA h0) s.heap H locs) (hdg : decode cc pc = .ok (.ireturn, 1)) :
    W p l e R s m args below meth c H locs 0 0 (MQ below (zQc dC dI cI cR h0 ad S (some (.int v)) S) args s 0 0 (zA h0)) (F0 m pc sl [.int v]) :=
  W.zret hx hb hr hn (fun t ht hw => ⟨⟨rfl, ad, fun _ _ => rfl, fun _ => rfl, by rw [ht]; exact hW⟩, hS.F ht⟩) hS.2.2 hdg hlk
/-- a static call -/
theorem zjcS {cc cc' : ByteArray} {n n' d k pc idx : Nat} {own : String} {y' : MethodName} {ret' : Option FieldType} {As' : List Value} {r' : Option Value} {sl : Array Slot} {st0 rest : List Value} (hx : p.tables.exec = Jvm.exec) (hb : c.code = cc) (hml : c.maxLocals = n) (hown : s.vm.findClass own = some m.cls) (hts : ∀ w ∈ zT, w.before args s = true) (hsz : sl.size = n) (hh : h0 ≤ s.heap.size) (hW : zWd dC dI cI cR h0 ad S H) (hK : va_K (dC, dI) vwCl (ztys cI cR) s) (hKK : zKK KS s) (hS : va_S (zA h0) s.heap H locs) (hKS : zKst h0 KS) (had : ∀ i, 5000 ≤ i → ad i = adX i)
    (hM : zMj l dC dI cI cR h0 KS adX d y' cc' n' ret' As' S r') (hlink : Cond.methodLink own idx y' ∈ zT) (hst : Cond.static y' ∈ zT) (hini : Cond.initialized y'.cls ∈ zT) (hcd : Cond.code y' cc' n' ret' ∈ zT)
    (hd : y'.cls ≠ "java/lang/invoke/MethodHandle" ∧ y'.cls ≠ "java/lang/invoke/VarHandle" ∧ (parseMethodDescriptor y'.desc).map (fun d => d.parameters.length) = some k) (hn : n' ≤ 60) (hAs : As'.length = k) (hR : d + 1 ≤ R.frames ∧ 100 * d + 100 ≤ R.locals) (hstk : st0 = (As'.map (zcv ad)).reverse ++ rest) (hw : (rest.map fun v => v.category).sum ≤ 8) (hdg : decode cc pc = .ok (.invokestatic idx, 3))
    (kk : ∀ (H1 : Heap) (locs1 : List Loc), zWd dC dI cI cR h0 ad S H1 → va_S (zA h0) s.heap H1 locs1 → W p l e R s m args below meth c H1 locs1 0 0 Q (F0 m (pc + 3) sl (r'.toList ++ rest))) : W p l e R s m args below meth c H locs 0 0 Q (F0 m pc sl st0) := by
  refine zcallW (va_runS (As := As'.map (zcv ad)) (rest := rest) ⟨hx, hb, hml, hown, hts⟩ (hM ad had) ⟨callB_of k hts (zgood (fun w hw => ?_)) (ws' := zT) rfl rfl rfl (hts _ hini) (hts _ hlink) hd ⟨hR.1, ?_⟩, hts _ hst⟩ ⟨zPc_blind hKS, fun U hU hw => zPc_of hKS hK hh hKK hW hS U hU hw⟩ rfl (by rw [List.length_map]; exact hAs) hsz hstk (by show 2 * 0 + _ ≤ 8; omega) hdg ⟨Nat.zero_le _, Nat.zero_le _⟩) hS (fun ad' H1 locs1 h1 h3 hW1 hS1 => ?_)
  · rcases List.mem_cons.mp hw with rfl | hw
    · exact hcd
    · exact hw
  · show 8 + (n' + 11) + 100 * d ≤ R.locals
    omega
  · rw [h3 rfl] at hW1
    exact kk H1 locs1 hW1 hS1
/-- a call on a constant -/
theorem zjcV {cc cc' : ByteArray} {n n' d k pc idx i : Nat} {own : String} {y' : MethodName} {ret' : Option FieldType} {As' : List Value} {r' : Option Value} {sl : Array Slot} {st0 rest : List Value} (hx : p.tables.exec = Jvm.exec) (hb : c.code = cc) (hml : c.maxLocals = n) (hown : s.vm.findClass own = some m.cls) (hts : ∀ w ∈ zT, w.before args s = true) (hsz : sl.size = n) (hh : h0 ≤ s.heap.size) (hW : zWd dC dI cI cR h0 ad S H) (hK : va_K (dC, dI) vwCl (ztys cI cR) s) (hKK : zKK KS s) (hS : va_S (zA h0) s.heap H locs) (hKS : zKst h0 KS) (had : ∀ i, 5000 ≤ i → ad i = adX i)
    (hM : zMj l dC dI cI cR h0 KS adX d y' cc' n' ret' (.ref i :: As') S r') (hlink : Cond.methodLink own idx y' ∈ zT) (him : Cond.instanceMethod y' ∈ zT) (hse : Cond.selects y'.cls y' y' ∈ zT) (hini : Cond.initialized y'.cls ∈ zT) (hcd : Cond.code y' cc' n' ret' ∈ zT)
    (hd : y'.cls ≠ "java/lang/invoke/MethodHandle" ∧ y'.cls ≠ "java/lang/invoke/VarHandle" ∧ (parseMethodDescriptor y'.desc).map (fun d => d.parameters.length) = some k) (hn : n' ≤ 60) (hAs : As'.length = k) (hR : d + 1 ≤ R.frames ∧ 100 * d + 100 ≤ R.locals) (hO : va_O y'.cls (ad i) (zA h0) s s.heap) (hstk : st0 = (As'.map (zcv ad)).reverse ++ .ref (ad i) :: rest) (hw : (rest.map fun v => v.category).sum ≤ 8) (hdg : decode cc pc = .ok (.invokevirtual idx, 3))
    (kk : ∀ (H1 : Heap) (locs1 : List Loc), zWd dC dI cI cR h0 ad S H1 → va_S (zA h0) s.heap H1 locs1 → W p l e R s m args below meth c H1 locs1 0 0 Q (F0 m (pc + 3) sl (r'.toList ++ rest))) : W p l e R s m args below meth c H locs 0 0 Q (F0 m pc sl st0) := by
  obtain ⟨cell, c1, c2, c3, -⟩ := hO.kept hS.2.1
  refine zcallW (va_runV (As := As'.map (zcv ad)) (rest := rest) (b := ad i) ⟨hx, hb, hml, hown, hts⟩ (hM ad had) (cwV k hts (zgood (fun w hw => ?_)) (ws' := zT) rfl rfl rfl ⟨rfl, hd.1, hd.2.1, hd.2.2⟩ ⟨hR.1, ?_⟩) ⟨zPc_blind hKS, ⟨cell, c1, c2, c3⟩, fun U hU hw => zPc_of (As := .ref i :: As') hKS hK hh hKK hW hS U hU hw⟩ rfl (by rw [List.length_map]; exact hAs) hsz hstk (by show 2 * 0 + _ ≤ 8; omega) hdg ⟨Nat.zero_le _, Nat.zero_le _⟩) hS (fun ad' H1 locs1 h1 h3 hW1 hS1 => ?_)
  · unfold wsV at hw
    simp only [List.mem_append, List.mem_cons, List.not_mem_nil, or_false] at hw
    rcases hw with (rfl | rfl | rfl | rfl) | rfl | hw
    · exact hlink
    · exact him
    · exact hse
    · exact hini
    · exact hcd
    · exact hw
  · show 8 + (n' + 11) + 100 * d ≤ R.locals
    omega
  · rw [h3 rfl] at hW1
    exact kk H1 locs1 hW1 hS1
end ZJ1
end ZJ

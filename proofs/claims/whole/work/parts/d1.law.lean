/-! THE CLAIM OUT OF ONE WALK OF THE LAW'S BODY. Your part is whole_start (and what it stands on); all else here is the same for every law, but numbers. -/
def R_law : String := "HearsayOrchestraLaw"
def lw_P (b : Addr) (xs : List Int32) (args : Array Value) (s : State) : Prop := args = #[.ref b] ∧ s.IntsAt b xs ∧ xs.length ≤ 3072 ∧ (Jvm.Cond.and given_1 narrow_1).before args s = true
def lw_Q (_ : Array Value) (s : State) (o : Outcome) (t : State) : Prop := o = .returned (some (.int 1)) ∧ Framed s o t [] 600000 7302250
def lw_Z (below : List Frame) (a : Array Value) (s : State) : State → Prop := fun t => ∃ o, t.status = .running ∧ Ended t below o ∧ lw_Q a s o t
/-- the law's own end, with 1 on the stack, nothing written that was there before, its room as the claim has it -/
theorem lw_ret {p : Program} {l : Launch} {e : Env} {s : State} {m : MethodId} {below : List Frame} {meth : Method} {c : Code} {b : Nat} (hx : p.tables.exec = Jvm.exec) (hb : c.code = code) (hr : meth.sig.returnType = ret) (hlocks : meth.locks = false) {pc : Nat} {H : Heap} {ls : Array Slot} (hdg : decode code pc = .ok (.ireturn, 1)) : W p l e room_1 s m #[Value.ref b] below meth c H [] 600000 7302250 (lw_Z below #[Value.ref b] s) (F0 m pc ls [.int 1]) := by
  intro T hT X
  obtain ⟨fs, hret, hrun, hended, hW, hframe⟩ := X.leave (v := some (.int 1)) (hlocks := hlocks) (fun h => by rw [hr] at h; cases h)
  have hmeth' : T.vm.method? m = some meth := X.method'
  refine ⟨T.setFrames fs, ?_, .returned (some (.int 1)), hrun, hended, rfl, ⟨_, rfl⟩, hW, hframe⟩
  jvm_step X.here [X.here.top, hx, hb, hdg, hmeth', hr, ret, narrow_b1]
  (try refine ⟨rfl, ?_⟩); (try refine ⟨rfl, ?_⟩)
  first | (intro acts; rw [hret _ acts rfl rfl rfl]) | rw [hret _ _ rfl rfl rfl]
  exact Steps.refl _
/-- what holds at the law's entry: the machine, the code, the tables' words (any of lw_tbl by 'hts w (by decide +kernel)'), the script of L ints xs at the cell b, what the Statement gives of the start (any of its parts by flat_of_before) -/
def lw_At (p : Program) (s : State) (m : MethodId) (meth : Method) (c : Code) (b L : Nat) (xs : Nat → Int32) : Prop :=
  p.tables.exec = Jvm.exec ∧ c.code = code ∧ meth.sig.returnType = ret ∧ c.maxLocals = 4 ∧ s.vm.findClass R_law = some m.cls ∧ (∀ w ∈ lw_tbl, w.before #[Value.ref b] s = true) ∧ va_X b L xs s s.heap ∧ b < s.heap.size ∧ meth.locks = false ∧ (Jvm.Cond.and given_1 narrow_1).before #[Value.ref b] s = true
theorem zinv0 : zinv zS0 := fun i ci ks hi => absurd hi (Nat.not_lt_zero i)
/-- what is said of the script -/
def zKX (b L : Nat) (xs : Nat → Int32) (U : State) : Prop := va_X b L xs U U.heap
theorem zKX_st {b L : Nat} {xs : Nat → Int32} {h0 : Nat} (hb : b < h0) : zKst h0 (zKX b L xs) := by
  intro s U h hW hq
  exact (va_X.moved hW.alike h).kept (hq b hb)
set_option maxHeartbeats 4000000 in
set_option maxRecDepth 100000 in
/-- the law, from what its run comes to; the strings' contracts, and the tables against the code, are given -/
theorem zwhole_open (hPW : zPW) (hPk : ∀ a M, zP a = some M → zchkM M = true) (hM9 : zchkM zm290 = true) (hAll : zAll) {p : Program} {e : Env} {s : State} {m : MethodId} {below : List Frame} {meth : Method} {c : Code} (l : Launch) {b L : Nat} {xs : Nat → Int32} (hL : L ≤ 3072) (C0 : lw_At p s m meth c b L xs)
    {KT : State → Prop} {adX : Nat → Nat} (hab : adX 7777 = b) (hKT : KT s) (hKTs : zKst s.heap.size KT) (hLdc : zLdc KT adX) (hRcv : zRcv KT adX s.heap.size)
    (hStr : ∀ dC dI cI cR, zStr2 l dC dI cI cR s.heap.size (fun U => zKX b L xs U ∧ KT U) adX) :
    W p l e room_1 s m #[Value.ref b] below meth c s.heap [] 0 0 (lw_Z below #[Value.ref b] s) (entryFrame m ([Value.ref b] : List Value).toArray 4) := by
  obtain ⟨hx, hb, hr, hml, hown, hts, hX, hbl, hlocks, hgv⟩ := id C0
  have hkn : ∀ i : Nat, ∃ (cC : ClassId) (iS : Nat → Nat), i < 13 → u_Kn s (zC i).1 (zC i).2.1 (zC i).2.2 cC iS := by
    intro i
    by_cases hi : i < 13
    · obtain ⟨cC, iS, h⟩ := u_known (C := (zC i).1) (T := (zC i).2.1) (N := (zC i).2.2) (n := (zC i).2.2) hts (fun w hw => zT_in (zC_ws i hi w hw)) (hts _ (zT_in (zC_inst i hi).1))
      exact ⟨cC, iS, fun _ => h⟩
    · exact ⟨(0 : Nat), fun _ => 0, fun h => absurd h hi⟩
  obtain ⟨dC, hkn⟩ := Classical.axiomOfChoice hkn
  obtain ⟨dI, hkn⟩ := Classical.axiomOfChoice hkn
  obtain ⟨cI, kI, compI, i1, i2, i3⟩ := Cond.arrayClass_spec (hts _ (zT_in zia_ok))
  obtain ⟨compR, cR, kR, r1, r2, r3, r4, r5⟩ := Cond.arrayOver_spec (hts _ zao_ok)
  have hK : va_K (dC, dI) vwCl (ztys cI cR) s := by
    refine ⟨fun i q hq => ?_, fun k q hk => ?_⟩
    · have hi : i < 13 := (List.getElem?_eq_some_iff.mp hq).1
      rw [zC_at i hi] at hq
      cases hq
      exact hkn i hi
    · match k, hk with
      | 0, hk =>
        cases hk
        exact ⟨fun n z => ⟨fun k h => (by cases h), kI, i2, compI, i3⟩, i1⟩
      | 1, hk =>
        cases hk
        exact ⟨fun n z => ⟨fun k h => (by cases h), kR, r3, compR, r4⟩, kR, compR, r3, r4, r1, r5⟩
      | k + 2, hk => simp at hk
  obtain ⟨d, N, n, S', hd, hrun, hc1, hc2⟩ := hAll (L, xs) hL
  have hrun := zguard (cf' := zgd (L, xs) d N) hM9 (fun a As S q hg h => by simp only [zgd]; rw [if_neg (fun z => by have := hg z.1; rw [z.2] at this; cases this)]; exact h) n n 0 _ _ _ (Nat.le_refl _) hrun
  have hKS : zKst s.heap.size (fun U => zKX b L xs U ∧ KT U) := fun s1 U h hW hq => ⟨zKX_st hbl s1 U h.1 hW hq, hKTs s1 U h.2 hW hq⟩
  have hScr : zScr (fun U => zKX b L xs U ∧ KT U) adX s.heap.size (L, xs) := fun U h => by
    rw [hab]
    exact ⟨h.1, hbl⟩
  have hLdc' : zLdc (fun U => zKX b L xs U ∧ KT U) adX := fun U h => hLdc U h.2
  have hRcv' : zRcv (fun U => zKX b L xs U ∧ KT U) adX s.heap.size := fun U i h => hRcv U i h.2
  have hNW : ∀ w ∈ zNW, va_Nw w s := by
    intro w hw
    rcases List.mem_append.mp hw with hw | hw
    · obtain ⟨q, hq, rfl⟩ := List.mem_map.mp hw
      have h1 := List.all_eq_true.mp zFN_ok _ hq
      simp only [Bool.and_eq_true] at h1
      exact va_Nw.of rfl (hts _ (zat0_ok h1.2))
    · rcases List.mem_append.mp hw with hw | hw
      · obtain ⟨q, hq, rfl⟩ := List.mem_map.mp hw
        have h1 := List.all_eq_true.mp zSN_ok _ hq
        simp only [Bool.and_eq_true] at h1
        exact va_Nw.of rfl (hts _ (zat0_ok h1.2))
      · obtain ⟨q, hq, rfl⟩ := List.mem_map.mp hw
        have h1 := List.all_eq_true.mp zIN_ok _ hq
        simp only [Bool.and_eq_true] at h1
        exact va_Nw.of rfl (hts _ (zat0_ok h1.2))
  have hKK : zKK (fun U => zKX b L xs U ∧ KT U) s := ⟨hNW, va_AO.of (hts _ zao_ok), hX, hKT⟩
  have hBd : zBd p s m #[Value.ref b] meth c room_1 dC dI cI cR s.heap.size (fun U => zKX b L xs U ∧ KT U) (d + 5) zm290 :=
    ⟨hx, hb, hml, hown, fun w hw => hts w (zT_in hw), fun z => absurd z (by decide), hK, Nat.le_refl _, hKK, hKS, by show d + 5 + 1 ≤ 2048; omega, by show 100 * (d + 5) + 100 ≤ 84000; omega⟩
  have hcf : ∀ a As S r S1, zgd (L, xs) d N a As S = some (r, S1) → zinv S → (S.1 ≤ S1.1 ∧ S.2.1 ≤ S1.2.1 ∧ zinv S1) ∧ (∀ ad, r.toList.map (zcv ad) = r.toList) ∧ zMet l dC dI cI cR s.heap.size (fun U => zKX b L xs U ∧ KT U) adX (d + 5) a As S r S1 := fun a As S r S1 h hI => by
    simp only [zgd] at h
    split at h
    · cases h
    · next hz => exact zsound2 hPW hPk hKS hScr hLdc' hRcv' (hStr dC dI cI cR) d N a As S r S1 h (fun h9 => by cases hc : zrc a As S with
        | true => rfl
        | false => exact absurd ⟨h9, hc⟩ hz) hI
  have hlo : zloc 4 adX [.ref 7777, .null, .null, .null] (lg_sl ([Value.ref b] : List Value) ++ List.replicate (4 - (lg_sl ([Value.ref b] : List Value)).length) Slot.unset).toArray := by
    have h := zini_loc (As := [.ref 7777]) (n := 4) adX (by decide)
    have e : ([.ref 7777] : List Value).map (zcv adX) = [Value.ref b] := by
      show [Value.ref (adX 7777)] = [Value.ref b]
      rw [hab]
    rw [e] at h
    exact h
  rw [lg_entry_eq]
  have key := zsound_stp (p := p) (l := l) (e := e) (below := below) (Q := lw_Z below #[Value.ref b] s) (c0 := 0) (z0 := 0) (ad0 := adX) (r := some (.int 1)) (S' := S') hPW hM9 hBd hScr hLdc' hRcv' (fun _ _ => rfl) hcf (by show S'.1 - 0 ≤ 600000; omega) (by show S'.2.1 - 0 ≤ 7302250; omega)
    (fun v hv hret pc sl H locs ad' hdg hW' hS' hag hade => by
      cases hv
      refine va_forget (fun q hq => hS'.2.2 q hq) ?_
      refine W.widen (k := 600000) (n := 7302250) (by omega) (by omega) ?_
      exact lw_ret hx hb hr hlocks hdg)
    (fun hv => by cases hv)
    n 0 _ [] zS0 hrun zinv0 adX _ s.heap [] hlo ⟨fun k q h => by simp [zwo] at h, ⟨fun i j p q h => by simp [zwo] at h, fun k q h => by simp [zwo] at h⟩⟩ va_S.rf (Nat.zero_le _) (Nat.zero_le _) (fun _ _ => rfl) (fun _ => rfl)
  exact key

theorem zVL_lt : (zVL.all (fun q => decide (q.2.2.1 < 290)) && zSL.all (fun q => decide (q.2.2.1 < 290)) && zIL.all (fun q => decide (q.2.2.1 < 290)) && zSN.all (fun q => decide (q.2.2.1 < 290)) && zIN.all (fun q => decide (q.2.2.1 < 290))) = true := by decide +kernel
theorem zsm_ok : [(9001, 793, 791, 792, 142), (9002, 803, 801, 802, 142), (9003, 846, 844, 845, 142)].all (fun q : Nat × Nat × Nat × Nat × Nat => zat q.2.1 (.code (zsm q.1).1 (zsm q.1).2.1 (zsm q.1).2.2.1 (zsm q.1).2.2.2) && zat q.2.2.1 (.instanceMethod (zsm q.1).1) && zat q.2.2.2.1 (.selects (zsm q.1).1.cls (zsm q.1).1 (zsm q.1).1) && zat q.2.2.2.2 (.initialized (zsm q.1).1.cls)) = true := by decide +kernel
theorem zVS_ok : zVS.all (fun q => (q.2.2.1 == 9001 || q.2.2.1 == 9002 || q.2.2.1 == 9003) && zat q.2.2.2.2 (.methodLink (zR q.1) q.2.1 (zsm q.2.2.1).1) && decide ((parseMethodDescriptor (zsm q.2.2.1).1.desc).map (fun d => d.parameters.length) = some q.2.2.2.1)) = true := by decide +kernel
theorem zsm_cls (a : Nat) : (zsm a).1.cls = "java/lang/String" ∧ (zsm a).2.2.1 ≤ 60 := by
  unfold zsm
  split
  · exact ⟨rfl, by decide⟩
  · split
    · exact ⟨rfl, by decide⟩
    · exact ⟨rfl, by decide⟩
theorem zST_ok : zST.all (fun q => q.2.2.1 == 5000 || q.2.2.1 == 5001) = true := by decide +kernel
theorem zST_big {o i a x : Nat} (h : (o, i, a, x) ∈ zST) : 5000 ≤ a := by
  have h1 := List.all_eq_true.mp zST_ok _ h
  simp only [Bool.or_eq_true, beq_iff_eq] at h1
  omega
/-- the callees' words -/
def zPW : Prop := ∀ a, a < 290 → ∃ M q, zP a = some M ∧ zlk zMp a = some q ∧ zmw M q = true
section ZC
variable {R : Room} {s : State} {args : Array Value} {d : Nat} {S S1 : zSt}
theorem zgood {ws : List Cond} (h : ∀ c ∈ ws, c ∈ zT) : GoodIn zT ws := fun c hc => ⟨h c hc, zT_good (h c hc)⟩
theorem zinf_lt {a : Nat} {M : zMe} (ha : a < 290) (h : zP a = some M) : zinf a = (M.2.1, M.2.2.1, M.2.2.2.1, M.2.2.2.2.1) := by
  unfold zinf
  rw [if_neg (by omega), h]
/-- a callee's own words, however it is called -/
theorem zown (hPW : zPW) {a k : Nat} (ha : a < 290) (hk : zkind a = some k) : ∃ M, zP a = some M ∧ zinf a = (M.2.1, M.2.2.1, M.2.2.2.1, M.2.2.2.2.1) ∧ (∀ c ∈ zws a, c ∈ zT) ∧ Cond.initialized M.2.1.cls ∈ zT ∧ (M.2.1.cls ≠ "java/lang/invoke/MethodHandle" ∧ M.2.1.cls ≠ "java/lang/invoke/VarHandle") ∧ M.2.1.cls = zR M.1 ∧ M.2.2.2.1 ≤ 60 ∧
    (k = 0 → Cond.instanceMethod M.2.1 ∈ zT ∧ Cond.selects M.2.1.cls M.2.1 M.2.1 ∈ zT) ∧ (k = 1 → Cond.static M.2.1 ∈ zT) ∧ (k = 2 → Cond.instanceMethod M.2.1 ∈ zT ∧ M.2.1.name = "<init>" ∧ M.2.2.2.2.1 = none) := by
  obtain ⟨M, q, h1, h2, h3⟩ := hPW a ha
  have hk2 : q.2.1 = k := by
    simp only [zkind, h2, Option.map_some, Option.some.injEq] at hk
    exact hk
  simp only [zmw, Bool.and_eq_true, decide_eq_true_eq] at h3
  obtain ⟨⟨⟨⟨⟨⟨⟨g1, g2⟩, g3⟩, g4⟩, g5⟩, g6⟩, g7⟩, g8⟩ := h3
  have hi := zinf_lt ha h1
  refine ⟨M, h1, hi, fun c hc => ?_, zat_ok g2, g5, g4, g6, fun z => ?_, fun z => ?_, fun z => ?_⟩
  · rcases List.mem_cons.mp hc with rfl | hc
    · rw [hi]
      exact zat_ok g1
    · exact hc
  · rw [hk2, z] at g8
    simp only [Nat.zero_ne_one, if_false, Bool.and_eq_true, show ¬ (0 = 2) by decide] at g8
    exact ⟨zat_ok g8.1, zat_ok g8.2⟩
  · rw [hk2, z] at g8
    simp only [if_true] at g8
    exact zat_ok g8
  · rw [hk2, z] at g8
    simp only [show ¬ (2 = 1) by decide, if_false, if_true, Bool.and_eq_true, decide_eq_true_eq] at g8
    exact ⟨zat_ok g8.1.1, g8.1.2, g8.2⟩
theorem znum_ok {a n : Nat} {M : zMe} (h : zP a = some M) (hn : znum a n = true) : (parseMethodDescriptor M.2.1.desc).map (fun d => d.parameters.length) = some n := by
  simp only [znum, h, znn, decide_eq_true_eq] at hn
  exact hn
theorem zyy_eq {a : Nat} {M : zMe} (h : zP a = some M) : zyy a = M.2.1 := by simp only [zyy, h]
theorem zcwV (hPW : zPW) (hts : ∀ w ∈ zT, w.before args s = true) {o i a b : Nat} (h : (zq5 zVL o i a b || (zq5 zVS o i a b && decide (9000 ≤ a))) = true) (hR : d + 1 ≤ R.frames ∧ 100 * d + 100 ≤ R.locals) :
    CallW R s args (zR o) (zinf a).1.cls i (zinf a).1 (zinf a).2.1 (zinf a).2.2.1 (zinf a).2.2.2 (zws a) (zrm d S S1) (S1.1 - S.1) (S1.2.1 - S.2.1) b := by
  simp only [Bool.or_eq_true, Bool.and_eq_true, decide_eq_true_eq] at h
  rcases h with h | ⟨h, h9⟩
  · obtain ⟨x, hq⟩ := zq5_ok h
    have h1 := List.all_eq_true.mp zVL_ok _ hq
    simp only [Bool.and_eq_true, decide_eq_true_eq] at h1
    have hlt : a < 290 := by
      have h2 := zVL_lt
      simp only [Bool.and_eq_true] at h2
      exact of_decide_eq_true (List.all_eq_true.mp h2.1.1.1.1 _ hq)
    obtain ⟨M, e1, e2, e3, e4, e5, e6, e7, e8, -, -⟩ := zown hPW hlt h1.1.1
    have hn := znum_ok e1 h1.1.2
    have hl := zat_ok h1.2
    rw [zyy_eq e1] at hl
    obtain ⟨e9, e10⟩ := e8 rfl
    have e3' := e3
    rw [e2]
    simp only
    refine cwV b hts (zgood (fun c hc => ?_)) (ws' := zT) (by rw [zws, e2]) rfl rfl ⟨rfl, e5.1, e5.2, hn⟩ ⟨hR.1, by show 8 + (M.2.2.2.1 + 11) + 100 * d ≤ R.locals; omega⟩
    unfold wsV at hc
    simp only [List.mem_append, List.mem_cons, List.not_mem_nil, or_false] at hc
    rcases hc with (rfl | rfl | rfl | rfl) | hc
    · exact hl
    · exact e9
    · exact e10
    · exact e4
    · exact e3 c (by simpa [zws] using hc)
  · obtain ⟨x, hq⟩ := zq5_ok h
    have h1 := List.all_eq_true.mp zVS_ok _ hq
    simp only [Bool.and_eq_true, Bool.or_eq_true, beq_iff_eq, decide_eq_true_eq] at h1
    obtain ⟨⟨g1, g2⟩, g3⟩ := h1
    have hw : Cond.code (zsm a).1 (zsm a).2.1 (zsm a).2.2.1 (zsm a).2.2.2 ∈ zT ∧ Cond.instanceMethod (zsm a).1 ∈ zT ∧ Cond.selects (zsm a).1.cls (zsm a).1 (zsm a).1 ∈ zT ∧ Cond.initialized (zsm a).1.cls ∈ zT := by
      have hs := zsm_ok
      simp only [List.all_cons, List.all_nil, Bool.and_eq_true, Bool.and_true] at hs
      obtain ⟨⟨⟨⟨a1, a2⟩, a3⟩, a4⟩, ⟨⟨⟨b1, b2⟩, b3⟩, b4⟩, ⟨⟨⟨c1, c2⟩, c3⟩, c4⟩⟩ := hs
      rcases g1 with (rfl | rfl) | rfl
      · exact ⟨zat_ok a1, zat_ok a2, zat_ok a3, zat_ok a4⟩
      · exact ⟨zat_ok b1, zat_ok b2, zat_ok b3, zat_ok b4⟩
      · exact ⟨zat_ok c1, zat_ok c2, zat_ok c3, zat_ok c4⟩
    have hi : zinf a = zsm a := by unfold zinf; rw [if_pos h9]
    have hl := zat_ok g2
    obtain ⟨hc1, hc2⟩ := zsm_cls a
    rw [hi]
    refine cwV b hts (zgood (fun c hc => ?_)) (ws' := zT) (by rw [zws, hi]) rfl rfl ⟨rfl, by rw [hc1]; decide, by rw [hc1]; decide, g3⟩ ⟨hR.1, by show 8 + ((zsm a).2.2.1 + 11) + 100 * d ≤ R.locals; omega⟩
    unfold wsV at hc
    simp only [List.mem_append, List.mem_cons, List.not_mem_nil, or_false, zws, hi] at hc
    rcases hc with (rfl | rfl | rfl | rfl) | rfl | hc
    · exact hl
    · exact hw.2.1
    · exact hw.2.2.1
    · exact hw.2.2.2
    · exact hw.1
    · exact hc
theorem zcwS (hPW : zPW) (hts : ∀ w ∈ zT, w.before args s = true) {o i a b : Nat} (h : zq5 zSL o i a b = true) (hR : d + 1 ≤ R.frames ∧ 100 * d + 100 ≤ R.locals) :
    CallB R s args (zR o) i (zinf a).1 (zinf a).2.1 (zinf a).2.2.1 (zinf a).2.2.2 (zws a) (zrm d S S1) (S1.1 - S.1) (S1.2.1 - S.2.1) b ∧ (Cond.static (zinf a).1).before args s = true := by
  obtain ⟨x, hq⟩ := zq5_ok h
  have h1 := List.all_eq_true.mp zSL_ok _ hq
  simp only [Bool.and_eq_true, decide_eq_true_eq] at h1
  have hlt : a < 290 := by
    have h2 := zVL_lt
    simp only [Bool.and_eq_true] at h2
    exact of_decide_eq_true (List.all_eq_true.mp h2.1.1.1.2 _ hq)
  obtain ⟨M, e1, e2, e3, e4, e5, e6, e7, -, e8, -⟩ := zown hPW hlt h1.1.1
  have hn := znum_ok e1 h1.1.2
  have hl := zat_ok h1.2
  rw [zyy_eq e1] at hl
  have e9 := e8 rfl
  rw [e2]
  simp only
  exact ⟨callB_of b hts (zgood e3) (ws' := zT) (by rw [zws, e2]) rfl rfl (hts _ e4) (hts _ hl) ⟨e5.1, e5.2, hn⟩ ⟨hR.1, by show 8 + (M.2.2.2.1 + 11) + 100 * d ≤ R.locals; omega⟩, hts _ e9⟩
theorem zcwI (hPW : zPW) (hts : ∀ w ∈ zT, w.before args s = true) {o i a b : Nat} (h : zq5 zIL o i a b = true) (hR : d + 1 ≤ R.frames ∧ 100 * d + 100 ≤ R.locals) :
    (zinf a).2.2.2 = none ∧ CallB R s args (zR o) i (zinf a).1 (zinf a).2.1 (zinf a).2.2.1 none (zws a) (zrm d S S1) (S1.1 - S.1) (S1.2.1 - S.2.1) b ∧ (zinf a).1.name = "<init>" ∧ (Cond.instanceMethod (zinf a).1).before args s = true := by
  obtain ⟨x, hq⟩ := zq5_ok h
  have h1 := List.all_eq_true.mp zIL_ok _ hq
  simp only [Bool.and_eq_true, decide_eq_true_eq] at h1
  have hlt : a < 290 := by
    have h2 := zVL_lt
    simp only [Bool.and_eq_true] at h2
    exact of_decide_eq_true (List.all_eq_true.mp h2.1.1.2 _ hq)
  obtain ⟨M, e1, e2, e3, e4, e5, e6, e7, -, -, e8⟩ := zown hPW hlt h1.1.1
  have hn := znum_ok e1 h1.1.2
  have hl := zat_ok h1.2
  rw [zyy_eq e1] at hl
  obtain ⟨e9, e10, e11⟩ := e8 rfl
  rw [e2]
  simp only
  refine ⟨e11, callB_of b hts (zgood e3) (ws' := zT) (by rw [zws, e2]; simp only [e11]) rfl rfl (hts _ e4) (hts _ hl) ⟨e5.1, e5.2, hn⟩ ⟨hR.1, by show 8 + (M.2.2.2.1 + 11) + 100 * d ≤ R.locals; omega⟩, e10, hts _ e9⟩
theorem zcwSN (hPW : zPW) (hts : ∀ w ∈ zT, w.before args s = true) (hN : ∀ w ∈ zNW, va_Nw w s) {o i a b : Nat} (h : zq5 zSN o i a b = true) (hR : d + 1 ≤ R.frames ∧ 100 * d + 100 ≤ R.locals) :
    va_CN R s args (zR o) i (zinf a).1 "HearsayOrchestra" (zinf a).2.1 (zinf a).2.2.1 (zinf a).2.2.2 (zws a) (zrm d S S1) (S1.1 - S.1) (S1.2.1 - S.2.1) b ∧ (Cond.static (zinf a).1).before args s = true ∧ True := by
  obtain ⟨x, hq⟩ := zq5_ok h
  have h1 := List.all_eq_true.mp zSN_ok _ hq
  simp only [Bool.and_eq_true, decide_eq_true_eq] at h1
  have hlt : a < 290 := by
    have h2 := zVL_lt
    simp only [Bool.and_eq_true] at h2
    exact of_decide_eq_true (List.all_eq_true.mp h2.1.2 _ hq)
  obtain ⟨M, e1, e2, e3, e4, e5, e6, e7, -, e8, -⟩ := zown hPW hlt h1.1.1
  have hn := znum_ok e1 h1.1.2
  have hl : va_Nw (.methodLinkNest (zR o) i M.2.1 "HearsayOrchestra") s := by
    have := hN (Cond.methodLinkNest (zR o) i (zyy a) "HearsayOrchestra") (List.mem_append_right _ (List.mem_append_left _ (List.mem_map.mpr ⟨_, hq, rfl⟩)))
    rw [zyy_eq e1] at this
    exact this
  have e9 := e8 rfl
  rw [e2]
  simp only
  exact ⟨va_cnB b hts (zgood e3) (ws' := zT) (by rw [zws, e2]) rfl rfl hl (hts _ e4) ⟨e5.1, e5.2, hn⟩ ⟨hR.1, by show 8 + (M.2.2.2.1 + 11) + 100 * d ≤ R.locals; omega⟩, hts _ e9, trivial⟩
theorem zcwIN (hPW : zPW) (hts : ∀ w ∈ zT, w.before args s = true) (hN : ∀ w ∈ zNW, va_Nw w s) {o i a b : Nat} (h : zq5 zIN o i a b = true) (hR : d + 1 ≤ R.frames ∧ 100 * d + 100 ≤ R.locals) :
    va_CN R s args (zR o) i (zinf a).1 "HearsayOrchestra" (zinf a).2.1 (zinf a).2.2.1 none (zws a) (zrm d S S1) (S1.1 - S.1) (S1.2.1 - S.2.1) b ∧ (zinf a).1.name = "<init>" ∧ (Cond.instanceMethod (zinf a).1).before args s = true := by
  obtain ⟨x, hq⟩ := zq5_ok h
  have h1 := List.all_eq_true.mp zIN_ok _ hq
  simp only [Bool.and_eq_true, decide_eq_true_eq] at h1
  have hlt : a < 290 := by
    have h2 := zVL_lt
    simp only [Bool.and_eq_true] at h2
    exact of_decide_eq_true (List.all_eq_true.mp h2.2 _ hq)
  obtain ⟨M, e1, e2, e3, e4, e5, e6, e7, -, -, e8⟩ := zown hPW hlt h1.1.1
  have hn := znum_ok e1 h1.1.2
  have hl : va_Nw (.methodLinkNest (zR o) i M.2.1 "HearsayOrchestra") s := by
    have := hN (Cond.methodLinkNest (zR o) i (zyy a) "HearsayOrchestra") (List.mem_append_right _ (List.mem_append_right _ (List.mem_map.mpr ⟨_, hq, rfl⟩)))
    rw [zyy_eq e1] at this
    exact this
  obtain ⟨e9, e10, e11⟩ := e8 rfl
  rw [e2]
  simp only
  exact ⟨va_cnB b hts (zgood e3) (ws' := zT) (by rw [zws, e2]; simp only [e11]) rfl rfl hl (hts _ e4) ⟨e5.1, e5.2, hn⟩ ⟨hR.1, by show 8 + (M.2.2.2.1 + 11) + 100 * d ≤ R.locals; omega⟩, e10, hts _ e9⟩
end ZC

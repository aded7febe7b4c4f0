/-! THE LAW'S START: the two constructors, by evaluation -/
/-- the law's own start: nothing is made -/
abbrev zS0 : zSt := (0, 0, [], fun _ _ => 0, fun _ _ => 0)
def zX0 : Nat × (Nat → Int32) := (0, fun _ => 0)
/-- the methods that the constructors reach -/
def zCt : List Nat := [0, 4, 15, 31, 43, 47, 65, 70, 76, 87, 119, 121, 161, 287]
def zxI (e : zI) : Bool := match e.1 with
  | .iaload => false
  | .arraylength => false
  | .invokevirtual _ => false
  | .invokestatic _ => decide (e.2.1 = 9999) || zCt.contains e.2.1
  | .invokespecial _ => decide (e.2.1 = 9998) || zCt.contains e.2.1
  | _ => true
def zxM (M : zMe) : Bool := M.2.2.2.2.2.all (fun c => c.all (fun o => match o with
  | some e => zxI e
  | none => true))
theorem zxM_at {M : zMe} (hM : zxM M = true) {pc : Nat} {e : zI} (h : zlk M.2.2.2.2.2 pc = some e) : zxI e = true := by
  obtain ⟨c, h1, h2⟩ := zlk_mem h
  have h3 := List.all_eq_true.mp (List.all_eq_true.mp hM c (List.mem_of_getElem? h1)) _ (List.mem_of_getElem? h2)
  exact h3
theorem zCt_ok : zCt.all (fun a => match zP a with
  | some M => zxM M
  | none => false) = true := by decide +kernel
set_option maxHeartbeats 4000000 in
set_option maxRecDepth 100000 in
theorem zstp_X {X Y : Nat × (Nat → Int32)} {cf cg : Nat → List Value → zSt → zRes} (hc : ∀ a ∈ zCt, cf a = cg a) {M : zMe} (hM : zxM M = true) : ∀ (n : Nat), zstp X cf M n = zstp Y cg M n := by
  intro n
  induction n with
  | zero =>
    funext pc ls st S
    rfl
  | succ n ih =>
    funext pc ls st S
    cases hk : zlk M.2.2.2.2.2 pc with
    | none => simp only [zstp, hk]
    | some e =>
      obtain ⟨ins, a, b⟩ := e
      have hx := zxM_at hM hk
      simp only [zstp, hk, ih]
      cases ins <;> first | rfl | (exact absurd hx Bool.false_ne_true) | skip
      case invokestatic i =>
        simp only
        by_cases e : a = 9999
        · rw [if_pos e, if_pos e]
        · rw [if_neg e, if_neg e]
          have ha : a ∈ zCt := by
            have h2 : (decide (a = 9999) || zCt.contains a) = true := hx
            rw [decide_eq_false e, Bool.false_or] at h2
            exact List.contains_iff_mem.mp h2
          unfold zcall
          rw [hc a ha]
      case invokespecial i =>
        simp only
        by_cases e : a = 9998
        · rw [if_pos e, if_pos e]
        · rw [if_neg e, if_neg e]
          have ha : a ∈ zCt := by
            have h2 : (decide (a = 9998) || zCt.contains a) = true := hx
            rw [decide_eq_false e, Bool.false_or] at h2
            exact List.contains_iff_mem.mp h2
          unfold zcall
          rw [hc a ha]
theorem zrun_X {X Y : Nat × (Nat → Int32)} : ∀ (d n : Nat), ∀ a ∈ zCt, zrun X d n a = zrun Y d n a := by
  intro d
  induction d with
  | zero =>
    intro n a ha
    funext As S
    rfl
  | succ d ih =>
    intro n a ha
    have h1 : (match zP a with
      | some M => zxM M
      | none => false) = true := List.all_eq_true.mp zCt_ok a ha
    cases hM : zP a with
    | none =>
      rw [hM] at h1
      exact absurd h1 Bool.false_ne_true
    | some M =>
      rw [hM] at h1
      funext As S
      simp only [zrun, hM]
      rw [zstp_X (X := X) (Y := Y) (ih n) h1 n]
/-- a new object's cell -/
def zNw (S : zSt) (ks : List Nat) : zSt := (S.1 + 1, S.2.1 + ks.length, znr S.1 0 ks ++ S.2.2.1, zrI S.2.2.2.1 S.1 (fun _ => 0), zrL S.2.2.2.2 S.1 (fun _ => 0))
def zK0 : List Nat := ((zlay 0).getD (0, [])).2
def zK1 : List Nat := ((zlay 178).getD (0, [])).2
/-- places that are 0 -/
def zZe : List (Nat × Nat) := [(27, 1), (178, 46), (25, 1), (178, 44), (29, 1), (178, 49), (31, 1), (178, 52), (13, 7), (187, 0), (20, 1), (178, 33), (22, 1), (178, 35), (178, 7), (2, 8), (11, 1), (179, 2), (65, 5), (178, 11), (81, 3), (178, 3), (81, 2), (0, 9), (178, 57), (158, 2), (178, 5), (179, 0), (2, 11)]
def zRck (f : Nat → Nat → Int32) (g : Nat → Nat → Int64) : Bool :=
  zZe.all (fun q => decide (f q.1 q.2 = 0)) && ((List.range 36).all (fun k => decide (f 24 k = 0) && decide (f 201 k = 0)) && ((List.range 48).all (fun k => decide (f 197 k = 0)) && (decide (g 2 12 = 0) && (decide (f 179 1 = f 2 9) && (decide (f 179 3 = f 2 10) && (decide (f 1 10 = f 178 37) && (decide (f 70 7 = f 178 31) && (decide (f 70 8 = f 178 32) && (decide (f 147 2 = 1) && (List.range 117).all (fun k => decide (f 186 k = nI (zWrd.getD k 0))))))))))))
def zpck : Bool := match zrun zX0 8 700 121 [.ref 0] (zNw zS0 zK0) with
  | some (none, S2) => decide (S2.1 = 178) && (match zrun zX0 8 700 161 [.ref 178] (zNw S2 zK1) with
    | some (none, S3) => decide (S3.1 = 212) && (decide (S3.2.1 = 14525) && (decide (S3.2.2.1 = []) && zRck S3.2.2.2.1 S3.2.2.2.2))
    | _ => false)
  | _ => false
set_option maxHeartbeats 4000000 in
set_option maxRecDepth 100000 in
theorem zpck_ok : zpck = true := by decide +kernel
theorem zstart0 : ∃ (S2 : zSt) (f : Nat → Nat → Int32) (g : Nat → Nat → Int64), zrun zX0 8 700 121 [.ref 0] (zNw zS0 zK0) = some (none, S2) ∧ S2.1 = 178 ∧ zrun zX0 8 700 161 [.ref 178] (zNw S2 zK1) = some (none, zs f g) ∧ zRck f g = true := by
  have h := zpck_ok
  unfold zpck at h
  split at h
  next S2 h1 =>
    rw [Bool.and_eq_true, decide_eq_true_eq] at h
    obtain ⟨h2, h⟩ := h
    split at h
    next S3 h3 =>
      obtain ⟨c, z, rr, f, g⟩ := S3
      simp only [Bool.and_eq_true, decide_eq_true_eq] at h
      obtain ⟨rfl, rfl, rfl, h4⟩ := h
      exact ⟨S2, f, g, h1, h2, h3, h4⟩
    next => exact absurd h Bool.false_ne_true
  next => exact absurd h Bool.false_ne_true

/-- a table's check, piece by piece -/
def zchkS (M : zMe) (lo n : Nat) : Bool := (List.range n).all (fun k => match zlk M.2.2.2.2.2 (lo + k) with
  | none => true
  | some e => zchk M (lo + k) e)
theorem zchkS_at {M : zMe} {lo n : Nat} (h : zchkS M lo n = true) {pc : Nat} (h1 : lo ≤ pc) (h2 : pc < lo + n) : (match zlk M.2.2.2.2.2 pc with
  | none => true
  | some e => zchk M pc e) = true := by
  have h3 := List.all_eq_true.mp h (pc - lo) (List.mem_range.mpr (by omega))
  have e : lo + (pc - lo) = pc := by omega
  rw [e] at h3
  exact h3
theorem zchkM_of {M : zMe} {m L : Nat} (hL : M.2.2.2.2.2.length = L) (hm : 16 * L ≤ 128 * m) (h : ∀ c, c < m → zchkS M (128 * c) 128 = true) : zchkM M = true := by
  unfold zchkM
  rw [hL]
  refine List.all_eq_true.mpr (fun pc hp => ?_)
  have hp := List.mem_range.mp hp
  exact zchkS_at (h (pc / 128) (by omega)) (by omega) (by omega)

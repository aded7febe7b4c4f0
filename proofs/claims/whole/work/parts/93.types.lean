/-! kinds, place by place -/
def zyS (c : Nat → Int32) (i : Nat) (s : List Bool) : Option (List Bool) := if 32 ≤ s.length then none else if 0 ≤ (c i).toInt ∨ ((c i).toInt ≤ -135 ∧ -143 ≤ (c i).toInt) then some (false :: s) else match s with
  | [] => none
  | x :: t => if (c i).toInt = -134 then (if x = true then some (true :: t) else none) else match t with
    | [] => none
    | y :: u => if (c i).toInt = -133 ∨ (c i).toInt = -132 then (if x = true ∧ y = true then some (true :: u) else none) else if x = false ∧ y = false then (if (c i).toInt = -60 ∨ (c i).toInt = -61 ∨ (c i).toInt = -62 then some (true :: u) else if (c i).toInt = -47 then (if 0 < i ∧ 0 < (c (i - 1)).toInt then some (false :: u) else none) else some (false :: u)) else none
theorem zTyp_1 {c : Nat → Int32} {i m : Nat} {s : List Bool} : zTyp c i (m + 1) s = (zyS c i s).bind (zTyp c (i + 1) m) := by
  conv => lhs; unfold zTyp
  unfold zyS
  by_cases h1 : 32 ≤ s.length
  · rw [if_pos h1, if_pos h1]; rfl
  · rw [if_neg h1, if_neg h1]
    by_cases h2 : 0 ≤ (c i).toInt ∨ ((c i).toInt ≤ -135 ∧ -143 ≤ (c i).toInt)
    · rw [if_pos h2, if_pos h2]; rfl
    · rw [if_neg h2, if_neg h2]
      cases s with
      | nil => rfl
      | cons x t =>
        dsimp only
        by_cases h3 : (c i).toInt = -134
        · rw [if_pos h3, if_pos h3]
          by_cases h4 : x = true
          · rw [if_pos h4, if_pos h4]; rfl
          · rw [if_neg h4, if_neg h4]; rfl
        · rw [if_neg h3, if_neg h3]
          cases t with
          | nil => rfl
          | cons y u =>
            dsimp only
            by_cases h5 : (c i).toInt = -133 ∨ (c i).toInt = -132
            · rw [if_pos h5, if_pos h5]
              by_cases h6 : x = true ∧ y = true
              · rw [if_pos h6, if_pos h6]; rfl
              · rw [if_neg h6, if_neg h6]; rfl
            · rw [if_neg h5, if_neg h5]
              by_cases h6 : x = false ∧ y = false
              · rw [if_pos h6, if_pos h6]
                by_cases h7 : (c i).toInt = -60 ∨ (c i).toInt = -61 ∨ (c i).toInt = -62
                · rw [if_pos h7, if_pos h7]; rfl
                · rw [if_neg h7, if_neg h7]
                  by_cases h8 : (c i).toInt = -47
                  · rw [if_pos h8, if_pos h8]
                    by_cases h9 : 0 < i ∧ 0 < (c (i - 1)).toInt
                    · rw [if_pos h9, if_pos h9]; rfl
                    · rw [if_neg h9, if_neg h9]; rfl
                  · rw [if_neg h8, if_neg h8]; rfl
              · rw [if_neg h6, if_neg h6]; rfl
theorem zTyp_a {c : Nat → Int32} : ∀ m1 {i : Nat} {s t : List Bool} {m2 : Nat}, zTyp c i m1 s = some t → zTyp c i (m1 + m2) s = zTyp c (i + m1) m2 t := by
  intro m1
  induction m1 with
  | zero =>
    intro i s t m2 h
    unfold zTyp at h
    injection h with h
    subst h
    rw [Nat.zero_add]
    rfl
  | succ m1 ih =>
    intro i s t m2 h
    rw [zTyp_1] at h
    rw [show m1 + 1 + m2 = (m1 + m2) + 1 by omega, zTyp_1]
    cases e : zyS c i s with
    | none =>
      rw [e] at h
      exact absurd h (by intro z; cases z)
    | some s' =>
      rw [e] at h
      show zTyp c (i + 1) (m1 + m2) s' = _
      rw [ih (show zTyp c (i + 1) m1 s' = some t from h), show i + 1 + m1 = i + (m1 + 1) by omega]
/-- one place more -/
theorem zTyp_p {c : Nat → Int32} {a e : Nat} {s t u : List Bool} (hae : a ≤ e) (h : zTyp c a (e - a) s = some t) (h1 : zyS c e t = some u) : zTyp c a (e + 1 - a) s = some u := by
  rw [show e + 1 - a = (e - a) + 1 by omega, zTyp_a _ h, zTyp_1, show a + (e - a) = e by omega, h1]
  rfl
/-- a piece more -/
theorem zTyp_q {c : Nat → Int32} {a e k : Nat} {s t u : List Bool} (hae : a ≤ e) (hek : e ≤ k) (h : zTyp c a (e - a) s = some t) (h1 : zTyp c e (k - e) t = some u) : zTyp c a (k - a) s = some u := by
  rw [show k - a = (e - a) + (k - e) by omega, zTyp_a _ h, show a + (e - a) = e by omega, h1]
theorem zyS_u {c : Nat → Int32} {i : Nat} {s : List Bool} (hs : s.length < 32) (h : 0 ≤ (c i).toInt ∨ ((c i).toInt ≤ -135 ∧ -143 ≤ (c i).toInt)) : zyS c i s = some (false :: s) := by
  unfold zyS
  rw [if_neg (by omega), if_pos h]
theorem zyS_o {c : Nat → Int32} {i : Nat} {u : List Bool} (hs : u.length + 2 < 32) (h : (c i).toInt = -42 ∨ (c i).toInt = -43 ∨ (c i).toInt = -45 ∨ ((c i).toInt = -47 ∧ 0 < i ∧ 0 < (c (i - 1)).toInt)) : zyS c i (false :: false :: u) = some (false :: u) := by
  unfold zyS
  rw [if_neg (by rw [List.length_cons, List.length_cons]; omega), if_neg (by omega)]
  dsimp only
  rw [if_neg (by omega), if_neg (by omega), if_pos ⟨rfl, rfl⟩, if_neg (by omega)]
  by_cases h8 : (c i).toInt = -47
  · rw [if_pos h8, if_pos (by omega)]
  · rw [if_neg h8]
theorem zyS_c {c : Nat → Int32} {i : Nat} {u : List Bool} (hs : u.length + 2 < 32) (h : (c i).toInt = -60 ∨ (c i).toInt = -61 ∨ (c i).toInt = -62) : zyS c i (false :: false :: u) = some (true :: u) := by
  unfold zyS
  rw [if_neg (by rw [List.length_cons, List.length_cons]; omega), if_neg (by omega)]
  dsimp only
  rw [if_neg (by omega), if_neg (by omega), if_pos ⟨rfl, rfl⟩, if_pos h]
theorem zyS_b {c : Nat → Int32} {i : Nat} {u : List Bool} (hs : u.length + 2 < 32) (h : (c i).toInt = -133 ∨ (c i).toInt = -132) : zyS c i (true :: true :: u) = some (true :: u) := by
  unfold zyS
  rw [if_neg (by rw [List.length_cons, List.length_cons]; omega), if_neg (by omega)]
  dsimp only
  rw [if_neg (by omega), if_pos h, if_pos ⟨rfl, rfl⟩]
theorem zyS_n {c : Nat → Int32} {i : Nat} {u : List Bool} (hs : u.length + 1 < 32) (h : (c i).toInt = -134) : zyS c i (true :: u) = some (true :: u) := by
  unfold zyS
  rw [if_neg (by rw [List.length_cons]; omega), if_neg (by omega)]
  dsimp only
  rw [if_pos h, if_pos rfl]

/-! tokens: the class's scan -/
theorem zxt_in {p : Int → Bool} {b : Nat → Nat} {n : Nat} : ∀ u i k, i ≤ k → k < zxt p b n u i → p (b k) = true
  | 0, i, k, h1, h2 => by
    unfold zxt at h2
    omega
  | u + 1, i, k, h1, h2 => by
    unfold zxt at h2
    by_cases e : i < n ∧ p (b i) = true
    · rw [if_pos e] at h2
      by_cases ek : k = i
      · rw [ek]
        exact e.2
      · exact zxt_in u (i + 1) k (by omega) h2
    · rw [if_neg e] at h2
      omega
/-- spaces may be passed one by one -/
theorem zskp_1 {b : Nat → Nat} {n i : Nat} (hn : n ≤ 400) (hi : i < n) (h : zsB (b i) = true) : zskp b n (i + 1) = zskp b n i := by
  unfold zskp
  have e : zxt zsB b n 400 i = zxt zsB b n 399 (i + 1) := by
    show (if i < n ∧ zsB (b i) = true then zxt zsB b n 399 (i + 1) else i) = _
    rw [if_pos ⟨hi, h⟩]
  rw [e]
  exact zxt_u 400 399 (i + 1) (by omega) (by omega)
theorem zskp_0 {b : Nat → Nat} {n i : Nat} (h : ¬ (i < n ∧ zsB (b i) = true)) : zskp b n i = i := by
  unfold zskp
  show (if i < n ∧ zsB (b i) = true then zxt zsB b n 399 (i + 1) else i) = i
  rw [if_neg h]
theorem zskp_le {b : Nat → Nat} {n i : Nat} (h : i ≤ n) : zskp b n i ≤ n := zxt_le 400 i h
/-- the tokens on the class's side -/
def zTs (F : Nat → Nat → Int32) (b : Nat → Nat) (n N : Nat) : Prop := F 65 4 = nI N ∧ N ≤ 400 ∧ (∀ j, j < N → ztp b n j < n ∧ F 67 j = nI (ztkd b (ztp b n j) (zbhd b n (ztp b n j))) ∧ F 68 j = nI (ztp b n j) ∧ F 69 j = nI (ztvl b (ztp b n j) (zbhd b n (ztp b n j))))
section ZSC
variable {X : Nat × (Nat → Int32)} {d : Nat} {f : Nat → Nat → Int32} {g : Nat → Nat → Int64} {K : Int32 → (Nat → Nat → Int32) → (Nat → Nat → Int64) → Prop} {b : Nat → Nat} {n : Nat}
theorem zwix_le {p q : Nat} : ∀ (ws : List (List Nat)) (k : Nat), zwix b p q ws k ≤ k + ws.length + 1
  | [], k => by unfold zwix; omega
  | w :: t, k => by
    have ih := zwix_le (p := p) (q := q) t (k + 1)
    show (if zwm b p q w = true then k else zwix b p q t (k + 1)) ≤ k + (t.length + 1) + 1
    split <;> omega
theorem l82 {p T : Nat} (hB : zBy f b n) (hp : p < n) (hT : f 65 4 = nI T) (hT2 : T ≤ 400) (h0 : f 69 T = 0) (hK : ∀ F : Nat → Nat → Int32, (∀ i, ¬ i = 69 → F i = f i) → (∀ j, ¬ j = T → F 69 j = f 69 j) → F 69 T = nI (ztvl b p (zbhd b n p)) → K (nI (ztkd b p (zbhd b n p))) F g) : zCpi X (d + 4) 82 [.ref 65, .int (nI p), .int (nI (zbhd b n p))] (zs f g) K := by
  obtain ⟨b1, b2, b3⟩ := id hB
  have hq := zbhd_lt (b := b) hp
  obtain ⟨q, eq⟩ : ∃ q, q = zbhd b n p := ⟨_, rfl⟩
  have hsame : nI (0 : Nat) = (0 : Int32) := rfl
  apply e82_65
  rw [if_neg (nI_in (by omega) (by omega)), nI_cl (by omega), (b3 p hp).1, q80, nI_ti (by have := (b3 p hp).2; omega), ← eq]
  rw [← eq] at hK hq
  unfold ztkd ztvl at hK
  by_cases e : zlB (b p) = true
  · rw [if_pos e, if_pos e] at hK
    rw [if_neg (by rw [zb_0]; exact fun z => z e), q83 hB (by omega) (by omega)]
    exact hK f (fun _ _ => rfl) (fun _ _ => rfl) h0
  · rw [if_neg e, if_neg e] at hK
    rw [if_pos (by rw [zb_0]; exact e), q81, nI_ti (by have := (b3 p hp).2; omega)]
    by_cases e2 : zdB (b p) = true
    · rw [if_pos e2, if_pos e2] at hK
      rw [if_neg (by rw [zb_0]; exact fun z => z e2)]
      have hd : ∀ i, p ≤ i → i < q → zdB (b i) = true := fun i h1 h2 => by
        by_cases ei : i = p
        · rw [ei]
          exact e2
        · have ez : zbhd b n p = zxt zdB b n 400 (p + 1) := by
            unfold zbhd
            rw [if_neg e, if_pos e2]
          rw [eq, ez] at h2
          exact zxt_in 400 (p + 1) i (by omega) h2
      rw [q84 hB (by omega) (by omega) hT hT2 hd]
      by_cases e4 : q - p ≤ 4
      · rw [if_pos e4, if_pos e4] at hK
        rw [if_pos e4]
        exact hK _ (fun i hi => zi_ne hi) (fun j hj => by rw [zi_at, if_neg hj]) (by rw [zi_at, if_pos rfl])
      · rw [if_neg e4, if_neg e4] at hK
        rw [if_neg e4]
        exact hK f (fun _ _ => rfl) (fun _ _ => rfl) h0
    · rw [if_neg e2, if_neg e2] at hK
      have hc := (b3 p hp).2
      obtain ⟨z1, z2⟩ := zix_sg (b p) (by omega)
      rw [if_pos (by rw [zb_0]; exact e2), z2, q9003]
      by_cases e5 : zsgs.contains (b p) = true
      · rw [if_pos e5] at hK
        rw [if_neg (fun z => z1.mp z e5)]
        exact hK f (fun _ _ => rfl) (fun _ _ => rfl) h0
      · rw [if_neg e5] at hK
        rw [if_pos (z1.mpr e5)]
        exact hK f (fun _ _ => rfl) (fun _ _ => rfl) h0
theorem l78 {Kv : (Nat → Nat → Int32) → (Nat → Nat → Int64) → Prop} (hB : zBy f b n) (hK : ∀ (F : Nat → Nat → Int32) (N : Nat), zTs F b n N → ztp b n N = n → N ≤ n → (∀ i, ¬ i = 65 → ¬ i = 67 → ¬ i = 68 → ¬ i = 69 → F i = f i) → (∀ j, ¬ j = 4 → F 65 j = f 65 j) → Kv F g) : zCpv X (d + 6) 78 [.ref 65] (zs f g) Kv := by
  obtain ⟨b1, b2, b3⟩ := id hB
  have hl : ∀ (m p x T : Nat) (F : Nat → Nat → Int32), n ≤ p + m → p ≤ n → x ≤ p → T ≤ p → zskp b n p = ztp b n T → zTs F b n T → (∀ i, ¬ i = 65 → ¬ i = 67 → ¬ i = 68 → ¬ i = 69 → F i = f i) → (∀ j, ¬ j = 4 → F 65 j = f 65 j) → zWp X (d + 5) zm78 9 [.ref 65, .int (nI p), .int (nI x), .null] [] (zs F g) (zQv Kv) := by
    intro m
    induction m with
    | zero =>
      intro p x T F hm hp hx hT hs hTs hF hF5
      have ep : p = n := by omega
      have e5 : F 65 5 = nI n := by rw [hF5 5 (by omega)]; exact b2
      have hfin : Kv F g := hK F T hTs (by rw [← hs, ep, zskp_0 (by omega)]) (by omega) hF hF5
      apply s78_9_65
      by_cases hx4 : 400 ≤ x
      · rw [if_pos (show (400 : Int32) ≤ nI x from nI_le (a := 400) hx4 (by omega))]
        exact hfin
      · rw [if_neg (show ¬ (400 : Int32) ≤ nI x from nI_ge (b := 400) (by omega) (by omega)), e5, if_pos (nI_le (by omega) (by omega))]
        exact hfin
    | succ m ih =>
      intro p x T F hm hp hx hT hs hTs hF hF5
      have e5 : F 65 5 = nI n := by rw [hF5 5 (by omega)]; exact b2
      by_cases hpn : p = n
      · have hfin : Kv F g := hK F T hTs (by rw [← hs, hpn, zskp_0 (by omega)]) (by omega) hF hF5
        apply s78_9_65
        by_cases hx4 : 400 ≤ x
        · rw [if_pos (show (400 : Int32) ≤ nI x from nI_le (a := 400) hx4 (by omega))]
          exact hfin
        · rw [if_neg (show ¬ (400 : Int32) ≤ nI x from nI_ge (b := 400) (by omega) (by omega)), e5, if_pos (nI_le (by omega) (by omega))]
          exact hfin
      · have hpl : p < n := by omega
        have hBF : zBy F b n := ⟨b1, e5, fun i hi => by rw [hF 66 (by omega) (by omega) (by omega) (by omega)]; exact b3 i hi⟩
        obtain ⟨t1, t2, t3⟩ := id hTs
        have hbh := zbhd_lt (b := b) hpl
        have hbp := (b3 p hpl).2
        apply s78_9_65
        rw [if_neg (show ¬ (400 : Int32) ≤ nI x from nI_ge (b := 400) (by omega) (by omega)), e5, if_neg (nI_ge hpl (by omega)), q79 hBF hpl, if_neg (nI_in (by omega) (by omega)), nI_cl (by omega), (hBF.2.2 p hpl).1, nI_1]
        by_cases hsp : zsB (b p) = true
        · have hb1 : zbhd b n p = p + 1 := by
            have h32 : b p = 32 ∨ b p = 10 := by
              unfold zsB at hsp
              simp only [Bool.or_eq_true, decide_eq_true_eq] at hsp
              omega
            have h1 : ¬ zlB (b p) = true := by
              unfold zlB
              simp only [Bool.or_eq_true, Bool.and_eq_true, decide_eq_true_eq]
              omega
            have h2 : ¬ zdB (b p) = true := by
              unfold zdB
              simp only [Bool.and_eq_true, decide_eq_true_eq]
              omega
            unfold zbhd
            rw [if_neg h1, if_neg h2]
          have hgo : zWp X (d + 5) zm78 9 [.ref 65, .int (nI (zbhd b n p)), .int (nI (x + 1)), .null] [] (zs F g) (zQv Kv) := by
            rw [hb1]
            exact ih (p + 1) (x + 1) T F (by omega) (by omega) (by omega) (by omega) (by rw [zskp_1 b1 hpl hsp, hs]) hTs hF hF5
          have h32 : b p = 32 ∨ b p = 10 := by
            unfold zsB at hsp
            simp only [Bool.or_eq_true, decide_eq_true_eq] at hsp
            omega
          rcases h32 with h | h
          · rw [if_pos (show nI (b p) = (32 : Int32) by rw [h]; rfl)]
            exact hgo
          · rw [if_neg (show ¬ nI (b p) = (32 : Int32) by rw [h]; decide), if_neg (nI_in' (by omega) (by omega)), if_pos (show nI (b p) = (10 : Int32) by rw [h]; rfl)]
            exact hgo
        · have hns : ¬ b p = 32 ∧ ¬ b p = 10 := by
            unfold zsB at hsp
            simp only [Bool.or_eq_true, decide_eq_true_eq] at hsp
            omega
          have eT : ztp b n T = p := by rw [← hs, zskp_0 (fun z => hsp z.2)]
          rw [if_neg (show ¬ nI (b p) = (32 : Int32) from nI_neq (c := 32) (by omega) (by omega) hns.1), if_neg (nI_in' (by omega) (by omega)), if_neg (show ¬ nI (b p) = (10 : Int32) from nI_neq (c := 10) (by omega) (by omega) hns.2), t1, if_neg (nI_in (by omega) (by omega)), if_neg (nI_in (by omega) (by omega)), nI_cl (by omega)]
          obtain ⟨F0, hF0⟩ : ∃ F0, F0 = zuI (zuI F 68 T (nI p)) 69 T 0 := ⟨_, rfl⟩
          have F0i : ∀ i, ¬ i = 68 → ¬ i = 69 → F0 i = F i := fun i a c => by rw [hF0, zi_ne c, zi_ne a]
          rw [← hF0]
          refine l82 (d := d + 1) (T := T) ⟨b1, by rw [F0i 65 (by omega) (by omega)]; exact e5, fun i hi => by rw [F0i 66 (by omega) (by omega)]; exact hBF.2.2 i hi⟩ hpl (by rw [F0i 65 (by omega) (by omega)]; exact t1) t2 (by rw [hF0, zi_at, if_pos rfl]) (fun G g1 g2 g3 => ?_)
          rw [if_neg (nI_in' (by omega) (by omega))]
          have G65 : G 65 = F 65 := by rw [g1 65 (by omega), F0i 65 (by omega) (by omega)]
          rw [G65, t1, nI_1]
          refine ih (zbhd b n p) (x + 1) (T + 1) _ (by omega) (by omega) (by omega) (by omega) (by show _ = zskp b n (zbhd b n (ztp b n T)); rw [eT]) ⟨by rw [zi_at, if_pos rfl], by omega, fun j hj => ?_⟩ (fun i i1 i2 i3 i4 => by rw [zi_ne i1, zi_ne i2, g1 i i4, F0i i i3 i4, hF i i1 i2 i3 i4]) (fun j hj => by rw [zi_at, if_neg hj, zi_ne (by omega), G65, hF5 j hj])
          rw [zi_ne (show ¬ 67 = 65 by omega), zi_ne (show ¬ 68 = 65 by omega), zi_ne (show ¬ 69 = 65 by omega), zi_ne (show ¬ 68 = 67 by omega), zi_ne (show ¬ 69 = 67 by omega), zi_at]
          by_cases ej : j = T
          · subst ej
            rw [if_pos rfl, eT, g3, g1 68 (by omega), hF0, zi_ne (by omega), zi_at, if_pos rfl]
            exact ⟨hpl, rfl, rfl, rfl⟩
          · rw [if_neg ej, g2 j ej, g1 67 (by omega), g1 68 (by omega), F0i 67 (by omega) (by omega), hF0, zi_ne (by omega), zi_at, if_neg ej, zi_at, if_neg ej, zi_ne (by omega)]
            exact t3 j (by omega)
  apply e78_65
  refine hl n 0 0 0 (zuI f 65 4 0) (by omega) (by omega) (by omega) (by omega) rfl ⟨by rw [zi_at, if_pos rfl]; rfl, by omega, fun j hj => absurd hj (Nat.not_lt_zero j)⟩ (fun i i1 _ _ _ => zi_ne i1) (fun j hj => by rw [zi_at, if_neg hj])
end ZSC

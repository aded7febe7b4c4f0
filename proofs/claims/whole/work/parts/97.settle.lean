/-! the reference's stack of what waits -/
/-- class: what stays while code is written from c on -/
def zLg (F G : Nat → Nat → Int32) (c : Nat) : Prop := (∀ i, ¬ i = 70 → ¬ i = 72 → ¬ i = 73 → G i = F i) ∧ G 72 7 = F 72 7 ∧ ∀ k, k < c → G 73 k = F 73 k
/-- reference: what stays, the lowest t of the stack among it -/
def zLh (R S : Nat → Nat → Int32) (t : Nat) : Prop := (∀ i, ¬ i = 178 → ¬ i = 192 → ¬ i = 193 → ¬ i = 194 → S i = R i) ∧ (∀ s, (s < 12 ∨ 15 < s) → ¬ s = 25 → ¬ s = 26 → ¬ s = 28 → S 178 s = R 178 s) ∧ ∀ i, i < t → S 194 i = R 194 i
theorem zLg_f {F G R S : Nat → Nat → Int32} {c : Nat} (h : zLf F G R S c) : zLg F G c := ⟨h.1, h.2.1, h.2.2.1⟩
theorem zLh_f {F G R S : Nat → Nat → Int32} {c t : Nat} (h : zLf F G R S c) : zLh R S t := ⟨fun i y1 y2 y3 _ => h.2.2.2.1 i y1 y2 y3, fun s y1 y2 _ _ => h.2.2.2.2 s y1 y2, fun i _ => by rw [h.2.2.2.1 194 (by omega) (by omega) (by omega)]⟩
theorem zLg_rf {F : Nat → Nat → Int32} {c : Nat} : zLg F F c := ⟨fun _ _ _ _ => rfl, rfl, fun _ _ => rfl⟩
theorem zLg_tr {F G H : Nat → Nat → Int32} {c e : Nat} (h1 : zLg F G c) (h2 : zLg G H e) (hce : c ≤ e) : zLg F H c := ⟨fun i y1 y2 y3 => by rw [h2.1 i y1 y2 y3, h1.1 i y1 y2 y3], by rw [h2.2.1, h1.2.1], fun k hk => by rw [h2.2.2 k (by omega), h1.2.2 k hk]⟩
theorem zLh_tr {R S T : Nat → Nat → Int32} {t u : Nat} (h1 : zLh R S t) (h2 : zLh S T u) (htu : t ≤ u) : zLh R T t := ⟨fun i y1 y2 y3 y4 => by rw [h2.1 i y1 y2 y3 y4, h1.1 i y1 y2 y3 y4], fun s y1 y2 y3 y4 => by rw [h2.2.1 s y1 y2 y3 y4, h1.2.1 s y1 y2 y3 y4], fun i hi => by rw [h2.2.2 i (by omega), h1.2.2 i hi]⟩
theorem zLh_le {R S : Nat → Nat → Int32} {t u : Nat} (h : zLh R S u) (htu : t ≤ u) : zLh R S t := ⟨h.1, h.2.1, fun i hi => h.2.2 i (by omega)⟩
/-- k times not -/
def zPn : Nat → (Nat → Nat → Int32) → Nat → Nat → Nat → Int32
  | 0, F, _ => F
  | k + 1, F, c => zPn k (zPut F c (-134)) (c + 1)
theorem zLg_pn {F : Nat → Nat → Int32} {c : Nat} {v : Int32} : zLg F (zPut F c v) c := by
  unfold zPut
  exact ⟨fun i _ y2 y3 => by rw [zi_ne y2, zi_ne y3], by rw [zi_at, if_neg (by omega), zi_ne (by omega)], fun k hk => by rw [zi_ne (by omega), zi_at, if_neg (by omega)]⟩
/-- only the stack's height and how many stand open may change -/
theorem zJ_T {f r F R : Nat → Nat → Int32} {b : Nat → Nat} {n N j s : Nat} {x : Int32} (h : zJ f r b n N F R j) (h1 : 24 ≤ s) (h2 : s ≤ 30) : zJ f r b n N F (zuI R 178 s x) j := zJ_S h (fun u hu => by rw [zi_at, if_neg (by omega)]) (zi_ne (by omega)) (zi_ne (by omega)) (zFb_s h.2.2.2.2.2.2.2.2 (by omega) h2)
theorem zCs_T {F R : Nat → Nat → Int32} {c s : Nat} {x : Int32} (h : zCs F R c) (h1 : ¬ s = 25) : zCs F (zuI R 178 s x) c := ⟨h.1, by rw [zi_at, if_neg (by omega)]; exact h.2.1, fun i hi => by rw [zi_ne (by omega), zi_ne (by omega)]; exact h.2.2 i hi⟩
theorem zJ_U {f r F R : Nat → Nat → Int32} {b : Nat → Nat} {n N j s : Nat} {x : Int32} (h : zJ f r b n N F R j) : zJ f r b n N F (zuI R 194 s x) j := zJ_u h (by omega)
theorem zCs_U {F R : Nat → Nat → Int32} {c s : Nat} {x : Int32} (h : zCs F R c) : zCs F (zuI R 194 s x) c := ⟨h.1, by rw [zi_ne (by omega)]; exact h.2.1, fun i hi => by rw [zi_ne (by omega), zi_ne (by omega)]; exact h.2.2 i hi⟩
theorem zLh_T {R : Nat → Nat → Int32} {t s : Nat} {x : Int32} (h : s = 26 ∨ s = 28) : zLh R (zuI R 178 s x) t := ⟨fun i y1 _ _ _ => zi_ne y1, fun u _ _ y3 y4 => by rw [zi_at, if_neg (by omega)], fun i _ => by rw [zi_ne (by omega)]⟩
theorem zLh_U {R : Nat → Nat → Int32} {t s : Nat} {x : Int32} (h : t ≤ s) : zLh R (zuI R 194 s x) t := ⟨fun i _ _ _ y4 => zi_ne y4, fun u _ _ _ _ => by rw [zi_ne (by omega)], fun i hi => by rw [zi_at, if_neg (by omega)]⟩
section ZST9
variable {X : Nat × (Nat → Int32)} {d e : Nat} {f r : Nat → Nat → Int32} {g gr : Nat → Nat → Int64} {b : Nat → Nat} {n N j : Nat}
theorem nI_s1 {h : Nat} (hh : 0 < h) (h2 : h ≤ 1000) : zsO.1 (nI h) 1 = nI (h - 1) := by
  have e : nI h = nI (h - 1) + 1 := by rw [nI_1, show h - 1 + 1 = h by omega]
  rw [zsO.2, e]
  exact Int32.add_sub_cancel _ _
theorem nI_np {h : Nat} (hh : 0 < h) (h2 : h ≤ 1000) : ¬ nI h ≤ (0 : Int32) := nI_ge (a := 0) (b := h) hh (by omega)
/-- nothing of this kind waits on top -/
theorem st_no {R : Nat → Nat → Int32} {x : Int32} {h : Nat} {K : (Nat → Nat → Int32) → (Nat → Nat → Int64) → Prop} (hh : R 178 28 = nI h) (h40 : h ≤ 40) (ht : h = 0 ∨ ¬ R 194 (h - 1) = x) : zCpv X (d + 2) 205 [.ref 178, .int x] (zs R g) K = K R g := by
  refine zCpv_eq (fun K hK => e205_178 (s205_0_178 ?_))
  rw [hh]
  by_cases h0 : h = 0
  · rw [if_pos (show nI h ≤ (0 : Int32) by rw [h0]; decide)]
    exact hK
  · rw [if_neg (nI_np (by omega) (by omega)), nI_s1 (by omega) (by omega), if_neg (nI_in (by omega) (by omega)), nI_cl (by omega), if_neg (ht.resolve_left h0)]
    exact hK
/-- one of this kind waits on top -/
theorem st_one {R : Nat → Nat → Int32} {x : Int32} {h c : Nat} {K : (Nat → Nat → Int32) → (Nat → Nat → Int64) → Prop} (hx : ¬ x = 9) (hh : R 178 28 = nI (h + 1)) (h40 : h < 40) (ht : R 194 h = x) (hb : h = 0 ∨ ¬ R 194 (h - 1) = x) (hc : R 178 25 = nI c) (hc4 : c < 400) : zCpv X (d + 2) 205 [.ref 178, .int x] (zs R g) K = K (zEmi (zuI R 178 28 (nI h)) c x 0) g := by
  refine zCpv_eq (fun K hK => e205_178 (s205_0_178 ?_))
  rw [hh, if_neg (nI_np (by omega) (by omega)), nI_s1 (by omega) (by omega), Nat.add_sub_cancel, if_neg (nI_in (by omega) (by omega)), nI_cl (by omega), if_pos ht, q201 (c := c) (by rw [zi_at, if_neg (by omega)]; exact hc) hc4, if_neg hx]
  have hz := st_no (X := X) (d := d) (g := g) (R := zEmi (zuI R 178 28 (nI h)) c x 0) (x := x) (h := h) (K := K) (by unfold zEmi; rw [zi_at, if_neg (by omega), zi_ne (by omega), zi_ne (by omega), zi_at, if_pos rfl]) (by omega) (by
    unfold zEmi
    rw [zi_ne (by omega), zi_ne (by omega), zi_ne (by omega), zi_ne (by omega)]
    exact hb)
  refine s205_0_178 ?_
  have hh' : zEmi (zuI R 178 28 (nI h)) c x 0 178 28 = nI h := by unfold zEmi; rw [zi_at, if_neg (by omega), zi_ne (by omega), zi_ne (by omega), zi_at, if_pos rfl]
  have h94 : zEmi (zuI R 178 28 (nI h)) c x 0 194 = R 194 := by unfold zEmi; rw [zi_ne (by omega), zi_ne (by omega), zi_ne (by omega), zi_ne (by omega)]
  rw [hh']
  by_cases h0 : h = 0
  · rw [if_pos (show nI h ≤ (0 : Int32) by rw [h0]; decide)]
    exact hK
  · rw [if_neg (nI_np (by omega) (by omega)), nI_s1 (by omega) (by omega), if_neg (nI_in (by omega) (by omega)), nI_cl (by omega), h94, if_neg (hb.resolve_left h0)]
    exact hK
/-- all nots that wait on top -/
theorem st_9 : ∀ (k : Nat) {F R : Nat → Nat → Int32} {c t o : Nat}, zJ f r b n N F R j → zCs F R c → c + k ≤ 400 → k ≤ o → o ≤ 8 → t + k ≤ 40 → R 178 28 = nI (t + k) → R 178 26 = nI o → (∀ i, t ≤ i → i < t + k → R 194 i = 9) → (t = 0 ∨ ¬ R 194 (t - 1) = 9) →
    ∃ S, (∀ Kv : (Nat → Nat → Int32) → (Nat → Nat → Int64) → Prop, Kv S g → zWp X (d + 1) zm205 0 [.ref 178, .int 9] [] (zs R g) (zQv Kv)) ∧ zJ f r b n N (zPn k F c) S j ∧ zCs (zPn k F c) S (c + k) ∧ S 178 28 = nI t ∧ S 178 26 = nI (o - k) ∧ zLh R S t := by
  intro k
  induction k with
  | zero =>
    intro F R c t o h hs hc hk ho ht h28 h26 h9 hb
    refine ⟨R, fun Kv hK => s205_0_178 ?_, h, hs, h28, h26, ⟨fun _ _ _ _ _ => rfl, fun _ _ _ _ _ => rfl, fun _ _ => rfl⟩⟩
    rw [Nat.add_zero] at h28
    rw [h28]
    by_cases h0 : t = 0
    · rw [if_pos (show nI t ≤ (0 : Int32) by rw [h0]; decide)]
      exact hK
    · rw [if_neg (nI_np (by omega) (by omega)), nI_s1 (by omega) (by omega), if_neg (nI_in (by omega) (by omega)), nI_cl (by omega), if_neg (hb.resolve_left h0)]
      exact hK
  | succ k ih =>
    intro F R c t o h hs hc hk ho ht h28 h26 h9 hb
    obtain ⟨p1, p2, p3, p4⟩ := jp (zJ_T (s := 28) (x := nI (t + k)) h (by omega) (by omega)) (zCs_T (s := 28) (x := nI (t + k)) hs (by omega)) (Or.inr (Or.inr (Or.inr (Or.inr (Or.inr (Or.inr (Or.inr (Or.inr (Or.inr (Or.inl ⟨rfl, rfl⟩))))))))) : zCod (-134) 9 0)
    have e26 : zEmi (zuI R 178 28 (nI (t + k))) c 9 0 178 26 = nI o := by rw [p3.2.2.2.2 26 (by omega) (by omega), zi_at, if_neg (by omega)]; exact h26
    have e28 : zEmi (zuI R 178 28 (nI (t + k))) c 9 0 178 28 = nI (t + k) := by rw [p3.2.2.2.2 28 (by omega) (by omega), zi_at, if_pos rfl]
    have e94 : zEmi (zuI R 178 28 (nI (t + k))) c 9 0 194 = R 194 := by rw [p3.2.2.2.1 194 (by omega) (by omega) (by omega), zi_ne (by omega)]
    obtain ⟨S, g1, g2, g3, g4, g5, g6⟩ := ih (t := t) (o := o - 1) (zJ_T (s := 26) (x := nI (o - 1)) p1 (by omega) (by omega)) (zCs_T (s := 26) (x := nI (o - 1)) p2 (by omega)) (by omega) (by omega) (by omega) (by omega) (by rw [zi_at, if_neg (by omega)]; exact e28) (by rw [zi_at, if_pos rfl]) (fun i i1 i2 => by rw [zi_ne (by omega), e94]; exact h9 i i1 (by omega)) (by rw [zi_ne (by omega), e94]; exact hb)
    refine ⟨S, fun Kv hK => s205_0_178 ?_, g2, by rw [show c + (k + 1) = c + 1 + k by omega]; exact g3, g4, by rw [show o - (k + 1) = o - 1 - k by omega]; exact g5, ?_⟩
    · rw [h28, if_neg (nI_np (by omega) (by omega)), nI_s1 (by omega) (by omega), show t + (k + 1) - 1 = t + k by omega, if_neg (nI_in (by omega) (by omega)), nI_cl (by omega), if_pos (h9 (t + k) (by omega) (by omega)), q201 (c := c) (by rw [zi_at, if_neg (by omega)]; exact hs.2.1) (by omega), if_pos rfl, e26, nI_s1 (by omega) (by omega)]
      exact g1 Kv hK
    · exact zLh_tr (zLh_tr (zLh_tr (zLh_T (s := 28) (Or.inr rfl)) (zLh_f p3) (Nat.le_refl _)) (zLh_T (s := 26) (Or.inl rfl)) (Nat.le_refl _)) g6 (Nat.le_refl _)
end ZST9

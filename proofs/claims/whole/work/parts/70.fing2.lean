/-! fingers: the reference's side -/
section ZFR
variable {X : Nat × (Nat → Int32)} {d : Nat} {g : Nat → Nat → Int64} {Kv : (Nat → Nat → Int32) → (Nat → Nat → Int64) → Prop} {K : Int32 → (Nat → Nat → Int32) → (Nat → Nat → Int64) → Prop} {a : Nat → Nat} {n : Nat}
theorem q270 {F : Nat → Nat → Int32} {k s : Nat} (hk : k < 10) : zCpi X (d + 1) 270 [.ref 178, .int (nI k), .int (nI s)] (zs F g) K = K (F 206 k - 5 * nI s) F g := by
  refine zCpi_eq (fun K hK => e270_178 ?_)
  rw [if_neg (nI_in (by omega) (by omega)), nI_cl (by omega), zsO.2, zmO.2]
  exact hK
theorem q271 {F : Nat → Nat → Int32} {k s x : Nat} (hk : k < 10) (hs : s < 4) (hx : F 206 k = nI x) (hx2 : x ≤ 24) : zCpi X (d + 2) 271 [.ref 178, .int (nI k), .int (nI s)] (zs F g) K = K (zb (5 * s ≤ x ∧ x ≤ 5 * s + 9)) F g := by
  refine zCpi_eq (fun K hK => e271_178 ?_)
  have ti := zfr_ti hx2 hs
  rw [if_neg (nI_in (by omega) (by omega)), nI_cl (by omega), hx, zmO.2, zsO.2, q165]
  have e : zb ((0 : Int32).toInt ≤ (nI x - 5 * nI s).toInt ∧ (nI x - 5 * nI s).toInt ≤ (9 : Int32).toInt) = zb (5 * s ≤ x ∧ x ≤ 5 * s + 9) := zsn_ev _ _ (by
    rw [ti]
    have e0 : (0 : Int32).toInt = 0 := rfl
    have e9 : (9 : Int32).toInt = 9 := rfl
    omega)
  rw [e, if_pos (by rw [zb_or]; trivial)]
  exact hK
theorem l269 {f : Nat → Nat → Int32} (hn0 : 0 < n) (hn : n ≤ 10) (h1 : f 178 49 = nI n) (ha : ∀ j, j < n → f 206 j = nI (a j) ∧ a j ≤ 24) (hK : ∀ F : Nat → Nat → Int32, (∀ i, ¬ i = 207 → F i = f i) → (∀ s, s < 4 → F 207 s = nI (zfC 100000000 a n n s)) → Kv F g) : zCpv X (d + 4) 269 [.ref 178] (zs f g) Kv := by
  -- a string's place is written
  have hwr : ∀ (m s : Nat) (G : Nat → Nat → Int32) (v : Nat), m < n → s < 4 → (∀ i, ¬ i = 207 → G i = f i) → v ≤ 100000000 → zfC 100000000 a n (m + 1) s = (if 5 * s ≤ a (n - 1 - m) ∧ a (n - 1 - m) ≤ 5 * s + 9 then v else 100000000) → zWp X (d + 3) zm269 13 [.ref 178, .int (nI (n - 1 - m)), .int (nI (s + 1)), .null, .null] [] (zs (zuI G 207 (4 * (n - 1 - m) + s) (nI (zfC 100000000 a n (m + 1) s))) g) (zQv Kv) → zCpi X (d + 3) 271 [.ref 178, .int (nI (n - 1 - m)), .int (nI s)] (zs G g) (fun v3 f1 g2 => if v3 = 0 then (if (zmO.1 4 (nI (n - 1 - m)) + nI s) < 0 ∨ 40 ≤ (zmO.1 4 (nI (n - 1 - m)) + nI s).toNatClampNeg then False else (zWp X (d + 3) zm269 13 [.ref 178, .int (nI (n - 1 - m)), .int (nI s + 1), .null, .null] [] (zs (zuI f1 207 ((zmO.1 4 (nI (n - 1 - m)) + nI s).toNatClampNeg) (Int32.ofNat 100000000)) g2) (zQv Kv))) else (zCpi X (d + 3) 222 [.ref 178, .int (nI v), .int (Int32.ofNat 100000000)] (zs f1 g2) (fun v6 f4 g5 => if (zmO.1 4 (nI (n - 1 - m)) + nI s) < 0 ∨ 40 ≤ (zmO.1 4 (nI (n - 1 - m)) + nI s).toNatClampNeg then False else (zWp X (d + 3) zm269 13 [.ref 178, .int (nI (n - 1 - m)), .int (nI s + 1), .null, .null] [] (zs (zuI f4 207 ((zmO.1 4 (nI (n - 1 - m)) + nI s).toNatClampNeg) v6) g5) (zQv Kv))))) := by
    intro m s G v hm hs hG hv hrec h
    have hx := ha (n - 1 - m) (by omega)
    have e4 : (4 : Int32) * nI (n - 1 - m) + nI s = nI (4 * (n - 1 - m) + s) := nI_mb (n - 1 - m) 4 s
    rw [q271 (x := a (n - 1 - m)) (by omega) hs (by rw [hG 206 (by omega)]; exact hx.1) hx.2]
    rw [zmO.2, e4]
    by_cases hf : 5 * s ≤ a (n - 1 - m) ∧ a (n - 1 - m) ≤ 5 * s + 9
    · rw [if_pos hf] at hrec
      rw [if_neg (by rw [zb_0]; exact fun z => z hf), q222, show Int32.ofNat 100000000 = nI 100000000 from rfl, zmn_nI (by omega) (by omega), Nat.min_eq_left hv, if_neg (nI_in (by omega) (by omega)), nI_cl (by omega), nI_1]
      rw [hrec] at h
      exact h
    · rw [if_neg hf] at hrec
      rw [if_pos (by rw [zb_0]; exact hf), if_neg (nI_in (by omega) (by omega)), nI_cl (by omega), nI_1]
      rw [hrec] at h
      exact h
  -- one string
  have hstr : ∀ (m s : Nat) (G : Nat → Nat → Int32), m < n → s < 4 → (∀ i, ¬ i = 207 → G i = f i) → (0 < m → ∀ t, t < 4 → G 207 (4 * (n - 1 - m + 1) + t) = nI (zfC 100000000 a n m t)) → zWp X (d + 3) zm269 13 [.ref 178, .int (nI (n - 1 - m)), .int (nI (s + 1)), .null, .null] [] (zs (zuI G 207 (4 * (n - 1 - m) + s) (nI (zfC 100000000 a n (m + 1) s))) g) (zQv Kv) → zWp X (d + 3) zm269 13 [.ref 178, .int (nI (n - 1 - m)), .int (nI s), .null, .null] [] (zs G g) (zQv Kv) := by
    intro m s G hm hs hG hp h
    have hx := ha (n - 1 - m) (by omega)
    have ex : G 178 49 - 1 = nI (n - 1) := by rw [hG 178 (by omega), h1, (nI_m1 hn0).2]
    have hrec : zfC 100000000 a n (m + 1) s = (if ¬ (5 * s ≤ a (n - 1 - m) ∧ a (n - 1 - m) ≤ 5 * s + 9) then 100000000 else if m = 0 then 0 else zfm 100000000 (zfC 100000000 a n m) (a (n - 1 - m)) (a (n - 1 - m + 1)) s 4) := by rfl
    apply s269_13_178
    rw [if_neg (show ¬ (4 : Int32) ≤ nI s from nI_ge (b := 4) (by omega) (by omega)), zsO.2, ex]
    by_cases hm0 : m = 0
    · rw [if_pos hm0] at hrec
      rw [if_pos (by rw [hm0, Nat.sub_zero])]
      apply s269_39_178
      rw [if_neg (show ¬ (4 : Int32) ≤ (0 : Int32) from by decide), zsO.2, ex, if_pos (nI_le (by omega) (by omega))]
      refine hwr m s G 0 hm hs hG (by omega) ?_ h
      rw [hrec]
      by_cases hf : 5 * s ≤ a (n - 1 - m) ∧ a (n - 1 - m) ≤ 5 * s + 9
      · rw [if_pos hf, if_neg (fun z => z hf)]
      · rw [if_neg hf, if_pos hf]
    · rw [if_neg hm0] at hrec
      rw [if_neg (nI_neq (by omega) (by omega) (by omega))]
      have hy := ha (n - 1 - m + 1) (by omega)
      have hl : ∀ u t, t + u = 4 → zWp X (d + 3) zm269 39 [.ref 178, .int (nI (n - 1 - m)), .int (nI s), .int (nI (zfm 100000000 (zfC 100000000 a n m) (a (n - 1 - m)) (a (n - 1 - m + 1)) s t)), .int (nI t)] [] (zs G g) (zQv Kv) := by
        intro u
        induction u with
        | zero =>
          intro t ht
          have et : t = 4 := by omega
          subst et
          apply s269_39_178
          rw [if_pos (show (4 : Int32) ≤ nI 4 from by decide)]
          refine hwr m s G _ hm hs hG (zfm_le 4) ?_ h
          rw [hrec]
          by_cases hf : 5 * s ≤ a (n - 1 - m) ∧ a (n - 1 - m) ≤ 5 * s + 9
          · rw [if_pos hf, if_neg (fun z => z hf)]
          · rw [if_neg hf, if_pos hf]
        | succ u ih =>
          intro t ht
          have z := ih (t + 1) (by omega)
          have le1 := zfm_le (I := 100000000) (c := zfC 100000000 a n m) (x := a (n - 1 - m)) (y := a (n - 1 - m + 1)) (s := s) t
          have le2 := zfC_le (I := 100000000) (a := a) (n := n) (s := t) m
          have le3 := zfap_le hx.2 hy.2 hs (show t < 4 by omega)
          have e4 : (4 : Int32) * nI (n - 1 - m + 1) + nI t = nI (4 * (n - 1 - m + 1) + t) := nI_mb (n - 1 - m + 1) 4 t
          apply s269_39_178
          rw [if_neg (show ¬ (4 : Int32) ≤ nI t from nI_ge (b := 4) (by omega) (by omega)), zsO.2, ex, if_neg (nI_ge (by omega) (by omega)), nI_1, nI_1, zmO.2, e4, if_neg (nI_in (by omega) (by omega)), nI_cl (by omega), q270 (by omega), q270 (by omega), q220, q220, q222, hG 206 (by omega), hx.1, hy.1, hp (by omega) t (by omega), zmO.2, zsO.2, zsO.2, zfap_r hx.2 hy.2 hs (by omega), zmn_nI (by omega) (by omega)]
          exact z
      exact hl 4 0 (by omega)
  have hall : ∀ u m, m + u = n → ∀ (F : Nat → Nat → Int32), (∀ i, ¬ i = 207 → F i = f i) → (0 < m → ∀ t, t < 4 → F 207 (4 * (n - m) + t) = nI (zfC 100000000 a n m t)) → zWp X (d + 3) zm269 7 [.ref 178, .int (nI (n - m) - 1), .null, .null, .null] [] (zs F g) (zQv Kv) := by
    intro u
    induction u with
    | zero =>
      intro m hm F hF hc
      have em : m = n := by omega
      subst em
      apply s269_7_178
      rw [Nat.sub_self, if_pos (by decide)]
      refine hK F hF (fun s hs => ?_)
      have z := hc hn0 s hs
      rw [Nat.sub_self, Nat.mul_zero, Nat.zero_add] at z
      exact z
    | succ u ih =>
      intro m hm F hF hc
      have ex : nI (n - m) - 1 = nI (n - 1 - m) := by rw [(nI_m1 (show 0 < n - m by omega)).2]; congr 1; omega
      have hc' : 0 < m → ∀ t, t < 4 → F 207 (4 * (n - 1 - m + 1) + t) = nI (zfC 100000000 a n m t) := fun hm0 t ht => by
        rw [show n - 1 - m + 1 = n - m by omega]
        exact hc hm0 t ht
      apply s269_7_178
      rw [ex, if_neg (nI_pos (by omega))]
      have hgo : ∀ v s, s + v = 4 → ∀ G : Nat → Nat → Int32, (∀ i, ¬ i = 207 → G i = f i) → (∀ j, 4 * (n - 1 - m + 1) ≤ j → G 207 j = F 207 j) → (∀ t, t < s → G 207 (4 * (n - 1 - m) + t) = nI (zfC 100000000 a n (m + 1) t)) → zWp X (d + 3) zm269 13 [.ref 178, .int (nI (n - 1 - m)), .int (nI s), .null, .null] [] (zs G g) (zQv Kv) := by
        intro v
        induction v with
        | zero =>
          intro s hs G hG hj hp
          have es : s = 4 := by omega
          subst es
          apply s269_13_178
          rw [if_pos (show (4 : Int32) ≤ nI 4 from by decide)]
          have z := ih (m + 1) (by omega) G hG (fun _ t ht => by rw [show n - (m + 1) = n - 1 - m by omega]; exact hp t ht)
          have ey : nI (n - (m + 1)) - 1 = nI (n - 1 - m) + -1 := by rw [show n - (m + 1) = n - 1 - m by omega, Int32.sub_eq_add_neg]
          rw [ey] at z
          exact z
        | succ v ih2 =>
          intro s hs G hG hj hp
          refine hstr m s G (by omega) (by omega) hG (fun hm0 t ht => by rw [hj _ (by omega)]; exact hc' hm0 t ht) ?_
          refine ih2 (s + 1) (by omega) _ (fun i hi => by rw [zi_ne hi, hG i hi]) (fun j h => by rw [zi_at, if_neg (by omega)]; exact hj j h) (fun t ht => ?_)
          rw [zi_at]
          by_cases e : t = s
          · rw [if_pos (by rw [e]), e]
          · rw [if_neg (by omega)]
            exact hp t (by omega)
      exact hgo 4 0 (by omega) F hF (fun _ _ => rfl) (fun t ht => absurd ht (by omega))
  apply e269_178
  rw [h1, zsO.2]
  exact hall n 0 (by omega) f (fun _ _ => rfl) (fun h => absurd h (by omega))
theorem l268 {F : Nat → Nat → Int32} {w : Int32} (hn : n ≤ 10) (hc : ∀ s, s < 4 → F 207 s = nI (zfC 100000000 a n n s)) (hK : K (if zfC 100000000 a n n (zfbs (zfC 100000000 a n n) 3) < 100000000 then (if w = 0 then nI (zfC 100000000 a n n (zfbs (zfC 100000000 a n n) 3)) else nI (zfbs (zfC 100000000 a n n) 3)) else -1) F g) : ∀ u s, s + u = 3 → zWp X (d + 1) zm268 42 [.ref 178, .int w, .int (nI (zfbs (zfC 100000000 a n n) s)), .int (nI (s + 1))] [] (zs F g) (zQi K) := by
  intro u
  induction u with
  | zero =>
    intro s hs
    have es : s = 3 := by omega
    subst es
    have hb := zfbs_le (c := zfC 100000000 a n n) 3
    have le := zfC_le (I := 100000000) (a := a) (n := n) (s := zfbs (zfC 100000000 a n n) 3) n
    apply s268_42_178
    rw [if_pos (show (4 : Int32) ≤ nI (3 + 1) from by decide), if_neg (nI_in (by omega) (by omega)), nI_cl (by omega), hc _ (by omega)]
    by_cases e : zfC 100000000 a n n (zfbs (zfC 100000000 a n n) 3) < 100000000
    · rw [if_pos e] at hK
      rw [if_pos (show nI _ < Int32.ofNat 100000000 from nI_lt e (by omega)), if_neg (nI_in' (by omega) (by omega))]
      by_cases w0 : w = 0
      · rw [if_pos w0] at hK
        rw [if_pos w0]
        exact hK
      · rw [if_neg w0] at hK
        rw [if_neg w0]
        exact hK
    · rw [if_neg e] at hK
      rw [if_neg (show ¬ nI _ < Int32.ofNat 100000000 from fun y => e (by
        rw [show zfC 100000000 a n n (zfbs (zfC 100000000 a n n) 3) = 100000000 by omega] at y
        exact absurd y (by decide)))]
      exact hK
  | succ u ih =>
    intro s hs
    have z := ih (s + 1) (by omega)
    have hb := zfbs_le (c := zfC 100000000 a n n) s
    have l1 := zfC_le (I := 100000000) (a := a) (n := n) (s := zfbs (zfC 100000000 a n n) s) n
    have l2 := zfC_le (I := 100000000) (a := a) (n := n) (s := s + 1) n
    apply s268_42_178
    rw [if_neg (show ¬ (4 : Int32) ≤ nI (s + 1) from nI_ge (b := 4) (by omega) (by omega)), if_neg (nI_in (by omega) (by omega)), if_neg (nI_in (by omega) (by omega)), nI_cl (k := s + 1) (by omega), nI_cl (by omega), hc _ (by omega), hc _ (by omega), nI_1]
    conv at z => arg 5; unfold zfbs
    by_cases e : zfC 100000000 a n n (s + 1) < zfC 100000000 a n n (zfbs (zfC 100000000 a n n) s)
    · rw [if_pos e] at z
      rw [if_neg (nI_ge e (by omega))]
      exact z
    · rw [if_neg e] at z
      rw [if_pos (nI_le (by omega) (by omega))]
      exact z
end ZFR
theorem op_fingers {X : Nat × (Nat → Int32)} {d : Nat} {w : Int32} : zOp X (d + 5) 152 268 [.int w] := by
  intro fc fr gc gr hR
  have hR0 : zRel fc gc (zuI fr 178 0 0) := zRel_scr (fun _ _ _ => rfl) rfl rfl (fun _ _ => rfl) (fun i a1 _ _ _ _ => zi_ne a1) (fun j hj => by rw [zi_at, if_neg hj]) hR
  by_cases hin : (0 : Int32).toInt ≤ w.toInt ∧ w.toInt ≤ (1 : Int32).toInt
  case neg =>
    apply e152_0
    rw [q124, if_pos (by rw [zb_0]; exact hin)]
    apply e268_178
    rw [q165, if_pos (by rw [zb_0]; exact hin)]
    exact ⟨rfl, hR0⟩
  have hin' : 0 ≤ w.toInt ∧ w.toInt ≤ 1 := hin
  have hw : w = 0 ∨ w = 1 := by
    obtain ⟨W, hW, eW⟩ := zixn (x := w) (n := 2) (by omega) (by omega) (by omega)
    have h4 : W = 0 ∨ W = 1 := by omega
    rcases h4 with rfl | rfl
    · exact Or.inl eW
    · exact Or.inr eW
  obtain ⟨n, hn, h1, h2, h3⟩ := hR.1.2.2.1
  obtain ⟨a, ha⟩ : ∃ a : Nat → Nat, a = fun j => (fc 30 j).toInt.toNat := ⟨_, rfl⟩
  have hac : ∀ j, j < n → fc 30 j = nI (a j) ∧ a j ≤ 24 := fun j hj => by
    obtain ⟨y1, y2, y3⟩ := h3 j hj
    rw [ha]
    refine ⟨?_, by show (fc 30 j).toInt.toNat ≤ 24; omega⟩
    apply Int32.toInt_inj.mp
    show (fc 30 j).toInt = (nI (fc 30 j).toInt.toNat).toInt
    rw [nI_ti (by omega)]
    omega
  have har : ∀ j, j < n → zuI fr 178 0 0 206 j = nI (a j) ∧ a j ≤ 24 := fun j hj => by
    rw [zi_ne (by omega), ← (h3 j hj).1]
    exact hac j hj
  have hsm := zfC_sm (a := a) hn (fun j hj => (hac j hj).2) n (Nat.le_refl n)
  have hbs := zfbs_sm (B := 60 * n) (by omega) hsm 3 (by omega)
  have hble := zfbs_le (c := zfC 100000000 a n n) 3
  have hval : zFsm (60 * n) (zfC 1000000 a n n (zfbs (zfC 1000000 a n n) 3)) (zfC 100000000 a n n (zfbs (zfC 100000000 a n n) 3)) := by
    rw [hbs]
    exact hsm _ (by omega)
  have href : ∀ (F : Nat → Nat → Int32), (∀ i, ¬ i = 175 → ¬ i = 176 → F i = fc i) → zCpi X (d + 5) 268 [.ref 178, .int w] (zs fr gr) (fun r' f2 _ => zAn r' (if n = 0 then (if w = 0 then 0 else -1) else if zfC 1000000 a n n (zfbs (zfC 1000000 a n n) 3) < 1000000 then (if w = 0 then nI (zfC 1000000 a n n (zfbs (zfC 1000000 a n n) 3)) else nI (zfbs (zfC 1000000 a n n) 3)) else -1) ∧ zRel F gc f2) := fun F hF => by
    have hrel : ∀ R : Nat → Nat → Int32, (∀ i, ¬ i = 207 → R i = zuI fr 178 0 0 i) → zRel F gc R := fun R hr => zRel_tho (fun i hi => hF i (by omega) (by omega)) (fun i a1 a2 a3 a4 a5 a6 a7 => hr i a5) (fun j hj => by rw [hr 178 (by omega)]) hR0
    apply e268_178
    rw [q165, if_neg (by rw [zb_0]; exact fun z => z hin), show zuI fr 178 0 0 178 49 = nI n by rw [zi_at, if_neg (by omega)]; exact h2]
    by_cases n0 : n = 0
    · rw [if_pos n0, if_pos (by rw [n0]; rfl)]
      have hz := hrel _ (fun _ _ => rfl)
      by_cases w0 : w = 0
      · rw [if_pos w0, if_pos w0]
        exact ⟨rfl, hz⟩
      · rw [if_neg w0, if_neg w0]
        exact ⟨rfl, hz⟩
    · rw [if_neg n0, if_neg (nI_z (by omega) (by omega))]
      refine l269 (d := d) (a := a) (by omega) hn (by rw [zi_at, if_neg (by omega)]; exact h2) har (fun R r1 r2 => ?_)
      refine l268 (d := d + 3) (a := a) hn r2 ⟨?_, hrel R r1⟩ 3 0 (by omega)
      unfold zAn
      rw [← hbs] at hval ⊢
      rcases hval with ⟨y1, y2⟩ | ⟨y1, y2⟩
      · rw [if_pos (show zfC 100000000 a n n (zfbs (zfC 1000000 a n n) 3) < 100000000 by omega), if_pos (show zfC 1000000 a n n (zfbs (zfC 1000000 a n n) 3) < 1000000 by omega), y1]
      · rw [if_neg (show ¬ zfC 100000000 a n n (zfbs (zfC 1000000 a n n) 3) < 100000000 by omega), if_neg (show ¬ zfC 1000000 a n n (zfbs (zfC 1000000 a n n) 3) < 1000000 by omega)]
  apply e152_0
  rw [q124, if_neg (by rw [zb_0]; exact fun z => z hin)]
  rcases hw with rfl | rfl
  · rw [if_neg (by decide)]
    exact l109 (d := d) (a := a) hn h1 hac (fun F hF => href F hF)
  · rw [if_pos rfl]
    exact l109 (d := d) (a := a) hn h1 hac (fun F hF => href F hF)

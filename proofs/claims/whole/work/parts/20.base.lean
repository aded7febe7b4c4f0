/-! THE TWO SIDES. fc, gc: the class's memory; fr, gr: the reference's; each runs in its own -/
theorem zi_ne {f : Nat → Nat → Int32} {i j k : Nat} {x : Int32} (h : ¬ j = i) : zuI f i k x j = f j := by
  funext b
  unfold zuI
  rw [if_neg h]
theorem zi_at {f : Nat → Nat → Int32} {i k b : Nat} {x : Int32} : zuI f i k x i b = if b = k then x else f i b := by
  unfold zuI
  rw [if_pos rfl]
theorem zr_ne {f : Nat → Nat → Int32} {i j : Nat} {r : Nat → Int32} (h : ¬ j = i) : zrI f i r j = f j := by
  unfold zrI
  rw [if_neg h]
theorem zr_at {f : Nat → Nat → Int32} {i : Nat} {r : Nat → Int32} : zrI f i r i = r := by
  unfold zrI
  rw [if_pos rfl]
theorem zj_ne {f : Nat → Nat → Int64} {i j k : Nat} {x : Int64} (h : ¬ j = i) : zuL f i k x j = f j := by
  funext b
  unfold zuL
  rw [if_neg h]
theorem zj_at {f : Nat → Nat → Int64} {i k b : Nat} {x : Int64} : zuL f i k x i b = if b = k then x else f i b := by
  unfold zuL
  rw [if_pos rfl]
theorem nI_cl {k : Nat} (h : k ≤ 100000) : (nI k).toNatClampNeg = k := nI_clamp (by omega)
theorem nI_ti {k : Nat} (h : k ≤ 100000) : (nI k).toInt = k := nI_toInt (by omega)
section ZEQ
variable {X : Nat × (Nat → Int32)} {d a : Nat} {As : List Value} {S : zSt}
/-- a run has one end -/
theorem zCpi_eq {v0 : Int32} {f0 : Nat → Nat → Int32} {g0 : Nat → Nat → Int64} (h : ∀ K : Int32 → (Nat → Nat → Int32) → (Nat → Nat → Int64) → Prop, K v0 f0 g0 → zCpi X d a As S K) {K : Int32 → (Nat → Nat → Int32) → (Nat → Nat → Int64) → Prop} : zCpi X d a As S K = K v0 f0 g0 := by
  refine propext ⟨fun z => ?_, h K⟩
  obtain ⟨n, r, S1, h1, h2, v1, f1, g1, e1, e2, e3⟩ := z
  obtain ⟨m, r', S1', h1', h2', v1', f1', g1', e1', e2', e3', e4', e5'⟩ := h (fun v f g => v = v0 ∧ f = f0 ∧ g = g0) ⟨rfl, rfl, rfl⟩
  have k1 := zrun_fuel d n (max n m) a As S (Nat.le_max_left _ _) h1
  have k2 := zrun_fuel d m (max n m) a As S (Nat.le_max_right _ _) h1'
  rw [k1] at k2
  have k3 := Option.some.inj k2
  rw [Prod.mk.injEq] at k3
  obtain ⟨k4, k5⟩ := k3
  rw [e1, e1'] at k4
  have k6 := Option.some.inj k4
  rw [Value.int.injEq] at k6
  rw [e2, e2'] at k5
  simp only [zs, Prod.mk.injEq, true_and] at k5
  rw [← e3', ← e4', ← e5', ← k6, ← k5.1, ← k5.2]
  exact e3
theorem zCpv_eq {f0 : Nat → Nat → Int32} {g0 : Nat → Nat → Int64} (h : ∀ K : (Nat → Nat → Int32) → (Nat → Nat → Int64) → Prop, K f0 g0 → zCpv X d a As S K) {K : (Nat → Nat → Int32) → (Nat → Nat → Int64) → Prop} : zCpv X d a As S K = K f0 g0 := by
  refine propext ⟨fun z => ?_, h K⟩
  obtain ⟨n, r, S1, h1, h2, f1, g1, e1, e2, e3⟩ := z
  obtain ⟨m, r', S1', h1', h2', f1', g1', e1', e2', e4', e5'⟩ := h (fun f g => f = f0 ∧ g = g0) ⟨rfl, rfl⟩
  have k1 := zrun_fuel d n (max n m) a As S (Nat.le_max_left _ _) h1
  have k2 := zrun_fuel d m (max n m) a As S (Nat.le_max_right _ _) h1'
  rw [k1] at k2
  have k3 := Option.some.inj k2
  rw [Prod.mk.injEq] at k3
  obtain ⟨k4, k5⟩ := k3
  rw [e2, e2'] at k5
  simp only [zs, Prod.mk.injEq, true_and] at k5
  rw [← e4', ← e5', ← k5.1, ← k5.2]
  exact e3
end ZEQ
section ZMO
variable {X : Nat × (Nat → Int32)} {d : Nat} {M : zMe} {pc : Nat} {ls st : List Value} {S : zSt}
theorem zQi_mono {K K' : Int32 → (Nat → Nat → Int32) → (Nat → Nat → Int64) → Prop} (h : ∀ v f g, K v f g → K' v f g) (r : Option Value) (S : zSt) (z : zQi K r S) : zQi K' r S := by
  obtain ⟨v, f, g, e1, e2, e3⟩ := zQi_imp r S z
  subst e1
  subst e2
  exact h _ _ _ e3
theorem zQv_mono {K K' : (Nat → Nat → Int32) → (Nat → Nat → Int64) → Prop} (h : ∀ f g, K f g → K' f g) (r : Option Value) (S : zSt) (z : zQv K r S) : zQv K' r S := by
  obtain ⟨f, g, e1, e2, e3⟩ := zQv_imp r S z
  subst e1
  subst e2
  exact h _ _ e3
theorem zWi_mono {K K' : Int32 → (Nat → Nat → Int32) → (Nat → Nat → Int64) → Prop} (h : ∀ v f g, K v f g → K' v f g) (z : zWp X d M pc ls st S (zQi K)) : zWp X d M pc ls st S (zQi K') := zWp_mono (zQi_mono h) z
theorem zWv_mono {K K' : (Nat → Nat → Int32) → (Nat → Nat → Int64) → Prop} (h : ∀ f g, K f g → K' f g) (z : zWp X d M pc ls st S (zQv K)) : zWp X d M pc ls st S (zQv K') := zWp_mono (zQv_mono h) z
end ZMO
/-- an int within bounds -/
theorem zixn {x : Int32} {n : Nat} (h0 : 0 ≤ x.toInt) (h1 : x.toInt < n) (hn : n ≤ 100000) : ∃ j : Nat, j < n ∧ x = nI j := by
  refine ⟨x.toInt.toNat, by omega, ?_⟩
  apply Int32.toInt_inj.mp
  rw [nI_toInt (by omega)]
  omega
/-- rows told one by one -/
def zRow (n1 : Int32) (a : Nat → Int32) (n2 : Int32) (b : Nat → Int32) (cap : Nat) (hi : Int) : Prop := ∃ k : Nat, k ≤ cap ∧ n1 = nI k ∧ n2 = nI k ∧ ∀ j, j < k → a j = b j ∧ 0 ≤ (a j).toInt ∧ (a j).toInt ≤ hi
/-- couples that quarrel: 10 a + b on one side, a set of two on the other -/
def zCou (n1 : Int32) (a : Nat → Int32) (n2 : Int32) (b : Nat → Int32) : Prop := ∃ k : Nat, k ≤ 16 ∧ n1 = nI k ∧ n2 = nI k ∧ ∀ j, j < k → ∃ p q : Nat, p < 10 ∧ q < 10 ∧ ¬ p = q ∧ a j = nI (10 * p + q) ∧ b j = nI (2 ^ p ||| 2 ^ q)
def zCos (a b : Nat → Int32) : Prop := ∀ p q : Nat, p < 6 → q < 6 → a (6 * p + q) = b (6 * p + q) ∧ a (6 * p + q) = a (6 * q + p) ∧ 0 ≤ (a (6 * p + q)).toInt ∧ (a (6 * p + q)).toInt ≤ 9
/-- a hall: how many, its state, unisons, beat, its rows; the reference's row; the beat is at most B -/
def zHal (c st un bt : Int32) (L E Xs Ys N O A W : Nat → Int32) (w : Nat → Int32) (pl : Int32) (er : Nat → Int32) (B : Int) : Prop := ∃ n : Nat, n ≤ 12 ∧ c = nI n ∧ pl = nI n ∧ w 1 = st ∧ w 3 = un ∧ w 0 = bt ∧ 0 ≤ (w 0).toInt ∧ (w 0).toInt ≤ B ∧ ∀ p, p < n →
  w (4 + p) = L p ∧ er p = E p ∧ (∃ x y : Nat, x < 8 ∧ y < 6 ∧ Xs p = nI x ∧ Ys p = nI y ∧ w (16 + p) = nI (8 * y + x)) ∧ (∃ k : Nat, k ≤ 12 ∧ N p = nI k - 1 ∧ w (28 + p) = nI k) ∧ w (40 + p) = O p ∧ -50 ≤ (w (40 + p)).toInt ∧ (w (40 + p)).toInt ≤ 50 ∧
  (∃ k : Nat, k ≤ 12 ∧ A p = nI k - 1 ∧ w (52 + p) = nI k) ∧ w (64 + p) = W p ∧ 0 ≤ (w (64 + p)).toInt ∧ (w (64 + p)).toInt ≤ (w 0).toInt
/-- pillars: bits, and a row of ones -/
def zPil (g : Int64) (w : Nat → Int32) : Prop := ∃ P : Nat, P < 2 ^ 48 ∧ g = lN P ∧ ∀ k, k < 48 → w k = if P.testBit k = true then 1 else 0
def zBoo (n1 : Int32) (a : Nat → Int32) (n2 : Int32) (b : Nat → Int32) : Prop := ∃ k : Nat, k ≤ 150 ∧ n1 = nI k ∧ n2 = nI k ∧ ∀ j, j < 4 * k → a j = b j
def zSco (n1 : Int32) (a : Nat → Int32) (n2 : Int32) (b : Nat → Int32) : Prop := ∃ k : Nat, k ≤ 16 ∧ n1 = nI k ∧ n2 = nI k ∧ ∀ j, j < k → a (5 * j) = b (3 * j) ∧ a (5 * j + 2) = b (3 * j + 1) ∧ a (5 * j + 3) = b (3 * j + 2) ∧ 0 ≤ (b (3 * j + 2)).toInt ∧ (b (3 * j + 2)).toInt ≤ 11
def zSta (n1 : Int32) (a : Nat → Int32) (n2 : Int32) (b : Nat → Int32) (pl : Int32) : Prop := ∃ k n : Nat, k ≤ 16 ∧ n ≤ 12 ∧ n1 = nI k ∧ n2 = nI k ∧ pl = nI n ∧ ∀ j, j < k → a (5 * j) = b (4 * j) ∧ (∃ p : Nat, p < n ∧ a (5 * j + 2) = nI p ∧ b (4 * j + 2) = nI p) ∧
  ((a (5 * j + 1) = 146 ∧ b (4 * j + 1) = 0 ∧ ∃ x y : Nat, x < 8 ∧ y < 6 ∧ a (5 * j + 3) = nI x ∧ a (5 * j + 4) = nI y ∧ b (4 * j + 3) = nI (8 * y + x)) ∨ (a (5 * j + 1) = 135 ∧ b (4 * j + 1) = 1 ∧ a (5 * j + 3) = b (4 * j + 3)) ∨ (a (5 * j + 1) = 147 ∧ b (4 * j + 1) = 2) ∨ (a (5 * j + 1) = 148 ∧ b (4 * j + 1) = 3))
/-- the law's code: what stands at one place on both sides; b: whether it comes to a truth -/
def zCod (c o a : Int32) : Prop := (∃ v : Nat, v ≤ 9999 ∧ c = nI v ∧ o = 0 ∧ a = nI v) ∨ (∃ w : Nat, w < 9 ∧ c = -(nI (135 + w)) ∧ o = 1 ∧ a = nI w) ∨ (c = -43 ∧ o = 2) ∨ (c = -45 ∧ o = 3) ∨ (c = -42 ∧ o = 4) ∨ (c = -47 ∧ o = 5) ∨ (c = -60 ∧ o = 6) ∨ (c = -61 ∧ o = 7) ∨ (c = -62 ∧ o = 8) ∨ (c = -134 ∧ o = 9) ∨ (c = -133 ∧ o = 10) ∨ (c = -132 ∧ o = 11)
/-- kinds on the stack (true: a truth), from place i on, over m steps -/
def zTyp (c : Nat → Int32) : Nat → Nat → List Bool → Option (List Bool)
  | _, 0, s => some s
  | i, m + 1, s => if 32 ≤ s.length then none else if 0 ≤ (c i).toInt ∨ ((c i).toInt ≤ -135 ∧ -143 ≤ (c i).toInt) then zTyp c (i + 1) m (false :: s) else match s with
    | [] => none
    | x :: t => if (c i).toInt = -134 then (if x = true then zTyp c (i + 1) m (true :: t) else none) else match t with
      | [] => none
      | y :: u => if (c i).toInt = -133 ∨ (c i).toInt = -132 then (if x = true ∧ y = true then zTyp c (i + 1) m (true :: u) else none) else if x = false ∧ y = false then (if (c i).toInt = -60 ∨ (c i).toInt = -61 ∨ (c i).toInt = -62 then zTyp c (i + 1) m (true :: u) else if (c i).toInt = -47 then (if 0 < i ∧ 0 < (c (i - 1)).toInt then zTyp c (i + 1) m (false :: u) else none) else zTyp c (i + 1) m (false :: u)) else none
def zLaw (n1 : Int32) (cd lw sm wh en : Nat → Int32) (n2 : Int32) (lW lF lH lT op ar : Nat → Int32) : Prop := ∃ k : Nat, k ≤ 16 ∧ n1 = nI k ∧ n2 = nI k ∧ ∀ l, l < k → ∃ w a b c : Nat, w < 3 ∧ a ≤ b ∧ b ≤ c ∧ c ≤ 400 ∧ lw l = nI (128 + w) ∧ lW l = nI w ∧ sm l = nI a ∧ lF l = nI a ∧ wh l = nI b ∧ lH l = nI b ∧ en l = nI c ∧ lT l = nI c ∧ (∀ i, a ≤ i → i < c → zCod (cd i) (op i) (ar i)) ∧ zTyp cd a (b - a) [] = some [false] ∧ (b = c ∨ zTyp cd b (c - b) [] = some [true])
/-- all that an image keeps: f, g: the class's world in cells 1 to 32; V: the reference's cells -/
def zWld (f : Nat → Nat → Int32) (g : Nat → Nat → Int64) (V : Nat → Nat → Int32) : Prop :=
  zRow (f 27 1) (f 28) (V 178 46) (V 204) 12 24 ∧
  zRow (f 25 1) (f 26) (V 178 44) (V 203) 12 11 ∧
  zRow (f 29 1) (f 30) (V 178 49) (V 206) 10 24 ∧
  zCou (f 31 1) (f 32) (V 178 52) (V 208) ∧
  zCos (f 24) (V 201) ∧
  zLaw (f 13 7) (f 14) (f 15) (f 16) (f 17) (f 18) (V 187 0) (V 188) (V 189) (V 190) (V 191) (V 192) (V 193) ∧
  zSco (f 20 1) (f 21) (V 178 33) (V 195) ∧
  zSta (f 22 1) (f 23) (V 178 35) (V 196) (V 178 7) ∧
  zHal (f 2 8) (f 2 9) (f 2 10) (f 2 11) (f 3) (f 4) (f 5) (f 6) (f 7) (f 8) (f 9) (f 10) (V 179) (V 178 7) (V 183) 9999 ∧
  (zPil (g 2 12) (V 197) ∧ f 1 10 = V 178 37) ∧
  zBoo (f 11 1) (f 12) (V 179 2) (V 184)
/-- the halls before the latest beats and acts by hand: class, a ring of six; reference, rows behind one another -/
def zPas (f : Nat → Nat → Int32) (g : Nat → Nat → Int64) (r : Nat → Nat → Int32) : Prop := ∃ (s p : Nat) (mm : Nat → Nat), s ≤ 6 ∧ p < 6 ∧ f 81 3 = nI s ∧ r 178 3 = nI s ∧ f 81 2 = nI p ∧ f 11 1 = nI (mm 0) ∧ mm 0 ≤ 150 ∧ ∀ j, j < s → ∃ q : Nat, q = (p + 5 - j) % 6 ∧
  zHal (f (84 + 9 * q) 8) (f (84 + 9 * q) 9) (f (84 + 9 * q) 10) (f (84 + 9 * q) 11) (f (85 + 9 * q)) (f (86 + 9 * q)) (f (87 + 9 * q)) (f (88 + 9 * q)) (f (89 + 9 * q)) (f (90 + 9 * q)) (f (91 + 9 * q)) (f (92 + 9 * q)) (fun k => r 180 (76 * (s - 1 - j) + k)) (r 178 7) (r 183) 9999 ∧
  g (84 + 9 * q) 12 = g 2 12 ∧ f 83 q = nI (mm (j + 1)) ∧ r 180 (76 * (s - 1 - j) + 2) = nI (mm (j + 1)) ∧ mm (j + 1) ≤ mm j
/-- where the image's numbers lie, by the reference's cells -/
def zImg (im : Nat → Int32) (i k : Nat) : Int32 :=
  if i = 179 then im k else if i = 178 then (if k = 7 then im 76 else if k = 33 then im 77 else if k = 35 then im 78 else if k = 37 then im 79 else if k = 44 then im 80 else if k = 46 then im 81 else if k = 49 then im 82 else im 83)
  else if i = 183 then im (84 + 3 * k) else if i = 203 then im (85 + 3 * k) else if i = 204 then im (86 + 3 * k) else if i = 195 then im (120 + 2 * k) else if i = 197 then im (121 + 2 * k) else if i = 196 then im (216 + k) else if i = 201 then im (280 + k) else if i = 206 then im (316 + k) else if i = 208 then im (326 + k) else if i = 184 then im (342 + k) else if i = 187 then im 942 else if i = 188 then im (943 + 4 * k) else if i = 189 then im (944 + 4 * k) else if i = 190 then im (945 + 4 * k) else if i = 191 then im (946 + 4 * k) else if i = 192 then im (1007 + 2 * k) else im (1008 + 2 * k)
def zIma (f : Nat → Nat → Int32) (g : Nat → Nat → Int64) (r : Nat → Nat → Int32) : Prop := f 0 9 = r 178 57 ∧ (f 0 9 = 0 ∨ (f 0 9 = 1 ∧ zWld (fun i => f (i + 32)) (fun i => g (i + 32)) (zImg (r 211))))
def zWrd : List Nat := [32, 104, 101, 97, 114, 115, 32, 115, 108, 105, 112, 115, 32, 98, 101, 110, 100, 115, 32, 119, 104, 101, 110, 32, 111, 114, 32, 97, 110, 100, 32, 110, 111, 116, 32, 108, 111, 117, 100, 32, 101, 97, 114, 32, 102, 97, 114, 32, 112, 105, 108, 108, 97, 114, 115, 32, 111, 102, 102, 32, 110, 111, 116, 101, 32, 119, 114, 111, 110, 103, 32, 115, 111, 117, 110, 100, 105, 110, 103, 32, 98, 101, 97, 116, 32, 97, 116, 32, 112, 108, 97, 121, 101, 114, 32, 115, 101, 97, 116, 32, 116, 117, 110, 101, 32, 104, 117, 115, 104, 32, 112, 105, 108, 108, 97, 114, 32]
def zCon (a b c : Int32) (w : Nat → Int32) : Prop := a = 1 ∧ b = 0 ∧ c = 0 ∧ ∀ k, k < 117 → w k = nI (zWrd.getD k 0)
def zRel (f : Nat → Nat → Int32) (g : Nat → Nat → Int64) (r : Nat → Nat → Int32) : Prop := zWld f g r ∧ zRow (f 65 5) (f 66) (r 178 11) (r 185) 400 255 ∧ (f 70 7 = r 178 31 ∧ f 70 8 = r 178 32) ∧ zPas f g r ∧ zIma f g r ∧ zCon (f 147 2) (f 158 2) (r 178 5) (r 186)
theorem zPas_frame {f f2 : Nat → Nat → Int32} {g g2 : Nat → Nat → Int64} {r r2 : Nat → Nat → Int32} (h1 : ∀ i, 81 ≤ i → i ≤ 137 → f2 i = f i) (h2 : f2 11 1 = f 11 1) (h3 : ∀ i, 84 ≤ i → i ≤ 129 → g2 i 12 = g i 12) (h4 : g2 2 12 = g 2 12) (h5 : r2 180 = r 180) (h6 : r2 178 3 = r 178 3) (h7 : r2 178 7 = r 178 7) (h8 : r2 183 = r 183) (h : zPas f g r) : zPas f2 g2 r2 := by
  obtain ⟨s, p, mm, a1, a2, a3, a4, a5, a6, a6', a7⟩ := h
  refine ⟨s, p, mm, a1, a2, by rw [h1 81 (by omega) (by omega)]; exact a3, by rw [h6]; exact a4, by rw [h1 81 (by omega) (by omega)]; exact a5, by rw [h2]; exact a6, a6', fun j hj => ?_⟩
  obtain ⟨q, b1, b2, b3, b4, b5, b6⟩ := a7 j hj
  have hq : q < 6 := by rw [b1]; exact Nat.mod_lt _ (by omega)
  refine ⟨q, b1, ?_, ?_, ?_, ?_, b6⟩
  · rw [h1 (84 + 9 * q) (by omega) (by omega), h1 (85 + 9 * q) (by omega) (by omega), h1 (86 + 9 * q) (by omega) (by omega), h1 (87 + 9 * q) (by omega) (by omega), h1 (88 + 9 * q) (by omega) (by omega), h1 (89 + 9 * q) (by omega) (by omega), h1 (90 + 9 * q) (by omega) (by omega), h1 (91 + 9 * q) (by omega) (by omega), h1 (92 + 9 * q) (by omega) (by omega), h5, h7, h8]
    exact b2
  · rw [h3 (84 + 9 * q) (by omega) (by omega), h4]
    exact b3
  · rw [h1 83 (by omega) (by omega)]
    exact b4
  · rw [h5]
    exact b5
/-- the book has grown -/
theorem zPas_book {f f2 : Nat → Nat → Int32} {g g2 : Nat → Nat → Int64} {r r2 : Nat → Nat → Int32} {b b2 : Nat} (hb : f 11 1 = nI b) (hb0 : b ≤ 150) (hb2 : f2 11 1 = nI b2) (hbb : b ≤ b2) (hb3 : b2 ≤ 150) (h1 : ∀ i, 81 ≤ i → i ≤ 137 → f2 i = f i) (h3 : ∀ i, 84 ≤ i → i ≤ 129 → g2 i 12 = g i 12) (h4 : g2 2 12 = g 2 12) (h5 : r2 180 = r 180) (h6 : r2 178 3 = r 178 3) (h7 : r2 178 7 = r 178 7) (h8 : r2 183 = r 183) (h : zPas f g r) : zPas f2 g2 r2 := by
  have h' : zPas f g2 r2 := zPas_frame (fun _ _ _ => rfl) rfl h3 h4 h5 h6 h7 h8 h
  obtain ⟨s, p, mm, a1, a2, a3, a4, a5, a6, a6', a7⟩ := h'
  have e : mm 0 = b := (nI_eq (by omega) (by omega)).mp (a6.symm.trans hb)
  refine ⟨s, p, fun j => if j = 0 then b2 else mm j, a1, a2, by rw [h1 81 (by omega) (by omega)]; exact a3, a4, by rw [h1 81 (by omega) (by omega)]; exact a5, hb2, hb3, fun j hj => ?_⟩
  obtain ⟨q, b1, b2', b3, b4, b5, b6⟩ := a7 j hj
  have hq : q < 6 := by rw [b1]; exact Nat.mod_lt _ (by omega)
  refine ⟨q, b1, ?_, b3, ?_, ?_, ?_⟩
  · rw [h1 (84 + 9 * q) (by omega) (by omega), h1 (85 + 9 * q) (by omega) (by omega), h1 (86 + 9 * q) (by omega) (by omega), h1 (87 + 9 * q) (by omega) (by omega), h1 (88 + 9 * q) (by omega) (by omega), h1 (89 + 9 * q) (by omega) (by omega), h1 (90 + 9 * q) (by omega) (by omega), h1 (91 + 9 * q) (by omega) (by omega), h1 (92 + 9 * q) (by omega) (by omega)]
    exact b2'
  · rw [h1 83 (by omega) (by omega)]
    simp only [Nat.add_eq_zero_iff, Nat.one_ne_zero, and_false, if_false]
    exact b4
  · simp only [Nat.add_eq_zero_iff, Nat.one_ne_zero, and_false, if_false]
    exact b5
  · simp only [Nat.add_eq_zero_iff, Nat.one_ne_zero, and_false, if_false]
    by_cases e0 : j = 0
    · subst e0
      rw [if_pos rfl]
      omega
    · rw [if_neg e0]
      exact b6
theorem zPas_nil {f f2 : Nat → Nat → Int32} {g g2 : Nat → Nat → Int64} {r r2 : Nat → Nat → Int32} {b : Nat} (h1 : f2 81 2 = f 81 2) (h2 : f2 81 3 = 0) (h3 : r2 178 3 = 0) (h4 : f2 11 1 = nI b) (hb : b ≤ 150) (h : zPas f g r) : zPas f2 g2 r2 := by
  obtain ⟨s, p, mm, a1, a2, a3, a4, a5, a6, a6', a7⟩ := h
  exact ⟨0, p, fun _ => b, by omega, a2, h2, h3, h1.trans a5, h4, hb, fun j hj => absurd hj (Nat.not_lt_zero j)⟩
theorem zIma_frame {f f2 : Nat → Nat → Int32} {g g2 : Nat → Nat → Int64} {r r2 : Nat → Nat → Int32} (h0 : f2 0 9 = f 0 9) (h1 : ∀ i, 33 ≤ i → i ≤ 64 → f2 i = f i) (h3 : g2 34 12 = g 34 12) (h5 : r2 211 = r 211) (h6 : r2 178 57 = r 178 57) (h : zIma f g r) : zIma f2 g2 r2 := by
  obtain ⟨a1, a2⟩ := h
  refine ⟨by rw [h0, h6]; exact a1, ?_⟩
  rw [h0, h5]
  rcases a2 with a2 | ⟨a2, a3⟩
  · exact Or.inl a2
  · refine Or.inr ⟨a2, ?_⟩
    unfold zWld at a3 ⊢
    simp only [Nat.reduceAdd] at a3 ⊢
    rw [h1 59 (by omega) (by omega), h1 60 (by omega) (by omega), h1 57 (by omega) (by omega), h1 58 (by omega) (by omega), h1 61 (by omega) (by omega), h1 62 (by omega) (by omega), h1 63 (by omega) (by omega), h1 64 (by omega) (by omega), h1 56 (by omega) (by omega), h1 45 (by omega) (by omega), h1 46 (by omega) (by omega), h1 47 (by omega) (by omega), h1 48 (by omega) (by omega), h1 49 (by omega) (by omega), h1 50 (by omega) (by omega), h1 52 (by omega) (by omega), h1 53 (by omega) (by omega), h1 54 (by omega) (by omega), h1 55 (by omega) (by omega), h1 34 (by omega) (by omega), h1 35 (by omega) (by omega), h1 36 (by omega) (by omega), h1 37 (by omega) (by omega), h1 38 (by omega) (by omega), h1 39 (by omega) (by omega), h1 40 (by omega) (by omega), h1 41 (by omega) (by omega), h1 42 (by omega) (by omega), h1 33 (by omega) (by omega), h1 43 (by omega) (by omega), h1 44 (by omega) (by omega), h3]
    exact a3
def zAn (r' r : Int32) : Prop := r' = r
/-- a call on both sides: the same answer, and what relates them again -/
def zOp (X : Nat × (Nat → Int32)) (d a b : Nat) (As : List Value) : Prop := ∀ (fc fr : Nat → Nat → Int32) (gc gr : Nat → Nat → Int64), zRel fc gc fr → zCpi X d a (.ref 0 :: As) (zs fc gc) (fun r f1 g1 => zCpi X d b (.ref 178 :: As) (zs fr gr) (fun r' f2 _ => zAn r' r ∧ zRel f1 g1 f2))
theorem zRow_nil {a b : Nat → Int32} {cap : Nat} {hi : Int} : zRow 0 a 0 b cap hi := ⟨0, Nat.zero_le _, rfl, rfl, fun j hj => absurd hj (Nat.not_lt_zero j)⟩
theorem zRow_more {a a2 b b2 : Nat → Int32} {cap : Nat} {hi : Int} {v : Int32} {k : Nat} {n1 n2 : Int32} (hk : k < cap) (h1 : n1 = nI (k + 1)) (h2 : n2 = nI (k + 1)) (h3 : ∀ j, a2 j = if j = k then v else a j) (h4 : ∀ j, b2 j = if j = k then v else b j) (hv : 0 ≤ v.toInt ∧ v.toInt ≤ hi)
    (h : ∀ j, j < k → a j = b j ∧ 0 ≤ (a j).toInt ∧ (a j).toInt ≤ hi) : zRow n1 a2 n2 b2 cap hi := by
  refine ⟨k + 1, hk, h1, h2, fun j hj => ?_⟩
  rw [h3, h4]
  by_cases e : j = k
  · rw [if_pos e, if_pos e]
    exact ⟨rfl, hv⟩
  · rw [if_neg e, if_neg e]
    exact h j (by omega)
theorem zeqI {x y : Int32} : x = y ↔ x.toInt = y.toInt := Int32.toInt_inj.symm
theorem zoob {x : Int32} {n : Nat} (h0 : 0 ≤ x.toInt) (h1 : x.toInt < n) : ¬ (x.toInt < (0 : Int32).toInt ∨ n ≤ x.toNatClampNeg) := by
  have e : x.toNatClampNeg = x.toInt.toNat := rfl
  have e2 : (0 : Int32).toInt = 0 := rfl
  rw [e, e2]
  omega

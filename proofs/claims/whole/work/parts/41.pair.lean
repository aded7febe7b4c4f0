/-! A CALL OF THE CLASS, THEN THE SAME CALL OF THE REFERENCE, IN ONE MEMORY -/
def zD1 (i : Nat) : Bool := decide (i < 178)
def zD2 (i : Nat) : Bool := decide (178 ≤ i) && decide (i < 212)
def zDc (D : Nat → Bool) (i : Nat) : Bool := match zlay i with
  | some (ci, ks) => (!decide (ci < 13) || ks.all (fun x => decide (x < 3) || D (x - 3))) && (!decide (ci = 101) || ks.all D)
  | none => true
theorem zDc_1 : (List.range 178).all (zDc zD1) = true := by decide +kernel
theorem zDc_2 : (List.range 212).all (fun i => !zD2 i || zDc zD2 i) = true := by decide +kernel
theorem zDc_ok {D : Nat → Bool} {i : Nat} (h : zDc D i = true) {ci : Nat} {ks : List Nat} (hl : zlay i = some (ci, ks)) (b j : Nat) : (ks[b]? = some (j + 3) → ci < 13 → D j = true) ∧ (ks[b]? = some j → ci = 101 → D j = true) := by
  unfold zDc at h
  rw [hl] at h
  simp only [Bool.and_eq_true, Bool.or_eq_true, Bool.not_eq_true', decide_eq_false_iff_not, List.all_eq_true, decide_eq_true_eq] at h
  constructor
  · intro h1 h2
    have h3 := (h.1.resolve_left (fun z => z h2)) _ (List.mem_of_getElem? h1)
    rcases h3 with h3 | h3
    · omega
    · rw [show j + 3 - 3 = j by omega] at h3
      exact h3
  · intro h1 h2
    exact (h.2.resolve_left (fun z => z h2)) _ (List.mem_of_getElem? h1)
theorem zD1_ok : ∀ i ci ks, zD1 i = true → zlay i = some (ci, ks) → ∀ (b j : Nat), (ks[b]? = some (j + 3) → ci < 13 → zD1 j = true) ∧ (ks[b]? = some j → ci = 101 → zD1 j = true) := fun i ci ks hi hl b j => zDc_ok (List.all_eq_true.mp zDc_1 i (List.mem_range.mpr (of_decide_eq_true hi))) hl b j
theorem zD2_ok : ∀ i ci ks, zD2 i = true → zlay i = some (ci, ks) → ∀ (b j : Nat), (ks[b]? = some (j + 3) → ci < 13 → zD2 j = true) ∧ (ks[b]? = some j → ci = 101 → zD2 j = true) := fun i ci ks hi hl b j => by
  have h1 : i < 212 := by
    unfold zD2 at hi
    rw [Bool.and_eq_true] at hi
    exact of_decide_eq_true hi.2
  have h2 := List.all_eq_true.mp zDc_2 i (List.mem_range.mpr h1)
  rw [hi] at h2
  exact zDc_ok (by simpa using h2) hl b j
section ZPA
variable {X : Nat × (Nat → Int32)} {d a : Nat} {As : List Value}
theorem zCpi_ex {S : zSt} {K : Int32 → (Nat → Nat → Int32) → (Nat → Nat → Int64) → Prop} (h : zCpi X d a As S K) : ∃ n v f g, zrun X d n a As S = some (some (.int v), zs f g) ∧ K v f g := by
  obtain ⟨n, r, S1, h1, h2, v, f, g, e1, e2, e3⟩ := h
  subst e1
  subst e2
  exact ⟨n, v, f, g, h1, e3⟩
theorem zCpi_mk {f0 : Nat → Nat → Int32} {g0 : Nat → Nat → Int64} {K : Int32 → (Nat → Nat → Int32) → (Nat → Nat → Int64) → Prop} {n : Nat} {v : Int32} {f : Nat → Nat → Int32} {g : Nat → Nat → Int64} (h : zrun X d n a As (zs f0 g0) = some (some (.int v), zs f g)) (hK : K v f g) : zCpi X d a As (zs f0 g0) K := ⟨n, _, _, h, rfl, v, f, g, rfl, rfl, hK⟩
theorem zrun_one {S : zSt} {n m : Nat} {v v2 : Int32} {f f2 : Nat → Nat → Int32} {g g2 : Nat → Nat → Int64} (h1 : zrun X d n a As S = some (some (.int v), zs f g)) (h2 : zrun X d m a As S = some (some (.int v2), zs f2 g2)) : v2 = v ∧ f2 = f ∧ g2 = g := by
  have k1 := zrun_fuel d n (max n m) a As S (Nat.le_max_left _ _) h1
  have k2 := zrun_fuel d m (max n m) a As S (Nat.le_max_right _ _) h2
  rw [k1] at k2
  simp only [Option.some.injEq, Prod.mk.injEq, Value.int.injEq, zs, true_and] at k2
  exact ⟨k2.1.symm, k2.2.1.symm, k2.2.2.symm⟩
end ZPA
/-- only the reference's cells count on its side -/
theorem zRel_ref {f : Nat → Nat → Int32} {g : Nat → Nat → Int64} {r r2 : Nat → Nat → Int32} (h : ∀ i, 178 ≤ i → i < 212 → r2 i = r i) (hR : zRel f g r) : zRel f g r2 := by
  obtain ⟨⟨c1, c2, c3, c4, c5, c6, c7, c8, c9, c10, c11⟩, c12, c13, c14, c15, c16⟩ := hR
  have e := fun i (h1 : 178 ≤ i) (h2 : i < 212) => h i h1 h2
  refine ⟨⟨?_, ?_, ?_, ?_, ?_, ?_, ?_, ?_, ?_, ?_, ?_⟩, ?_, ?_, ?_, ?_, ?_⟩
  · rw [e 178 (by omega) (by omega), e 204 (by omega) (by omega)]; exact c1
  · rw [e 178 (by omega) (by omega), e 203 (by omega) (by omega)]; exact c2
  · rw [e 178 (by omega) (by omega), e 206 (by omega) (by omega)]; exact c3
  · rw [e 178 (by omega) (by omega), e 208 (by omega) (by omega)]; exact c4
  · rw [e 201 (by omega) (by omega)]; exact c5
  · rw [e 187 (by omega) (by omega), e 188 (by omega) (by omega), e 189 (by omega) (by omega), e 190 (by omega) (by omega), e 191 (by omega) (by omega), e 192 (by omega) (by omega), e 193 (by omega) (by omega)]; exact c6
  · rw [e 178 (by omega) (by omega), e 195 (by omega) (by omega)]; exact c7
  · rw [e 178 (by omega) (by omega), e 196 (by omega) (by omega)]; exact c8
  · rw [e 178 (by omega) (by omega), e 179 (by omega) (by omega), e 183 (by omega) (by omega)]; exact c9
  · rw [e 178 (by omega) (by omega), e 197 (by omega) (by omega)]; exact c10
  · rw [e 179 (by omega) (by omega), e 184 (by omega) (by omega)]; exact c11
  · rw [e 178 (by omega) (by omega), e 185 (by omega) (by omega)]; exact c12
  · rw [e 178 (by omega) (by omega)]; exact c13
  · exact zPas_frame (fun _ _ _ => rfl) rfl (fun _ _ _ => rfl) rfl (e 180 (by omega) (by omega)) (by rw [e 178 (by omega) (by omega)]) (by rw [e 178 (by omega) (by omega)]) (e 183 (by omega) (by omega)) c14
  · exact zIma_frame rfl (fun _ _ _ => rfl) rfl (e 211 (by omega) (by omega)) (by rw [e 178 (by omega) (by omega)]) c15
  · rw [e 178 (by omega) (by omega), e 186 (by omega) (by omega)]; exact c16
/-- only the class's cells count on its side -/
theorem zRel_cls {f f2 : Nat → Nat → Int32} {g g2 : Nat → Nat → Int64} {r : Nat → Nat → Int32} (h : ∀ i, i < 178 → f2 i = f i) (hg : ∀ i, i < 178 → g2 i = g i) (hR : zRel f g r) : zRel f2 g2 r := by
  obtain ⟨⟨c1, c2, c3, c4, c5, c6, c7, c8, c9, c10, c11⟩, c12, c13, c14, c15, c16⟩ := hR
  refine ⟨⟨?_, ?_, ?_, ?_, ?_, ?_, ?_, ?_, ?_, ?_, ?_⟩, ?_, ?_, ?_, ?_, ?_⟩
  · rw [h 27 (by omega), h 28 (by omega)]; exact c1
  · rw [h 25 (by omega), h 26 (by omega)]; exact c2
  · rw [h 29 (by omega), h 30 (by omega)]; exact c3
  · rw [h 31 (by omega), h 32 (by omega)]; exact c4
  · rw [h 24 (by omega)]; exact c5
  · rw [h 13 (by omega), h 14 (by omega), h 15 (by omega), h 16 (by omega), h 17 (by omega), h 18 (by omega)]; exact c6
  · rw [h 20 (by omega), h 21 (by omega)]; exact c7
  · rw [h 22 (by omega), h 23 (by omega)]; exact c8
  · rw [h 2 (by omega), h 3 (by omega), h 4 (by omega), h 5 (by omega), h 6 (by omega), h 7 (by omega), h 8 (by omega), h 9 (by omega), h 10 (by omega)]; exact c9
  · rw [hg 2 (by omega), h 1 (by omega)]; exact c10
  · rw [h 11 (by omega), h 12 (by omega)]; exact c11
  · rw [h 65 (by omega), h 66 (by omega)]; exact c12
  · rw [h 70 (by omega)]; exact c13
  · exact zPas_frame (fun i _ _ => h i (by omega)) (by rw [h 11 (by omega)]) (fun i _ _ => by rw [hg i (by omega)]) (by rw [hg 2 (by omega)]) rfl rfl rfl rfl c14
  · exact zIma_frame (by rw [h 0 (by omega)]) (fun i _ _ => h i (by omega)) (by rw [hg 34 (by omega)]) rfl rfl c15
  · rw [h 147 (by omega), h 158 (by omega)]; exact c16
/-- a call of both, one behind the other -/
theorem zOp_one {X : Nat × (Nat → Int32)} {d a b : Nat} {As : List Value} (h : zOp X d a b As) (hA : ∀ q, ¬ Value.ref q ∈ As) {f : Nat → Nat → Int32} {g : Nat → Nat → Int64} (hR : zRel f g f) {K : Int32 → Int32 → (Nat → Nat → Int32) → (Nat → Nat → Int64) → Prop} (hK : ∀ r f2 g2, zRel f2 g2 f2 → K r r f2 g2) : zCpi X d a (.ref 0 :: As) (zs f g) (fun r f1 g1 => zCpi X d b (.ref 178 :: As) (zs f1 g1) (fun r' f2 g2 => K r r' f2 g2)) := by
  obtain ⟨n, v, f1, g1, h1, -⟩ := zCpi_ex (h f f g g hR)
  have a1 : zRf zD1 (.ref 0 :: As) := zRf_r (Or.inl (by decide)) (fun q hq => absurd hq (hA q))
  have a2 : zRf zD2 (.ref 178 :: As) := zRf_r (Or.inl (by decide)) (fun q hq => absurd hq (hA q))
  have fr1 := (zrun_frm zD1_ok d n a _ _ _ rfl a1 h1).2.2
  have hR1 : zRel f g f1 := zRel_ref (fun i i1 i2 => (fr1 i (decide_eq_false (by omega))).1) hR
  obtain ⟨m, v', f1', g1', h1', z⟩ := zCpi_ex (h f f1 g g1 hR1)
  obtain ⟨e1, e2, e3⟩ := zrun_one h1 h1'
  subst e1
  subst e2
  subst e3
  obtain ⟨p, w, f2, g2, h2, hw, hR2⟩ := zCpi_ex z
  have fr2 := (zrun_frm zD2_ok d p b _ _ _ rfl a2 h2).2.2
  have hd2 : ∀ i, i < 178 → zD2 i = false := fun i hi => by
    unfold zD2
    rw [decide_eq_false (show ¬ 178 ≤ i by omega)]
    rfl
  have hR3 : zRel f2 g2 f2 := zRel_cls (fun i hi => (fr2 i (hd2 i hi)).1) (fun i hi => (fr2 i (hd2 i hi)).2) hR2
  have ew : w = v' := hw
  subst ew
  exact zCpi_mk h1 (zCpi_mk h2 (hK _ _ _ hR3))

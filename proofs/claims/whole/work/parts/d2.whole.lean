/-- where the script and what the constants are made of lie -/
def zaX (b a0 a1 v0 v1 t : Nat) (i : Nat) : Nat := if i = 7777 then b else if i = 5000 then a0 else if i = 5001 then a1 else if i = 5010 then v0 else if i = 5011 then v1 else t
theorem whole_start {p : Program} {e : Env} {s : State} {m : MethodId} {below : List Frame} {meth : Method} {c : Code} (l : Launch) (hflags : l.flags = flags0) {b L : Nat} {xs : Nat → Int32} (hL : L ≤ 3072) (C0 : lw_At p s m meth c b L xs) : W p l e room_1 s m #[Value.ref b] below meth c s.heap [] 0 0 (lw_Z below #[Value.ref b] s) (entryFrame m ([Value.ref b] : List Value).toArray 4) := by
  obtain ⟨hx, hb, hr, hml, hown, hts, hX, hbl, hlocks, hgv⟩ := id C0
  have hA : ∀ a : Nat, a < s.heap.size → ¬ zA s.heap.size a := fun a h z => absurd (Nat.lt_of_lt_of_le h z) (Nat.lt_irrefl a)
  obtain ⟨a0, v0, p0, p1, p2, p3, p4⟩ := zstr_at (A := zA s.heap.size) hgv (k := 52) (i := 5000) (Or.inl rfl) zsWd_0 hA
  obtain ⟨a1, v1, r0, r1, r2, r3, r4⟩ := zstr_at (A := zA s.heap.size) hgv (k := 59) (i := 5001) (Or.inr rfl) zsWd_1 hA
  have hcs : va_Z "java/lang/String" "COMPACT_STRINGS" "Z" (.int 1) (zA s.heap.size) s s.heap := va_Zof (hts _ zj_lay_cs) (hts _ (zT_in zj_ini_S)) (va_eqt (zFl_of hgv zcs_ok)) hA
  have hfq : va_Zq "jdk/internal/util/Preconditions" "SIOOBE_FORMATTER" "Ljava/util/function/BiFunction;" (zA s.heap.size) s s.heap := va_Zqof (hts _ zj_lay_fm) (hts _ (zT_in zj_ini_P)) (zFl_of hgv zfm_ok) hA
  obtain ⟨fm, t, hfm, hft⟩ : ∃ (fm : Value) (t : Nat), (fm = .null ∨ fm = .ref 5004) ∧ va_Z "jdk/internal/util/Preconditions" "SIOOBE_FORMATTER" "Ljava/util/function/BiFunction;" (zcv (zaX b a0 a1 v0 v1 t) fm) (zA s.heap.size) s s.heap := by
    rcases hfq with h | ⟨t, h⟩
    · exact ⟨.null, 0, Or.inl rfl, h⟩
    · exact ⟨.ref 5004, t, Or.inr rfl, h⟩
  have hKT : zKT (zaX b a0 a1 v0 v1 t) fm s.heap.size s := by
    refine ⟨hcs, hft, fun i hi => ?_⟩
    rcases hi with rfl | rfl
    · exact ⟨p1, p2, p3, p4⟩
    · exact ⟨r1, r2, r3, r4⟩
  have hKR : zKR (zaX b a0 a1 v0 v1 t) s := by
    intro q hq
    rcases List.mem_cons.mp hq with rfl | hq
    · exact ⟨_, vk_R.of (hts _ zj_str_0) p0⟩
    · rcases List.mem_cons.mp hq with rfl | hq
      · exact ⟨_, vk_R.of (hts _ zj_str_1) r0⟩
      · cases hq
  exact zwhole_open zP_w (fun a M h => zP_chk h) (zP_chk (a := 290) rfl) zAll_ok l hL C0 (KT := fun U => zKT (zaX b a0 a1 v0 v1 t) fm s.heap.size U ∧ zKR (zaX b a0 a1 v0 v1 t) U) (adX := zaX b a0 a1 v0 v1 t) rfl ⟨hKT, hKR⟩ (fun s1 U h hW hq => ⟨zKT_st s1 U h.1 hW hq, zKR_st s1 U h.2 hW hq⟩) (fun U h => h.2) (fun U i h hi => zKT_rcv h.1 hi)
    (fun dC dI cI cR => zstr2 (fun s1 U h hW hq => ⟨zKX_st hbl s1 U h.1 hW hq, zKT_st s1 U h.2.1 hW hq, zKR_st s1 U h.2.2 hW hq⟩) (fun U h => h.2.1) hfm)

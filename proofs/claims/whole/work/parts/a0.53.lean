theorem zlpv : (k2_sels lw_privs).length = 124 := by decide +kernel
theorem zlnt_1 : tables_1_1.length = 240 := by decide +kernel
theorem zlnt_2 : tables_1_2.length = 240 := by decide +kernel
theorem zlnt_3 : tables_1_3.length = 240 := by decide +kernel
theorem zlnt_4 : tables_1_4.length = 240 := by decide +kernel
theorem zlnt_5 : tables_1_5.length = 240 := by decide +kernel
theorem zt161c : lw_tbl[1299]? = some (.code zm161.2.1 zm161.2.2.1 zm161.2.2.2.1 zm161.2.2.2.2.1) := by
  unfold lw_tbl tables_1
  rw [List.getElem?_append_right (by rw [zlpv]; decide), zlpv, List.getElem?_append_right (by rw [zlnt_1]; decide), zlnt_1, List.getElem?_append_right (by rw [zlnt_2]; decide), zlnt_2, List.getElem?_append_right (by rw [zlnt_3]; decide), zlnt_3, List.getElem?_append_right (by rw [zlnt_4]; decide), zlnt_4, List.getElem?_append_left (by rw [zlnt_5]; decide)]
  rfl
theorem zw161 : zmw zm161 (1299, 2, 1298, 0, 138) = true := by
  unfold zmw
  rw [Bool.and_eq_true_iff, Bool.and_eq_true_iff, Bool.and_eq_true_iff, Bool.and_eq_true_iff, Bool.and_eq_true_iff, Bool.and_eq_true_iff, Bool.and_eq_true_iff]
  refine ⟨⟨⟨⟨⟨⟨⟨?_, ?_⟩, ?_⟩, ?_⟩, ?_⟩, ?_⟩, ?_⟩, ?_⟩
  · unfold zat
    rw [Bool.and_eq_true_iff]
    exact ⟨decide_eq_true zt161c, by decide +kernel⟩
  all_goals decide +kernel

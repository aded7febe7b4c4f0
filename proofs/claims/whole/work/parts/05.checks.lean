def zsb (i : Nat) : List Nat := if i = 5000 then [59, 43, 45, 42, 47, 40, 41, 60, 61, 62] else if i = 5001 then [104, 101, 97, 114, 115, 32, 115, 108, 105, 112, 115, 32, 98, 101, 110, 100, 115, 32, 119, 104, 101, 110, 32, 111, 114, 32, 97, 110, 100, 32, 110, 111, 116, 32, 108, 111, 117, 100, 32, 101, 97, 114, 32, 102, 97, 114, 32, 112, 105, 108, 108, 97, 114, 115, 32, 111, 102, 102, 32, 110, 111, 116, 101, 32, 119, 114, 111, 110, 103, 32, 115, 111, 117, 110, 100, 105, 110, 103, 32, 98, 101, 97, 116, 32, 97, 116, 32, 112, 108, 97, 121, 101, 114, 32, 115, 101, 97, 116, 32, 116, 117, 110, 101, 32, 104, 117, 115, 104, 32, 112, 105, 108, 108, 97, 114, 32] else []
def zix : List Nat → Int32 → Nat → Int32
  | [], _, _ => -1
  | c :: t, x, k => if Int32.ofNat c = x then Int32.ofNat k else zix t x (k + 1)
def zstr (a : Nat) (As : List Value) : Option Value := match As with
  | [.ref s] => if a = 9001 then some (.int (Int32.ofNat (zsb s).length)) else none
  | [.ref s, .int x] => if a = 9002 then (if x < 0 ∨ (zsb s).length ≤ x.toNatClampNeg then none else some (.int (Int32.ofNat ((zsb s).getD x.toNatClampNeg 0)))) else if a = 9003 then some (.int (zix (zsb s) x 0)) else none
  | _ => none
def zrun (X : Nat × (Nat → Int32)) : Nat → Nat → Nat → List Value → zSt → zRes
  | 0, _, _, _, _ => none
  | d + 1, n, a, As, S => if 9000 ≤ a then (match zstr a As with
      | some v => some (some v, S)
      | none => none) else if 290 ≤ a then none else match zP a with
    | none => none
    | some M => if (zini As).length ≤ M.2.2.2.1 then zstp X (zrun X d n) M n 0 (zpad M.2.2.2.1 (zini As)) [] S else none
/-- the good words of the tables -/
def zT : List Cond := lw_tbl.filter goodWord
def zat (p : Nat) (c : Cond) : Bool := decide (lw_tbl[p]? = some c) && goodWord c
theorem zat_ok {p : Nat} {c : Cond} (h : zat p c = true) : c ∈ zT := by
  simp only [zat, Bool.and_eq_true, decide_eq_true_eq] at h
  exact List.mem_filter.mpr ⟨List.mem_of_getElem? h.1, h.2⟩
def zat0 (p : Nat) (c : Cond) : Bool := decide (lw_tbl[p]? = some c)
theorem zat0_ok {p : Nat} {c : Cond} (h : zat0 p c = true) : c ∈ lw_tbl := List.mem_of_getElem? (of_decide_eq_true h)
theorem zT_in {c : Cond} (h : c ∈ zT) : c ∈ lw_tbl := (List.mem_filter.mp h).1
theorem zT_good {c : Cond} (h : c ∈ zT) : (c.onTables && c.keeps) = true ∨ ∃ ty, c = .arrayClass ty := good_of_word (List.mem_filter.mp h).2
def zC (i : Nat) : vw_C := match i with
  | 0 => (RX0, TX0, 2)
  | 1 => (RX1, TX1, 5)
  | 2 => (RX2, TX2, 13)
  | 3 => (RX3, TX3, 8)
  | 4 => (RX4, TX4, 4)
  | 5 => (RX5, TX5, 9)
  | 6 => (RX6, TX6, 2)
  | 7 => (RX7, TX7, 2)
  | 8 => (RX8, TX8, 6)
  | 9 => (RX9, TX9, 8)
  | 10 => (RX10, TX10, 11)
  | 11 => (RX11, TX11, 10)
  | _ => (RX12, TX12, 60)
def zty (i : Nat) : Nat → FieldType := match i with
  | 0 => tyX0
  | 1 => tyX1
  | 2 => tyX2
  | 3 => tyX3
  | 4 => tyX4
  | 5 => tyX5
  | 6 => tyX6
  | 7 => tyX7
  | 8 => tyX8
  | 9 => tyX9
  | 10 => tyX10
  | 11 => tyX11
  | _ => tyX12
theorem zC_at (i : Nat) (h : i < 13) : vwCl[i]? = some (zC i) := by
  match i, h with
  | 0, _ => rfl
  | 1, _ => rfl
  | 2, _ => rfl
  | 3, _ => rfl
  | 4, _ => rfl
  | 5, _ => rfl
  | 6, _ => rfl
  | 7, _ => rfl
  | 8, _ => rfl
  | 9, _ => rfl
  | 10, _ => rfl
  | 11, _ => rfl
  | 12, _ => rfl
  | n + 13, h => omega
theorem zC_ty (i : Nat) (h : i < 13) : ∀ k, k < (zC i).2.2 → parseFieldDescriptor ((zC i).2.1 k).2.2.1 = some (zty i k) := by
  match i, h with
  | 0, _ => exact tyX0_ok
  | 1, _ => exact tyX1_ok
  | 2, _ => exact tyX2_ok
  | 3, _ => exact tyX3_ok
  | 4, _ => exact tyX4_ok
  | 5, _ => exact tyX5_ok
  | 6, _ => exact tyX6_ok
  | 7, _ => exact tyX7_ok
  | 8, _ => exact tyX8_ok
  | 9, _ => exact tyX9_ok
  | 10, _ => exact tyX10_ok
  | 11, _ => exact tyX11_ok
  | 12, _ => exact tyX12_ok
  | n + 13, h => omega
theorem zC_nm (i : Nat) (h : i < 13) : ∀ a, a < (zC i).2.2 → ∀ b, b < (zC i).2.2 → a ≠ b → ((zC i).2.1 a).2.1 ≠ ((zC i).2.1 b).2.1 := by
  match i, h with
  | 0, _ => exact nmX0
  | 1, _ => exact nmX1
  | 2, _ => exact nmX2
  | 3, _ => exact nmX3
  | 4, _ => exact nmX4
  | 5, _ => exact nmX5
  | 6, _ => exact nmX6
  | 7, _ => exact nmX7
  | 8, _ => exact nmX8
  | 9, _ => exact nmX9
  | 10, _ => exact nmX10
  | 11, _ => exact nmX11
  | 12, _ => exact nmX12
  | n + 13, h => omega
def zly0 : List Nat := [242, 244]
theorem zly0_ok : ∀ c ∈ u_ws RX0 TX0 2, c ∈ zT := by
  have h : (List.range 2).all (fun k => zat (zly0.getD k 0) (u_lay RX0 TX0 k)) = true := by decide +kernel
  intro c hc
  obtain ⟨k, hk, rfl⟩ := List.mem_map.mp hc
  exact zat_ok (List.all_eq_true.mp h k hk)
def zly1 : List Nat := [471, 473, 475, 477, 479]
theorem zly1_ok : ∀ c ∈ u_ws RX1 TX1 5, c ∈ zT := by
  have h : (List.range 5).all (fun k => zat (zly1.getD k 0) (u_lay RX1 TX1 k)) = true := by decide +kernel
  intro c hc
  obtain ⟨k, hk, rfl⟩ := List.mem_map.mp hc
  exact zat_ok (List.all_eq_true.mp h k hk)
def zly2 : List Nat := [204, 206, 208, 210, 212, 214, 216, 218, 220, 222, 224, 226, 228]
theorem zly2_ok : ∀ c ∈ u_ws RX2 TX2 13, c ∈ zT := by
  have h : (List.range 13).all (fun k => zat (zly2.getD k 0) (u_lay RX2 TX2 k)) = true := by decide +kernel
  intro c hc
  obtain ⟨k, hk, rfl⟩ := List.mem_map.mp hc
  exact zat_ok (List.all_eq_true.mp h k hk)
def zly3 : List Nat := [262, 264, 266, 268, 270, 272, 274, 276]
theorem zly3_ok : ∀ c ∈ u_ws RX3 TX3 8, c ∈ zT := by
  have h : (List.range 8).all (fun k => zat (zly3.getD k 0) (u_lay RX3 TX3 k)) = true := by decide +kernel
  intro c hc
  obtain ⟨k, hk, rfl⟩ := List.mem_map.mp hc
  exact zat_ok (List.all_eq_true.mp h k hk)
def zly4 : List Nat := [447, 449, 451, 453]
theorem zly4_ok : ∀ c ∈ u_ws RX4 TX4 4, c ∈ zT := by
  have h : (List.range 4).all (fun k => zat (zly4.getD k 0) (u_lay RX4 TX4 k)) = true := by decide +kernel
  intro c hc
  obtain ⟨k, hk, rfl⟩ := List.mem_map.mp hc
  exact zat_ok (List.all_eq_true.mp h k hk)
def zly5 : List Nat := [414, 416, 418, 420, 422, 424, 426, 428, 430]
theorem zly5_ok : ∀ c ∈ u_ws RX5 TX5 9, c ∈ zT := by
  have h : (List.range 9).all (fun k => zat (zly5.getD k 0) (u_lay RX5 TX5 k)) = true := by decide +kernel
  intro c hc
  obtain ⟨k, hk, rfl⟩ := List.mem_map.mp hc
  exact zat_ok (List.all_eq_true.mp h k hk)
def zly6 : List Nat := [307, 309]
theorem zly6_ok : ∀ c ∈ u_ws RX6 TX6 2, c ∈ zT := by
  have h : (List.range 2).all (fun k => zat (zly6.getD k 0) (u_lay RX6 TX6 k)) = true := by decide +kernel
  intro c hc
  obtain ⟨k, hk, rfl⟩ := List.mem_map.mp hc
  exact zat_ok (List.all_eq_true.mp h k hk)
def zly7 : List Nat := [289, 291]
theorem zly7_ok : ∀ c ∈ u_ws RX7 TX7 2, c ∈ zT := by
  have h : (List.range 2).all (fun k => zat (zly7.getD k 0) (u_lay RX7 TX7 k)) = true := by decide +kernel
  intro c hc
  obtain ⟨k, hk, rfl⟩ := List.mem_map.mp hc
  exact zat_ok (List.all_eq_true.mp h k hk)
def zly8 : List Nat := [377, 379, 381, 383, 385, 387]
theorem zly8_ok : ∀ c ∈ u_ws RX8 TX8 6, c ∈ zT := by
  have h : (List.range 6).all (fun k => zat (zly8.getD k 0) (u_lay RX8 TX8 k)) = true := by decide +kernel
  intro c hc
  obtain ⟨k, hk, rfl⟩ := List.mem_map.mp hc
  exact zat_ok (List.all_eq_true.mp h k hk)
def zly9 : List Nat := [496, 498, 500, 502, 504, 506, 508, 510]
theorem zly9_ok : ∀ c ∈ u_ws RX9 TX9 8, c ∈ zT := by
  have h : (List.range 8).all (fun k => zat (zly9.getD k 0) (u_lay RX9 TX9 k)) = true := by decide +kernel
  intro c hc
  obtain ⟨k, hk, rfl⟩ := List.mem_map.mp hc
  exact zat_ok (List.all_eq_true.mp h k hk)
def zly10 : List Nat := [338, 340, 342, 344, 346, 348, 350, 352, 354, 356, 358]
theorem zly10_ok : ∀ c ∈ u_ws RX10 TX10 11, c ∈ zT := by
  have h : (List.range 11).all (fun k => zat (zly10.getD k 0) (u_lay RX10 TX10 k)) = true := by decide +kernel
  intro c hc
  obtain ⟨k, hk, rfl⟩ := List.mem_map.mp hc
  exact zat_ok (List.all_eq_true.mp h k hk)
def zly11 : List Nat := [523, 525, 527, 529, 531, 533, 535, 537, 539, 541]
theorem zly11_ok : ∀ c ∈ u_ws RX11 TX11 10, c ∈ zT := by
  have h : (List.range 10).all (fun k => zat (zly11.getD k 0) (u_lay RX11 TX11 k)) = true := by decide +kernel
  intro c hc
  obtain ⟨k, hk, rfl⟩ := List.mem_map.mp hc
  exact zat_ok (List.all_eq_true.mp h k hk)
def zly12 : List Nat := [1361, 1363, 1365, 1367, 1369, 1371, 1373, 1375, 1377, 1379, 1381, 1383, 1385, 1387, 1389, 1391, 1393, 1395, 1397, 1399, 1401, 1403, 1405, 1407, 1409, 1411, 1413, 1415, 1417, 1419, 1421, 1423, 1425, 1427, 1429, 1431, 1433, 1435, 1437, 1439, 1441, 1443, 1445, 1447, 1449, 1451, 1453, 1455, 1457, 1459, 1461, 1463, 1465, 1467, 1469, 1471, 1473, 1475, 1477, 1479]
theorem zly12_ok : ∀ c ∈ u_ws RX12 TX12 60, c ∈ zT := by
  have h : (List.range 60).all (fun k => zat (zly12.getD k 0) (u_lay RX12 TX12 k)) = true := by decide +kernel
  intro c hc
  obtain ⟨k, hk, rfl⟩ := List.mem_map.mp hc
  exact zat_ok (List.all_eq_true.mp h k hk)
theorem zC_ws (i : Nat) (h : i < 13) : ∀ c ∈ u_ws (zC i).1 (zC i).2.1 (zC i).2.2, c ∈ zT := by
  match i, h with
  | 0, _ => exact zly0_ok
  | 1, _ => exact zly1_ok
  | 2, _ => exact zly2_ok
  | 3, _ => exact zly3_ok
  | 4, _ => exact zly4_ok
  | 5, _ => exact zly5_ok
  | 6, _ => exact zly6_ok
  | 7, _ => exact zly7_ok
  | 8, _ => exact zly8_ok
  | 9, _ => exact zly9_ok
  | 10, _ => exact zly10_ok
  | 11, _ => exact zly11_ok
  | 12, _ => exact zly12_ok
  | n + 13, h => omega
def zip : List (Nat × Nat) := [(233, 128), (459, 136), (162, 127), (248, 129), (434, 135), (391, 134), (295, 131), (280, 130), (362, 133), (483, 137), (156, 126), (148, 125), (1296, 138)]
theorem zip_ok : (List.range 13).all (fun i => zat (zip.getD i (0, 0)).1 (.instantiable (zC i).1 (zC i).2.2) && zat (zip.getD i (0, 0)).2 (.initialized (zC i).1)) = true := by decide +kernel
theorem zC_inst (i : Nat) (h : i < 13) : Cond.instantiable (zC i).1 (zC i).2.2 ∈ zT ∧ Cond.initialized (zC i).1 ∈ zT := by
  have h1 := List.all_eq_true.mp zip_ok i (List.mem_range.mpr h)
  simp only [Bool.and_eq_true] at h1
  exact ⟨zat_ok h1.1, zat_ok h1.2⟩
theorem zR_C (i : Nat) (h : i < 13) : (zC i).1 = zR i := by
  match i, h with
  | 0, _ => rfl
  | 1, _ => rfl
  | 2, _ => rfl
  | 3, _ => rfl
  | 4, _ => rfl
  | 5, _ => rfl
  | 6, _ => rfl
  | 7, _ => rfl
  | 8, _ => rfl
  | 9, _ => rfl
  | 10, _ => rfl
  | 11, _ => rfl
  | 12, _ => rfl
  | n + 13, h => omega
theorem zFL_ok : zFL.all (fun q => decide (q.2.2.1 < 13) && decide (q.2.2.2.1 < (zC q.2.2.1).2.2) && zat q.2.2.2.2 (.fieldLink (zR q.1) q.2.1 ((zC q.2.2.1).2.1 q.2.2.2.1).1 ((zC q.2.2.1).2.1 q.2.2.2.1).2.1 ((zC q.2.2.1).2.1 q.2.2.2.1).2.2.1)) = true := by decide +kernel
theorem zFN_ok : zFN.all (fun q => decide (q.2.2.1 < 13) && decide (q.2.2.2.1 < (zC q.2.2.1).2.2) && zat0 q.2.2.2.2 (.fieldLinkNest (zR q.1) q.2.1 ((zC q.2.2.1).2.1 q.2.2.2.1).1 ((zC q.2.2.1).2.1 q.2.2.2.1).2.1 ((zC q.2.2.1).2.1 q.2.2.2.1).2.2.1 "HearsayOrchestra")) = true := by decide +kernel
theorem zNL_ok : zNL.all (fun q => decide (q.2.2.1 < 13) && zat q.2.2.2 (.classLink (zR q.1) q.2.1 (zC q.2.2.1).1)) = true := by decide +kernel
theorem zQL_ok : zQL.all (fun q => decide (q.2.2.1 = 2) && zat q.2.2.2 (.classLink (zR q.1) q.2.1 RX2)) = true := by decide +kernel
theorem zCL_ok : zCL.all (fun q => zat q.2.2.2 (.constant (zR q.1) q.2.1 (Int32.ofNat q.2.2.1))) = true := by decide +kernel
theorem zLL_ok : zLL.all (fun q => zat q.2.2.2 (.constantLong (zR q.1) q.2.1 (Int64.ofNat q.2.2.1))) = true := by decide +kernel
theorem zOL_ok : zOL.all (fun q => zat q.2.2 (.methodLink (zR q.1) q.2.1 Lib.objectInit)) = true := by decide +kernel
theorem zAL_ok : zAL.all (fun q => zat q.2.2 (.methodLink (zR q.1) q.2.1 arraycopyName)) = true := by decide +kernel
theorem zoi_ok : Cond.instanceMethod Lib.objectInit ∈ zT ∧ Cond.code Lib.objectInit ⟨#[0xb1]⟩ 1 none ∈ zT := ⟨zat_ok (p := 153) (by decide +kernel), zat_ok (p := 154) (by decide +kernel)⟩
theorem zac_ok : Cond.native arraycopyName ∈ zT ∧ Cond.static arraycopyName ∈ zT ∧ Cond.initialized "java/lang/System" ∈ zT := ⟨zat_ok (p := 604) (by decide +kernel), zat_ok (p := 603) (by decide +kernel), zat_ok (p := 139) (by decide +kernel)⟩
theorem zia_ok : Cond.arrayClass FieldType.int ∈ zT := zat_ok (p := 231) (by decide +kernel)
theorem zao_ok : Cond.arrayOver (FieldType.object RX2) ∈ lw_tbl := List.mem_of_getElem? (i := 440) (by decide +kernel)
def zMp : List (List (Option (Nat × Nat × Nat × Nat × Nat))) := [[some (236, 2, 235, 0, 128), some (732, 0, 730, 731, 128), some (1030, 0, 1028, 1029, 128), some (1277, 0, 1275, 1276, 128), some (462, 2, 461, 0, 136), some (615, 0, 613, 614, 136), some (619, 0, 618, 1, 136), some (628, 0, 627, 2, 136), some (633, 0, 631, 632, 136), some (656, 0, 655, 3, 136), some (665, 0, 663, 664, 136), some (669, 0, 667, 668, 136), some (712, 0, 711, 6, 136), some (718, 0, 717, 7, 136), some (728, 0, 727, 8, 136), some (165, 2, 164, 0, 127)],
  [some (562, 0, 560, 561, 127), some (569, 0, 567, 568, 127), some (573, 0, 571, 572, 127), some (577, 0, 575, 576, 127), some (585, 0, 583, 584, 127), some (601, 0, 599, 600, 127), some (638, 0, 636, 637, 127), some (642, 0, 640, 641, 127), some (646, 0, 644, 645, 127), some (673, 0, 671, 672, 127), some (680, 0, 679, 4, 127), some (722, 0, 720, 721, 127), some (736, 0, 734, 735, 127), some (1040, 0, 1038, 1039, 127), some (1044, 0, 1042, 1043, 127), some (251, 2, 250, 0, 129)],
  [some (692, 0, 690, 691, 129), some (696, 0, 695, 5, 129), some (700, 1, 699, 0, 129), some (703, 1, 702, 0, 129), some (708, 1, 707, 0, 129), some (761, 0, 759, 760, 129), some (916, 0, 914, 915, 129), some (932, 0, 930, 931, 129), some (940, 0, 938, 939, 129), some (956, 0, 954, 955, 129), some (994, 0, 992, 993, 129), some (437, 2, 436, 0, 135), some (551, 0, 549, 550, 135), some (597, 0, 595, 596, 135), some (1264, 0, 1262, 1263, 135), some (394, 2, 393, 0, 134)],
  [some (756, 0, 754, 755, 134), some (904, 1, 903, 0, 134), some (908, 0, 907, 13, 134), some (912, 0, 911, 14, 134), some (920, 0, 919, 15, 134), some (924, 0, 923, 16, 134), some (936, 0, 935, 17, 134), some (944, 0, 943, 18, 134), some (948, 0, 947, 19, 134), some (952, 0, 951, 20, 134), some (960, 0, 959, 21, 134), some (964, 0, 963, 22, 134), some (968, 0, 967, 23, 134), some (972, 0, 971, 24, 134), some (981, 0, 980, 25, 134), some (985, 0, 984, 26, 134)],
  [some (989, 0, 988, 27, 134), some (298, 2, 297, 0, 131), some (1124, 0, 1122, 1123, 131), some (1128, 0, 1126, 1127, 131), some (1142, 0, 1140, 1141, 131), some (1285, 0, 1283, 1284, 131), some (283, 2, 282, 0, 130), some (623, 0, 621, 622, 130), some (660, 0, 658, 659, 130), some (765, 0, 763, 764, 130), some (976, 0, 974, 975, 130), some (999, 0, 997, 998, 130), some (365, 2, 364, 0, 133), some (744, 0, 742, 743, 133), some (769, 0, 767, 768, 133), some (773, 0, 772, 9, 133)],
  [some (776, 1, 775, 0, 133), some (780, 1, 779, 0, 133), some (784, 0, 783, 10, 133), some (788, 0, 787, 11, 133), some (841, 0, 840, 12, 133), some (901, 0, 899, 900, 133), some (928, 0, 926, 927, 133), some (486, 2, 485, 0, 137), some (1060, 0, 1058, 1059, 137), some (1065, 0, 1064, 30, 137), some (1069, 0, 1067, 1068, 137), some (1073, 0, 1071, 1072, 137), some (1086, 0, 1084, 1085, 137), some (1090, 0, 1089, 31, 137), some (1094, 0, 1093, 32, 137), some (1098, 0, 1097, 33, 137)],
  [some (1101, 1, 1100, 0, 137), some (1108, 1, 1107, 0, 137), some (1111, 1, 1110, 0, 137), some (1115, 1, 1114, 0, 137), some (1135, 1, 1134, 0, 137), some (1138, 1, 1137, 0, 137), some (1157, 1, 1156, 0, 137), some (1160, 1, 1159, 0, 137), some (1170, 1, 1169, 0, 137), some (1173, 1, 1172, 0, 137), some (1181, 0, 1179, 1180, 137), some (1185, 0, 1183, 1184, 137), some (1189, 0, 1187, 1188, 137), some (1201, 0, 1199, 1200, 137), some (1205, 0, 1204, 34, 137), some (1218, 0, 1216, 1217, 137)],
  [some (1223, 0, 1222, 35, 137), some (1231, 0, 1229, 1230, 137), some (1235, 0, 1233, 1234, 137), some (1242, 1, 1241, 0, 137), some (1250, 1, 1249, 0, 137), some (1253, 1, 1252, 0, 137), some (1256, 1, 1255, 0, 137), some (159, 2, 158, 0, 126), some (1272, 0, 1270, 1271, 126), some (151, 2, 150, 0, 125), some (547, 0, 545, 546, 125), some (555, 0, 553, 554, 125), some (558, 1, 557, 0, 125), some (565, 1, 564, 0, 125), some (581, 0, 579, 580, 125), some (589, 0, 587, 588, 125)],
  [some (593, 0, 592, 0, 125), some (611, 0, 609, 610, 125), some (740, 0, 738, 739, 125), some (748, 0, 746, 747, 125), some (752, 0, 750, 751, 125), some (1004, 0, 1002, 1003, 125), some (1008, 0, 1006, 1007, 125), some (1012, 0, 1011, 28, 125), some (1019, 0, 1017, 1018, 125), some (1026, 0, 1024, 1025, 125), some (1034, 0, 1032, 1033, 125), some (1048, 0, 1046, 1047, 125), some (1052, 0, 1050, 1051, 125), some (1056, 0, 1055, 29, 125), some (1078, 0, 1076, 1077, 125), some (1082, 0, 1080, 1081, 125)],
  [some (1105, 0, 1103, 1104, 125), some (1120, 0, 1118, 1119, 125), some (1132, 0, 1130, 1131, 125), some (1150, 0, 1148, 1149, 125), some (1154, 0, 1152, 1153, 125), some (1167, 0, 1165, 1166, 125), some (1177, 0, 1175, 1176, 125), some (1193, 0, 1191, 1192, 125), some (1197, 0, 1195, 1196, 125), some (1210, 0, 1208, 1209, 125), some (1214, 0, 1212, 1213, 125), some (1227, 0, 1225, 1226, 125), some (1239, 0, 1237, 1238, 125), some (1246, 0, 1244, 1245, 125), some (1260, 0, 1258, 1259, 125), some (1268, 0, 1266, 1267, 125)],
  [some (1291, 0, 1289, 1290, 125), some (1299, 2, 1298, 0, 138), some (1485, 0, 1483, 1484, 138), some (1489, 0, 1487, 1488, 138), some (1493, 0, 1491, 1492, 138), some (1497, 0, 1496, 36, 138), some (1501, 0, 1500, 37, 138), some (1505, 0, 1504, 38, 138), some (1509, 0, 1507, 1508, 138), some (1513, 0, 1512, 39, 138), some (1517, 0, 1515, 1516, 138), some (1521, 0, 1520, 40, 138), some (1525, 0, 1523, 1524, 138), some (1529, 0, 1527, 1528, 138), some (1533, 0, 1532, 41, 138), some (1537, 0, 1536, 42, 138)],
  [some (1541, 0, 1540, 43, 138), some (1545, 0, 1544, 44, 138), some (1549, 0, 1548, 45, 138), some (1553, 0, 1552, 46, 138), some (1557, 0, 1556, 47, 138), some (1561, 0, 1560, 48, 138), some (1565, 0, 1564, 49, 138), some (1569, 0, 1568, 50, 138), some (1573, 0, 1572, 51, 138), some (1577, 0, 1576, 52, 138), some (1581, 0, 1580, 53, 138), some (1585, 0, 1584, 54, 138), some (1589, 0, 1588, 55, 138), some (1593, 0, 1592, 56, 138), some (1597, 0, 1596, 57, 138), some (1601, 0, 1600, 58, 138)],
  [some (1605, 0, 1604, 59, 138), some (1609, 0, 1608, 60, 138), some (1613, 0, 1612, 61, 138), some (1617, 0, 1616, 62, 138), some (1621, 0, 1620, 63, 138), some (1625, 0, 1624, 64, 138), some (1629, 0, 1628, 65, 138), some (1633, 0, 1632, 66, 138), some (1637, 0, 1636, 67, 138), some (1641, 0, 1640, 68, 138), some (1645, 0, 1644, 69, 138), some (1649, 0, 1648, 70, 138), some (1653, 0, 1652, 71, 138), some (1657, 0, 1656, 72, 138), some (1661, 0, 1660, 73, 138), some (1665, 0, 1664, 74, 138)],
  [some (1669, 0, 1667, 1668, 138), some (1673, 0, 1671, 1672, 138), some (1677, 0, 1676, 75, 138), some (1681, 0, 1680, 76, 138), some (1685, 0, 1684, 77, 138), some (1689, 0, 1688, 78, 138), some (1693, 0, 1692, 79, 138), some (1697, 0, 1696, 80, 138), some (1701, 0, 1700, 81, 138), some (1705, 0, 1704, 82, 138), some (1709, 0, 1708, 83, 138), some (1713, 0, 1712, 84, 138), some (1717, 0, 1716, 85, 138), some (1721, 0, 1720, 86, 138), some (1725, 0, 1724, 87, 138), some (1729, 0, 1728, 88, 138)],
  [some (1733, 0, 1732, 89, 138), some (1737, 0, 1736, 90, 138), some (1741, 0, 1740, 91, 138), some (1745, 0, 1744, 92, 138), some (1749, 0, 1748, 93, 138), some (1753, 0, 1752, 94, 138), some (1757, 0, 1756, 95, 138), some (1761, 0, 1760, 96, 138), some (1765, 0, 1764, 97, 138), some (1769, 0, 1768, 98, 138), some (1775, 0, 1774, 99, 138), some (1779, 0, 1778, 100, 138), some (1783, 0, 1782, 101, 138), some (1787, 0, 1786, 102, 138), some (1791, 0, 1790, 103, 138), some (1795, 0, 1793, 1794, 138)],
  [some (1799, 0, 1798, 104, 138), some (1803, 0, 1801, 1802, 138), some (1807, 0, 1805, 1806, 138), some (1811, 0, 1809, 1810, 138), some (1815, 0, 1813, 1814, 138), some (1819, 0, 1818, 105, 138), some (1823, 0, 1822, 106, 138), some (1827, 0, 1826, 107, 138), some (1831, 0, 1829, 1830, 138), some (1835, 0, 1833, 1834, 138), some (1839, 0, 1838, 108, 138), some (1844, 0, 1842, 1843, 138), some (1848, 0, 1846, 1847, 138), some (1852, 0, 1851, 109, 138), some (1856, 0, 1855, 110, 138), some (1860, 0, 1858, 1859, 138)],
  [some (1864, 0, 1863, 111, 138), some (1868, 0, 1867, 112, 138), some (1872, 0, 1870, 1871, 138), some (1876, 0, 1874, 1875, 138), some (1880, 0, 1879, 113, 138), some (1884, 0, 1882, 1883, 138), some (1888, 0, 1886, 1887, 138), some (1892, 0, 1891, 114, 138), some (1896, 0, 1894, 1895, 138), some (1900, 0, 1899, 115, 138), some (1904, 0, 1902, 1903, 138), some (1908, 0, 1906, 1907, 138), some (1912, 0, 1910, 1911, 138), some (1916, 0, 1915, 116, 138), some (1920, 0, 1919, 117, 138), some (1924, 0, 1923, 118, 138)],
  [some (1928, 0, 1926, 1927, 138), some (1932, 0, 1930, 1931, 138), some (1936, 0, 1935, 119, 138), some (1940, 0, 1938, 1939, 138), some (1944, 0, 1942, 1943, 138), some (1948, 0, 1946, 1947, 138), some (1952, 0, 1951, 120, 138), some (1956, 0, 1954, 1955, 138), some (1960, 0, 1959, 121, 138), some (1964, 0, 1963, 122, 138), some (1968, 0, 1967, 123, 138), some (1972, 0, 1970, 1971, 138), some (649, 1, 648, 0, 140), some (685, 1, 684, 0, 141), some (676, 1, 675, 0, 132), some (302, 1, 301, 0, 132)],
  [some (607, 1, 606, 0, 132), some (1145, 1, 1144, 0, 132), some (0, 0, 0, 0, 0)]]
/-- what a method's words are: its code, how it is called, that its class is ready -/
def zmw (M : zMe) (q : Nat × Nat × Nat × Nat × Nat) : Bool := zat q.1 (.code M.2.1 M.2.2.1 M.2.2.2.1 M.2.2.2.2.1) && zat q.2.2.2.2 (.initialized M.2.1.cls) && plainFor M.2.1 && decide (M.2.1.cls = zR M.1) && decide (M.2.1.cls ≠ "java/lang/invoke/MethodHandle" ∧ M.2.1.cls ≠ "java/lang/invoke/VarHandle") && decide (M.2.2.2.1 ≤ 60) && (decide (M.2.2.2.2.1 = none) || decide (M.2.2.2.2.1 = some .int) || decide (M.2.2.2.2.1 = some .boolean)) &&
  (if q.2.1 = 1 then zat q.2.2.1 (.static M.2.1) else if q.2.1 = 2 then zat q.2.2.1 (.instanceMethod M.2.1) && decide (M.2.1.name = "<init>") && decide (M.2.2.2.2.1 = none) else zat q.2.2.1 (.instanceMethod M.2.1) && zat q.2.2.2.1 (.selects M.2.1.cls M.2.1 M.2.1))
def znn (M : zMe) (n : Nat) : Bool := decide ((parseMethodDescriptor M.2.1.desc).map (fun d => d.parameters.length) = some n)
/-- a call's row: the callee's kind and how many it takes -/
def zkind (a : Nat) : Option Nat := (zlk zMp a).map (fun q => q.2.1)
def znum (a n : Nat) : Bool := match zP a with
  | some M => znn M n
  | none => false
def zyy (a : Nat) : MethodName := match zP a with
  | some M => M.2.1
  | none => Lib.objectInit
theorem zVL_ok : zVL.all (fun q => decide (zkind q.2.2.1 = some 0) && znum q.2.2.1 q.2.2.2.1 && zat q.2.2.2.2 (.methodLink (zR q.1) q.2.1 (zyy q.2.2.1))) = true := by decide +kernel
theorem zSL_ok : zSL.all (fun q => decide (zkind q.2.2.1 = some 1) && znum q.2.2.1 q.2.2.2.1 && zat q.2.2.2.2 (.methodLink (zR q.1) q.2.1 (zyy q.2.2.1))) = true := by decide +kernel
theorem zIL_ok : zIL.all (fun q => decide (zkind q.2.2.1 = some 2) && znum q.2.2.1 q.2.2.2.1 && zat q.2.2.2.2 (.methodLink (zR q.1) q.2.1 (zyy q.2.2.1))) = true := by decide +kernel
theorem zSN_ok : zSN.all (fun q => decide (zkind q.2.2.1 = some 1) && znum q.2.2.1 q.2.2.2.1 && zat0 q.2.2.2.2 (.methodLinkNest (zR q.1) q.2.1 (zyy q.2.2.1) "HearsayOrchestra")) = true := by decide +kernel
theorem zIN_ok : zIN.all (fun q => decide (zkind q.2.2.1 = some 2) && znum q.2.2.1 q.2.2.2.1 && zat0 q.2.2.2.2 (.methodLinkNest (zR q.1) q.2.1 (zyy q.2.2.1) "HearsayOrchestra")) = true := by decide +kernel
def zlenI : Instr → Nat
  | .aload _ | .iload _ | .lload _ | .astore _ | .istore _ | .lstore _ | .bipush _ | .ldc _ | .newarray _ => 2
  | .iinc _ _ | .sipush _ | .ldc_w _ | .ldc2_w _ | .goto _ | .if_icmp _ _ | .ifCond _ _ | .getfield _ | .putfield _ | .new _ | .anewarray _ | .invokevirtual _ | .invokestatic _ | .invokespecial _ => 3
  | _ => 1
def zswi : Instr → Bool
  | .tableswitch _ _ _ _ => true
  | .lookupswitch _ ps => (ps.toList.zip (ps.toList.drop 1)).all (fun (a, next) => a.1 < next.1)
  | _ => false
def zdec (cc : ByteArray) (pc : Nat) (ins : Instr) : Bool := match decode cc pc with
  | .ok (i, l) => decide (i = ins) && (decide (l = zlenI ins) || zswi ins)
  | .error _ => false
def zq5 (l : List (Nat × Nat × Nat × Nat × Nat)) (o i a b : Nat) : Bool := l.any (fun q => q.2.1 == i && q.1 == o && q.2.2.1 == a && q.2.2.2.1 == b)
def zq4 (l : List (Nat × Nat × Nat × Nat)) (o i a : Nat) : Bool := l.any (fun q => q.2.1 == i && q.1 == o && q.2.2.1 == a)
def zq3 (l : List (Nat × Nat × Nat)) (o i : Nat) : Bool := l.any (fun q => q.2.1 == i && q.1 == o)
def zex (M : zMe) (pc : Nat) (ins : Instr) (a b : Nat) : Bool := match ins with
  | .astore i | .istore i => decide (i < M.2.2.2.1)
  | .astore_n i | .istore_n i => decide (i.val < M.2.2.2.1)
  | .lstore i => decide (i + 1 < M.2.2.2.1)
  | .lstore_n i => decide (i.val + 1 < M.2.2.2.1)
  | .iinc i _ => decide (i < M.2.2.2.1)
  | .goto off | .if_icmp _ off | .ifCond _ off => decide ((pc : Int) + off = (a : Int))
  | .ldc i => if b = 0 then zq4 zCL M.1 i a else zq4 zST M.1 i a
  | .ldc_w i => zq4 zCL M.1 i a
  | .ldc2_w i => zq4 zLL M.1 i a
  | .getfield i => zq5 zFL M.1 i a b || zq5 zFN M.1 i a b
  | .putfield i => zq5 zFL M.1 i a b && (decide (((zC a).2.1 b).2.2.2 = false) || (decide (((zC a).2.1 b).2.2.2 = true) && decide (M.2.1.name = "<init>") && decide (((zC a).2.1 b).1 = zR M.1)))
  | .new i => zq4 zNL M.1 i a
  | .anewarray i => zq4 zQL M.1 i a
  | .newarray t => decide (t = .int)
  | .lookupswitch _ ps => (ps.toList.zip (ps.toList.drop 1)).all (fun (a, next) => a.1 < next.1)
  | .invokevirtual i => zq5 zVL M.1 i a b || (zq5 zVS M.1 i a b && decide (9000 ≤ a))
  | .invokestatic i => if a = 9999 then zq3 zAL M.1 i else zq5 zSL M.1 i a b || zq5 zSN M.1 i a b
  | .invokespecial i => if a = 9998 then zq3 zOL M.1 i else zq5 zIL M.1 i a b || zq5 zIN M.1 i a b
  | _ => true
def zchk (M : zMe) (pc : Nat) (e : zI) : Bool := zdec M.2.2.1 pc e.1 && zex M pc e.1 e.2.1 e.2.2
def zchkM (M : zMe) : Bool := (List.range (16 * M.2.2.2.2.2.length)).all (fun pc => match zlk M.2.2.2.2.2 pc with
  | none => true
  | some e => zchk M pc e)
theorem zchkM_ok {M : zMe} (h : zchkM M = true) {pc : Nat} {e : zI} (hk : zlk M.2.2.2.2.2 pc = some e) : zchk M pc e = true := by
  have hlt : pc < 16 * M.2.2.2.2.2.length := by
    rcases Nat.lt_or_ge pc (16 * M.2.2.2.2.2.length) with q | q
    · exact q
    · exfalso
      have h1 : M.2.2.2.2.2[pc / 16]? = none := List.getElem?_eq_none (by omega)
      simp [zlk, h1] at hk
  have h2 := List.all_eq_true.mp h pc (List.mem_range.mpr hlt)
  rw [hk] at h2
  exact h2
theorem zlk_mem {α : Type} {l : List (List (Option α))} {k : Nat} {x : α} (h : zlk l k = some x) : ∃ c, l[k / 16]? = some c ∧ c[k % 16]? = some (some x) := by
  unfold zlk at h
  split at h
  next c hc =>
    split at h
    next o ho => exact ⟨c, hc, by rw [ho, h]⟩
    next => cases h
  next => cases h
theorem zlk_all {α : Type} {P : α → Prop} {l : List (List (Option α))} (h : ∀ c ∈ l, ∀ o ∈ c, ∀ x, o = some x → P x) {k : Nat} {x : α} (hk : zlk l k = some x) : P x := by
  obtain ⟨c, h1, h2⟩ := zlk_mem hk
  exact h c (List.mem_of_getElem? h1) _ (List.mem_of_getElem? h2) x rfl

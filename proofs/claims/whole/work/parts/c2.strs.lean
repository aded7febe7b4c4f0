/-! THE STRING METHODS ON THE TWO CONSTANTS, one by one -/
abbrev zy_co : MethodName := ⟨"java/lang/String", "coder", "()B"⟩
abbrev zy_la : MethodName := ⟨"java/lang/String", "isLatin1", "()Z"⟩
abbrev zy_le : MethodName := ⟨"java/lang/String", "length", "()I"⟩
abbrev zy_pc : MethodName := ⟨"jdk/internal/util/Preconditions", "checkIndex", "(IILjava/util/function/BiFunction;)I"⟩
abbrev zy_ci : MethodName := ⟨"java/lang/String", "checkIndex", "(II)V"⟩
abbrev zy_lc : MethodName := ⟨"java/lang/StringLatin1", "charAt", "([BI)C"⟩
abbrev zy_ch : MethodName := ⟨"java/lang/String", "charAt", "(I)C"⟩
abbrev zy_ca : MethodName := ⟨"java/lang/StringLatin1", "canEncode", "(I)Z"⟩
abbrev zy_ic : MethodName := ⟨"java/lang/StringLatin1", "indexOfChar", "([BIII)I"⟩
abbrev zy_li : MethodName := ⟨"java/lang/StringLatin1", "indexOf", "([BIII)I"⟩
abbrev zy_i2 : MethodName := ⟨"java/lang/String", "indexOf", "(II)I"⟩
abbrev zy_i1 : MethodName := ⟨"java/lang/String", "indexOf", "(I)I"⟩
theorem zj_ini_S : Cond.initialized "java/lang/String" ∈ zT := zat_ok (p := 142) (by decide +kernel)
theorem zj_ini_L : Cond.initialized "java/lang/StringLatin1" ∈ zT := zat_ok (p := 143) (by decide +kernel)
theorem zj_ini_P : Cond.initialized "jdk/internal/util/Preconditions" ∈ zT := zat_ok (p := 144) (by decide +kernel)
theorem zj_ini_M : Cond.initialized "java/lang/Math" ∈ zT := zat_ok (p := 132) (by decide +kernel)
theorem zj_f_cs : Cond.fieldLink "java/lang/String" 38 "java/lang/String" "COMPACT_STRINGS" "Z" ∈ zT := zat_ok (p := 798) (by decide +kernel)
theorem zj_f_fm : Cond.fieldLink "java/lang/String" 1053 "jdk/internal/util/Preconditions" "SIOOBE_FORMATTER" "Ljava/util/function/BiFunction;" ∈ zT := zat_ok (p := 814) (by decide +kernel)
theorem zj_f_va : Cond.fieldLink "java/lang/String" 9 "java/lang/String" "value" "[B" ∈ zT := zat_ok (p := 1974) (by decide +kernel)
theorem zj_f_co : Cond.fieldLink "java/lang/String" 15 "java/lang/String" "coder" "B" ∈ zT := zat_ok (p := 1975) (by decide +kernel)
theorem zj_l_le : Cond.methodLink "java/lang/String" 505 zy_le ∈ zT := zat_ok (p := 851) (by decide +kernel)
theorem zj_m_le : Cond.instanceMethod zy_le ∈ zT := zat_ok (p := 791) (by decide +kernel)
theorem zj_s_le : Cond.selects "java/lang/String" zy_le zy_le ∈ zT := zat_ok (p := 792) (by decide +kernel)
theorem zj_c_le : Cond.code zy_le prog_19_method_54_code 1 (some .int) ∈ zT := zat_ok (p := 793) (by decide +kernel)
theorem zj_l_co : Cond.methodLink "java/lang/String" 335 zy_co ∈ zT := zat_ok (p := 794) (by decide +kernel)
theorem zj_m_co : Cond.instanceMethod zy_co ∈ zT := zat_ok (p := 795) (by decide +kernel)
theorem zj_s_co : Cond.selects "java/lang/String" zy_co zy_co ∈ zT := zat_ok (p := 796) (by decide +kernel)
theorem zj_c_co : Cond.code zy_co prog_19_method_152_code 1 (some .byte) ∈ zT := zat_ok (p := 797) (by decide +kernel)
theorem zj_l_la : Cond.methodLink "java/lang/String" 492 zy_la ∈ zT := zat_ok (p := 804) (by decide +kernel)
theorem zj_m_la : Cond.instanceMethod zy_la ∈ zT := zat_ok (p := 805) (by decide +kernel)
theorem zj_s_la : Cond.selects "java/lang/String" zy_la zy_la ∈ zT := zat_ok (p := 806) (by decide +kernel)
theorem zj_c_la : Cond.code zy_la prog_19_method_154_code 1 (some .boolean) ∈ zT := zat_ok (p := 807) (by decide +kernel)
theorem zj_l_lc : Cond.methodLink "java/lang/String" 495 zy_lc ∈ zT := zat_ok (p := 808) (by decide +kernel)
theorem zj_m_lc : Cond.static zy_lc ∈ zT := zat_ok (p := 809) (by decide +kernel)
theorem zj_c_lc : Cond.code zy_lc prog_20_method_2_code 2 (some .char) ∈ zT := zat_ok (p := 810) (by decide +kernel)
theorem zj_l_ci : Cond.methodLink "java/lang/StringLatin1" 9 zy_ci ∈ zT := zat_ok (p := 811) (by decide +kernel)
theorem zj_m_ci : Cond.static zy_ci ∈ zT := zat_ok (p := 812) (by decide +kernel)
theorem zj_c_ci : Cond.code zy_ci prog_19_method_155_code 2 (none) ∈ zT := zat_ok (p := 813) (by decide +kernel)
theorem zj_l_pc : Cond.methodLink "java/lang/String" 1059 zy_pc ∈ zT := zat_ok (p := 816) (by decide +kernel)
theorem zj_m_pc : Cond.static zy_pc ∈ zT := zat_ok (p := 817) (by decide +kernel)
theorem zj_c_pc : Cond.code zy_pc prog_23_method_11_code 3 (some .int) ∈ zT := zat_ok (p := 818) (by decide +kernel)
theorem zj_l_i2 : Cond.methodLink "java/lang/String" 633 zy_i2 ∈ zT := zat_ok (p := 847) (by decide +kernel)
theorem zj_m_i2 : Cond.instanceMethod zy_i2 ∈ zT := zat_ok (p := 848) (by decide +kernel)
theorem zj_s_i2 : Cond.selects "java/lang/String" zy_i2 zy_i2 ∈ zT := zat_ok (p := 849) (by decide +kernel)
theorem zj_c_i2 : Cond.code zy_i2 prog_19_method_80_code 3 (some .int) ∈ zT := zat_ok (p := 850) (by decide +kernel)
theorem zj_l_li : Cond.methodLink "java/lang/String" 637 zy_li ∈ zT := zat_ok (p := 852) (by decide +kernel)
theorem zj_m_li : Cond.static zy_li ∈ zT := zat_ok (p := 853) (by decide +kernel)
theorem zj_c_li : Cond.code zy_li prog_20_method_22_code 4 (some .int) ∈ zT := zat_ok (p := 854) (by decide +kernel)
theorem zj_l_ca : Cond.methodLink "java/lang/StringLatin1" 88 zy_ca ∈ zT := zat_ok (p := 855) (by decide +kernel)
theorem zj_m_ca : Cond.static zy_ca ∈ zT := zat_ok (p := 856) (by decide +kernel)
theorem zj_c_ca : Cond.code zy_ca prog_20_method_4_code 1 (some .boolean) ∈ zT := zat_ok (p := 857) (by decide +kernel)
theorem zj_l_ic : Cond.methodLink "java/lang/StringLatin1" 95 zy_ic ∈ zT := zat_ok (p := 860) (by decide +kernel)
theorem zj_m_ic : Cond.static zy_ic ∈ zT := zat_ok (p := 861) (by decide +kernel)
theorem zj_c_ic : Cond.code zy_ic prog_20_method_23_code 6 (some .int) ∈ zT := zat_ok (p := 862) (by decide +kernel)
theorem zj_l_mx : Cond.methodLink "java/lang/StringLatin1" 92 Lib.Math.max.name ∈ zT := zat_ok (p := 858) (by decide +kernel)
theorem zj_m_mx : Cond.static Lib.Math.max.name ∈ zT := zat_ok (p := 301) (by decide +kernel)
theorem zj_c_mx : Cond.code Lib.Math.max.name Lib.Math.max.code 2 (some .int) ∈ zT := zat_ok (p := 302) (by decide +kernel)
theorem zj_l_mn : Cond.methodLink "java/lang/StringLatin1" 38 Lib.Math.min.name ∈ zT := zat_ok (p := 859) (by decide +kernel)
theorem zj_m_mn : Cond.static Lib.Math.min.name ∈ zT := zat_ok (p := 606) (by decide +kernel)
theorem zj_c_mn : Cond.code Lib.Math.min.name Lib.Math.min.code 2 (some .int) ∈ zT := zat_ok (p := 607) (by decide +kernel)
theorem zd_co_0 : decode prog_19_method_152_code 0 = .ok (.getstatic 38, 3) := by decide +kernel
theorem zd_co_3 : decode prog_19_method_152_code 3 = .ok (.ifCond .eq 10, 3) := by decide +kernel
theorem zd_co_6 : decode prog_19_method_152_code 6 = .ok (.aload_n 0, 1) := by decide +kernel
theorem zd_co_7 : decode prog_19_method_152_code 7 = .ok (.getfield 15, 3) := by decide +kernel
theorem zd_co_10 : decode prog_19_method_152_code 10 = .ok (.goto 4, 3) := by decide +kernel
theorem zd_co_14 : decode prog_19_method_152_code 14 = .ok (.ireturn, 1) := by decide +kernel
theorem zd_la_0 : decode prog_19_method_154_code 0 = .ok (.getstatic 38, 3) := by decide +kernel
theorem zd_la_3 : decode prog_19_method_154_code 3 = .ok (.ifCond .eq 14, 3) := by decide +kernel
theorem zd_la_6 : decode prog_19_method_154_code 6 = .ok (.aload_n 0, 1) := by decide +kernel
theorem zd_la_7 : decode prog_19_method_154_code 7 = .ok (.getfield 15, 3) := by decide +kernel
theorem zd_la_10 : decode prog_19_method_154_code 10 = .ok (.ifCond .ne 7, 3) := by decide +kernel
theorem zd_la_13 : decode prog_19_method_154_code 13 = .ok (.iconst 1, 1) := by decide +kernel
theorem zd_la_14 : decode prog_19_method_154_code 14 = .ok (.goto 4, 3) := by decide +kernel
theorem zd_la_18 : decode prog_19_method_154_code 18 = .ok (.ireturn, 1) := by decide +kernel
theorem zd_le_0 : decode prog_19_method_54_code 0 = .ok (.aload_n 0, 1) := by decide +kernel
theorem zd_le_1 : decode prog_19_method_54_code 1 = .ok (.getfield 9, 3) := by decide +kernel
theorem zd_le_4 : decode prog_19_method_54_code 4 = .ok (.arraylength, 1) := by decide +kernel
theorem zd_le_5 : decode prog_19_method_54_code 5 = .ok (.aload_n 0, 1) := by decide +kernel
theorem zd_le_6 : decode prog_19_method_54_code 6 = .ok (.invokevirtual 335, 3) := by decide +kernel
theorem zd_le_9 : decode prog_19_method_54_code 9 = .ok (.ishr, 1) := by decide +kernel
theorem zd_le_10 : decode prog_19_method_54_code 10 = .ok (.ireturn, 1) := by decide +kernel
theorem zd_pc_0 : decode prog_23_method_11_code 0 = .ok (.iload_n 0, 1) := by decide +kernel
theorem zd_pc_1 : decode prog_23_method_11_code 1 = .ok (.ifCond .lt 8, 3) := by decide +kernel
theorem zd_pc_4 : decode prog_23_method_11_code 4 = .ok (.iload_n 0, 1) := by decide +kernel
theorem zd_pc_5 : decode prog_23_method_11_code 5 = .ok (.iload_n 1, 1) := by decide +kernel
theorem zd_pc_6 : decode prog_23_method_11_code 6 = .ok (.if_icmp .lt 10, 3) := by decide +kernel
theorem zd_pc_16 : decode prog_23_method_11_code 16 = .ok (.iload_n 0, 1) := by decide +kernel
theorem zd_pc_17 : decode prog_23_method_11_code 17 = .ok (.ireturn, 1) := by decide +kernel
theorem zd_ci_0 : decode prog_19_method_155_code 0 = .ok (.iload_n 0, 1) := by decide +kernel
theorem zd_ci_1 : decode prog_19_method_155_code 1 = .ok (.iload_n 1, 1) := by decide +kernel
theorem zd_ci_2 : decode prog_19_method_155_code 2 = .ok (.getstatic 1053, 3) := by decide +kernel
theorem zd_ci_5 : decode prog_19_method_155_code 5 = .ok (.invokestatic 1059, 3) := by decide +kernel
theorem zd_ci_8 : decode prog_19_method_155_code 8 = .ok (.pop, 1) := by decide +kernel
theorem zd_ci_9 : decode prog_19_method_155_code 9 = .ok (.return_, 1) := by decide +kernel
theorem zd_lc_0 : decode prog_20_method_2_code 0 = .ok (.iload_n 1, 1) := by decide +kernel
theorem zd_lc_1 : decode prog_20_method_2_code 1 = .ok (.aload_n 0, 1) := by decide +kernel
theorem zd_lc_2 : decode prog_20_method_2_code 2 = .ok (.arraylength, 1) := by decide +kernel
theorem zd_lc_3 : decode prog_20_method_2_code 3 = .ok (.invokestatic 9, 3) := by decide +kernel
theorem zd_lc_6 : decode prog_20_method_2_code 6 = .ok (.aload_n 0, 1) := by decide +kernel
theorem zd_lc_7 : decode prog_20_method_2_code 7 = .ok (.iload_n 1, 1) := by decide +kernel
theorem zd_lc_8 : decode prog_20_method_2_code 8 = .ok (.baload, 1) := by decide +kernel
theorem zd_lc_9 : decode prog_20_method_2_code 9 = .ok (.sipush 255, 3) := by decide +kernel
theorem zd_lc_12 : decode prog_20_method_2_code 12 = .ok (.iand, 1) := by decide +kernel
theorem zd_lc_13 : decode prog_20_method_2_code 13 = .ok (.i2c, 1) := by decide +kernel
theorem zd_lc_14 : decode prog_20_method_2_code 14 = .ok (.ireturn, 1) := by decide +kernel
theorem zd_ch_0 : decode prog_19_method_56_code 0 = .ok (.aload_n 0, 1) := by decide +kernel
theorem zd_ch_1 : decode prog_19_method_56_code 1 = .ok (.invokevirtual 492, 3) := by decide +kernel
theorem zd_ch_4 : decode prog_19_method_56_code 4 = .ok (.ifCond .eq 12, 3) := by decide +kernel
theorem zd_ch_7 : decode prog_19_method_56_code 7 = .ok (.aload_n 0, 1) := by decide +kernel
theorem zd_ch_8 : decode prog_19_method_56_code 8 = .ok (.getfield 9, 3) := by decide +kernel
theorem zd_ch_11 : decode prog_19_method_56_code 11 = .ok (.iload_n 1, 1) := by decide +kernel
theorem zd_ch_12 : decode prog_19_method_56_code 12 = .ok (.invokestatic 495, 3) := by decide +kernel
theorem zd_ch_15 : decode prog_19_method_56_code 15 = .ok (.ireturn, 1) := by decide +kernel
theorem zd_ca_0 : decode prog_20_method_4_code 0 = .ok (.iload_n 0, 1) := by decide +kernel
theorem zd_ca_1 : decode prog_20_method_4_code 1 = .ok (.ifCond .lt 14, 3) := by decide +kernel
theorem zd_ca_4 : decode prog_20_method_4_code 4 = .ok (.iload_n 0, 1) := by decide +kernel
theorem zd_ca_5 : decode prog_20_method_4_code 5 = .ok (.sipush 255, 3) := by decide +kernel
theorem zd_ca_8 : decode prog_20_method_4_code 8 = .ok (.if_icmp .gt 7, 3) := by decide +kernel
theorem zd_ca_11 : decode prog_20_method_4_code 11 = .ok (.iconst 1, 1) := by decide +kernel
theorem zd_ca_12 : decode prog_20_method_4_code 12 = .ok (.goto 4, 3) := by decide +kernel
theorem zd_ca_15 : decode prog_20_method_4_code 15 = .ok (.iconst 0, 1) := by decide +kernel
theorem zd_ca_16 : decode prog_20_method_4_code 16 = .ok (.ireturn, 1) := by decide +kernel
theorem zd_ic_0 : decode prog_20_method_23_code 0 = .ok (.iload_n 1, 1) := by decide +kernel
theorem zd_ic_1 : decode prog_20_method_23_code 1 = .ok (.i2b, 1) := by decide +kernel
theorem zd_ic_2 : decode prog_20_method_23_code 2 = .ok (.istore 4, 2) := by decide +kernel
theorem zd_ic_4 : decode prog_20_method_23_code 4 = .ok (.iload_n 2, 1) := by decide +kernel
theorem zd_ic_5 : decode prog_20_method_23_code 5 = .ok (.istore 5, 2) := by decide +kernel
theorem zd_ic_7 : decode prog_20_method_23_code 7 = .ok (.iload 5, 2) := by decide +kernel
theorem zd_ic_9 : decode prog_20_method_23_code 9 = .ok (.iload_n 3, 1) := by decide +kernel
theorem zd_ic_10 : decode prog_20_method_23_code 10 = .ok (.if_icmp .ge 21, 3) := by decide +kernel
theorem zd_ic_13 : decode prog_20_method_23_code 13 = .ok (.aload_n 0, 1) := by decide +kernel
theorem zd_ic_14 : decode prog_20_method_23_code 14 = .ok (.iload 5, 2) := by decide +kernel
theorem zd_ic_16 : decode prog_20_method_23_code 16 = .ok (.baload, 1) := by decide +kernel
theorem zd_ic_17 : decode prog_20_method_23_code 17 = .ok (.iload 4, 2) := by decide +kernel
theorem zd_ic_19 : decode prog_20_method_23_code 19 = .ok (.if_icmp .ne 6, 3) := by decide +kernel
theorem zd_ic_22 : decode prog_20_method_23_code 22 = .ok (.iload 5, 2) := by decide +kernel
theorem zd_ic_24 : decode prog_20_method_23_code 24 = .ok (.ireturn, 1) := by decide +kernel
theorem zd_ic_25 : decode prog_20_method_23_code 25 = .ok (.iinc 5 1, 3) := by decide +kernel
theorem zd_ic_28 : decode prog_20_method_23_code 28 = .ok (.goto (-21), 3) := by decide +kernel
theorem zd_ic_31 : decode prog_20_method_23_code 31 = .ok (.iconst (-1), 1) := by decide +kernel
theorem zd_ic_32 : decode prog_20_method_23_code 32 = .ok (.ireturn, 1) := by decide +kernel
theorem zd_li_0 : decode prog_20_method_22_code 0 = .ok (.iload_n 1, 1) := by decide +kernel
theorem zd_li_1 : decode prog_20_method_22_code 1 = .ok (.invokestatic 88, 3) := by decide +kernel
theorem zd_li_4 : decode prog_20_method_22_code 4 = .ok (.ifCond .ne 5, 3) := by decide +kernel
theorem zd_li_7 : decode prog_20_method_22_code 7 = .ok (.iconst (-1), 1) := by decide +kernel
theorem zd_li_8 : decode prog_20_method_22_code 8 = .ok (.ireturn, 1) := by decide +kernel
theorem zd_li_9 : decode prog_20_method_22_code 9 = .ok (.iload_n 2, 1) := by decide +kernel
theorem zd_li_10 : decode prog_20_method_22_code 10 = .ok (.iconst 0, 1) := by decide +kernel
theorem zd_li_11 : decode prog_20_method_22_code 11 = .ok (.invokestatic 92, 3) := by decide +kernel
theorem zd_li_14 : decode prog_20_method_22_code 14 = .ok (.istore_n 2, 1) := by decide +kernel
theorem zd_li_15 : decode prog_20_method_22_code 15 = .ok (.iload_n 3, 1) := by decide +kernel
theorem zd_li_16 : decode prog_20_method_22_code 16 = .ok (.aload_n 0, 1) := by decide +kernel
theorem zd_li_17 : decode prog_20_method_22_code 17 = .ok (.arraylength, 1) := by decide +kernel
theorem zd_li_18 : decode prog_20_method_22_code 18 = .ok (.invokestatic 38, 3) := by decide +kernel
theorem zd_li_21 : decode prog_20_method_22_code 21 = .ok (.istore_n 3, 1) := by decide +kernel
theorem zd_li_22 : decode prog_20_method_22_code 22 = .ok (.iload_n 2, 1) := by decide +kernel
theorem zd_li_23 : decode prog_20_method_22_code 23 = .ok (.iload_n 3, 1) := by decide +kernel
theorem zd_li_24 : decode prog_20_method_22_code 24 = .ok (.if_icmp .lt 5, 3) := by decide +kernel
theorem zd_li_29 : decode prog_20_method_22_code 29 = .ok (.aload_n 0, 1) := by decide +kernel
theorem zd_li_30 : decode prog_20_method_22_code 30 = .ok (.iload_n 1, 1) := by decide +kernel
theorem zd_li_31 : decode prog_20_method_22_code 31 = .ok (.iload_n 2, 1) := by decide +kernel
theorem zd_li_32 : decode prog_20_method_22_code 32 = .ok (.iload_n 3, 1) := by decide +kernel
theorem zd_li_33 : decode prog_20_method_22_code 33 = .ok (.invokestatic 95, 3) := by decide +kernel
theorem zd_li_36 : decode prog_20_method_22_code 36 = .ok (.ireturn, 1) := by decide +kernel
theorem zd_i2_0 : decode prog_19_method_80_code 0 = .ok (.aload_n 0, 1) := by decide +kernel
theorem zd_i2_1 : decode prog_19_method_80_code 1 = .ok (.invokevirtual 492, 3) := by decide +kernel
theorem zd_i2_4 : decode prog_19_method_80_code 4 = .ok (.ifCond .eq 19, 3) := by decide +kernel
theorem zd_i2_7 : decode prog_19_method_80_code 7 = .ok (.aload_n 0, 1) := by decide +kernel
theorem zd_i2_8 : decode prog_19_method_80_code 8 = .ok (.getfield 9, 3) := by decide +kernel
theorem zd_i2_11 : decode prog_19_method_80_code 11 = .ok (.iload_n 1, 1) := by decide +kernel
theorem zd_i2_12 : decode prog_19_method_80_code 12 = .ok (.iload_n 2, 1) := by decide +kernel
theorem zd_i2_13 : decode prog_19_method_80_code 13 = .ok (.aload_n 0, 1) := by decide +kernel
theorem zd_i2_14 : decode prog_19_method_80_code 14 = .ok (.invokevirtual 505, 3) := by decide +kernel
theorem zd_i2_17 : decode prog_19_method_80_code 17 = .ok (.invokestatic 637, 3) := by decide +kernel
theorem zd_i2_20 : decode prog_19_method_80_code 20 = .ok (.goto 16, 3) := by decide +kernel
theorem zd_i2_36 : decode prog_19_method_80_code 36 = .ok (.ireturn, 1) := by decide +kernel
theorem zd_i1_0 : decode prog_19_method_79_code 0 = .ok (.aload_n 0, 1) := by decide +kernel
theorem zd_i1_1 : decode prog_19_method_79_code 1 = .ok (.iload_n 1, 1) := by decide +kernel
theorem zd_i1_2 : decode prog_19_method_79_code 2 = .ok (.iconst 0, 1) := by decide +kernel
theorem zd_i1_3 : decode prog_19_method_79_code 3 = .ok (.invokevirtual 633, 3) := by decide +kernel
theorem zd_i1_6 : decode prog_19_method_79_code 6 = .ok (.ireturn, 1) := by decide +kernel
theorem zix_out {x : Int32} : ∀ (l : List Nat) (k : Nat), (∀ c ∈ l, Int32.ofNat c ≠ x) → zix l x k = -1
  | [], _, _ => rfl
  | c :: t, k, h => by
    rw [zix, if_neg (h c List.mem_cons_self)]
    exact zix_out t (k + 1) (fun c hc => h c (List.mem_cons_of_mem _ hc))
theorem zsb_all : ∀ c ∈ zsb 5000 ++ zsb 5001, c < 128 := by decide +kernel
theorem zsb_lt {i : Nat} (hi : i = 5000 ∨ i = 5001) {c : Nat} (hc : c ∈ zsb i) : c < 128 := by
  rcases hi with rfl | rfl
  · exact zsb_all c (List.mem_append_left _ hc)
  · exact zsb_all c (List.mem_append_right _ hc)
theorem zsb_len {i : Nat} (hi : i = 5000 ∨ i = 5001) : 0 < (zsb i).length ∧ (zsb i).length < 200 := by
  rcases hi with rfl | rfl <;> decide +kernel
theorem zsb_ch : ∀ c, c < 128 → (((Int32.ofNat c &&& 255).toUInt32 % 65536).toInt32 = Int32.ofNat c ∧ narrow .char (.int (Int32.ofNat c)) = .int (Int32.ofNat c)) := by decide +kernel
theorem zsb_by : ∀ n, n < 256 → ((n < 128 ∧ (nI n).toInt8.toInt32 = nI n) ∨ (128 ≤ n ∧ (nI n).toInt8.toInt32 < 0)) := by decide +kernel
theorem zsb_getD {i j : Nat} (hj : j < (zsb i).length) : (zsb i).getD j 0 ∈ zsb i := by
  rw [List.getD_eq_getElem?_getD, List.getElem?_eq_getElem hj]
  exact List.getElem_mem hj

section ZJ2
variable {l : Launch} {dC : Nat → ClassId} {dI : Nat → Nat → Nat} {cI cR : ClassId} {h0 : Nat} {KS : State → Prop} {adX : Nat → Nat} {fm : Value}
theorem zc_co {d : Nat} {S : zSt} (hKS : zKst h0 KS) (hT : ∀ U, KS U → zKT adX fm h0 U) {i : Nat} (hi : i = 5000 ∨ i = 5001) : zMj l dC dI cI cR h0 KS adX d zy_co prog_19_method_152_code 1 (some .byte) [.ref i] S (some (.int 0)) := by
  refine zmj_of (by decide +kernel) (Nat.le_refl 1) ?_
  intro ad had p e s m below meth c sl ⟨hx, hb, hml, hown, hts, hr, hlk, hh, hW, hK, hKK, hl⟩
  obtain ⟨h1, h2, h3⟩ := hT s hKK.2.2
  have hS : va_S (zA h0) s.heap s.heap [] := va_S.rf
  obtain ⟨g1, g2, g3, g4⟩ := h3 i hi
  have ei := had i (by omega)
  have ej := had (i + 10) (by omega)
  rw [← ei] at g1 g2 g3
  rw [← ej] at g3 g4
  refine va_gets (A := zA h0) hx hb h1 hS hown (hts _ zj_f_cs) (fun _ h => h) zd_co_0 ?_
  refine lv_if_eq hx hb (tgt := 13) zd_co_3 rfl (fun z => absurd z (by decide)) (fun _ => ?_)
  refine lv_aload_n (x := ad i) hx hb zd_co_6 rfl (hl.2.2.2 0 (.ref i) rfl (fun z => by cases z)) ?_
  refine vk_getf (A := zA h0) hx hb g2 hS hown (hts _ zj_f_co) (fun _ h => h) zd_co_7 ?_
  refine lv_goto hx hb (tgt := 14) zd_co_10 rfl ?_
  exact zjret hx hb hr hlk (by decide) hW hS zd_co_14
theorem zc_la {d : Nat} {S : zSt} (hKS : zKst h0 KS) (hT : ∀ U, KS U → zKT adX fm h0 U) {i : Nat} (hi : i = 5000 ∨ i = 5001) : zMj l dC dI cI cR h0 KS adX d zy_la prog_19_method_154_code 1 (some .boolean) [.ref i] S (some (.int 1)) := by
  refine zmj_of (by decide +kernel) (Nat.le_refl 1) ?_
  intro ad had p e s m below meth c sl ⟨hx, hb, hml, hown, hts, hr, hlk, hh, hW, hK, hKK, hl⟩
  obtain ⟨h1, h2, h3⟩ := hT s hKK.2.2
  have hS : va_S (zA h0) s.heap s.heap [] := va_S.rf
  obtain ⟨g1, g2, g3, g4⟩ := h3 i hi
  have ei := had i (by omega)
  have ej := had (i + 10) (by omega)
  rw [← ei] at g1 g2 g3
  rw [← ej] at g3 g4
  refine va_gets (A := zA h0) hx hb h1 hS hown (hts _ zj_f_cs) (fun _ h => h) zd_la_0 ?_
  refine lv_if_eq hx hb (tgt := 17) zd_la_3 rfl (fun z => absurd z (by decide)) (fun _ => ?_)
  refine lv_aload_n (x := ad i) hx hb zd_la_6 rfl (hl.2.2.2 0 (.ref i) rfl (fun z => by cases z)) ?_
  refine vk_getf (A := zA h0) hx hb g2 hS hown (hts _ zj_f_co) (fun _ h => h) zd_la_7 ?_
  refine lv_if_ne hx hb (tgt := 17) zd_la_10 rfl (fun z => absurd rfl z) (fun _ => ?_)
  refine lv_iconst (v := 1) hx hb zd_la_13 (by decide) ?_
  refine lv_goto hx hb (tgt := 18) zd_la_14 rfl ?_
  exact zjret hx hb hr hlk (by decide) hW hS zd_la_18
theorem zc_le {d : Nat} {S : zSt} (hKS : zKst h0 KS) (hT : ∀ U, KS U → zKT adX fm h0 U) {i : Nat} (hi : i = 5000 ∨ i = 5001) : zMj l dC dI cI cR h0 KS adX (d + 1) zy_le prog_19_method_54_code 1 (some .int) [.ref i] S (some (.int (Int32.ofNat (zsb i).length))) := by
  refine zmj_of (by decide +kernel) (Nat.le_refl 1) ?_
  intro ad had p e s m below meth c sl ⟨hx, hb, hml, hown, hts, hr, hlk, hh, hW, hK, hKK, hl⟩
  obtain ⟨h1, h2, h3⟩ := hT s hKK.2.2
  have hS : va_S (zA h0) s.heap s.heap [] := va_S.rf
  obtain ⟨g1, g2, g3, g4⟩ := h3 i hi
  have ei := had i (by omega)
  have ej := had (i + 10) (by omega)
  rw [← ei] at g1 g2 g3
  rw [← ej] at g3 g4
  refine lv_aload_n (x := ad i) hx hb zd_le_0 rfl (hl.2.2.2 0 (.ref i) rfl (fun z => by cases z)) ?_
  refine vk_getf (A := zA h0) hx hb g3 hS hown (hts _ zj_f_va) (fun _ h => h) zd_le_1 ?_
  refine va_tlen (A := zA h0) hx hb g4 hS rfl zd_le_4 ?_
  refine lv_aload_n (x := ad i) hx hb zd_le_5 rfl (hl.2.2.2 0 (.ref i) rfl (fun z => by cases z)) ?_
  refine zjcV (k := 0) (As' := []) (rest := [.int (Int32.ofNat (zsb i).length)]) hx hb hml hown hts hl.2.1 hh hW hK hKK hS hKS had (zc_co (d := d) hKS hT hi) zj_l_co zj_m_co zj_s_co zj_ini_S zj_c_co ⟨by decide +kernel, by decide +kernel, by decide +kernel⟩ (Nat.le_of_ble_eq_true rfl) rfl ⟨Nat.le_refl _, by show 100 * d + 100 ≤ 100 * (d + 1); omega⟩ g1 rfl (Nat.le_of_ble_eq_true rfl) zd_le_6 (fun H1 locs1 hW1 hS1 => ?_)
  refine lv_ishr hx hb zd_le_9 ?_
  have e0 : Int32.ofNat (zsb i).length >>> ((0 : Int32) &&& 31) = Int32.ofNat (zsb i).length := sc_shr0 (n := (zsb i).length) (by have := (zsb_len hi).2; omega)
  rw [e0]
  exact zjret hx hb hr hlk rfl hW1 hS1 zd_le_10
theorem zc_pc {d : Nat} {S : zSt} (hKS : zKst h0 KS) (hT : ∀ U, KS U → zKT adX fm h0 U) (hfm : fm = .null ∨ fm = .ref 5004) {x y : Int32} (hx0 : ¬ x < 0) (hxy : x < y) : zMj l dC dI cI cR h0 KS adX d zy_pc prog_23_method_11_code 3 (some .int) [.int x, .int y, fm] S (some (.int x)) := by
  refine zmj_of (by decide +kernel) (by rcases hfm with rfl | rfl <;> exact Nat.le_refl 3) ?_
  intro ad had p e s m below meth c sl ⟨hx, hb, hml, hown, hts, hr, hlk, hh, hW, hK, hKK, hl⟩
  obtain ⟨h1, h2, h3⟩ := hT s hKK.2.2
  have hS : va_S (zA h0) s.heap s.heap [] := va_S.rf
  have l0 : sl[0]? = some (.val (.int x)) := by rcases hfm with rfl | rfl <;> exact hl.2.2.2 0 (.int x) rfl (fun z => by cases z)
  have l1 : sl[1]? = some (.val (.int y)) := by rcases hfm with rfl | rfl <;> exact hl.2.2.2 1 (.int y) rfl (fun z => by cases z)
  refine lv_iload_n (x := x) hx hb zd_pc_0 rfl l0 ?_
  refine lv_if_lt hx hb (tgt := 9) zd_pc_1 rfl (fun z => absurd z hx0) (fun _ => ?_)
  refine lv_iload_n (x := x) hx hb zd_pc_4 rfl l0 ?_
  refine lv_iload_n (x := y) hx hb zd_pc_5 rfl l1 ?_
  refine lv_icmp_lt hx hb (tgt := 16) zd_pc_6 rfl (fun _ => ?_) (fun z => absurd hxy z)
  refine lv_iload_n (x := x) hx hb zd_pc_16 rfl l0 ?_
  exact zjret hx hb hr hlk rfl hW hS zd_pc_17
theorem zc_ci {d : Nat} {S : zSt} (hKS : zKst h0 KS) (hT : ∀ U, KS U → zKT adX fm h0 U) (hfm : fm = .null ∨ fm = .ref 5004) {x y : Int32} (hx0 : ¬ x < 0) (hxy : x < y) : zMj l dC dI cI cR h0 KS adX (d + 1) zy_ci prog_19_method_155_code 2 (none) [.int x, .int y] S (none) := by
  refine zmj_of (by decide +kernel) (Nat.le_refl 2) ?_
  intro ad had p e s m below meth c sl ⟨hx, hb, hml, hown, hts, hr, hlk, hh, hW, hK, hKK, hl⟩
  obtain ⟨h1, h2, h3⟩ := hT s hKK.2.2
  have hS : va_S (zA h0) s.heap s.heap [] := va_S.rf
  have ef : zcv ad fm = zcv adX fm := by
    rcases hfm with rfl | rfl
    · rfl
    · exact congrArg Value.ref (had 5004 (by omega))
  rw [← ef] at h2
  refine lv_iload_n (x := x) hx hb zd_ci_0 rfl (hl.2.2.2 0 (.int x) rfl (fun z => by cases z)) ?_
  refine lv_iload_n (x := y) hx hb zd_ci_1 rfl (hl.2.2.2 1 (.int y) rfl (fun z => by cases z)) ?_
  refine va_gets (A := zA h0) hx hb h2 hS hown (hts _ zj_f_fm) (fun _ h => h) zd_ci_2 ?_
  refine zjcS (k := 3) (As' := [.int x, .int y, fm]) (rest := []) hx hb hml hown hts hl.2.1 hh hW hK hKK hS hKS had (zc_pc (d := d) hKS hT hfm hx0 hxy) zj_l_pc zj_m_pc zj_ini_P zj_c_pc ⟨by decide +kernel, by decide +kernel, by decide +kernel⟩ (Nat.le_of_ble_eq_true rfl) rfl ⟨Nat.le_refl _, by show 100 * d + 100 ≤ 100 * (d + 1); omega⟩ rfl (Nat.le_of_ble_eq_true rfl) zd_ci_5 (fun H1 locs1 hW1 hS1 => ?_)
  refine lv_pop hx hb zd_ci_8 rfl ?_
  exact W.vret hx hb hr (fun t ht hw => ⟨⟨rfl, ad, fun _ _ => rfl, fun _ => rfl, by rw [ht]; exact hW1⟩, hS1.F ht⟩) hS1.2.2 zd_ci_9 hlk
theorem zsb_xlt {x : Int32} {n : Nat} (hx0 : ¬ x < 0) (hxy : x.toNatClampNeg < n) (hn : n < 200) : x < Int32.ofNat n := by
  obtain ⟨j, hj, rfl⟩ := nI_of hx0
  rw [nI_clamp hj] at hxy
  exact nI_lt hxy (by omega)
theorem zc_lc {d : Nat} {S : zSt} (hKS : zKst h0 KS) (hT : ∀ U, KS U → zKT adX fm h0 U) (hfm : fm = .null ∨ fm = .ref 5004) {i : Nat} (hi : i = 5000 ∨ i = 5001) {x : Int32} (hx0 : ¬ x < 0) (hxy : x.toNatClampNeg < (zsb i).length) : zMj l dC dI cI cR h0 KS adX (d + 2) zy_lc prog_20_method_2_code 2 (some .char) [.ref (i + 10), .int x] S (some (.int (Int32.ofNat ((zsb i).getD x.toNatClampNeg 0)))) := by
  refine zmj_of (by decide +kernel) (Nat.le_refl 2) ?_
  intro ad had p e s m below meth c sl ⟨hx, hb, hml, hown, hts, hr, hlk, hh, hW, hK, hKK, hl⟩
  obtain ⟨h1, h2, h3⟩ := hT s hKK.2.2
  have hS : va_S (zA h0) s.heap s.heap [] := va_S.rf
  obtain ⟨g1, g2, g3, g4⟩ := h3 i hi
  have ei := had i (by omega)
  have ej := had (i + 10) (by omega)
  rw [← ei] at g1 g2 g3
  rw [← ej] at g3 g4
  have hb1 := zsb_ch _ (zsb_lt hi (zsb_getD hxy))
  refine lv_iload_n (x := x) hx hb zd_lc_0 rfl (hl.2.2.2 1 (.int x) rfl (fun z => by cases z)) ?_
  refine lv_aload_n (x := ad (i + 10)) hx hb zd_lc_1 rfl (hl.2.2.2 0 (.ref (i + 10)) rfl (fun z => by cases z)) ?_
  refine va_tlen (A := zA h0) hx hb g4 hS rfl zd_lc_2 ?_
  refine zjcS (k := 2) (As' := [.int x, .int (Int32.ofNat (zsb i).length)]) (rest := []) hx hb hml hown hts hl.2.1 hh hW hK hKK hS hKS had (zc_ci (d := d) hKS hT hfm hx0 (zsb_xlt hx0 hxy (zsb_len hi).2)) zj_l_ci zj_m_ci zj_ini_S zj_c_ci ⟨by decide +kernel, by decide +kernel, by decide +kernel⟩ (Nat.le_of_ble_eq_true rfl) rfl ⟨Nat.le_refl _, by show 100 * (d + 1) + 100 ≤ 100 * ((d + 1) + 1); omega⟩ rfl (Nat.le_of_ble_eq_true rfl) zd_lc_3 (fun H1 locs1 hW1 hS1 => ?_)
  refine lv_aload_n (x := ad (i + 10)) hx hb zd_lc_6 rfl (hl.2.2.2 0 (.ref (i + 10)) rfl (fun z => by cases z)) ?_
  refine lv_iload_n (x := x) hx hb zd_lc_7 rfl (hl.2.2.2 1 (.int x) rfl (fun z => by cases z)) ?_
  refine va_tb (A := zA h0) hx hb g4 hS1 (fun z => z.elim hx0 (fun z => by omega)) rfl zd_lc_8 ?_
  refine lv_sipush (v := 255) hx hb zd_lc_9 (by decide) ?_
  refine lv_iand hx hb zd_lc_12 ?_
  refine lv_i2c hx hb zd_lc_13 hb1.1 ?_
  exact zjret hx hb hr hlk hb1.2 hW1 hS1 zd_lc_14
theorem zc_ch {d : Nat} {S : zSt} (hKS : zKst h0 KS) (hT : ∀ U, KS U → zKT adX fm h0 U) (hfm : fm = .null ∨ fm = .ref 5004) {i : Nat} (hi : i = 5000 ∨ i = 5001) {x : Int32} (hx0 : ¬ x < 0) (hxy : x.toNatClampNeg < (zsb i).length) : zMj l dC dI cI cR h0 KS adX (d + 3) zy_ch prog_19_method_56_code 2 (some .char) [.ref i, .int x] S (some (.int (Int32.ofNat ((zsb i).getD x.toNatClampNeg 0)))) := by
  refine zmj_of (by decide +kernel) (Nat.le_refl 2) ?_
  intro ad had p e s m below meth c sl ⟨hx, hb, hml, hown, hts, hr, hlk, hh, hW, hK, hKK, hl⟩
  obtain ⟨h1, h2, h3⟩ := hT s hKK.2.2
  have hS : va_S (zA h0) s.heap s.heap [] := va_S.rf
  obtain ⟨g1, g2, g3, g4⟩ := h3 i hi
  have ei := had i (by omega)
  have ej := had (i + 10) (by omega)
  rw [← ei] at g1 g2 g3
  rw [← ej] at g3 g4
  refine lv_aload_n (x := ad i) hx hb zd_ch_0 rfl (hl.2.2.2 0 (.ref i) rfl (fun z => by cases z)) ?_
  refine zjcV (k := 0) (As' := []) (rest := []) hx hb hml hown hts hl.2.1 hh hW hK hKK hS hKS had (zc_la (d := d + 2) hKS hT hi) zj_l_la zj_m_la zj_s_la zj_ini_S zj_c_la ⟨by decide +kernel, by decide +kernel, by decide +kernel⟩ (Nat.le_of_ble_eq_true rfl) rfl ⟨Nat.le_refl _, by show 100 * (d + 2) + 100 ≤ 100 * ((d + 2) + 1); omega⟩ g1 rfl (Nat.le_of_ble_eq_true rfl) zd_ch_1 (fun H1 locs1 hW1 hS1 => ?_)
  refine lv_if_eq hx hb (tgt := 16) zd_ch_4 rfl (fun z => absurd z (by decide)) (fun _ => ?_)
  refine lv_aload_n (x := ad i) hx hb zd_ch_7 rfl (hl.2.2.2 0 (.ref i) rfl (fun z => by cases z)) ?_
  refine vk_getf (A := zA h0) hx hb g3 hS1 hown (hts _ zj_f_va) (fun _ h => h) zd_ch_8 ?_
  refine lv_iload_n (x := x) hx hb zd_ch_11 rfl (hl.2.2.2 1 (.int x) rfl (fun z => by cases z)) ?_
  refine zjcS (k := 2) (As' := [.ref (i + 10), .int x]) (rest := []) hx hb hml hown hts hl.2.1 hh hW1 hK hKK hS1 hKS had (zc_lc (d := d) hKS hT hfm hi hx0 hxy) zj_l_lc zj_m_lc zj_ini_L zj_c_lc ⟨by decide +kernel, by decide +kernel, by decide +kernel⟩ (Nat.le_of_ble_eq_true rfl) rfl ⟨Nat.le_refl _, by show 100 * (d + 2) + 100 ≤ 100 * ((d + 2) + 1); omega⟩ rfl (Nat.le_of_ble_eq_true rfl) zd_ch_12 (fun H2 locs2 hW2 hS2 => ?_)
  exact zjret hx hb hr hlk (zsb_ch _ (zsb_lt hi (zsb_getD hxy))).2 hW2 hS2 zd_ch_15
theorem zc_ca {d : Nat} {S : zSt} (hKS : zKst h0 KS) (hT : ∀ U, KS U → zKT adX fm h0 U) {x : Int32} : zMj l dC dI cI cR h0 KS adX d zy_ca prog_20_method_4_code 1 (some .boolean) [.int x] S (some (.int (if x < 0 ∨ 255 < x then 0 else 1))) := by
  refine zmj_of (by decide +kernel) (Nat.le_refl 1) ?_
  intro ad had p e s m below meth c sl ⟨hx, hb, hml, hown, hts, hr, hlk, hh, hW, hK, hKK, hl⟩
  obtain ⟨h1, h2, h3⟩ := hT s hKK.2.2
  have hS : va_S (zA h0) s.heap s.heap [] := va_S.rf
  refine lv_iload_n (x := x) hx hb zd_ca_0 rfl (hl.2.2.2 0 (.int x) rfl (fun z => by cases z)) ?_
  refine lv_if_lt hx hb (tgt := 15) zd_ca_1 rfl (fun z => ?_) (fun z => ?_)
  · rw [if_pos (Or.inl z)]
    refine lv_iconst (v := 0) hx hb zd_ca_15 (by decide) ?_
    exact zjret hx hb hr hlk (by decide) hW hS zd_ca_16
  · refine lv_iload_n (x := x) hx hb zd_ca_4 rfl (hl.2.2.2 0 (.int x) rfl (fun z => by cases z)) ?_
    refine lv_sipush (v := 255) hx hb zd_ca_5 (by decide) ?_
    refine lv_icmp_gt hx hb (tgt := 15) zd_ca_8 rfl (fun w => ?_) (fun w => ?_)
    · rw [if_pos (Or.inr w)]
      refine lv_iconst (v := 0) hx hb zd_ca_15 (by decide) ?_
      exact zjret hx hb hr hlk (by decide) hW hS zd_ca_16
    · rw [if_neg (fun q => q.elim z w)]
      refine lv_iconst (v := 1) hx hb zd_ca_11 (by decide) ?_
      refine lv_goto hx hb (tgt := 16) zd_ca_12 rfl ?_
      exact zjret hx hb hr hlk (by decide) hW hS zd_ca_16
theorem zix_drop {x : Int32} : ∀ (l : List Nat) (k : Nat), k < l.length → zix (l.drop k) x k = if nI (l.getD k 0) = x then nI k else zix (l.drop (k + 1)) x (k + 1) := by
  intro l k hk
  rw [List.drop_eq_getElem_cons hk, zix, List.getD_eq_getElem?_getD, List.getElem?_eq_getElem hk]
  rfl
theorem zby_eq {n c : Nat} (hn : n < 256) (hc : c < 128) : nI c = (nI n).toInt8.toInt32 ↔ nI c = nI n := by
  rcases zsb_by n hn with ⟨h1, h2⟩ | ⟨h1, h2⟩
  · rw [h2]
  · constructor
    · intro z
      rw [← z] at h2
      exact absurd h2 (nI_pos (by omega))
    · intro z
      have := (nI_eq (by omega) (by omega)).mp z
      omega
theorem zc_ic {d : Nat} {S : zSt} (hKS : zKst h0 KS) (hT : ∀ U, KS U → zKT adX fm h0 U) {i : Nat} (hi : i = 5000 ∨ i = 5001) {n : Nat} (hn : n < 256) : zMj l dC dI cI cR h0 KS adX d zy_ic prog_20_method_23_code 6 (some .int) [.ref (i + 10), .int (nI n), .int 0, .int (Int32.ofNat (zsb i).length)] S (some (.int (zix (zsb i) (nI n) 0))) := by
  refine zmj_of (by decide +kernel) (Nat.le_of_ble_eq_true rfl) ?_
  intro ad had p e s m below meth c sl ⟨hx, hb, hml, hown, hts, hr, hlk, hh, hW, hK, hKK, hl⟩
  obtain ⟨h1, h2, h3⟩ := hT s hKK.2.2
  have hS : va_S (zA h0) s.heap s.heap [] := va_S.rf
  obtain ⟨g1, g2, g3, g4⟩ := h3 i hi
  have ei := had i (by omega)
  have ej := had (i + 10) (by omega)
  rw [← ei] at g1 g2 g3
  rw [← ej] at g3 g4
  obtain ⟨q1, q2⟩ := zsb_len hi
  have hv : lv_has sl 6 [(0, .ref (ad (i + 10))), (1, .int (nI n)), (2, .int 0), (3, .int (Int32.ofNat (zsb i).length))] := zlv_has hl
  refine lv_iload_n (x := nI n) hx hb zd_ic_0 rfl (lv_at hv 1 rfl) ?_
  refine lv_i2b hx hb zd_ic_1 rfl ?_
  refine lv_istore hx hb (lv' := [(4, .int (nI n).toInt8.toInt32), (0, .ref (ad (i + 10))), (1, .int (nI n)), (2, .int 0), (3, .int (Int32.ofNat (zsb i).length))]) zd_ic_2 hv (by decide) rfl (fun sl1 hv1 => ?_)
  refine lv_iload_n (x := 0) hx hb zd_ic_4 rfl (lv_at hv1 3 rfl) ?_
  refine lv_istore hx hb (lv' := [(5, .int 0), (4, .int (nI n).toInt8.toInt32), (0, .ref (ad (i + 10))), (1, .int (nI n)), (2, .int 0), (3, .int (Int32.ofNat (zsb i).length))]) zd_ic_5 hv1 (by decide) rfl (fun sl2 hv2 => ?_)
  have loop : ∀ (j k : Nat) (sl : Array Slot), k + j = (zsb i).length → zix (zsb i) (nI n) 0 = zix ((zsb i).drop k) (nI n) k → lv_has sl 6 [(5, .int (nI k)), (4, .int (nI n).toInt8.toInt32), (0, .ref (ad (i + 10))), (1, .int (nI n)), (2, .int 0), (3, .int (Int32.ofNat (zsb i).length))] → W p l e (zrj d) s m (List.map (zcv ad) [.ref (i + 10), .int (nI n), .int 0, .int (Int32.ofNat (zsb i).length)]).toArray below meth c s.heap [] 0 0 (MQ below (zQc dC dI cI cR h0 ad S (some (.int (zix (zsb i) (nI n) 0))) S) (List.map (zcv ad) [.ref (i + 10), .int (nI n), .int 0, .int (Int32.ofNat (zsb i).length)]).toArray s 0 0 (zA h0)) (F0 m 7 sl []) := by
    intro j
    induction j with
    | zero =>
      intro k sl hk hz hv
      have hk : k = (zsb i).length := by omega
      refine lv_iload (x := nI k) hx hb zd_ic_7 (lv_at hv 0 rfl) ?_
      refine lv_iload_n (x := Int32.ofNat (zsb i).length) hx hb zd_ic_9 rfl (lv_at hv 5 rfl) ?_
      refine lv_icmp_ge hx hb (tgt := 31) zd_ic_10 rfl (fun _ => ?_) (fun z => absurd (nI_le (a := (zsb i).length) (b := k) (by omega) (by omega)) z)
      refine lv_iconst (v := -1) hx hb zd_ic_31 (by decide) ?_
      rw [hk, List.drop_length] at hz
      rw [hz]
      exact zjret hx hb hr hlk rfl hW hS zd_ic_32
    | succ j ih =>
      intro k sl hk hz hv
      have hk1 : k < (zsb i).length := by omega
      refine lv_iload (x := nI k) hx hb zd_ic_7 (lv_at hv 0 rfl) ?_
      refine lv_iload_n (x := Int32.ofNat (zsb i).length) hx hb zd_ic_9 rfl (lv_at hv 5 rfl) ?_
      refine lv_icmp_ge hx hb (tgt := 31) zd_ic_10 rfl (fun z => absurd z (nI_ge (a := k) (b := (zsb i).length) hk1 (by omega))) (fun _ => ?_)
      refine lv_aload_n (x := ad (i + 10)) hx hb zd_ic_13 rfl (lv_at hv 2 rfl) ?_
      refine lv_iload (x := nI k) hx hb zd_ic_14 (lv_at hv 0 rfl) ?_
      refine va_tb (A := zA h0) hx hb g4 hS (vp_in_nI hk1 (by omega)) (v := .int (nI ((zsb i).getD k 0))) (by rw [nI_clamp (by omega)]; rfl) zd_ic_16 ?_
      refine lv_iload (x := (nI n).toInt8.toInt32) hx hb zd_ic_17 (lv_at hv 1 rfl) ?_
      have hq := zby_eq hn (zsb_lt hi (zsb_getD hk1))
      rw [zix_drop _ _ hk1] at hz
      refine lv_icmp_ne hx hb (tgt := 25) zd_ic_19 rfl (fun z => ?_) (fun z => ?_)
      · rw [if_neg (fun w => z (hq.mpr w))] at hz
        refine lv_iinc hx hb (v := nI (k + 1)) (lv' := [(5, .int (nI (k + 1))), (4, .int (nI n).toInt8.toInt32), (0, .ref (ad (i + 10))), (1, .int (nI n)), (2, .int 0), (3, .int (Int32.ofNat (zsb i).length))]) (k := 0) zd_ic_25 hv rfl (nI_succ k).symm (by decide) rfl (fun sl1 hv1 => ?_)
        refine lv_goto hx hb (tgt := 7) zd_ic_28 rfl ?_
        exact ih (k + 1) sl1 (by omega) hz hv1
      · rw [if_pos (hq.mp z)] at hz
        refine lv_iload (x := nI k) hx hb zd_ic_22 (lv_at hv 0 rfl) ?_
        rw [hz]
        exact zjret hx hb hr hlk rfl hW hS zd_ic_24
  exact loop (zsb i).length 0 sl2 (by omega) rfl hv2
theorem zix_no {i : Nat} (hi : i = 5000 ∨ i = 5001) {x : Int32} (h : x < 0 ∨ 255 < x) : zix (zsb i) x 0 = -1 := by
  refine zix_out _ _ (fun c hc e => ?_)
  have hl := zsb_lt hi hc
  rw [← e] at h
  rcases h with h | h
  · exact nI_pos (n := c) (by omega) h
  · exact nI_nlt (a := 255) (b := c) (by omega) (by omega) h
theorem zc_li {d : Nat} {S : zSt} (hKS : zKst h0 KS) (hT : ∀ U, KS U → zKT adX fm h0 U) {i : Nat} (hi : i = 5000 ∨ i = 5001) {x : Int32} : zMj l dC dI cI cR h0 KS adX (d + 1) zy_li prog_20_method_22_code 4 (some .int) [.ref (i + 10), .int x, .int 0, .int (Int32.ofNat (zsb i).length)] S (some (.int (zix (zsb i) x 0))) := by
  refine zmj_of (by decide +kernel) (Nat.le_of_ble_eq_true rfl) ?_
  intro ad had p e s m below meth c sl ⟨hx, hb, hml, hown, hts, hr, hlk, hh, hW, hK, hKK, hl⟩
  obtain ⟨h1, h2, h3⟩ := hT s hKK.2.2
  have hS : va_S (zA h0) s.heap s.heap [] := va_S.rf
  obtain ⟨g1, g2, g3, g4⟩ := h3 i hi
  have ei := had i (by omega)
  have ej := had (i + 10) (by omega)
  rw [← ei] at g1 g2 g3
  rw [← ej] at g3 g4
  obtain ⟨q1, q2⟩ := zsb_len hi
  have hv : lv_has sl 4 [(0, .ref (ad (i + 10))), (1, .int x), (2, .int 0), (3, .int (Int32.ofNat (zsb i).length))] := zlv_has hl
  refine lv_iload_n (x := x) hx hb zd_li_0 rfl (lv_at hv 1 rfl) ?_
  refine zjcS (k := 1) (As' := [.int x]) (rest := []) hx hb hml hown hts hl.2.1 hh hW hK hKK hS hKS had (zc_ca (d := d) (x := x) hKS hT) zj_l_ca zj_m_ca zj_ini_L zj_c_ca ⟨by decide +kernel, by decide +kernel, by decide +kernel⟩ (Nat.le_of_ble_eq_true rfl) rfl ⟨Nat.le_refl _, by show 100 * d + 100 ≤ 100 * (d + 1); omega⟩ rfl (Nat.le_of_ble_eq_true rfl) zd_li_1 (fun H1 locs1 hW1 hS1 => ?_)
  refine lv_if_ne hx hb (tgt := 9) zd_li_4 rfl (fun z => ?_) (fun z => ?_)
  · have hin : ¬ (x < 0 ∨ 255 < x) := fun w => z (if_pos w)
    obtain ⟨n, hn, rfl⟩ := nI_of (fun w => hin (Or.inl w))
    have hn : n < 256 := by
      rcases Nat.lt_or_ge n 256 with q | q
      · exact q
      · exact absurd (Or.inr (nI_lt (a := 255) (b := n) (by omega) hn)) hin
    refine lv_iload_n (x := 0) hx hb zd_li_9 rfl (lv_at hv 2 rfl) ?_
    refine lv_iconst (v := 0) hx hb zd_li_10 (by decide) ?_
    refine va_mmax hx hb (hml.trans hl.2.1.symm) hown (hts _ zj_l_mx) (hts _ zj_m_mx) (hts _ zj_ini_M) (hts _ zj_c_mx) (by show 1 ≤ d + 1; omega) (by show 0 + 13 ≤ 100 * (d + 1); omega) (Nat.le_refl 0) (Nat.le_refl 0) zd_li_11 ?_
    refine lv_istore_n hx hb (lv' := [(2, .int 0), (0, .ref (ad (i + 10))), (1, .int (nI n)), (3, .int (Int32.ofNat (zsb i).length))]) zd_li_14 rfl hv (by decide) rfl (fun sl1 hv1 => ?_)
    refine lv_iload_n (x := Int32.ofNat (zsb i).length) hx hb zd_li_15 rfl (lv_at hv1 3 rfl) ?_
    refine lv_aload_n (x := ad (i + 10)) hx hb zd_li_16 rfl (lv_at hv1 1 rfl) ?_
    refine va_tlen (A := zA h0) hx hb g4 hS1 rfl zd_li_17 ?_
    refine va_mmin hx hb (hml.trans hv1.1.symm) hown (hts _ zj_l_mn) (hts _ zj_m_mn) (hts _ zj_ini_M) (hts _ zj_c_mn) (by show 1 ≤ d + 1; omega) (by show 0 + 13 ≤ 100 * (d + 1); omega) (Nat.le_refl 0) (Nat.le_refl 0) zd_li_18 ?_
    rw [ite_self]
    refine lv_istore_n hx hb (lv' := [(3, .int (Int32.ofNat (zsb i).length)), (2, .int 0), (0, .ref (ad (i + 10))), (1, .int (nI n))]) zd_li_21 rfl hv1 (by decide) rfl (fun sl2 hv2 => ?_)
    refine lv_iload_n (x := 0) hx hb zd_li_22 rfl (lv_at hv2 1 rfl) ?_
    refine lv_iload_n (x := Int32.ofNat (zsb i).length) hx hb zd_li_23 rfl (lv_at hv2 0 rfl) ?_
    refine lv_icmp_lt hx hb (tgt := 29) zd_li_24 rfl (fun _ => ?_) (fun z => absurd (nI_lt (a := 0) (b := (zsb i).length) q1 (by omega)) z)
    refine lv_aload_n (x := ad (i + 10)) hx hb zd_li_29 rfl (lv_at hv2 2 rfl) ?_
    refine lv_iload_n (x := nI n) hx hb zd_li_30 rfl (lv_at hv2 3 rfl) ?_
    refine lv_iload_n (x := 0) hx hb zd_li_31 rfl (lv_at hv2 1 rfl) ?_
    refine lv_iload_n (x := Int32.ofNat (zsb i).length) hx hb zd_li_32 rfl (lv_at hv2 0 rfl) ?_
    refine zjcS (k := 4) (As' := [.ref (i + 10), .int (nI n), .int 0, .int (Int32.ofNat (zsb i).length)]) (rest := []) hx hb hml hown hts hv2.1 hh hW1 hK hKK hS1 hKS had (zc_ic (d := d) hKS hT hi hn) zj_l_ic zj_m_ic zj_ini_L zj_c_ic ⟨by decide +kernel, by decide +kernel, by decide +kernel⟩ (Nat.le_of_ble_eq_true rfl) rfl ⟨Nat.le_refl _, by show 100 * d + 100 ≤ 100 * (d + 1); omega⟩ rfl (Nat.le_of_ble_eq_true rfl) zd_li_33 (fun H2 locs2 hW2 hS2 => ?_)
    exact zjret hx hb hr hlk rfl hW2 hS2 zd_li_36
  · have hin : x < 0 ∨ 255 < x := Classical.byContradiction (fun w => by rw [if_neg w] at z; exact absurd z (by decide))
    refine lv_iconst (v := -1) hx hb zd_li_7 (by decide) ?_
    rw [zix_no hi hin]
    exact zjret hx hb hr hlk rfl hW1 hS1 zd_li_8
theorem zc_i2 {d : Nat} {S : zSt} (hKS : zKst h0 KS) (hT : ∀ U, KS U → zKT adX fm h0 U) {i : Nat} (hi : i = 5000 ∨ i = 5001) {x : Int32} : zMj l dC dI cI cR h0 KS adX (d + 2) zy_i2 prog_19_method_80_code 3 (some .int) [.ref i, .int x, .int 0] S (some (.int (zix (zsb i) x 0))) := by
  refine zmj_of (by decide +kernel) (Nat.le_of_ble_eq_true rfl) ?_
  intro ad had p e s m below meth c sl ⟨hx, hb, hml, hown, hts, hr, hlk, hh, hW, hK, hKK, hl⟩
  obtain ⟨h1, h2, h3⟩ := hT s hKK.2.2
  have hS : va_S (zA h0) s.heap s.heap [] := va_S.rf
  obtain ⟨g1, g2, g3, g4⟩ := h3 i hi
  have ei := had i (by omega)
  have ej := had (i + 10) (by omega)
  rw [← ei] at g1 g2 g3
  rw [← ej] at g3 g4
  refine lv_aload_n (x := ad i) hx hb zd_i2_0 rfl (hl.2.2.2 0 (.ref i) rfl (fun z => by cases z)) ?_
  refine zjcV (k := 0) (As' := []) (rest := []) hx hb hml hown hts hl.2.1 hh hW hK hKK hS hKS had (zc_la (d := d + 1) hKS hT hi) zj_l_la zj_m_la zj_s_la zj_ini_S zj_c_la ⟨by decide +kernel, by decide +kernel, by decide +kernel⟩ (Nat.le_of_ble_eq_true rfl) rfl ⟨Nat.le_refl _, by show 100 * (d + 1) + 100 ≤ 100 * ((d + 1) + 1); omega⟩ g1 rfl (Nat.le_of_ble_eq_true rfl) zd_i2_1 (fun H1 locs1 hW1 hS1 => ?_)
  refine lv_if_eq hx hb (tgt := 23) zd_i2_4 rfl (fun z => absurd z (by decide)) (fun _ => ?_)
  refine lv_aload_n (x := ad i) hx hb zd_i2_7 rfl (hl.2.2.2 0 (.ref i) rfl (fun z => by cases z)) ?_
  refine vk_getf (A := zA h0) hx hb g3 hS1 hown (hts _ zj_f_va) (fun _ h => h) zd_i2_8 ?_
  refine lv_iload_n (x := x) hx hb zd_i2_11 rfl (hl.2.2.2 1 (.int x) rfl (fun z => by cases z)) ?_
  refine lv_iload_n (x := 0) hx hb zd_i2_12 rfl (hl.2.2.2 2 (.int 0) rfl (fun z => by cases z)) ?_
  refine lv_aload_n (x := ad i) hx hb zd_i2_13 rfl (hl.2.2.2 0 (.ref i) rfl (fun z => by cases z)) ?_
  refine zjcV (k := 0) (As' := []) (rest := [.int 0, .int x, .ref (ad (i + 10))]) hx hb hml hown hts hl.2.1 hh hW1 hK hKK hS1 hKS had (zc_le (d := d) hKS hT hi) zj_l_le zj_m_le zj_s_le zj_ini_S zj_c_le ⟨by decide +kernel, by decide +kernel, by decide +kernel⟩ (Nat.le_of_ble_eq_true rfl) rfl ⟨Nat.le_refl _, by show 100 * (d + 1) + 100 ≤ 100 * ((d + 1) + 1); omega⟩ g1 rfl (Nat.le_of_ble_eq_true rfl) zd_i2_14 (fun H2 locs2 hW2 hS2 => ?_)
  refine zjcS (k := 4) (As' := [.ref (i + 10), .int x, .int 0, .int (Int32.ofNat (zsb i).length)]) (rest := []) hx hb hml hown hts hl.2.1 hh hW2 hK hKK hS2 hKS had (zc_li (d := d) (x := x) hKS hT hi) zj_l_li zj_m_li zj_ini_L zj_c_li ⟨by decide +kernel, by decide +kernel, by decide +kernel⟩ (Nat.le_of_ble_eq_true rfl) rfl ⟨Nat.le_refl _, by show 100 * (d + 1) + 100 ≤ 100 * ((d + 1) + 1); omega⟩ rfl (Nat.le_of_ble_eq_true rfl) zd_i2_17 (fun H3 locs3 hW3 hS3 => ?_)
  refine lv_goto hx hb (tgt := 36) zd_i2_20 rfl ?_
  exact zjret hx hb hr hlk rfl hW3 hS3 zd_i2_36
theorem zc_i1 {d : Nat} {S : zSt} (hKS : zKst h0 KS) (hT : ∀ U, KS U → zKT adX fm h0 U) {i : Nat} (hi : i = 5000 ∨ i = 5001) {x : Int32} : zMj l dC dI cI cR h0 KS adX (d + 3) zy_i1 prog_19_method_79_code 2 (some .int) [.ref i, .int x] S (some (.int (zix (zsb i) x 0))) := by
  refine zmj_of (by decide +kernel) (Nat.le_of_ble_eq_true rfl) ?_
  intro ad had p e s m below meth c sl ⟨hx, hb, hml, hown, hts, hr, hlk, hh, hW, hK, hKK, hl⟩
  obtain ⟨h1, h2, h3⟩ := hT s hKK.2.2
  have hS : va_S (zA h0) s.heap s.heap [] := va_S.rf
  obtain ⟨g1, g2, g3, g4⟩ := h3 i hi
  have ei := had i (by omega)
  have ej := had (i + 10) (by omega)
  rw [← ei] at g1 g2 g3
  rw [← ej] at g3 g4
  refine lv_aload_n (x := ad i) hx hb zd_i1_0 rfl (hl.2.2.2 0 (.ref i) rfl (fun z => by cases z)) ?_
  refine lv_iload_n (x := x) hx hb zd_i1_1 rfl (hl.2.2.2 1 (.int x) rfl (fun z => by cases z)) ?_
  refine lv_iconst (v := 0) hx hb zd_i1_2 (by decide) ?_
  refine zjcV (k := 2) (As' := [.int x, .int 0]) (rest := []) hx hb hml hown hts hl.2.1 hh hW hK hKK hS hKS had (zc_i2 (d := d) (x := x) hKS hT hi) zj_l_i2 zj_m_i2 zj_s_i2 zj_ini_S zj_c_i2 ⟨by decide +kernel, by decide +kernel, by decide +kernel⟩ (Nat.le_of_ble_eq_true rfl) rfl ⟨Nat.le_refl _, by show 100 * (d + 2) + 100 ≤ 100 * ((d + 2) + 1); omega⟩ g1 rfl (Nat.le_of_ble_eq_true rfl) zd_i1_3 (fun H1 locs1 hW1 hS1 => ?_)
  exact zjret hx hb hr hlk rfl hW1 hS1 zd_i1_6
theorem zmj_met {d a : Nat} {As : List Value} {S : zSt} {r : Option Value} {y : MethodName} {cc : ByteArray} {n : Nat} {ret : Option FieldType} (h : zMj l dC dI cI cR h0 KS adX d y cc n ret As S r) (hz : zinf a = (y, cc, n, ret)) : zMet l dC dI cI cR h0 KS adX d a As S r S := by
  intro ad had
  have h1 := h ad had
  unfold zws zrm
  rw [hz, Nat.sub_self, Nat.sub_self]
  exact h1
theorem zstr2 (hKS : zKst h0 KS) (hT : ∀ U, KS U → zKT adX fm h0 U) (hfm : fm = .null ∨ fm = .ref 5004) : zStr2 l dC dI cI cR h0 KS adX := by
  intro d a As S v h9 hrc hz
  unfold zstr at hz
  split at hz
  next i =>
    have hi : i = 5000 ∨ i = 5001 := by
      simp only [zrc, if_pos h9, Bool.or_eq_true, beq_iff_eq] at hrc
      exact hrc
    split at hz
    next ha =>
      subst ha
      cases hz
      exact zmj_met (zc_le (d := d + 5) hKS hT hi) rfl
    next => cases hz
  next i x =>
    have hi : i = 5000 ∨ i = 5001 := by
      simp only [zrc, if_pos h9, Bool.or_eq_true, beq_iff_eq] at hrc
      exact hrc
    split at hz
    next ha =>
      subst ha
      split at hz
      next => cases hz
      next hx =>
        cases hz
        exact zmj_met (zc_ch (d := d + 3) hKS hT hfm hi (fun z => hx (Or.inl z)) (Nat.not_le.mp (fun z => hx (Or.inr z)))) rfl
    next =>
      split at hz
      next ha =>
        subst ha
        cases hz
        exact zmj_met (zc_i1 (d := d + 3) hKS hT hi) rfl
      next => cases hz
  next => cases hz
end ZJ2

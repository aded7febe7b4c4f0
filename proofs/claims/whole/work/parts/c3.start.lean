/-! THE TWO CONSTANTS AT THE LAW'S START, out of what the Statement gives -/
def zFl : List Cond := flatC (Jvm.Cond.and given_1 narrow_1)
def zsT (k : Nat) : Term := Term.string "HearsayOrchestra$Tape" k
def zsV (k : Nat) : Term := Term.field (zsT k) "java/lang/String" "value" "[B"
def zsWd (k i : Nat) : Bool := decide ((Cond.exactly (zsT k) "java/lang/String") ∈ zFl) && (decide ((Cond.eq (Term.field (zsT k) "java/lang/String" "coder" "B") (.int 0)) ∈ zFl) && (decide ((Cond.arrayOf (zsV k) .byte) ∈ zFl) && (decide ((Cond.eq (.length (zsV k)) (.int (Int32.ofNat (zsb i).length))) ∈ zFl) && (List.range (zsb i).length).all (fun j => decide ((Cond.eq (.elem (zsV k) (.int (Int32.ofNat j))) (.int (Int32.ofNat ((zsb i).getD j 0)))) ∈ zFl)))))
theorem zsWd_0 : zsWd 52 5000 = true := by decide +kernel
theorem zsWd_1 : zsWd 59 5001 = true := by decide +kernel
theorem zcs_ok : decide ((Cond.eq (Term.static "java/lang/String" "COMPACT_STRINGS" "Z") (.int 1)) ∈ zFl) = true := by decide +kernel
theorem zfm_ok : decide ((Cond.isRef (Term.static "jdk/internal/util/Preconditions" "SIOOBE_FORMATTER" "Ljava/util/function/BiFunction;")) ∈ zFl) = true := by decide +kernel
theorem zFl_of {args : Array Value} {s : State} (h : (Jvm.Cond.and given_1 narrow_1).before args s = true) {c : Cond} (hc : decide (c ∈ zFl) = true) : c.before args s = true := flat_of_before _ h c (of_decide_eq_true hc)
theorem zstr_at {args : Array Value} {s : State} {A : Nat → Prop} (h : (Jvm.Cond.and given_1 narrow_1).before args s = true) {k i : Nat} (hi : i = 5000 ∨ i = 5001) (hw : zsWd k i = true) (hA : ∀ a : Nat, a < s.heap.size → ¬ A a) :
    ∃ aK aV : Nat, (zsT k).eval args s none [] s = some (.ref aK) ∧ va_O "java/lang/String" aK A s s.heap ∧ va_OF "java/lang/String" "coder" "B" (.int 0) aK A s s.heap ∧ va_OF "java/lang/String" "value" "[B" (.ref aV) aK A s s.heap ∧ va_T .byte aV (zsb i).length (fun j => .int (Int32.ofNat ((zsb i).getD j 0))) A s s.heap := by
  simp only [zsWd, Bool.and_eq_true] at hw
  obtain ⟨w1, w2, w3, w4, w5⟩ := hw
  obtain ⟨a, c, cA, kA, q1, q2, q3, q4, q5, q6, -⟩ := Cond.exactly_spec (args := args) (first := s) (o := none) (s := s) (idx := []) (t := zsT k) (cls := "java/lang/String") (zFl_of h w1)
  have hN : (zsb i).length < 2 ^ 31 := by
    have := (zsb_len hi).2
    omega
  obtain ⟨t, ht, hT⟩ := va_Tof (tm := zsV k) (ty := .byte) (N := (zsb i).length) (f := fun j => .int (Int32.ofNat ((zsb i).getD j 0))) (A := A) hN (zFl_of h w3) (va_eqt (zFl_of h w4)) (fun j hj => va_eqt (zFl_of h (List.all_eq_true.mp w5 j (List.mem_range.mpr hj)))) hA
  exact ⟨a, t, q1, ⟨cA, q3, q5, by rw [q6]; exact q2, hA a (Array.getElem?_eq_some_iff.mp q3).1⟩, vk_OFof q1 (va_eqt (zFl_of h w2)) hA, vk_OFof q1 ht hA, hT⟩
theorem zj_lay_cs : Cond.laysStatic "java/lang/String" "COMPACT_STRINGS" "Z" ∈ lw_tbl := zat0_ok (p := 799) (by decide +kernel)
theorem zj_lay_fm : Cond.laysStatic "jdk/internal/util/Preconditions" "SIOOBE_FORMATTER" "Ljava/util/function/BiFunction;" ∈ lw_tbl := zat0_ok (p := 815) (by decide +kernel)
theorem zj_str_0 : Cond.stringRef "HearsayOrchestra$Tape" 52 ";+-*/()<=>" ∈ lw_tbl := zat0_ok (p := 842) (by decide +kernel)
theorem zj_str_1 : Cond.stringRef "HearsayOrchestra$Tape" 59 "hears slips bends when or and not loud ear far pillars off note wrong sounding beat at player seat tune hush pillar " ∈ lw_tbl := zat0_ok (p := 789) (by decide +kernel)
/-- what is known of the constants at their places in the class's own table -/
def zKR (adX : Nat → Nat) (U : State) : Prop := ∀ q ∈ zST, ∃ tx, vk_R (zR q.1) q.2.1 tx (adX q.2.2.1) U
theorem zKR_st {adX : Nat → Nat} {h0 : Nat} : zKst h0 (zKR adX) := by
  intro s U h hW hq q hm
  obtain ⟨tx, h1⟩ := h q hm
  exact ⟨tx, vk_R.warm hW h1⟩
theorem zKT_rcv {adX : Nat → Nat} {fm : Value} {h0 : Nat} {U : State} (h : zKT adX fm h0 U) {i : Nat} (hi : i = 5000 ∨ i = 5001) : ∃ cell : Cell, U.heap[adX i]? = some cell ∧ cell.vm.isStatics = false ∧ U.vm.findClass "java/lang/String" = some cell.cls ∧ adX i < h0 := by
  obtain ⟨⟨cell, c1, c2, c3, c4⟩, -⟩ := h.2.2 i hi
  exact ⟨cell, c1, c2, c3, Nat.not_le.mp c4⟩

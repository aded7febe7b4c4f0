/-! THE INTERPRETER: the classes' bytecode over cells with numbers. A cell's kind and what its references point at is the layout's, for good; the memory is ints and longs by cell and slot. -/
abbrev zI : Type := Instr × Nat × Nat
abbrev zTab : Type := List (List (Option zI))
abbrev zMe : Type := Nat × MethodName × ByteArray × Nat × Option FieldType × zTab
abbrev zSt : Type := Nat × Nat × List (Nat × Nat) × (Nat → Nat → Int32) × (Nat → Nat → Int64)
abbrev zRes : Type := Option (Option Value × zSt)
def zlk {α : Type} (l : List (List (Option α))) (k : Nat) : Option α := match l[k / 16]? with
  | some c => (match c[k % 16]? with
    | some o => o
    | none => none)
  | none => none
def zlay (i : Nat) : Option (Nat × List Nat) := zlk zLt i
def zP (a : Nat) : Option zMe := zlk zPt a
def zin (r : List (Nat × Nat)) (i k : Nat) : Bool := match r with
  | [] => false
  | q :: t => (q.1 == i && q.2 == k) || zin t i k
def zuI (f : Nat → Nat → Int32) (i k : Nat) (x : Int32) : Nat → Nat → Int32 := fun a b => if a = i then (if b = k then x else f a b) else f a b
def zuL (f : Nat → Nat → Int64) (i k : Nat) (x : Int64) : Nat → Nat → Int64 := fun a b => if a = i then (if b = k then x else f a b) else f a b
def zrI (f : Nat → Nat → Int32) (i : Nat) (g : Nat → Int32) : Nat → Nat → Int32 := fun a => if a = i then g else f a
def zrL (f : Nat → Nat → Int64) (i : Nat) (g : Nat → Int64) : Nat → Nat → Int64 := fun a => if a = i then g else f a
def zgfK (S : zSt) (i a b : Nat) (k : Value → zRes) : zRes := match zlay i with
  | some (ci, ks) => if ci = a ∧ i < S.1 then (match ks[b]? with
    | some 0 => k (.int (S.2.2.2.1 i b))
    | some 1 => k (.int (S.2.2.2.1 i b))
    | some 2 => k (.long (S.2.2.2.2 i b))
    | some (j + 3) => (match zin S.2.2.1 i b with
      | true => none
      | false => k (.ref j))
    | none => none) else none
  | none => none
def zpfK (S : zSt) (i a b : Nat) (v : Value) (k : zSt → zRes) : zRes := match zlay i with
  | some (ci, ks) => if ci = a ∧ i < S.1 then (match ks[b]? with
    | some 0 => (match v with
      | .int x => k (S.1, S.2.1, S.2.2.1, zuI S.2.2.2.1 i b x, S.2.2.2.2)
      | _ => none)
    | some 1 => (match v with
      | .int x => if x = 0 ∨ x = 1 then k (S.1, S.2.1, S.2.2.1, zuI S.2.2.2.1 i b x, S.2.2.2.2) else none
      | _ => none)
    | some 2 => (match v with
      | .long x => k (S.1, S.2.1, S.2.2.1, S.2.2.2.1, zuL S.2.2.2.2 i b x)
      | _ => none)
    | some (j + 3) => (match v with
      | .ref q => if q = j ∧ q < S.1 then k (S.1, S.2.1, S.2.2.1.filter (fun r => !(r.1 == i && r.2 == b)), S.2.2.2.1, S.2.2.2.2) else none
      | _ => none)
    | none => none) else none
  | none => none
def zalK (X : Nat × (Nat → Int32)) (S : zSt) (i : Nat) (x : Int32) (k : Int32 → zRes) : zRes :=
  if i = 7777 then (if x < 0 ∨ X.1 ≤ x.toNatClampNeg then none else k (X.2 x.toNatClampNeg)) else match zlay i with
  | some (ci, ks) => if ci = 100 ∧ i < S.1 then (if x < 0 ∨ ks.headD 0 ≤ x.toNatClampNeg then none else k (S.2.2.2.1 i x.toNatClampNeg)) else none
  | none => none
def zasK (S : zSt) (i : Nat) (x v : Int32) (k : zSt → zRes) : zRes := match zlay i with
  | some (ci, ks) => if ci = 100 ∧ i < S.1 then (if x < 0 ∨ ks.headD 0 ≤ x.toNatClampNeg then none else k (S.1, S.2.1, S.2.2.1, zuI S.2.2.2.1 i x.toNatClampNeg v, S.2.2.2.2)) else none
  | none => none
def zlnK (X : Nat × (Nat → Int32)) (S : zSt) (i : Nat) (k : Int32 → zRes) : zRes :=
  if i = 7777 then k (Int32.ofNat X.1) else match zlay i with
  | some (ci, ks) => if ci = 100 ∧ i < S.1 then k (Int32.ofNat (ks.headD 0)) else if ci = 101 ∧ i < S.1 then k (Int32.ofNat ks.length) else none
  | none => none
def zaaK (S : zSt) (i : Nat) (x : Int32) (k : Nat → zRes) : zRes := match zlay i with
  | some (ci, ks) => if ci = 101 ∧ i < S.1 then (if x < 0 ∨ ks.length ≤ x.toNatClampNeg then none else match zin S.2.2.1 i x.toNatClampNeg with
    | true => none
    | false => (match ks[x.toNatClampNeg]? with
      | some j => k j
      | none => none)) else none
  | none => none
def zraK (S : zSt) (i : Nat) (x : Int32) (q : Nat) (k : zSt → zRes) : zRes := match zlay i with
  | some (ci, ks) => if ci = 101 ∧ i < S.1 then (if x < 0 ∨ ks.length ≤ x.toNatClampNeg then none else (match ks[x.toNatClampNeg]? with
      | some j => if q = j ∧ q < S.1 ∧ (zlay q).map (fun p => p.1) = some 2 then k (S.1, S.2.1, S.2.2.1.filter (fun r => !(r.1 == i && r.2 == x.toNatClampNeg)), S.2.2.2.1, S.2.2.2.2) else none
      | none => none)) else none
  | none => none
/-- the references among values stay below so many cells -/
def zok (n : Nat) : List Value → Bool
  | [] => true
  | .ref q :: t => (decide (q < n) || decide (5000 ≤ q)) && zok n t
  | _ :: t => zok n t
def znr (i : Nat) : Nat → List Nat → List (Nat × Nat)
  | _, [] => []
  | k, 0 :: t => znr i (k + 1) t
  | k, 1 :: t => znr i (k + 1) t
  | k, 2 :: t => znr i (k + 1) t
  | k, (_ + 3) :: t => (i, k) :: znr i (k + 1) t
def znwK (S : zSt) (C : Nat) (k : zSt → zRes) : zRes := match zlay S.1 with
  | some (ci, ks) => if ci = C ∧ C < 13 then k (S.1 + 1, S.2.1 + ks.length, znr S.1 0 ks ++ S.2.2.1, zrI S.2.2.2.1 S.1 (fun _ => 0), zrL S.2.2.2.2 S.1 (fun _ => 0)) else none
  | none => none
def znaK (S : zSt) (n : Int32) (k : zSt → zRes) : zRes := match zlay S.1 with
  | some (ci, ks) => if ci = 100 ∧ ¬ n < 0 ∧ n.toNatClampNeg = ks.headD 0 ∧ ks.headD 0 ≤ 100000 then k (S.1 + 1, S.2.1 + ks.headD 0, S.2.2.1, zrI S.2.2.2.1 S.1 (fun _ => 0), S.2.2.2.2) else none
  | none => none
def zqaK (S : zSt) (n : Int32) (k : zSt → zRes) : zRes := match zlay S.1 with
  | some (ci, ks) => if ci = 101 ∧ ¬ n < 0 ∧ n.toNatClampNeg = ks.length ∧ ks.length ≤ 100000 then k (S.1 + 1, S.2.1 + ks.length, (List.range ks.length).map (fun j => (S.1, j)) ++ S.2.2.1, S.2.2.2.1, S.2.2.2.2) else none
  | none => none
def zcpK (S : zSt) (i : Nat) (sp : Int32) (j : Nat) (dp n : Int32) (k : zSt → zRes) : zRes := match zlay i, zlay j with
  | some (c1, k1), some (c2, k2) => if c1 = 100 ∧ c2 = 100 ∧ i < S.1 ∧ j < S.1 then (if ¬ sp < 0 ∧ ¬ dp < 0 ∧ ¬ n < 0 ∧ sp.toNatClampNeg + n.toNatClampNeg ≤ k1.headD 0 ∧ dp.toNatClampNeg + n.toNatClampNeg ≤ k2.headD 0 then
      k (S.1, S.2.1, S.2.2.1, zrI S.2.2.2.1 j (va_cpy (S.2.2.2.1 i) (S.2.2.2.1 j) sp.toNatClampNeg dp.toNatClampNeg n.toNatClampNeg), S.2.2.2.2) else none) else none
  | _, _ => none
/-- locals: null is what isn't known -/
def zst (ls : List Value) (i : Nat) (v : Value) : List Value := match i with
  | 0 => ls.set 0 v
  | j + 1 => (match ls[j]? with
    | some (.long _) => (ls.set j .null).set (j + 1) v
    | some (.double _) => (ls.set j .null).set (j + 1) v
    | _ => ls.set (j + 1) v)
def zst2 (ls : List Value) (i : Nat) (v : Value) : List Value := (zst ls i v).set (i + 1) .null
def zpop : Nat → List Value → List Value → Option (List Value × List Value)
  | 0, st, acc => some (acc, st)
  | _ + 1, [], _ => none
  | k + 1, v :: st, acc => zpop k st (v :: acc)
def zw : List Value → Nat
  | [] => 0
  | v :: t => v.category + zw t
def zrc (a : Nat) (As : List Value) (S : zSt) : Bool := match As with
  | .ref i :: _ => if 9000 ≤ a then (i == 5000 || i == 5001) else decide (i < S.1) && (match zlay i with
    | some (ci, _) => (match zP a with
      | some M => ci == M.1 && decide (ci < 13)
      | none => false)
    | none => false)
  | _ => false
def zini : List Value → List Value
  | [] => []
  | .long x :: t => .long x :: .null :: zini t
  | .double x :: t => .double x :: .null :: zini t
  | v :: t => v :: zini t
def zpad (n : Nat) (l : List Value) : List Value := l ++ List.replicate (n - l.length) .null
def zhd : List Value → Bool
  | .ref _ :: _ => true
  | _ => false
def zcall (cf : Nat → List Value → zSt → zRes) (ck : List Value → Bool) (a b : Nat) (ls st : List Value) (S : zSt) (k : List Value → zSt → zRes) : zRes := match zpop b st [] with
  | none => none
  | some (As, rest) => if zw rest ≤ 8 ∧ ck As = true then (match cf a As S with
    | none => none
    | some (r, S1) => if S1.1 = S.1 ∨ (zok S.1 ls = true ∧ zok S.1 rest = true) then k (r.toList ++ rest) S1 else none) else none
def zcmp : ClassFile.Cond → Int32 → Int32 → Bool
  | .eq, x, y => decide (x = y)
  | .ne, x, y => decide (¬ x = y)
  | .lt, x, y => decide (x < y)
  | .ge, x, y => decide (y ≤ x)
  | .gt, x, y => decide (y < x)
  | .le, x, y => decide (x ≤ y)
def zstp (X : Nat × (Nat → Int32)) (cf : Nat → List Value → zSt → zRes) (M : zMe) : Nat → Nat → List Value → List Value → zSt → zRes
  | 0, _, _, _, _ => none
  | n + 1, pc, ls, st, S => match zlk M.2.2.2.2.2 pc with
    | none => none
    | some (ins, a, b) => match ins with
      | .aload_n i => (match ls[i.val]? with
        | some (.ref q) => zstp X cf M n (pc + 1) ls (.ref q :: st) S
        | _ => none)
      | .aload i => (match ls[i]? with
        | some (.ref q) => zstp X cf M n (pc + 2) ls (.ref q :: st) S
        | _ => none)
      | .iload_n i => (match ls[i.val]? with
        | some (.int q) => zstp X cf M n (pc + 1) ls (.int q :: st) S
        | _ => none)
      | .iload i => (match ls[i]? with
        | some (.int q) => zstp X cf M n (pc + 2) ls (.int q :: st) S
        | _ => none)
      | .lload_n i => (match ls[i.val]? with
        | some (.long q) => zstp X cf M n (pc + 1) ls (.long q :: st) S
        | _ => none)
      | .lload i => (match ls[i]? with
        | some (.long q) => zstp X cf M n (pc + 2) ls (.long q :: st) S
        | _ => none)
      | .astore_n i => (match st with
        | .ref q :: r => zstp X cf M n (pc + 1) (zst ls i.val (.ref q)) r S
        | _ => none)
      | .astore i => (match st with
        | .ref q :: r => zstp X cf M n (pc + 2) (zst ls i (.ref q)) r S
        | _ => none)
      | .istore_n i => (match st with
        | .int q :: r => zstp X cf M n (pc + 1) (zst ls i.val (.int q)) r S
        | _ => none)
      | .istore i => (match st with
        | .int q :: r => zstp X cf M n (pc + 2) (zst ls i (.int q)) r S
        | _ => none)
      | .lstore_n i => (match st with
        | .long q :: r => zstp X cf M n (pc + 1) (zst2 ls i.val (.long q)) r S
        | _ => none)
      | .lstore i => (match st with
        | .long q :: r => zstp X cf M n (pc + 2) (zst2 ls i (.long q)) r S
        | _ => none)
      | .iinc i d => (match ls[i]? with
        | some (.int q) => zstp X cf M n (pc + 3) (zst ls i (.int (q + Int32.ofInt d))) st S
        | _ => none)
      | .iconst v => zstp X cf M n (pc + 1) ls (.int (Int32.ofInt v) :: st) S
      | .bipush v => zstp X cf M n (pc + 2) ls (.int (Int8.ofInt v).toInt32 :: st) S
      | .sipush v => zstp X cf M n (pc + 3) ls (.int (Int16.ofInt v).toInt32 :: st) S
      | .lconst v => zstp X cf M n (pc + 1) ls (.long (Int64.ofNat v.val) :: st) S
      | .ldc _ => if b = 0 then zstp X cf M n (pc + 2) ls (.int (Int32.ofNat a) :: st) S else zstp X cf M n (pc + 2) ls (.ref a :: st) S
      | .ldc_w _ => zstp X cf M n (pc + 3) ls (.int (Int32.ofNat a) :: st) S
      | .ldc2_w _ => zstp X cf M n (pc + 3) ls (.long (Int64.ofNat a) :: st) S
      | .iadd => (match st with
        | .int y :: .int x :: r => zstp X cf M n (pc + 1) ls (.int (x + y) :: r) S
        | _ => none)
      | .isub => (match st with
        | .int y :: .int x :: r => zstp X cf M n (pc + 1) ls (.int (x - y) :: r) S
        | _ => none)
      | .imul => (match st with
        | .int y :: .int x :: r => zstp X cf M n (pc + 1) ls (.int (x * y) :: r) S
        | _ => none)
      | .iand => (match st with
        | .int y :: .int x :: r => zstp X cf M n (pc + 1) ls (.int (x &&& y) :: r) S
        | _ => none)
      | .ior => (match st with
        | .int y :: .int x :: r => zstp X cf M n (pc + 1) ls (.int (x ||| y) :: r) S
        | _ => none)
      | .ixor => (match st with
        | .int y :: .int x :: r => zstp X cf M n (pc + 1) ls (.int (x ^^^ y) :: r) S
        | _ => none)
      | .idiv => (match st with
        | .int y :: .int x :: r => if y = 0 then none else zstp X cf M n (pc + 1) ls (.int (x / y) :: r) S
        | _ => none)
      | .irem => (match st with
        | .int y :: .int x :: r => if y = 0 then none else zstp X cf M n (pc + 1) ls (.int (x - x / y * y) :: r) S
        | _ => none)
      | .ineg => (match st with
        | .int x :: r => zstp X cf M n (pc + 1) ls (.int (-x) :: r) S
        | _ => none)
      | .ishl => (match st with
        | .int y :: .int x :: r => zstp X cf M n (pc + 1) ls (.int (x <<< (y &&& 31)) :: r) S
        | _ => none)
      | .ishr => (match st with
        | .int y :: .int x :: r => zstp X cf M n (pc + 1) ls (.int (x >>> (y &&& 31)) :: r) S
        | _ => none)
      | .iushr => (match st with
        | .int y :: .int x :: r => zstp X cf M n (pc + 1) ls (.int (x.toUInt32 >>> (y.toUInt32 &&& Int32.toUInt32 31)).toInt32 :: r) S
        | _ => none)
      | .ladd => (match st with
        | .long y :: .long x :: r => zstp X cf M n (pc + 1) ls (.long (x + y) :: r) S
        | _ => none)
      | .lsub => (match st with
        | .long y :: .long x :: r => zstp X cf M n (pc + 1) ls (.long (x - y) :: r) S
        | _ => none)
      | .land => (match st with
        | .long y :: .long x :: r => zstp X cf M n (pc + 1) ls (.long (x &&& y) :: r) S
        | _ => none)
      | .lor => (match st with
        | .long y :: .long x :: r => zstp X cf M n (pc + 1) ls (.long (x ||| y) :: r) S
        | _ => none)
      | .lshl => (match st with
        | .int y :: .long x :: r => zstp X cf M n (pc + 1) ls (.long (x <<< (y.toInt64 &&& 63)) :: r) S
        | _ => none)
      | .lushr => (match st with
        | .int y :: .long x :: r => zstp X cf M n (pc + 1) ls (.long (x.toUInt64 >>> (y.toInt64.toUInt64 &&& Int64.toUInt64 63)).toInt64 :: r) S
        | _ => none)
      | .lcmp => (match st with
        | .long y :: .long x :: r => zstp X cf M n (pc + 1) ls (.int (lg_cmp x y) :: r) S
        | _ => none)
      | .l2i => (match st with
        | .long x :: r => zstp X cf M n (pc + 1) ls (.int x.toInt32 :: r) S
        | _ => none)
      | .i2c => (match st with
        | .int x :: r => zstp X cf M n (pc + 1) ls (.int (x.toUInt32 % 65536).toInt32 :: r) S
        | _ => none)
      | .dup => (match st with
        | .int x :: r => zstp X cf M n (pc + 1) ls (.int x :: .int x :: r) S
        | .ref x :: r => zstp X cf M n (pc + 1) ls (.ref x :: .ref x :: r) S
        | _ => none)
      | .dup2 => (match st with
        | .int x :: .ref y :: r => zstp X cf M n (pc + 1) ls (.int x :: .ref y :: .int x :: .ref y :: r) S
        | _ => none)
      | .pop => (match st with
        | .int _ :: r => zstp X cf M n (pc + 1) ls r S
        | _ => none)
      | .goto _ => zstp X cf M n a ls st S
      | .if_icmp c _ => (match st with
        | .int y :: .int x :: r => (match c with
          | .eq => if x = y then zstp X cf M n a ls r S else zstp X cf M n (pc + 3) ls r S
          | .ne => if x = y then zstp X cf M n (pc + 3) ls r S else zstp X cf M n a ls r S
          | .lt => if x < y then zstp X cf M n a ls r S else zstp X cf M n (pc + 3) ls r S
          | .ge => if y ≤ x then zstp X cf M n a ls r S else zstp X cf M n (pc + 3) ls r S
          | .gt => if y < x then zstp X cf M n a ls r S else zstp X cf M n (pc + 3) ls r S
          | .le => if x ≤ y then zstp X cf M n a ls r S else zstp X cf M n (pc + 3) ls r S)
        | _ => none)
      | .ifCond c _ => (match st with
        | .int x :: r => (match c with
          | .eq => if x = 0 then zstp X cf M n a ls r S else zstp X cf M n (pc + 3) ls r S
          | .ne => if x = 0 then zstp X cf M n (pc + 3) ls r S else zstp X cf M n a ls r S
          | .lt => if x < 0 then zstp X cf M n a ls r S else zstp X cf M n (pc + 3) ls r S
          | .ge => if 0 ≤ x then zstp X cf M n a ls r S else zstp X cf M n (pc + 3) ls r S
          | .gt => if 0 < x then zstp X cf M n a ls r S else zstp X cf M n (pc + 3) ls r S
          | .le => if x ≤ 0 then zstp X cf M n a ls r S else zstp X cf M n (pc + 3) ls r S)
        | _ => none)
      | .tableswitch d lo hi offs => (match st with
        | .int x :: r => if x.toInt < lo ∨ hi < x.toInt then (if 0 ≤ (pc : Int) + d then zstp X cf M n ((pc : Int) + d).toNat ls r S else none) else (match offs[(x.toInt - lo).toNat]? with
          | some o => if 0 ≤ (pc : Int) + o then zstp X cf M n ((pc : Int) + o).toNat ls r S else none
          | none => none)
        | _ => none)
      | .lookupswitch d ps => (match st with
        | .int x :: r => if 0 ≤ (pc : Int) + Op.lookupswitch.offset ps.toList d x.toInt then zstp X cf M n ((pc : Int) + Op.lookupswitch.offset ps.toList d x.toInt).toNat ls r S else none
        | _ => none)
      | .iaload => (match st with
        | .int x :: .ref i :: r => zalK X S i x (fun v => zstp X cf M n (pc + 1) ls (.int v :: r) S)
        | _ => none)
      | .iastore => (match st with
        | .int v :: .int x :: .ref i :: r => zasK S i x v (fun S1 => zstp X cf M n (pc + 1) ls r S1)
        | _ => none)
      | .aaload => (match st with
        | .int x :: .ref i :: r => zaaK S i x (fun v => zstp X cf M n (pc + 1) ls (.ref v :: r) S)
        | _ => none)
      | .aastore => (match st with
        | .ref v :: .int x :: .ref i :: r => zraK S i x v (fun S1 => zstp X cf M n (pc + 1) ls r S1)
        | _ => none)
      | .arraylength => (match st with
        | .ref i :: r => zlnK X S i (fun v => zstp X cf M n (pc + 1) ls (.int v :: r) S)
        | _ => none)
      | .getfield _ => (match st with
        | .ref i :: r => zgfK S i a b (fun v => zstp X cf M n (pc + 3) ls (v :: r) S)
        | _ => none)
      | .putfield _ => (match st with
        | v :: .ref i :: r => zpfK S i a b v (fun S1 => zstp X cf M n (pc + 3) ls r S1)
        | _ => none)
      | .new _ => if zok S.1 ls = true ∧ zok S.1 st = true then znwK S a (fun S1 => zstp X cf M n (pc + 3) ls (.ref S.1 :: st) S1) else none
      | .newarray _ => (match st with
        | .int x :: r => if zok S.1 ls = true ∧ zok S.1 r = true then znaK S x (fun S1 => zstp X cf M n (pc + 2) ls (.ref S.1 :: r) S1) else none
        | _ => none)
      | .anewarray _ => (match st with
        | .int x :: r => if zok S.1 ls = true ∧ zok S.1 r = true then zqaK S x (fun S1 => zstp X cf M n (pc + 3) ls (.ref S.1 :: r) S1) else none
        | _ => none)
      | .invokevirtual _ => zcall cf (fun As => zrc a As S) a (b + 1) ls st S (fun st1 S1 => zstp X cf M n (pc + 3) ls st1 S1)
      | .invokestatic _ => if a = 9999 then (match st with
          | .int k :: .int dp :: .ref j :: .int sp :: .ref i :: r => if zw r ≤ 8 then zcpK S i sp j dp k (fun S1 => zstp X cf M n (pc + 3) ls r S1) else none
          | _ => none) else zcall cf (fun _ => true) a b ls st S (fun st1 S1 => zstp X cf M n (pc + 3) ls st1 S1)
      | .invokespecial _ => if a = 9998 then (match st with
          | .ref _ :: r => if zw r ≤ 8 then zstp X cf M n (pc + 3) ls r S else none
          | _ => none) else zcall cf zhd a (b + 1) ls st S (fun st1 S1 => zstp X cf M n (pc + 3) ls st1 S1)
      | .ireturn => (match st with
        | [.int v] => (match M.2.2.2.2.1 with
          | some .boolean => if v = 0 ∨ v = 1 then some (some (.int v), S) else none
          | some .int => some (some (.int v), S)
          | _ => none)
        | _ => none)
      | .return_ => (match st with
        | [] => (match M.2.2.2.2.1 with
          | none => some (none, S)
          | _ => none)
        | _ => none)
      | _ => none

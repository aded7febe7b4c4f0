/-! WHAT MUST HOLD for a method to come to its end with Q: computed along the code; at a cut it asks for what holds there; a call of a method that is in 'op' stays a call -/
abbrev zQ : Type := Option Value → zSt → Prop
/-- the state in which all cells are made and no reference is null -/
abbrev zs (f : Nat → Nat → Int32) (g : Nat → Nat → Int64) : zSt := (212, 14525, [], f, g)
def zCp (X : Nat × (Nat → Int32)) (d a : Nat) (As : List Value) (S : zSt) (Q : zQ) : Prop := ∃ n r S', zrun X d n a As S = some (r, S') ∧ S'.1 = S.1 ∧ Q r S'
def zWp (X : Nat × (Nat → Int32)) (d : Nat) (M : zMe) (pc : Nat) (ls st : List Value) (S : zSt) (Q : zQ) : Prop := ∃ N n r S', zstp X (zrun X d N) M n pc ls st S = some (r, S') ∧ S'.1 = S.1 ∧ Q r S'
def zCpi (X : Nat × (Nat → Int32)) (d a : Nat) (As : List Value) (S : zSt) (K : Int32 → (Nat → Nat → Int32) → (Nat → Nat → Int64) → Prop) : Prop := zCp X d a As S (fun r S1 => ∃ v f g, r = some (.int v) ∧ S1 = zs f g ∧ K v f g)
def zCpv (X : Nat × (Nat → Int32)) (d a : Nat) (As : List Value) (S : zSt) (K : (Nat → Nat → Int32) → (Nat → Nat → Int64) → Prop) : Prop := zCp X d a As S (fun r S1 => ∃ f g, r = none ∧ S1 = zs f g ∧ K f g)
def zlit (v : Int) : Int32 := match v with
  | .ofNat k => Int32.ofNat k
  | .negSucc k => -(Int32.ofNat (k + 1))
def zgW (c : Nat) (rr : List (Nat × Nat)) (f : Nat → Nat → Int32) (g : Nat → Nat → Int64) (i a b : Nat) (k : Value → Prop) : Prop := match zlay i with
  | some (ci, ks) => match decide (ci = a ∧ i < c) with
   | true => (match ks[b]? with
    | some 0 => k (.int (f i b))
    | some 1 => k (.int (f i b))
    | some 2 => k (.long (g i b))
    | some (j + 3) => (match zin rr i b with
      | true => False
      | false => k (.ref j))
    | none => False)
   | false => False
  | none => False
def zpW (c z : Nat) (rr : List (Nat × Nat)) (f : Nat → Nat → Int32) (g : Nat → Nat → Int64) (i a b : Nat) (v : Value) (k : zSt → Prop) : Prop := match zlay i with
  | some (ci, ks) => match decide (ci = a ∧ i < c) with
   | true => (match ks[b]? with
    | some 0 => (match v with
      | .int x => k (c, z, rr, zuI f i b x, g)
      | _ => False)
    | some 1 => (match v with
      | .int x => if x = 0 ∨ x = 1 then k (c, z, rr, zuI f i b x, g) else False
      | _ => False)
    | some 2 => (match v with
      | .long x => k (c, z, rr, f, zuL g i b x)
      | _ => False)
    | _ => False)
   | false => False
  | none => False
def zalW (X : Nat × (Nat → Int32)) (c : Nat) (f : Nat → Nat → Int32) (i : Nat) (x : Int32) (k : Int32 → Prop) : Prop :=
  match decide (i = 7777) with
  | true => (if x < 0 ∨ X.1 ≤ x.toNatClampNeg then False else k (X.2 x.toNatClampNeg))
  | false => match zlay i with
    | some (ci, ks) => (match decide (ci = 100 ∧ i < c) with
      | true => (if x < 0 ∨ ks.headD 0 ≤ x.toNatClampNeg then False else k (f i x.toNatClampNeg))
      | false => False)
    | none => False
def zasW (c z : Nat) (rr : List (Nat × Nat)) (f : Nat → Nat → Int32) (g : Nat → Nat → Int64) (i : Nat) (x v : Int32) (k : zSt → Prop) : Prop := match zlay i with
  | some (ci, ks) => (match decide (ci = 100 ∧ i < c) with
    | true => (if x < 0 ∨ ks.headD 0 ≤ x.toNatClampNeg then False else k (c, z, rr, zuI f i x.toNatClampNeg v, g))
    | false => False)
  | none => False
def zlnW (X : Nat × (Nat → Int32)) (c : Nat) (i : Nat) (k : Int32 → Prop) : Prop :=
  match decide (i = 7777) with
  | true => k (Int32.ofNat X.1)
  | false => match zlay i with
    | some (ci, ks) => (match decide (ci = 100 ∧ i < c) with
      | true => k (Int32.ofNat (ks.headD 0))
      | false => False)
    | none => False
def zaaW (c : Nat) (rr : List (Nat × Nat)) (i : Nat) (x : Int32) (k : Nat → Prop) : Prop := match zlay i with
  | some (ci, ks) => (match decide (ci = 101 ∧ i < c) with
   | true => (match rr with
    | [] => if x < 0 ∨ ks.length ≤ x.toNatClampNeg then False else k (ks.getD x.toNatClampNeg 0)
    | _ :: _ => False)
   | false => False)
  | none => False
def zcpW (c z : Nat) (rr : List (Nat × Nat)) (f : Nat → Nat → Int32) (g : Nat → Nat → Int64) (i : Nat) (sp : Int32) (j : Nat) (dp n : Int32) (k : zSt → Prop) : Prop := match zlay i, zlay j with
  | some (c1, k1), some (c2, k2) => (match decide ((c1 = 100 ∧ c2 = 100) ∧ i < c ∧ j < c) with
   | true => (if ¬ sp < 0 ∧ ¬ dp < 0 ∧ ¬ n < 0 ∧ sp.toNatClampNeg + n.toNatClampNeg ≤ k1.headD 0 ∧ dp.toNatClampNeg + n.toNatClampNeg ≤ k2.headD 0 then
      k (c, z, rr, zrI f j (va_cpy (f i) (f j) sp.toNatClampNeg dp.toNatClampNeg n.toNatClampNeg), g) else False)
   | false => False)
  | _, _ => False
/-- a list with its spine laid open -/
def zfrc : List Value → (List Value → Prop) → Prop
  | [], k => k []
  | v :: t, k => zfrc t (fun u => k (v :: u))
theorem zfrc_eq : ∀ (l : List Value) (k : List Value → Prop), zfrc l k = k l
  | [], k => rfl
  | v :: t, k => zfrc_eq t (fun u => k (v :: u))
/-- a call, in a state in which all is made -/
def zclW (cw : Nat → List Value → zSt → zQ → Prop) (ck : List Value → Bool) (a b : Nat) (st : List Value) (S : zSt) (k : List Value → zSt → Prop) : Prop := match zpop b st [] with
  | none => False
  | some (As, rest) => (match decide (zw rest ≤ 8) with
   | true => (match ck As with
    | true => cw a As S (fun r S1 => k (r.toList ++ rest) S1)
    | false => False)
   | false => False)
def ztg (k : Nat → Prop) (pc : Nat) (o : Int) : Prop := match decide (0 ≤ (pc : Int) + o) with
  | true => k ((pc : Int) + o).toNat
  | false => False
def zts (x : Int32) (k : Nat → Prop) (pc : Nat) (d : Int) : Int → List Int → Prop
  | _, [] => ztg k pc d
  | v, o :: t => if x = zlit v then ztg k pc o else zts x k pc d (v + 1) t
def zls (x : Int32) (k : Nat → Prop) (pc : Nat) (d : Int) : List (Int × Int) → Prop
  | [] => ztg k pc d
  | q :: t => if x = zlit q.1 then ztg k pc q.2 else zls x k pc d t
/-- less, times and minus, so that nobody computes with them -/
noncomputable def zsO : {h : Int32 → Int32 → Int32 // ∀ x y, h x y = x - y} := Classical.choice ⟨⟨fun x y => x - y, fun _ _ => rfl⟩⟩
noncomputable def zmO : {h : Int32 → Int32 → Int32 // ∀ x y, h x y = x * y} := Classical.choice ⟨⟨fun x y => x * y, fun _ _ => rfl⟩⟩
noncomputable def zdO : {h : Int32 → Int32 → Int32 // ∀ x y, h x y = x / y} := Classical.choice ⟨⟨fun x y => x / y, fun _ _ => rfl⟩⟩
noncomputable def zrO : {h : Int32 → Int32 → Int32 // ∀ x y, h x y = x - x / y * y} := Classical.choice ⟨⟨fun x y => x - x / y * y, fun _ _ => rfl⟩⟩
noncomputable def zhO : {h : Int32 → Int32 → Int32 // ∀ x y, h x y = x <<< (y &&& 31)} := Classical.choice ⟨⟨fun x y => x <<< (y &&& 31), fun _ _ => rfl⟩⟩
noncomputable def zgO : {h : Int32 → Int32 → Int32 // ∀ x y, h x y = x >>> (y &&& 31)} := Classical.choice ⟨⟨fun x y => x >>> (y &&& 31), fun _ _ => rfl⟩⟩
noncomputable def zuO : {h : Int32 → Int32 → Int32 // ∀ x y, h x y = (x.toUInt32 >>> (y.toUInt32 &&& Int32.toUInt32 31)).toInt32} := Classical.choice ⟨⟨fun x y => (x.toUInt32 >>> (y.toUInt32 &&& Int32.toUInt32 31)).toInt32, fun _ _ => rfl⟩⟩
noncomputable def zlH : {h : Int64 → Int32 → Int64 // ∀ x y, h x y = x <<< (y.toInt64 &&& 63)} := Classical.choice ⟨⟨fun x y => x <<< (y.toInt64 &&& 63), fun _ _ => rfl⟩⟩
noncomputable def zlU : {h : Int64 → Int32 → Int64 // ∀ x y, h x y = (x.toUInt64 >>> (y.toInt64.toUInt64 &&& Int64.toUInt64 63)).toInt64} := Classical.choice ⟨⟨fun x y => (x.toUInt64 >>> (y.toInt64.toUInt64 &&& Int64.toUInt64 63)).toInt64, fun _ _ => rfl⟩⟩
noncomputable def zlS : {h : Int64 → Int64 → Int64 // ∀ x y, h x y = x - y} := Classical.choice ⟨⟨fun x y => x - y, fun _ _ => rfl⟩⟩
noncomputable def znO : {h : Int32 → Int32 // ∀ x, h x = -x} := Classical.choice ⟨⟨fun x => -x, fun _ => rfl⟩⟩
def zW (X : Nat × (Nat → Int32)) (cw : Nat → List Value → zSt → zQ → Prop) (M : zMe) (cut : Nat → Bool) (L : Nat → List Value → List Value → zSt → Prop) : Nat → Nat → List Value → List Value → zSt → zQ → Prop
  | 0, _, _, _, _, _ => False
  | n + 1, pc, ls, st, (c, z, rr, f, g), Q => match zlk M.2.2.2.2.2 pc with
    | none => False
    | some (ins, a, b) => match ins with
      | .aload_n i => (match ls[i.val]? with
        | some (.ref q) => (match cut (pc + 1) with | true => L (pc + 1) ls (.ref q :: st) (c, z, rr, f, g) | false => zW X cw M cut L n (pc + 1) ls (.ref q :: st) (c, z, rr, f, g) Q)
        | _ => False)
      | .aload i => (match ls[i]? with
        | some (.ref q) => (match cut (pc + 2) with | true => L (pc + 2) ls (.ref q :: st) (c, z, rr, f, g) | false => zW X cw M cut L n (pc + 2) ls (.ref q :: st) (c, z, rr, f, g) Q)
        | _ => False)
      | .iload_n i => (match ls[i.val]? with
        | some (.int q) => (match cut (pc + 1) with | true => L (pc + 1) ls (.int q :: st) (c, z, rr, f, g) | false => zW X cw M cut L n (pc + 1) ls (.int q :: st) (c, z, rr, f, g) Q)
        | _ => False)
      | .iload i => (match ls[i]? with
        | some (.int q) => (match cut (pc + 2) with | true => L (pc + 2) ls (.int q :: st) (c, z, rr, f, g) | false => zW X cw M cut L n (pc + 2) ls (.int q :: st) (c, z, rr, f, g) Q)
        | _ => False)
      | .lload_n i => (match ls[i.val]? with
        | some (.long q) => (match cut (pc + 1) with | true => L (pc + 1) ls (.long q :: st) (c, z, rr, f, g) | false => zW X cw M cut L n (pc + 1) ls (.long q :: st) (c, z, rr, f, g) Q)
        | _ => False)
      | .lload i => (match ls[i]? with
        | some (.long q) => (match cut (pc + 2) with | true => L (pc + 2) ls (.long q :: st) (c, z, rr, f, g) | false => zW X cw M cut L n (pc + 2) ls (.long q :: st) (c, z, rr, f, g) Q)
        | _ => False)
      | .astore_n i => (match st with
        | .ref q :: r => zfrc (zst ls i.val (.ref q)) (fun lz => (match cut (pc + 1) with | true => L (pc + 1) lz (r) (c, z, rr, f, g) | false => zW X cw M cut L n (pc + 1) lz (r) (c, z, rr, f, g) Q))
        | _ => False)
      | .astore i => (match st with
        | .ref q :: r => zfrc (zst ls i (.ref q)) (fun lz => (match cut (pc + 2) with | true => L (pc + 2) lz (r) (c, z, rr, f, g) | false => zW X cw M cut L n (pc + 2) lz (r) (c, z, rr, f, g) Q))
        | _ => False)
      | .istore_n i => (match st with
        | .int q :: r => zfrc (zst ls i.val (.int q)) (fun lz => (match cut (pc + 1) with | true => L (pc + 1) lz (r) (c, z, rr, f, g) | false => zW X cw M cut L n (pc + 1) lz (r) (c, z, rr, f, g) Q))
        | _ => False)
      | .istore i => (match st with
        | .int q :: r => zfrc (zst ls i (.int q)) (fun lz => (match cut (pc + 2) with | true => L (pc + 2) lz (r) (c, z, rr, f, g) | false => zW X cw M cut L n (pc + 2) lz (r) (c, z, rr, f, g) Q))
        | _ => False)
      | .lstore_n i => (match st with
        | .long q :: r => zfrc (zst2 ls i.val (.long q)) (fun lz => (match cut (pc + 1) with | true => L (pc + 1) lz (r) (c, z, rr, f, g) | false => zW X cw M cut L n (pc + 1) lz (r) (c, z, rr, f, g) Q))
        | _ => False)
      | .lstore i => (match st with
        | .long q :: r => zfrc (zst2 ls i (.long q)) (fun lz => (match cut (pc + 2) with | true => L (pc + 2) lz (r) (c, z, rr, f, g) | false => zW X cw M cut L n (pc + 2) lz (r) (c, z, rr, f, g) Q))
        | _ => False)
      | .iinc i d => (match ls[i]? with
        | some (.int q) => zfrc (zst ls i (.int (q + zlit d))) (fun lz => (match cut (pc + 3) with | true => L (pc + 3) lz (st) (c, z, rr, f, g) | false => zW X cw M cut L n (pc + 3) lz (st) (c, z, rr, f, g) Q))
        | _ => False)
      | .iconst v => (match cut (pc + 1) with | true => L (pc + 1) ls (.int (zlit v) :: st) (c, z, rr, f, g) | false => zW X cw M cut L n (pc + 1) ls (.int (zlit v) :: st) (c, z, rr, f, g) Q)
      | .bipush v => (match cut (pc + 2) with | true => L (pc + 2) ls (.int (zlit v) :: st) (c, z, rr, f, g) | false => zW X cw M cut L n (pc + 2) ls (.int (zlit v) :: st) (c, z, rr, f, g) Q)
      | .sipush v => (match cut (pc + 3) with | true => L (pc + 3) ls (.int (zlit v) :: st) (c, z, rr, f, g) | false => zW X cw M cut L n (pc + 3) ls (.int (zlit v) :: st) (c, z, rr, f, g) Q)
      | .lconst v => (match cut (pc + 1) with | true => L (pc + 1) ls (.long (Int64.ofNat v.val) :: st) (c, z, rr, f, g) | false => zW X cw M cut L n (pc + 1) ls (.long (Int64.ofNat v.val) :: st) (c, z, rr, f, g) Q)
      | .ldc _ => (match decide (b = 0) with | true => (match cut (pc + 2) with | true => L (pc + 2) ls (.int (Int32.ofNat a) :: st) (c, z, rr, f, g) | false => zW X cw M cut L n (pc + 2) ls (.int (Int32.ofNat a) :: st) (c, z, rr, f, g) Q) | false => (match cut (pc + 2) with | true => L (pc + 2) ls (.ref a :: st) (c, z, rr, f, g) | false => zW X cw M cut L n (pc + 2) ls (.ref a :: st) (c, z, rr, f, g) Q))
      | .ldc_w _ => (match cut (pc + 3) with | true => L (pc + 3) ls (.int (Int32.ofNat a) :: st) (c, z, rr, f, g) | false => zW X cw M cut L n (pc + 3) ls (.int (Int32.ofNat a) :: st) (c, z, rr, f, g) Q)
      | .ldc2_w _ => (match cut (pc + 3) with | true => L (pc + 3) ls (.long (Int64.ofNat a) :: st) (c, z, rr, f, g) | false => zW X cw M cut L n (pc + 3) ls (.long (Int64.ofNat a) :: st) (c, z, rr, f, g) Q)
      | .iadd => (match st with
        | .int y :: .int x :: r => (match cut (pc + 1) with | true => L (pc + 1) ls (.int (x + y) :: r) (c, z, rr, f, g) | false => zW X cw M cut L n (pc + 1) ls (.int (x + y) :: r) (c, z, rr, f, g) Q)
        | _ => False)
      | .isub => (match st with
        | .int y :: .int x :: r => (match cut (pc + 1) with | true => L (pc + 1) ls (.int (zsO.1 x y) :: r) (c, z, rr, f, g) | false => zW X cw M cut L n (pc + 1) ls (.int (zsO.1 x y) :: r) (c, z, rr, f, g) Q)
        | _ => False)
      | .imul => (match st with
        | .int y :: .int x :: r => (match cut (pc + 1) with | true => L (pc + 1) ls (.int (zmO.1 x y) :: r) (c, z, rr, f, g) | false => zW X cw M cut L n (pc + 1) ls (.int (zmO.1 x y) :: r) (c, z, rr, f, g) Q)
        | _ => False)
      | .iand => (match st with
        | .int y :: .int x :: r => (match cut (pc + 1) with | true => L (pc + 1) ls (.int (x &&& y) :: r) (c, z, rr, f, g) | false => zW X cw M cut L n (pc + 1) ls (.int (x &&& y) :: r) (c, z, rr, f, g) Q)
        | _ => False)
      | .ior => (match st with
        | .int y :: .int x :: r => (match cut (pc + 1) with | true => L (pc + 1) ls (.int (x ||| y) :: r) (c, z, rr, f, g) | false => zW X cw M cut L n (pc + 1) ls (.int (x ||| y) :: r) (c, z, rr, f, g) Q)
        | _ => False)
      | .ixor => (match st with
        | .int y :: .int x :: r => (match cut (pc + 1) with | true => L (pc + 1) ls (.int (x ^^^ y) :: r) (c, z, rr, f, g) | false => zW X cw M cut L n (pc + 1) ls (.int (x ^^^ y) :: r) (c, z, rr, f, g) Q)
        | _ => False)
      | .ishl => (match st with
        | .int y :: .int x :: r => (match cut (pc + 1) with | true => L (pc + 1) ls (.int (zhO.1 x y) :: r) (c, z, rr, f, g) | false => zW X cw M cut L n (pc + 1) ls (.int (zhO.1 x y) :: r) (c, z, rr, f, g) Q)
        | _ => False)
      | .ishr => (match st with
        | .int y :: .int x :: r => (match cut (pc + 1) with | true => L (pc + 1) ls (.int (zgO.1 x y) :: r) (c, z, rr, f, g) | false => zW X cw M cut L n (pc + 1) ls (.int (zgO.1 x y) :: r) (c, z, rr, f, g) Q)
        | _ => False)
      | .iushr => (match st with
        | .int y :: .int x :: r => (match cut (pc + 1) with | true => L (pc + 1) ls (.int (zuO.1 x y) :: r) (c, z, rr, f, g) | false => zW X cw M cut L n (pc + 1) ls (.int (zuO.1 x y) :: r) (c, z, rr, f, g) Q)
        | _ => False)
      | .ladd => (match st with
        | .long y :: .long x :: r => (match cut (pc + 1) with | true => L (pc + 1) ls (.long (x + y) :: r) (c, z, rr, f, g) | false => zW X cw M cut L n (pc + 1) ls (.long (x + y) :: r) (c, z, rr, f, g) Q)
        | _ => False)
      | .lsub => (match st with
        | .long y :: .long x :: r => (match cut (pc + 1) with | true => L (pc + 1) ls (.long (zlS.1 x y) :: r) (c, z, rr, f, g) | false => zW X cw M cut L n (pc + 1) ls (.long (zlS.1 x y) :: r) (c, z, rr, f, g) Q)
        | _ => False)
      | .land => (match st with
        | .long y :: .long x :: r => (match cut (pc + 1) with | true => L (pc + 1) ls (.long (x &&& y) :: r) (c, z, rr, f, g) | false => zW X cw M cut L n (pc + 1) ls (.long (x &&& y) :: r) (c, z, rr, f, g) Q)
        | _ => False)
      | .lor => (match st with
        | .long y :: .long x :: r => (match cut (pc + 1) with | true => L (pc + 1) ls (.long (x ||| y) :: r) (c, z, rr, f, g) | false => zW X cw M cut L n (pc + 1) ls (.long (x ||| y) :: r) (c, z, rr, f, g) Q)
        | _ => False)
      | .lshl => (match st with
        | .int y :: .long x :: r => (match cut (pc + 1) with | true => L (pc + 1) ls (.long (zlH.1 x y) :: r) (c, z, rr, f, g) | false => zW X cw M cut L n (pc + 1) ls (.long (zlH.1 x y) :: r) (c, z, rr, f, g) Q)
        | _ => False)
      | .lushr => (match st with
        | .int y :: .long x :: r => (match cut (pc + 1) with | true => L (pc + 1) ls (.long (zlU.1 x y) :: r) (c, z, rr, f, g) | false => zW X cw M cut L n (pc + 1) ls (.long (zlU.1 x y) :: r) (c, z, rr, f, g) Q)
        | _ => False)
      | .lcmp => (match st with
        | .long y :: .long x :: r => (match cut (pc + 1) with | true => L (pc + 1) ls (.int (lg_cmp x y) :: r) (c, z, rr, f, g) | false => zW X cw M cut L n (pc + 1) ls (.int (lg_cmp x y) :: r) (c, z, rr, f, g) Q)
        | _ => False)
      | .idiv => (match st with
        | .int y :: .int x :: r => if y = 0 then False else (match cut (pc + 1) with | true => L (pc + 1) ls (.int (zdO.1 x y) :: r) (c, z, rr, f, g) | false => zW X cw M cut L n (pc + 1) ls (.int (zdO.1 x y) :: r) (c, z, rr, f, g) Q)
        | _ => False)
      | .irem => (match st with
        | .int y :: .int x :: r => if y = 0 then False else (match cut (pc + 1) with | true => L (pc + 1) ls (.int (zrO.1 x y) :: r) (c, z, rr, f, g) | false => zW X cw M cut L n (pc + 1) ls (.int (zrO.1 x y) :: r) (c, z, rr, f, g) Q)
        | _ => False)
      | .ineg => (match st with
        | .int x :: r => (match cut (pc + 1) with | true => L (pc + 1) ls (.int (znO.1 x) :: r) (c, z, rr, f, g) | false => zW X cw M cut L n (pc + 1) ls (.int (znO.1 x) :: r) (c, z, rr, f, g) Q)
        | _ => False)
      | .l2i => (match st with
        | .long x :: r => (match cut (pc + 1) with | true => L (pc + 1) ls (.int x.toInt32 :: r) (c, z, rr, f, g) | false => zW X cw M cut L n (pc + 1) ls (.int x.toInt32 :: r) (c, z, rr, f, g) Q)
        | _ => False)
      | .i2c => (match st with
        | .int x :: r => (match cut (pc + 1) with | true => L (pc + 1) ls (.int (x.toUInt32 % 65536).toInt32 :: r) (c, z, rr, f, g) | false => zW X cw M cut L n (pc + 1) ls (.int (x.toUInt32 % 65536).toInt32 :: r) (c, z, rr, f, g) Q)
        | _ => False)
      | .dup => (match st with
        | .int x :: r => (match cut (pc + 1) with | true => L (pc + 1) ls (.int x :: .int x :: r) (c, z, rr, f, g) | false => zW X cw M cut L n (pc + 1) ls (.int x :: .int x :: r) (c, z, rr, f, g) Q)
        | .ref x :: r => (match cut (pc + 1) with | true => L (pc + 1) ls (.ref x :: .ref x :: r) (c, z, rr, f, g) | false => zW X cw M cut L n (pc + 1) ls (.ref x :: .ref x :: r) (c, z, rr, f, g) Q)
        | _ => False)
      | .dup2 => (match st with
        | .int x :: .ref y :: r => (match cut (pc + 1) with | true => L (pc + 1) ls (.int x :: .ref y :: .int x :: .ref y :: r) (c, z, rr, f, g) | false => zW X cw M cut L n (pc + 1) ls (.int x :: .ref y :: .int x :: .ref y :: r) (c, z, rr, f, g) Q)
        | _ => False)
      | .pop => (match st with
        | .int _ :: r => (match cut (pc + 1) with | true => L (pc + 1) ls (r) (c, z, rr, f, g) | false => zW X cw M cut L n (pc + 1) ls (r) (c, z, rr, f, g) Q)
        | _ => False)
      | .goto _ => (match cut (a) with | true => L (a) ls (st) (c, z, rr, f, g) | false => zW X cw M cut L n (a) ls (st) (c, z, rr, f, g) Q)
      | .if_icmp cn _ => (match st with
        | .int y :: .int x :: r => (match cn with
          | .eq => if x = y then (match cut (a) with | true => L (a) ls (r) (c, z, rr, f, g) | false => zW X cw M cut L n (a) ls (r) (c, z, rr, f, g) Q) else (match cut (pc + 3) with | true => L (pc + 3) ls (r) (c, z, rr, f, g) | false => zW X cw M cut L n (pc + 3) ls (r) (c, z, rr, f, g) Q)
          | .ne => if x = y then (match cut (pc + 3) with | true => L (pc + 3) ls (r) (c, z, rr, f, g) | false => zW X cw M cut L n (pc + 3) ls (r) (c, z, rr, f, g) Q) else (match cut (a) with | true => L (a) ls (r) (c, z, rr, f, g) | false => zW X cw M cut L n (a) ls (r) (c, z, rr, f, g) Q)
          | .lt => if x < y then (match cut (a) with | true => L (a) ls (r) (c, z, rr, f, g) | false => zW X cw M cut L n (a) ls (r) (c, z, rr, f, g) Q) else (match cut (pc + 3) with | true => L (pc + 3) ls (r) (c, z, rr, f, g) | false => zW X cw M cut L n (pc + 3) ls (r) (c, z, rr, f, g) Q)
          | .ge => if y ≤ x then (match cut (a) with | true => L (a) ls (r) (c, z, rr, f, g) | false => zW X cw M cut L n (a) ls (r) (c, z, rr, f, g) Q) else (match cut (pc + 3) with | true => L (pc + 3) ls (r) (c, z, rr, f, g) | false => zW X cw M cut L n (pc + 3) ls (r) (c, z, rr, f, g) Q)
          | .gt => if y < x then (match cut (a) with | true => L (a) ls (r) (c, z, rr, f, g) | false => zW X cw M cut L n (a) ls (r) (c, z, rr, f, g) Q) else (match cut (pc + 3) with | true => L (pc + 3) ls (r) (c, z, rr, f, g) | false => zW X cw M cut L n (pc + 3) ls (r) (c, z, rr, f, g) Q)
          | .le => if x ≤ y then (match cut (a) with | true => L (a) ls (r) (c, z, rr, f, g) | false => zW X cw M cut L n (a) ls (r) (c, z, rr, f, g) Q) else (match cut (pc + 3) with | true => L (pc + 3) ls (r) (c, z, rr, f, g) | false => zW X cw M cut L n (pc + 3) ls (r) (c, z, rr, f, g) Q))
        | _ => False)
      | .ifCond cn _ => (match st with
        | .int x :: r => (match cn with
          | .eq => if x = 0 then (match cut (a) with | true => L (a) ls (r) (c, z, rr, f, g) | false => zW X cw M cut L n (a) ls (r) (c, z, rr, f, g) Q) else (match cut (pc + 3) with | true => L (pc + 3) ls (r) (c, z, rr, f, g) | false => zW X cw M cut L n (pc + 3) ls (r) (c, z, rr, f, g) Q)
          | .ne => if x = 0 then (match cut (pc + 3) with | true => L (pc + 3) ls (r) (c, z, rr, f, g) | false => zW X cw M cut L n (pc + 3) ls (r) (c, z, rr, f, g) Q) else (match cut (a) with | true => L (a) ls (r) (c, z, rr, f, g) | false => zW X cw M cut L n (a) ls (r) (c, z, rr, f, g) Q)
          | .lt => if x < 0 then (match cut (a) with | true => L (a) ls (r) (c, z, rr, f, g) | false => zW X cw M cut L n (a) ls (r) (c, z, rr, f, g) Q) else (match cut (pc + 3) with | true => L (pc + 3) ls (r) (c, z, rr, f, g) | false => zW X cw M cut L n (pc + 3) ls (r) (c, z, rr, f, g) Q)
          | .ge => if 0 ≤ x then (match cut (a) with | true => L (a) ls (r) (c, z, rr, f, g) | false => zW X cw M cut L n (a) ls (r) (c, z, rr, f, g) Q) else (match cut (pc + 3) with | true => L (pc + 3) ls (r) (c, z, rr, f, g) | false => zW X cw M cut L n (pc + 3) ls (r) (c, z, rr, f, g) Q)
          | .gt => if 0 < x then (match cut (a) with | true => L (a) ls (r) (c, z, rr, f, g) | false => zW X cw M cut L n (a) ls (r) (c, z, rr, f, g) Q) else (match cut (pc + 3) with | true => L (pc + 3) ls (r) (c, z, rr, f, g) | false => zW X cw M cut L n (pc + 3) ls (r) (c, z, rr, f, g) Q)
          | .le => if x ≤ 0 then (match cut (a) with | true => L (a) ls (r) (c, z, rr, f, g) | false => zW X cw M cut L n (a) ls (r) (c, z, rr, f, g) Q) else (match cut (pc + 3) with | true => L (pc + 3) ls (r) (c, z, rr, f, g) | false => zW X cw M cut L n (pc + 3) ls (r) (c, z, rr, f, g) Q))
        | _ => False)
      | .iaload => (match st with
        | .int x :: .ref i :: r => zalW X c f i x (fun v => (match cut (pc + 1) with | true => L (pc + 1) ls (.int v :: r) (c, z, rr, f, g) | false => zW X cw M cut L n (pc + 1) ls (.int v :: r) (c, z, rr, f, g) Q))
        | _ => False)
      | .iastore => (match st with
        | .int v :: .int x :: .ref i :: r => zasW c z rr f g i x v (fun S1 => (match cut (pc + 1) with | true => L (pc + 1) ls (r) S1 | false => zW X cw M cut L n (pc + 1) ls (r) S1 Q))
        | _ => False)
      | .aaload => (match st with
        | .int x :: .ref i :: r => zaaW c rr i x (fun v => (match cut (pc + 1) with | true => L (pc + 1) ls (.ref v :: r) (c, z, rr, f, g) | false => zW X cw M cut L n (pc + 1) ls (.ref v :: r) (c, z, rr, f, g) Q))
        | _ => False)
      | .arraylength => (match st with
        | .ref i :: r => zlnW X c i (fun v => (match cut (pc + 1) with | true => L (pc + 1) ls (.int v :: r) (c, z, rr, f, g) | false => zW X cw M cut L n (pc + 1) ls (.int v :: r) (c, z, rr, f, g) Q))
        | _ => False)
      | .getfield _ => (match st with
        | .ref i :: r => zgW c rr f g i a b (fun v => (match cut (pc + 3) with | true => L (pc + 3) ls (v :: r) (c, z, rr, f, g) | false => zW X cw M cut L n (pc + 3) ls (v :: r) (c, z, rr, f, g) Q))
        | _ => False)
      | .putfield _ => (match st with
        | v :: .ref i :: r => zpW c z rr f g i a b v (fun S1 => (match cut (pc + 3) with | true => L (pc + 3) ls (r) S1 | false => zW X cw M cut L n (pc + 3) ls (r) S1 Q))
        | _ => False)
      | .invokevirtual _ => zclW cw (fun As => zrc a As (c, z, rr, f, g)) a (b + 1) st (c, z, rr, f, g) (fun st1 S1 => (match cut (pc + 3) with | true => L (pc + 3) ls (st1) S1 | false => zW X cw M cut L n (pc + 3) ls (st1) S1 Q))
      | .invokestatic _ => (match decide (a = 9999) with
        | true => (match st with
          | .int k :: .int dp :: .ref j :: .int sp :: .ref i :: r => (match decide (zw r ≤ 8) with | true => zcpW c z rr f g i sp j dp k (fun S1 => (match cut (pc + 3) with | true => L (pc + 3) ls (r) S1 | false => zW X cw M cut L n (pc + 3) ls (r) S1 Q)) | false => False)
          | _ => False)
        | false => zclW cw (fun _ => true) a b st (c, z, rr, f, g) (fun st1 S1 => (match cut (pc + 3) with | true => L (pc + 3) ls (st1) S1 | false => zW X cw M cut L n (pc + 3) ls (st1) S1 Q)))
      | .tableswitch d lo _ offs => (match st with
        | .int x :: r => zts x (fun pc' => (match cut (pc') with | true => L (pc') ls (r) (c, z, rr, f, g) | false => zW X cw M cut L n (pc') ls (r) (c, z, rr, f, g) Q)) pc d lo offs.toList
        | _ => False)
      | .lookupswitch d ps => (match st with
        | .int x :: r => zls x (fun pc' => (match cut (pc') with | true => L (pc') ls (r) (c, z, rr, f, g) | false => zW X cw M cut L n (pc') ls (r) (c, z, rr, f, g) Q)) pc d ps.toList
        | _ => False)
      | .ireturn => (match st with
        | [.int v] => (match M.2.2.2.2.1 with
          | some .boolean => if v = 0 ∨ v = 1 then Q (some (.int v)) (c, z, rr, f, g) else False
          | some .int => Q (some (.int v)) (c, z, rr, f, g)
          | _ => False)
        | _ => False)
      | .return_ => (match st with
        | [] => (match M.2.2.2.2.1 with
          | none => Q none (c, z, rr, f, g)
          | _ => False)
        | _ => False)
      | _ => False
/-- calls: those of 'op' stay calls; others are walked into -/
def zWr (X : Nat × (Nat → Int32)) (op : Nat → Nat) (F : Nat) : Nat → Nat → List Value → zSt → zQ → Prop
  | 0, _, _, _, _ => False
  | d + 1, a, As, S, Q => match op a with
    | 0 => (match decide (9000 ≤ a ∨ 290 ≤ a) with
     | true => False
     | false => (match zP a with
      | none => False
      | some M => (match decide ((zini As).length ≤ M.2.2.2.1) with
        | true => zW X (zWr X op F d) M (fun _ => false) (fun _ _ _ _ => False) F 0 (zpad M.2.2.2.1 (zini As)) [] S Q
        | false => False)))
    | 1 => zCpi X (d + 1) a As S (fun v f g => Q (some (.int v)) (zs f g))
    | 2 => zCpv X (d + 1) a As S (fun f g => Q none (zs f g))
    | _ => (match zstr a As with
      | some v => Q (some v) S
      | none => False)

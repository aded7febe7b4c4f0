/-! orders of up to six -/
def zdg (n c k : Nat) : Nat := c / 10 ^ (n - 1 - k) % 10
def zcode (r : Nat → Nat) : Nat → Nat
  | 0 => 0
  | k + 1 => 10 * zcode r k + r k
def zpiv (r : Nat → Nat) : Nat → Option Nat
  | 0 => none
  | i + 1 => if r i ≤ r (i + 1) then some i else zpiv r i
def zjd (r : Nat → Nat) (i : Nat) : Nat → Nat
  | 0 => 0
  | j + 1 => if j + 1 ≤ i then j + 1 else if r i ≤ r (j + 1) then j + 1 else zjd r i j
def zswp (r : Nat → Nat) (i j : Nat) : Nat → Nat := fun k => if k = j then r i else if k = i then r j else r k
def zrvs : Nat → (Nat → Nat) → Nat → Nat → Nat → Nat
  | 0, r, _, _ => r
  | u + 1, r, lo, hi => if hi ≤ lo then r else zrvs u (zswp r lo hi) (lo + 1) (hi - 1)
def zokc (n : Nat) : Nat → Nat → Nat → Bool
  | 0, _, _ => true
  | m + 1, c, s => if n ≤ c % 10 then false else if s.testBit (c % 10) = true then false else zokc n m (c / 10) (s ||| 2 ^ (c % 10))
def zgen (n : Nat) : Nat → Nat → List Nat
  | 0, _ => [0]
  | m + 1, s => (List.range n).flatMap (fun p => if s.testBit p = true then [] else (zgen n m (s ||| 2 ^ p)).map (fun x => 10 * x + p))
def zps (n c a : Nat) : Nat := ((List.range n).find? (fun k => zdg n c k == a)).getD 0
/-- pairs of places and how often each counts -/
def zpi (r : Nat → Nat) (i : Nat) : Nat → Nat → List (Nat × Nat)
  | 0, _ => []
  | u + 1, j => (6 * r i + r j, j - i) :: zpi r i u (j + 1)
def zpo (r : Nat → Nat) (n : Nat) : Nat → Nat → List (Nat × Nat)
  | 0, _ => []
  | u + 1, i => zpi r i (n - (i + 1)) (i + 1) ++ zpo r n u (i + 1)
def zri (p : Nat → Nat) (a : Nat) : Nat → Nat → List (Nat × Nat)
  | 0, _ => []
  | u + 1, b => (6 * a + b, (p a - p b) + (p b - p a)) :: zri p a u (b + 1)
def zro (p : Nat → Nat) : Nat → Nat → List (Nat × Nat)
  | 0, _ => []
  | u + 1, a => zri p a a 0 ++ zro p u (a + 1)
def znm (k : Nat × Nat) : Nat × Nat := (if k.1 / 6 < k.1 % 6 then 6 * (k.1 % 6) + k.1 / 6 else k.1, k.2)
def zlsum (T : Nat → Nat) : List (Nat × Nat) → Nat
  | [] => 0
  | k :: l => k.2 * T k.1 + zlsum T l
def zwsum : List (Nat × Nat) → Nat
  | [] => 0
  | k :: l => k.2 + zwsum l
/-- one order, looked through -/
def zchkp (n c : Nat) : Bool := zokc n n c 0 && decide (zcode (zdg n c) n = c) && (List.range n).all (fun a => decide (zdg n c a < n) && decide (zdg n c (zps n c a) = a) && decide (zps n c a < n)) && ((zpo (zdg n c) n n 0).map znm).isPerm ((zro (zps n c) n 0).map znm) && (zpo (zdg n c) n n 0).all (fun k => decide (k.1 < 36)) && (zro (zps n c) n 0).all (fun k => decide (k.1 < 36)) && decide (zwsum (zpo (zdg n c) n n 0) ≤ 100) && decide (c < 10 ^ n)
/-- the orders come one after another -/
def zchn (n : Nat) : List Nat → Bool
  | [] => false
  | [c] => (zpiv (zdg n c) (n - 1)).isNone
  | c :: c' :: t => decide (c < c') && (match zpiv (zdg n c) (n - 1) with | none => false | some i => (List.range n).all (fun k => decide (zrvs 6 (zswp (zdg n c) i (zjd (zdg n c) i (n - 1))) (i + 1) (n - 1) k = zdg n c' k))) && zchn n (c' :: t)
set_option maxRecDepth 100000 in
def zP1 : List Nat := [0]
set_option maxRecDepth 100000 in
theorem zP1_c : zchn 1 zP1 = true := by decide +kernel
set_option maxRecDepth 100000 in
theorem zP1_k : zP1.all (zchkp 1) = true := by decide +kernel
set_option maxRecDepth 100000 in
theorem zP1_g : (zgen 1 1 0).all (fun x => zP1.contains x) = true := by decide +kernel
set_option maxRecDepth 100000 in
def zP2 : List Nat := [1, 10]
set_option maxRecDepth 100000 in
theorem zP2_c : zchn 2 zP2 = true := by decide +kernel
set_option maxRecDepth 100000 in
theorem zP2_k : zP2.all (zchkp 2) = true := by decide +kernel
set_option maxRecDepth 100000 in
theorem zP2_g : (zgen 2 2 0).all (fun x => zP2.contains x) = true := by decide +kernel
set_option maxRecDepth 100000 in
def zP3 : List Nat := [12, 21, 102, 120, 201, 210]
set_option maxRecDepth 100000 in
theorem zP3_c : zchn 3 zP3 = true := by decide +kernel
set_option maxRecDepth 100000 in
theorem zP3_k : zP3.all (zchkp 3) = true := by decide +kernel
set_option maxRecDepth 100000 in
theorem zP3_g : (zgen 3 3 0).all (fun x => zP3.contains x) = true := by decide +kernel
set_option maxRecDepth 100000 in
def zP4 : List Nat := [123, 132, 213, 231, 312, 321, 1023, 1032, 1203, 1230, 1302, 1320, 2013, 2031, 2103, 2130, 2301, 2310, 3012, 3021, 3102, 3120, 3201, 3210]
set_option maxRecDepth 100000 in
theorem zP4_c : zchn 4 zP4 = true := by decide +kernel
set_option maxRecDepth 100000 in
theorem zP4_k : zP4.all (zchkp 4) = true := by decide +kernel
set_option maxRecDepth 100000 in
theorem zP4_g : (zgen 4 4 0).all (fun x => zP4.contains x) = true := by decide +kernel
set_option maxRecDepth 100000 in
def zP5 : List Nat := [1234, 1243, 1324, 1342, 1423, 1432, 2134, 2143, 2314, 2341, 2413, 2431, 3124, 3142, 3214, 3241, 3412, 3421, 4123, 4132, 4213, 4231, 4312, 4321, 10234, 10243, 10324, 10342, 10423, 10432, 12034, 12043, 12304, 12340, 12403, 12430, 13024, 13042, 13204, 13240, 13402, 13420, 14023, 14032, 14203, 14230, 14302, 14320, 20134, 20143, 20314, 20341, 20413, 20431, 21034, 21043, 21304, 21340, 21403, 21430, 23014, 23041, 23104, 23140, 23401, 23410, 24013, 24031, 24103, 24130, 24301, 24310, 30124, 30142, 30214, 30241, 30412, 30421, 31024, 31042, 31204, 31240, 31402, 31420, 32014, 32041, 32104, 32140, 32401, 32410, 34012, 34021, 34102, 34120, 34201, 34210, 40123, 40132, 40213, 40231, 40312, 40321, 41023, 41032, 41203, 41230, 41302, 41320, 42013, 42031, 42103, 42130, 42301, 42310, 43012, 43021, 43102, 43120, 43201, 43210]
set_option maxRecDepth 100000 in
theorem zP5_c : zchn 5 zP5 = true := by decide +kernel
set_option maxRecDepth 100000 in
theorem zP5_k : zP5.all (zchkp 5) = true := by decide +kernel
set_option maxRecDepth 100000 in
theorem zP5_g : (zgen 5 5 0).all (fun x => zP5.contains x) = true := by decide +kernel
set_option maxRecDepth 100000 in
def zP6 : List Nat := [12345, 12354, 12435, 12453, 12534, 12543, 13245, 13254, 13425, 13452, 13524, 13542, 14235, 14253, 14325, 14352, 14523, 14532, 15234, 15243, 15324, 15342, 15423, 15432, 21345, 21354, 21435, 21453, 21534, 21543, 23145, 23154, 23415, 23451, 23514, 23541, 24135, 24153, 24315, 24351, 24513, 24531, 25134, 25143, 25314, 25341, 25413, 25431, 31245, 31254, 31425, 31452, 31524, 31542, 32145, 32154, 32415, 32451, 32514, 32541, 34125, 34152, 34215, 34251, 34512, 34521, 35124, 35142, 35214, 35241, 35412, 35421, 41235, 41253, 41325, 41352, 41523, 41532, 42135, 42153, 42315, 42351, 42513, 42531, 43125, 43152, 43215, 43251, 43512, 43521, 45123, 45132, 45213, 45231, 45312, 45321, 51234, 51243, 51324, 51342, 51423, 51432, 52134, 52143, 52314, 52341, 52413, 52431, 53124, 53142, 53214, 53241, 53412, 53421, 54123, 54132, 54213, 54231, 54312, 54321, 102345, 102354, 102435, 102453, 102534, 102543, 103245, 103254, 103425, 103452, 103524, 103542, 104235, 104253, 104325, 104352, 104523, 104532, 105234, 105243, 105324, 105342, 105423, 105432, 120345, 120354, 120435, 120453, 120534, 120543, 123045, 123054, 123405, 123450, 123504, 123540, 124035, 124053, 124305, 124350, 124503, 124530, 125034, 125043, 125304, 125340, 125403, 125430, 130245, 130254, 130425, 130452, 130524, 130542, 132045, 132054, 132405, 132450, 132504, 132540, 134025, 134052, 134205, 134250, 134502, 134520, 135024, 135042, 135204, 135240, 135402, 135420, 140235, 140253, 140325, 140352, 140523, 140532, 142035, 142053, 142305, 142350, 142503, 142530, 143025, 143052, 143205, 143250, 143502, 143520, 145023, 145032, 145203, 145230, 145302, 145320, 150234, 150243, 150324, 150342, 150423, 150432, 152034, 152043, 152304, 152340, 152403, 152430, 153024, 153042, 153204, 153240, 153402, 153420, 154023, 154032, 154203, 154230, 154302, 154320, 201345, 201354, 201435, 201453, 201534, 201543, 203145, 203154, 203415, 203451, 203514, 203541, 204135, 204153, 204315, 204351, 204513, 204531, 205134, 205143, 205314, 205341, 205413, 205431, 210345, 210354, 210435, 210453, 210534, 210543, 213045, 213054, 213405, 213450, 213504, 213540, 214035, 214053, 214305, 214350, 214503, 214530, 215034, 215043, 215304, 215340, 215403, 215430, 230145, 230154, 230415, 230451, 230514, 230541, 231045, 231054, 231405, 231450, 231504, 231540, 234015, 234051, 234105, 234150, 234501, 234510, 235014, 235041, 235104, 235140, 235401, 235410, 240135, 240153, 240315, 240351, 240513, 240531, 241035, 241053, 241305, 241350, 241503, 241530, 243015, 243051, 243105, 243150, 243501, 243510, 245013, 245031, 245103, 245130, 245301, 245310, 250134, 250143, 250314, 250341, 250413, 250431, 251034, 251043, 251304, 251340, 251403, 251430, 253014, 253041, 253104, 253140, 253401, 253410, 254013, 254031, 254103, 254130, 254301, 254310, 301245, 301254, 301425, 301452, 301524, 301542, 302145, 302154, 302415, 302451, 302514, 302541, 304125, 304152, 304215, 304251, 304512, 304521, 305124, 305142, 305214, 305241, 305412, 305421, 310245, 310254, 310425, 310452, 310524, 310542, 312045, 312054, 312405, 312450, 312504, 312540, 314025, 314052, 314205, 314250, 314502, 314520, 315024, 315042, 315204, 315240, 315402, 315420, 320145, 320154, 320415, 320451, 320514, 320541, 321045, 321054, 321405, 321450, 321504, 321540, 324015, 324051, 324105, 324150, 324501, 324510, 325014, 325041, 325104, 325140, 325401, 325410, 340125, 340152, 340215, 340251, 340512, 340521, 341025, 341052, 341205, 341250, 341502, 341520, 342015, 342051, 342105, 342150, 342501, 342510, 345012, 345021, 345102, 345120, 345201, 345210, 350124, 350142, 350214, 350241, 350412, 350421, 351024, 351042, 351204, 351240, 351402, 351420, 352014, 352041, 352104, 352140, 352401, 352410, 354012, 354021, 354102, 354120, 354201, 354210, 401235, 401253, 401325, 401352, 401523, 401532, 402135, 402153, 402315, 402351, 402513, 402531, 403125, 403152, 403215, 403251, 403512, 403521, 405123, 405132, 405213, 405231, 405312, 405321, 410235, 410253, 410325, 410352, 410523, 410532, 412035, 412053, 412305, 412350, 412503, 412530, 413025, 413052, 413205, 413250, 413502, 413520, 415023, 415032, 415203, 415230, 415302, 415320, 420135, 420153, 420315, 420351, 420513, 420531, 421035, 421053, 421305, 421350, 421503, 421530, 423015, 423051, 423105, 423150, 423501, 423510, 425013, 425031, 425103, 425130, 425301, 425310, 430125, 430152, 430215, 430251, 430512, 430521, 431025, 431052, 431205, 431250, 431502, 431520, 432015, 432051, 432105, 432150, 432501, 432510, 435012, 435021, 435102, 435120, 435201, 435210, 450123, 450132, 450213, 450231, 450312, 450321, 451023, 451032, 451203, 451230, 451302, 451320, 452013, 452031, 452103, 452130, 452301, 452310, 453012, 453021, 453102, 453120, 453201, 453210, 501234, 501243, 501324, 501342, 501423, 501432, 502134, 502143, 502314, 502341, 502413, 502431, 503124, 503142, 503214, 503241, 503412, 503421, 504123, 504132, 504213, 504231, 504312, 504321, 510234, 510243, 510324, 510342, 510423, 510432, 512034, 512043, 512304, 512340, 512403, 512430, 513024, 513042, 513204, 513240, 513402, 513420, 514023, 514032, 514203, 514230, 514302, 514320, 520134, 520143, 520314, 520341, 520413, 520431, 521034, 521043, 521304, 521340, 521403, 521430, 523014, 523041, 523104, 523140, 523401, 523410, 524013, 524031, 524103, 524130, 524301, 524310, 530124, 530142, 530214, 530241, 530412, 530421, 531024, 531042, 531204, 531240, 531402, 531420, 532014, 532041, 532104, 532140, 532401, 532410, 534012, 534021, 534102, 534120, 534201, 534210, 540123, 540132, 540213, 540231, 540312, 540321, 541023, 541032, 541203, 541230, 541302, 541320, 542013, 542031, 542103, 542130, 542301, 542310, 543012, 543021, 543102, 543120, 543201, 543210]
set_option maxRecDepth 100000 in
theorem zP6_c : zchn 6 zP6 = true := by decide +kernel
set_option maxRecDepth 100000 in
theorem zP6_k : zP6.all (zchkp 6) = true := by decide +kernel
set_option maxRecDepth 100000 in
theorem zP6_g : (zgen 6 6 0).all (fun x => zP6.contains x) = true := by decide +kernel
def zPl6 : Nat → List Nat
  | 1 => zP1
  | 2 => zP2
  | 3 => zP3
  | 4 => zP4
  | 5 => zP5
  | 6 => zP6
  | _ => []
def zfst (n : Nat) : Nat := zcode (fun k => k) n
def zlst (n : Nat) : Nat := zcode (fun k => n - 1 - k) n
theorem zP_head : ∀ n, n < 7 → 0 < n → (zPl6 n).head? = some (zfst n) ∧ (zPl6 n).length ≤ 720 ∧ zlst n < 10 ^ n ∧ zfst n ≤ zlst n ∧ (zPl6 n).all (fun c => decide (zfst n ≤ c) && decide (c ≤ zlst n)) = true := by decide +kernel
theorem zP_c {n : Nat} (h0 : 0 < n) (h : n < 7) : zchn n (zPl6 n) = true := by
  have hh : n = 1 ∨ n = 2 ∨ n = 3 ∨ n = 4 ∨ n = 5 ∨ n = 6 := by omega
  rcases hh with rfl | rfl | rfl | rfl | rfl | rfl
  · exact zP1_c
  · exact zP2_c
  · exact zP3_c
  · exact zP4_c
  · exact zP5_c
  · exact zP6_c
theorem zP_k {n : Nat} (h0 : 0 < n) (h : n < 7) : (zPl6 n).all (zchkp n) = true := by
  have hh : n = 1 ∨ n = 2 ∨ n = 3 ∨ n = 4 ∨ n = 5 ∨ n = 6 := by omega
  rcases hh with rfl | rfl | rfl | rfl | rfl | rfl
  · exact zP1_k
  · exact zP2_k
  · exact zP3_k
  · exact zP4_k
  · exact zP5_k
  · exact zP6_k
theorem zP_g {n : Nat} (h0 : 0 < n) (h : n < 7) : (zgen n n 0).all (fun x => (zPl6 n).contains x) = true := by
  have hh : n = 1 ∨ n = 2 ∨ n = 3 ∨ n = 4 ∨ n = 5 ∨ n = 6 := by omega
  rcases hh with rfl | rfl | rfl | rfl | rfl | rfl
  · exact zP1_g
  · exact zP2_g
  · exact zP3_g
  · exact zP4_g
  · exact zP5_g
  · exact zP6_g
theorem zgen_in {n : Nat} : ∀ m c s, zokc n m c s = true → c < 10 ^ m → c ∈ zgen n m s
  | 0, c, s, _, h => by
    rw [Nat.pow_zero] at h
    unfold zgen
    rw [show c = 0 by omega]
    exact List.mem_singleton.mpr rfl
  | m + 1, c, s, h, hc => by
    unfold zokc at h
    by_cases h1 : n ≤ c % 10
    · rw [if_pos h1] at h
      exact absurd h (by decide)
    · rw [if_neg h1] at h
      by_cases h2 : s.testBit (c % 10) = true
      · rw [if_pos h2] at h
        exact absurd h (by decide)
      · rw [if_neg h2] at h
        have ih := zgen_in m (c / 10) _ h (by rw [Nat.pow_succ] at hc; omega)
        unfold zgen
        refine List.mem_flatMap.mpr ⟨c % 10, List.mem_range.mpr (by omega), ?_⟩
        rw [if_neg h2]
        exact List.mem_map.mpr ⟨c / 10, ih, by omega⟩
theorem zlsum_perm {T : Nat → Nat} {l l' : List (Nat × Nat)} (h : l.Perm l') : zlsum T l = zlsum T l' := by
  induction h with
  | nil => rfl
  | cons x _ ih => unfold zlsum; rw [ih]
  | swap x y l => unfold zlsum zlsum; omega
  | trans _ _ ih1 ih2 => exact ih1.trans ih2
theorem zlsum_nm {T : Nat → Nat} (hT : ∀ k, k < 36 → T (znm (k, 0)).1 = T k) : ∀ l : List (Nat × Nat), (∀ k, k ∈ l → k.1 < 36) → zlsum T (l.map znm) = zlsum T l
  | [], _ => rfl
  | k :: l, h => by
    have ih := zlsum_nm hT l (fun x hx => h x (List.mem_cons_of_mem _ hx))
    have h1 : T (znm k).1 = T k.1 := hT k.1 (h k List.mem_cons_self)
    show (znm k).2 * T (znm k).1 + zlsum T (l.map znm) = k.2 * T k.1 + zlsum T l
    rw [ih, h1]
    rfl
theorem zlsum_le {T : Nat → Nat} (hT : ∀ k, k < 36 → T k ≤ 9) : ∀ l : List (Nat × Nat), (∀ k, k ∈ l → k.1 < 36) → zlsum T l ≤ 9 * zwsum l
  | [], _ => Nat.le_refl _
  | k :: l, h => by
    have ih := zlsum_le hT l (fun x hx => h x (List.mem_cons_of_mem _ hx))
    have h1 := hT k.1 (h k List.mem_cons_self)
    have h2 : k.2 * T k.1 ≤ k.2 * 9 := Nat.mul_le_mul_left _ h1
    show k.2 * T k.1 + zlsum T l ≤ 9 * (k.2 + zwsum l)
    omega
/-- all that is known of one order -/
theorem zchkp_at {n c : Nat} (h0 : 0 < n) (h : n < 7) (hc : c ∈ zPl6 n) : zokc n n c 0 = true ∧ zcode (zdg n c) n = c ∧ (∀ a, a < n → zdg n c a < n ∧ zdg n c (zps n c a) = a ∧ zps n c a < n) ∧ ((zpo (zdg n c) n n 0).map znm).Perm ((zro (zps n c) n 0).map znm) ∧ (∀ k, k ∈ zpo (zdg n c) n n 0 → k.1 < 36) ∧ (∀ k, k ∈ zro (zps n c) n 0 → k.1 < 36) ∧ zwsum (zpo (zdg n c) n n 0) ≤ 100 := by
  have z := List.all_eq_true.mp (zP_k h0 h) c hc
  unfold zchkp at z
  simp only [Bool.and_eq_true, decide_eq_true_eq, List.all_eq_true, List.mem_range] at z
  obtain ⟨⟨⟨⟨⟨⟨⟨a1, a2⟩, a3⟩, a4⟩, a5⟩, a6⟩, a7⟩, a8⟩ := z
  exact ⟨a1, a2, fun a ha => ⟨(a3 a ha).1.1, (a3 a ha).1.2, (a3 a ha).2⟩, List.isPerm_iff.mp a4, a5, a6, a7⟩

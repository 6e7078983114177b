/-! THE SMALL MACHINE: what the code does to numbers and cells, without the tables of the JVM. -/
abbrev Mem : Type := (Nat × Nat) × (Nat → Nat × Nat) × (Nat → Nat → Int32) × (Nat → Nat → Int64) × (Nat → Nat → Option Nat)
def mHp (μ : Mem) : Nat := μ.1.1
def mSl (μ : Mem) : Nat := μ.1.2
def mSh (μ : Mem) : Nat → Nat × Nat := μ.2.1
def mI (μ : Mem) : Nat → Nat → Int32 := μ.2.2.1
def mJ (μ : Mem) : Nat → Nat → Int64 := μ.2.2.2.1
def mP (μ : Mem) : Nat → Nat → Option Nat := μ.2.2.2.2
def up2 {α : Type} (f : Nat → Nat → α) (a k : Nat) (v : α) : Nat → Nat → α := fun b j => if b = a ∧ j = k then v else f b j
def cp2 {α : Type} (f : Nat → Nat → α) (src sp dst dp n : Nat) : Nat → Nat → α := fun b j => if b = dst ∧ dp ≤ j ∧ j < dp + n then f src (sp + (j - dp)) else f b j
def z2 {α : Type} (f : Nat → Nat → α) (a : Nat) (v : α) : Nat → Nat → α := fun b j => if b = a then v else f b j
def wI (μ : Mem) (a k : Nat) (v : Int32) : Mem := (μ.1, μ.2.1, up2 μ.2.2.1 a k v, μ.2.2.2)
def wJ (μ : Mem) (a k : Nat) (v : Int64) : Mem := (μ.1, μ.2.1, μ.2.2.1, up2 μ.2.2.2.1 a k v, μ.2.2.2.2)
def wP (μ : Mem) (a k : Nat) (v : Option Nat) : Mem := (μ.1, μ.2.1, μ.2.2.1, μ.2.2.2.1, up2 μ.2.2.2.2 a k v)
def cpI (μ : Mem) (src sp dst dp n : Nat) : Mem := (μ.1, μ.2.1, cp2 μ.2.2.1 src sp dst dp n, μ.2.2.2)
def cpJ (μ : Mem) (src sp dst dp n : Nat) : Mem := (μ.1, μ.2.1, μ.2.2.1, cp2 μ.2.2.2.1 src sp dst dp n, μ.2.2.2.2)
/-- one cell more: its kind and its slots -/
def mNew (μ : Mem) (kd : Nat × Nat) (n : Nat) : Mem := ((μ.1.1 + 1, μ.1.2 + n), (fun b => if b = μ.1.1 then kd else μ.2.1 b), z2 μ.2.2.1 μ.1.1 0, z2 μ.2.2.2.1 μ.1.1 0, z2 μ.2.2.2.2 μ.1.1 none)
abbrev Res : Type := Option Value × Bool × Mem
abbrev Loc9 : Type := List (Option Value)
abbrev Rec9 : Type := Nat → Nat → Nat → Loc9 → List Value → Mem → Option Res
/-- what stands at a place: how many locals stay known there (0 all, k + 1 the first k), the instruction, its length and links, its constant, its switch -/
abbrev E9 : Type := Nat × Instr × List Nat × Value × List (Int32 × Nat)
def nth9 : Loc9 → Nat → Option Value
  | [], _ => none
  | a :: _, 0 => a
  | _ :: t, n + 1 => nth9 t n
def clr9 (o : Option Value) : Option Value := match o with
  | some (.long _) => none
  | some (.double _) => none
  | x => x
/-- a value of one word into a local -/
def st1 : Loc9 → Nat → Value → Loc9
  | [], _, _ => []
  | _ :: t, 0, v => some v :: t
  | a :: t, n + 1, v => match n with
    | 0 => clr9 a :: st1 t 0 v
    | m + 1 => a :: st1 t (m + 1) v
/-- a value of two words -/
def st2 : Loc9 → Nat → Value → Loc9
  | [], _, _ => []
  | [_], 0, _ => [none]
  | _ :: _ :: t, 0, v => some v :: none :: t
  | a :: t, n + 1, v => match n with
    | 0 => clr9 a :: st2 t 0 v
    | m + 1 => a :: st2 t (m + 1) v
/-- only the first k locals stay known -/
def cut9 : Nat → Loc9 → Loc9
  | _, [] => []
  | 0, _ :: t => none :: cut9 0 t
  | k + 1, a :: t => a :: cut9 k t
def cutA (c : Nat) (ls : Loc9) : Loc9 := match c with
  | 0 => ls
  | k + 1 => cut9 k ls
def tk9 : Nat → List Value → List Value → Option (List Value × List Value)
  | 0, acc, st => some (acc, st)
  | n + 1, acc, v :: st => tk9 n (v :: acc) st
  | _ + 1, _, [] => none
def arg9 : Nat → List Value → Loc9
  | 0, _ => []
  | n + 1, [] => none :: arg9 n []
  | n + 1, v :: r => match v with
    | .long x => match n with
      | 0 => [none]
      | m + 1 => some (.long x) :: none :: arg9 m r
    | .double _ => []
    | v => some v :: arg9 n r
abbrev in9 (i : Int32) (n : Nat) : Prop := 0 ≤ i ∧ i.toNatClampNeg < n
def if9 {α : Type} (c : Prop) [Decidable c] (a : Option α) : Option α := if c then a else none
def kII (st : List Value) (k : Int32 → Int32 → List Value → Option Res) : Option Res := match st with
  | .int y :: .int x :: r => k x y r
  | _ => none
def kJJ (st : List Value) (k : Int64 → Int64 → List Value → Option Res) : Option Res := match st with
  | .long y :: .long x :: r => k x y r
  | _ => none
def kJI (st : List Value) (k : Int64 → Int32 → List Value → Option Res) : Option Res := match st with
  | .int y :: .long x :: r => k x y r
  | _ => none
def kI (st : List Value) (k : Int32 → List Value → Option Res) : Option Res := match st with
  | .int x :: r => k x r
  | _ => none
def kJ (st : List Value) (k : Int64 → List Value → Option Res) : Option Res := match st with
  | .long x :: r => k x r
  | _ => none
def kR (st : List Value) (k : Nat → List Value → Option Res) : Option Res := match st with
  | .ref x :: r => k x r
  | _ => none
def kIR (st : List Value) (k : Nat → Int32 → List Value → Option Res) : Option Res := match st with
  | .int i :: .ref x :: r => k x i r
  | _ => none
def sw9 (k : Nat → Option Res) (x : Int32) (dflt : Nat) : List (Int32 × Nat) → Option Res
  | [] => k dflt
  | (c, t) :: r => if x = c then k t else sw9 k x dflt r
def cV (c : Option Res) (k h : Mem → Option Res) : Option Res := match c with
  | some (none, false, μ) => k μ
  | some (none, true, μ) => h μ
  | _ => none
def cI (c : Option Res) (k : Int32 → Mem → Option Res) (h : Mem → Option Res) : Option Res := match c with
  | some (some (.int x), false, μ) => k x μ
  | some (none, true, μ) => h μ
  | _ => none
def cJ (c : Option Res) (k : Int64 → Mem → Option Res) (h : Mem → Option Res) : Option Res := match c with
  | some (some (.long x), false, μ) => k x μ
  | some (none, true, μ) => h μ
  | _ => none
def cs9 (st : List Value) : Nat := (st.map fun v => v.category).sum
def cat9 (st : List Value) : Bool := Nat.ble ((st.map fun v => v.category).sum) 8
/-- a call: M' its number, na how many values it takes, kd 0 static, 1 by a receiver of class ci; rt 0 nothing, 1 an int, 2 a long, 3 a boolean; nl its locals; hd where its throws are caught -/
def call9 (rec : Rec9) (d M pc : Nat) (ls : Loc9) (st : List Value) (μ : Mem) (M' na kd rt nl ci hd : Nat) : Option Res :=
  match d with
  | 0 => none
  | d' + 1 => match tk9 na [] st with
    | none => none
    | some (as, r) => bif cat9 r && Nat.ble (cs9 as) nl then
        let h : Mem → Option Res := fun μ => match hd with
          | 0 => none
          | h + 1 => rec (d' + 1) M h ls [.ref (mHp μ - 1)] μ
        let c := rec d' M' 0 (arg9 nl as) [] μ
        let go := match rt with
          | 0 => cV c (fun μ => rec (d' + 1) M (pc + 3) ls r μ) h
          | 2 => cJ c (fun x μ => rec (d' + 1) M (pc + 3) ls (.long x :: r) μ) h
          | _ => cI c (fun x μ => rec (d' + 1) M (pc + 3) ls (.int x :: r) μ) h
        match kd with
        | 0 => go
        | _ => match as with
          | .ref a :: _ => if mSh μ a = (0, ci) then go else none
          | _ => none
      else none
/-- the texts that stand in the code -/
def strs9 : List (List Int32) := [[102, 105, 101, 108, 100, 32, 112, 101, 114, 115, 111, 110, 32, 102, 105, 110, 100, 32, 102, 101, 97, 114, 32, 104, 105, 110, 116, 32, 112, 114, 105, 111, 114, 32, 103, 101, 116, 115, 32, 114, 105, 115, 107, 32, 99, 111, 105, 110, 32, 112, 111, 116, 32, 108, 105, 100, 32, 98, 111, 110, 101, 32, 104, 105, 100, 100, 101, 110, 32, 108, 111, 115, 116, 32, 98, 117, 114, 105, 101, 100, 32, 107, 105, 110, 103, 32, 102, 105, 110, 100, 101, 114, 32, 111, 119, 110, 101, 114, 32, 100, 105, 103, 115, 32, 116, 111, 108, 100, 32, 115, 111, 108, 100, 32, 108, 97, 105, 100, 32, 103, 105, 118, 101, 110, 32, 112, 108, 111, 117, 103, 104, 32, 110, 105, 103, 104, 116, 32, 111, 114, 32, 97, 110, 100, 32, 110, 111, 116, 32, 103, 114, 111, 117, 110, 100, 32, 102, 111, 117, 110, 100, 32, 111, 102, 32, 121, 101, 97, 114, 32, 118, 97, 108, 117, 101, 32, 100, 101, 101, 112, 32, 110, 117, 109, 98, 101, 114, 32], [32, 105, 110, 32, 116, 104, 101, 32, 103, 114, 111, 117, 110, 100], [32, 104, 97, 100, 32, 98, 121, 32], [32, 116, 111, 108, 100], [32, 115, 111, 108, 100]]
def sLen (j : Nat) : Nat := (strs9.getD j []).length
def sCh (j i : Nat) : Int32 := (strs9.getD j []).getD i 0
def oFF : Nat := 1000000000
/-- one instruction: q its length and what it links to, v its constant, sw its switch -/
def step9 (rec : Rec9) (d M pc : Nat) (ls : Loc9) (st : List Value) (μ : Mem) (i : Instr) (q : List Nat) (v : Value) (sw : List (Int32 × Nat)) : Option Res :=
  let nx : List Value → Option Res := fun st' => rec d M (pc + q.headD 0) ls st' μ
  let ldI : Nat → Option Res := fun k => match nth9 ls k with
    | some (.int x) => nx (.int x :: st)
    | _ => none
  let ldR : Nat → Option Res := fun k => match nth9 ls k with
    | some (.ref x) => nx (.ref x :: st)
    | _ => none
  let ldJ : Nat → Option Res := fun k => match nth9 ls k with
    | some (.long x) => nx (.long x :: st)
    | _ => none
  let stI : Nat → Option Res := fun k => kI st fun x r => rec d M (pc + q.headD 0) (st1 ls k (.int x)) r μ
  let stR : Nat → Option Res := fun k => kR st fun x r => rec d M (pc + q.headD 0) (st1 ls k (.ref x)) r μ
  let stJ : Nat → Option Res := fun k => kJ st fun x r => rec d M (pc + q.headD 0) (st2 ls k (.long x)) r μ
  match i with
  | .iload k => ldI k
  | .iload_n k => ldI k.val
  | .aload k => ldR k
  | .aload_n k => ldR k.val
  | .lload k => ldJ k
  | .lload_n k => ldJ k.val
  | .istore k => stI k
  | .istore_n k => stI k.val
  | .astore k => stR k
  | .astore_n k => stR k.val
  | .lstore k => stJ k
  | .lstore_n k => stJ k.val
  | .iconst _ => nx (v :: st)
  | .bipush _ => nx (v :: st)
  | .sipush _ => nx (v :: st)
  | .lconst _ => nx (v :: st)
  | .ldc _ => nx (v :: st)
  | .ldc_w _ => nx (v :: st)
  | .ldc2_w _ => nx (v :: st)
  | .iinc k _ => match nth9 ls k, v with
    | some (.int x), .int y => rec d M (pc + 3) (st1 ls k (.int (x + y))) st μ
    | _, _ => none
  | .iadd => kII st fun x y r => nx (.int (x + y) :: r)
  | .isub => kII st fun x y r => nx (.int (x - y) :: r)
  | .imul => kII st fun x y r => nx (.int (x * y) :: r)
  | .iand => kII st fun x y r => nx (.int (x &&& y) :: r)
  | .ior => kII st fun x y r => nx (.int (x ||| y) :: r)
  | .ixor => kII st fun x y r => nx (.int (x ^^^ y) :: r)
  | .ishl => kII st fun x y r => nx (.int (x <<< (y &&& 31)) :: r)
  | .ishr => kII st fun x y r => nx (.int (x >>> (y &&& 31)) :: r)
  | .iushr => kII st fun x y r => nx (.int ((x.toUInt32 >>> (y.toUInt32 &&& Int32.toUInt32 31)).toInt32) :: r)
  | .idiv => kII st fun x y r => if y = 0 then none else nx (.int (x / y) :: r)
  | .irem => kII st fun x y r => if y = 0 then none else nx (.int (x - x / y * y) :: r)
  | .ineg => kI st fun x r => nx (.int (0 - x) :: r)
  | .ladd => kJJ st fun x y r => nx (.long (x + y) :: r)
  | .lsub => kJJ st fun x y r => nx (.long (x - y) :: r)
  | .lmul => kJJ st fun x y r => nx (.long (x * y) :: r)
  | .land => kJJ st fun x y r => nx (.long (x &&& y) :: r)
  | .ldiv => kJJ st fun x y r => if y = 0 then none else nx (.long (x / y) :: r)
  | .lrem => kJJ st fun x y r => if y = 0 then none else nx (.long (x - x / y * y) :: r)
  | .lshr => kJI st fun x y r => nx (.long (x >>> (y.toInt64 &&& 63)) :: r)
  | .lcmp => kJJ st fun x y r => nx (.int (lg_cmp x y) :: r)
  | .i2l => kI st fun x r => nx (.long x.toInt64 :: r)
  | .l2i => kJ st fun x r => nx (.int x.toInt32 :: r)
  | .i2b => kI st fun x r => nx (.int x.toInt8.toInt32 :: r)
  | .dup => match st with
    | x :: r => match x with
      | .long _ => none
      | .double _ => none
      | x => nx (x :: x :: r)
    | [] => none
  | .dup2 => match st with
    | .int y :: .int x :: r => nx (.int y :: .int x :: .int y :: .int x :: r)
    | .int y :: .ref x :: r => nx (.int y :: .ref x :: .int y :: .ref x :: r)
    | _ => none
  | .pop => match st with
    | x :: r => match x with
      | .long _ => none
      | .double _ => none
      | _ => nx r
    | [] => none
  | .ifCond c _ => kI st fun x r => match c with
    | .eq => if x = 0 then rec d M ((q.drop 1).headD 0) ls r μ else rec d M (pc + 3) ls r μ
    | .ne => if x = 0 then rec d M (pc + 3) ls r μ else rec d M ((q.drop 1).headD 0) ls r μ
    | .lt => if x < 0 then rec d M ((q.drop 1).headD 0) ls r μ else rec d M (pc + 3) ls r μ
    | .ge => if 0 ≤ x then rec d M ((q.drop 1).headD 0) ls r μ else rec d M (pc + 3) ls r μ
    | .gt => if 0 < x then rec d M ((q.drop 1).headD 0) ls r μ else rec d M (pc + 3) ls r μ
    | .le => if x ≤ 0 then rec d M ((q.drop 1).headD 0) ls r μ else rec d M (pc + 3) ls r μ
  | .if_icmp c _ => kII st fun x y r => match c with
    | .eq => if x = y then rec d M ((q.drop 1).headD 0) ls r μ else rec d M (pc + 3) ls r μ
    | .ne => if x = y then rec d M (pc + 3) ls r μ else rec d M ((q.drop 1).headD 0) ls r μ
    | .lt => if x < y then rec d M ((q.drop 1).headD 0) ls r μ else rec d M (pc + 3) ls r μ
    | .ge => if y ≤ x then rec d M ((q.drop 1).headD 0) ls r μ else rec d M (pc + 3) ls r μ
    | .gt => if y < x then rec d M ((q.drop 1).headD 0) ls r μ else rec d M (pc + 3) ls r μ
    | .le => if x ≤ y then rec d M ((q.drop 1).headD 0) ls r μ else rec d M (pc + 3) ls r μ
  | .ifnull _ => kR st fun _ r => rec d M (pc + 3) ls r μ
  | .goto _ => rec d M ((q.drop 1).headD 0) (cut9 ((q.drop 2).headD 0) ls) st μ
  | .tableswitch _ _ _ _ => kI st fun x r => sw9 (fun t => rec d M t ls r μ) x ((q.drop 1).headD 0) sw
  | .lookupswitch _ _ => kI st fun x r => sw9 (fun t => rec d M t ls r μ) x ((q.drop 1).headD 0) sw
  | .getfield _ => match q with
    | [_, ci, k, tc] => kR st fun a r => if mSh μ a = (0, ci) then (match tc with
        | 1 => nx (.long (mJ μ a k) :: r)
        | 2 => match mP μ a k with
          | some b => nx (.ref b :: r)
          | none => none
        | _ => nx (.int (mI μ a k) :: r)) else none
    | _ => none
  | .putfield _ => match q with
    | [_, ci, k, tc] => match tc, st with
      | 0, .int x :: .ref a :: r => if mSh μ a = (0, ci) then rec d M (pc + 3) ls r (wI μ a k x) else none
      | 1, .long x :: .ref a :: r => if mSh μ a = (0, ci) then rec d M (pc + 3) ls r (wJ μ a k x) else none
      | 2, .ref x :: .ref a :: r => if mSh μ a = (0, ci) then rec d M (pc + 3) ls r (wP μ a k (some x)) else none
      | 3, .int x :: .ref a :: r => if mSh μ a = (0, ci) ∧ (x = 0 ∨ x = 1) then rec d M (pc + 3) ls r (wI μ a k x) else none
      | _, _ => none
    | _ => none
  | .arraylength => kR st fun a r => if 1 ≤ (mSh μ a).1 ∧ (mSh μ a).1 ≤ 6 then nx (.int (Int32.ofNat (mSh μ a).2) :: r) else none
  | .iaload => kIR st fun a i r => if ((mSh μ a).1 = 1 ∨ (mSh μ a).1 = 6) ∧ in9 i (mSh μ a).2 then nx (.int (mI μ a i.toNatClampNeg) :: r) else none
  | .baload => kIR st fun a i r => if ((mSh μ a).1 = 2 ∨ (mSh μ a).1 = 3) ∧ in9 i (mSh μ a).2 then nx (.int (mI μ a i.toNatClampNeg) :: r) else none
  | .laload => kIR st fun a i r => if (mSh μ a).1 = 4 ∧ in9 i (mSh μ a).2 then nx (.long (mJ μ a i.toNatClampNeg) :: r) else none
  | .aaload => kIR st fun a i r => if (mSh μ a).1 = 5 ∧ in9 i (mSh μ a).2 then (match mP μ a i.toNatClampNeg with
      | some b => nx (.ref b :: r)
      | none => none) else none
  | .iastore => match st with
    | .int x :: .int i :: .ref a :: r => if (mSh μ a).1 = 1 ∧ in9 i (mSh μ a).2 then rec d M (pc + 1) ls r (wI μ a i.toNatClampNeg x) else none
    | _ => none
  | .bastore => match st with
    | .int x :: .int i :: .ref a :: r => if (mSh μ a).1 = 2 ∧ in9 i (mSh μ a).2 then rec d M (pc + 1) ls r (wI μ a i.toNatClampNeg (vp_nar .byte x))
        else if (mSh μ a).1 = 3 ∧ in9 i (mSh μ a).2 then rec d M (pc + 1) ls r (wI μ a i.toNatClampNeg (vp_nar .boolean x)) else none
    | _ => none
  | .lastore => match st with
    | .long x :: .int i :: .ref a :: r => if (mSh μ a).1 = 4 ∧ in9 i (mSh μ a).2 then rec d M (pc + 1) ls r (wJ μ a i.toNatClampNeg x) else none
    | _ => none
  | .aastore => match st with
    | .ref x :: .int i :: .ref a :: r => if (mSh μ a).1 = 5 ∧ in9 i (mSh μ a).2 ∧ mSh μ x = (0, 9) then rec d M (pc + 1) ls r (wP μ a i.toNatClampNeg (some x)) else none
    | _ => none
  | .new _ => match q with
    | [_, ci, n, 0] => if mHp μ < oFF then rec d M (pc + 3) ls (.ref (mHp μ) :: st) (mNew μ (0, ci) n) else none
    | [_, _, n, 1] => if mHp μ < oFF ∧ 8 ≤ d then (bif cat9 st then some (none, true, mNew μ (9, 0) n) else none) else none
    | _ => none
  | .newarray _ => match q with
    | [_, c] => kI st fun n r => if 0 ≤ n ∧ n.toNatClampNeg ≤ 60000000 ∧ mHp μ < oFF then rec d M (pc + 2) ls (.ref (mHp μ) :: r) (mNew μ (c, n.toNatClampNeg) n.toNatClampNeg) else none
    | _ => none
  | .anewarray _ => kI st fun n r => if 0 ≤ n ∧ n.toNatClampNeg ≤ 60000000 ∧ mHp μ < oFF then rec d M (pc + 3) ls (.ref (mHp μ) :: r) (mNew μ (5, n.toNatClampNeg) n.toNatClampNeg) else none
  | .invokevirtual _ => match q with
    | [_, M', na, kd, rt, nl, ci, hd] => call9 rec d M pc ls st μ M' na kd rt nl ci hd
    | [_, 3] => kR st fun a r => if oFF < a ∧ a ≤ oFF + 5 ∧ 2 ≤ d then (bif cat9 r then nx (.int (Int32.ofNat (sLen (a - oFF - 1))) :: r) else none) else none
    | [_, 4] => kIR st fun a i r => if oFF < a ∧ a ≤ oFF + 5 ∧ 8 ≤ d ∧ in9 i (sLen (a - oFF - 1)) then (bif cat9 r then nx (.int (sCh (a - oFF - 1) i.toNatClampNeg) :: r) else none) else none
    | _ => none
  | .invokestatic _ => match q with
    | [_, M', na, kd, rt, nl, ci, hd] => call9 rec d M pc ls st μ M' na kd rt nl ci hd
    | [_, 2] => match st with
      | .int n :: .int dp :: .ref b :: .int sp :: .ref a :: r =>
        if d ≠ 0 ∧ ((mSh μ a).1 = (mSh μ b).1 ∧ a ≠ b) ∧ (0 ≤ sp ∧ 0 ≤ dp ∧ 0 ≤ n) ∧ sp.toNatClampNeg + n.toNatClampNeg ≤ (mSh μ a).2 ∧ dp.toNatClampNeg + n.toNatClampNeg ≤ (mSh μ b).2 then (bif cat9 r then
          (if (mSh μ a).1 = 1 then rec d M (pc + 3) ls r (cpI μ a sp.toNatClampNeg b dp.toNatClampNeg n.toNatClampNeg)
          else if (mSh μ a).1 = 4 then rec d M (pc + 3) ls r (cpJ μ a sp.toNatClampNeg b dp.toNatClampNeg n.toNatClampNeg) else none) else none) else none
      | _ => none
    | [_, 5] => kI st fun x r => if d ≠ 0 then (bif cat9 r then nx (.int (if 0 ≤ x then x else 0 - x) :: r) else none) else none
    | [_, 6] => kII st fun x y r => if d ≠ 0 then (bif cat9 r then nx (.int (if x < y then y else x) :: r) else none) else none
    | [_, 7] => kII st fun x y r => if d ≠ 0 then (bif cat9 r then nx (.int (if y < x then y else x) :: r) else none) else none
    | [_, 8] => kJJ st fun x y r => if d ≠ 0 then (bif cat9 r then nx (.long (if y < x then x else y) :: r) else none) else none
    | _ => none
  | .invokespecial _ => match q with
    | [_, M', na, kd, rt, nl, ci, hd] => call9 rec d M pc ls st μ M' na kd rt nl ci hd
    | [_, 1] => kR st fun _ r => if d ≠ 0 then (bif cat9 r then nx r else none) else none
    | _ => none
  | .ireturn => match st with
    | [.int x] => match q with
      | [_, 3] => if x = 0 ∨ x = 1 then some (some (.int x), false, μ) else none
      | _ => some (some (.int x), false, μ)
    | _ => none
  | .lreturn => match st with
    | [.long x] => some (some (.long x), false, μ)
    | _ => none
  | .return_ => match st with
    | [] => some (none, false, μ)
    | _ => none
  | _ => none

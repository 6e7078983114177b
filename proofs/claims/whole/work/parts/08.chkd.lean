/-! THE CODE TABLES ARE THE CODE: each row against the bytes and the links -/
def np9 (M : Nat) : Nat := match parseMethodDescriptor (mY9 M).desc with
  | some d => d.parameters.length
  | none => 999
def rt9 (M : Nat) : Nat := match mR9 M with
  | none => 0
  | some .int => 1
  | some .long => 2
  | some .boolean => 3
  | _ => 9
def fOk9 (M z ci k : Nat) : Bool := lkF.any fun t => t.1 == mO9 M && (t.2.1 == z && (t.2.2.1 == ci && t.2.2.2.1 == k))
def fNest9 (M z : Nat) : Bool := lkF.any fun t => t.1 == mO9 M && (t.2.1 == z && t.2.2.2.2.1)
def mOk9 (M z M' : Nat) : Bool := lkM.any fun t => t.1 == mO9 M && (t.2.1 == z && t.2.2.1 == M')
/-- where the class throws: method, place, link -/
def thr9 : List (Nat × Nat × Nat) := [(165, 21, 145), (166, 18, 145), (167, 18, 145), (168, 18, 145)]
def call9Ok (M z M' na rt nl ci : Nat) : Bool := mOk9 M z M' && (nl == mL9 M' && (ci == mO9 M' && (rt == rt9 M' && (rt < 4 && (ci < 18 && na < 100)))))
def chkI (M pc : Nat) (i : Instr) (q : List Nat) (v : Value) (sw : List (Int32 × Nat)) : Bool := match i with
  | .istore k => decide (k < mL9 M)
  | .istore_n k => decide (k.val < mL9 M)
  | .astore k => decide (k < mL9 M)
  | .astore_n k => decide (k.val < mL9 M)
  | .lstore k => decide (k + 1 < mL9 M)
  | .lstore_n k => decide (k.val + 1 < mL9 M)
  | .iconst z => decide (v = .int (Int32.ofInt z))
  | .bipush z => decide (v = .int (Int8.ofInt z).toInt32)
  | .sipush z => decide (v = .int (Int16.ofInt z).toInt32)
  | .lconst z => decide (v = .long (Int64.ofNat z.val))
  | .ldc z => match v with
    | .int x => lkI.any fun t => t.1 == mO9 M && (t.2.1 == z && t.2.2.1 == x)
    | .ref a => lkS.any fun t => t.1 == mO9 M && (t.2.1 == z && oFF + 1 + t.2.2.1 == a)
    | _ => false
  | .ldc_w z => match v with
    | .int x => lkI.any fun t => t.1 == mO9 M && (t.2.1 == z && t.2.2.1 == x)
    | _ => false
  | .ldc2_w z => match v with
    | .long x => lkJ.any fun t => t.1 == mO9 M && (t.2.1 == z && t.2.2.1 == x)
    | _ => false
  | .iinc k z => decide (v = .int (Int32.ofInt z) ∧ k < mL9 M)
  | .ifCond _ z => decide ((pc : Int) + z = (((q.drop 1).headD 0 : Nat) : Int))
  | .if_icmp _ z => decide ((pc : Int) + z = (((q.drop 1).headD 0 : Nat) : Int))
  | .goto z => decide ((pc : Int) + z = (((q.drop 1).headD 0 : Nat) : Int))
  | .tableswitch z lo hi offs => decide ((pc : Int) + z = (((q.drop 1).headD 0 : Nat) : Int) ∧ hi = lo + sw.length - 1 ∧ sw.length = offs.size ∧ ∀ j, j < sw.length → (sw.map fun x => x.1.toInt)[j]? = some (lo + j) ∧ ∃ o ∈ offs[j]?, (sw.map fun x => ((x.2 : Nat) : Int))[j]? = some ((pc : Int) + o))
  | .lookupswitch z ps => decide ((pc : Int) + z = (((q.drop 1).headD 0 : Nat) : Int) ∧ (ps.toList.zip (ps.toList.drop 1)).all (fun (a, next) => a.1 < next.1) = true ∧ sw.map (fun x => (x.1.toInt, ((x.2 : Nat) : Int))) = ps.toList.map (fun x => (x.1, (pc : Int) + x.2)))
  | .getfield z => match q with
    | [_, ci, k, tc] => fOk9 M z ci k && (decide (ci < 13 ∧ k < N9 ci) && (decide (tc9 ci k ≠ 9) && tc == (bif tc9 ci k == 3 then 0 else tc9 ci k)))
    | _ => false
  | .putfield z => match q with
    | [_, ci, k, tc] => fOk9 M z ci k && (decide (ci < 13 ∧ k < N9 ci) && (decide (tc9 ci k ≠ 9) && (tc == tc9 ci k && (bif (T9 ci k).2.2.2 then (decide ((mY9 M).name = "<init>" ∧ (T9 ci k).1 = cn9 (mO9 M)) && !(fNest9 M z)) else true))))
    | _ => false
  | .new z => match q with
    | [_, ci, n, 0] => decide (ci < 13 ∧ n = N9 ci) && lkN.any fun t => t.1 == mO9 M && (t.2.1 == z && t.2.2.1 == ci)
    | [_, _, n, 1] => decide (n = 6 ∧ (M, pc, z) ∈ thr9)
    | _ => false
  | .newarray ty => match q with
    | [_, c] => match ty with
      | .int => c == 1
      | .byte => c == 2
      | .boolean => c == 3
      | .long => c == 4
      | _ => false
    | _ => false
  | .anewarray z => lkQ.any fun t => t.1 == mO9 M && t.2.1 == z
  | .invokevirtual z => match q with
    | [_, M', na, kd, rt, nl, ci, hd] => call9Ok M z M' na rt nl ci && (decide (M' < 301 ∧ kd = 1 ∧ mS9 M' = false ∧ na = np9 M' + 1 ∧ (mY9 M').name ≠ "<init>" ∧ ci < 13) && (decide (301 ≤ M ∧ M < 305) || hd == 0))
    | [_, 3] => lkL.any fun t => t.1 == mO9 M && t.2.1 == z
    | [_, 4] => lkH.any fun t => t.1 == mO9 M && t.2.1 == z
    | _ => false
  | .invokespecial z => match q with
    | [_, M', na, kd, rt, nl, ci, hd] => call9Ok M z M' na rt nl ci && decide (M' < 301 ∧ kd = 1 ∧ mS9 M' = false ∧ na = np9 M' + 1 ∧ (mY9 M').name = "<init>" ∧ rt = 0 ∧ hd = 0)
    | [_, 1] => lkO.any fun t => t.1 == mO9 M && t.2.1 == z
    | _ => false
  | .invokestatic z => match q with
    | [_, M', na, kd, rt, nl, ci, hd] => call9Ok M z M' na rt nl ci && decide ((M' < 301 ∨ (M = 305 ∧ M' < 305)) ∧ kd = 0 ∧ mS9 M' = true ∧ na = np9 M' ∧ hd = 0)
    | [_, 2] => lkA.any fun t => t.1 == mO9 M && t.2.1 == z
    | [_, k] => decide (5 ≤ k ∧ k ≤ 8) && lkX.any fun t => t.1 == mO9 M && (t.2.1 == z && t.2.2.1 == k)
    | _ => false
  | .ireturn => match q with
    | [_, k] => decide ((k = 1 ∧ mR9 M = some .int) ∨ (k = 3 ∧ mR9 M = some .boolean))
    | _ => false
  | .lreturn => decide (mR9 M = some .long)
  | .return_ => decide (mR9 M = none)
  | _ => true
def len9 (i : Instr) : Nat := match i with
  | .iload _ => 2
  | .aload _ => 2
  | .lload _ => 2
  | .istore _ => 2
  | .astore _ => 2
  | .lstore _ => 2
  | .bipush _ => 2
  | .ldc _ => 2
  | .newarray _ => 2
  | .sipush _ => 3
  | .ldc_w _ => 3
  | .ldc2_w _ => 3
  | .iinc _ _ => 3
  | .ifCond _ _ => 3
  | .if_icmp _ _ => 3
  | .goto _ => 3
  | .ifnull _ => 3
  | .getfield _ => 3
  | .putfield _ => 3
  | .new _ => 3
  | .anewarray _ => 3
  | .invokevirtual _ => 3
  | .invokespecial _ => 3
  | .invokestatic _ => 3
  | .tableswitch _ _ _ _ => 0
  | .lookupswitch _ _ => 0
  | _ => 1
def chkE (M pc : Nat) : Bool := match code9 M pc with
  | some (_, i, q, v, sw) => decide (decode (mB9 M) pc = .ok (i, q.headD 0)) && ((len9 i == 0 || q.headD 0 == len9 i) && chkI M pc i q v sw)
  | none => true

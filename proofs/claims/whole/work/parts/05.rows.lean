section Rows10
variable {d M pc : Nat} {ls : Loc9} {st : List Value} {cc : Nat × Nat} {S : Nat → Nat × Nat} {I : Nat → Nat → Int32} {J : Nat → Nat → Int64} {P : Nat → Nat → Option Nat} {r : Res}
theorem ifp {c : Prop} [Decidable c] {a b : Prop} (hc : c) (h : if c then a else b) : a := by rwa [if_pos hc] at h
theorem ifi {c : Prop} [Decidable c] {a b : Prop} (h1 : c → a) (h2 : ¬ c → b) : if c then a else b := by
  by_cases hc : c
  · rw [if_pos hc]; exact h1 hc
  · rw [if_neg hc]; exact h2 hc
theorem ifn {c : Prop} [Decidable c] {a b : Prop} (hc : ¬ c) (h : if c then a else b) : b := by rwa [if_neg hc] at h
theorem g_iload {c : Nat} {k : Nat} {x : Int32} (h : code9 M pc = some (c, .iload k, [2], .null, [])) (hc : cutA c ls = ls) (hl : nth9 ls k = some (.int x)) (g : Go d M (pc + 2) ls (.int x :: st) (cc, S, I, J, P) r) : Go d M pc ls st (cc, S, I, J, P) r := by
  obtain ⟨N, hN⟩ := g
  refine go_of h ⟨N, fun n hn => ?_⟩
  rw [hc]
  show (match nth9 ls k with
    | some (.int x) => run n d M (pc + 2) ls (.int x :: st) (cc, S, I, J, P)
    | _ => none) = some r
  rw [hl]
  exact hN n hn
theorem g_aload {c : Nat} {k : Nat} {x : Nat} (h : code9 M pc = some (c, .aload k, [2], .null, [])) (hc : cutA c ls = ls) (hl : nth9 ls k = some (.ref x)) (g : Go d M (pc + 2) ls (.ref x :: st) (cc, S, I, J, P) r) : Go d M pc ls st (cc, S, I, J, P) r := by
  obtain ⟨N, hN⟩ := g
  refine go_of h ⟨N, fun n hn => ?_⟩
  rw [hc]
  show (match nth9 ls k with
    | some (.ref x) => run n d M (pc + 2) ls (.ref x :: st) (cc, S, I, J, P)
    | _ => none) = some r
  rw [hl]
  exact hN n hn
theorem g_lload {c : Nat} {k : Nat} {x : Int64} (h : code9 M pc = some (c, .lload k, [2], .null, [])) (hc : cutA c ls = ls) (hl : nth9 ls k = some (.long x)) (g : Go d M (pc + 2) ls (.long x :: st) (cc, S, I, J, P) r) : Go d M pc ls st (cc, S, I, J, P) r := by
  obtain ⟨N, hN⟩ := g
  refine go_of h ⟨N, fun n hn => ?_⟩
  rw [hc]
  show (match nth9 ls k with
    | some (.long x) => run n d M (pc + 2) ls (.long x :: st) (cc, S, I, J, P)
    | _ => none) = some r
  rw [hl]
  exact hN n hn
theorem g_iload_n {c : Nat} {k : Fin 4} {x : Int32} (h : code9 M pc = some (c, .iload_n k, [1], .null, [])) (hc : cutA c ls = ls) (hl : nth9 ls k.val = some (.int x)) (g : Go d M (pc + 1) ls (.int x :: st) (cc, S, I, J, P) r) : Go d M pc ls st (cc, S, I, J, P) r := by
  obtain ⟨N, hN⟩ := g
  refine go_of h ⟨N, fun n hn => ?_⟩
  rw [hc]
  show (match nth9 ls k.val with
    | some (.int x) => run n d M (pc + 1) ls (.int x :: st) (cc, S, I, J, P)
    | _ => none) = some r
  rw [hl]
  exact hN n hn
theorem g_aload_n {c : Nat} {k : Fin 4} {x : Nat} (h : code9 M pc = some (c, .aload_n k, [1], .null, [])) (hc : cutA c ls = ls) (hl : nth9 ls k.val = some (.ref x)) (g : Go d M (pc + 1) ls (.ref x :: st) (cc, S, I, J, P) r) : Go d M pc ls st (cc, S, I, J, P) r := by
  obtain ⟨N, hN⟩ := g
  refine go_of h ⟨N, fun n hn => ?_⟩
  rw [hc]
  show (match nth9 ls k.val with
    | some (.ref x) => run n d M (pc + 1) ls (.ref x :: st) (cc, S, I, J, P)
    | _ => none) = some r
  rw [hl]
  exact hN n hn
theorem g_lload_n {c : Nat} {k : Fin 4} {x : Int64} (h : code9 M pc = some (c, .lload_n k, [1], .null, [])) (hc : cutA c ls = ls) (hl : nth9 ls k.val = some (.long x)) (g : Go d M (pc + 1) ls (.long x :: st) (cc, S, I, J, P) r) : Go d M pc ls st (cc, S, I, J, P) r := by
  obtain ⟨N, hN⟩ := g
  refine go_of h ⟨N, fun n hn => ?_⟩
  rw [hc]
  show (match nth9 ls k.val with
    | some (.long x) => run n d M (pc + 1) ls (.long x :: st) (cc, S, I, J, P)
    | _ => none) = some r
  rw [hl]
  exact hN n hn
theorem g_istore {c : Nat} {k : Nat} {x : Int32} {ls2 : Loc9} (h : code9 M pc = some (c, .istore k, [2], .null, [])) (hc : cutA c ls = ls) (hl : st1 ls k (.int x) = ls2) (g : Go d M (pc + 2) ls2 st (cc, S, I, J, P) r) : Go d M pc ls (.int x :: st) (cc, S, I, J, P) r := by
  obtain ⟨N, hN⟩ := g
  refine go_of h ⟨N, fun n hn => ?_⟩
  rw [hc]
  show run n d M (pc + 2) (st1 ls k (.int x)) st (cc, S, I, J, P) = some r
  rw [hl]
  exact hN n hn
theorem g_astore {c : Nat} {k : Nat} {x : Nat} {ls2 : Loc9} (h : code9 M pc = some (c, .astore k, [2], .null, [])) (hc : cutA c ls = ls) (hl : st1 ls k (.ref x) = ls2) (g : Go d M (pc + 2) ls2 st (cc, S, I, J, P) r) : Go d M pc ls (.ref x :: st) (cc, S, I, J, P) r := by
  obtain ⟨N, hN⟩ := g
  refine go_of h ⟨N, fun n hn => ?_⟩
  rw [hc]
  show run n d M (pc + 2) (st1 ls k (.ref x)) st (cc, S, I, J, P) = some r
  rw [hl]
  exact hN n hn
theorem g_lstore {c : Nat} {k : Nat} {x : Int64} {ls2 : Loc9} (h : code9 M pc = some (c, .lstore k, [2], .null, [])) (hc : cutA c ls = ls) (hl : st2 ls k (.long x) = ls2) (g : Go d M (pc + 2) ls2 st (cc, S, I, J, P) r) : Go d M pc ls (.long x :: st) (cc, S, I, J, P) r := by
  obtain ⟨N, hN⟩ := g
  refine go_of h ⟨N, fun n hn => ?_⟩
  rw [hc]
  show run n d M (pc + 2) (st2 ls k (.long x)) st (cc, S, I, J, P) = some r
  rw [hl]
  exact hN n hn
theorem g_istore_n {c : Nat} {k : Fin 4} {x : Int32} {ls2 : Loc9} (h : code9 M pc = some (c, .istore_n k, [1], .null, [])) (hc : cutA c ls = ls) (hl : st1 ls k.val (.int x) = ls2) (g : Go d M (pc + 1) ls2 st (cc, S, I, J, P) r) : Go d M pc ls (.int x :: st) (cc, S, I, J, P) r := by
  obtain ⟨N, hN⟩ := g
  refine go_of h ⟨N, fun n hn => ?_⟩
  rw [hc]
  show run n d M (pc + 1) (st1 ls k.val (.int x)) st (cc, S, I, J, P) = some r
  rw [hl]
  exact hN n hn
theorem g_astore_n {c : Nat} {k : Fin 4} {x : Nat} {ls2 : Loc9} (h : code9 M pc = some (c, .astore_n k, [1], .null, [])) (hc : cutA c ls = ls) (hl : st1 ls k.val (.ref x) = ls2) (g : Go d M (pc + 1) ls2 st (cc, S, I, J, P) r) : Go d M pc ls (.ref x :: st) (cc, S, I, J, P) r := by
  obtain ⟨N, hN⟩ := g
  refine go_of h ⟨N, fun n hn => ?_⟩
  rw [hc]
  show run n d M (pc + 1) (st1 ls k.val (.ref x)) st (cc, S, I, J, P) = some r
  rw [hl]
  exact hN n hn
theorem g_lstore_n {c : Nat} {k : Fin 4} {x : Int64} {ls2 : Loc9} (h : code9 M pc = some (c, .lstore_n k, [1], .null, [])) (hc : cutA c ls = ls) (hl : st2 ls k.val (.long x) = ls2) (g : Go d M (pc + 1) ls2 st (cc, S, I, J, P) r) : Go d M pc ls (.long x :: st) (cc, S, I, J, P) r := by
  obtain ⟨N, hN⟩ := g
  refine go_of h ⟨N, fun n hn => ?_⟩
  rw [hc]
  show run n d M (pc + 1) (st2 ls k.val (.long x)) st (cc, S, I, J, P) = some r
  rw [hl]
  exact hN n hn
theorem g_iconst {c : Nat} {k : Int} {x : Value} (h : code9 M pc = some (c, .iconst k, [1], x, [])) (hc : cutA c ls = ls) (g : Go d M (pc + 1) ls (x :: st) (cc, S, I, J, P) r) : Go d M pc ls st (cc, S, I, J, P) r := by
  obtain ⟨N, hN⟩ := g
  refine go_of h ⟨N, fun n hn => ?_⟩
  rw [hc]
  exact hN n hn
theorem g_bipush {c : Nat} {k : Int} {x : Value} (h : code9 M pc = some (c, .bipush k, [2], x, [])) (hc : cutA c ls = ls) (g : Go d M (pc + 2) ls (x :: st) (cc, S, I, J, P) r) : Go d M pc ls st (cc, S, I, J, P) r := by
  obtain ⟨N, hN⟩ := g
  refine go_of h ⟨N, fun n hn => ?_⟩
  rw [hc]
  exact hN n hn
theorem g_sipush {c : Nat} {k : Int} {x : Value} (h : code9 M pc = some (c, .sipush k, [3], x, [])) (hc : cutA c ls = ls) (g : Go d M (pc + 3) ls (x :: st) (cc, S, I, J, P) r) : Go d M pc ls st (cc, S, I, J, P) r := by
  obtain ⟨N, hN⟩ := g
  refine go_of h ⟨N, fun n hn => ?_⟩
  rw [hc]
  exact hN n hn
theorem g_lconst {c : Nat} {k : Fin 2} {x : Value} (h : code9 M pc = some (c, .lconst k, [1], x, [])) (hc : cutA c ls = ls) (g : Go d M (pc + 1) ls (x :: st) (cc, S, I, J, P) r) : Go d M pc ls st (cc, S, I, J, P) r := by
  obtain ⟨N, hN⟩ := g
  refine go_of h ⟨N, fun n hn => ?_⟩
  rw [hc]
  exact hN n hn
theorem g_ldc {c : Nat} {k : Nat} {x : Value} (h : code9 M pc = some (c, .ldc k, [2], x, [])) (hc : cutA c ls = ls) (g : Go d M (pc + 2) ls (x :: st) (cc, S, I, J, P) r) : Go d M pc ls st (cc, S, I, J, P) r := by
  obtain ⟨N, hN⟩ := g
  refine go_of h ⟨N, fun n hn => ?_⟩
  rw [hc]
  exact hN n hn
theorem g_ldc_w {c : Nat} {k : Nat} {x : Value} (h : code9 M pc = some (c, .ldc_w k, [3], x, [])) (hc : cutA c ls = ls) (g : Go d M (pc + 3) ls (x :: st) (cc, S, I, J, P) r) : Go d M pc ls st (cc, S, I, J, P) r := by
  obtain ⟨N, hN⟩ := g
  refine go_of h ⟨N, fun n hn => ?_⟩
  rw [hc]
  exact hN n hn
theorem g_ldc2_w {c : Nat} {k : Nat} {x : Value} (h : code9 M pc = some (c, .ldc2_w k, [3], x, [])) (hc : cutA c ls = ls) (g : Go d M (pc + 3) ls (x :: st) (cc, S, I, J, P) r) : Go d M pc ls st (cc, S, I, J, P) r := by
  obtain ⟨N, hN⟩ := g
  refine go_of h ⟨N, fun n hn => ?_⟩
  rw [hc]
  exact hN n hn
theorem g_iinc {c : Nat} {k : Nat} {z : Int} {x y : Int32} {ls2 : Loc9} (h : code9 M pc = some (c, .iinc k z, [3], .int y, [])) (hc : cutA c ls = ls) (hx : nth9 ls k = some (.int x)) (hl : st1 ls k (.int (x + y)) = ls2) (g : Go d M (pc + 3) ls2 st (cc, S, I, J, P) r) : Go d M pc ls st (cc, S, I, J, P) r := by
  obtain ⟨N, hN⟩ := g
  refine go_of h ⟨N, fun n hn => ?_⟩
  rw [hc]
  show (match nth9 ls k, Value.int y with
    | some (.int x), .int y => run n d M (pc + 3) (st1 ls k (.int (x + y))) st (cc, S, I, J, P)
    | _, _ => none) = some r
  rw [hx]
  show run n d M (pc + 3) (st1 ls k (.int (x + y))) st (cc, S, I, J, P) = some r
  rw [hl]
  exact hN n hn
theorem g_iadd {c : Nat} {x y : Int32} (h : code9 M pc = some (c, .iadd, [1], .null, [])) (hc : cutA c ls = ls) (g : Go d M (pc + 1) ls (.int (x + y) :: st) (cc, S, I, J, P) r) : Go d M pc ls (.int y :: .int x :: st) (cc, S, I, J, P) r := by
  obtain ⟨N, hN⟩ := g
  refine go_of h ⟨N, fun n hn => ?_⟩
  rw [hc]
  exact hN n hn
theorem g_isub {c : Nat} {x y : Int32} (h : code9 M pc = some (c, .isub, [1], .null, [])) (hc : cutA c ls = ls) (g : Go d M (pc + 1) ls (.int (x - y) :: st) (cc, S, I, J, P) r) : Go d M pc ls (.int y :: .int x :: st) (cc, S, I, J, P) r := by
  obtain ⟨N, hN⟩ := g
  refine go_of h ⟨N, fun n hn => ?_⟩
  rw [hc]
  exact hN n hn
theorem g_imul {c : Nat} {x y : Int32} (h : code9 M pc = some (c, .imul, [1], .null, [])) (hc : cutA c ls = ls) (g : Go d M (pc + 1) ls (.int (x * y) :: st) (cc, S, I, J, P) r) : Go d M pc ls (.int y :: .int x :: st) (cc, S, I, J, P) r := by
  obtain ⟨N, hN⟩ := g
  refine go_of h ⟨N, fun n hn => ?_⟩
  rw [hc]
  exact hN n hn
theorem g_iand {c : Nat} {x y : Int32} (h : code9 M pc = some (c, .iand, [1], .null, [])) (hc : cutA c ls = ls) (g : Go d M (pc + 1) ls (.int (x &&& y) :: st) (cc, S, I, J, P) r) : Go d M pc ls (.int y :: .int x :: st) (cc, S, I, J, P) r := by
  obtain ⟨N, hN⟩ := g
  refine go_of h ⟨N, fun n hn => ?_⟩
  rw [hc]
  exact hN n hn
theorem g_ior {c : Nat} {x y : Int32} (h : code9 M pc = some (c, .ior, [1], .null, [])) (hc : cutA c ls = ls) (g : Go d M (pc + 1) ls (.int (x ||| y) :: st) (cc, S, I, J, P) r) : Go d M pc ls (.int y :: .int x :: st) (cc, S, I, J, P) r := by
  obtain ⟨N, hN⟩ := g
  refine go_of h ⟨N, fun n hn => ?_⟩
  rw [hc]
  exact hN n hn
theorem g_ixor {c : Nat} {x y : Int32} (h : code9 M pc = some (c, .ixor, [1], .null, [])) (hc : cutA c ls = ls) (g : Go d M (pc + 1) ls (.int (x ^^^ y) :: st) (cc, S, I, J, P) r) : Go d M pc ls (.int y :: .int x :: st) (cc, S, I, J, P) r := by
  obtain ⟨N, hN⟩ := g
  refine go_of h ⟨N, fun n hn => ?_⟩
  rw [hc]
  exact hN n hn
theorem g_ishl {c : Nat} {x y : Int32} (h : code9 M pc = some (c, .ishl, [1], .null, [])) (hc : cutA c ls = ls) (g : Go d M (pc + 1) ls (.int (x <<< (y &&& 31)) :: st) (cc, S, I, J, P) r) : Go d M pc ls (.int y :: .int x :: st) (cc, S, I, J, P) r := by
  obtain ⟨N, hN⟩ := g
  refine go_of h ⟨N, fun n hn => ?_⟩
  rw [hc]
  exact hN n hn
theorem g_ishr {c : Nat} {x y : Int32} (h : code9 M pc = some (c, .ishr, [1], .null, [])) (hc : cutA c ls = ls) (g : Go d M (pc + 1) ls (.int (x >>> (y &&& 31)) :: st) (cc, S, I, J, P) r) : Go d M pc ls (.int y :: .int x :: st) (cc, S, I, J, P) r := by
  obtain ⟨N, hN⟩ := g
  refine go_of h ⟨N, fun n hn => ?_⟩
  rw [hc]
  exact hN n hn
theorem g_iushr {c : Nat} {x y : Int32} (h : code9 M pc = some (c, .iushr, [1], .null, [])) (hc : cutA c ls = ls) (g : Go d M (pc + 1) ls (.int ((x.toUInt32 >>> (y.toUInt32 &&& Int32.toUInt32 31)).toInt32) :: st) (cc, S, I, J, P) r) : Go d M pc ls (.int y :: .int x :: st) (cc, S, I, J, P) r := by
  obtain ⟨N, hN⟩ := g
  refine go_of h ⟨N, fun n hn => ?_⟩
  rw [hc]
  exact hN n hn
theorem g_idiv {c : Nat} {x y : Int32} (h : code9 M pc = some (c, .idiv, [1], .null, [])) (hc : cutA c ls = ls) (hy : ¬ y = 0) (g : Go d M (pc + 1) ls (.int (x / y) :: st) (cc, S, I, J, P) r) : Go d M pc ls (.int y :: .int x :: st) (cc, S, I, J, P) r := by
  obtain ⟨N, hN⟩ := g
  refine go_of h ⟨N, fun n hn => ?_⟩
  rw [hc]
  show (if y = 0 then none else run n d M (pc + 1) ls (.int (x / y) :: st) (cc, S, I, J, P)) = some r
  rw [if_neg hy]
  exact hN n hn
theorem g_irem {c : Nat} {x y : Int32} (h : code9 M pc = some (c, .irem, [1], .null, [])) (hc : cutA c ls = ls) (hy : ¬ y = 0) (g : Go d M (pc + 1) ls (.int (x - x / y * y) :: st) (cc, S, I, J, P) r) : Go d M pc ls (.int y :: .int x :: st) (cc, S, I, J, P) r := by
  obtain ⟨N, hN⟩ := g
  refine go_of h ⟨N, fun n hn => ?_⟩
  rw [hc]
  show (if y = 0 then none else run n d M (pc + 1) ls (.int (x - x / y * y) :: st) (cc, S, I, J, P)) = some r
  rw [if_neg hy]
  exact hN n hn
theorem g_ldiv {c : Nat} {x y : Int64} (h : code9 M pc = some (c, .ldiv, [1], .null, [])) (hc : cutA c ls = ls) (hy : ¬ y = 0) (g : Go d M (pc + 1) ls (.long (x / y) :: st) (cc, S, I, J, P) r) : Go d M pc ls (.long y :: .long x :: st) (cc, S, I, J, P) r := by
  obtain ⟨N, hN⟩ := g
  refine go_of h ⟨N, fun n hn => ?_⟩
  rw [hc]
  show (if y = 0 then none else run n d M (pc + 1) ls (.long (x / y) :: st) (cc, S, I, J, P)) = some r
  rw [if_neg hy]
  exact hN n hn
theorem g_lrem {c : Nat} {x y : Int64} (h : code9 M pc = some (c, .lrem, [1], .null, [])) (hc : cutA c ls = ls) (hy : ¬ y = 0) (g : Go d M (pc + 1) ls (.long (x - x / y * y) :: st) (cc, S, I, J, P) r) : Go d M pc ls (.long y :: .long x :: st) (cc, S, I, J, P) r := by
  obtain ⟨N, hN⟩ := g
  refine go_of h ⟨N, fun n hn => ?_⟩
  rw [hc]
  show (if y = 0 then none else run n d M (pc + 1) ls (.long (x - x / y * y) :: st) (cc, S, I, J, P)) = some r
  rw [if_neg hy]
  exact hN n hn
theorem g_ladd {c : Nat} {x y : Int64} (h : code9 M pc = some (c, .ladd, [1], .null, [])) (hc : cutA c ls = ls) (g : Go d M (pc + 1) ls (.long (x + y) :: st) (cc, S, I, J, P) r) : Go d M pc ls (.long y :: .long x :: st) (cc, S, I, J, P) r := by
  obtain ⟨N, hN⟩ := g
  refine go_of h ⟨N, fun n hn => ?_⟩
  rw [hc]
  exact hN n hn
theorem g_lsub {c : Nat} {x y : Int64} (h : code9 M pc = some (c, .lsub, [1], .null, [])) (hc : cutA c ls = ls) (g : Go d M (pc + 1) ls (.long (x - y) :: st) (cc, S, I, J, P) r) : Go d M pc ls (.long y :: .long x :: st) (cc, S, I, J, P) r := by
  obtain ⟨N, hN⟩ := g
  refine go_of h ⟨N, fun n hn => ?_⟩
  rw [hc]
  exact hN n hn
theorem g_lmul {c : Nat} {x y : Int64} (h : code9 M pc = some (c, .lmul, [1], .null, [])) (hc : cutA c ls = ls) (g : Go d M (pc + 1) ls (.long (x * y) :: st) (cc, S, I, J, P) r) : Go d M pc ls (.long y :: .long x :: st) (cc, S, I, J, P) r := by
  obtain ⟨N, hN⟩ := g
  refine go_of h ⟨N, fun n hn => ?_⟩
  rw [hc]
  exact hN n hn
theorem g_land {c : Nat} {x y : Int64} (h : code9 M pc = some (c, .land, [1], .null, [])) (hc : cutA c ls = ls) (g : Go d M (pc + 1) ls (.long (x &&& y) :: st) (cc, S, I, J, P) r) : Go d M pc ls (.long y :: .long x :: st) (cc, S, I, J, P) r := by
  obtain ⟨N, hN⟩ := g
  refine go_of h ⟨N, fun n hn => ?_⟩
  rw [hc]
  exact hN n hn
theorem g_lshr {c : Nat} {x : Int64} {y : Int32} (h : code9 M pc = some (c, .lshr, [1], .null, [])) (hc : cutA c ls = ls) (g : Go d M (pc + 1) ls (.long (x >>> (y.toInt64 &&& 63)) :: st) (cc, S, I, J, P) r) : Go d M pc ls (.int y :: .long x :: st) (cc, S, I, J, P) r := by
  obtain ⟨N, hN⟩ := g
  refine go_of h ⟨N, fun n hn => ?_⟩
  rw [hc]
  exact hN n hn
theorem g_lcmp {c : Nat} {x y : Int64} (h : code9 M pc = some (c, .lcmp, [1], .null, [])) (hc : cutA c ls = ls) (g : Go d M (pc + 1) ls (.int (lg_cmp x y) :: st) (cc, S, I, J, P) r) : Go d M pc ls (.long y :: .long x :: st) (cc, S, I, J, P) r := by
  obtain ⟨N, hN⟩ := g
  refine go_of h ⟨N, fun n hn => ?_⟩
  rw [hc]
  exact hN n hn
theorem g_i2l {c : Nat} {x : Int32} (h : code9 M pc = some (c, .i2l, [1], .null, [])) (hc : cutA c ls = ls) (g : Go d M (pc + 1) ls (.long x.toInt64 :: st) (cc, S, I, J, P) r) : Go d M pc ls (.int x :: st) (cc, S, I, J, P) r := by
  obtain ⟨N, hN⟩ := g
  refine go_of h ⟨N, fun n hn => ?_⟩
  rw [hc]
  exact hN n hn
theorem g_l2i {c : Nat} {x : Int64} (h : code9 M pc = some (c, .l2i, [1], .null, [])) (hc : cutA c ls = ls) (g : Go d M (pc + 1) ls (.int x.toInt32 :: st) (cc, S, I, J, P) r) : Go d M pc ls (.long x :: st) (cc, S, I, J, P) r := by
  obtain ⟨N, hN⟩ := g
  refine go_of h ⟨N, fun n hn => ?_⟩
  rw [hc]
  exact hN n hn
theorem g_i2b {c : Nat} {x : Int32} (h : code9 M pc = some (c, .i2b, [1], .null, [])) (hc : cutA c ls = ls) (g : Go d M (pc + 1) ls (.int x.toInt8.toInt32 :: st) (cc, S, I, J, P) r) : Go d M pc ls (.int x :: st) (cc, S, I, J, P) r := by
  obtain ⟨N, hN⟩ := g
  refine go_of h ⟨N, fun n hn => ?_⟩
  rw [hc]
  exact hN n hn
theorem g_ineg {c : Nat} {x : Int32} (h : code9 M pc = some (c, .ineg, [1], .null, [])) (hc : cutA c ls = ls) (g : Go d M (pc + 1) ls (.int (0 - x) :: st) (cc, S, I, J, P) r) : Go d M pc ls (.int x :: st) (cc, S, I, J, P) r := by
  obtain ⟨N, hN⟩ := g
  refine go_of h ⟨N, fun n hn => ?_⟩
  rw [hc]
  exact hN n hn
theorem g_dupI {c : Nat} {x : Int32} (h : code9 M pc = some (c, .dup, [1], .null, [])) (hc : cutA c ls = ls) (g : Go d M (pc + 1) ls (.int x :: .int x :: st) (cc, S, I, J, P) r) : Go d M pc ls (.int x :: st) (cc, S, I, J, P) r := by
  obtain ⟨N, hN⟩ := g
  refine go_of h ⟨N, fun n hn => ?_⟩
  rw [hc]
  exact hN n hn
theorem g_popI {c : Nat} {x : Int32} (h : code9 M pc = some (c, .pop, [1], .null, [])) (hc : cutA c ls = ls) (g : Go d M (pc + 1) ls st (cc, S, I, J, P) r) : Go d M pc ls (.int x :: st) (cc, S, I, J, P) r := by
  obtain ⟨N, hN⟩ := g
  refine go_of h ⟨N, fun n hn => ?_⟩
  rw [hc]
  exact hN n hn
theorem g_dup2I {c : Nat} {x : Int32} {y : Int32} (h : code9 M pc = some (c, .dup2, [1], .null, [])) (hc : cutA c ls = ls) (g : Go d M (pc + 1) ls (.int y :: .int x :: .int y :: .int x :: st) (cc, S, I, J, P) r) : Go d M pc ls (.int y :: .int x :: st) (cc, S, I, J, P) r := by
  obtain ⟨N, hN⟩ := g
  refine go_of h ⟨N, fun n hn => ?_⟩
  rw [hc]
  exact hN n hn
theorem g_dupR {c : Nat} {x : Nat} (h : code9 M pc = some (c, .dup, [1], .null, [])) (hc : cutA c ls = ls) (g : Go d M (pc + 1) ls (.ref x :: .ref x :: st) (cc, S, I, J, P) r) : Go d M pc ls (.ref x :: st) (cc, S, I, J, P) r := by
  obtain ⟨N, hN⟩ := g
  refine go_of h ⟨N, fun n hn => ?_⟩
  rw [hc]
  exact hN n hn
theorem g_popR {c : Nat} {x : Nat} (h : code9 M pc = some (c, .pop, [1], .null, [])) (hc : cutA c ls = ls) (g : Go d M (pc + 1) ls st (cc, S, I, J, P) r) : Go d M pc ls (.ref x :: st) (cc, S, I, J, P) r := by
  obtain ⟨N, hN⟩ := g
  refine go_of h ⟨N, fun n hn => ?_⟩
  rw [hc]
  exact hN n hn
theorem g_dup2R {c : Nat} {x : Nat} {y : Int32} (h : code9 M pc = some (c, .dup2, [1], .null, [])) (hc : cutA c ls = ls) (g : Go d M (pc + 1) ls (.int y :: .ref x :: .int y :: .ref x :: st) (cc, S, I, J, P) r) : Go d M pc ls (.int y :: .ref x :: st) (cc, S, I, J, P) r := by
  obtain ⟨N, hN⟩ := g
  refine go_of h ⟨N, fun n hn => ?_⟩
  rw [hc]
  exact hN n hn
theorem g_if_eq {c : Nat} {t : Nat} {z : Int} {x : Int32} (h : code9 M pc = some (c, .ifCond .eq z, [3, t], .null, [])) (hc : cutA c ls = ls) (g1 : x = 0 → Go d M t ls st (cc, S, I, J, P) r) (g2 : ¬ (x = 0) → Go d M (pc + 3) ls st (cc, S, I, J, P) r) : Go d M pc ls (.int x :: st) (cc, S, I, J, P) r := by
  by_cases hb : x = 0
  · obtain ⟨N, hN⟩ := g1 hb
    refine go_of h ⟨N, fun n hn => ?_⟩
    rw [hc]
    show (if x = 0 then run n d M t ls st (cc, S, I, J, P) else run n d M (pc + 3) ls st (cc, S, I, J, P)) = some r
    rw [if_pos hb]
    exact hN n hn
  · obtain ⟨N, hN⟩ := g2 hb
    refine go_of h ⟨N, fun n hn => ?_⟩
    rw [hc]
    show (if x = 0 then run n d M t ls st (cc, S, I, J, P) else run n d M (pc + 3) ls st (cc, S, I, J, P)) = some r
    rw [if_neg hb]
    exact hN n hn
theorem g_icmp_eq {c : Nat} {t : Nat} {z : Int} {x y : Int32} (h : code9 M pc = some (c, .if_icmp .eq z, [3, t], .null, [])) (hc : cutA c ls = ls) (g1 : x = y → Go d M t ls st (cc, S, I, J, P) r) (g2 : ¬ (x = y) → Go d M (pc + 3) ls st (cc, S, I, J, P) r) : Go d M pc ls (.int y :: .int x :: st) (cc, S, I, J, P) r := by
  by_cases hb : x = y
  · obtain ⟨N, hN⟩ := g1 hb
    refine go_of h ⟨N, fun n hn => ?_⟩
    rw [hc]
    show (if x = y then run n d M t ls st (cc, S, I, J, P) else run n d M (pc + 3) ls st (cc, S, I, J, P)) = some r
    rw [if_pos hb]
    exact hN n hn
  · obtain ⟨N, hN⟩ := g2 hb
    refine go_of h ⟨N, fun n hn => ?_⟩
    rw [hc]
    show (if x = y then run n d M t ls st (cc, S, I, J, P) else run n d M (pc + 3) ls st (cc, S, I, J, P)) = some r
    rw [if_neg hb]
    exact hN n hn
theorem g_if_ne {c : Nat} {t : Nat} {z : Int} {x : Int32} (h : code9 M pc = some (c, .ifCond .ne z, [3, t], .null, [])) (hc : cutA c ls = ls) (g1 : x = 0 → Go d M (pc + 3) ls st (cc, S, I, J, P) r) (g2 : ¬ (x = 0) → Go d M t ls st (cc, S, I, J, P) r) : Go d M pc ls (.int x :: st) (cc, S, I, J, P) r := by
  by_cases hb : x = 0
  · obtain ⟨N, hN⟩ := g1 hb
    refine go_of h ⟨N, fun n hn => ?_⟩
    rw [hc]
    show (if x = 0 then run n d M (pc + 3) ls st (cc, S, I, J, P) else run n d M t ls st (cc, S, I, J, P)) = some r
    rw [if_pos hb]
    exact hN n hn
  · obtain ⟨N, hN⟩ := g2 hb
    refine go_of h ⟨N, fun n hn => ?_⟩
    rw [hc]
    show (if x = 0 then run n d M (pc + 3) ls st (cc, S, I, J, P) else run n d M t ls st (cc, S, I, J, P)) = some r
    rw [if_neg hb]
    exact hN n hn
theorem g_icmp_ne {c : Nat} {t : Nat} {z : Int} {x y : Int32} (h : code9 M pc = some (c, .if_icmp .ne z, [3, t], .null, [])) (hc : cutA c ls = ls) (g1 : x = y → Go d M (pc + 3) ls st (cc, S, I, J, P) r) (g2 : ¬ (x = y) → Go d M t ls st (cc, S, I, J, P) r) : Go d M pc ls (.int y :: .int x :: st) (cc, S, I, J, P) r := by
  by_cases hb : x = y
  · obtain ⟨N, hN⟩ := g1 hb
    refine go_of h ⟨N, fun n hn => ?_⟩
    rw [hc]
    show (if x = y then run n d M (pc + 3) ls st (cc, S, I, J, P) else run n d M t ls st (cc, S, I, J, P)) = some r
    rw [if_pos hb]
    exact hN n hn
  · obtain ⟨N, hN⟩ := g2 hb
    refine go_of h ⟨N, fun n hn => ?_⟩
    rw [hc]
    show (if x = y then run n d M (pc + 3) ls st (cc, S, I, J, P) else run n d M t ls st (cc, S, I, J, P)) = some r
    rw [if_neg hb]
    exact hN n hn
theorem g_if_lt {c : Nat} {t : Nat} {z : Int} {x : Int32} (h : code9 M pc = some (c, .ifCond .lt z, [3, t], .null, [])) (hc : cutA c ls = ls) (g1 : x < 0 → Go d M t ls st (cc, S, I, J, P) r) (g2 : ¬ (x < 0) → Go d M (pc + 3) ls st (cc, S, I, J, P) r) : Go d M pc ls (.int x :: st) (cc, S, I, J, P) r := by
  by_cases hb : x < 0
  · obtain ⟨N, hN⟩ := g1 hb
    refine go_of h ⟨N, fun n hn => ?_⟩
    rw [hc]
    show (if x < 0 then run n d M t ls st (cc, S, I, J, P) else run n d M (pc + 3) ls st (cc, S, I, J, P)) = some r
    rw [if_pos hb]
    exact hN n hn
  · obtain ⟨N, hN⟩ := g2 hb
    refine go_of h ⟨N, fun n hn => ?_⟩
    rw [hc]
    show (if x < 0 then run n d M t ls st (cc, S, I, J, P) else run n d M (pc + 3) ls st (cc, S, I, J, P)) = some r
    rw [if_neg hb]
    exact hN n hn
theorem g_icmp_lt {c : Nat} {t : Nat} {z : Int} {x y : Int32} (h : code9 M pc = some (c, .if_icmp .lt z, [3, t], .null, [])) (hc : cutA c ls = ls) (g1 : x < y → Go d M t ls st (cc, S, I, J, P) r) (g2 : ¬ (x < y) → Go d M (pc + 3) ls st (cc, S, I, J, P) r) : Go d M pc ls (.int y :: .int x :: st) (cc, S, I, J, P) r := by
  by_cases hb : x < y
  · obtain ⟨N, hN⟩ := g1 hb
    refine go_of h ⟨N, fun n hn => ?_⟩
    rw [hc]
    show (if x < y then run n d M t ls st (cc, S, I, J, P) else run n d M (pc + 3) ls st (cc, S, I, J, P)) = some r
    rw [if_pos hb]
    exact hN n hn
  · obtain ⟨N, hN⟩ := g2 hb
    refine go_of h ⟨N, fun n hn => ?_⟩
    rw [hc]
    show (if x < y then run n d M t ls st (cc, S, I, J, P) else run n d M (pc + 3) ls st (cc, S, I, J, P)) = some r
    rw [if_neg hb]
    exact hN n hn
theorem g_if_ge {c : Nat} {t : Nat} {z : Int} {x : Int32} (h : code9 M pc = some (c, .ifCond .ge z, [3, t], .null, [])) (hc : cutA c ls = ls) (g1 : 0 ≤ x → Go d M t ls st (cc, S, I, J, P) r) (g2 : ¬ (0 ≤ x) → Go d M (pc + 3) ls st (cc, S, I, J, P) r) : Go d M pc ls (.int x :: st) (cc, S, I, J, P) r := by
  by_cases hb : 0 ≤ x
  · obtain ⟨N, hN⟩ := g1 hb
    refine go_of h ⟨N, fun n hn => ?_⟩
    rw [hc]
    show (if 0 ≤ x then run n d M t ls st (cc, S, I, J, P) else run n d M (pc + 3) ls st (cc, S, I, J, P)) = some r
    rw [if_pos hb]
    exact hN n hn
  · obtain ⟨N, hN⟩ := g2 hb
    refine go_of h ⟨N, fun n hn => ?_⟩
    rw [hc]
    show (if 0 ≤ x then run n d M t ls st (cc, S, I, J, P) else run n d M (pc + 3) ls st (cc, S, I, J, P)) = some r
    rw [if_neg hb]
    exact hN n hn
theorem g_icmp_ge {c : Nat} {t : Nat} {z : Int} {x y : Int32} (h : code9 M pc = some (c, .if_icmp .ge z, [3, t], .null, [])) (hc : cutA c ls = ls) (g1 : y ≤ x → Go d M t ls st (cc, S, I, J, P) r) (g2 : ¬ (y ≤ x) → Go d M (pc + 3) ls st (cc, S, I, J, P) r) : Go d M pc ls (.int y :: .int x :: st) (cc, S, I, J, P) r := by
  by_cases hb : y ≤ x
  · obtain ⟨N, hN⟩ := g1 hb
    refine go_of h ⟨N, fun n hn => ?_⟩
    rw [hc]
    show (if y ≤ x then run n d M t ls st (cc, S, I, J, P) else run n d M (pc + 3) ls st (cc, S, I, J, P)) = some r
    rw [if_pos hb]
    exact hN n hn
  · obtain ⟨N, hN⟩ := g2 hb
    refine go_of h ⟨N, fun n hn => ?_⟩
    rw [hc]
    show (if y ≤ x then run n d M t ls st (cc, S, I, J, P) else run n d M (pc + 3) ls st (cc, S, I, J, P)) = some r
    rw [if_neg hb]
    exact hN n hn
theorem g_if_gt {c : Nat} {t : Nat} {z : Int} {x : Int32} (h : code9 M pc = some (c, .ifCond .gt z, [3, t], .null, [])) (hc : cutA c ls = ls) (g1 : 0 < x → Go d M t ls st (cc, S, I, J, P) r) (g2 : ¬ (0 < x) → Go d M (pc + 3) ls st (cc, S, I, J, P) r) : Go d M pc ls (.int x :: st) (cc, S, I, J, P) r := by
  by_cases hb : 0 < x
  · obtain ⟨N, hN⟩ := g1 hb
    refine go_of h ⟨N, fun n hn => ?_⟩
    rw [hc]
    show (if 0 < x then run n d M t ls st (cc, S, I, J, P) else run n d M (pc + 3) ls st (cc, S, I, J, P)) = some r
    rw [if_pos hb]
    exact hN n hn
  · obtain ⟨N, hN⟩ := g2 hb
    refine go_of h ⟨N, fun n hn => ?_⟩
    rw [hc]
    show (if 0 < x then run n d M t ls st (cc, S, I, J, P) else run n d M (pc + 3) ls st (cc, S, I, J, P)) = some r
    rw [if_neg hb]
    exact hN n hn
theorem g_icmp_gt {c : Nat} {t : Nat} {z : Int} {x y : Int32} (h : code9 M pc = some (c, .if_icmp .gt z, [3, t], .null, [])) (hc : cutA c ls = ls) (g1 : y < x → Go d M t ls st (cc, S, I, J, P) r) (g2 : ¬ (y < x) → Go d M (pc + 3) ls st (cc, S, I, J, P) r) : Go d M pc ls (.int y :: .int x :: st) (cc, S, I, J, P) r := by
  by_cases hb : y < x
  · obtain ⟨N, hN⟩ := g1 hb
    refine go_of h ⟨N, fun n hn => ?_⟩
    rw [hc]
    show (if y < x then run n d M t ls st (cc, S, I, J, P) else run n d M (pc + 3) ls st (cc, S, I, J, P)) = some r
    rw [if_pos hb]
    exact hN n hn
  · obtain ⟨N, hN⟩ := g2 hb
    refine go_of h ⟨N, fun n hn => ?_⟩
    rw [hc]
    show (if y < x then run n d M t ls st (cc, S, I, J, P) else run n d M (pc + 3) ls st (cc, S, I, J, P)) = some r
    rw [if_neg hb]
    exact hN n hn
theorem g_if_le {c : Nat} {t : Nat} {z : Int} {x : Int32} (h : code9 M pc = some (c, .ifCond .le z, [3, t], .null, [])) (hc : cutA c ls = ls) (g1 : x ≤ 0 → Go d M t ls st (cc, S, I, J, P) r) (g2 : ¬ (x ≤ 0) → Go d M (pc + 3) ls st (cc, S, I, J, P) r) : Go d M pc ls (.int x :: st) (cc, S, I, J, P) r := by
  by_cases hb : x ≤ 0
  · obtain ⟨N, hN⟩ := g1 hb
    refine go_of h ⟨N, fun n hn => ?_⟩
    rw [hc]
    show (if x ≤ 0 then run n d M t ls st (cc, S, I, J, P) else run n d M (pc + 3) ls st (cc, S, I, J, P)) = some r
    rw [if_pos hb]
    exact hN n hn
  · obtain ⟨N, hN⟩ := g2 hb
    refine go_of h ⟨N, fun n hn => ?_⟩
    rw [hc]
    show (if x ≤ 0 then run n d M t ls st (cc, S, I, J, P) else run n d M (pc + 3) ls st (cc, S, I, J, P)) = some r
    rw [if_neg hb]
    exact hN n hn
theorem g_icmp_le {c : Nat} {t : Nat} {z : Int} {x y : Int32} (h : code9 M pc = some (c, .if_icmp .le z, [3, t], .null, [])) (hc : cutA c ls = ls) (g1 : x ≤ y → Go d M t ls st (cc, S, I, J, P) r) (g2 : ¬ (x ≤ y) → Go d M (pc + 3) ls st (cc, S, I, J, P) r) : Go d M pc ls (.int y :: .int x :: st) (cc, S, I, J, P) r := by
  by_cases hb : x ≤ y
  · obtain ⟨N, hN⟩ := g1 hb
    refine go_of h ⟨N, fun n hn => ?_⟩
    rw [hc]
    show (if x ≤ y then run n d M t ls st (cc, S, I, J, P) else run n d M (pc + 3) ls st (cc, S, I, J, P)) = some r
    rw [if_pos hb]
    exact hN n hn
  · obtain ⟨N, hN⟩ := g2 hb
    refine go_of h ⟨N, fun n hn => ?_⟩
    rw [hc]
    show (if x ≤ y then run n d M t ls st (cc, S, I, J, P) else run n d M (pc + 3) ls st (cc, S, I, J, P)) = some r
    rw [if_neg hb]
    exact hN n hn
theorem g_ifnull {c : Nat} {z : Int} {t x : Nat} (h : code9 M pc = some (c, .ifnull z, [3, t], .null, [])) (hc : cutA c ls = ls) (g : Go d M (pc + 3) ls st (cc, S, I, J, P) r) : Go d M pc ls (.ref x :: st) (cc, S, I, J, P) r := by
  obtain ⟨N, hN⟩ := g
  refine go_of h ⟨N, fun n hn => ?_⟩
  rw [hc]
  exact hN n hn
theorem g_goto {c : Nat} {z : Int} {t k : Nat} {ls2 : Loc9} (h : code9 M pc = some (c, .goto z, [3, t, k], .null, [])) (hc : cutA c ls = ls) (hl : cut9 k ls = ls2) (g : Go d M t ls2 st (cc, S, I, J, P) r) : Go d M pc ls st (cc, S, I, J, P) r := by
  obtain ⟨N, hN⟩ := g
  refine go_of h ⟨N, fun n hn => ?_⟩
  rw [hc]
  show run n d M t (cut9 k ls) st (cc, S, I, J, P) = some r
  rw [hl]
  exact hN n hn
/-- a switch: by the key that comes -/
def swp (k : Nat → Prop) (x : Int32) (dflt : Nat) : List (Int32 × Nat) → Prop
  | [] => k dflt
  | (c, t) :: r => if x = c then k t else swp k x dflt r
theorem sw9_go {x : Int32} {t : Nat} : ∀ (sw : List (Int32 × Nat)), swp (fun t => Go d M t ls st (cc, S, I, J, P) r) x t sw → ∃ N, ∀ n, N ≤ n → sw9 (fun t => run n d M t ls st (cc, S, I, J, P)) x t sw = some r
  | [], h => h
  | (c, t2) :: sw, h => by
    by_cases hb : x = c
    · have h2 : Go d M t2 ls st (cc, S, I, J, P) r := ifp hb h
      obtain ⟨N, hN⟩ := h2
      refine ⟨N, fun n hn => ?_⟩
      show (if x = c then run n d M t2 ls st (cc, S, I, J, P) else sw9 (fun t => run n d M t ls st (cc, S, I, J, P)) x t sw) = some r
      rw [if_pos hb]
      exact hN n hn
    · obtain ⟨N, hN⟩ := sw9_go sw (ifn hb h)
      refine ⟨N, fun n hn => ?_⟩
      show (if x = c then run n d M t2 ls st (cc, S, I, J, P) else sw9 (fun t => run n d M t ls st (cc, S, I, J, P)) x t sw) = some r
      rw [if_neg hb]
      exact hN n hn
theorem g_tableswitch {c L t : Nat} {z1 z2 z3 : Int} {z4 : Array Int} {sw : List (Int32 × Nat)} {x : Int32} (h : code9 M pc = some (c, .tableswitch z1 z2 z3 z4, [L, t], .null, sw)) (hc : cutA c ls = ls) (g : swp (fun t => Go d M t ls st (cc, S, I, J, P) r) x t sw) : Go d M pc ls (.int x :: st) (cc, S, I, J, P) r := by
  obtain ⟨N, hN⟩ := sw9_go sw g
  refine go_of h ⟨N, fun n hn => ?_⟩
  rw [hc]
  exact hN n hn
theorem g_lookupswitch {c L t : Nat} {z1 : Int} {z4 : Array (Int × Int)} {sw : List (Int32 × Nat)} {x : Int32} (h : code9 M pc = some (c, .lookupswitch z1 z4, [L, t], .null, sw)) (hc : cutA c ls = ls) (g : swp (fun t => Go d M t ls st (cc, S, I, J, P) r) x t sw) : Go d M pc ls (.int x :: st) (cc, S, I, J, P) r := by
  obtain ⟨N, hN⟩ := sw9_go sw g
  refine go_of h ⟨N, fun n hn => ?_⟩
  rw [hc]
  exact hN n hn
theorem g_getI {c ci k z a : Nat} (h : code9 M pc = some (c, .getfield z, [3, ci, k, 0], .null, [])) (hc : cutA c ls = ls) (hs : S a = (0, ci)) (g : Go d M (pc + 3) ls (.int (I a k) :: st) (cc, S, I, J, P) r) : Go d M pc ls (.ref a :: st) (cc, S, I, J, P) r := by
  obtain ⟨N, hN⟩ := g
  refine go_of h ⟨N, fun n hn => ?_⟩
  rw [hc]
  show (if S a = (0, ci) then run n d M (pc + 3) ls (.int (I a k) :: st) (cc, S, I, J, P) else none) = some r
  rw [if_pos hs]
  exact hN n hn
theorem g_getJ {c ci k z a : Nat} (h : code9 M pc = some (c, .getfield z, [3, ci, k, 1], .null, [])) (hc : cutA c ls = ls) (hs : S a = (0, ci)) (g : Go d M (pc + 3) ls (.long (J a k) :: st) (cc, S, I, J, P) r) : Go d M pc ls (.ref a :: st) (cc, S, I, J, P) r := by
  obtain ⟨N, hN⟩ := g
  refine go_of h ⟨N, fun n hn => ?_⟩
  rw [hc]
  show (if S a = (0, ci) then run n d M (pc + 3) ls (.long (J a k) :: st) (cc, S, I, J, P) else none) = some r
  rw [if_pos hs]
  exact hN n hn
theorem g_getP {c ci k z a b : Nat} (h : code9 M pc = some (c, .getfield z, [3, ci, k, 2], .null, [])) (hc : cutA c ls = ls) (hs : S a = (0, ci)) (hp : P a k = some b) (g : Go d M (pc + 3) ls (.ref b :: st) (cc, S, I, J, P) r) : Go d M pc ls (.ref a :: st) (cc, S, I, J, P) r := by
  obtain ⟨N, hN⟩ := g
  refine go_of h ⟨N, fun n hn => ?_⟩
  rw [hc]
  show (if S a = (0, ci) then (match P a k with
    | some b => run n d M (pc + 3) ls (.ref b :: st) (cc, S, I, J, P)
    | none => none) else none) = some r
  rw [if_pos hs]
  rw [hp]
  exact hN n hn
theorem g_putI {c ci k z a : Nat} {x : Int32} (h : code9 M pc = some (c, .putfield z, [3, ci, k, 0], .null, [])) (hc : cutA c ls = ls) (hs : S a = (0, ci)) (g : Go d M (pc + 3) ls st (cc, S, up2 I a k x, J, P) r) : Go d M pc ls (.int x :: .ref a :: st) (cc, S, I, J, P) r := by
  obtain ⟨N, hN⟩ := g
  refine go_of h ⟨N, fun n hn => ?_⟩
  rw [hc]
  show (if S a = (0, ci) then run n d M (pc + 3) ls st (cc, S, up2 I a k x, J, P) else none) = some r
  rw [if_pos hs]
  exact hN n hn
theorem g_putZ {c ci k z a : Nat} {x : Int32} (h : code9 M pc = some (c, .putfield z, [3, ci, k, 3], .null, [])) (hc : cutA c ls = ls) (hs : S a = (0, ci) ∧ (x = 0 ∨ x = 1)) (g : Go d M (pc + 3) ls st (cc, S, up2 I a k x, J, P) r) : Go d M pc ls (.int x :: .ref a :: st) (cc, S, I, J, P) r := by
  obtain ⟨N, hN⟩ := g
  refine go_of h ⟨N, fun n hn => ?_⟩
  rw [hc]
  show (if S a = (0, ci) ∧ (x = 0 ∨ x = 1) then run n d M (pc + 3) ls st (cc, S, up2 I a k x, J, P) else none) = some r
  rw [if_pos hs]
  exact hN n hn
theorem g_putJ {c ci k z a : Nat} {x : Int64} (h : code9 M pc = some (c, .putfield z, [3, ci, k, 1], .null, [])) (hc : cutA c ls = ls) (hs : S a = (0, ci)) (g : Go d M (pc + 3) ls st (cc, S, I, up2 J a k x, P) r) : Go d M pc ls (.long x :: .ref a :: st) (cc, S, I, J, P) r := by
  obtain ⟨N, hN⟩ := g
  refine go_of h ⟨N, fun n hn => ?_⟩
  rw [hc]
  show (if S a = (0, ci) then run n d M (pc + 3) ls st (cc, S, I, up2 J a k x, P) else none) = some r
  rw [if_pos hs]
  exact hN n hn
theorem g_putP {c ci k z a : Nat} {x : Nat} (h : code9 M pc = some (c, .putfield z, [3, ci, k, 2], .null, [])) (hc : cutA c ls = ls) (hs : S a = (0, ci)) (g : Go d M (pc + 3) ls st (cc, S, I, J, up2 P a k (some x)) r) : Go d M pc ls (.ref x :: .ref a :: st) (cc, S, I, J, P) r := by
  obtain ⟨N, hN⟩ := g
  refine go_of h ⟨N, fun n hn => ?_⟩
  rw [hc]
  show (if S a = (0, ci) then run n d M (pc + 3) ls st (cc, S, I, J, up2 P a k (some x)) else none) = some r
  rw [if_pos hs]
  exact hN n hn
theorem g_alen {c a : Nat} (h : code9 M pc = some (c, .arraylength, [1], .null, [])) (hc : cutA c ls = ls) (hs : 1 ≤ (S a).1 ∧ (S a).1 ≤ 6) (g : Go d M (pc + 1) ls (.int (Int32.ofNat (S a).2) :: st) (cc, S, I, J, P) r) : Go d M pc ls (.ref a :: st) (cc, S, I, J, P) r := by
  obtain ⟨N, hN⟩ := g
  refine go_of h ⟨N, fun n hn => ?_⟩
  rw [hc]
  show (if 1 ≤ (S a).1 ∧ (S a).1 ≤ 6 then run n d M (pc + 1) ls (.int (Int32.ofNat (S a).2) :: st) (cc, S, I, J, P) else none) = some r
  rw [if_pos hs]
  exact hN n hn
theorem g_iald {c a : Nat} {i : Int32} (h : code9 M pc = some (c, .iaload, [1], .null, [])) (hc : cutA c ls = ls) (hs : ((S a).1 = 1 ∨ (S a).1 = 6) ∧ in9 i (S a).2) (g : Go d M (pc + 1) ls (.int (I a i.toNatClampNeg) :: st) (cc, S, I, J, P) r) : Go d M pc ls (.int i :: .ref a :: st) (cc, S, I, J, P) r := by
  obtain ⟨N, hN⟩ := g
  refine go_of h ⟨N, fun n hn => ?_⟩
  rw [hc]
  show (if ((S a).1 = 1 ∨ (S a).1 = 6) ∧ in9 i (S a).2 then run n d M (pc + 1) ls (.int (I a i.toNatClampNeg) :: st) (cc, S, I, J, P) else none) = some r
  rw [if_pos hs]
  exact hN n hn
theorem g_bald {c a : Nat} {i : Int32} (h : code9 M pc = some (c, .baload, [1], .null, [])) (hc : cutA c ls = ls) (hs : ((S a).1 = 2 ∨ (S a).1 = 3) ∧ in9 i (S a).2) (g : Go d M (pc + 1) ls (.int (I a i.toNatClampNeg) :: st) (cc, S, I, J, P) r) : Go d M pc ls (.int i :: .ref a :: st) (cc, S, I, J, P) r := by
  obtain ⟨N, hN⟩ := g
  refine go_of h ⟨N, fun n hn => ?_⟩
  rw [hc]
  show (if ((S a).1 = 2 ∨ (S a).1 = 3) ∧ in9 i (S a).2 then run n d M (pc + 1) ls (.int (I a i.toNatClampNeg) :: st) (cc, S, I, J, P) else none) = some r
  rw [if_pos hs]
  exact hN n hn
theorem g_lald {c a : Nat} {i : Int32} (h : code9 M pc = some (c, .laload, [1], .null, [])) (hc : cutA c ls = ls) (hs : (S a).1 = 4 ∧ in9 i (S a).2) (g : Go d M (pc + 1) ls (.long (J a i.toNatClampNeg) :: st) (cc, S, I, J, P) r) : Go d M pc ls (.int i :: .ref a :: st) (cc, S, I, J, P) r := by
  obtain ⟨N, hN⟩ := g
  refine go_of h ⟨N, fun n hn => ?_⟩
  rw [hc]
  show (if (S a).1 = 4 ∧ in9 i (S a).2 then run n d M (pc + 1) ls (.long (J a i.toNatClampNeg) :: st) (cc, S, I, J, P) else none) = some r
  rw [if_pos hs]
  exact hN n hn
theorem g_aald {c a b : Nat} {i : Int32} (h : code9 M pc = some (c, .aaload, [1], .null, [])) (hc : cutA c ls = ls) (hs : (S a).1 = 5 ∧ in9 i (S a).2) (hp : P a i.toNatClampNeg = some b) (g : Go d M (pc + 1) ls (.ref b :: st) (cc, S, I, J, P) r) : Go d M pc ls (.int i :: .ref a :: st) (cc, S, I, J, P) r := by
  obtain ⟨N, hN⟩ := g
  refine go_of h ⟨N, fun n hn => ?_⟩
  rw [hc]
  show (if (S a).1 = 5 ∧ in9 i (S a).2 then (match P a i.toNatClampNeg with
    | some b => run n d M (pc + 1) ls (.ref b :: st) (cc, S, I, J, P)
    | none => none) else none) = some r
  rw [if_pos hs]
  rw [hp]
  exact hN n hn
theorem g_iast {c a : Nat} {i x : Int32} (h : code9 M pc = some (c, .iastore, [1], .null, [])) (hc : cutA c ls = ls) (hs : (S a).1 = 1 ∧ in9 i (S a).2) (g : Go d M (pc + 1) ls st (cc, S, up2 I a i.toNatClampNeg x, J, P) r) : Go d M pc ls (.int x :: .int i :: .ref a :: st) (cc, S, I, J, P) r := by
  obtain ⟨N, hN⟩ := g
  refine go_of h ⟨N, fun n hn => ?_⟩
  rw [hc]
  show (if (S a).1 = 1 ∧ in9 i (S a).2 then run n d M (pc + 1) ls st (cc, S, up2 I a i.toNatClampNeg x, J, P) else none) = some r
  rw [if_pos hs]
  exact hN n hn
theorem g_last {c a : Nat} {i : Int32} {x : Int64} (h : code9 M pc = some (c, .lastore, [1], .null, [])) (hc : cutA c ls = ls) (hs : (S a).1 = 4 ∧ in9 i (S a).2) (g : Go d M (pc + 1) ls st (cc, S, I, up2 J a i.toNatClampNeg x, P) r) : Go d M pc ls (.long x :: .int i :: .ref a :: st) (cc, S, I, J, P) r := by
  obtain ⟨N, hN⟩ := g
  refine go_of h ⟨N, fun n hn => ?_⟩
  rw [hc]
  show (if (S a).1 = 4 ∧ in9 i (S a).2 then run n d M (pc + 1) ls st (cc, S, I, up2 J a i.toNatClampNeg x, P) else none) = some r
  rw [if_pos hs]
  exact hN n hn
theorem g_aast {c a x : Nat} {i : Int32} (h : code9 M pc = some (c, .aastore, [1], .null, [])) (hc : cutA c ls = ls) (hs : (S a).1 = 5 ∧ in9 i (S a).2 ∧ S x = (0, 9)) (g : Go d M (pc + 1) ls st (cc, S, I, J, up2 P a i.toNatClampNeg (some x)) r) : Go d M pc ls (.ref x :: .int i :: .ref a :: st) (cc, S, I, J, P) r := by
  obtain ⟨N, hN⟩ := g
  refine go_of h ⟨N, fun n hn => ?_⟩
  rw [hc]
  show (if (S a).1 = 5 ∧ in9 i (S a).2 ∧ S x = (0, 9) then run n d M (pc + 1) ls st (cc, S, I, J, up2 P a i.toNatClampNeg (some x)) else none) = some r
  rw [if_pos hs]
  exact hN n hn
theorem g_bastB {c a : Nat} {i x : Int32} (h : code9 M pc = some (c, .bastore, [1], .null, [])) (hc : cutA c ls = ls) (hs : (S a).1 = 2 ∧ in9 i (S a).2) (g : Go d M (pc + 1) ls st (cc, S, up2 I a i.toNatClampNeg (vp_nar .byte x), J, P) r) : Go d M pc ls (.int x :: .int i :: .ref a :: st) (cc, S, I, J, P) r := by
  obtain ⟨N, hN⟩ := g
  refine go_of h ⟨N, fun n hn => ?_⟩
  rw [hc]
  show (if (S a).1 = 2 ∧ in9 i (S a).2 then run n d M (pc + 1) ls st (cc, S, up2 I a i.toNatClampNeg (vp_nar .byte x), J, P) else if (S a).1 = 3 ∧ in9 i (S a).2 then run n d M (pc + 1) ls st (cc, S, up2 I a i.toNatClampNeg (vp_nar .boolean x), J, P) else none) = some r
  rw [if_pos hs]
  exact hN n hn
theorem g_bastZ {c a : Nat} {i x : Int32} (h : code9 M pc = some (c, .bastore, [1], .null, [])) (hc : cutA c ls = ls) (hs : (S a).1 = 3 ∧ in9 i (S a).2) (g : Go d M (pc + 1) ls st (cc, S, up2 I a i.toNatClampNeg (vp_nar .boolean x), J, P) r) : Go d M pc ls (.int x :: .int i :: .ref a :: st) (cc, S, I, J, P) r := by
  obtain ⟨N, hN⟩ := g
  refine go_of h ⟨N, fun n hn => ?_⟩
  rw [hc]
  show (if (S a).1 = 2 ∧ in9 i (S a).2 then run n d M (pc + 1) ls st (cc, S, up2 I a i.toNatClampNeg (vp_nar .byte x), J, P) else if (S a).1 = 3 ∧ in9 i (S a).2 then run n d M (pc + 1) ls st (cc, S, up2 I a i.toNatClampNeg (vp_nar .boolean x), J, P) else none) = some r
  rw [if_neg (fun q => by have := q.1.symm.trans hs.1; omega), if_pos hs]
  exact hN n hn
theorem g_new {c ci k z : Nat} (h : code9 M pc = some (c, .new z, [3, ci, k, 0], .null, [])) (hc : cutA c ls = ls) (hs : mHp (cc, S, I, J, P) < oFF) (g : Go d M (pc + 3) ls (.ref (mHp (cc, S, I, J, P)) :: st) (mNew (cc, S, I, J, P) (0, ci) k) r) : Go d M pc ls st (cc, S, I, J, P) r := by
  obtain ⟨N, hN⟩ := g
  refine go_of h ⟨N, fun n hn => ?_⟩
  rw [hc]
  show (if mHp (cc, S, I, J, P) < oFF then run n d M (pc + 3) ls (.ref (mHp (cc, S, I, J, P)) :: st) (mNew (cc, S, I, J, P) (0, ci) k) else none) = some r
  rw [if_pos hs]
  exact hN n hn
theorem g_throw {c ci k z : Nat} (h : code9 M pc = some (c, .new z, [3, ci, k, 1], .null, [])) (hc : cutA c ls = ls) (hs : mHp (cc, S, I, J, P) < oFF) (hr : r = (none, true, mNew (cc, S, I, J, P) (9, 0) k)) (hw : cat9 st = true := by rfl) (hd : 8 ≤ d := by omega) : Go d M pc ls st (cc, S, I, J, P) r := by
  refine go_of h ⟨0, fun n hn => ?_⟩
  rw [hc, hr]
  show (if mHp (cc, S, I, J, P) < oFF ∧ 8 ≤ d then (bif cat9 st then some (none, true, mNew (cc, S, I, J, P) (9, 0) k) else none) else none) = _
  rw [if_pos ⟨hs, hd⟩, hw]
  rfl
theorem g_newa {c k : Nat} {ty : ArrayType} {x : Int32} (h : code9 M pc = some (c, .newarray ty, [2, k], .null, [])) (hc : cutA c ls = ls) (hs : 0 ≤ x ∧ x.toNatClampNeg ≤ 60000000 ∧ mHp (cc, S, I, J, P) < oFF) (g : Go d M (pc + 2) ls (.ref (mHp (cc, S, I, J, P)) :: st) (mNew (cc, S, I, J, P) (k, x.toNatClampNeg) x.toNatClampNeg) r) : Go d M pc ls (.int x :: st) (cc, S, I, J, P) r := by
  obtain ⟨N, hN⟩ := g
  refine go_of h ⟨N, fun n hn => ?_⟩
  rw [hc]
  show (if 0 ≤ x ∧ x.toNatClampNeg ≤ 60000000 ∧ mHp (cc, S, I, J, P) < oFF then run n d M (pc + 2) ls (.ref (mHp (cc, S, I, J, P)) :: st) (mNew (cc, S, I, J, P) (k, x.toNatClampNeg) x.toNatClampNeg) else none) = some r
  rw [if_pos hs]
  exact hN n hn
theorem g_anew {c z : Nat} {x : Int32} (h : code9 M pc = some (c, .anewarray z, [3], .null, [])) (hc : cutA c ls = ls) (hs : 0 ≤ x ∧ x.toNatClampNeg ≤ 60000000 ∧ mHp (cc, S, I, J, P) < oFF) (g : Go d M (pc + 3) ls (.ref (mHp (cc, S, I, J, P)) :: st) (mNew (cc, S, I, J, P) (5, x.toNatClampNeg) x.toNatClampNeg) r) : Go d M pc ls (.int x :: st) (cc, S, I, J, P) r := by
  obtain ⟨N, hN⟩ := g
  refine go_of h ⟨N, fun n hn => ?_⟩
  rw [hc]
  show (if 0 ≤ x ∧ x.toNatClampNeg ≤ 60000000 ∧ mHp (cc, S, I, J, P) < oFF then run n d M (pc + 3) ls (.ref (mHp (cc, S, I, J, P)) :: st) (mNew (cc, S, I, J, P) (5, x.toNatClampNeg) x.toNatClampNeg) else none) = some r
  rw [if_pos hs]
  exact hN n hn
theorem g_iret {c k : Nat} {x : Int32} (h : code9 M pc = some (c, .ireturn, [1, k], .null, [])) (hk : k = 1 ∨ k = 3 ∧ (x = 0 ∨ x = 1)) (hr : r = (some (.int x), false, (cc, S, I, J, P))) : Go d M pc ls [.int x] (cc, S, I, J, P) r := by
  refine go_of h ⟨0, fun n hn => ?_⟩
  rw [hr]
  rcases hk with rfl | ⟨rfl, hk⟩
  · rfl
  · show (if x = 0 ∨ x = 1 then some (some (Value.int x), false, (cc, S, I, J, P)) else none) = (_ : Option Res)
    rw [if_pos hk]
theorem g_lret {c : Nat} {x : Int64} (h : code9 M pc = some (c, .lreturn, [1], .null, [])) (hr : r = (some (.long x), false, (cc, S, I, J, P))) : Go d M pc ls [.long x] (cc, S, I, J, P) r := by
  refine go_of h ⟨0, fun n hn => ?_⟩
  rw [hr]
  rfl
theorem g_vret {c : Nat} (h : code9 M pc = some (c, .return_, [1], .null, [])) (hr : r = (none, false, (cc, S, I, J, P))) : Go d M pc ls [] (cc, S, I, J, P) r := by
  refine go_of h ⟨0, fun n hn => ?_⟩
  rw [hr]
  rfl
theorem g_callVV {c M' na nl ci z : Nat} {a : Nat} {as rs : List Value} {cc' : Nat × Nat} {S' : Nat → Nat × Nat} {I' : Nat → Nat → Int32} {J' : Nat → Nat → Int64} {P' : Nat → Nat → Option Nat} {L : Loc9} (h : code9 M pc = some (c, .invokevirtual z, [3, M', na, 1, 0, nl, ci, 0], .null, [])) (hc : cutA c ls = ls) (ht : tk9 na [] st = some ((.ref a :: as), rs)) (hw : cat9 rs = true) (hL : arg9 nl (.ref a :: as) = L) (hW : Nat.ble (cs9 (.ref a :: as)) nl = true) (hs : S a = (0, ci)) (hg : Go d M' 0 L [] (cc, S, I, J, P) (none, false, (cc', S', I', J', P'))) (g : Go (d + 1) M (pc + 3) ls rs (cc', S', I', J', P') r) : Go (d + 1) M pc ls st (cc, S, I, J, P) r := by
  obtain ⟨N, hN⟩ := g
  obtain ⟨N2, hN2⟩ := hg
  refine go_of h ⟨N + N2, fun n hn => ?_⟩
  rw [hc]
  show (match tk9 na [] st with
    | none => none
    | some (as, r) => _) = some r
  rw [ht]
  show (bif cat9 rs && Nat.ble (cs9 (.ref a :: as)) nl then _ else none) = some r
  rw [hw, hW]
  show (if S a = (0, ci) then cV (run n d M' 0 (arg9 nl (.ref a :: as)) [] (cc, S, I, J, P)) (fun μ => run n (d + 1) M (pc + 3) ls rs μ) (fun _ => none) else none) = some r
  rw [if_pos hs]
  rw [hL, hN2 n (by omega)]
  exact hN n (by omega)
theorem g_callVI {c M' na nl ci z : Nat} {a : Nat} {as rs : List Value} {x : Int32} {cc' : Nat × Nat} {S' : Nat → Nat × Nat} {I' : Nat → Nat → Int32} {J' : Nat → Nat → Int64} {P' : Nat → Nat → Option Nat} {L : Loc9} (h : code9 M pc = some (c, .invokevirtual z, [3, M', na, 1, 1, nl, ci, 0], .null, [])) (hc : cutA c ls = ls) (ht : tk9 na [] st = some ((.ref a :: as), rs)) (hw : cat9 rs = true) (hL : arg9 nl (.ref a :: as) = L) (hW : Nat.ble (cs9 (.ref a :: as)) nl = true) (hs : S a = (0, ci)) (hg : Go d M' 0 L [] (cc, S, I, J, P) (some (.int x), false, (cc', S', I', J', P'))) (g : Go (d + 1) M (pc + 3) ls (.int x :: rs) (cc', S', I', J', P') r) : Go (d + 1) M pc ls st (cc, S, I, J, P) r := by
  obtain ⟨N, hN⟩ := g
  obtain ⟨N2, hN2⟩ := hg
  refine go_of h ⟨N + N2, fun n hn => ?_⟩
  rw [hc]
  show (match tk9 na [] st with
    | none => none
    | some (as, r) => _) = some r
  rw [ht]
  show (bif cat9 rs && Nat.ble (cs9 (.ref a :: as)) nl then _ else none) = some r
  rw [hw, hW]
  show (if S a = (0, ci) then cI (run n d M' 0 (arg9 nl (.ref a :: as)) [] (cc, S, I, J, P)) (fun x μ => run n (d + 1) M (pc + 3) ls (.int x :: rs) μ) (fun _ => none) else none) = some r
  rw [if_pos hs]
  rw [hL, hN2 n (by omega)]
  exact hN n (by omega)
theorem g_callVZ {c M' na nl ci z : Nat} {a : Nat} {as rs : List Value} {x : Int32} {cc' : Nat × Nat} {S' : Nat → Nat × Nat} {I' : Nat → Nat → Int32} {J' : Nat → Nat → Int64} {P' : Nat → Nat → Option Nat} {L : Loc9} (h : code9 M pc = some (c, .invokevirtual z, [3, M', na, 1, 3, nl, ci, 0], .null, [])) (hc : cutA c ls = ls) (ht : tk9 na [] st = some ((.ref a :: as), rs)) (hw : cat9 rs = true) (hL : arg9 nl (.ref a :: as) = L) (hW : Nat.ble (cs9 (.ref a :: as)) nl = true) (hs : S a = (0, ci)) (hg : Go d M' 0 L [] (cc, S, I, J, P) (some (.int x), false, (cc', S', I', J', P'))) (g : Go (d + 1) M (pc + 3) ls (.int x :: rs) (cc', S', I', J', P') r) : Go (d + 1) M pc ls st (cc, S, I, J, P) r := by
  obtain ⟨N, hN⟩ := g
  obtain ⟨N2, hN2⟩ := hg
  refine go_of h ⟨N + N2, fun n hn => ?_⟩
  rw [hc]
  show (match tk9 na [] st with
    | none => none
    | some (as, r) => _) = some r
  rw [ht]
  show (bif cat9 rs && Nat.ble (cs9 (.ref a :: as)) nl then _ else none) = some r
  rw [hw, hW]
  show (if S a = (0, ci) then cI (run n d M' 0 (arg9 nl (.ref a :: as)) [] (cc, S, I, J, P)) (fun x μ => run n (d + 1) M (pc + 3) ls (.int x :: rs) μ) (fun _ => none) else none) = some r
  rw [if_pos hs]
  rw [hL, hN2 n (by omega)]
  exact hN n (by omega)
theorem g_callVJ {c M' na nl ci z : Nat} {a : Nat} {as rs : List Value} {x : Int64} {cc' : Nat × Nat} {S' : Nat → Nat × Nat} {I' : Nat → Nat → Int32} {J' : Nat → Nat → Int64} {P' : Nat → Nat → Option Nat} {L : Loc9} (h : code9 M pc = some (c, .invokevirtual z, [3, M', na, 1, 2, nl, ci, 0], .null, [])) (hc : cutA c ls = ls) (ht : tk9 na [] st = some ((.ref a :: as), rs)) (hw : cat9 rs = true) (hL : arg9 nl (.ref a :: as) = L) (hW : Nat.ble (cs9 (.ref a :: as)) nl = true) (hs : S a = (0, ci)) (hg : Go d M' 0 L [] (cc, S, I, J, P) (some (.long x), false, (cc', S', I', J', P'))) (g : Go (d + 1) M (pc + 3) ls (.long x :: rs) (cc', S', I', J', P') r) : Go (d + 1) M pc ls st (cc, S, I, J, P) r := by
  obtain ⟨N, hN⟩ := g
  obtain ⟨N2, hN2⟩ := hg
  refine go_of h ⟨N + N2, fun n hn => ?_⟩
  rw [hc]
  show (match tk9 na [] st with
    | none => none
    | some (as, r) => _) = some r
  rw [ht]
  show (bif cat9 rs && Nat.ble (cs9 (.ref a :: as)) nl then _ else none) = some r
  rw [hw, hW]
  show (if S a = (0, ci) then cJ (run n d M' 0 (arg9 nl (.ref a :: as)) [] (cc, S, I, J, P)) (fun x μ => run n (d + 1) M (pc + 3) ls (.long x :: rs) μ) (fun _ => none) else none) = some r
  rw [if_pos hs]
  rw [hL, hN2 n (by omega)]
  exact hN n (by omega)
theorem g_callSV {c M' na nl ci z : Nat} {as rs : List Value} {cc' : Nat × Nat} {S' : Nat → Nat × Nat} {I' : Nat → Nat → Int32} {J' : Nat → Nat → Int64} {P' : Nat → Nat → Option Nat} {L : Loc9} (h : code9 M pc = some (c, .invokestatic z, [3, M', na, 0, 0, nl, ci, 0], .null, [])) (hc : cutA c ls = ls) (ht : tk9 na [] st = some (as, rs)) (hw : cat9 rs = true) (hL : arg9 nl as = L) (hW : Nat.ble (cs9 as) nl = true) (hg : Go d M' 0 L [] (cc, S, I, J, P) (none, false, (cc', S', I', J', P'))) (g : Go (d + 1) M (pc + 3) ls rs (cc', S', I', J', P') r) : Go (d + 1) M pc ls st (cc, S, I, J, P) r := by
  obtain ⟨N, hN⟩ := g
  obtain ⟨N2, hN2⟩ := hg
  refine go_of h ⟨N + N2, fun n hn => ?_⟩
  rw [hc]
  show (match tk9 na [] st with
    | none => none
    | some (as, r) => _) = some r
  rw [ht]
  show (bif cat9 rs && Nat.ble (cs9 as) nl then _ else none) = some r
  rw [hw, hW]
  show (cV (run n d M' 0 (arg9 nl as) [] (cc, S, I, J, P)) (fun μ => run n (d + 1) M (pc + 3) ls rs μ) (fun _ => none)) = some r
  rw [hL, hN2 n (by omega)]
  exact hN n (by omega)
theorem g_callSI {c M' na nl ci z : Nat} {as rs : List Value} {x : Int32} {cc' : Nat × Nat} {S' : Nat → Nat × Nat} {I' : Nat → Nat → Int32} {J' : Nat → Nat → Int64} {P' : Nat → Nat → Option Nat} {L : Loc9} (h : code9 M pc = some (c, .invokestatic z, [3, M', na, 0, 1, nl, ci, 0], .null, [])) (hc : cutA c ls = ls) (ht : tk9 na [] st = some (as, rs)) (hw : cat9 rs = true) (hL : arg9 nl as = L) (hW : Nat.ble (cs9 as) nl = true) (hg : Go d M' 0 L [] (cc, S, I, J, P) (some (.int x), false, (cc', S', I', J', P'))) (g : Go (d + 1) M (pc + 3) ls (.int x :: rs) (cc', S', I', J', P') r) : Go (d + 1) M pc ls st (cc, S, I, J, P) r := by
  obtain ⟨N, hN⟩ := g
  obtain ⟨N2, hN2⟩ := hg
  refine go_of h ⟨N + N2, fun n hn => ?_⟩
  rw [hc]
  show (match tk9 na [] st with
    | none => none
    | some (as, r) => _) = some r
  rw [ht]
  show (bif cat9 rs && Nat.ble (cs9 as) nl then _ else none) = some r
  rw [hw, hW]
  show (cI (run n d M' 0 (arg9 nl as) [] (cc, S, I, J, P)) (fun x μ => run n (d + 1) M (pc + 3) ls (.int x :: rs) μ) (fun _ => none)) = some r
  rw [hL, hN2 n (by omega)]
  exact hN n (by omega)
theorem g_callSZ {c M' na nl ci z : Nat} {as rs : List Value} {x : Int32} {cc' : Nat × Nat} {S' : Nat → Nat × Nat} {I' : Nat → Nat → Int32} {J' : Nat → Nat → Int64} {P' : Nat → Nat → Option Nat} {L : Loc9} (h : code9 M pc = some (c, .invokestatic z, [3, M', na, 0, 3, nl, ci, 0], .null, [])) (hc : cutA c ls = ls) (ht : tk9 na [] st = some (as, rs)) (hw : cat9 rs = true) (hL : arg9 nl as = L) (hW : Nat.ble (cs9 as) nl = true) (hg : Go d M' 0 L [] (cc, S, I, J, P) (some (.int x), false, (cc', S', I', J', P'))) (g : Go (d + 1) M (pc + 3) ls (.int x :: rs) (cc', S', I', J', P') r) : Go (d + 1) M pc ls st (cc, S, I, J, P) r := by
  obtain ⟨N, hN⟩ := g
  obtain ⟨N2, hN2⟩ := hg
  refine go_of h ⟨N + N2, fun n hn => ?_⟩
  rw [hc]
  show (match tk9 na [] st with
    | none => none
    | some (as, r) => _) = some r
  rw [ht]
  show (bif cat9 rs && Nat.ble (cs9 as) nl then _ else none) = some r
  rw [hw, hW]
  show (cI (run n d M' 0 (arg9 nl as) [] (cc, S, I, J, P)) (fun x μ => run n (d + 1) M (pc + 3) ls (.int x :: rs) μ) (fun _ => none)) = some r
  rw [hL, hN2 n (by omega)]
  exact hN n (by omega)
theorem g_callSJ {c M' na nl ci z : Nat} {as rs : List Value} {x : Int64} {cc' : Nat × Nat} {S' : Nat → Nat × Nat} {I' : Nat → Nat → Int32} {J' : Nat → Nat → Int64} {P' : Nat → Nat → Option Nat} {L : Loc9} (h : code9 M pc = some (c, .invokestatic z, [3, M', na, 0, 2, nl, ci, 0], .null, [])) (hc : cutA c ls = ls) (ht : tk9 na [] st = some (as, rs)) (hw : cat9 rs = true) (hL : arg9 nl as = L) (hW : Nat.ble (cs9 as) nl = true) (hg : Go d M' 0 L [] (cc, S, I, J, P) (some (.long x), false, (cc', S', I', J', P'))) (g : Go (d + 1) M (pc + 3) ls (.long x :: rs) (cc', S', I', J', P') r) : Go (d + 1) M pc ls st (cc, S, I, J, P) r := by
  obtain ⟨N, hN⟩ := g
  obtain ⟨N2, hN2⟩ := hg
  refine go_of h ⟨N + N2, fun n hn => ?_⟩
  rw [hc]
  show (match tk9 na [] st with
    | none => none
    | some (as, r) => _) = some r
  rw [ht]
  show (bif cat9 rs && Nat.ble (cs9 as) nl then _ else none) = some r
  rw [hw, hW]
  show (cJ (run n d M' 0 (arg9 nl as) [] (cc, S, I, J, P)) (fun x μ => run n (d + 1) M (pc + 3) ls (.long x :: rs) μ) (fun _ => none)) = some r
  rw [hL, hN2 n (by omega)]
  exact hN n (by omega)
theorem g_callIV {c M' na nl ci z : Nat} {a : Nat} {as rs : List Value} {cc' : Nat × Nat} {S' : Nat → Nat × Nat} {I' : Nat → Nat → Int32} {J' : Nat → Nat → Int64} {P' : Nat → Nat → Option Nat} {L : Loc9} (h : code9 M pc = some (c, .invokespecial z, [3, M', na, 1, 0, nl, ci, 0], .null, [])) (hc : cutA c ls = ls) (ht : tk9 na [] st = some ((.ref a :: as), rs)) (hw : cat9 rs = true) (hL : arg9 nl (.ref a :: as) = L) (hW : Nat.ble (cs9 (.ref a :: as)) nl = true) (hs : S a = (0, ci)) (hg : Go d M' 0 L [] (cc, S, I, J, P) (none, false, (cc', S', I', J', P'))) (g : Go (d + 1) M (pc + 3) ls rs (cc', S', I', J', P') r) : Go (d + 1) M pc ls st (cc, S, I, J, P) r := by
  obtain ⟨N, hN⟩ := g
  obtain ⟨N2, hN2⟩ := hg
  refine go_of h ⟨N + N2, fun n hn => ?_⟩
  rw [hc]
  show (match tk9 na [] st with
    | none => none
    | some (as, r) => _) = some r
  rw [ht]
  show (bif cat9 rs && Nat.ble (cs9 (.ref a :: as)) nl then _ else none) = some r
  rw [hw, hW]
  show (if S a = (0, ci) then cV (run n d M' 0 (arg9 nl (.ref a :: as)) [] (cc, S, I, J, P)) (fun μ => run n (d + 1) M (pc + 3) ls rs μ) (fun _ => none) else none) = some r
  rw [if_pos hs]
  rw [hL, hN2 n (by omega)]
  exact hN n (by omega)
theorem g_obj {c z a : Nat} (h : code9 M pc = some (c, .invokespecial z, [3, 1], .null, [])) (hc : cutA c ls = ls) (hd : d ≠ 0) (hw : cat9 st = true) (g : Go d M (pc + 3) ls st (cc, S, I, J, P) r) : Go d M pc ls (.ref a :: st) (cc, S, I, J, P) r := by
  obtain ⟨N, hN⟩ := g
  refine go_of h ⟨N, fun n hn => ?_⟩
  rw [hc]
  show (if d ≠ 0 then (bif cat9 st then run n d M (pc + 3) ls st (cc, S, I, J, P) else none) else none) = some r
  rw [if_pos hd, hw]
  exact hN n hn
theorem g_cpyI {c z a b : Nat} {sp dp m : Int32} (h : code9 M pc = some (c, .invokestatic z, [3, 2], .null, [])) (hc : cutA c ls = ls) (hs : d ≠ 0 ∧ ((S a).1 = (S b).1 ∧ a ≠ b) ∧ (0 ≤ sp ∧ 0 ≤ dp ∧ 0 ≤ m) ∧ sp.toNatClampNeg + m.toNatClampNeg ≤ (S a).2 ∧ dp.toNatClampNeg + m.toNatClampNeg ≤ (S b).2) (hk : (S a).1 = 1) (hw : cat9 st = true) (g : Go d M (pc + 3) ls st (cc, S, cp2 I a sp.toNatClampNeg b dp.toNatClampNeg m.toNatClampNeg, J, P) r) : Go d M pc ls (.int m :: .int dp :: .ref b :: .int sp :: .ref a :: st) (cc, S, I, J, P) r := by
  obtain ⟨N, hN⟩ := g
  refine go_of h ⟨N, fun n hn => ?_⟩
  rw [hc]
  show (if d ≠ 0 ∧ ((S a).1 = (S b).1 ∧ a ≠ b) ∧ (0 ≤ sp ∧ 0 ≤ dp ∧ 0 ≤ m) ∧ sp.toNatClampNeg + m.toNatClampNeg ≤ (S a).2 ∧ dp.toNatClampNeg + m.toNatClampNeg ≤ (S b).2 then (bif cat9 st then (if (S a).1 = 1 then run n d M (pc + 3) ls st (cc, S, cp2 I a sp.toNatClampNeg b dp.toNatClampNeg m.toNatClampNeg, J, P) else if (S a).1 = 4 then run n d M (pc + 3) ls st (cc, S, I, cp2 J a sp.toNatClampNeg b dp.toNatClampNeg m.toNatClampNeg, P) else none) else none) else none) = some r
  rw [if_pos hs, hw]
  show (if (S a).1 = 1 then run n d M (pc + 3) ls st (cc, S, cp2 I a sp.toNatClampNeg b dp.toNatClampNeg m.toNatClampNeg, J, P) else if (S a).1 = 4 then run n d M (pc + 3) ls st (cc, S, I, cp2 J a sp.toNatClampNeg b dp.toNatClampNeg m.toNatClampNeg, P) else none) = some r
  rw [if_pos hk]
  exact hN n hn
theorem g_cpyJ {c z a b : Nat} {sp dp m : Int32} (h : code9 M pc = some (c, .invokestatic z, [3, 2], .null, [])) (hc : cutA c ls = ls) (hs : d ≠ 0 ∧ ((S a).1 = (S b).1 ∧ a ≠ b) ∧ (0 ≤ sp ∧ 0 ≤ dp ∧ 0 ≤ m) ∧ sp.toNatClampNeg + m.toNatClampNeg ≤ (S a).2 ∧ dp.toNatClampNeg + m.toNatClampNeg ≤ (S b).2) (hk : (S a).1 = 4) (hw : cat9 st = true) (g : Go d M (pc + 3) ls st (cc, S, I, cp2 J a sp.toNatClampNeg b dp.toNatClampNeg m.toNatClampNeg, P) r) : Go d M pc ls (.int m :: .int dp :: .ref b :: .int sp :: .ref a :: st) (cc, S, I, J, P) r := by
  obtain ⟨N, hN⟩ := g
  refine go_of h ⟨N, fun n hn => ?_⟩
  rw [hc]
  show (if d ≠ 0 ∧ ((S a).1 = (S b).1 ∧ a ≠ b) ∧ (0 ≤ sp ∧ 0 ≤ dp ∧ 0 ≤ m) ∧ sp.toNatClampNeg + m.toNatClampNeg ≤ (S a).2 ∧ dp.toNatClampNeg + m.toNatClampNeg ≤ (S b).2 then (bif cat9 st then (if (S a).1 = 1 then run n d M (pc + 3) ls st (cc, S, cp2 I a sp.toNatClampNeg b dp.toNatClampNeg m.toNatClampNeg, J, P) else if (S a).1 = 4 then run n d M (pc + 3) ls st (cc, S, I, cp2 J a sp.toNatClampNeg b dp.toNatClampNeg m.toNatClampNeg, P) else none) else none) else none) = some r
  rw [if_pos hs, hw]
  show (if (S a).1 = 1 then run n d M (pc + 3) ls st (cc, S, cp2 I a sp.toNatClampNeg b dp.toNatClampNeg m.toNatClampNeg, J, P) else if (S a).1 = 4 then run n d M (pc + 3) ls st (cc, S, I, cp2 J a sp.toNatClampNeg b dp.toNatClampNeg m.toNatClampNeg, P) else none) = some r
  rw [if_neg (fun q => by have := q.symm.trans hk; omega), if_pos hk]
  exact hN n hn
theorem g_abs {c z : Nat} {x : Int32} (h : code9 M pc = some (c, .invokestatic z, [3, 5], .null, [])) (hc : cutA c ls = ls) (hd : d ≠ 0) (hw : cat9 st = true) (g : Go d M (pc + 3) ls (.int (if 0 ≤ x then x else 0 - x) :: st) (cc, S, I, J, P) r) : Go d M pc ls (.int x :: st) (cc, S, I, J, P) r := by
  obtain ⟨N, hN⟩ := g
  refine go_of h ⟨N, fun n hn => ?_⟩
  rw [hc]
  show (if d ≠ 0 then (bif cat9 st then run n d M (pc + 3) ls (.int (if 0 ≤ x then x else 0 - x) :: st) (cc, S, I, J, P) else none) else none) = some r
  rw [if_pos hd, hw]
  exact hN n hn
theorem g_max {c z : Nat} {x y : Int32} (h : code9 M pc = some (c, .invokestatic z, [3, 6], .null, [])) (hc : cutA c ls = ls) (hd : d ≠ 0) (hw : cat9 st = true) (g : Go d M (pc + 3) ls (.int (if x < y then y else x) :: st) (cc, S, I, J, P) r) : Go d M pc ls (.int y :: .int x :: st) (cc, S, I, J, P) r := by
  obtain ⟨N, hN⟩ := g
  refine go_of h ⟨N, fun n hn => ?_⟩
  rw [hc]
  show (if d ≠ 0 then (bif cat9 st then run n d M (pc + 3) ls (.int (if x < y then y else x) :: st) (cc, S, I, J, P) else none) else none) = some r
  rw [if_pos hd, hw]
  exact hN n hn
theorem g_min {c z : Nat} {x y : Int32} (h : code9 M pc = some (c, .invokestatic z, [3, 7], .null, [])) (hc : cutA c ls = ls) (hd : d ≠ 0) (hw : cat9 st = true) (g : Go d M (pc + 3) ls (.int (if y < x then y else x) :: st) (cc, S, I, J, P) r) : Go d M pc ls (.int y :: .int x :: st) (cc, S, I, J, P) r := by
  obtain ⟨N, hN⟩ := g
  refine go_of h ⟨N, fun n hn => ?_⟩
  rw [hc]
  show (if d ≠ 0 then (bif cat9 st then run n d M (pc + 3) ls (.int (if y < x then y else x) :: st) (cc, S, I, J, P) else none) else none) = some r
  rw [if_pos hd, hw]
  exact hN n hn
theorem g_maxJ {c z : Nat} {x y : Int64} (h : code9 M pc = some (c, .invokestatic z, [3, 8], .null, [])) (hc : cutA c ls = ls) (hd : d ≠ 0) (hw : cat9 st = true) (g : Go d M (pc + 3) ls (.long (if y < x then x else y) :: st) (cc, S, I, J, P) r) : Go d M pc ls (.long y :: .long x :: st) (cc, S, I, J, P) r := by
  obtain ⟨N, hN⟩ := g
  refine go_of h ⟨N, fun n hn => ?_⟩
  rw [hc]
  show (if d ≠ 0 then (bif cat9 st then run n d M (pc + 3) ls (.long (if y < x then x else y) :: st) (cc, S, I, J, P) else none) else none) = some r
  rw [if_pos hd, hw]
  exact hN n hn
theorem g_slen {c z a : Nat} (h : code9 M pc = some (c, .invokevirtual z, [3, 3], .null, [])) (hc : cutA c ls = ls) (hs : oFF < a ∧ a ≤ oFF + 5 ∧ 2 ≤ d) (hw : cat9 st = true) (g : Go d M (pc + 3) ls (.int (Int32.ofNat (sLen (a - oFF - 1))) :: st) (cc, S, I, J, P) r) : Go d M pc ls (.ref a :: st) (cc, S, I, J, P) r := by
  obtain ⟨N, hN⟩ := g
  refine go_of h ⟨N, fun n hn => ?_⟩
  rw [hc]
  show (if oFF < a ∧ a ≤ oFF + 5 ∧ 2 ≤ d then (bif cat9 st then run n d M (pc + 3) ls (.int (Int32.ofNat (sLen (a - oFF - 1))) :: st) (cc, S, I, J, P) else none) else none) = some r
  rw [if_pos hs, hw]
  exact hN n hn
theorem g_sch {c z a : Nat} {i : Int32} (h : code9 M pc = some (c, .invokevirtual z, [3, 4], .null, [])) (hc : cutA c ls = ls) (hs : oFF < a ∧ a ≤ oFF + 5 ∧ 8 ≤ d ∧ in9 i (sLen (a - oFF - 1))) (hw : cat9 st = true) (g : Go d M (pc + 3) ls (.int (sCh (a - oFF - 1) i.toNatClampNeg) :: st) (cc, S, I, J, P) r) : Go d M pc ls (.int i :: .ref a :: st) (cc, S, I, J, P) r := by
  obtain ⟨N, hN⟩ := g
  refine go_of h ⟨N, fun n hn => ?_⟩
  rw [hc]
  show (if oFF < a ∧ a ≤ oFF + 5 ∧ 8 ≤ d ∧ in9 i (sLen (a - oFF - 1)) then (bif cat9 st then run n d M (pc + 3) ls (.int (sCh (a - oFF - 1) i.toNatClampNeg) :: st) (cc, S, I, J, P) else none) else none) = some r
  rw [if_pos hs, hw]
  exact hN n hn
end Rows10

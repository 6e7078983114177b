/-! HiddenOrLost$Tape.isWord(I)Z -/
theorem cd121_0 : code9 121 0 = some (0, .aload_n 0, [1], .null, []) := rfl
theorem cd121_1 : code9 121 1 = some (0, .getfield 49, [3, 10, 11, 0], .null, []) := rfl
theorem cd121_4 : code9 121 4 = some (0, .iload_n 1, [1], .null, []) := rfl
theorem cd121_5 : code9 121 5 = some (0, .if_icmp .ne 7, [3, 12], .null, []) := rfl
theorem cd121_8 : code9 121 8 = some (0, .iconst 1, [1], .int 1, []) := rfl
theorem cd121_9 : code9 121 9 = some (0, .goto 4, [3, 13, 2], .null, []) := rfl
theorem cd121_12 : code9 121 12 = some (0, .iconst 0, [1], .int 0, []) := rfl
theorem cd121_13 : code9 121 13 = some (3, .ireturn, [1, 3], .null, []) := rfl
def Tape_isWord (a0 : Nat) (l1 : Int32) (I : FI) : Bool := if (I a0 11) = l1 then (true) else (false)
set_option maxRecDepth 8000 in
theorem t_Tape_isWord {d : Nat} {a0 : Nat} {c : Nat × Nat} {S : Nat → Nat × Nat} {P : Nat → Nat → Option Nat} {I : FI} {J : FJ} {l1 : Int32} {r : Bool} (hd : 0 ≤ d) (h0 : O10 S P a0) (h : Tape_isWord a0 l1 I = r) : Go d M_Tape_isWord 0 [some (.ref a0), some (.int l1)] [] (c, S, I, J, P) (some (.int (b2i r)), false, (c, S, I, J, P)) := by
  unfold Tape_isWord at h
  refine g_aload_n cd121_0 rfl rfl ?_
  refine g_getI cd121_1 rfl (O10.o h0) ?_
  refine g_iload_n cd121_4 rfl rfl ?_
  refine g_icmp_ne cd121_5 rfl (fun hb => ?_) (fun hb => ?_)
  · have h := ifpE hb h
    refine g_iconst cd121_8 rfl ?_
    refine g_goto (ls2 := [some (.ref a0), some (.int l1)]) cd121_9 rfl rfl ?_
    exact g_iret cd121_13 (Or.inr ⟨rfl, Or.inr rfl⟩) (by subst h; rfl)
  · have h := ifnE hb h
    refine g_iconst cd121_12 rfl ?_
    exact g_iret cd121_13 (Or.inr ⟨rfl, Or.inl rfl⟩) (by subst h; rfl)
/-! HiddenOrLost$Tape.isName()Z -/
theorem cd118_0 : code9 118 0 = some (0, .aload_n 0, [1], .null, []) := rfl
theorem cd118_1 : code9 118 1 = some (0, .getfield 42, [3, 10, 9, 0], .null, []) := rfl
theorem cd118_4 : code9 118 4 = some (0, .iconst 3, [1], .int 3, []) := rfl
theorem cd118_5 : code9 118 5 = some (0, .if_icmp .ne 7, [3, 12], .null, []) := rfl
theorem cd118_8 : code9 118 8 = some (0, .iconst 1, [1], .int 1, []) := rfl
theorem cd118_9 : code9 118 9 = some (0, .goto 4, [3, 13, 1], .null, []) := rfl
theorem cd118_12 : code9 118 12 = some (0, .iconst 0, [1], .int 0, []) := rfl
theorem cd118_13 : code9 118 13 = some (2, .ireturn, [1, 3], .null, []) := rfl
def Tape_isName (a0 : Nat) (I : FI) : Bool := if (I a0 9) = 3 then (true) else (false)
set_option maxRecDepth 8000 in
theorem t_Tape_isName {d : Nat} {a0 : Nat} {c : Nat × Nat} {S : Nat → Nat × Nat} {P : Nat → Nat → Option Nat} {I : FI} {J : FJ} {r : Bool} (hd : 0 ≤ d) (h0 : O10 S P a0) (h : Tape_isName a0 I = r) : Go d M_Tape_isName 0 [some (.ref a0)] [] (c, S, I, J, P) (some (.int (b2i r)), false, (c, S, I, J, P)) := by
  unfold Tape_isName at h
  refine g_aload_n cd118_0 rfl rfl ?_
  refine g_getI cd118_1 rfl (O10.o h0) ?_
  refine g_iconst cd118_4 rfl ?_
  refine g_icmp_ne cd118_5 rfl (fun hb => ?_) (fun hb => ?_)
  · have h := ifpE hb h
    refine g_iconst cd118_8 rfl ?_
    refine g_goto (ls2 := [some (.ref a0)]) cd118_9 rfl rfl ?_
    exact g_iret cd118_13 (Or.inr ⟨rfl, Or.inr rfl⟩) (by subst h; rfl)
  · have h := ifnE hb h
    refine g_iconst cd118_12 rfl ?_
    exact g_iret cd118_13 (Or.inr ⟨rfl, Or.inl rfl⟩) (by subst h; rfl)
/-! HiddenOrLost$Tape.fail(I)Z -/
theorem cd116_0 : code9 116 0 = some (0, .aload_n 0, [1], .null, []) := rfl
theorem cd116_1 : code9 116 1 = some (0, .iload_n 1, [1], .null, []) := rfl
theorem cd116_2 : code9 116 2 = some (0, .putfield 58, [3, 10, 14, 0], .null, []) := rfl
theorem cd116_5 : code9 116 5 = some (0, .aload_n 0, [1], .null, []) := rfl
theorem cd116_6 : code9 116 6 = some (0, .aload_n 0, [1], .null, []) := rfl
theorem cd116_7 : code9 116 7 = some (0, .getfield 55, [3, 10, 13, 0], .null, []) := rfl
theorem cd116_10 : code9 116 10 = some (0, .putfield 61, [3, 10, 15, 0], .null, []) := rfl
theorem cd116_13 : code9 116 13 = some (0, .iconst 0, [1], .int 0, []) := rfl
theorem cd116_14 : code9 116 14 = some (0, .ireturn, [1, 3], .null, []) := rfl
def Tape_fail (a0 : Nat) (l1 : Int32) (I : FI) : Option (Bool × FI) := Option.bind (some (up2 I a0 14 l1)) fun I1 => (Option.bind (some (up2 I1 a0 15 (I1 a0 13))) fun I2 => (some (false, I2)))
set_option maxRecDepth 8000 in
theorem t_Tape_fail {d : Nat} {a0 : Nat} {c : Nat × Nat} {S : Nat → Nat × Nat} {P : Nat → Nat → Option Nat} {I : FI} {J : FJ} {l1 : Int32} {r : Bool × FI} (hd : 0 ≤ d) (h0 : O10 S P a0) (h : Tape_fail a0 l1 I = some r) : Go d M_Tape_fail 0 [some (.ref a0), some (.int l1)] [] (c, S, I, J, P) (some (.int (b2i r.1)), false, (c, S, r.2, J, P)) := by
  unfold Tape_fail at h
  refine g_aload_n cd116_0 rfl rfl ?_
  refine g_iload_n cd116_1 rfl rfl ?_
  obtain ⟨I1, e1, h⟩ := bnd h
  refine G_putI cd116_2 rfl (O10.o h0) (Option.some.inj e1) ?_
  refine g_aload_n cd116_5 rfl rfl ?_
  refine g_aload_n cd116_6 rfl rfl ?_
  refine g_getI cd116_7 rfl (O10.o h0) ?_
  obtain ⟨I2, e1, h⟩ := bnd h
  refine G_putI cd116_10 rfl (O10.o h0) (Option.some.inj e1) ?_
  refine g_iconst cd116_13 rfl ?_
  exact g_iret cd116_14 (Or.inr ⟨rfl, Or.inl rfl⟩) (by obtain rfl := Option.some.inj h; rfl)
/-! HiddenOrLost$Land.placeOf([JIJ)I -/
theorem cd43_0 : code9 43 0 = some (0, .iconst 0, [1], .int 0, []) := rfl
theorem cd43_1 : code9 43 1 = some (0, .istore 4, [2], .null, []) := rfl
theorem cd43_3 : code9 43 3 = some (6, .iload 4, [2], .null, []) := rfl
theorem cd43_5 : code9 43 5 = some (0, .iload_n 1, [1], .null, []) := rfl
theorem cd43_6 : code9 43 6 = some (0, .if_icmp .ge 28, [3, 34], .null, []) := rfl
theorem cd43_9 : code9 43 9 = some (0, .iload 4, [2], .null, []) := rfl
theorem cd43_11 : code9 43 11 = some (0, .aload_n 0, [1], .null, []) := rfl
theorem cd43_12 : code9 43 12 = some (0, .arraylength, [1], .null, []) := rfl
theorem cd43_13 : code9 43 13 = some (0, .if_icmp .ge 21, [3, 34], .null, []) := rfl
theorem cd43_16 : code9 43 16 = some (0, .aload_n 0, [1], .null, []) := rfl
theorem cd43_17 : code9 43 17 = some (0, .iload 4, [2], .null, []) := rfl
theorem cd43_19 : code9 43 19 = some (0, .laload, [1], .null, []) := rfl
theorem cd43_20 : code9 43 20 = some (0, .lload_n 2, [1], .null, []) := rfl
theorem cd43_21 : code9 43 21 = some (0, .lcmp, [1], .null, []) := rfl
theorem cd43_22 : code9 43 22 = some (0, .ifCond .ne 6, [3, 28], .null, []) := rfl
theorem cd43_25 : code9 43 25 = some (0, .iload 4, [2], .null, []) := rfl
theorem cd43_27 : code9 43 27 = some (0, .ireturn, [1, 1], .null, []) := rfl
theorem cd43_28 : code9 43 28 = some (0, .iinc 4 1, [3], .int 1, []) := rfl
theorem cd43_31 : code9 43 31 = some (0, .goto (-28), [3, 3, 5], .null, []) := rfl
theorem cd43_34 : code9 43 34 = some (6, .iconst (-1), [1], .int (-1), []) := rfl
theorem cd43_35 : code9 43 35 = some (0, .ireturn, [1, 1], .null, []) := rfl
def Land_placeOf_3 (N : Nat) (a0 n0 : Nat) : Nat → Int32 → Int64 → Int32 → FJ → Option (Int32)
  | 0 => fun _ _ _ _ => none
  | n + 1 => fun l1 l2 l4 J => if l1 ≤ l4 then (some (-1)) else (if (Int32.ofNat n0) ≤ l4 then (some (-1)) else (if in9 l4 n0 then (if (J a0 l4.toNatClampNeg) = l2 then (some l4) else (Land_placeOf_3 N a0 n0 n l1 l2 (l4 + 1) J)) else none))
def Land_placeOf (N : Nat) (a0 n0 : Nat) (l1 : Int32) (l2 : Int64) (J : FJ) : Option (Int32) := Land_placeOf_3 N a0 n0 N l1 l2 0 J
set_option maxRecDepth 8000 in
theorem t_Land_placeOf_3 {d : Nat} {N : Nat} {a0 n0 : Nat} {c : Nat × Nat} {S : Nat → Nat × Nat} {P : Nat → Nat → Option Nat} {r : Int32} (hd : 0 ≤ d) (h0 : S a0 = (4, n0)) : ∀ (n : Nat) (l1 : Int32) (l2 : Int64) (l4 : Int32) (I : FI) (J : FJ), Land_placeOf_3 N a0 n0 n l1 l2 l4 J = some r → Go d M_Land_placeOf 3 [some (.ref a0), some (.int l1), some (.long l2), none, some (.int l4)] [] (c, S, I, J, P) (some (.int r), false, (c, S, I, J, P)) := by
  intro n
  induction n with
  | zero =>
    intro l1 l2 l4 I J h
    cases h
  | succ n ih =>
    intro l1 l2 l4 I J h
    unfold Land_placeOf_3 at h
    refine g_iload cd43_3 rfl rfl ?_
    refine g_iload_n cd43_5 rfl rfl ?_
    refine g_icmp_ge cd43_6 rfl (fun hb => ?_) (fun hb => ?_)
    · have h := ifpE hb h
      refine g_iconst cd43_34 rfl ?_
      exact g_iret cd43_35 (Or.inl rfl) (by obtain rfl := Option.some.inj h; rfl)
    · have h := ifnE hb h
      refine g_iload cd43_9 rfl rfl ?_
      refine g_aload_n cd43_11 rfl rfl ?_
      refine G_alen cd43_12 rfl h0 (by decide) ?_
      refine g_icmp_ge cd43_13 rfl (fun hb => ?_) (fun hb => ?_)
      · have h := ifpE hb h
        refine g_iconst cd43_34 rfl ?_
        exact g_iret cd43_35 (Or.inl rfl) (by obtain rfl := Option.some.inj h; rfl)
      · have h := ifnE hb h
        refine g_aload_n cd43_16 rfl rfl ?_
        refine g_iload cd43_17 rfl rfl ?_
        obtain ⟨hg1, h⟩ := grd h
        refine G_lald cd43_19 rfl h0 hg1 ?_
        refine g_lload_n cd43_20 rfl rfl ?_
        refine g_lcmp cd43_21 rfl ?_
        refine g_if_ne cd43_22 rfl (fun hb => ?_) (fun hb => ?_)
        · have h := ifpE (lgc_eq.mp hb) h
          refine g_iload cd43_25 rfl rfl ?_
          exact g_iret cd43_27 (Or.inl rfl) (by obtain rfl := Option.some.inj h; rfl)
        · have h := ifnE (fun q => hb (lgc_eq.mpr q)) h
          refine g_iinc (ls2 := [some (.ref a0), some (.int l1), some (.long l2), none, some (.int (l4 + 1))]) cd43_28 rfl rfl rfl ?_
          refine g_goto (ls2 := [some (.ref a0), some (.int l1), some (.long l2), none, some (.int (l4 + 1))]) cd43_31 rfl rfl ?_
          exact ih l1 l2 (l4 + 1) I J h
set_option maxRecDepth 8000 in
theorem t_Land_placeOf {d : Nat} {N : Nat} {a0 n0 : Nat} {c : Nat × Nat} {S : Nat → Nat × Nat} {P : Nat → Nat → Option Nat} {I : FI} {J : FJ} {l1 : Int32} {l2 : Int64} {r : Int32} (hd : 0 ≤ d) (h0 : S a0 = (4, n0)) (h : Land_placeOf N a0 n0 l1 l2 J = some r) : Go d M_Land_placeOf 0 [some (.ref a0), some (.int l1), some (.long l2), none, none] [] (c, S, I, J, P) (some (.int r), false, (c, S, I, J, P)) := by
  unfold Land_placeOf at h
  refine g_iconst cd43_0 rfl ?_
  refine g_istore (ls2 := [some (.ref a0), some (.int l1), some (.long l2), none, some (.int 0)]) cd43_1 rfl rfl ?_
  exact t_Land_placeOf_3 hd h0 _ l1 l2 0 I J h
/-! HiddenOrLost$Land.personNamed(J)I -/
theorem cd42_0 : code9 42 0 = some (0, .aload_n 0, [1], .null, []) := rfl
theorem cd42_1 : code9 42 1 = some (0, .getfield 9, [3, 6, 0, 2], .null, []) := rfl
theorem cd42_4 : code9 42 4 = some (0, .aload_n 0, [1], .null, []) := rfl
theorem cd42_5 : code9 42 5 = some (0, .getfield 47, [3, 6, 11, 0], .null, []) := rfl
theorem cd42_8 : code9 42 8 = some (0, .lload_n 1, [1], .null, []) := rfl
theorem cd42_9 : code9 42 9 = some (0, .invokestatic 81, [3, 43, 3, 0, 1, 5, 6, 0], .null, []) := rfl
theorem cd42_12 : code9 42 12 = some (0, .ireturn, [1, 1], .null, []) := rfl
def Land_personNamed (N : Nat) (a0 : Nat) (l1 : Int64) (I : FI) (J : FJ) : Option (Int32) := Option.bind (Land_placeOf N (a0 + 1) 6 (I a0 11) l1 J) fun x1 => (some x1)
set_option maxRecDepth 8000 in
theorem t_Land_personNamed {d : Nat} {N : Nat} {a0 : Nat} {c : Nat × Nat} {S : Nat → Nat × Nat} {P : Nat → Nat → Option Nat} {I : FI} {J : FJ} {l1 : Int64} {r : Int32} (hd : 1 ≤ d) (h0 : O6 S P a0) (h : Land_personNamed N a0 l1 I J = some r) : Go d M_Land_personNamed 0 [some (.ref a0), some (.long l1), none] [] (c, S, I, J, P) (some (.int r), false, (c, S, I, J, P)) := by
  obtain ⟨d, rfl⟩ : ∃ e, d = e + 1 := ⟨d - 1, by omega⟩
  unfold Land_personNamed at h
  refine g_aload_n cd42_0 rfl rfl ?_
  refine g_getP cd42_1 rfl (O6.o h0) (show P a0 0 = some (a0 + 1) from O6.p0 h0) ?_
  refine g_aload_n cd42_4 rfl rfl ?_
  refine g_getI cd42_5 rfl (O6.o h0) ?_
  refine g_lload_n cd42_8 rfl rfl ?_
  obtain ⟨x1, hx, h⟩ := bnd h
  refine g_callSI (L := [some (.ref (a0 + 1)), some (.int (I a0 11)), some (.long l1), none, none]) cd42_9 rfl rfl rfl rfl rfl (t_Land_placeOf (by omega) (show S (a0 + 1) = (4, 6) from O6.s0 h0) hx) ?_
  exact g_iret cd42_12 (Or.inl rfl) (by obtain rfl := Option.some.inj h; rfl)
/-! HiddenOrLost$Land.findNamed(J)I -/
theorem cd44_0 : code9 44 0 = some (0, .aload_n 0, [1], .null, []) := rfl
theorem cd44_1 : code9 44 1 = some (0, .getfield 15, [3, 6, 1, 2], .null, []) := rfl
theorem cd44_4 : code9 44 4 = some (0, .aload_n 0, [1], .null, []) := rfl
theorem cd44_5 : code9 44 5 = some (0, .getfield 50, [3, 6, 12, 0], .null, []) := rfl
theorem cd44_8 : code9 44 8 = some (0, .lload_n 1, [1], .null, []) := rfl
theorem cd44_9 : code9 44 9 = some (0, .invokestatic 81, [3, 43, 3, 0, 1, 5, 6, 0], .null, []) := rfl
theorem cd44_12 : code9 44 12 = some (0, .ireturn, [1, 1], .null, []) := rfl
def Land_findNamed (N : Nat) (a0 : Nat) (l1 : Int64) (I : FI) (J : FJ) : Option (Int32) := Option.bind (Land_placeOf N (a0 + 2) 10 (I a0 12) l1 J) fun x1 => (some x1)
set_option maxRecDepth 8000 in
theorem t_Land_findNamed {d : Nat} {N : Nat} {a0 : Nat} {c : Nat × Nat} {S : Nat → Nat × Nat} {P : Nat → Nat → Option Nat} {I : FI} {J : FJ} {l1 : Int64} {r : Int32} (hd : 1 ≤ d) (h0 : O6 S P a0) (h : Land_findNamed N a0 l1 I J = some r) : Go d M_Land_findNamed 0 [some (.ref a0), some (.long l1), none] [] (c, S, I, J, P) (some (.int r), false, (c, S, I, J, P)) := by
  obtain ⟨d, rfl⟩ : ∃ e, d = e + 1 := ⟨d - 1, by omega⟩
  unfold Land_findNamed at h
  refine g_aload_n cd44_0 rfl rfl ?_
  refine g_getP cd44_1 rfl (O6.o h0) (show P a0 1 = some (a0 + 2) from O6.p1 h0) ?_
  refine g_aload_n cd44_4 rfl rfl ?_
  refine g_getI cd44_5 rfl (O6.o h0) ?_
  refine g_lload_n cd44_8 rfl rfl ?_
  obtain ⟨x1, hx, h⟩ := bnd h
  refine g_callSI (L := [some (.ref (a0 + 2)), some (.int (I a0 12)), some (.long l1), none, none]) cd44_9 rfl rfl rfl rfl rfl (t_Land_placeOf (by omega) (show S (a0 + 2) = (4, 10) from O6.s1 h0) hx) ?_
  exact g_iret cd44_12 (Or.inl rfl) (by obtain rfl := Option.some.inj h; rfl)
/-! HiddenOrLost$Tape.takeNumber(II)Z -/
theorem cd117_0 : code9 117 0 = some (0, .aload_n 0, [1], .null, []) := rfl
theorem cd117_1 : code9 117 1 = some (0, .getfield 42, [3, 10, 9, 0], .null, []) := rfl
theorem cd117_4 : code9 117 4 = some (0, .iconst 5, [1], .int 5, []) := rfl
theorem cd117_5 : code9 117 5 = some (0, .if_icmp .eq 9, [3, 14], .null, []) := rfl
theorem cd117_8 : code9 117 8 = some (0, .aload_n 0, [1], .null, []) := rfl
theorem cd117_9 : code9 117 9 = some (0, .iconst 1, [1], .int 1, []) := rfl
theorem cd117_10 : code9 117 10 = some (0, .invokevirtual 117, [3, 116, 2, 1, 3, 2, 10, 0], .null, []) := rfl
theorem cd117_13 : code9 117 13 = some (0, .ireturn, [1, 3], .null, []) := rfl
theorem cd117_14 : code9 117 14 = some (0, .aload_n 0, [1], .null, []) := rfl
theorem cd117_15 : code9 117 15 = some (0, .getfield 45, [3, 10, 10, 1], .null, []) := rfl
theorem cd117_18 : code9 117 18 = some (0, .iload_n 1, [1], .null, []) := rfl
theorem cd117_19 : code9 117 19 = some (0, .i2l, [1], .null, []) := rfl
theorem cd117_20 : code9 117 20 = some (0, .lcmp, [1], .null, []) := rfl
theorem cd117_21 : code9 117 21 = some (0, .ifCond .lt 13, [3, 34], .null, []) := rfl
theorem cd117_24 : code9 117 24 = some (0, .aload_n 0, [1], .null, []) := rfl
theorem cd117_25 : code9 117 25 = some (0, .getfield 45, [3, 10, 10, 1], .null, []) := rfl
theorem cd117_28 : code9 117 28 = some (0, .iload_n 2, [1], .null, []) := rfl
theorem cd117_29 : code9 117 29 = some (0, .i2l, [1], .null, []) := rfl
theorem cd117_30 : code9 117 30 = some (0, .lcmp, [1], .null, []) := rfl
theorem cd117_31 : code9 117 31 = some (0, .ifCond .le 9, [3, 40], .null, []) := rfl
theorem cd117_34 : code9 117 34 = some (4, .aload_n 0, [1], .null, []) := rfl
theorem cd117_35 : code9 117 35 = some (0, .iconst 2, [1], .int 2, []) := rfl
theorem cd117_36 : code9 117 36 = some (0, .invokevirtual 117, [3, 116, 2, 1, 3, 2, 10, 0], .null, []) := rfl
theorem cd117_39 : code9 117 39 = some (0, .ireturn, [1, 3], .null, []) := rfl
theorem cd117_40 : code9 117 40 = some (0, .aload_n 0, [1], .null, []) := rfl
theorem cd117_41 : code9 117 41 = some (0, .aload_n 0, [1], .null, []) := rfl
theorem cd117_42 : code9 117 42 = some (0, .getfield 45, [3, 10, 10, 1], .null, []) := rfl
theorem cd117_45 : code9 117 45 = some (0, .l2i, [1], .null, []) := rfl
theorem cd117_46 : code9 117 46 = some (0, .putfield 52, [3, 10, 12, 0], .null, []) := rfl
theorem cd117_49 : code9 117 49 = some (0, .aload_n 0, [1], .null, []) := rfl
theorem cd117_50 : code9 117 50 = some (0, .invokevirtual 94, [3, 114, 1, 1, 0, 1, 10, 0], .null, []) := rfl
theorem cd117_53 : code9 117 53 = some (0, .iconst 1, [1], .int 1, []) := rfl
theorem cd117_54 : code9 117 54 = some (0, .ireturn, [1, 3], .null, []) := rfl
def Tape_takeNumber (a0 : Nat) (l1 : Int32) (l2 : Int32) (I : FI) (J : FJ) : Option (Bool × FI × FJ) := if (I a0 9) = 5 then (if (J a0 10) < l1.toInt64 then (Option.bind (Tape_fail a0 2 I) fun x1 => (some (x1.1, x1.2, J))) else (if (J a0 10) ≤ l2.toInt64 then (Option.bind (some (up2 I a0 12 ((J a0 10).toInt32))) fun I2 => (Option.bind (Tape_step a0 I2 J) fun x3 => (some (true, x3.1, x3.2)))) else (Option.bind (Tape_fail a0 2 I) fun x4 => (some (x4.1, x4.2, J))))) else (Option.bind (Tape_fail a0 1 I) fun x5 => (some (x5.1, x5.2, J)))
set_option maxRecDepth 8000 in
theorem t_Tape_takeNumber {d : Nat} {a0 : Nat} {c : Nat × Nat} {S : Nat → Nat × Nat} {P : Nat → Nat → Option Nat} {I : FI} {J : FJ} {l1 : Int32} {l2 : Int32} {r : Bool × FI × FJ} (hd : 1 ≤ d) (h0 : O10 S P a0) (h : Tape_takeNumber a0 l1 l2 I J = some r) : Go d M_Tape_takeNumber 0 [some (.ref a0), some (.int l1), some (.int l2)] [] (c, S, I, J, P) (some (.int (b2i r.1)), false, (c, S, r.2.1, r.2.2, P)) := by
  obtain ⟨d, rfl⟩ : ∃ e, d = e + 1 := ⟨d - 1, by omega⟩
  unfold Tape_takeNumber at h
  refine g_aload_n cd117_0 rfl rfl ?_
  refine g_getI cd117_1 rfl (O10.o h0) ?_
  refine g_iconst cd117_4 rfl ?_
  refine g_icmp_eq cd117_5 rfl (fun hb => ?_) (fun hb => ?_)
  · have h := ifpE hb h
    refine g_aload_n cd117_14 rfl rfl ?_
    refine g_getJ cd117_15 rfl (O10.o h0) ?_
    refine g_iload_n cd117_18 rfl rfl ?_
    refine g_i2l cd117_19 rfl ?_
    refine g_lcmp cd117_20 rfl ?_
    refine g_if_lt cd117_21 rfl (fun hb => ?_) (fun hb => ?_)
    · have h := ifpE (lgc_lt.mp hb) h
      refine g_aload_n cd117_34 rfl rfl ?_
      refine g_iconst cd117_35 rfl ?_
      obtain ⟨x1, hx, h⟩ := bnd h
      refine g_callVZ (L := [some (.ref a0), some (.int 2)]) cd117_36 rfl rfl rfl rfl rfl (O10.o h0) (t_Tape_fail (by omega) h0 hx) ?_
      exact g_iret cd117_39 (Or.inr ⟨rfl, b2i_or _⟩) (by obtain rfl := Option.some.inj h; rfl)
    · have h := ifnE (fun q => hb (lgc_lt.mpr q)) h
      refine g_aload_n cd117_24 rfl rfl ?_
      refine g_getJ cd117_25 rfl (O10.o h0) ?_
      refine g_iload_n cd117_28 rfl rfl ?_
      refine g_i2l cd117_29 rfl ?_
      refine g_lcmp cd117_30 rfl ?_
      refine g_if_le cd117_31 rfl (fun hb => ?_) (fun hb => ?_)
      · have h := ifpE (lgc_le.mp hb) h
        refine g_aload_n cd117_40 rfl rfl ?_
        refine g_aload_n cd117_41 rfl rfl ?_
        refine g_getJ cd117_42 rfl (O10.o h0) ?_
        refine g_l2i cd117_45 rfl ?_
        obtain ⟨I2, e1, h⟩ := bnd h
        refine G_putI cd117_46 rfl (O10.o h0) (Option.some.inj e1) ?_
        refine g_aload_n cd117_49 rfl rfl ?_
        obtain ⟨x3, hx, h⟩ := bnd h
        refine g_callVV (L := [some (.ref a0)]) cd117_50 rfl rfl rfl rfl rfl (O10.o h0) (t_Tape_step (by omega) h0 hx) ?_
        refine g_iconst cd117_53 rfl ?_
        exact g_iret cd117_54 (Or.inr ⟨rfl, Or.inr rfl⟩) (by obtain rfl := Option.some.inj h; rfl)
      · have h := ifnE (fun q => hb (lgc_le.mpr q)) h
        refine g_aload_n cd117_34 rfl rfl ?_
        refine g_iconst cd117_35 rfl ?_
        obtain ⟨x4, hx, h⟩ := bnd h
        refine g_callVZ (L := [some (.ref a0), some (.int 2)]) cd117_36 rfl rfl rfl rfl rfl (O10.o h0) (t_Tape_fail (by omega) h0 hx) ?_
        exact g_iret cd117_39 (Or.inr ⟨rfl, b2i_or _⟩) (by obtain rfl := Option.some.inj h; rfl)
  · have h := ifnE hb h
    refine g_aload_n cd117_8 rfl rfl ?_
    refine g_iconst cd117_9 rfl ?_
    obtain ⟨x5, hx, h⟩ := bnd h
    refine g_callVZ (L := [some (.ref a0), some (.int 1)]) cd117_10 rfl rfl rfl rfl rfl (O10.o h0) (t_Tape_fail (by omega) h0 hx) ?_
    exact g_iret cd117_13 (Or.inr ⟨rfl, b2i_or _⟩) (by obtain rfl := Option.some.inj h; rfl)
/-! HiddenOrLost$Book.readWork(LHiddenOrLost$Tape;)Z -/
theorem cd12_0 : code9 12 0 = some (0, .aload_n 0, [1], .null, []) := rfl
theorem cd12_1 : code9 12 1 = some (0, .getfield 9, [3, 1, 0, 2], .null, []) := rfl
theorem cd12_4 : code9 12 4 = some (0, .aload_n 0, [1], .null, []) := rfl
theorem cd12_5 : code9 12 5 = some (0, .getfield 24, [3, 1, 4, 0], .null, []) := rfl
theorem cd12_8 : code9 12 8 = some (0, .aload_n 1, [1], .null, []) := rfl
theorem cd12_9 : code9 12 9 = some (0, .getfield 84, [3, 10, 11, 0], .null, []) := rfl
theorem cd12_12 : code9 12 12 = some (0, .iastore, [1], .null, []) := rfl
theorem cd12_13 : code9 12 13 = some (0, .aload_n 1, [1], .null, []) := rfl
theorem cd12_14 : code9 12 14 = some (0, .getfield 84, [3, 10, 11, 0], .null, []) := rfl
theorem cd12_17 : code9 12 17 = some (0, .bipush 23, [2], .int 23, []) := rfl
theorem cd12_19 : code9 12 19 = some (0, .if_icmp .ne 7, [3, 26], .null, []) := rfl
theorem cd12_22 : code9 12 22 = some (0, .iconst 1, [1], .int 1, []) := rfl
theorem cd12_23 : code9 12 23 = some (0, .goto 4, [3, 27, 2], .null, []) := rfl
theorem cd12_26 : code9 12 26 = some (0, .iconst 0, [1], .int 0, []) := rfl
theorem cd12_27 : code9 12 27 = some (3, .istore_n 2, [1], .null, []) := rfl
theorem cd12_28 : code9 12 28 = some (0, .aload_n 1, [1], .null, []) := rfl
theorem cd12_29 : code9 12 29 = some (0, .invokevirtual 75, [3, 114, 1, 1, 0, 1, 10, 0], .null, []) := rfl
theorem cd12_32 : code9 12 32 = some (0, .aload_n 1, [1], .null, []) := rfl
theorem cd12_33 : code9 12 33 = some (0, .iload_n 2, [1], .null, []) := rfl
theorem cd12_34 : code9 12 34 = some (0, .ifCond .eq 7, [3, 41], .null, []) := rfl
theorem cd12_37 : code9 12 37 = some (0, .iconst 0, [1], .int 0, []) := rfl
theorem cd12_38 : code9 12 38 = some (0, .goto 4, [3, 42, 3], .null, []) := rfl
theorem cd12_41 : code9 12 41 = some (0, .iconst 1, [1], .int 1, []) := rfl
theorem cd12_42 : code9 12 42 = some (4, .iload_n 2, [1], .null, []) := rfl
theorem cd12_43 : code9 12 43 = some (0, .ifCond .eq 9, [3, 52], .null, []) := rfl
theorem cd12_46 : code9 12 46 = some (0, .sipush 999, [3], .int 999, []) := rfl
theorem cd12_49 : code9 12 49 = some (0, .goto 5, [3, 54, 3], .null, []) := rfl
theorem cd12_52 : code9 12 52 = some (0, .bipush 30, [2], .int 30, []) := rfl
theorem cd12_54 : code9 12 54 = some (4, .invokevirtual 87, [3, 117, 3, 1, 3, 3, 10, 0], .null, []) := rfl
theorem cd12_57 : code9 12 57 = some (0, .ifCond .ne 5, [3, 62], .null, []) := rfl
theorem cd12_60 : code9 12 60 = some (0, .iconst 0, [1], .int 0, []) := rfl
theorem cd12_61 : code9 12 61 = some (0, .ireturn, [1, 3], .null, []) := rfl
theorem cd12_62 : code9 12 62 = some (0, .aload_n 0, [1], .null, []) := rfl
theorem cd12_63 : code9 12 63 = some (0, .getfield 15, [3, 1, 1, 2], .null, []) := rfl
theorem cd12_66 : code9 12 66 = some (0, .aload_n 0, [1], .null, []) := rfl
theorem cd12_67 : code9 12 67 = some (0, .getfield 24, [3, 1, 4, 0], .null, []) := rfl
theorem cd12_70 : code9 12 70 = some (0, .aload_n 1, [1], .null, []) := rfl
theorem cd12_71 : code9 12 71 = some (0, .getfield 91, [3, 10, 12, 0], .null, []) := rfl
theorem cd12_74 : code9 12 74 = some (0, .iastore, [1], .null, []) := rfl
theorem cd12_75 : code9 12 75 = some (0, .iconst 1, [1], .int 1, []) := rfl
theorem cd12_76 : code9 12 76 = some (0, .ireturn, [1, 3], .null, []) := rfl
def Book_readWork (a0 a1 : Nat) (I : FI) (J : FJ) : Option (Bool × FI × FJ) := if in9 (I a0 4) 40 then (Option.bind (some (up2 I (a0 + 1) ((I a0 4).toNatClampNeg) (I a1 11))) fun I2 => (if (I2 a1 11) = 23 then (Option.bind (Tape_step a1 I2 J) fun x3 => (Option.bind (Tape_takeNumber a1 0 999 x3.1 x3.2) fun x4 => (if x4.1 then (if in9 (x4.2.1 a0 4) 40 then (Option.bind (some (up2 x4.2.1 (a0 + 2) ((x4.2.1 a0 4).toNatClampNeg) (x4.2.1 a1 12))) fun I6 => (some (true, I6, x4.2.2))) else none) else (some (false, x4.2.1, x4.2.2))))) else (Option.bind (Tape_step a1 I2 J) fun x7 => (Option.bind (Tape_takeNumber a1 1 30 x7.1 x7.2) fun x8 => (if x8.1 then (if in9 (x8.2.1 a0 4) 40 then (Option.bind (some (up2 x8.2.1 (a0 + 2) ((x8.2.1 a0 4).toNatClampNeg) (x8.2.1 a1 12))) fun I10 => (some (true, I10, x8.2.2))) else none) else (some (false, x8.2.1, x8.2.2))))))) else none
set_option maxRecDepth 8000 in
theorem t_Book_readWork {d : Nat} {a0 a1 : Nat} {c : Nat × Nat} {S : Nat → Nat × Nat} {P : Nat → Nat → Option Nat} {I : FI} {J : FJ} {r : Bool × FI × FJ} (hd : 2 ≤ d) (h0 : O1 S P a0) (h1 : O10 S P a1) (h : Book_readWork a0 a1 I J = some r) : Go d M_Book_readWork 0 [some (.ref a0), some (.ref a1), none] [] (c, S, I, J, P) (some (.int (b2i r.1)), false, (c, S, r.2.1, r.2.2, P)) := by
  obtain ⟨d, rfl⟩ : ∃ e, d = e + 1 := ⟨d - 1, by omega⟩
  unfold Book_readWork at h
  refine g_aload_n cd12_0 rfl rfl ?_
  refine g_getP cd12_1 rfl (O1.o h0) (show P a0 0 = some (a0 + 1) from O1.p0 h0) ?_
  refine g_aload_n cd12_4 rfl rfl ?_
  refine g_getI cd12_5 rfl (O1.o h0) ?_
  refine g_aload_n cd12_8 rfl rfl ?_
  refine g_getI cd12_9 rfl (O10.o h1) ?_
  obtain ⟨hg1, h⟩ := grd h
  obtain ⟨I2, e1, h⟩ := bnd h
  refine G_iast cd12_12 rfl (show S (a0 + 1) = (1, 40) from O1.s0 h0) hg1 (Option.some.inj e1) ?_
  refine g_aload_n cd12_13 rfl rfl ?_
  refine g_getI cd12_14 rfl (O10.o h1) ?_
  refine g_bipush cd12_17 rfl ?_
  refine g_icmp_ne cd12_19 rfl (fun hb => ?_) (fun hb => ?_)
  · have h := ifpE hb h
    refine g_iconst cd12_22 rfl ?_
    refine g_goto (ls2 := [some (.ref a0), some (.ref a1), none]) cd12_23 rfl rfl ?_
    refine g_istore_n (ls2 := [some (.ref a0), some (.ref a1), some (.int 1)]) cd12_27 rfl rfl ?_
    refine g_aload_n cd12_28 rfl rfl ?_
    obtain ⟨x3, hx, h⟩ := bnd h
    refine g_callVV (L := [some (.ref a1)]) cd12_29 rfl rfl rfl rfl rfl (O10.o h1) (t_Tape_step (by omega) h1 hx) ?_
    refine g_aload_n cd12_32 rfl rfl ?_
    refine g_iload_n cd12_33 rfl rfl ?_
    refine g_if_eq cd12_34 rfl (fun hb => ?_) (fun hb => ?_)
    · exact absurd hb (by decide)
    refine g_iconst cd12_37 rfl ?_
    refine g_goto (ls2 := [some (.ref a0), some (.ref a1), some (.int 1)]) cd12_38 rfl rfl ?_
    refine g_iload_n cd12_42 rfl rfl ?_
    refine g_if_eq cd12_43 rfl (fun hb => ?_) (fun hb => ?_)
    · exact absurd hb (by decide)
    refine g_sipush cd12_46 rfl ?_
    refine g_goto (ls2 := [some (.ref a0), some (.ref a1), some (.int 1)]) cd12_49 rfl rfl ?_
    obtain ⟨x4, hx, h⟩ := bnd h
    refine g_callVZ (L := [some (.ref a1), some (.int 0), some (.int 999)]) cd12_54 rfl rfl rfl rfl rfl (O10.o h1) (t_Tape_takeNumber (by omega) h1 hx) ?_
    refine g_if_ne cd12_57 rfl (fun hb => ?_) (fun hb => ?_)
    · have h := ifnE (b2i_f hb) h
      refine g_iconst cd12_60 rfl ?_
      exact g_iret cd12_61 (Or.inr ⟨rfl, Or.inl rfl⟩) (by obtain rfl := Option.some.inj h; rfl)
    · have h := ifpE (b2i_t hb) h
      refine g_aload_n cd12_62 rfl rfl ?_
      refine g_getP cd12_63 rfl (O1.o h0) (show P a0 1 = some (a0 + 2) from O1.p1 h0) ?_
      refine g_aload_n cd12_66 rfl rfl ?_
      refine g_getI cd12_67 rfl (O1.o h0) ?_
      refine g_aload_n cd12_70 rfl rfl ?_
      refine g_getI cd12_71 rfl (O10.o h1) ?_
      obtain ⟨hg5, h⟩ := grd h
      obtain ⟨I6, e1, h⟩ := bnd h
      refine G_iast cd12_74 rfl (show S (a0 + 2) = (1, 40) from O1.s1 h0) hg5 (Option.some.inj e1) ?_
      refine g_iconst cd12_75 rfl ?_
      exact g_iret cd12_76 (Or.inr ⟨rfl, Or.inr rfl⟩) (by obtain rfl := Option.some.inj h; rfl)
  · have h := ifnE hb h
    refine g_iconst cd12_26 rfl ?_
    refine g_istore_n (ls2 := [some (.ref a0), some (.ref a1), some (.int 0)]) cd12_27 rfl rfl ?_
    refine g_aload_n cd12_28 rfl rfl ?_
    obtain ⟨x7, hx, h⟩ := bnd h
    refine g_callVV (L := [some (.ref a1)]) cd12_29 rfl rfl rfl rfl rfl (O10.o h1) (t_Tape_step (by omega) h1 hx) ?_
    refine g_aload_n cd12_32 rfl rfl ?_
    refine g_iload_n cd12_33 rfl rfl ?_
    refine g_if_eq cd12_34 rfl (fun hb => ?_) (fun hb => ?_)
    rotate_left
    · exact absurd (by decide) hb
    refine g_iconst cd12_41 rfl ?_
    refine g_iload_n cd12_42 rfl rfl ?_
    refine g_if_eq cd12_43 rfl (fun hb => ?_) (fun hb => ?_)
    rotate_left
    · exact absurd (by decide) hb
    refine g_bipush cd12_52 rfl ?_
    obtain ⟨x8, hx, h⟩ := bnd h
    refine g_callVZ (L := [some (.ref a1), some (.int 1), some (.int 30)]) cd12_54 rfl rfl rfl rfl rfl (O10.o h1) (t_Tape_takeNumber (by omega) h1 hx) ?_
    refine g_if_ne cd12_57 rfl (fun hb => ?_) (fun hb => ?_)
    · have h := ifnE (b2i_f hb) h
      refine g_iconst cd12_60 rfl ?_
      exact g_iret cd12_61 (Or.inr ⟨rfl, Or.inl rfl⟩) (by obtain rfl := Option.some.inj h; rfl)
    · have h := ifpE (b2i_t hb) h
      refine g_aload_n cd12_62 rfl rfl ?_
      refine g_getP cd12_63 rfl (O1.o h0) (show P a0 1 = some (a0 + 2) from O1.p1 h0) ?_
      refine g_aload_n cd12_66 rfl rfl ?_
      refine g_getI cd12_67 rfl (O1.o h0) ?_
      refine g_aload_n cd12_70 rfl rfl ?_
      refine g_getI cd12_71 rfl (O10.o h1) ?_
      obtain ⟨hg9, h⟩ := grd h
      obtain ⟨I10, e1, h⟩ := bnd h
      refine G_iast cd12_74 rfl (show S (a0 + 2) = (1, 40) from O1.s1 h0) hg9 (Option.some.inj e1) ?_
      refine g_iconst cd12_75 rfl ?_
      exact g_iret cd12_76 (Or.inr ⟨rfl, Or.inr rfl⟩) (by obtain rfl := Option.some.inj h; rfl)
/-! HiddenOrLost$Tape.isAmong(II)Z -/
theorem cd115_0 : code9 115 0 = some (0, .aload_n 0, [1], .null, []) := rfl
theorem cd115_1 : code9 115 1 = some (0, .getfield 49, [3, 10, 11, 0], .null, []) := rfl
theorem cd115_4 : code9 115 4 = some (0, .iload_n 1, [1], .null, []) := rfl
theorem cd115_5 : code9 115 5 = some (0, .if_icmp .lt 17, [3, 22], .null, []) := rfl
theorem cd115_8 : code9 115 8 = some (0, .aload_n 0, [1], .null, []) := rfl
theorem cd115_9 : code9 115 9 = some (0, .getfield 49, [3, 10, 11, 0], .null, []) := rfl
theorem cd115_12 : code9 115 12 = some (0, .iload_n 1, [1], .null, []) := rfl
theorem cd115_13 : code9 115 13 = some (0, .iload_n 2, [1], .null, []) := rfl
theorem cd115_14 : code9 115 14 = some (0, .iadd, [1], .null, []) := rfl
theorem cd115_15 : code9 115 15 = some (0, .if_icmp .ge 7, [3, 22], .null, []) := rfl
theorem cd115_18 : code9 115 18 = some (0, .iconst 1, [1], .int 1, []) := rfl
theorem cd115_19 : code9 115 19 = some (0, .goto 4, [3, 23, 3], .null, []) := rfl
theorem cd115_22 : code9 115 22 = some (4, .iconst 0, [1], .int 0, []) := rfl
theorem cd115_23 : code9 115 23 = some (4, .ireturn, [1, 3], .null, []) := rfl
def Tape_isAmong (a0 : Nat) (l1 : Int32) (l2 : Int32) (I : FI) : Bool := if (I a0 11) < l1 then (false) else (if (l1 + l2) ≤ (I a0 11) then (false) else (true))
set_option maxRecDepth 8000 in
theorem t_Tape_isAmong {d : Nat} {a0 : Nat} {c : Nat × Nat} {S : Nat → Nat × Nat} {P : Nat → Nat → Option Nat} {I : FI} {J : FJ} {l1 : Int32} {l2 : Int32} {r : Bool} (hd : 0 ≤ d) (h0 : O10 S P a0) (h : Tape_isAmong a0 l1 l2 I = r) : Go d M_Tape_isAmong 0 [some (.ref a0), some (.int l1), some (.int l2)] [] (c, S, I, J, P) (some (.int (b2i r)), false, (c, S, I, J, P)) := by
  unfold Tape_isAmong at h
  refine g_aload_n cd115_0 rfl rfl ?_
  refine g_getI cd115_1 rfl (O10.o h0) ?_
  refine g_iload_n cd115_4 rfl rfl ?_
  refine g_icmp_lt cd115_5 rfl (fun hb => ?_) (fun hb => ?_)
  · have h := ifpE hb h
    refine g_iconst cd115_22 rfl ?_
    exact g_iret cd115_23 (Or.inr ⟨rfl, Or.inl rfl⟩) (by subst h; rfl)
  · have h := ifnE hb h
    refine g_aload_n cd115_8 rfl rfl ?_
    refine g_getI cd115_9 rfl (O10.o h0) ?_
    refine g_iload_n cd115_12 rfl rfl ?_
    refine g_iload_n cd115_13 rfl rfl ?_
    refine g_iadd cd115_14 rfl ?_
    refine g_icmp_ge cd115_15 rfl (fun hb => ?_) (fun hb => ?_)
    · have h := ifpE hb h
      refine g_iconst cd115_22 rfl ?_
      exact g_iret cd115_23 (Or.inr ⟨rfl, Or.inl rfl⟩) (by subst h; rfl)
    · have h := ifnE hb h
      refine g_iconst cd115_18 rfl ?_
      refine g_goto (ls2 := [some (.ref a0), some (.int l1), some (.int l2)]) cd115_19 rfl rfl ?_
      exact g_iret cd115_23 (Or.inr ⟨rfl, Or.inr rfl⟩) (by subst h; rfl)
/-! HiddenOrLost$Tape.takeAmong(II)Z -/
theorem cd119_0 : code9 119 0 = some (0, .aload_n 0, [1], .null, []) := rfl
theorem cd119_1 : code9 119 1 = some (0, .iload_n 1, [1], .null, []) := rfl
theorem cd119_2 : code9 119 2 = some (0, .iload_n 2, [1], .null, []) := rfl
theorem cd119_3 : code9 119 3 = some (0, .invokevirtual 120, [3, 115, 3, 1, 3, 3, 10, 0], .null, []) := rfl
theorem cd119_6 : code9 119 6 = some (0, .ifCond .ne 9, [3, 15], .null, []) := rfl
theorem cd119_9 : code9 119 9 = some (0, .aload_n 0, [1], .null, []) := rfl
theorem cd119_10 : code9 119 10 = some (0, .iconst 1, [1], .int 1, []) := rfl
theorem cd119_11 : code9 119 11 = some (0, .invokevirtual 117, [3, 116, 2, 1, 3, 2, 10, 0], .null, []) := rfl
theorem cd119_14 : code9 119 14 = some (0, .ireturn, [1, 3], .null, []) := rfl
theorem cd119_15 : code9 119 15 = some (0, .aload_n 0, [1], .null, []) := rfl
theorem cd119_16 : code9 119 16 = some (0, .aload_n 0, [1], .null, []) := rfl
theorem cd119_17 : code9 119 17 = some (0, .getfield 49, [3, 10, 11, 0], .null, []) := rfl
theorem cd119_20 : code9 119 20 = some (0, .iload_n 1, [1], .null, []) := rfl
theorem cd119_21 : code9 119 21 = some (0, .isub, [1], .null, []) := rfl
theorem cd119_22 : code9 119 22 = some (0, .putfield 52, [3, 10, 12, 0], .null, []) := rfl
theorem cd119_25 : code9 119 25 = some (0, .aload_n 0, [1], .null, []) := rfl
theorem cd119_26 : code9 119 26 = some (0, .invokevirtual 94, [3, 114, 1, 1, 0, 1, 10, 0], .null, []) := rfl
theorem cd119_29 : code9 119 29 = some (0, .iconst 1, [1], .int 1, []) := rfl
theorem cd119_30 : code9 119 30 = some (0, .ireturn, [1, 3], .null, []) := rfl
def Tape_takeAmong (a0 : Nat) (l1 : Int32) (l2 : Int32) (I : FI) (J : FJ) : Option (Bool × FI × FJ) := if (Tape_isAmong a0 l1 l2 I) then (Option.bind (some (up2 I a0 12 ((I a0 11) - l1))) fun I2 => (Option.bind (Tape_step a0 I2 J) fun x3 => (some (true, x3.1, x3.2)))) else (Option.bind (Tape_fail a0 1 I) fun x1 => (some (x1.1, x1.2, J)))
set_option maxRecDepth 8000 in
theorem t_Tape_takeAmong {d : Nat} {a0 : Nat} {c : Nat × Nat} {S : Nat → Nat × Nat} {P : Nat → Nat → Option Nat} {I : FI} {J : FJ} {l1 : Int32} {l2 : Int32} {r : Bool × FI × FJ} (hd : 1 ≤ d) (h0 : O10 S P a0) (h : Tape_takeAmong a0 l1 l2 I J = some r) : Go d M_Tape_takeAmong 0 [some (.ref a0), some (.int l1), some (.int l2)] [] (c, S, I, J, P) (some (.int (b2i r.1)), false, (c, S, r.2.1, r.2.2, P)) := by
  obtain ⟨d, rfl⟩ : ∃ e, d = e + 1 := ⟨d - 1, by omega⟩
  unfold Tape_takeAmong at h
  refine g_aload_n cd119_0 rfl rfl ?_
  refine g_iload_n cd119_1 rfl rfl ?_
  refine g_iload_n cd119_2 rfl rfl ?_
  refine g_callVZ (L := [some (.ref a0), some (.int l1), some (.int l2)]) cd119_3 rfl rfl rfl rfl rfl (O10.o h0) (t_Tape_isAmong (by omega) h0 rfl) ?_
  refine g_if_ne cd119_6 rfl (fun hb => ?_) (fun hb => ?_)
  · have h := ifnE (b2i_f hb) h
    refine g_aload_n cd119_9 rfl rfl ?_
    refine g_iconst cd119_10 rfl ?_
    obtain ⟨x1, hx, h⟩ := bnd h
    refine g_callVZ (L := [some (.ref a0), some (.int 1)]) cd119_11 rfl rfl rfl rfl rfl (O10.o h0) (t_Tape_fail (by omega) h0 hx) ?_
    exact g_iret cd119_14 (Or.inr ⟨rfl, b2i_or _⟩) (by obtain rfl := Option.some.inj h; rfl)
  · have h := ifpE (b2i_t hb) h
    refine g_aload_n cd119_15 rfl rfl ?_
    refine g_aload_n cd119_16 rfl rfl ?_
    refine g_getI cd119_17 rfl (O10.o h0) ?_
    refine g_iload_n cd119_20 rfl rfl ?_
    refine g_isub cd119_21 rfl ?_
    obtain ⟨I2, e1, h⟩ := bnd h
    refine G_putI cd119_22 rfl (O10.o h0) (Option.some.inj e1) ?_
    refine g_aload_n cd119_25 rfl rfl ?_
    obtain ⟨x3, hx, h⟩ := bnd h
    refine g_callVV (L := [some (.ref a0)]) cd119_26 rfl rfl rfl rfl rfl (O10.o h0) (t_Tape_step (by omega) h0 hx) ?_
    refine g_iconst cd119_29 rfl ?_
    exact g_iret cd119_30 (Or.inr ⟨rfl, Or.inr rfl⟩) (by obtain rfl := Option.some.inj h; rfl)
/-! HiddenOrLost$Book.readCell(LHiddenOrLost$Tape;)Z -/
theorem cd14_0 : code9 14 0 = some (0, .aload_n 1, [1], .null, []) := rfl
theorem cd14_1 : code9 14 1 = some (0, .iconst 0, [1], .int 0, []) := rfl
theorem cd14_2 : code9 14 2 = some (0, .iconst 5, [1], .int 5, []) := rfl
theorem cd14_3 : code9 14 3 = some (0, .invokevirtual 87, [3, 117, 3, 1, 3, 3, 10, 0], .null, []) := rfl
theorem cd14_6 : code9 14 6 = some (0, .ifCond .ne 5, [3, 11], .null, []) := rfl
theorem cd14_9 : code9 14 9 = some (0, .iconst 0, [1], .int 0, []) := rfl
theorem cd14_10 : code9 14 10 = some (0, .ireturn, [1, 3], .null, []) := rfl
theorem cd14_11 : code9 14 11 = some (0, .aload_n 0, [1], .null, []) := rfl
theorem cd14_12 : code9 14 12 = some (0, .getfield 18, [3, 1, 2, 2], .null, []) := rfl
theorem cd14_15 : code9 14 15 = some (0, .aload_n 0, [1], .null, []) := rfl
theorem cd14_16 : code9 14 16 = some (0, .getfield 24, [3, 1, 4, 0], .null, []) := rfl
theorem cd14_19 : code9 14 19 = some (0, .aload_n 1, [1], .null, []) := rfl
theorem cd14_20 : code9 14 20 = some (0, .getfield 91, [3, 10, 12, 0], .null, []) := rfl
theorem cd14_23 : code9 14 23 = some (0, .iastore, [1], .null, []) := rfl
theorem cd14_24 : code9 14 24 = some (0, .aload_n 1, [1], .null, []) := rfl
theorem cd14_25 : code9 14 25 = some (0, .iconst 0, [1], .int 0, []) := rfl
theorem cd14_26 : code9 14 26 = some (0, .iconst 5, [1], .int 5, []) := rfl
theorem cd14_27 : code9 14 27 = some (0, .invokevirtual 87, [3, 117, 3, 1, 3, 3, 10, 0], .null, []) := rfl
theorem cd14_30 : code9 14 30 = some (0, .ifCond .ne 5, [3, 35], .null, []) := rfl
theorem cd14_33 : code9 14 33 = some (0, .iconst 0, [1], .int 0, []) := rfl
theorem cd14_34 : code9 14 34 = some (0, .ireturn, [1, 3], .null, []) := rfl
theorem cd14_35 : code9 14 35 = some (0, .aload_n 0, [1], .null, []) := rfl
theorem cd14_36 : code9 14 36 = some (0, .getfield 21, [3, 1, 3, 2], .null, []) := rfl
theorem cd14_39 : code9 14 39 = some (0, .aload_n 0, [1], .null, []) := rfl
theorem cd14_40 : code9 14 40 = some (0, .getfield 24, [3, 1, 4, 0], .null, []) := rfl
theorem cd14_43 : code9 14 43 = some (0, .aload_n 1, [1], .null, []) := rfl
theorem cd14_44 : code9 14 44 = some (0, .getfield 91, [3, 10, 12, 0], .null, []) := rfl
theorem cd14_47 : code9 14 47 = some (0, .iastore, [1], .null, []) := rfl
theorem cd14_48 : code9 14 48 = some (0, .iconst 1, [1], .int 1, []) := rfl
theorem cd14_49 : code9 14 49 = some (0, .ireturn, [1, 3], .null, []) := rfl
def Book_readCell (a0 a1 : Nat) (I : FI) (J : FJ) : Option (Bool × FI × FJ) := Option.bind (Tape_takeNumber a1 0 5 I J) fun x1 => (if x1.1 then (if in9 (x1.2.1 a0 4) 40 then (Option.bind (some (up2 x1.2.1 (a0 + 3) ((x1.2.1 a0 4).toNatClampNeg) (x1.2.1 a1 12))) fun I3 => (Option.bind (Tape_takeNumber a1 0 5 I3 x1.2.2) fun x4 => (if x4.1 then (if in9 (x4.2.1 a0 4) 40 then (Option.bind (some (up2 x4.2.1 (a0 + 4) ((x4.2.1 a0 4).toNatClampNeg) (x4.2.1 a1 12))) fun I6 => (some (true, I6, x4.2.2))) else none) else (some (false, x4.2.1, x4.2.2))))) else none) else (some (false, x1.2.1, x1.2.2)))
set_option maxRecDepth 8000 in
theorem t_Book_readCell {d : Nat} {a0 a1 : Nat} {c : Nat × Nat} {S : Nat → Nat × Nat} {P : Nat → Nat → Option Nat} {I : FI} {J : FJ} {r : Bool × FI × FJ} (hd : 2 ≤ d) (h0 : O1 S P a0) (h1 : O10 S P a1) (h : Book_readCell a0 a1 I J = some r) : Go d M_Book_readCell 0 [some (.ref a0), some (.ref a1)] [] (c, S, I, J, P) (some (.int (b2i r.1)), false, (c, S, r.2.1, r.2.2, P)) := by
  obtain ⟨d, rfl⟩ : ∃ e, d = e + 1 := ⟨d - 1, by omega⟩
  unfold Book_readCell at h
  refine g_aload_n cd14_0 rfl rfl ?_
  refine g_iconst cd14_1 rfl ?_
  refine g_iconst cd14_2 rfl ?_
  obtain ⟨x1, hx, h⟩ := bnd h
  refine g_callVZ (L := [some (.ref a1), some (.int 0), some (.int 5)]) cd14_3 rfl rfl rfl rfl rfl (O10.o h1) (t_Tape_takeNumber (by omega) h1 hx) ?_
  refine g_if_ne cd14_6 rfl (fun hb => ?_) (fun hb => ?_)
  · have h := ifnE (b2i_f hb) h
    refine g_iconst cd14_9 rfl ?_
    exact g_iret cd14_10 (Or.inr ⟨rfl, Or.inl rfl⟩) (by obtain rfl := Option.some.inj h; rfl)
  · have h := ifpE (b2i_t hb) h
    refine g_aload_n cd14_11 rfl rfl ?_
    refine g_getP cd14_12 rfl (O1.o h0) (show P a0 2 = some (a0 + 3) from O1.p2 h0) ?_
    refine g_aload_n cd14_15 rfl rfl ?_
    refine g_getI cd14_16 rfl (O1.o h0) ?_
    refine g_aload_n cd14_19 rfl rfl ?_
    refine g_getI cd14_20 rfl (O10.o h1) ?_
    obtain ⟨hg2, h⟩ := grd h
    obtain ⟨I3, e1, h⟩ := bnd h
    refine G_iast cd14_23 rfl (show S (a0 + 3) = (1, 40) from O1.s2 h0) hg2 (Option.some.inj e1) ?_
    refine g_aload_n cd14_24 rfl rfl ?_
    refine g_iconst cd14_25 rfl ?_
    refine g_iconst cd14_26 rfl ?_
    obtain ⟨x4, hx, h⟩ := bnd h
    refine g_callVZ (L := [some (.ref a1), some (.int 0), some (.int 5)]) cd14_27 rfl rfl rfl rfl rfl (O10.o h1) (t_Tape_takeNumber (by omega) h1 hx) ?_
    refine g_if_ne cd14_30 rfl (fun hb => ?_) (fun hb => ?_)
    · have h := ifnE (b2i_f hb) h
      refine g_iconst cd14_33 rfl ?_
      exact g_iret cd14_34 (Or.inr ⟨rfl, Or.inl rfl⟩) (by obtain rfl := Option.some.inj h; rfl)
    · have h := ifpE (b2i_t hb) h
      refine g_aload_n cd14_35 rfl rfl ?_
      refine g_getP cd14_36 rfl (O1.o h0) (show P a0 3 = some (a0 + 4) from O1.p3 h0) ?_
      refine g_aload_n cd14_39 rfl rfl ?_
      refine g_getI cd14_40 rfl (O1.o h0) ?_
      refine g_aload_n cd14_43 rfl rfl ?_
      refine g_getI cd14_44 rfl (O10.o h1) ?_
      obtain ⟨hg5, h⟩ := grd h
      obtain ⟨I6, e1, h⟩ := bnd h
      refine G_iast cd14_47 rfl (show S (a0 + 4) = (1, 40) from O1.s3 h0) hg5 (Option.some.inj e1) ?_
      refine g_iconst cd14_48 rfl ?_
      exact g_iret cd14_49 (Or.inr ⟨rfl, Or.inr rfl⟩) (by obtain rfl := Option.some.inj h; rfl)
/-! HiddenOrLost$Book.readDigging(LHiddenOrLost$Tape;)Z -/
theorem cd13_0 : code9 13 0 = some (0, .aload_n 0, [1], .null, []) := rfl
theorem cd13_1 : code9 13 1 = some (0, .getfield 9, [3, 1, 0, 2], .null, []) := rfl
theorem cd13_4 : code9 13 4 = some (0, .aload_n 0, [1], .null, []) := rfl
theorem cd13_5 : code9 13 5 = some (0, .getfield 24, [3, 1, 4, 0], .null, []) := rfl
theorem cd13_8 : code9 13 8 = some (0, .bipush 18, [2], .int 18, []) := rfl
theorem cd13_10 : code9 13 10 = some (0, .iastore, [1], .null, []) := rfl
theorem cd13_11 : code9 13 11 = some (0, .aload_n 1, [1], .null, []) := rfl
theorem cd13_12 : code9 13 12 = some (0, .bipush 18, [2], .int 18, []) := rfl
theorem cd13_14 : code9 13 14 = some (0, .iconst 1, [1], .int 1, []) := rfl
theorem cd13_15 : code9 13 15 = some (0, .invokevirtual 94, [3, 119, 3, 1, 3, 3, 10, 0], .null, []) := rfl
theorem cd13_18 : code9 13 18 = some (0, .ifCond .eq 15, [3, 33], .null, []) := rfl
theorem cd13_21 : code9 13 21 = some (0, .aload_n 0, [1], .null, []) := rfl
theorem cd13_22 : code9 13 22 = some (0, .aload_n 1, [1], .null, []) := rfl
theorem cd13_23 : code9 13 23 = some (0, .invokevirtual 97, [3, 14, 2, 1, 3, 2, 1, 0], .null, []) := rfl
theorem cd13_26 : code9 13 26 = some (0, .ifCond .eq 7, [3, 33], .null, []) := rfl
theorem cd13_29 : code9 13 29 = some (0, .iconst 1, [1], .int 1, []) := rfl
theorem cd13_30 : code9 13 30 = some (0, .goto 4, [3, 34, 2], .null, []) := rfl
theorem cd13_33 : code9 13 33 = some (3, .iconst 0, [1], .int 0, []) := rfl
theorem cd13_34 : code9 13 34 = some (3, .ireturn, [1, 3], .null, []) := rfl
def Book_readDigging (a0 a1 : Nat) (I : FI) (J : FJ) : Option (Bool × FI × FJ) := if in9 (I a0 4) 40 then (Option.bind (some (up2 I (a0 + 1) ((I a0 4).toNatClampNeg) (18 : Int32))) fun I2 => (Option.bind (Tape_takeAmong a1 18 1 I2 J) fun x3 => (if x3.1 then (Option.bind (Book_readCell a0 a1 x3.2.1 x3.2.2) fun x4 => (if x4.1 then (some (true, x4.2.1, x4.2.2)) else (some (false, x4.2.1, x4.2.2)))) else (some (false, x3.2.1, x3.2.2))))) else none
set_option maxRecDepth 8000 in
theorem t_Book_readDigging {d : Nat} {a0 a1 : Nat} {c : Nat × Nat} {S : Nat → Nat × Nat} {P : Nat → Nat → Option Nat} {I : FI} {J : FJ} {r : Bool × FI × FJ} (hd : 3 ≤ d) (h0 : O1 S P a0) (h1 : O10 S P a1) (h : Book_readDigging a0 a1 I J = some r) : Go d M_Book_readDigging 0 [some (.ref a0), some (.ref a1)] [] (c, S, I, J, P) (some (.int (b2i r.1)), false, (c, S, r.2.1, r.2.2, P)) := by
  obtain ⟨d, rfl⟩ : ∃ e, d = e + 1 := ⟨d - 1, by omega⟩
  unfold Book_readDigging at h
  refine g_aload_n cd13_0 rfl rfl ?_
  refine g_getP cd13_1 rfl (O1.o h0) (show P a0 0 = some (a0 + 1) from O1.p0 h0) ?_
  refine g_aload_n cd13_4 rfl rfl ?_
  refine g_getI cd13_5 rfl (O1.o h0) ?_
  refine g_bipush cd13_8 rfl ?_
  obtain ⟨hg1, h⟩ := grd h
  obtain ⟨I2, e1, h⟩ := bnd h
  refine G_iast cd13_10 rfl (show S (a0 + 1) = (1, 40) from O1.s0 h0) hg1 (Option.some.inj e1) ?_
  refine g_aload_n cd13_11 rfl rfl ?_
  refine g_bipush cd13_12 rfl ?_
  refine g_iconst cd13_14 rfl ?_
  obtain ⟨x3, hx, h⟩ := bnd h
  refine g_callVZ (L := [some (.ref a1), some (.int 18), some (.int 1)]) cd13_15 rfl rfl rfl rfl rfl (O10.o h1) (t_Tape_takeAmong (by omega) h1 hx) ?_
  refine g_if_eq cd13_18 rfl (fun hb => ?_) (fun hb => ?_)
  · have h := ifnE (b2i_f hb) h
    refine g_iconst cd13_33 rfl ?_
    exact g_iret cd13_34 (Or.inr ⟨rfl, Or.inl rfl⟩) (by obtain rfl := Option.some.inj h; rfl)
  · have h := ifpE (b2i_t hb) h
    refine g_aload_n cd13_21 rfl rfl ?_
    refine g_aload_n cd13_22 rfl rfl ?_
    obtain ⟨x4, hx, h⟩ := bnd h
    refine g_callVZ (L := [some (.ref a0), some (.ref a1)]) cd13_23 rfl rfl rfl rfl rfl (O1.o h0) (t_Book_readCell (by omega) h0 h1 hx) ?_
    refine g_if_eq cd13_26 rfl (fun hb => ?_) (fun hb => ?_)
    · have h := ifnE (b2i_f hb) h
      refine g_iconst cd13_33 rfl ?_
      exact g_iret cd13_34 (Or.inr ⟨rfl, Or.inl rfl⟩) (by obtain rfl := Option.some.inj h; rfl)
    · have h := ifpE (b2i_t hb) h
      refine g_iconst cd13_29 rfl ?_
      refine g_goto (ls2 := [some (.ref a0), some (.ref a1)]) cd13_30 rfl rfl ?_
      exact g_iret cd13_34 (Or.inr ⟨rfl, Or.inr rfl⟩) (by obtain rfl := Option.some.inj h; rfl)
/-! HiddenOrLost$Book.readReceiver(LHiddenOrLost$Tape;LHiddenOrLost$Land;)Z -/
theorem cd16_0 : code9 16 0 = some (0, .aload_n 1, [1], .null, []) := rfl
theorem cd16_1 : code9 16 1 = some (0, .invokevirtual 51, [3, 118, 1, 1, 3, 1, 10, 0], .null, []) := rfl
theorem cd16_4 : code9 16 4 = some (0, .ifCond .ne 9, [3, 13], .null, []) := rfl
theorem cd16_7 : code9 16 7 = some (0, .aload_n 1, [1], .null, []) := rfl
theorem cd16_8 : code9 16 8 = some (0, .iconst 1, [1], .int 1, []) := rfl
theorem cd16_9 : code9 16 9 = some (0, .invokevirtual 55, [3, 116, 2, 1, 3, 2, 10, 0], .null, []) := rfl
theorem cd16_12 : code9 16 12 = some (0, .ireturn, [1, 3], .null, []) := rfl
theorem cd16_13 : code9 16 13 = some (0, .aload_n 0, [1], .null, []) := rfl
theorem cd16_14 : code9 16 14 = some (0, .getfield 18, [3, 1, 2, 2], .null, []) := rfl
theorem cd16_17 : code9 16 17 = some (0, .aload_n 0, [1], .null, []) := rfl
theorem cd16_18 : code9 16 18 = some (0, .getfield 24, [3, 1, 4, 0], .null, []) := rfl
theorem cd16_21 : code9 16 21 = some (0, .aload_n 2, [1], .null, []) := rfl
theorem cd16_22 : code9 16 22 = some (0, .aload_n 1, [1], .null, []) := rfl
theorem cd16_23 : code9 16 23 = some (0, .getfield 58, [3, 10, 10, 1], .null, []) := rfl
theorem cd16_26 : code9 16 26 = some (0, .invokevirtual 62, [3, 42, 2, 1, 1, 3, 6, 0], .null, []) := rfl
theorem cd16_29 : code9 16 29 = some (0, .iastore, [1], .null, []) := rfl
theorem cd16_30 : code9 16 30 = some (0, .aload_n 0, [1], .null, []) := rfl
theorem cd16_31 : code9 16 31 = some (0, .getfield 18, [3, 1, 2, 2], .null, []) := rfl
theorem cd16_34 : code9 16 34 = some (0, .aload_n 0, [1], .null, []) := rfl
theorem cd16_35 : code9 16 35 = some (0, .getfield 24, [3, 1, 4, 0], .null, []) := rfl
theorem cd16_38 : code9 16 38 = some (0, .iaload, [1], .null, []) := rfl
theorem cd16_39 : code9 16 39 = some (0, .ifCond .ge 9, [3, 48], .null, []) := rfl
theorem cd16_42 : code9 16 42 = some (0, .aload_n 1, [1], .null, []) := rfl
theorem cd16_43 : code9 16 43 = some (0, .iconst 3, [1], .int 3, []) := rfl
theorem cd16_44 : code9 16 44 = some (0, .invokevirtual 55, [3, 116, 2, 1, 3, 2, 10, 0], .null, []) := rfl
theorem cd16_47 : code9 16 47 = some (0, .ireturn, [1, 3], .null, []) := rfl
theorem cd16_48 : code9 16 48 = some (0, .aload_n 1, [1], .null, []) := rfl
theorem cd16_49 : code9 16 49 = some (0, .invokevirtual 75, [3, 114, 1, 1, 0, 1, 10, 0], .null, []) := rfl
theorem cd16_52 : code9 16 52 = some (0, .iconst 1, [1], .int 1, []) := rfl
theorem cd16_53 : code9 16 53 = some (0, .ireturn, [1, 3], .null, []) := rfl
def Book_readReceiver (N : Nat) (a0 a1 a2 : Nat) (I : FI) (J : FJ) : Option (Bool × FI × FJ) := if (Tape_isName a1 I) then (Option.bind (Land_personNamed N a2 (J a1 10) I J) fun x2 => (if in9 (I a0 4) 40 then (Option.bind (some (up2 I (a0 + 3) ((I a0 4).toNatClampNeg) x2)) fun I4 => (if in9 (I4 a0 4) 40 then (if 0 ≤ (I4 (a0 + 3) ((I4 a0 4).toNatClampNeg)) then (Option.bind (Tape_step a1 I4 J) fun x6 => (some (true, x6.1, x6.2))) else (Option.bind (Tape_fail a1 3 I4) fun x7 => (some (x7.1, x7.2, J)))) else none)) else none)) else (Option.bind (Tape_fail a1 1 I) fun x1 => (some (x1.1, x1.2, J)))
set_option maxRecDepth 8000 in
theorem t_Book_readReceiver {d : Nat} {N : Nat} {a0 a1 a2 : Nat} {c : Nat × Nat} {S : Nat → Nat × Nat} {P : Nat → Nat → Option Nat} {I : FI} {J : FJ} {r : Bool × FI × FJ} (hd : 2 ≤ d) (h0 : O1 S P a0) (h1 : O10 S P a1) (h2 : O6 S P a2) (h : Book_readReceiver N a0 a1 a2 I J = some r) : Go d M_Book_readReceiver 0 [some (.ref a0), some (.ref a1), some (.ref a2)] [] (c, S, I, J, P) (some (.int (b2i r.1)), false, (c, S, r.2.1, r.2.2, P)) := by
  obtain ⟨d, rfl⟩ : ∃ e, d = e + 1 := ⟨d - 1, by omega⟩
  unfold Book_readReceiver at h
  refine g_aload_n cd16_0 rfl rfl ?_
  refine g_callVZ (L := [some (.ref a1)]) cd16_1 rfl rfl rfl rfl rfl (O10.o h1) (t_Tape_isName (by omega) h1 rfl) ?_
  refine g_if_ne cd16_4 rfl (fun hb => ?_) (fun hb => ?_)
  · have h := ifnE (b2i_f hb) h
    refine g_aload_n cd16_7 rfl rfl ?_
    refine g_iconst cd16_8 rfl ?_
    obtain ⟨x1, hx, h⟩ := bnd h
    refine g_callVZ (L := [some (.ref a1), some (.int 1)]) cd16_9 rfl rfl rfl rfl rfl (O10.o h1) (t_Tape_fail (by omega) h1 hx) ?_
    exact g_iret cd16_12 (Or.inr ⟨rfl, b2i_or _⟩) (by obtain rfl := Option.some.inj h; rfl)
  · have h := ifpE (b2i_t hb) h
    refine g_aload_n cd16_13 rfl rfl ?_
    refine g_getP cd16_14 rfl (O1.o h0) (show P a0 2 = some (a0 + 3) from O1.p2 h0) ?_
    refine g_aload_n cd16_17 rfl rfl ?_
    refine g_getI cd16_18 rfl (O1.o h0) ?_
    refine g_aload_n cd16_21 rfl rfl ?_
    refine g_aload_n cd16_22 rfl rfl ?_
    refine g_getJ cd16_23 rfl (O10.o h1) ?_
    obtain ⟨x2, hx, h⟩ := bnd h
    refine g_callVI (L := [some (.ref a2), some (.long (J a1 10)), none]) cd16_26 rfl rfl rfl rfl rfl (O6.o h2) (t_Land_personNamed (by omega) h2 hx) ?_
    obtain ⟨hg3, h⟩ := grd h
    obtain ⟨I4, e1, h⟩ := bnd h
    refine G_iast cd16_29 rfl (show S (a0 + 3) = (1, 40) from O1.s2 h0) hg3 (Option.some.inj e1) ?_
    refine g_aload_n cd16_30 rfl rfl ?_
    refine g_getP cd16_31 rfl (O1.o h0) (show P a0 2 = some (a0 + 3) from O1.p2 h0) ?_
    refine g_aload_n cd16_34 rfl rfl ?_
    refine g_getI cd16_35 rfl (O1.o h0) ?_
    obtain ⟨hg5, h⟩ := grd h
    refine G_iald cd16_38 rfl (show S (a0 + 3) = (1, 40) from O1.s2 h0) hg5 ?_
    refine g_if_ge cd16_39 rfl (fun hb => ?_) (fun hb => ?_)
    · have h := ifpE hb h
      refine g_aload_n cd16_48 rfl rfl ?_
      obtain ⟨x6, hx, h⟩ := bnd h
      refine g_callVV (L := [some (.ref a1)]) cd16_49 rfl rfl rfl rfl rfl (O10.o h1) (t_Tape_step (by omega) h1 hx) ?_
      refine g_iconst cd16_52 rfl ?_
      exact g_iret cd16_53 (Or.inr ⟨rfl, Or.inr rfl⟩) (by obtain rfl := Option.some.inj h; rfl)
    · have h := ifnE hb h
      refine g_aload_n cd16_42 rfl rfl ?_
      refine g_iconst cd16_43 rfl ?_
      obtain ⟨x7, hx, h⟩ := bnd h
      refine g_callVZ (L := [some (.ref a1), some (.int 3)]) cd16_44 rfl rfl rfl rfl rfl (O10.o h1) (t_Tape_fail (by omega) h1 hx) ?_
      exact g_iret cd16_47 (Or.inr ⟨rfl, b2i_or _⟩) (by obtain rfl := Option.some.inj h; rfl)
/-! HiddenOrLost$Book.readHandling(LHiddenOrLost$Tape;LHiddenOrLost$Land;)Z -/
theorem cd15_0 : code9 15 0 = some (0, .aload_n 0, [1], .null, []) := rfl
theorem cd15_1 : code9 15 1 = some (0, .getfield 9, [3, 1, 0, 2], .null, []) := rfl
theorem cd15_4 : code9 15 4 = some (0, .aload_n 0, [1], .null, []) := rfl
theorem cd15_5 : code9 15 5 = some (0, .getfield 24, [3, 1, 4, 0], .null, []) := rfl
theorem cd15_8 : code9 15 8 = some (0, .aload_n 1, [1], .null, []) := rfl
theorem cd15_9 : code9 15 9 = some (0, .getfield 84, [3, 10, 11, 0], .null, []) := rfl
theorem cd15_12 : code9 15 12 = some (0, .iastore, [1], .null, []) := rfl
theorem cd15_13 : code9 15 13 = some (0, .aload_n 1, [1], .null, []) := rfl
theorem cd15_14 : code9 15 14 = some (0, .bipush 19, [2], .int 19, []) := rfl
theorem cd15_16 : code9 15 16 = some (0, .iconst 4, [1], .int 4, []) := rfl
theorem cd15_17 : code9 15 17 = some (0, .invokevirtual 94, [3, 119, 3, 1, 3, 3, 10, 0], .null, []) := rfl
theorem cd15_20 : code9 15 20 = some (0, .ifCond .ne 5, [3, 25], .null, []) := rfl
theorem cd15_23 : code9 15 23 = some (0, .iconst 0, [1], .int 0, []) := rfl
theorem cd15_24 : code9 15 24 = some (0, .ireturn, [1, 3], .null, []) := rfl
theorem cd15_25 : code9 15 25 = some (0, .aload_n 0, [1], .null, []) := rfl
theorem cd15_26 : code9 15 26 = some (0, .getfield 9, [3, 1, 0, 2], .null, []) := rfl
theorem cd15_29 : code9 15 29 = some (0, .aload_n 0, [1], .null, []) := rfl
theorem cd15_30 : code9 15 30 = some (0, .getfield 24, [3, 1, 4, 0], .null, []) := rfl
theorem cd15_33 : code9 15 33 = some (0, .iaload, [1], .null, []) := rfl
theorem cd15_34 : code9 15 34 = some (0, .lookupswitch 39 #[(21, 26), (22, 32)], [26, 73], .null, [(21, 60), (22, 66)]) := rfl
theorem cd15_60 : code9 15 60 = some (0, .aload_n 0, [1], .null, []) := rfl
theorem cd15_61 : code9 15 61 = some (0, .aload_n 1, [1], .null, []) := rfl
theorem cd15_62 : code9 15 62 = some (0, .invokevirtual 97, [3, 14, 2, 1, 3, 2, 1, 0], .null, []) := rfl
theorem cd15_65 : code9 15 65 = some (0, .ireturn, [1, 3], .null, []) := rfl
theorem cd15_66 : code9 15 66 = some (0, .aload_n 0, [1], .null, []) := rfl
theorem cd15_67 : code9 15 67 = some (0, .aload_n 1, [1], .null, []) := rfl
theorem cd15_68 : code9 15 68 = some (0, .aload_n 2, [1], .null, []) := rfl
theorem cd15_69 : code9 15 69 = some (0, .invokevirtual 100, [3, 16, 3, 1, 3, 3, 1, 0], .null, []) := rfl
theorem cd15_72 : code9 15 72 = some (0, .ireturn, [1, 3], .null, []) := rfl
theorem cd15_73 : code9 15 73 = some (0, .iconst 1, [1], .int 1, []) := rfl
theorem cd15_74 : code9 15 74 = some (0, .ireturn, [1, 3], .null, []) := rfl
def Book_readHandling (N : Nat) (a0 a1 a2 : Nat) (I : FI) (J : FJ) : Option (Bool × FI × FJ) := if in9 (I a0 4) 40 then (Option.bind (some (up2 I (a0 + 1) ((I a0 4).toNatClampNeg) (I a1 11))) fun I2 => (Option.bind (Tape_takeAmong a1 19 4 I2 J) fun x3 => (if x3.1 then (if in9 (x3.2.1 a0 4) 40 then (if (x3.2.1 (a0 + 1) ((x3.2.1 a0 4).toNatClampNeg)) = 21 then (Option.bind (Book_readCell a0 a1 x3.2.1 x3.2.2) fun x5 => (some (x5.1, x5.2.1, x5.2.2))) else (if (x3.2.1 (a0 + 1) ((x3.2.1 a0 4).toNatClampNeg)) = 22 then (Option.bind (Book_readReceiver N a0 a1 a2 x3.2.1 x3.2.2) fun x6 => (some (x6.1, x6.2.1, x6.2.2))) else (some (true, x3.2.1, x3.2.2)))) else none) else (some (false, x3.2.1, x3.2.2))))) else none
set_option maxRecDepth 8000 in
theorem t_Book_readHandling {d : Nat} {N : Nat} {a0 a1 a2 : Nat} {c : Nat × Nat} {S : Nat → Nat × Nat} {P : Nat → Nat → Option Nat} {I : FI} {J : FJ} {r : Bool × FI × FJ} (hd : 3 ≤ d) (h0 : O1 S P a0) (h1 : O10 S P a1) (h2 : O6 S P a2) (h : Book_readHandling N a0 a1 a2 I J = some r) : Go d M_Book_readHandling 0 [some (.ref a0), some (.ref a1), some (.ref a2)] [] (c, S, I, J, P) (some (.int (b2i r.1)), false, (c, S, r.2.1, r.2.2, P)) := by
  obtain ⟨d, rfl⟩ : ∃ e, d = e + 1 := ⟨d - 1, by omega⟩
  unfold Book_readHandling at h
  refine g_aload_n cd15_0 rfl rfl ?_
  refine g_getP cd15_1 rfl (O1.o h0) (show P a0 0 = some (a0 + 1) from O1.p0 h0) ?_
  refine g_aload_n cd15_4 rfl rfl ?_
  refine g_getI cd15_5 rfl (O1.o h0) ?_
  refine g_aload_n cd15_8 rfl rfl ?_
  refine g_getI cd15_9 rfl (O10.o h1) ?_
  obtain ⟨hg1, h⟩ := grd h
  obtain ⟨I2, e1, h⟩ := bnd h
  refine G_iast cd15_12 rfl (show S (a0 + 1) = (1, 40) from O1.s0 h0) hg1 (Option.some.inj e1) ?_
  refine g_aload_n cd15_13 rfl rfl ?_
  refine g_bipush cd15_14 rfl ?_
  refine g_iconst cd15_16 rfl ?_
  obtain ⟨x3, hx, h⟩ := bnd h
  refine g_callVZ (L := [some (.ref a1), some (.int 19), some (.int 4)]) cd15_17 rfl rfl rfl rfl rfl (O10.o h1) (t_Tape_takeAmong (by omega) h1 hx) ?_
  refine g_if_ne cd15_20 rfl (fun hb => ?_) (fun hb => ?_)
  · have h := ifnE (b2i_f hb) h
    refine g_iconst cd15_23 rfl ?_
    exact g_iret cd15_24 (Or.inr ⟨rfl, Or.inl rfl⟩) (by obtain rfl := Option.some.inj h; rfl)
  · have h := ifpE (b2i_t hb) h
    refine g_aload_n cd15_25 rfl rfl ?_
    refine g_getP cd15_26 rfl (O1.o h0) (show P a0 0 = some (a0 + 1) from O1.p0 h0) ?_
    refine g_aload_n cd15_29 rfl rfl ?_
    refine g_getI cd15_30 rfl (O1.o h0) ?_
    obtain ⟨hg4, h⟩ := grd h
    refine G_iald cd15_33 rfl (show S (a0 + 1) = (1, 40) from O1.s0 h0) hg4 ?_
    refine g_lookupswitch cd15_34 rfl ?_
    refine ifi (fun hb => ?_) (fun hb => ?_)
    · have h := ifpE hb h
      show Go _ _ 60 [some (.ref a0), some (.ref a1), some (.ref a2)] [] _ _
      refine g_aload_n cd15_60 rfl rfl ?_
      refine g_aload_n cd15_61 rfl rfl ?_
      obtain ⟨x5, hx, h⟩ := bnd h
      refine g_callVZ (L := [some (.ref a0), some (.ref a1)]) cd15_62 rfl rfl rfl rfl rfl (O1.o h0) (t_Book_readCell (by omega) h0 h1 hx) ?_
      exact g_iret cd15_65 (Or.inr ⟨rfl, b2i_or _⟩) (by obtain rfl := Option.some.inj h; rfl)
    have h := ifnE hb h
    refine ifi (fun hb => ?_) (fun hb => ?_)
    · have h := ifpE hb h
      show Go _ _ 66 [some (.ref a0), some (.ref a1), some (.ref a2)] [] _ _
      refine g_aload_n cd15_66 rfl rfl ?_
      refine g_aload_n cd15_67 rfl rfl ?_
      refine g_aload_n cd15_68 rfl rfl ?_
      obtain ⟨x6, hx, h⟩ := bnd h
      refine g_callVZ (L := [some (.ref a0), some (.ref a1), some (.ref a2)]) cd15_69 rfl rfl rfl rfl rfl (O1.o h0) (t_Book_readReceiver (by omega) h0 h1 h2 hx) ?_
      exact g_iret cd15_72 (Or.inr ⟨rfl, b2i_or _⟩) (by obtain rfl := Option.some.inj h; rfl)
    have h := ifnE hb h
    show Go _ _ 73 [some (.ref a0), some (.ref a1), some (.ref a2)] [] _ _
    refine g_iconst cd15_73 rfl ?_
    exact g_iret cd15_74 (Or.inr ⟨rfl, Or.inr rfl⟩) (by obtain rfl := Option.some.inj h; rfl)
/-! HiddenOrLost$Book.readLine(LHiddenOrLost$Tape;LHiddenOrLost$Land;)Z -/
theorem cd11_0 : code9 11 0 = some (0, .aload_n 1, [1], .null, []) := rfl
theorem cd11_1 : code9 11 1 = some (0, .bipush 23, [2], .int 23, []) := rfl
theorem cd11_3 : code9 11 3 = some (0, .invokevirtual 48, [3, 121, 2, 1, 3, 2, 10, 0], .null, []) := rfl
theorem cd11_6 : code9 11 6 = some (0, .ifCond .ne 12, [3, 18], .null, []) := rfl
theorem cd11_9 : code9 11 9 = some (0, .aload_n 1, [1], .null, []) := rfl
theorem cd11_10 : code9 11 10 = some (0, .bipush 24, [2], .int 24, []) := rfl
theorem cd11_12 : code9 11 12 = some (0, .invokevirtual 48, [3, 121, 2, 1, 3, 2, 10, 0], .null, []) := rfl
theorem cd11_15 : code9 11 15 = some (0, .ifCond .eq 7, [3, 22], .null, []) := rfl
theorem cd11_18 : code9 11 18 = some (4, .iconst 1, [1], .int 1, []) := rfl
theorem cd11_19 : code9 11 19 = some (0, .goto 4, [3, 23, 3], .null, []) := rfl
theorem cd11_22 : code9 11 22 = some (0, .iconst 0, [1], .int 0, []) := rfl
theorem cd11_23 : code9 11 23 = some (4, .istore_n 3, [1], .null, []) := rfl
theorem cd11_24 : code9 11 24 = some (0, .iload_n 3, [1], .null, []) := rfl
theorem cd11_25 : code9 11 25 = some (0, .ifCond .ne 16, [3, 41], .null, []) := rfl
theorem cd11_28 : code9 11 28 = some (0, .aload_n 1, [1], .null, []) := rfl
theorem cd11_29 : code9 11 29 = some (0, .invokevirtual 51, [3, 118, 1, 1, 3, 1, 10, 0], .null, []) := rfl
theorem cd11_32 : code9 11 32 = some (0, .ifCond .ne 9, [3, 41], .null, []) := rfl
theorem cd11_35 : code9 11 35 = some (0, .aload_n 1, [1], .null, []) := rfl
theorem cd11_36 : code9 11 36 = some (0, .iconst 1, [1], .int 1, []) := rfl
theorem cd11_37 : code9 11 37 = some (0, .invokevirtual 55, [3, 116, 2, 1, 3, 2, 10, 0], .null, []) := rfl
theorem cd11_40 : code9 11 40 = some (0, .ireturn, [1, 3], .null, []) := rfl
theorem cd11_41 : code9 11 41 = some (5, .iload_n 3, [1], .null, []) := rfl
theorem cd11_42 : code9 11 42 = some (0, .ifCond .eq 7, [3, 49], .null, []) := rfl
theorem cd11_45 : code9 11 45 = some (0, .iconst (-1), [1], .int (-1), []) := rfl
theorem cd11_46 : code9 11 46 = some (0, .goto 11, [3, 57, 4], .null, []) := rfl
theorem cd11_49 : code9 11 49 = some (0, .aload_n 2, [1], .null, []) := rfl
theorem cd11_50 : code9 11 50 = some (0, .aload_n 1, [1], .null, []) := rfl
theorem cd11_51 : code9 11 51 = some (0, .getfield 58, [3, 10, 10, 1], .null, []) := rfl
theorem cd11_54 : code9 11 54 = some (0, .invokevirtual 62, [3, 42, 2, 1, 1, 3, 6, 0], .null, []) := rfl
theorem cd11_57 : code9 11 57 = some (5, .istore 4, [2], .null, []) := rfl
theorem cd11_59 : code9 11 59 = some (0, .iload_n 3, [1], .null, []) := rfl
theorem cd11_60 : code9 11 60 = some (0, .ifCond .eq 7, [3, 67], .null, []) := rfl
theorem cd11_63 : code9 11 63 = some (0, .iconst (-1), [1], .int (-1), []) := rfl
theorem cd11_64 : code9 11 64 = some (0, .goto 11, [3, 75, 5], .null, []) := rfl
theorem cd11_67 : code9 11 67 = some (0, .aload_n 2, [1], .null, []) := rfl
theorem cd11_68 : code9 11 68 = some (0, .aload_n 1, [1], .null, []) := rfl
theorem cd11_69 : code9 11 69 = some (0, .getfield 58, [3, 10, 10, 1], .null, []) := rfl
theorem cd11_72 : code9 11 72 = some (0, .invokevirtual 68, [3, 44, 2, 1, 1, 3, 6, 0], .null, []) := rfl
theorem cd11_75 : code9 11 75 = some (6, .istore 5, [2], .null, []) := rfl
theorem cd11_77 : code9 11 77 = some (0, .iload_n 3, [1], .null, []) := rfl
theorem cd11_78 : code9 11 78 = some (0, .ifCond .ne 19, [3, 97], .null, []) := rfl
theorem cd11_81 : code9 11 81 = some (0, .iload 4, [2], .null, []) := rfl
theorem cd11_83 : code9 11 83 = some (0, .ifCond .ge 14, [3, 97], .null, []) := rfl
theorem cd11_86 : code9 11 86 = some (0, .iload 5, [2], .null, []) := rfl
theorem cd11_88 : code9 11 88 = some (0, .ifCond .ge 9, [3, 97], .null, []) := rfl
theorem cd11_91 : code9 11 91 = some (0, .aload_n 1, [1], .null, []) := rfl
theorem cd11_92 : code9 11 92 = some (0, .iconst 3, [1], .int 3, []) := rfl
theorem cd11_93 : code9 11 93 = some (0, .invokevirtual 55, [3, 116, 2, 1, 3, 2, 10, 0], .null, []) := rfl
theorem cd11_96 : code9 11 96 = some (0, .ireturn, [1, 3], .null, []) := rfl
theorem cd11_97 : code9 11 97 = some (7, .aload_n 0, [1], .null, []) := rfl
theorem cd11_98 : code9 11 98 = some (0, .getfield 24, [3, 1, 4, 0], .null, []) := rfl
theorem cd11_101 : code9 11 101 = some (0, .bipush 40, [2], .int 40, []) := rfl
theorem cd11_103 : code9 11 103 = some (0, .if_icmp .lt 9, [3, 112], .null, []) := rfl
theorem cd11_106 : code9 11 106 = some (0, .aload_n 1, [1], .null, []) := rfl
theorem cd11_107 : code9 11 107 = some (0, .iconst 4, [1], .int 4, []) := rfl
theorem cd11_108 : code9 11 108 = some (0, .invokevirtual 55, [3, 116, 2, 1, 3, 2, 10, 0], .null, []) := rfl
theorem cd11_111 : code9 11 111 = some (0, .ireturn, [1, 3], .null, []) := rfl
theorem cd11_112 : code9 11 112 = some (0, .iload_n 3, [1], .null, []) := rfl
theorem cd11_113 : code9 11 113 = some (0, .ifCond .eq 9, [3, 122], .null, []) := rfl
theorem cd11_116 : code9 11 116 = some (0, .aload_n 0, [1], .null, []) := rfl
theorem cd11_117 : code9 11 117 = some (0, .aload_n 1, [1], .null, []) := rfl
theorem cd11_118 : code9 11 118 = some (0, .invokevirtual 71, [3, 12, 2, 1, 3, 3, 1, 0], .null, []) := rfl
theorem cd11_121 : code9 11 121 = some (0, .ireturn, [1, 3], .null, []) := rfl
theorem cd11_122 : code9 11 122 = some (0, .aload_n 1, [1], .null, []) := rfl
theorem cd11_123 : code9 11 123 = some (0, .invokevirtual 75, [3, 114, 1, 1, 0, 1, 10, 0], .null, []) := rfl
theorem cd11_126 : code9 11 126 = some (0, .aload_n 0, [1], .null, []) := rfl
theorem cd11_127 : code9 11 127 = some (0, .getfield 15, [3, 1, 1, 2], .null, []) := rfl
theorem cd11_130 : code9 11 130 = some (0, .aload_n 0, [1], .null, []) := rfl
theorem cd11_131 : code9 11 131 = some (0, .getfield 24, [3, 1, 4, 0], .null, []) := rfl
theorem cd11_134 : code9 11 134 = some (0, .iload 4, [2], .null, []) := rfl
theorem cd11_136 : code9 11 136 = some (0, .ifCond .lt 8, [3, 144], .null, []) := rfl
theorem cd11_139 : code9 11 139 = some (0, .iload 4, [2], .null, []) := rfl
theorem cd11_141 : code9 11 141 = some (0, .goto 5, [3, 146, 6], .null, []) := rfl
theorem cd11_144 : code9 11 144 = some (0, .iload 5, [2], .null, []) := rfl
theorem cd11_146 : code9 11 146 = some (7, .iastore, [1], .null, []) := rfl
theorem cd11_147 : code9 11 147 = some (0, .iload 4, [2], .null, []) := rfl
theorem cd11_149 : code9 11 149 = some (0, .ifCond .lt 11, [3, 160], .null, []) := rfl
theorem cd11_152 : code9 11 152 = some (0, .aload_n 0, [1], .null, []) := rfl
theorem cd11_153 : code9 11 153 = some (0, .aload_n 1, [1], .null, []) := rfl
theorem cd11_154 : code9 11 154 = some (0, .invokevirtual 78, [3, 13, 2, 1, 3, 2, 1, 0], .null, []) := rfl
theorem cd11_157 : code9 11 157 = some (0, .goto 9, [3, 166, 6], .null, []) := rfl
theorem cd11_160 : code9 11 160 = some (0, .aload_n 0, [1], .null, []) := rfl
theorem cd11_161 : code9 11 161 = some (0, .aload_n 1, [1], .null, []) := rfl
theorem cd11_162 : code9 11 162 = some (0, .aload_n 2, [1], .null, []) := rfl
theorem cd11_163 : code9 11 163 = some (0, .invokevirtual 81, [3, 15, 3, 1, 3, 3, 1, 0], .null, []) := rfl
theorem cd11_166 : code9 11 166 = some (7, .ireturn, [1, 3], .null, []) := rfl
def Book_readLine (N : Nat) (a0 a1 a2 : Nat) (I : FI) (J : FJ) : Option (Bool × FI × FJ) := if (Tape_isWord a1 23 I) then (if (I a0 4) < 40 then (Option.bind (Book_readWork a0 a1 I J) fun x27 => (some (x27.1, x27.2.1, x27.2.2))) else (Option.bind (Tape_fail a1 4 I) fun x28 => (some (x28.1, x28.2, J)))) else (if (Tape_isWord a1 24 I) then (if (I a0 4) < 40 then (Option.bind (Book_readWork a0 a1 I J) fun x25 => (some (x25.1, x25.2.1, x25.2.2))) else (Option.bind (Tape_fail a1 4 I) fun x26 => (some (x26.1, x26.2, J)))) else (if (Tape_isName a1 I) then (Option.bind (Land_personNamed N a2 (J a1 10) I J) fun x2 => (Option.bind (Land_findNamed N a2 (J a1 10) I J) fun x3 => (if 0 ≤ x2 then (if (I a0 4) < 40 then (Option.bind (Tape_step a1 I J) fun x4 => (if x2 < 0 then (if in9 (x4.1 a0 4) 40 then (Option.bind (some (up2 x4.1 (a0 + 2) ((x4.1 a0 4).toNatClampNeg) x3)) fun I6 => (if x2 < 0 then (Option.bind (Book_readHandling N a0 a1 a2 I6 x4.2) fun x7 => (some (x7.1, x7.2.1, x7.2.2))) else (Option.bind (Book_readDigging a0 a1 I6 x4.2) fun x8 => (some (x8.1, x8.2.1, x8.2.2))))) else none) else (if in9 (x4.1 a0 4) 40 then (Option.bind (some (up2 x4.1 (a0 + 2) ((x4.1 a0 4).toNatClampNeg) x2)) fun I10 => (if x2 < 0 then (Option.bind (Book_readHandling N a0 a1 a2 I10 x4.2) fun x11 => (some (x11.1, x11.2.1, x11.2.2))) else (Option.bind (Book_readDigging a0 a1 I10 x4.2) fun x12 => (some (x12.1, x12.2.1, x12.2.2))))) else none))) else (Option.bind (Tape_fail a1 4 I) fun x13 => (some (x13.1, x13.2, J)))) else (if 0 ≤ x3 then (if (I a0 4) < 40 then (Option.bind (Tape_step a1 I J) fun x14 => (if x2 < 0 then (if in9 (x14.1 a0 4) 40 then (Option.bind (some (up2 x14.1 (a0 + 2) ((x14.1 a0 4).toNatClampNeg) x3)) fun I16 => (if x2 < 0 then (Option.bind (Book_readHandling N a0 a1 a2 I16 x14.2) fun x17 => (some (x17.1, x17.2.1, x17.2.2))) else (Option.bind (Book_readDigging a0 a1 I16 x14.2) fun x18 => (some (x18.1, x18.2.1, x18.2.2))))) else none) else (if in9 (x14.1 a0 4) 40 then (Option.bind (some (up2 x14.1 (a0 + 2) ((x14.1 a0 4).toNatClampNeg) x2)) fun I20 => (if x2 < 0 then (Option.bind (Book_readHandling N a0 a1 a2 I20 x14.2) fun x21 => (some (x21.1, x21.2.1, x21.2.2))) else (Option.bind (Book_readDigging a0 a1 I20 x14.2) fun x22 => (some (x22.1, x22.2.1, x22.2.2))))) else none))) else (Option.bind (Tape_fail a1 4 I) fun x23 => (some (x23.1, x23.2, J)))) else (Option.bind (Tape_fail a1 3 I) fun x24 => (some (x24.1, x24.2, J))))))) else (Option.bind (Tape_fail a1 1 I) fun x1 => (some (x1.1, x1.2, J)))))
set_option maxRecDepth 8000 in
theorem t_Book_readLine {d : Nat} {N : Nat} {a0 a1 a2 : Nat} {c : Nat × Nat} {S : Nat → Nat × Nat} {P : Nat → Nat → Option Nat} {I : FI} {J : FJ} {r : Bool × FI × FJ} (hd : 4 ≤ d) (h0 : O1 S P a0) (h1 : O10 S P a1) (h2 : O6 S P a2) (h : Book_readLine N a0 a1 a2 I J = some r) : Go d M_Book_readLine 0 [some (.ref a0), some (.ref a1), some (.ref a2), none, none, none] [] (c, S, I, J, P) (some (.int (b2i r.1)), false, (c, S, r.2.1, r.2.2, P)) := by
  obtain ⟨d, rfl⟩ : ∃ e, d = e + 1 := ⟨d - 1, by omega⟩
  unfold Book_readLine at h
  refine g_aload_n cd11_0 rfl rfl ?_
  refine g_bipush cd11_1 rfl ?_
  refine g_callVZ (L := [some (.ref a1), some (.int 23)]) cd11_3 rfl rfl rfl rfl rfl (O10.o h1) (t_Tape_isWord (by omega) h1 rfl) ?_
  refine g_if_ne cd11_6 rfl (fun hb => ?_) (fun hb => ?_)
  · have h := ifnE (b2i_f hb) h
    refine g_aload_n cd11_9 rfl rfl ?_
    refine g_bipush cd11_10 rfl ?_
    refine g_callVZ (L := [some (.ref a1), some (.int 24)]) cd11_12 rfl rfl rfl rfl rfl (O10.o h1) (t_Tape_isWord (by omega) h1 rfl) ?_
    refine g_if_eq cd11_15 rfl (fun hb => ?_) (fun hb => ?_)
    · have h := ifnE (b2i_f hb) h
      refine g_iconst cd11_22 rfl ?_
      refine g_istore_n (ls2 := [some (.ref a0), some (.ref a1), some (.ref a2), some (.int 0), none, none]) cd11_23 rfl rfl ?_
      refine g_iload_n cd11_24 rfl rfl ?_
      refine g_if_ne cd11_25 rfl (fun hb => ?_) (fun hb => ?_)
      rotate_left
      · exact absurd (by decide) hb
      refine g_aload_n cd11_28 rfl rfl ?_
      refine g_callVZ (L := [some (.ref a1)]) cd11_29 rfl rfl rfl rfl rfl (O10.o h1) (t_Tape_isName (by omega) h1 rfl) ?_
      refine g_if_ne cd11_32 rfl (fun hb => ?_) (fun hb => ?_)
      · have h := ifnE (b2i_f hb) h
        refine g_aload_n cd11_35 rfl rfl ?_
        refine g_iconst cd11_36 rfl ?_
        obtain ⟨x1, hx, h⟩ := bnd h
        refine g_callVZ (L := [some (.ref a1), some (.int 1)]) cd11_37 rfl rfl rfl rfl rfl (O10.o h1) (t_Tape_fail (by omega) h1 hx) ?_
        exact g_iret cd11_40 (Or.inr ⟨rfl, b2i_or _⟩) (by obtain rfl := Option.some.inj h; rfl)
      · have h := ifpE (b2i_t hb) h
        refine g_iload_n cd11_41 rfl rfl ?_
        refine g_if_eq cd11_42 rfl (fun hb => ?_) (fun hb => ?_)
        rotate_left
        · exact absurd (by decide) hb
        refine g_aload_n cd11_49 rfl rfl ?_
        refine g_aload_n cd11_50 rfl rfl ?_
        refine g_getJ cd11_51 rfl (O10.o h1) ?_
        obtain ⟨x2, hx, h⟩ := bnd h
        refine g_callVI (L := [some (.ref a2), some (.long (J a1 10)), none]) cd11_54 rfl rfl rfl rfl rfl (O6.o h2) (t_Land_personNamed (by omega) h2 hx) ?_
        refine g_istore (ls2 := [some (.ref a0), some (.ref a1), some (.ref a2), some (.int 0), some (.int x2), none]) cd11_57 rfl rfl ?_
        refine g_iload_n cd11_59 rfl rfl ?_
        refine g_if_eq cd11_60 rfl (fun hb => ?_) (fun hb => ?_)
        rotate_left
        · exact absurd (by decide) hb
        refine g_aload_n cd11_67 rfl rfl ?_
        refine g_aload_n cd11_68 rfl rfl ?_
        refine g_getJ cd11_69 rfl (O10.o h1) ?_
        obtain ⟨x3, hx, h⟩ := bnd h
        refine g_callVI (L := [some (.ref a2), some (.long (J a1 10)), none]) cd11_72 rfl rfl rfl rfl rfl (O6.o h2) (t_Land_findNamed (by omega) h2 hx) ?_
        refine g_istore (ls2 := [some (.ref a0), some (.ref a1), some (.ref a2), some (.int 0), some (.int x2), some (.int x3)]) cd11_75 rfl rfl ?_
        refine g_iload_n cd11_77 rfl rfl ?_
        refine g_if_ne cd11_78 rfl (fun hb => ?_) (fun hb => ?_)
        rotate_left
        · exact absurd (by decide) hb
        refine g_iload cd11_81 rfl rfl ?_
        refine g_if_ge cd11_83 rfl (fun hb => ?_) (fun hb => ?_)
        · have h := ifpE hb h
          refine g_aload_n cd11_97 rfl rfl ?_
          refine g_getI cd11_98 rfl (O1.o h0) ?_
          refine g_bipush cd11_101 rfl ?_
          refine g_icmp_lt cd11_103 rfl (fun hb => ?_) (fun hb => ?_)
          · have h := ifpE hb h
            refine g_iload_n cd11_112 rfl rfl ?_
            refine g_if_eq cd11_113 rfl (fun hb => ?_) (fun hb => ?_)
            rotate_left
            · exact absurd (by decide) hb
            refine g_aload_n cd11_122 rfl rfl ?_
            obtain ⟨x4, hx, h⟩ := bnd h
            refine g_callVV (L := [some (.ref a1)]) cd11_123 rfl rfl rfl rfl rfl (O10.o h1) (t_Tape_step (by omega) h1 hx) ?_
            refine g_aload_n cd11_126 rfl rfl ?_
            refine g_getP cd11_127 rfl (O1.o h0) (show P a0 1 = some (a0 + 2) from O1.p1 h0) ?_
            refine g_aload_n cd11_130 rfl rfl ?_
            refine g_getI cd11_131 rfl (O1.o h0) ?_
            refine g_iload cd11_134 rfl rfl ?_
            refine g_if_lt cd11_136 rfl (fun hb => ?_) (fun hb => ?_)
            · have h := ifpE hb h
              refine g_iload cd11_144 rfl rfl ?_
              obtain ⟨hg5, h⟩ := grd h
              obtain ⟨I6, e1, h⟩ := bnd h
              refine G_iast cd11_146 rfl (show S (a0 + 2) = (1, 40) from O1.s1 h0) hg5 (Option.some.inj e1) ?_
              refine g_iload cd11_147 rfl rfl ?_
              refine g_if_lt cd11_149 rfl (fun hb => ?_) (fun hb => ?_)
              · have h := ifpE hb h
                refine g_aload_n cd11_160 rfl rfl ?_
                refine g_aload_n cd11_161 rfl rfl ?_
                refine g_aload_n cd11_162 rfl rfl ?_
                obtain ⟨x7, hx, h⟩ := bnd h
                refine g_callVZ (L := [some (.ref a0), some (.ref a1), some (.ref a2)]) cd11_163 rfl rfl rfl rfl rfl (O1.o h0) (t_Book_readHandling (by omega) h0 h1 h2 hx) ?_
                exact g_iret cd11_166 (Or.inr ⟨rfl, b2i_or _⟩) (by obtain rfl := Option.some.inj h; rfl)
              · have h := ifnE hb h
                refine g_aload_n cd11_152 rfl rfl ?_
                refine g_aload_n cd11_153 rfl rfl ?_
                obtain ⟨x8, hx, h⟩ := bnd h
                refine g_callVZ (L := [some (.ref a0), some (.ref a1)]) cd11_154 rfl rfl rfl rfl rfl (O1.o h0) (t_Book_readDigging (by omega) h0 h1 hx) ?_
                refine g_goto (ls2 := [some (.ref a0), some (.ref a1), some (.ref a2), some (.int 0), some (.int x2), some (.int x3)]) cd11_157 rfl rfl ?_
                exact g_iret cd11_166 (Or.inr ⟨rfl, b2i_or _⟩) (by obtain rfl := Option.some.inj h; rfl)
            · have h := ifnE hb h
              refine g_iload cd11_139 rfl rfl ?_
              refine g_goto (ls2 := [some (.ref a0), some (.ref a1), some (.ref a2), some (.int 0), some (.int x2), some (.int x3)]) cd11_141 rfl rfl ?_
              obtain ⟨hg9, h⟩ := grd h
              obtain ⟨I10, e1, h⟩ := bnd h
              refine G_iast cd11_146 rfl (show S (a0 + 2) = (1, 40) from O1.s1 h0) hg9 (Option.some.inj e1) ?_
              refine g_iload cd11_147 rfl rfl ?_
              refine g_if_lt cd11_149 rfl (fun hb => ?_) (fun hb => ?_)
              · have h := ifpE hb h
                refine g_aload_n cd11_160 rfl rfl ?_
                refine g_aload_n cd11_161 rfl rfl ?_
                refine g_aload_n cd11_162 rfl rfl ?_
                obtain ⟨x11, hx, h⟩ := bnd h
                refine g_callVZ (L := [some (.ref a0), some (.ref a1), some (.ref a2)]) cd11_163 rfl rfl rfl rfl rfl (O1.o h0) (t_Book_readHandling (by omega) h0 h1 h2 hx) ?_
                exact g_iret cd11_166 (Or.inr ⟨rfl, b2i_or _⟩) (by obtain rfl := Option.some.inj h; rfl)
              · have h := ifnE hb h
                refine g_aload_n cd11_152 rfl rfl ?_
                refine g_aload_n cd11_153 rfl rfl ?_
                obtain ⟨x12, hx, h⟩ := bnd h
                refine g_callVZ (L := [some (.ref a0), some (.ref a1)]) cd11_154 rfl rfl rfl rfl rfl (O1.o h0) (t_Book_readDigging (by omega) h0 h1 hx) ?_
                refine g_goto (ls2 := [some (.ref a0), some (.ref a1), some (.ref a2), some (.int 0), some (.int x2), some (.int x3)]) cd11_157 rfl rfl ?_
                exact g_iret cd11_166 (Or.inr ⟨rfl, b2i_or _⟩) (by obtain rfl := Option.some.inj h; rfl)
          · have h := ifnE hb h
            refine g_aload_n cd11_106 rfl rfl ?_
            refine g_iconst cd11_107 rfl ?_
            obtain ⟨x13, hx, h⟩ := bnd h
            refine g_callVZ (L := [some (.ref a1), some (.int 4)]) cd11_108 rfl rfl rfl rfl rfl (O10.o h1) (t_Tape_fail (by omega) h1 hx) ?_
            exact g_iret cd11_111 (Or.inr ⟨rfl, b2i_or _⟩) (by obtain rfl := Option.some.inj h; rfl)
        · have h := ifnE hb h
          refine g_iload cd11_86 rfl rfl ?_
          refine g_if_ge cd11_88 rfl (fun hb => ?_) (fun hb => ?_)
          · have h := ifpE hb h
            refine g_aload_n cd11_97 rfl rfl ?_
            refine g_getI cd11_98 rfl (O1.o h0) ?_
            refine g_bipush cd11_101 rfl ?_
            refine g_icmp_lt cd11_103 rfl (fun hb => ?_) (fun hb => ?_)
            · have h := ifpE hb h
              refine g_iload_n cd11_112 rfl rfl ?_
              refine g_if_eq cd11_113 rfl (fun hb => ?_) (fun hb => ?_)
              rotate_left
              · exact absurd (by decide) hb
              refine g_aload_n cd11_122 rfl rfl ?_
              obtain ⟨x14, hx, h⟩ := bnd h
              refine g_callVV (L := [some (.ref a1)]) cd11_123 rfl rfl rfl rfl rfl (O10.o h1) (t_Tape_step (by omega) h1 hx) ?_
              refine g_aload_n cd11_126 rfl rfl ?_
              refine g_getP cd11_127 rfl (O1.o h0) (show P a0 1 = some (a0 + 2) from O1.p1 h0) ?_
              refine g_aload_n cd11_130 rfl rfl ?_
              refine g_getI cd11_131 rfl (O1.o h0) ?_
              refine g_iload cd11_134 rfl rfl ?_
              refine g_if_lt cd11_136 rfl (fun hb => ?_) (fun hb => ?_)
              · have h := ifpE hb h
                refine g_iload cd11_144 rfl rfl ?_
                obtain ⟨hg15, h⟩ := grd h
                obtain ⟨I16, e1, h⟩ := bnd h
                refine G_iast cd11_146 rfl (show S (a0 + 2) = (1, 40) from O1.s1 h0) hg15 (Option.some.inj e1) ?_
                refine g_iload cd11_147 rfl rfl ?_
                refine g_if_lt cd11_149 rfl (fun hb => ?_) (fun hb => ?_)
                · have h := ifpE hb h
                  refine g_aload_n cd11_160 rfl rfl ?_
                  refine g_aload_n cd11_161 rfl rfl ?_
                  refine g_aload_n cd11_162 rfl rfl ?_
                  obtain ⟨x17, hx, h⟩ := bnd h
                  refine g_callVZ (L := [some (.ref a0), some (.ref a1), some (.ref a2)]) cd11_163 rfl rfl rfl rfl rfl (O1.o h0) (t_Book_readHandling (by omega) h0 h1 h2 hx) ?_
                  exact g_iret cd11_166 (Or.inr ⟨rfl, b2i_or _⟩) (by obtain rfl := Option.some.inj h; rfl)
                · have h := ifnE hb h
                  refine g_aload_n cd11_152 rfl rfl ?_
                  refine g_aload_n cd11_153 rfl rfl ?_
                  obtain ⟨x18, hx, h⟩ := bnd h
                  refine g_callVZ (L := [some (.ref a0), some (.ref a1)]) cd11_154 rfl rfl rfl rfl rfl (O1.o h0) (t_Book_readDigging (by omega) h0 h1 hx) ?_
                  refine g_goto (ls2 := [some (.ref a0), some (.ref a1), some (.ref a2), some (.int 0), some (.int x2), some (.int x3)]) cd11_157 rfl rfl ?_
                  exact g_iret cd11_166 (Or.inr ⟨rfl, b2i_or _⟩) (by obtain rfl := Option.some.inj h; rfl)
              · have h := ifnE hb h
                refine g_iload cd11_139 rfl rfl ?_
                refine g_goto (ls2 := [some (.ref a0), some (.ref a1), some (.ref a2), some (.int 0), some (.int x2), some (.int x3)]) cd11_141 rfl rfl ?_
                obtain ⟨hg19, h⟩ := grd h
                obtain ⟨I20, e1, h⟩ := bnd h
                refine G_iast cd11_146 rfl (show S (a0 + 2) = (1, 40) from O1.s1 h0) hg19 (Option.some.inj e1) ?_
                refine g_iload cd11_147 rfl rfl ?_
                refine g_if_lt cd11_149 rfl (fun hb => ?_) (fun hb => ?_)
                · have h := ifpE hb h
                  refine g_aload_n cd11_160 rfl rfl ?_
                  refine g_aload_n cd11_161 rfl rfl ?_
                  refine g_aload_n cd11_162 rfl rfl ?_
                  obtain ⟨x21, hx, h⟩ := bnd h
                  refine g_callVZ (L := [some (.ref a0), some (.ref a1), some (.ref a2)]) cd11_163 rfl rfl rfl rfl rfl (O1.o h0) (t_Book_readHandling (by omega) h0 h1 h2 hx) ?_
                  exact g_iret cd11_166 (Or.inr ⟨rfl, b2i_or _⟩) (by obtain rfl := Option.some.inj h; rfl)
                · have h := ifnE hb h
                  refine g_aload_n cd11_152 rfl rfl ?_
                  refine g_aload_n cd11_153 rfl rfl ?_
                  obtain ⟨x22, hx, h⟩ := bnd h
                  refine g_callVZ (L := [some (.ref a0), some (.ref a1)]) cd11_154 rfl rfl rfl rfl rfl (O1.o h0) (t_Book_readDigging (by omega) h0 h1 hx) ?_
                  refine g_goto (ls2 := [some (.ref a0), some (.ref a1), some (.ref a2), some (.int 0), some (.int x2), some (.int x3)]) cd11_157 rfl rfl ?_
                  exact g_iret cd11_166 (Or.inr ⟨rfl, b2i_or _⟩) (by obtain rfl := Option.some.inj h; rfl)
            · have h := ifnE hb h
              refine g_aload_n cd11_106 rfl rfl ?_
              refine g_iconst cd11_107 rfl ?_
              obtain ⟨x23, hx, h⟩ := bnd h
              refine g_callVZ (L := [some (.ref a1), some (.int 4)]) cd11_108 rfl rfl rfl rfl rfl (O10.o h1) (t_Tape_fail (by omega) h1 hx) ?_
              exact g_iret cd11_111 (Or.inr ⟨rfl, b2i_or _⟩) (by obtain rfl := Option.some.inj h; rfl)
          · have h := ifnE hb h
            refine g_aload_n cd11_91 rfl rfl ?_
            refine g_iconst cd11_92 rfl ?_
            obtain ⟨x24, hx, h⟩ := bnd h
            refine g_callVZ (L := [some (.ref a1), some (.int 3)]) cd11_93 rfl rfl rfl rfl rfl (O10.o h1) (t_Tape_fail (by omega) h1 hx) ?_
            exact g_iret cd11_96 (Or.inr ⟨rfl, b2i_or _⟩) (by obtain rfl := Option.some.inj h; rfl)
    · have h := ifpE (b2i_t hb) h
      refine g_iconst cd11_18 rfl ?_
      refine g_goto (ls2 := [some (.ref a0), some (.ref a1), some (.ref a2), none, none, none]) cd11_19 rfl rfl ?_
      refine g_istore_n (ls2 := [some (.ref a0), some (.ref a1), some (.ref a2), some (.int 1), none, none]) cd11_23 rfl rfl ?_
      refine g_iload_n cd11_24 rfl rfl ?_
      refine g_if_ne cd11_25 rfl (fun hb => ?_) (fun hb => ?_)
      · exact absurd hb (by decide)
      refine g_iload_n cd11_41 rfl rfl ?_
      refine g_if_eq cd11_42 rfl (fun hb => ?_) (fun hb => ?_)
      · exact absurd hb (by decide)
      refine g_iconst cd11_45 rfl ?_
      refine g_goto (ls2 := [some (.ref a0), some (.ref a1), some (.ref a2), some (.int 1), none, none]) cd11_46 rfl rfl ?_
      refine g_istore (ls2 := [some (.ref a0), some (.ref a1), some (.ref a2), some (.int 1), some (.int (-1)), none]) cd11_57 rfl rfl ?_
      refine g_iload_n cd11_59 rfl rfl ?_
      refine g_if_eq cd11_60 rfl (fun hb => ?_) (fun hb => ?_)
      · exact absurd hb (by decide)
      refine g_iconst cd11_63 rfl ?_
      refine g_goto (ls2 := [some (.ref a0), some (.ref a1), some (.ref a2), some (.int 1), some (.int (-1)), none]) cd11_64 rfl rfl ?_
      refine g_istore (ls2 := [some (.ref a0), some (.ref a1), some (.ref a2), some (.int 1), some (.int (-1)), some (.int (-1))]) cd11_75 rfl rfl ?_
      refine g_iload_n cd11_77 rfl rfl ?_
      refine g_if_ne cd11_78 rfl (fun hb => ?_) (fun hb => ?_)
      · exact absurd hb (by decide)
      refine g_aload_n cd11_97 rfl rfl ?_
      refine g_getI cd11_98 rfl (O1.o h0) ?_
      refine g_bipush cd11_101 rfl ?_
      refine g_icmp_lt cd11_103 rfl (fun hb => ?_) (fun hb => ?_)
      · have h := ifpE hb h
        refine g_iload_n cd11_112 rfl rfl ?_
        refine g_if_eq cd11_113 rfl (fun hb => ?_) (fun hb => ?_)
        · exact absurd hb (by decide)
        refine g_aload_n cd11_116 rfl rfl ?_
        refine g_aload_n cd11_117 rfl rfl ?_
        obtain ⟨x25, hx, h⟩ := bnd h
        refine g_callVZ (L := [some (.ref a0), some (.ref a1), none]) cd11_118 rfl rfl rfl rfl rfl (O1.o h0) (t_Book_readWork (by omega) h0 h1 hx) ?_
        exact g_iret cd11_121 (Or.inr ⟨rfl, b2i_or _⟩) (by obtain rfl := Option.some.inj h; rfl)
      · have h := ifnE hb h
        refine g_aload_n cd11_106 rfl rfl ?_
        refine g_iconst cd11_107 rfl ?_
        obtain ⟨x26, hx, h⟩ := bnd h
        refine g_callVZ (L := [some (.ref a1), some (.int 4)]) cd11_108 rfl rfl rfl rfl rfl (O10.o h1) (t_Tape_fail (by omega) h1 hx) ?_
        exact g_iret cd11_111 (Or.inr ⟨rfl, b2i_or _⟩) (by obtain rfl := Option.some.inj h; rfl)
  · have h := ifpE (b2i_t hb) h
    refine g_iconst cd11_18 rfl ?_
    refine g_goto (ls2 := [some (.ref a0), some (.ref a1), some (.ref a2), none, none, none]) cd11_19 rfl rfl ?_
    refine g_istore_n (ls2 := [some (.ref a0), some (.ref a1), some (.ref a2), some (.int 1), none, none]) cd11_23 rfl rfl ?_
    refine g_iload_n cd11_24 rfl rfl ?_
    refine g_if_ne cd11_25 rfl (fun hb => ?_) (fun hb => ?_)
    · exact absurd hb (by decide)
    refine g_iload_n cd11_41 rfl rfl ?_
    refine g_if_eq cd11_42 rfl (fun hb => ?_) (fun hb => ?_)
    · exact absurd hb (by decide)
    refine g_iconst cd11_45 rfl ?_
    refine g_goto (ls2 := [some (.ref a0), some (.ref a1), some (.ref a2), some (.int 1), none, none]) cd11_46 rfl rfl ?_
    refine g_istore (ls2 := [some (.ref a0), some (.ref a1), some (.ref a2), some (.int 1), some (.int (-1)), none]) cd11_57 rfl rfl ?_
    refine g_iload_n cd11_59 rfl rfl ?_
    refine g_if_eq cd11_60 rfl (fun hb => ?_) (fun hb => ?_)
    · exact absurd hb (by decide)
    refine g_iconst cd11_63 rfl ?_
    refine g_goto (ls2 := [some (.ref a0), some (.ref a1), some (.ref a2), some (.int 1), some (.int (-1)), none]) cd11_64 rfl rfl ?_
    refine g_istore (ls2 := [some (.ref a0), some (.ref a1), some (.ref a2), some (.int 1), some (.int (-1)), some (.int (-1))]) cd11_75 rfl rfl ?_
    refine g_iload_n cd11_77 rfl rfl ?_
    refine g_if_ne cd11_78 rfl (fun hb => ?_) (fun hb => ?_)
    · exact absurd hb (by decide)
    refine g_aload_n cd11_97 rfl rfl ?_
    refine g_getI cd11_98 rfl (O1.o h0) ?_
    refine g_bipush cd11_101 rfl ?_
    refine g_icmp_lt cd11_103 rfl (fun hb => ?_) (fun hb => ?_)
    · have h := ifpE hb h
      refine g_iload_n cd11_112 rfl rfl ?_
      refine g_if_eq cd11_113 rfl (fun hb => ?_) (fun hb => ?_)
      · exact absurd hb (by decide)
      refine g_aload_n cd11_116 rfl rfl ?_
      refine g_aload_n cd11_117 rfl rfl ?_
      obtain ⟨x27, hx, h⟩ := bnd h
      refine g_callVZ (L := [some (.ref a0), some (.ref a1), none]) cd11_118 rfl rfl rfl rfl rfl (O1.o h0) (t_Book_readWork (by omega) h0 h1 hx) ?_
      exact g_iret cd11_121 (Or.inr ⟨rfl, b2i_or _⟩) (by obtain rfl := Option.some.inj h; rfl)
    · have h := ifnE hb h
      refine g_aload_n cd11_106 rfl rfl ?_
      refine g_iconst cd11_107 rfl ?_
      obtain ⟨x28, hx, h⟩ := bnd h
      refine g_callVZ (L := [some (.ref a1), some (.int 4)]) cd11_108 rfl rfl rfl rfl rfl (O10.o h1) (t_Tape_fail (by omega) h1 hx) ?_
      exact g_iret cd11_111 (Or.inr ⟨rfl, b2i_or _⟩) (by obtain rfl := Option.some.inj h; rfl)
/-! HiddenOrLost$Tape.takeSign(I)Z -/
theorem cd120_0 : code9 120 0 = some (0, .aload_n 0, [1], .null, []) := rfl
theorem cd120_1 : code9 120 1 = some (0, .getfield 42, [3, 10, 9, 0], .null, []) := rfl
theorem cd120_4 : code9 120 4 = some (0, .iload_n 1, [1], .null, []) := rfl
theorem cd120_5 : code9 120 5 = some (0, .if_icmp .eq 9, [3, 14], .null, []) := rfl
theorem cd120_8 : code9 120 8 = some (0, .aload_n 0, [1], .null, []) := rfl
theorem cd120_9 : code9 120 9 = some (0, .iconst 1, [1], .int 1, []) := rfl
theorem cd120_10 : code9 120 10 = some (0, .invokevirtual 117, [3, 116, 2, 1, 3, 2, 10, 0], .null, []) := rfl
theorem cd120_13 : code9 120 13 = some (0, .ireturn, [1, 3], .null, []) := rfl
theorem cd120_14 : code9 120 14 = some (0, .aload_n 0, [1], .null, []) := rfl
theorem cd120_15 : code9 120 15 = some (0, .invokevirtual 94, [3, 114, 1, 1, 0, 1, 10, 0], .null, []) := rfl
theorem cd120_18 : code9 120 18 = some (0, .iconst 1, [1], .int 1, []) := rfl
theorem cd120_19 : code9 120 19 = some (0, .ireturn, [1, 3], .null, []) := rfl
def Tape_takeSign (a0 : Nat) (l1 : Int32) (I : FI) (J : FJ) : Option (Bool × FI × FJ) := if (I a0 9) = l1 then (Option.bind (Tape_step a0 I J) fun x1 => (some (true, x1.1, x1.2))) else (Option.bind (Tape_fail a0 1 I) fun x2 => (some (x2.1, x2.2, J)))
set_option maxRecDepth 8000 in
theorem t_Tape_takeSign {d : Nat} {a0 : Nat} {c : Nat × Nat} {S : Nat → Nat × Nat} {P : Nat → Nat → Option Nat} {I : FI} {J : FJ} {l1 : Int32} {r : Bool × FI × FJ} (hd : 1 ≤ d) (h0 : O10 S P a0) (h : Tape_takeSign a0 l1 I J = some r) : Go d M_Tape_takeSign 0 [some (.ref a0), some (.int l1)] [] (c, S, I, J, P) (some (.int (b2i r.1)), false, (c, S, r.2.1, r.2.2, P)) := by
  obtain ⟨d, rfl⟩ : ∃ e, d = e + 1 := ⟨d - 1, by omega⟩
  unfold Tape_takeSign at h
  refine g_aload_n cd120_0 rfl rfl ?_
  refine g_getI cd120_1 rfl (O10.o h0) ?_
  refine g_iload_n cd120_4 rfl rfl ?_
  refine g_icmp_eq cd120_5 rfl (fun hb => ?_) (fun hb => ?_)
  · have h := ifpE hb h
    refine g_aload_n cd120_14 rfl rfl ?_
    obtain ⟨x1, hx, h⟩ := bnd h
    refine g_callVV (L := [some (.ref a0)]) cd120_15 rfl rfl rfl rfl rfl (O10.o h0) (t_Tape_step (by omega) h0 hx) ?_
    refine g_iconst cd120_18 rfl ?_
    exact g_iret cd120_19 (Or.inr ⟨rfl, Or.inr rfl⟩) (by obtain rfl := Option.some.inj h; rfl)
  · have h := ifnE hb h
    refine g_aload_n cd120_8 rfl rfl ?_
    refine g_iconst cd120_9 rfl ?_
    obtain ⟨x2, hx, h⟩ := bnd h
    refine g_callVZ (L := [some (.ref a0), some (.int 1)]) cd120_10 rfl rfl rfl rfl rfl (O10.o h0) (t_Tape_fail (by omega) h0 hx) ?_
    exact g_iret cd120_13 (Or.inr ⟨rfl, b2i_or _⟩) (by obtain rfl := Option.some.inj h; rfl)
/-! HiddenOrLost$Book.read(LHiddenOrLost$Tape;LHiddenOrLost$Land;)Z -/
theorem cd10_0 : code9 10 0 = some (0, .aload_n 0, [1], .null, []) := rfl
theorem cd10_1 : code9 10 1 = some (0, .iconst 0, [1], .int 0, []) := rfl
theorem cd10_2 : code9 10 2 = some (0, .putfield 24, [3, 1, 4, 0], .null, []) := rfl
theorem cd10_5 : code9 10 5 = some (0, .aload_n 1, [1], .null, []) := rfl
theorem cd10_6 : code9 10 6 = some (0, .sipush 400, [3], .int 400, []) := rfl
theorem cd10_9 : code9 10 9 = some (0, .invokevirtual 31, [3, 105, 2, 1, 0, 3, 10, 0], .null, []) := rfl
theorem cd10_12 : code9 10 12 = some (0, .iconst 0, [1], .int 0, []) := rfl
theorem cd10_13 : code9 10 13 = some (0, .istore_n 3, [1], .null, []) := rfl
theorem cd10_14 : code9 10 14 = some (5, .iload_n 3, [1], .null, []) := rfl
theorem cd10_15 : code9 10 15 = some (0, .sipush 400, [3], .int 400, []) := rfl
theorem cd10_18 : code9 10 18 = some (0, .if_icmp .ge 46, [3, 64], .null, []) := rfl
theorem cd10_21 : code9 10 21 = some (0, .aload_n 1, [1], .null, []) := rfl
theorem cd10_22 : code9 10 22 = some (0, .getfield 37, [3, 10, 9, 0], .null, []) := rfl
theorem cd10_25 : code9 10 25 = some (0, .ifCond .eq 39, [3, 64], .null, []) := rfl
theorem cd10_28 : code9 10 28 = some (0, .aload_n 0, [1], .null, []) := rfl
theorem cd10_29 : code9 10 29 = some (0, .aload_n 1, [1], .null, []) := rfl
theorem cd10_30 : code9 10 30 = some (0, .aload_n 2, [1], .null, []) := rfl
theorem cd10_31 : code9 10 31 = some (0, .invokevirtual 40, [3, 11, 3, 1, 3, 6, 1, 0], .null, []) := rfl
theorem cd10_34 : code9 10 34 = some (0, .ifCond .eq 12, [3, 46], .null, []) := rfl
theorem cd10_37 : code9 10 37 = some (0, .aload_n 1, [1], .null, []) := rfl
theorem cd10_38 : code9 10 38 = some (0, .bipush 59, [2], .int 59, []) := rfl
theorem cd10_40 : code9 10 40 = some (0, .invokevirtual 44, [3, 120, 2, 1, 3, 2, 10, 0], .null, []) := rfl
theorem cd10_43 : code9 10 43 = some (0, .ifCond .ne 5, [3, 48], .null, []) := rfl
theorem cd10_46 : code9 10 46 = some (5, .iconst 0, [1], .int 0, []) := rfl
theorem cd10_47 : code9 10 47 = some (0, .ireturn, [1, 3], .null, []) := rfl
theorem cd10_48 : code9 10 48 = some (0, .aload_n 0, [1], .null, []) := rfl
theorem cd10_49 : code9 10 49 = some (0, .dup, [1], .null, []) := rfl
theorem cd10_50 : code9 10 50 = some (0, .getfield 24, [3, 1, 4, 0], .null, []) := rfl
theorem cd10_53 : code9 10 53 = some (0, .iconst 1, [1], .int 1, []) := rfl
theorem cd10_54 : code9 10 54 = some (0, .iadd, [1], .null, []) := rfl
theorem cd10_55 : code9 10 55 = some (0, .putfield 24, [3, 1, 4, 0], .null, []) := rfl
theorem cd10_58 : code9 10 58 = some (0, .iinc 3 1, [3], .int 1, []) := rfl
theorem cd10_61 : code9 10 61 = some (0, .goto (-47), [3, 14, 4], .null, []) := rfl
theorem cd10_64 : code9 10 64 = some (5, .iconst 1, [1], .int 1, []) := rfl
theorem cd10_65 : code9 10 65 = some (0, .ireturn, [1, 3], .null, []) := rfl
def Book_read_14 (N : Nat) (a0 a1 a2 : Nat) : Nat → Int32 → FI → FJ → Option (Bool × FI × FJ)
  | 0 => fun _ _ _ => none
  | n + 1 => fun l3 I J => if 400 ≤ l3 then (some (true, I, J)) else (if (I a1 9) = 0 then (some (true, I, J)) else (Option.bind (Book_readLine N a0 a1 a2 I J) fun x3 => (if x3.1 then (Option.bind (Tape_takeSign a1 59 x3.2.1 x3.2.2) fun x4 => (if x4.1 then (Option.bind (some (up2 x4.2.1 a0 4 ((x4.2.1 a0 4) + 1))) fun I5 => (Book_read_14 N a0 a1 a2 n (l3 + 1) I5 x4.2.2)) else (some (false, x4.2.1, x4.2.2)))) else (some (false, x3.2.1, x3.2.2)))))
def Book_read (N : Nat) (a0 a1 a2 : Nat) (I : FI) (J : FJ) : Option (Bool × FI × FJ) := Option.bind (some (up2 I a0 4 (0 : Int32))) fun I1 => (Option.bind (Tape_begin N a1 400 I1 J) fun x2 => (Book_read_14 N a0 a1 a2 N 0 x2.1 x2.2))
set_option maxRecDepth 8000 in
theorem t_Book_read_14 {d : Nat} {N : Nat} {a0 a1 a2 : Nat} {c : Nat × Nat} {S : Nat → Nat × Nat} {P : Nat → Nat → Option Nat} {r : Bool × FI × FJ} (hd : 5 ≤ (d + 1)) (h0 : O1 S P a0) (h1 : O10 S P a1) (h2 : O6 S P a2) : ∀ (n : Nat) (l3 : Int32) (I : FI) (J : FJ), Book_read_14 N a0 a1 a2 n l3 I J = some r → Go (d + 1) M_Book_read 14 [some (.ref a0), some (.ref a1), some (.ref a2), some (.int l3)] [] (c, S, I, J, P) (some (.int (b2i r.1)), false, (c, S, r.2.1, r.2.2, P)) := by
  intro n
  induction n with
  | zero =>
    intro l3 I J h
    cases h
  | succ n ih =>
    intro l3 I J h
    unfold Book_read_14 at h
    refine g_iload_n cd10_14 rfl rfl ?_
    refine g_sipush cd10_15 rfl ?_
    refine g_icmp_ge cd10_18 rfl (fun hb => ?_) (fun hb => ?_)
    · have h := ifpE hb h
      refine g_iconst cd10_64 rfl ?_
      exact g_iret cd10_65 (Or.inr ⟨rfl, Or.inr rfl⟩) (by obtain rfl := Option.some.inj h; rfl)
    · have h := ifnE hb h
      refine g_aload_n cd10_21 rfl rfl ?_
      refine g_getI cd10_22 rfl (O10.o h1) ?_
      refine g_if_eq cd10_25 rfl (fun hb => ?_) (fun hb => ?_)
      · have h := ifpE hb h
        refine g_iconst cd10_64 rfl ?_
        exact g_iret cd10_65 (Or.inr ⟨rfl, Or.inr rfl⟩) (by obtain rfl := Option.some.inj h; rfl)
      · have h := ifnE hb h
        refine g_aload_n cd10_28 rfl rfl ?_
        refine g_aload_n cd10_29 rfl rfl ?_
        refine g_aload_n cd10_30 rfl rfl ?_
        obtain ⟨x3, hx, h⟩ := bnd h
        refine g_callVZ (L := [some (.ref a0), some (.ref a1), some (.ref a2), none, none, none]) cd10_31 rfl rfl rfl rfl rfl (O1.o h0) (t_Book_readLine (by omega) h0 h1 h2 hx) ?_
        refine g_if_eq cd10_34 rfl (fun hb => ?_) (fun hb => ?_)
        · have h := ifnE (b2i_f hb) h
          refine g_iconst cd10_46 rfl ?_
          exact g_iret cd10_47 (Or.inr ⟨rfl, Or.inl rfl⟩) (by obtain rfl := Option.some.inj h; rfl)
        · have h := ifpE (b2i_t hb) h
          refine g_aload_n cd10_37 rfl rfl ?_
          refine g_bipush cd10_38 rfl ?_
          obtain ⟨x4, hx, h⟩ := bnd h
          refine g_callVZ (L := [some (.ref a1), some (.int 59)]) cd10_40 rfl rfl rfl rfl rfl (O10.o h1) (t_Tape_takeSign (by omega) h1 hx) ?_
          refine g_if_ne cd10_43 rfl (fun hb => ?_) (fun hb => ?_)
          · have h := ifnE (b2i_f hb) h
            refine g_iconst cd10_46 rfl ?_
            exact g_iret cd10_47 (Or.inr ⟨rfl, Or.inl rfl⟩) (by obtain rfl := Option.some.inj h; rfl)
          · have h := ifpE (b2i_t hb) h
            refine g_aload_n cd10_48 rfl rfl ?_
            refine g_dupR cd10_49 rfl ?_
            refine g_getI cd10_50 rfl (O1.o h0) ?_
            refine g_iconst cd10_53 rfl ?_
            refine g_iadd cd10_54 rfl ?_
            obtain ⟨I5, e1, h⟩ := bnd h
            refine G_putI cd10_55 rfl (O1.o h0) (Option.some.inj e1) ?_
            refine g_iinc (ls2 := [some (.ref a0), some (.ref a1), some (.ref a2), some (.int (l3 + 1))]) cd10_58 rfl rfl rfl ?_
            refine g_goto (ls2 := [some (.ref a0), some (.ref a1), some (.ref a2), some (.int (l3 + 1))]) cd10_61 rfl rfl ?_
            exact ih (l3 + 1) I5 x4.2.2 h
set_option maxRecDepth 8000 in
theorem t_Book_read {d : Nat} {N : Nat} {a0 a1 a2 : Nat} {c : Nat × Nat} {S : Nat → Nat × Nat} {P : Nat → Nat → Option Nat} {I : FI} {J : FJ} {r : Bool × FI × FJ} (hd : 5 ≤ d) (h0 : O1 S P a0) (h1 : O10 S P a1) (h2 : O6 S P a2) (h : Book_read N a0 a1 a2 I J = some r) : Go d M_Book_read 0 [some (.ref a0), some (.ref a1), some (.ref a2), none] [] (c, S, I, J, P) (some (.int (b2i r.1)), false, (c, S, r.2.1, r.2.2, P)) := by
  obtain ⟨d, rfl⟩ : ∃ e, d = e + 1 := ⟨d - 1, by omega⟩
  unfold Book_read at h
  refine g_aload_n cd10_0 rfl rfl ?_
  refine g_iconst cd10_1 rfl ?_
  obtain ⟨I1, e1, h⟩ := bnd h
  refine G_putI cd10_2 rfl (O1.o h0) (Option.some.inj e1) ?_
  refine g_aload_n cd10_5 rfl rfl ?_
  refine g_sipush cd10_6 rfl ?_
  obtain ⟨x2, hx, h⟩ := bnd h
  refine g_callVV (L := [some (.ref a1), some (.int 400), none]) cd10_9 rfl rfl rfl rfl rfl (O10.o h1) (t_Tape_begin (by omega) h1 hx) ?_
  refine g_iconst cd10_12 rfl ?_
  refine g_istore_n (ls2 := [some (.ref a0), some (.ref a1), some (.ref a2), some (.int 0)]) cd10_13 rfl rfl ?_
  exact t_Book_read_14 hd h0 h1 h2 _ 0 x2.1 x2.2 h
/-! HiddenOrLost$Land.hasCell(II)Z -/
theorem cd53_0 : code9 53 0 = some (0, .iload_n 1, [1], .null, []) := rfl
theorem cd53_1 : code9 53 1 = some (0, .ifCond .lt 27, [3, 28], .null, []) := rfl
theorem cd53_4 : code9 53 4 = some (0, .iload_n 1, [1], .null, []) := rfl
theorem cd53_5 : code9 53 5 = some (0, .aload_n 0, [1], .null, []) := rfl
theorem cd53_6 : code9 53 6 = some (0, .getfield 37, [3, 6, 8, 0], .null, []) := rfl
theorem cd53_9 : code9 53 9 = some (0, .if_icmp .ge 19, [3, 28], .null, []) := rfl
theorem cd53_12 : code9 53 12 = some (0, .iload_n 2, [1], .null, []) := rfl
theorem cd53_13 : code9 53 13 = some (0, .ifCond .lt 15, [3, 28], .null, []) := rfl
theorem cd53_16 : code9 53 16 = some (0, .iload_n 2, [1], .null, []) := rfl
theorem cd53_17 : code9 53 17 = some (0, .aload_n 0, [1], .null, []) := rfl
theorem cd53_18 : code9 53 18 = some (0, .getfield 41, [3, 6, 9, 0], .null, []) := rfl
theorem cd53_21 : code9 53 21 = some (0, .if_icmp .ge 7, [3, 28], .null, []) := rfl
theorem cd53_24 : code9 53 24 = some (0, .iconst 1, [1], .int 1, []) := rfl
theorem cd53_25 : code9 53 25 = some (0, .goto 4, [3, 29, 3], .null, []) := rfl
theorem cd53_28 : code9 53 28 = some (4, .iconst 0, [1], .int 0, []) := rfl
theorem cd53_29 : code9 53 29 = some (4, .ireturn, [1, 3], .null, []) := rfl
def Land_hasCell (a0 : Nat) (l1 : Int32) (l2 : Int32) (I : FI) : Bool := if l1 < 0 then (false) else (if (I a0 8) ≤ l1 then (false) else (if l2 < 0 then (false) else (if (I a0 9) ≤ l2 then (false) else (true))))
set_option maxRecDepth 8000 in
theorem t_Land_hasCell {d : Nat} {a0 : Nat} {c : Nat × Nat} {S : Nat → Nat × Nat} {P : Nat → Nat → Option Nat} {I : FI} {J : FJ} {l1 : Int32} {l2 : Int32} {r : Bool} (hd : 0 ≤ d) (h0 : O6 S P a0) (h : Land_hasCell a0 l1 l2 I = r) : Go d M_Land_hasCell 0 [some (.ref a0), some (.int l1), some (.int l2)] [] (c, S, I, J, P) (some (.int (b2i r)), false, (c, S, I, J, P)) := by
  unfold Land_hasCell at h
  refine g_iload_n cd53_0 rfl rfl ?_
  refine g_if_lt cd53_1 rfl (fun hb => ?_) (fun hb => ?_)
  · have h := ifpE hb h
    refine g_iconst cd53_28 rfl ?_
    exact g_iret cd53_29 (Or.inr ⟨rfl, Or.inl rfl⟩) (by subst h; rfl)
  · have h := ifnE hb h
    refine g_iload_n cd53_4 rfl rfl ?_
    refine g_aload_n cd53_5 rfl rfl ?_
    refine g_getI cd53_6 rfl (O6.o h0) ?_
    refine g_icmp_ge cd53_9 rfl (fun hb => ?_) (fun hb => ?_)
    · have h := ifpE hb h
      refine g_iconst cd53_28 rfl ?_
      exact g_iret cd53_29 (Or.inr ⟨rfl, Or.inl rfl⟩) (by subst h; rfl)
    · have h := ifnE hb h
      refine g_iload_n cd53_12 rfl rfl ?_
      refine g_if_lt cd53_13 rfl (fun hb => ?_) (fun hb => ?_)
      · have h := ifpE hb h
        refine g_iconst cd53_28 rfl ?_
        exact g_iret cd53_29 (Or.inr ⟨rfl, Or.inl rfl⟩) (by subst h; rfl)
      · have h := ifnE hb h
        refine g_iload_n cd53_16 rfl rfl ?_
        refine g_aload_n cd53_17 rfl rfl ?_
        refine g_getI cd53_18 rfl (O6.o h0) ?_
        refine g_icmp_ge cd53_21 rfl (fun hb => ?_) (fun hb => ?_)
        · have h := ifpE hb h
          refine g_iconst cd53_28 rfl ?_
          exact g_iret cd53_29 (Or.inr ⟨rfl, Or.inl rfl⟩) (by subst h; rfl)
        · have h := ifnE hb h
          refine g_iconst cd53_24 rfl ?_
          refine g_goto (ls2 := [some (.ref a0), some (.int l1), some (.int l2)]) cd53_25 rfl rfl ?_
          exact g_iret cd53_29 (Or.inr ⟨rfl, Or.inr rfl⟩) (by subst h; rfl)
/-! HiddenOrLost$State.canDig(II)Z -/
theorem cd85_0 : code9 85 0 = some (0, .bipush 6, [2], .int 6, []) := rfl
theorem cd85_2 : code9 85 2 = some (0, .iload_n 2, [1], .null, []) := rfl
theorem cd85_3 : code9 85 3 = some (0, .imul, [1], .null, []) := rfl
theorem cd85_4 : code9 85 4 = some (0, .iload_n 1, [1], .null, []) := rfl
theorem cd85_5 : code9 85 5 = some (0, .iadd, [1], .null, []) := rfl
theorem cd85_6 : code9 85 6 = some (0, .istore_n 3, [1], .null, []) := rfl
theorem cd85_7 : code9 85 7 = some (0, .iload_n 3, [1], .null, []) := rfl
theorem cd85_8 : code9 85 8 = some (0, .ifCond .lt 24, [3, 32], .null, []) := rfl
theorem cd85_11 : code9 85 11 = some (0, .iload_n 3, [1], .null, []) := rfl
theorem cd85_12 : code9 85 12 = some (0, .bipush 36, [2], .int 36, []) := rfl
theorem cd85_14 : code9 85 14 = some (0, .if_icmp .ge 18, [3, 32], .null, []) := rfl
theorem cd85_17 : code9 85 17 = some (0, .aload_n 0, [1], .null, []) := rfl
theorem cd85_18 : code9 85 18 = some (0, .getfield 36, [3, 9, 8, 2], .null, []) := rfl
theorem cd85_21 : code9 85 21 = some (0, .iload_n 3, [1], .null, []) := rfl
theorem cd85_22 : code9 85 22 = some (0, .iaload, [1], .null, []) := rfl
theorem cd85_23 : code9 85 23 = some (0, .bipush 10, [2], .int 10, []) := rfl
theorem cd85_25 : code9 85 25 = some (0, .if_icmp .ge 7, [3, 32], .null, []) := rfl
theorem cd85_28 : code9 85 28 = some (0, .iconst 1, [1], .int 1, []) := rfl
theorem cd85_29 : code9 85 29 = some (0, .goto 4, [3, 33, 4], .null, []) := rfl
theorem cd85_32 : code9 85 32 = some (5, .iconst 0, [1], .int 0, []) := rfl
theorem cd85_33 : code9 85 33 = some (5, .ireturn, [1, 3], .null, []) := rfl
def State_canDig (a0 : Nat) (l1 : Int32) (l2 : Int32) (I : FI) : Option (Bool) := if ((6 * l2) + l1) < 0 then (some false) else (if 36 ≤ ((6 * l2) + l1) then (some false) else (if in9 ((6 * l2) + l1) 36 then (if 10 ≤ (I (a0 + 9) (((6 * l2) + l1).toNatClampNeg)) then (some false) else (some true)) else none))
set_option maxRecDepth 8000 in
theorem t_State_canDig {d : Nat} {a0 : Nat} {c : Nat × Nat} {S : Nat → Nat × Nat} {P : Nat → Nat → Option Nat} {I : FI} {J : FJ} {l1 : Int32} {l2 : Int32} {r : Bool} (hd : 0 ≤ d) (h0 : O9 S P a0) (h : State_canDig a0 l1 l2 I = some r) : Go d M_State_canDig 0 [some (.ref a0), some (.int l1), some (.int l2), none] [] (c, S, I, J, P) (some (.int (b2i r)), false, (c, S, I, J, P)) := by
  unfold State_canDig at h
  refine g_bipush cd85_0 rfl ?_
  refine g_iload_n cd85_2 rfl rfl ?_
  refine g_imul cd85_3 rfl ?_
  refine g_iload_n cd85_4 rfl rfl ?_
  refine g_iadd cd85_5 rfl ?_
  refine g_istore_n (ls2 := [some (.ref a0), some (.int l1), some (.int l2), some (.int ((6 * l2) + l1))]) cd85_6 rfl rfl ?_
  refine g_iload_n cd85_7 rfl rfl ?_
  refine g_if_lt cd85_8 rfl (fun hb => ?_) (fun hb => ?_)
  · have h := ifpE hb h
    refine g_iconst cd85_32 rfl ?_
    exact g_iret cd85_33 (Or.inr ⟨rfl, Or.inl rfl⟩) (by obtain rfl := Option.some.inj h; rfl)
  · have h := ifnE hb h
    refine g_iload_n cd85_11 rfl rfl ?_
    refine g_bipush cd85_12 rfl ?_
    refine g_icmp_ge cd85_14 rfl (fun hb => ?_) (fun hb => ?_)
    · have h := ifpE hb h
      refine g_iconst cd85_32 rfl ?_
      exact g_iret cd85_33 (Or.inr ⟨rfl, Or.inl rfl⟩) (by obtain rfl := Option.some.inj h; rfl)
    · have h := ifnE hb h
      refine g_aload_n cd85_17 rfl rfl ?_
      refine g_getP cd85_18 rfl (O9.o h0) (show P a0 8 = some (a0 + 9) from O9.p8 h0) ?_
      refine g_iload_n cd85_21 rfl rfl ?_
      obtain ⟨hg1, h⟩ := grd h
      refine G_iald cd85_22 rfl (show S (a0 + 9) = (1, 36) from O9.s8 h0) hg1 ?_
      refine g_bipush cd85_23 rfl ?_
      refine g_icmp_ge cd85_25 rfl (fun hb => ?_) (fun hb => ?_)
      · have h := ifpE hb h
        refine g_iconst cd85_32 rfl ?_
        exact g_iret cd85_33 (Or.inr ⟨rfl, Or.inl rfl⟩) (by obtain rfl := Option.some.inj h; rfl)
      · have h := ifnE hb h
        refine g_iconst cd85_28 rfl ?_
        refine g_goto (ls2 := [some (.ref a0), some (.int l1), some (.int l2), some (.int ((6 * l2) + l1))]) cd85_29 rfl rfl ?_
        exact g_iret cd85_33 (Or.inr ⟨rfl, Or.inr rfl⟩) (by obtain rfl := Option.some.inj h; rfl)
/-! HiddenOrLost$State.whyNotMoved(I)I -/
theorem cd91_0 : code9 91 0 = some (0, .aload_n 0, [1], .null, []) := rfl
theorem cd91_1 : code9 91 1 = some (0, .getfield 21, [3, 9, 3, 2], .null, []) := rfl
theorem cd91_4 : code9 91 4 = some (0, .iload_n 1, [1], .null, []) := rfl
theorem cd91_5 : code9 91 5 = some (0, .iaload, [1], .null, []) := rfl
theorem cd91_6 : code9 91 6 = some (0, .iconst 1, [1], .int 1, []) := rfl
theorem cd91_7 : code9 91 7 = some (0, .if_icmp .ne 7, [3, 14], .null, []) := rfl
theorem cd91_10 : code9 91 10 = some (0, .iconst 0, [1], .int 0, []) := rfl
theorem cd91_11 : code9 91 11 = some (0, .goto 4, [3, 15, 2], .null, []) := rfl
theorem cd91_14 : code9 91 14 = some (0, .iconst 1, [1], .int 1, []) := rfl
theorem cd91_15 : code9 91 15 = some (3, .ireturn, [1, 1], .null, []) := rfl
def State_whyNotMoved (a0 : Nat) (l1 : Int32) (I : FI) : Option (Int32) := if in9 l1 10 then (if (I (a0 + 4) l1.toNatClampNeg) = 1 then (some 0) else (some 1)) else none
set_option maxRecDepth 8000 in
theorem t_State_whyNotMoved {d : Nat} {a0 : Nat} {c : Nat × Nat} {S : Nat → Nat × Nat} {P : Nat → Nat → Option Nat} {I : FI} {J : FJ} {l1 : Int32} {r : Int32} (hd : 0 ≤ d) (h0 : O9 S P a0) (h : State_whyNotMoved a0 l1 I = some r) : Go d M_State_whyNotMoved 0 [some (.ref a0), some (.int l1)] [] (c, S, I, J, P) (some (.int r), false, (c, S, I, J, P)) := by
  unfold State_whyNotMoved at h
  refine g_aload_n cd91_0 rfl rfl ?_
  refine g_getP cd91_1 rfl (O9.o h0) (show P a0 3 = some (a0 + 4) from O9.p3 h0) ?_
  refine g_iload_n cd91_4 rfl rfl ?_
  obtain ⟨hg1, h⟩ := grd h
  refine G_iald cd91_5 rfl (show S (a0 + 4) = (1, 10) from O9.s3 h0) hg1 ?_
  refine g_iconst cd91_6 rfl ?_
  refine g_icmp_ne cd91_7 rfl (fun hb => ?_) (fun hb => ?_)
  · have h := ifpE hb h
    refine g_iconst cd91_10 rfl ?_
    refine g_goto (ls2 := [some (.ref a0), some (.int l1)]) cd91_11 rfl rfl ?_
    exact g_iret cd91_15 (Or.inl rfl) (by obtain rfl := Option.some.inj h; rfl)
  · have h := ifnE hb h
    refine g_iconst cd91_14 rfl ?_
    exact g_iret cd91_15 (Or.inl rfl) (by obtain rfl := Option.some.inj h; rfl)
/-! HiddenOrLost$Book.behind(II)I -/
theorem cd19_0 : code9 19 0 = some (0, .iload_n 1, [1], .null, []) := rfl
theorem cd19_1 : code9 19 1 = some (0, .ifCond .ne 7, [3, 8], .null, []) := rfl
theorem cd19_4 : code9 19 4 = some (0, .iconst 0, [1], .int 0, []) := rfl
theorem cd19_5 : code9 19 5 = some (0, .goto 6, [3, 11, 2], .null, []) := rfl
theorem cd19_8 : code9 19 8 = some (0, .iload_n 0, [1], .null, []) := rfl
theorem cd19_9 : code9 19 9 = some (0, .iload_n 1, [1], .null, []) := rfl
theorem cd19_10 : code9 19 10 = some (0, .iadd, [1], .null, []) := rfl
theorem cd19_11 : code9 19 11 = some (3, .ireturn, [1, 1], .null, []) := rfl
def Book_behind (l0 : Int32) (l1 : Int32) : Int32 := if l1 = 0 then (0) else (l0 + l1)
set_option maxRecDepth 8000 in
theorem t_Book_behind {d : Nat} {c : Nat × Nat} {S : Nat → Nat × Nat} {P : Nat → Nat → Option Nat} {I : FI} {J : FJ} {l0 : Int32} {l1 : Int32} {r : Int32} (hd : 0 ≤ d) (h : Book_behind l0 l1 = r) : Go d M_Book_behind 0 [some (.int l0), some (.int l1)] [] (c, S, I, J, P) (some (.int r), false, (c, S, I, J, P)) := by
  unfold Book_behind at h
  refine g_iload_n cd19_0 rfl rfl ?_
  refine g_if_ne cd19_1 rfl (fun hb => ?_) (fun hb => ?_)
  · have h := ifpE hb h
    refine g_iconst cd19_4 rfl ?_
    refine g_goto (ls2 := [some (.int l0), some (.int l1)]) cd19_5 rfl rfl ?_
    exact g_iret cd19_11 (Or.inl rfl) (by subst h; rfl)
  · have h := ifnE hb h
    refine g_iload_n cd19_8 rfl rfl ?_
    refine g_iload_n cd19_9 rfl rfl ?_
    refine g_iadd cd19_10 rfl ?_
    exact g_iret cd19_11 (Or.inl rfl) (by subst h; rfl)
/-! HiddenOrLost$State.whyNotGiven(II)I -/
theorem cd94_0 : code9 94 0 = some (0, .aload_n 0, [1], .null, []) := rfl
theorem cd94_1 : code9 94 1 = some (0, .getfield 21, [3, 9, 3, 2], .null, []) := rfl
theorem cd94_4 : code9 94 4 = some (0, .iload_n 1, [1], .null, []) := rfl
theorem cd94_5 : code9 94 5 = some (0, .iaload, [1], .null, []) := rfl
theorem cd94_6 : code9 94 6 = some (0, .iconst 1, [1], .int 1, []) := rfl
theorem cd94_7 : code9 94 7 = some (0, .if_icmp .eq 5, [3, 12], .null, []) := rfl
theorem cd94_10 : code9 94 10 = some (0, .iconst 1, [1], .int 1, []) := rfl
theorem cd94_11 : code9 94 11 = some (0, .ireturn, [1, 1], .null, []) := rfl
theorem cd94_12 : code9 94 12 = some (0, .aload_n 0, [1], .null, []) := rfl
theorem cd94_13 : code9 94 13 = some (0, .getfield 24, [3, 9, 4, 2], .null, []) := rfl
theorem cd94_16 : code9 94 16 = some (0, .iload_n 1, [1], .null, []) := rfl
theorem cd94_17 : code9 94 17 = some (0, .iaload, [1], .null, []) := rfl
theorem cd94_18 : code9 94 18 = some (0, .iload_n 2, [1], .null, []) := rfl
theorem cd94_19 : code9 94 19 = some (0, .if_icmp .ne 7, [3, 26], .null, []) := rfl
theorem cd94_22 : code9 94 22 = some (0, .iconst 2, [1], .int 2, []) := rfl
theorem cd94_23 : code9 94 23 = some (0, .goto 4, [3, 27, 3], .null, []) := rfl
theorem cd94_26 : code9 94 26 = some (0, .iconst 0, [1], .int 0, []) := rfl
theorem cd94_27 : code9 94 27 = some (4, .ireturn, [1, 1], .null, []) := rfl
def State_whyNotGiven (a0 : Nat) (l1 : Int32) (l2 : Int32) (I : FI) : Option (Int32) := if in9 l1 10 then (if (I (a0 + 4) l1.toNatClampNeg) = 1 then (if (I (a0 + 5) l1.toNatClampNeg) = l2 then (some 2) else (some 0)) else (some 1)) else none
set_option maxRecDepth 8000 in
theorem t_State_whyNotGiven {d : Nat} {a0 : Nat} {c : Nat × Nat} {S : Nat → Nat × Nat} {P : Nat → Nat → Option Nat} {I : FI} {J : FJ} {l1 : Int32} {l2 : Int32} {r : Int32} (hd : 0 ≤ d) (h0 : O9 S P a0) (h : State_whyNotGiven a0 l1 l2 I = some r) : Go d M_State_whyNotGiven 0 [some (.ref a0), some (.int l1), some (.int l2)] [] (c, S, I, J, P) (some (.int r), false, (c, S, I, J, P)) := by
  unfold State_whyNotGiven at h
  refine g_aload_n cd94_0 rfl rfl ?_
  refine g_getP cd94_1 rfl (O9.o h0) (show P a0 3 = some (a0 + 4) from O9.p3 h0) ?_
  refine g_iload_n cd94_4 rfl rfl ?_
  obtain ⟨hg1, h⟩ := grd h
  refine G_iald cd94_5 rfl (show S (a0 + 4) = (1, 10) from O9.s3 h0) hg1 ?_
  refine g_iconst cd94_6 rfl ?_
  refine g_icmp_eq cd94_7 rfl (fun hb => ?_) (fun hb => ?_)
  · have h := ifpE hb h
    refine g_aload_n cd94_12 rfl rfl ?_
    refine g_getP cd94_13 rfl (O9.o h0) (show P a0 4 = some (a0 + 5) from O9.p4 h0) ?_
    refine g_iload_n cd94_16 rfl rfl ?_
    refine G_iald cd94_17 rfl (show S (a0 + 5) = (1, 10) from O9.s4 h0) hg1 ?_
    refine g_iload_n cd94_18 rfl rfl ?_
    refine g_icmp_ne cd94_19 rfl (fun hb => ?_) (fun hb => ?_)
    · have h := ifpE hb h
      refine g_iconst cd94_22 rfl ?_
      refine g_goto (ls2 := [some (.ref a0), some (.int l1), some (.int l2)]) cd94_23 rfl rfl ?_
      exact g_iret cd94_27 (Or.inl rfl) (by obtain rfl := Option.some.inj h; rfl)
    · have h := ifnE hb h
      refine g_iconst cd94_26 rfl ?_
      exact g_iret cd94_27 (Or.inl rfl) (by obtain rfl := Option.some.inj h; rfl)
  · have h := ifnE hb h
    refine g_iconst cd94_10 rfl ?_
    exact g_iret cd94_11 (Or.inl rfl) (by obtain rfl := Option.some.inj h; rfl)
/-! HiddenOrLost$Book.whyWrong(LHiddenOrLost$Land;LHiddenOrLost$State;I)I -/
theorem cd18_0 : code9 18 0 = some (0, .aload_n 0, [1], .null, []) := rfl
theorem cd18_1 : code9 18 1 = some (0, .getfield 15, [3, 1, 1, 2], .null, []) := rfl
theorem cd18_4 : code9 18 4 = some (0, .iload_n 3, [1], .null, []) := rfl
theorem cd18_5 : code9 18 5 = some (0, .iaload, [1], .null, []) := rfl
theorem cd18_6 : code9 18 6 = some (0, .istore 4, [2], .null, []) := rfl
theorem cd18_8 : code9 18 8 = some (0, .aload_n 1, [1], .null, []) := rfl
theorem cd18_9 : code9 18 9 = some (0, .aload_n 0, [1], .null, []) := rfl
theorem cd18_10 : code9 18 10 = some (0, .getfield 18, [3, 1, 2, 2], .null, []) := rfl
theorem cd18_13 : code9 18 13 = some (0, .iload_n 3, [1], .null, []) := rfl
theorem cd18_14 : code9 18 14 = some (0, .iaload, [1], .null, []) := rfl
theorem cd18_15 : code9 18 15 = some (0, .aload_n 0, [1], .null, []) := rfl
theorem cd18_16 : code9 18 16 = some (0, .getfield 21, [3, 1, 3, 2], .null, []) := rfl
theorem cd18_19 : code9 18 19 = some (0, .iload_n 3, [1], .null, []) := rfl
theorem cd18_20 : code9 18 20 = some (0, .iaload, [1], .null, []) := rfl
theorem cd18_21 : code9 18 21 = some (0, .invokevirtual 111, [3, 53, 3, 1, 3, 3, 6, 0], .null, []) := rfl
theorem cd18_24 : code9 18 24 = some (0, .istore 5, [2], .null, []) := rfl
theorem cd18_26 : code9 18 26 = some (0, .aload_n 0, [1], .null, []) := rfl
theorem cd18_27 : code9 18 27 = some (0, .getfield 9, [3, 1, 0, 2], .null, []) := rfl
theorem cd18_30 : code9 18 30 = some (0, .iload_n 3, [1], .null, []) := rfl
theorem cd18_31 : code9 18 31 = some (0, .iaload, [1], .null, []) := rfl
theorem cd18_32 : code9 18 32 = some (0, .tableswitch 175 18 24 #[44, 79, 91, 103, 125, 175, 143], [44, 207], .null, [(18, 76), (19, 111), (20, 123), (21, 135), (22, 157), (23, 207), (24, 175)]) := rfl
theorem cd18_76 : code9 18 76 = some (0, .iload 5, [2], .null, []) := rfl
theorem cd18_78 : code9 18 78 = some (0, .ifCond .ne 8, [3, 86], .null, []) := rfl
theorem cd18_81 : code9 18 81 = some (0, .bipush 9, [2], .int 9, []) := rfl
theorem cd18_83 : code9 18 83 = some (0, .goto 27, [3, 110, 6], .null, []) := rfl
theorem cd18_86 : code9 18 86 = some (0, .aload_n 2, [1], .null, []) := rfl
theorem cd18_87 : code9 18 87 = some (0, .aload_n 0, [1], .null, []) := rfl
theorem cd18_88 : code9 18 88 = some (0, .getfield 18, [3, 1, 2, 2], .null, []) := rfl
theorem cd18_91 : code9 18 91 = some (0, .iload_n 3, [1], .null, []) := rfl
theorem cd18_92 : code9 18 92 = some (0, .iaload, [1], .null, []) := rfl
theorem cd18_93 : code9 18 93 = some (0, .aload_n 0, [1], .null, []) := rfl
theorem cd18_94 : code9 18 94 = some (0, .getfield 21, [3, 1, 3, 2], .null, []) := rfl
theorem cd18_97 : code9 18 97 = some (0, .iload_n 3, [1], .null, []) := rfl
theorem cd18_98 : code9 18 98 = some (0, .iaload, [1], .null, []) := rfl
theorem cd18_99 : code9 18 99 = some (0, .invokevirtual 114, [3, 85, 3, 1, 3, 4, 9, 0], .null, []) := rfl
theorem cd18_102 : code9 18 102 = some (0, .ifCond .eq 7, [3, 109], .null, []) := rfl
theorem cd18_105 : code9 18 105 = some (0, .iconst 0, [1], .int 0, []) := rfl
theorem cd18_106 : code9 18 106 = some (0, .goto 4, [3, 110, 6], .null, []) := rfl
theorem cd18_109 : code9 18 109 = some (0, .iconst 1, [1], .int 1, []) := rfl
theorem cd18_110 : code9 18 110 = some (7, .ireturn, [1, 1], .null, []) := rfl
theorem cd18_111 : code9 18 111 = some (0, .bipush 10, [2], .int 10, []) := rfl
theorem cd18_113 : code9 18 113 = some (0, .aload_n 2, [1], .null, []) := rfl
theorem cd18_114 : code9 18 114 = some (0, .iload 4, [2], .null, []) := rfl
theorem cd18_116 : code9 18 116 = some (0, .invokevirtual 119, [3, 91, 2, 1, 1, 2, 9, 0], .null, []) := rfl
theorem cd18_119 : code9 18 119 = some (0, .invokestatic 123, [3, 19, 2, 0, 1, 2, 1, 0], .null, []) := rfl
theorem cd18_122 : code9 18 122 = some (0, .ireturn, [1, 1], .null, []) := rfl
theorem cd18_123 : code9 18 123 = some (0, .bipush 20, [2], .int 20, []) := rfl
theorem cd18_125 : code9 18 125 = some (0, .aload_n 2, [1], .null, []) := rfl
theorem cd18_126 : code9 18 126 = some (0, .iload 4, [2], .null, []) := rfl
theorem cd18_128 : code9 18 128 = some (0, .invokevirtual 119, [3, 91, 2, 1, 1, 2, 9, 0], .null, []) := rfl
theorem cd18_131 : code9 18 131 = some (0, .invokestatic 123, [3, 19, 2, 0, 1, 2, 1, 0], .null, []) := rfl
theorem cd18_134 : code9 18 134 = some (0, .ireturn, [1, 1], .null, []) := rfl
theorem cd18_135 : code9 18 135 = some (0, .iload 5, [2], .null, []) := rfl
theorem cd18_137 : code9 18 137 = some (0, .ifCond .ne 8, [3, 145], .null, []) := rfl
theorem cd18_140 : code9 18 140 = some (0, .bipush 39, [2], .int 39, []) := rfl
theorem cd18_142 : code9 18 142 = some (0, .goto 14, [3, 156, 6], .null, []) := rfl
theorem cd18_145 : code9 18 145 = some (0, .bipush 30, [2], .int 30, []) := rfl
theorem cd18_147 : code9 18 147 = some (0, .aload_n 2, [1], .null, []) := rfl
theorem cd18_148 : code9 18 148 = some (0, .iload 4, [2], .null, []) := rfl
theorem cd18_150 : code9 18 150 = some (0, .invokevirtual 119, [3, 91, 2, 1, 1, 2, 9, 0], .null, []) := rfl
theorem cd18_153 : code9 18 153 = some (0, .invokestatic 123, [3, 19, 2, 0, 1, 2, 1, 0], .null, []) := rfl
theorem cd18_156 : code9 18 156 = some (7, .ireturn, [1, 1], .null, []) := rfl
theorem cd18_157 : code9 18 157 = some (0, .bipush 40, [2], .int 40, []) := rfl
theorem cd18_159 : code9 18 159 = some (0, .aload_n 2, [1], .null, []) := rfl
theorem cd18_160 : code9 18 160 = some (0, .iload 4, [2], .null, []) := rfl
theorem cd18_162 : code9 18 162 = some (0, .aload_n 0, [1], .null, []) := rfl
theorem cd18_163 : code9 18 163 = some (0, .getfield 18, [3, 1, 2, 2], .null, []) := rfl
theorem cd18_166 : code9 18 166 = some (0, .iload_n 3, [1], .null, []) := rfl
theorem cd18_167 : code9 18 167 = some (0, .iaload, [1], .null, []) := rfl
theorem cd18_168 : code9 18 168 = some (0, .invokevirtual 127, [3, 94, 3, 1, 1, 3, 9, 0], .null, []) := rfl
theorem cd18_171 : code9 18 171 = some (0, .invokestatic 123, [3, 19, 2, 0, 1, 2, 1, 0], .null, []) := rfl
theorem cd18_174 : code9 18 174 = some (0, .ireturn, [1, 1], .null, []) := rfl
theorem cd18_175 : code9 18 175 = some (0, .aload_n 1, [1], .null, []) := rfl
theorem cd18_176 : code9 18 176 = some (0, .getfield 130, [3, 6, 11, 0], .null, []) := rfl
theorem cd18_179 : code9 18 179 = some (0, .ifCond .ne 8, [3, 187], .null, []) := rfl
theorem cd18_182 : code9 18 182 = some (0, .bipush 59, [2], .int 59, []) := rfl
theorem cd18_184 : code9 18 184 = some (0, .goto 22, [3, 206, 6], .null, []) := rfl
theorem cd18_187 : code9 18 187 = some (0, .iload 4, [2], .null, []) := rfl
theorem cd18_189 : code9 18 189 = some (0, .sipush 400, [3], .int 400, []) := rfl
theorem cd18_192 : code9 18 192 = some (0, .aload_n 2, [1], .null, []) := rfl
theorem cd18_193 : code9 18 193 = some (0, .getfield 133, [3, 9, 9, 0], .null, []) := rfl
theorem cd18_196 : code9 18 196 = some (0, .isub, [1], .null, []) := rfl
theorem cd18_197 : code9 18 197 = some (0, .if_icmp .le 8, [3, 205], .null, []) := rfl
theorem cd18_200 : code9 18 200 = some (0, .bipush 51, [2], .int 51, []) := rfl
theorem cd18_202 : code9 18 202 = some (0, .goto 4, [3, 206, 6], .null, []) := rfl
theorem cd18_205 : code9 18 205 = some (0, .iconst 0, [1], .int 0, []) := rfl
theorem cd18_206 : code9 18 206 = some (7, .ireturn, [1, 1], .null, []) := rfl
theorem cd18_207 : code9 18 207 = some (0, .iconst 0, [1], .int 0, []) := rfl
theorem cd18_208 : code9 18 208 = some (0, .ireturn, [1, 1], .null, []) := rfl
def Book_whyWrong (a0 a1 a2 : Nat) (l3 : Int32) (I : FI) : Option (Int32) := if in9 l3 40 then (if (I (a0 + 1) l3.toNatClampNeg) = 18 then (if (Land_hasCell a1 (I (a0 + 3) l3.toNatClampNeg) (I (a0 + 4) l3.toNatClampNeg) I) then (Option.bind (State_canDig a2 (I (a0 + 3) l3.toNatClampNeg) (I (a0 + 4) l3.toNatClampNeg) I) fun x2 => (if x2 then (some 0) else (some 1))) else (some 9)) else (if (I (a0 + 1) l3.toNatClampNeg) = 19 then (Option.bind (State_whyNotMoved a2 (I (a0 + 2) l3.toNatClampNeg) I) fun x3 => (some (Book_behind 10 x3))) else (if (I (a0 + 1) l3.toNatClampNeg) = 20 then (Option.bind (State_whyNotMoved a2 (I (a0 + 2) l3.toNatClampNeg) I) fun x4 => (some (Book_behind 20 x4))) else (if (I (a0 + 1) l3.toNatClampNeg) = 21 then (if (Land_hasCell a1 (I (a0 + 3) l3.toNatClampNeg) (I (a0 + 4) l3.toNatClampNeg) I) then (Option.bind (State_whyNotMoved a2 (I (a0 + 2) l3.toNatClampNeg) I) fun x5 => (some (Book_behind 30 x5))) else (some 39)) else (if (I (a0 + 1) l3.toNatClampNeg) = 22 then (Option.bind (State_whyNotGiven a2 (I (a0 + 2) l3.toNatClampNeg) (I (a0 + 3) l3.toNatClampNeg) I) fun x6 => (some (Book_behind 40 x6))) else (if (I (a0 + 1) l3.toNatClampNeg) = 23 then (some 0) else (if (I (a0 + 1) l3.toNatClampNeg) = 24 then (if (I a1 11) = 0 then (some 59) else (if (I (a0 + 2) l3.toNatClampNeg) ≤ (400 - (I a2 9)) then (some 0) else (some 51))) else (some 0)))))))) else none
set_option maxRecDepth 8000 in
theorem t_Book_whyWrong {d : Nat} {a0 a1 a2 : Nat} {c : Nat × Nat} {S : Nat → Nat × Nat} {P : Nat → Nat → Option Nat} {I : FI} {J : FJ} {l3 : Int32} {r : Int32} (hd : 1 ≤ d) (h0 : O1 S P a0) (h1 : O6 S P a1) (h2 : O9 S P a2) (h : Book_whyWrong a0 a1 a2 l3 I = some r) : Go d M_Book_whyWrong 0 [some (.ref a0), some (.ref a1), some (.ref a2), some (.int l3), none, none] [] (c, S, I, J, P) (some (.int r), false, (c, S, I, J, P)) := by
  obtain ⟨d, rfl⟩ : ∃ e, d = e + 1 := ⟨d - 1, by omega⟩
  unfold Book_whyWrong at h
  refine g_aload_n cd18_0 rfl rfl ?_
  refine g_getP cd18_1 rfl (O1.o h0) (show P a0 1 = some (a0 + 2) from O1.p1 h0) ?_
  refine g_iload_n cd18_4 rfl rfl ?_
  obtain ⟨hg1, h⟩ := grd h
  refine G_iald cd18_5 rfl (show S (a0 + 2) = (1, 40) from O1.s1 h0) hg1 ?_
  refine g_istore (ls2 := [some (.ref a0), some (.ref a1), some (.ref a2), some (.int l3), some (.int (I (a0 + 2) l3.toNatClampNeg)), none]) cd18_6 rfl rfl ?_
  refine g_aload_n cd18_8 rfl rfl ?_
  refine g_aload_n cd18_9 rfl rfl ?_
  refine g_getP cd18_10 rfl (O1.o h0) (show P a0 2 = some (a0 + 3) from O1.p2 h0) ?_
  refine g_iload_n cd18_13 rfl rfl ?_
  refine G_iald cd18_14 rfl (show S (a0 + 3) = (1, 40) from O1.s2 h0) hg1 ?_
  refine g_aload_n cd18_15 rfl rfl ?_
  refine g_getP cd18_16 rfl (O1.o h0) (show P a0 3 = some (a0 + 4) from O1.p3 h0) ?_
  refine g_iload_n cd18_19 rfl rfl ?_
  refine G_iald cd18_20 rfl (show S (a0 + 4) = (1, 40) from O1.s3 h0) hg1 ?_
  refine g_callVZ (L := [some (.ref a1), some (.int (I (a0 + 3) l3.toNatClampNeg)), some (.int (I (a0 + 4) l3.toNatClampNeg))]) cd18_21 rfl rfl rfl rfl rfl (O6.o h1) (t_Land_hasCell (by omega) h1 rfl) ?_
  refine g_istore (ls2 := [some (.ref a0), some (.ref a1), some (.ref a2), some (.int l3), some (.int (I (a0 + 2) l3.toNatClampNeg)), some (.int (b2i (Land_hasCell a1 (I (a0 + 3) l3.toNatClampNeg) (I (a0 + 4) l3.toNatClampNeg) I)))]) cd18_24 rfl rfl ?_
  refine g_aload_n cd18_26 rfl rfl ?_
  refine g_getP cd18_27 rfl (O1.o h0) (show P a0 0 = some (a0 + 1) from O1.p0 h0) ?_
  refine g_iload_n cd18_30 rfl rfl ?_
  refine G_iald cd18_31 rfl (show S (a0 + 1) = (1, 40) from O1.s0 h0) hg1 ?_
  refine g_tableswitch cd18_32 rfl ?_
  refine ifi (fun hb => ?_) (fun hb => ?_)
  · have h := ifpE hb h
    show Go _ _ 76 [some (.ref a0), some (.ref a1), some (.ref a2), some (.int l3), some (.int (I (a0 + 2) l3.toNatClampNeg)), some (.int (b2i (Land_hasCell a1 (I (a0 + 3) l3.toNatClampNeg) (I (a0 + 4) l3.toNatClampNeg) I)))] [] _ _
    refine g_iload cd18_76 rfl rfl ?_
    refine g_if_ne cd18_78 rfl (fun hb => ?_) (fun hb => ?_)
    · have h := ifnE (b2i_f hb) h
      refine g_bipush cd18_81 rfl ?_
      refine g_goto (ls2 := [some (.ref a0), some (.ref a1), some (.ref a2), some (.int l3), some (.int (I (a0 + 2) l3.toNatClampNeg)), some (.int (b2i (Land_hasCell a1 (I (a0 + 3) l3.toNatClampNeg) (I (a0 + 4) l3.toNatClampNeg) I)))]) cd18_83 rfl rfl ?_
      exact g_iret cd18_110 (Or.inl rfl) (by obtain rfl := Option.some.inj h; rfl)
    · have h := ifpE (b2i_t hb) h
      refine g_aload_n cd18_86 rfl rfl ?_
      refine g_aload_n cd18_87 rfl rfl ?_
      refine g_getP cd18_88 rfl (O1.o h0) (show P a0 2 = some (a0 + 3) from O1.p2 h0) ?_
      refine g_iload_n cd18_91 rfl rfl ?_
      refine G_iald cd18_92 rfl (show S (a0 + 3) = (1, 40) from O1.s2 h0) hg1 ?_
      refine g_aload_n cd18_93 rfl rfl ?_
      refine g_getP cd18_94 rfl (O1.o h0) (show P a0 3 = some (a0 + 4) from O1.p3 h0) ?_
      refine g_iload_n cd18_97 rfl rfl ?_
      refine G_iald cd18_98 rfl (show S (a0 + 4) = (1, 40) from O1.s3 h0) hg1 ?_
      obtain ⟨x2, hx, h⟩ := bnd h
      refine g_callVZ (L := [some (.ref a2), some (.int (I (a0 + 3) l3.toNatClampNeg)), some (.int (I (a0 + 4) l3.toNatClampNeg)), none]) cd18_99 rfl rfl rfl rfl rfl (O9.o h2) (t_State_canDig (by omega) h2 hx) ?_
      refine g_if_eq cd18_102 rfl (fun hb => ?_) (fun hb => ?_)
      · have h := ifnE (b2i_f hb) h
        refine g_iconst cd18_109 rfl ?_
        exact g_iret cd18_110 (Or.inl rfl) (by obtain rfl := Option.some.inj h; rfl)
      · have h := ifpE (b2i_t hb) h
        refine g_iconst cd18_105 rfl ?_
        refine g_goto (ls2 := [some (.ref a0), some (.ref a1), some (.ref a2), some (.int l3), some (.int (I (a0 + 2) l3.toNatClampNeg)), some (.int (b2i (Land_hasCell a1 (I (a0 + 3) l3.toNatClampNeg) (I (a0 + 4) l3.toNatClampNeg) I)))]) cd18_106 rfl rfl ?_
        exact g_iret cd18_110 (Or.inl rfl) (by obtain rfl := Option.some.inj h; rfl)
  have h := ifnE hb h
  refine ifi (fun hb => ?_) (fun hb => ?_)
  · have h := ifpE hb h
    show Go _ _ 111 [some (.ref a0), some (.ref a1), some (.ref a2), some (.int l3), some (.int (I (a0 + 2) l3.toNatClampNeg)), some (.int (b2i (Land_hasCell a1 (I (a0 + 3) l3.toNatClampNeg) (I (a0 + 4) l3.toNatClampNeg) I)))] [] _ _
    refine g_bipush cd18_111 rfl ?_
    refine g_aload_n cd18_113 rfl rfl ?_
    refine g_iload cd18_114 rfl rfl ?_
    obtain ⟨x3, hx, h⟩ := bnd h
    refine g_callVI (L := [some (.ref a2), some (.int (I (a0 + 2) l3.toNatClampNeg))]) cd18_116 rfl rfl rfl rfl rfl (O9.o h2) (t_State_whyNotMoved (by omega) h2 hx) ?_
    refine g_callSI (L := [some (.int 10), some (.int x3)]) cd18_119 rfl rfl rfl rfl rfl (t_Book_behind (by omega)  rfl) ?_
    exact g_iret cd18_122 (Or.inl rfl) (by obtain rfl := Option.some.inj h; rfl)
  have h := ifnE hb h
  refine ifi (fun hb => ?_) (fun hb => ?_)
  · have h := ifpE hb h
    show Go _ _ 123 [some (.ref a0), some (.ref a1), some (.ref a2), some (.int l3), some (.int (I (a0 + 2) l3.toNatClampNeg)), some (.int (b2i (Land_hasCell a1 (I (a0 + 3) l3.toNatClampNeg) (I (a0 + 4) l3.toNatClampNeg) I)))] [] _ _
    refine g_bipush cd18_123 rfl ?_
    refine g_aload_n cd18_125 rfl rfl ?_
    refine g_iload cd18_126 rfl rfl ?_
    obtain ⟨x4, hx, h⟩ := bnd h
    refine g_callVI (L := [some (.ref a2), some (.int (I (a0 + 2) l3.toNatClampNeg))]) cd18_128 rfl rfl rfl rfl rfl (O9.o h2) (t_State_whyNotMoved (by omega) h2 hx) ?_
    refine g_callSI (L := [some (.int 20), some (.int x4)]) cd18_131 rfl rfl rfl rfl rfl (t_Book_behind (by omega)  rfl) ?_
    exact g_iret cd18_134 (Or.inl rfl) (by obtain rfl := Option.some.inj h; rfl)
  have h := ifnE hb h
  refine ifi (fun hb => ?_) (fun hb => ?_)
  · have h := ifpE hb h
    show Go _ _ 135 [some (.ref a0), some (.ref a1), some (.ref a2), some (.int l3), some (.int (I (a0 + 2) l3.toNatClampNeg)), some (.int (b2i (Land_hasCell a1 (I (a0 + 3) l3.toNatClampNeg) (I (a0 + 4) l3.toNatClampNeg) I)))] [] _ _
    refine g_iload cd18_135 rfl rfl ?_
    refine g_if_ne cd18_137 rfl (fun hb => ?_) (fun hb => ?_)
    · have h := ifnE (b2i_f hb) h
      refine g_bipush cd18_140 rfl ?_
      refine g_goto (ls2 := [some (.ref a0), some (.ref a1), some (.ref a2), some (.int l3), some (.int (I (a0 + 2) l3.toNatClampNeg)), some (.int (b2i (Land_hasCell a1 (I (a0 + 3) l3.toNatClampNeg) (I (a0 + 4) l3.toNatClampNeg) I)))]) cd18_142 rfl rfl ?_
      exact g_iret cd18_156 (Or.inl rfl) (by obtain rfl := Option.some.inj h; rfl)
    · have h := ifpE (b2i_t hb) h
      refine g_bipush cd18_145 rfl ?_
      refine g_aload_n cd18_147 rfl rfl ?_
      refine g_iload cd18_148 rfl rfl ?_
      obtain ⟨x5, hx, h⟩ := bnd h
      refine g_callVI (L := [some (.ref a2), some (.int (I (a0 + 2) l3.toNatClampNeg))]) cd18_150 rfl rfl rfl rfl rfl (O9.o h2) (t_State_whyNotMoved (by omega) h2 hx) ?_
      refine g_callSI (L := [some (.int 30), some (.int x5)]) cd18_153 rfl rfl rfl rfl rfl (t_Book_behind (by omega)  rfl) ?_
      exact g_iret cd18_156 (Or.inl rfl) (by obtain rfl := Option.some.inj h; rfl)
  have h := ifnE hb h
  refine ifi (fun hb => ?_) (fun hb => ?_)
  · have h := ifpE hb h
    show Go _ _ 157 [some (.ref a0), some (.ref a1), some (.ref a2), some (.int l3), some (.int (I (a0 + 2) l3.toNatClampNeg)), some (.int (b2i (Land_hasCell a1 (I (a0 + 3) l3.toNatClampNeg) (I (a0 + 4) l3.toNatClampNeg) I)))] [] _ _
    refine g_bipush cd18_157 rfl ?_
    refine g_aload_n cd18_159 rfl rfl ?_
    refine g_iload cd18_160 rfl rfl ?_
    refine g_aload_n cd18_162 rfl rfl ?_
    refine g_getP cd18_163 rfl (O1.o h0) (show P a0 2 = some (a0 + 3) from O1.p2 h0) ?_
    refine g_iload_n cd18_166 rfl rfl ?_
    refine G_iald cd18_167 rfl (show S (a0 + 3) = (1, 40) from O1.s2 h0) hg1 ?_
    obtain ⟨x6, hx, h⟩ := bnd h
    refine g_callVI (L := [some (.ref a2), some (.int (I (a0 + 2) l3.toNatClampNeg)), some (.int (I (a0 + 3) l3.toNatClampNeg))]) cd18_168 rfl rfl rfl rfl rfl (O9.o h2) (t_State_whyNotGiven (by omega) h2 hx) ?_
    refine g_callSI (L := [some (.int 40), some (.int x6)]) cd18_171 rfl rfl rfl rfl rfl (t_Book_behind (by omega)  rfl) ?_
    exact g_iret cd18_174 (Or.inl rfl) (by obtain rfl := Option.some.inj h; rfl)
  have h := ifnE hb h
  refine ifi (fun hb => ?_) (fun hb => ?_)
  · have h := ifpE hb h
    show Go _ _ 207 [some (.ref a0), some (.ref a1), some (.ref a2), some (.int l3), some (.int (I (a0 + 2) l3.toNatClampNeg)), some (.int (b2i (Land_hasCell a1 (I (a0 + 3) l3.toNatClampNeg) (I (a0 + 4) l3.toNatClampNeg) I)))] [] _ _
    refine g_iconst cd18_207 rfl ?_
    exact g_iret cd18_208 (Or.inl rfl) (by obtain rfl := Option.some.inj h; rfl)
  have h := ifnE hb h
  refine ifi (fun hb => ?_) (fun hb => ?_)
  · have h := ifpE hb h
    show Go _ _ 175 [some (.ref a0), some (.ref a1), some (.ref a2), some (.int l3), some (.int (I (a0 + 2) l3.toNatClampNeg)), some (.int (b2i (Land_hasCell a1 (I (a0 + 3) l3.toNatClampNeg) (I (a0 + 4) l3.toNatClampNeg) I)))] [] _ _
    refine g_aload_n cd18_175 rfl rfl ?_
    refine g_getI cd18_176 rfl (O6.o h1) ?_
    refine g_if_ne cd18_179 rfl (fun hb => ?_) (fun hb => ?_)
    · have h := ifpE hb h
      refine g_bipush cd18_182 rfl ?_
      refine g_goto (ls2 := [some (.ref a0), some (.ref a1), some (.ref a2), some (.int l3), some (.int (I (a0 + 2) l3.toNatClampNeg)), some (.int (b2i (Land_hasCell a1 (I (a0 + 3) l3.toNatClampNeg) (I (a0 + 4) l3.toNatClampNeg) I)))]) cd18_184 rfl rfl ?_
      exact g_iret cd18_206 (Or.inl rfl) (by obtain rfl := Option.some.inj h; rfl)
    · have h := ifnE hb h
      refine g_iload cd18_187 rfl rfl ?_
      refine g_sipush cd18_189 rfl ?_
      refine g_aload_n cd18_192 rfl rfl ?_
      refine g_getI cd18_193 rfl (O9.o h2) ?_
      refine g_isub cd18_196 rfl ?_
      refine g_icmp_le cd18_197 rfl (fun hb => ?_) (fun hb => ?_)
      · have h := ifpE hb h
        refine g_iconst cd18_205 rfl ?_
        exact g_iret cd18_206 (Or.inl rfl) (by obtain rfl := Option.some.inj h; rfl)
      · have h := ifnE hb h
        refine g_bipush cd18_200 rfl ?_
        refine g_goto (ls2 := [some (.ref a0), some (.ref a1), some (.ref a2), some (.int l3), some (.int (I (a0 + 2) l3.toNatClampNeg)), some (.int (b2i (Land_hasCell a1 (I (a0 + 3) l3.toNatClampNeg) (I (a0 + 4) l3.toNatClampNeg) I)))]) cd18_202 rfl rfl ?_
        exact g_iret cd18_206 (Or.inl rfl) (by obtain rfl := Option.some.inj h; rfl)
  have h := ifnE hb h
  show Go _ _ 207 [some (.ref a0), some (.ref a1), some (.ref a2), some (.int l3), some (.int (I (a0 + 2) l3.toNatClampNeg)), some (.int (b2i (Land_hasCell a1 (I (a0 + 3) l3.toNatClampNeg) (I (a0 + 4) l3.toNatClampNeg) I)))] [] _ _
  refine g_iconst cd18_207 rfl ?_
  exact g_iret cd18_208 (Or.inl rfl) (by obtain rfl := Option.some.inj h; rfl)
/-! HiddenOrLost$Land.hasPerson(I)Z -/
theorem cd52_0 : code9 52 0 = some (0, .iload_n 1, [1], .null, []) := rfl
theorem cd52_1 : code9 52 1 = some (0, .ifCond .lt 15, [3, 16], .null, []) := rfl
theorem cd52_4 : code9 52 4 = some (0, .iload_n 1, [1], .null, []) := rfl
theorem cd52_5 : code9 52 5 = some (0, .aload_n 0, [1], .null, []) := rfl
theorem cd52_6 : code9 52 6 = some (0, .getfield 47, [3, 6, 11, 0], .null, []) := rfl
theorem cd52_9 : code9 52 9 = some (0, .if_icmp .ge 7, [3, 16], .null, []) := rfl
theorem cd52_12 : code9 52 12 = some (0, .iconst 1, [1], .int 1, []) := rfl
theorem cd52_13 : code9 52 13 = some (0, .goto 4, [3, 17, 2], .null, []) := rfl
theorem cd52_16 : code9 52 16 = some (3, .iconst 0, [1], .int 0, []) := rfl
theorem cd52_17 : code9 52 17 = some (3, .ireturn, [1, 3], .null, []) := rfl
def Land_hasPerson (a0 : Nat) (l1 : Int32) (I : FI) : Bool := if l1 < 0 then (false) else (if (I a0 11) ≤ l1 then (false) else (true))
set_option maxRecDepth 8000 in
theorem t_Land_hasPerson {d : Nat} {a0 : Nat} {c : Nat × Nat} {S : Nat → Nat × Nat} {P : Nat → Nat → Option Nat} {I : FI} {J : FJ} {l1 : Int32} {r : Bool} (hd : 0 ≤ d) (h0 : O6 S P a0) (h : Land_hasPerson a0 l1 I = r) : Go d M_Land_hasPerson 0 [some (.ref a0), some (.int l1)] [] (c, S, I, J, P) (some (.int (b2i r)), false, (c, S, I, J, P)) := by
  unfold Land_hasPerson at h
  refine g_iload_n cd52_0 rfl rfl ?_
  refine g_if_lt cd52_1 rfl (fun hb => ?_) (fun hb => ?_)
  · have h := ifpE hb h
    refine g_iconst cd52_16 rfl ?_
    exact g_iret cd52_17 (Or.inr ⟨rfl, Or.inl rfl⟩) (by subst h; rfl)
  · have h := ifnE hb h
    refine g_iload_n cd52_4 rfl rfl ?_
    refine g_aload_n cd52_5 rfl rfl ?_
    refine g_getI cd52_6 rfl (O6.o h0) ?_
    refine g_icmp_ge cd52_9 rfl (fun hb => ?_) (fun hb => ?_)
    · have h := ifpE hb h
      refine g_iconst cd52_16 rfl ?_
      exact g_iret cd52_17 (Or.inr ⟨rfl, Or.inl rfl⟩) (by subst h; rfl)
    · have h := ifnE hb h
      refine g_iconst cd52_12 rfl ?_
      refine g_goto (ls2 := [some (.ref a0), some (.int l1)]) cd52_13 rfl rfl ?_
      exact g_iret cd52_17 (Or.inr ⟨rfl, Or.inr rfl⟩) (by subst h; rfl)
/-! HiddenOrLost$State.digCell(LHiddenOrLost$Land;III)I -/
theorem cd90_0 : code9 90 0 = some (0, .aload_n 1, [1], .null, []) := rfl
theorem cd90_1 : code9 90 1 = some (0, .iload_n 2, [1], .null, []) := rfl
theorem cd90_2 : code9 90 2 = some (0, .invokevirtual 91, [3, 52, 2, 1, 3, 2, 6, 0], .null, []) := rfl
theorem cd90_5 : code9 90 5 = some (0, .ifCond .eq 13, [3, 18], .null, []) := rfl
theorem cd90_8 : code9 90 8 = some (0, .aload_n 0, [1], .null, []) := rfl
theorem cd90_9 : code9 90 9 = some (0, .iload_n 3, [1], .null, []) := rfl
theorem cd90_10 : code9 90 10 = some (0, .iload 4, [2], .null, []) := rfl
theorem cd90_12 : code9 90 12 = some (0, .invokevirtual 80, [3, 85, 3, 1, 3, 4, 9, 0], .null, []) := rfl
theorem cd90_15 : code9 90 15 = some (0, .ifCond .ne 5, [3, 20], .null, []) := rfl
theorem cd90_18 : code9 90 18 = some (6, .iconst 0, [1], .int 0, []) := rfl
theorem cd90_19 : code9 90 19 = some (0, .ireturn, [1, 1], .null, []) := rfl
theorem cd90_20 : code9 90 20 = some (0, .bipush 6, [2], .int 6, []) := rfl
theorem cd90_22 : code9 90 22 = some (0, .iload 4, [2], .null, []) := rfl
theorem cd90_24 : code9 90 24 = some (0, .imul, [1], .null, []) := rfl
theorem cd90_25 : code9 90 25 = some (0, .iload_n 3, [1], .null, []) := rfl
theorem cd90_26 : code9 90 26 = some (0, .iadd, [1], .null, []) := rfl
theorem cd90_27 : code9 90 27 = some (0, .istore 5, [2], .null, []) := rfl
theorem cd90_29 : code9 90 29 = some (0, .aload_n 0, [1], .null, []) := rfl
theorem cd90_30 : code9 90 30 = some (0, .getfield 36, [3, 9, 8, 2], .null, []) := rfl
theorem cd90_33 : code9 90 33 = some (0, .iload 5, [2], .null, []) := rfl
theorem cd90_35 : code9 90 35 = some (0, .dup2, [1], .null, []) := rfl
theorem cd90_36 : code9 90 36 = some (0, .iaload, [1], .null, []) := rfl
theorem cd90_37 : code9 90 37 = some (0, .iconst 1, [1], .int 1, []) := rfl
theorem cd90_38 : code9 90 38 = some (0, .iadd, [1], .null, []) := rfl
theorem cd90_39 : code9 90 39 = some (0, .iastore, [1], .null, []) := rfl
theorem cd90_40 : code9 90 40 = some (0, .aload_n 0, [1], .null, []) := rfl
theorem cd90_41 : code9 90 41 = some (0, .getfield 30, [3, 9, 6, 2], .null, []) := rfl
theorem cd90_44 : code9 90 44 = some (0, .iload_n 2, [1], .null, []) := rfl
theorem cd90_45 : code9 90 45 = some (0, .dup2, [1], .null, []) := rfl
theorem cd90_46 : code9 90 46 = some (0, .iaload, [1], .null, []) := rfl
theorem cd90_47 : code9 90 47 = some (0, .iconst 1, [1], .int 1, []) := rfl
theorem cd90_48 : code9 90 48 = some (0, .iadd, [1], .null, []) := rfl
theorem cd90_49 : code9 90 49 = some (0, .iastore, [1], .null, []) := rfl
theorem cd90_50 : code9 90 50 = some (0, .iconst 0, [1], .int 0, []) := rfl
theorem cd90_51 : code9 90 51 = some (0, .istore 6, [2], .null, []) := rfl
theorem cd90_53 : code9 90 53 = some (0, .iconst 0, [1], .int 0, []) := rfl
theorem cd90_54 : code9 90 54 = some (0, .istore 7, [2], .null, []) := rfl
theorem cd90_56 : code9 90 56 = some (9, .iload 7, [2], .null, []) := rfl
theorem cd90_58 : code9 90 58 = some (0, .aload_n 1, [1], .null, []) := rfl
theorem cd90_59 : code9 90 59 = some (0, .getfield 46, [3, 6, 12, 0], .null, []) := rfl
theorem cd90_62 : code9 90 62 = some (0, .if_icmp .ge 90, [3, 152], .null, []) := rfl
theorem cd90_65 : code9 90 65 = some (0, .aload_n 0, [1], .null, []) := rfl
theorem cd90_66 : code9 90 66 = some (0, .getfield 21, [3, 9, 3, 2], .null, []) := rfl
theorem cd90_69 : code9 90 69 = some (0, .iload 7, [2], .null, []) := rfl
theorem cd90_71 : code9 90 71 = some (0, .iaload, [1], .null, []) := rfl
theorem cd90_72 : code9 90 72 = some (0, .ifCond .ne 30, [3, 102], .null, []) := rfl
theorem cd90_75 : code9 90 75 = some (0, .aload_n 0, [1], .null, []) := rfl
theorem cd90_76 : code9 90 76 = some (0, .getfield 9, [3, 9, 0, 2], .null, []) := rfl
theorem cd90_79 : code9 90 79 = some (0, .iload 7, [2], .null, []) := rfl
theorem cd90_81 : code9 90 81 = some (0, .iaload, [1], .null, []) := rfl
theorem cd90_82 : code9 90 82 = some (0, .iload_n 3, [1], .null, []) := rfl
theorem cd90_83 : code9 90 83 = some (0, .if_icmp .ne 19, [3, 102], .null, []) := rfl
theorem cd90_86 : code9 90 86 = some (0, .aload_n 0, [1], .null, []) := rfl
theorem cd90_87 : code9 90 87 = some (0, .getfield 15, [3, 9, 1, 2], .null, []) := rfl
theorem cd90_90 : code9 90 90 = some (0, .iload 7, [2], .null, []) := rfl
theorem cd90_92 : code9 90 92 = some (0, .iaload, [1], .null, []) := rfl
theorem cd90_93 : code9 90 93 = some (0, .iload 4, [2], .null, []) := rfl
theorem cd90_95 : code9 90 95 = some (0, .if_icmp .ne 7, [3, 102], .null, []) := rfl
theorem cd90_98 : code9 90 98 = some (0, .iconst 1, [1], .int 1, []) := rfl
theorem cd90_99 : code9 90 99 = some (0, .goto 4, [3, 103, 8], .null, []) := rfl
theorem cd90_102 : code9 90 102 = some (9, .iconst 0, [1], .int 0, []) := rfl
theorem cd90_103 : code9 90 103 = some (9, .istore 8, [2], .null, []) := rfl
theorem cd90_105 : code9 90 105 = some (0, .iload 8, [2], .null, []) := rfl
theorem cd90_107 : code9 90 107 = some (0, .ifCond .eq 39, [3, 146], .null, []) := rfl
theorem cd90_110 : code9 90 110 = some (0, .aload_n 0, [1], .null, []) := rfl
theorem cd90_111 : code9 90 111 = some (0, .getfield 18, [3, 9, 2, 2], .null, []) := rfl
theorem cd90_114 : code9 90 114 = some (0, .iload 7, [2], .null, []) := rfl
theorem cd90_116 : code9 90 116 = some (0, .iaload, [1], .null, []) := rfl
theorem cd90_117 : code9 90 117 = some (0, .aload_n 0, [1], .null, []) := rfl
theorem cd90_118 : code9 90 118 = some (0, .getfield 36, [3, 9, 8, 2], .null, []) := rfl
theorem cd90_121 : code9 90 121 = some (0, .iload 5, [2], .null, []) := rfl
theorem cd90_123 : code9 90 123 = some (0, .iaload, [1], .null, []) := rfl
theorem cd90_124 : code9 90 124 = some (0, .if_icmp .ge 22, [3, 146], .null, []) := rfl
theorem cd90_127 : code9 90 127 = some (0, .aload_n 0, [1], .null, []) := rfl
theorem cd90_128 : code9 90 128 = some (0, .getfield 21, [3, 9, 3, 2], .null, []) := rfl
theorem cd90_131 : code9 90 131 = some (0, .iload 7, [2], .null, []) := rfl
theorem cd90_133 : code9 90 133 = some (0, .iconst 1, [1], .int 1, []) := rfl
theorem cd90_134 : code9 90 134 = some (0, .iastore, [1], .null, []) := rfl
theorem cd90_135 : code9 90 135 = some (0, .aload_n 0, [1], .null, []) := rfl
theorem cd90_136 : code9 90 136 = some (0, .getfield 24, [3, 9, 4, 2], .null, []) := rfl
theorem cd90_139 : code9 90 139 = some (0, .iload 7, [2], .null, []) := rfl
theorem cd90_141 : code9 90 141 = some (0, .iload_n 2, [1], .null, []) := rfl
theorem cd90_142 : code9 90 142 = some (0, .iastore, [1], .null, []) := rfl
theorem cd90_143 : code9 90 143 = some (0, .iinc 6 1, [3], .int 1, []) := rfl
theorem cd90_146 : code9 90 146 = some (10, .iinc 7 1, [3], .int 1, []) := rfl
theorem cd90_149 : code9 90 149 = some (0, .goto (-93), [3, 56, 8], .null, []) := rfl
theorem cd90_152 : code9 90 152 = some (0, .aload_n 0, [1], .null, []) := rfl
theorem cd90_153 : code9 90 153 = some (0, .getfield 33, [3, 9, 7, 2], .null, []) := rfl
theorem cd90_156 : code9 90 156 = some (0, .iload_n 2, [1], .null, []) := rfl
theorem cd90_157 : code9 90 157 = some (0, .dup2, [1], .null, []) := rfl
theorem cd90_158 : code9 90 158 = some (0, .iaload, [1], .null, []) := rfl
theorem cd90_159 : code9 90 159 = some (0, .iload 6, [2], .null, []) := rfl
theorem cd90_161 : code9 90 161 = some (0, .iadd, [1], .null, []) := rfl
theorem cd90_162 : code9 90 162 = some (0, .iastore, [1], .null, []) := rfl
theorem cd90_163 : code9 90 163 = some (0, .iload 6, [2], .null, []) := rfl
theorem cd90_165 : code9 90 165 = some (0, .ireturn, [1, 1], .null, []) := rfl
def State_digCell_56 (N : Nat) (a0 a1 : Nat) : Nat → Int32 → Int32 → Int32 → Int32 → Int32 → Int32 → FI → Option (Int32 × FI)
  | 0 => fun _ _ _ _ _ _ _ => none
  | n + 1 => fun l2 l3 l4 l5 l6 l7 I => if (I a1 12) ≤ l7 then (if in9 l2 6 then (Option.bind (some (up2 I (a0 + 8) l2.toNatClampNeg ((I (a0 + 8) l2.toNatClampNeg) + l6))) fun I7 => (some (l6, I7))) else none) else (if in9 l7 10 then (if (I (a0 + 4) l7.toNatClampNeg) = 0 then (if (I (a0 + 1) l7.toNatClampNeg) = l3 then (if (I (a0 + 2) l7.toNatClampNeg) = l4 then (if in9 l5 36 then (if (I (a0 + 9) l5.toNatClampNeg) ≤ (I (a0 + 3) l7.toNatClampNeg) then (State_digCell_56 N a0 a1 n l2 l3 l4 l5 l6 (l7 + 1) I) else (Option.bind (some (up2 I (a0 + 4) l7.toNatClampNeg (1 : Int32))) fun I10 => (Option.bind (some (up2 I10 (a0 + 5) l7.toNatClampNeg l2)) fun I11 => (State_digCell_56 N a0 a1 n l2 l3 l4 l5 (l6 + 1) (l7 + 1) I11)))) else none) else (State_digCell_56 N a0 a1 n l2 l3 l4 l5 l6 (l7 + 1) I)) else (State_digCell_56 N a0 a1 n l2 l3 l4 l5 l6 (l7 + 1) I)) else (State_digCell_56 N a0 a1 n l2 l3 l4 l5 l6 (l7 + 1) I)) else none)
def State_digCell (N : Nat) (a0 a1 : Nat) (l2 : Int32) (l3 : Int32) (l4 : Int32) (I : FI) : Option (Int32 × FI) := if (Land_hasPerson a1 l2 I) then (Option.bind (State_canDig a0 l3 l4 I) fun x1 => (if x1 then (if in9 ((6 * l4) + l3) 36 then (Option.bind (some (up2 I (a0 + 9) (((6 * l4) + l3).toNatClampNeg) ((I (a0 + 9) (((6 * l4) + l3).toNatClampNeg)) + 1))) fun I3 => (if in9 l2 6 then (Option.bind (some (up2 I3 (a0 + 7) l2.toNatClampNeg ((I3 (a0 + 7) l2.toNatClampNeg) + 1))) fun I5 => (State_digCell_56 N a0 a1 N l2 l3 l4 ((6 * l4) + l3) 0 0 I5)) else none)) else none) else (some (0, I)))) else (some (0, I))
set_option maxRecDepth 8000 in
theorem t_State_digCell_56 {d : Nat} {N : Nat} {a0 a1 : Nat} {c : Nat × Nat} {S : Nat → Nat × Nat} {P : Nat → Nat → Option Nat} {r : Int32 × FI} (hd : 1 ≤ (d + 1)) (h0 : O9 S P a0) (h1 : O6 S P a1) : ∀ (n : Nat) (l2 : Int32) (l3 : Int32) (l4 : Int32) (l5 : Int32) (l6 : Int32) (l7 : Int32) (I : FI) (J : FJ), State_digCell_56 N a0 a1 n l2 l3 l4 l5 l6 l7 I = some r → Go (d + 1) M_State_digCell 56 [some (.ref a0), some (.ref a1), some (.int l2), some (.int l3), some (.int l4), some (.int l5), some (.int l6), some (.int l7), none] [] (c, S, I, J, P) (some (.int r.1), false, (c, S, r.2, J, P)) := by
  intro n
  induction n with
  | zero =>
    intro l2 l3 l4 l5 l6 l7 I J h
    cases h
  | succ n ih =>
    intro l2 l3 l4 l5 l6 l7 I J h
    unfold State_digCell_56 at h
    refine g_iload cd90_56 rfl rfl ?_
    refine g_aload_n cd90_58 rfl rfl ?_
    refine g_getI cd90_59 rfl (O6.o h1) ?_
    refine g_icmp_ge cd90_62 rfl (fun hb => ?_) (fun hb => ?_)
    · have h := ifpE hb h
      refine g_aload_n cd90_152 rfl rfl ?_
      refine g_getP cd90_153 rfl (O9.o h0) (show P a0 7 = some (a0 + 8) from O9.p7 h0) ?_
      refine g_iload_n cd90_156 rfl rfl ?_
      refine g_dup2R cd90_157 rfl ?_
      obtain ⟨hg6, h⟩ := grd h
      refine G_iald cd90_158 rfl (show S (a0 + 8) = (1, 6) from O9.s7 h0) hg6 ?_
      refine g_iload cd90_159 rfl rfl ?_
      refine g_iadd cd90_161 rfl ?_
      obtain ⟨I7, e1, h⟩ := bnd h
      refine G_iast cd90_162 rfl (show S (a0 + 8) = (1, 6) from O9.s7 h0) hg6 (Option.some.inj e1) ?_
      refine g_iload cd90_163 rfl rfl ?_
      exact g_iret cd90_165 (Or.inl rfl) (by obtain rfl := Option.some.inj h; rfl)
    · have h := ifnE hb h
      refine g_aload_n cd90_65 rfl rfl ?_
      refine g_getP cd90_66 rfl (O9.o h0) (show P a0 3 = some (a0 + 4) from O9.p3 h0) ?_
      refine g_iload cd90_69 rfl rfl ?_
      obtain ⟨hg8, h⟩ := grd h
      refine G_iald cd90_71 rfl (show S (a0 + 4) = (1, 10) from O9.s3 h0) hg8 ?_
      refine g_if_ne cd90_72 rfl (fun hb => ?_) (fun hb => ?_)
      · have h := ifpE hb h
        refine g_aload_n cd90_75 rfl rfl ?_
        refine g_getP cd90_76 rfl (O9.o h0) (show P a0 0 = some (a0 + 1) from O9.p0 h0) ?_
        refine g_iload cd90_79 rfl rfl ?_
        refine G_iald cd90_81 rfl (show S (a0 + 1) = (1, 10) from O9.s0 h0) hg8 ?_
        refine g_iload_n cd90_82 rfl rfl ?_
        refine g_icmp_ne cd90_83 rfl (fun hb => ?_) (fun hb => ?_)
        · have h := ifpE hb h
          refine g_aload_n cd90_86 rfl rfl ?_
          refine g_getP cd90_87 rfl (O9.o h0) (show P a0 1 = some (a0 + 2) from O9.p1 h0) ?_
          refine g_iload cd90_90 rfl rfl ?_
          refine G_iald cd90_92 rfl (show S (a0 + 2) = (1, 10) from O9.s1 h0) hg8 ?_
          refine g_iload cd90_93 rfl rfl ?_
          refine g_icmp_ne cd90_95 rfl (fun hb => ?_) (fun hb => ?_)
          · have h := ifpE hb h
            refine g_iconst cd90_98 rfl ?_
            refine g_goto (ls2 := [some (.ref a0), some (.ref a1), some (.int l2), some (.int l3), some (.int l4), some (.int l5), some (.int l6), some (.int l7), none]) cd90_99 rfl rfl ?_
            refine g_istore (ls2 := [some (.ref a0), some (.ref a1), some (.int l2), some (.int l3), some (.int l4), some (.int l5), some (.int l6), some (.int l7), some (.int 1)]) cd90_103 rfl rfl ?_
            refine g_iload cd90_105 rfl rfl ?_
            refine g_if_eq cd90_107 rfl (fun hb => ?_) (fun hb => ?_)
            · exact absurd hb (by decide)
            refine g_aload_n cd90_110 rfl rfl ?_
            refine g_getP cd90_111 rfl (O9.o h0) (show P a0 2 = some (a0 + 3) from O9.p2 h0) ?_
            refine g_iload cd90_114 rfl rfl ?_
            refine G_iald cd90_116 rfl (show S (a0 + 3) = (1, 10) from O9.s2 h0) hg8 ?_
            refine g_aload_n cd90_117 rfl rfl ?_
            refine g_getP cd90_118 rfl (O9.o h0) (show P a0 8 = some (a0 + 9) from O9.p8 h0) ?_
            refine g_iload cd90_121 rfl rfl ?_
            obtain ⟨hg9, h⟩ := grd h
            refine G_iald cd90_123 rfl (show S (a0 + 9) = (1, 36) from O9.s8 h0) hg9 ?_
            refine g_icmp_ge cd90_124 rfl (fun hb => ?_) (fun hb => ?_)
            · have h := ifpE hb h
              refine g_iinc (ls2 := [some (.ref a0), some (.ref a1), some (.int l2), some (.int l3), some (.int l4), some (.int l5), some (.int l6), some (.int (l7 + 1)), some (.int 1)]) cd90_146 rfl rfl rfl ?_
              refine g_goto (ls2 := [some (.ref a0), some (.ref a1), some (.int l2), some (.int l3), some (.int l4), some (.int l5), some (.int l6), some (.int (l7 + 1)), none]) cd90_149 rfl rfl ?_
              exact ih l2 l3 l4 l5 l6 (l7 + 1) I J h
            · have h := ifnE hb h
              refine g_aload_n cd90_127 rfl rfl ?_
              refine g_getP cd90_128 rfl (O9.o h0) (show P a0 3 = some (a0 + 4) from O9.p3 h0) ?_
              refine g_iload cd90_131 rfl rfl ?_
              refine g_iconst cd90_133 rfl ?_
              obtain ⟨I10, e1, h⟩ := bnd h
              refine G_iast cd90_134 rfl (show S (a0 + 4) = (1, 10) from O9.s3 h0) hg8 (Option.some.inj e1) ?_
              refine g_aload_n cd90_135 rfl rfl ?_
              refine g_getP cd90_136 rfl (O9.o h0) (show P a0 4 = some (a0 + 5) from O9.p4 h0) ?_
              refine g_iload cd90_139 rfl rfl ?_
              refine g_iload_n cd90_141 rfl rfl ?_
              obtain ⟨I11, e1, h⟩ := bnd h
              refine G_iast cd90_142 rfl (show S (a0 + 5) = (1, 10) from O9.s4 h0) hg8 (Option.some.inj e1) ?_
              refine g_iinc (ls2 := [some (.ref a0), some (.ref a1), some (.int l2), some (.int l3), some (.int l4), some (.int l5), some (.int (l6 + 1)), some (.int l7), some (.int 1)]) cd90_143 rfl rfl rfl ?_
              refine g_iinc (ls2 := [some (.ref a0), some (.ref a1), some (.int l2), some (.int l3), some (.int l4), some (.int l5), some (.int (l6 + 1)), some (.int (l7 + 1)), some (.int 1)]) cd90_146 rfl rfl rfl ?_
              refine g_goto (ls2 := [some (.ref a0), some (.ref a1), some (.int l2), some (.int l3), some (.int l4), some (.int l5), some (.int (l6 + 1)), some (.int (l7 + 1)), none]) cd90_149 rfl rfl ?_
              exact ih l2 l3 l4 l5 (l6 + 1) (l7 + 1) I11 J h
          · have h := ifnE hb h
            refine g_iconst cd90_102 rfl ?_
            refine g_istore (ls2 := [some (.ref a0), some (.ref a1), some (.int l2), some (.int l3), some (.int l4), some (.int l5), some (.int l6), some (.int l7), some (.int 0)]) cd90_103 rfl rfl ?_
            refine g_iload cd90_105 rfl rfl ?_
            refine g_if_eq cd90_107 rfl (fun hb => ?_) (fun hb => ?_)
            rotate_left
            · exact absurd (by decide) hb
            refine g_iinc (ls2 := [some (.ref a0), some (.ref a1), some (.int l2), some (.int l3), some (.int l4), some (.int l5), some (.int l6), some (.int (l7 + 1)), some (.int 0)]) cd90_146 rfl rfl rfl ?_
            refine g_goto (ls2 := [some (.ref a0), some (.ref a1), some (.int l2), some (.int l3), some (.int l4), some (.int l5), some (.int l6), some (.int (l7 + 1)), none]) cd90_149 rfl rfl ?_
            exact ih l2 l3 l4 l5 l6 (l7 + 1) I J h
        · have h := ifnE hb h
          refine g_iconst cd90_102 rfl ?_
          refine g_istore (ls2 := [some (.ref a0), some (.ref a1), some (.int l2), some (.int l3), some (.int l4), some (.int l5), some (.int l6), some (.int l7), some (.int 0)]) cd90_103 rfl rfl ?_
          refine g_iload cd90_105 rfl rfl ?_
          refine g_if_eq cd90_107 rfl (fun hb => ?_) (fun hb => ?_)
          rotate_left
          · exact absurd (by decide) hb
          refine g_iinc (ls2 := [some (.ref a0), some (.ref a1), some (.int l2), some (.int l3), some (.int l4), some (.int l5), some (.int l6), some (.int (l7 + 1)), some (.int 0)]) cd90_146 rfl rfl rfl ?_
          refine g_goto (ls2 := [some (.ref a0), some (.ref a1), some (.int l2), some (.int l3), some (.int l4), some (.int l5), some (.int l6), some (.int (l7 + 1)), none]) cd90_149 rfl rfl ?_
          exact ih l2 l3 l4 l5 l6 (l7 + 1) I J h
      · have h := ifnE hb h
        refine g_iconst cd90_102 rfl ?_
        refine g_istore (ls2 := [some (.ref a0), some (.ref a1), some (.int l2), some (.int l3), some (.int l4), some (.int l5), some (.int l6), some (.int l7), some (.int 0)]) cd90_103 rfl rfl ?_
        refine g_iload cd90_105 rfl rfl ?_
        refine g_if_eq cd90_107 rfl (fun hb => ?_) (fun hb => ?_)
        rotate_left
        · exact absurd (by decide) hb
        refine g_iinc (ls2 := [some (.ref a0), some (.ref a1), some (.int l2), some (.int l3), some (.int l4), some (.int l5), some (.int l6), some (.int (l7 + 1)), some (.int 0)]) cd90_146 rfl rfl rfl ?_
        refine g_goto (ls2 := [some (.ref a0), some (.ref a1), some (.int l2), some (.int l3), some (.int l4), some (.int l5), some (.int l6), some (.int (l7 + 1)), none]) cd90_149 rfl rfl ?_
        exact ih l2 l3 l4 l5 l6 (l7 + 1) I J h
set_option maxRecDepth 8000 in
theorem t_State_digCell {d : Nat} {N : Nat} {a0 a1 : Nat} {c : Nat × Nat} {S : Nat → Nat × Nat} {P : Nat → Nat → Option Nat} {I : FI} {J : FJ} {l2 : Int32} {l3 : Int32} {l4 : Int32} {r : Int32 × FI} (hd : 1 ≤ d) (h0 : O9 S P a0) (h1 : O6 S P a1) (h : State_digCell N a0 a1 l2 l3 l4 I = some r) : Go d M_State_digCell 0 [some (.ref a0), some (.ref a1), some (.int l2), some (.int l3), some (.int l4), none, none, none, none] [] (c, S, I, J, P) (some (.int r.1), false, (c, S, r.2, J, P)) := by
  obtain ⟨d, rfl⟩ : ∃ e, d = e + 1 := ⟨d - 1, by omega⟩
  unfold State_digCell at h
  refine g_aload_n cd90_0 rfl rfl ?_
  refine g_iload_n cd90_1 rfl rfl ?_
  refine g_callVZ (L := [some (.ref a1), some (.int l2)]) cd90_2 rfl rfl rfl rfl rfl (O6.o h1) (t_Land_hasPerson (by omega) h1 rfl) ?_
  refine g_if_eq cd90_5 rfl (fun hb => ?_) (fun hb => ?_)
  · have h := ifnE (b2i_f hb) h
    refine g_iconst cd90_18 rfl ?_
    exact g_iret cd90_19 (Or.inl rfl) (by obtain rfl := Option.some.inj h; rfl)
  · have h := ifpE (b2i_t hb) h
    refine g_aload_n cd90_8 rfl rfl ?_
    refine g_iload_n cd90_9 rfl rfl ?_
    refine g_iload cd90_10 rfl rfl ?_
    obtain ⟨x1, hx, h⟩ := bnd h
    refine g_callVZ (L := [some (.ref a0), some (.int l3), some (.int l4), none]) cd90_12 rfl rfl rfl rfl rfl (O9.o h0) (t_State_canDig (by omega) h0 hx) ?_
    refine g_if_ne cd90_15 rfl (fun hb => ?_) (fun hb => ?_)
    · have h := ifnE (b2i_f hb) h
      refine g_iconst cd90_18 rfl ?_
      exact g_iret cd90_19 (Or.inl rfl) (by obtain rfl := Option.some.inj h; rfl)
    · have h := ifpE (b2i_t hb) h
      refine g_bipush cd90_20 rfl ?_
      refine g_iload cd90_22 rfl rfl ?_
      refine g_imul cd90_24 rfl ?_
      refine g_iload_n cd90_25 rfl rfl ?_
      refine g_iadd cd90_26 rfl ?_
      refine g_istore (ls2 := [some (.ref a0), some (.ref a1), some (.int l2), some (.int l3), some (.int l4), some (.int ((6 * l4) + l3)), none, none, none]) cd90_27 rfl rfl ?_
      refine g_aload_n cd90_29 rfl rfl ?_
      refine g_getP cd90_30 rfl (O9.o h0) (show P a0 8 = some (a0 + 9) from O9.p8 h0) ?_
      refine g_iload cd90_33 rfl rfl ?_
      refine g_dup2R cd90_35 rfl ?_
      obtain ⟨hg2, h⟩ := grd h
      refine G_iald cd90_36 rfl (show S (a0 + 9) = (1, 36) from O9.s8 h0) hg2 ?_
      refine g_iconst cd90_37 rfl ?_
      refine g_iadd cd90_38 rfl ?_
      obtain ⟨I3, e1, h⟩ := bnd h
      refine G_iast cd90_39 rfl (show S (a0 + 9) = (1, 36) from O9.s8 h0) hg2 (Option.some.inj e1) ?_
      refine g_aload_n cd90_40 rfl rfl ?_
      refine g_getP cd90_41 rfl (O9.o h0) (show P a0 6 = some (a0 + 7) from O9.p6 h0) ?_
      refine g_iload_n cd90_44 rfl rfl ?_
      refine g_dup2R cd90_45 rfl ?_
      obtain ⟨hg4, h⟩ := grd h
      refine G_iald cd90_46 rfl (show S (a0 + 7) = (1, 6) from O9.s6 h0) hg4 ?_
      refine g_iconst cd90_47 rfl ?_
      refine g_iadd cd90_48 rfl ?_
      obtain ⟨I5, e1, h⟩ := bnd h
      refine G_iast cd90_49 rfl (show S (a0 + 7) = (1, 6) from O9.s6 h0) hg4 (Option.some.inj e1) ?_
      refine g_iconst cd90_50 rfl ?_
      refine g_istore (ls2 := [some (.ref a0), some (.ref a1), some (.int l2), some (.int l3), some (.int l4), some (.int ((6 * l4) + l3)), some (.int 0), none, none]) cd90_51 rfl rfl ?_
      refine g_iconst cd90_53 rfl ?_
      refine g_istore (ls2 := [some (.ref a0), some (.ref a1), some (.int l2), some (.int l3), some (.int l4), some (.int ((6 * l4) + l3)), some (.int 0), some (.int 0), none]) cd90_54 rfl rfl ?_
      exact t_State_digCell_56 hd h0 h1 _ l2 l3 l4 ((6 * l4) + l3) 0 0 I5 J h
/-! HiddenOrLost$State.sellFind(LHiddenOrLost$Land;I)V -/
theorem cd92_0 : code9 92 0 = some (0, .aload_n 0, [1], .null, []) := rfl
theorem cd92_1 : code9 92 1 = some (0, .getfield 24, [3, 9, 4, 2], .null, []) := rfl
theorem cd92_4 : code9 92 4 = some (0, .iload_n 2, [1], .null, []) := rfl
theorem cd92_5 : code9 92 5 = some (0, .iaload, [1], .null, []) := rfl
theorem cd92_6 : code9 92 6 = some (0, .istore_n 3, [1], .null, []) := rfl
theorem cd92_7 : code9 92 7 = some (0, .aload_n 1, [1], .null, []) := rfl
theorem cd92_8 : code9 92 8 = some (0, .iload_n 3, [1], .null, []) := rfl
theorem cd92_9 : code9 92 9 = some (0, .invokevirtual 91, [3, 52, 2, 1, 3, 2, 6, 0], .null, []) := rfl
theorem cd92_12 : code9 92 12 = some (0, .ifCond .eq 20, [3, 32], .null, []) := rfl
theorem cd92_15 : code9 92 15 = some (0, .aload_n 0, [1], .null, []) := rfl
theorem cd92_16 : code9 92 16 = some (0, .getfield 27, [3, 9, 5, 2], .null, []) := rfl
theorem cd92_19 : code9 92 19 = some (0, .iload_n 3, [1], .null, []) := rfl
theorem cd92_20 : code9 92 20 = some (0, .dup2, [1], .null, []) := rfl
theorem cd92_21 : code9 92 21 = some (0, .iaload, [1], .null, []) := rfl
theorem cd92_22 : code9 92 22 = some (0, .aload_n 1, [1], .null, []) := rfl
theorem cd92_23 : code9 92 23 = some (0, .iload_n 2, [1], .null, []) := rfl
theorem cd92_24 : code9 92 24 = some (0, .iconst 5, [1], .int 5, []) := rfl
theorem cd92_25 : code9 92 25 = some (0, .invokevirtual 51, [3, 51, 3, 1, 1, 3, 6, 0], .null, []) := rfl
theorem cd92_28 : code9 92 28 = some (0, .iconst 2, [1], .int 2, []) := rfl
theorem cd92_29 : code9 92 29 = some (0, .idiv, [1], .null, []) := rfl
theorem cd92_30 : code9 92 30 = some (0, .iadd, [1], .null, []) := rfl
theorem cd92_31 : code9 92 31 = some (0, .iastore, [1], .null, []) := rfl
theorem cd92_32 : code9 92 32 = some (5, .aload_n 0, [1], .null, []) := rfl
theorem cd92_33 : code9 92 33 = some (0, .getfield 21, [3, 9, 3, 2], .null, []) := rfl
theorem cd92_36 : code9 92 36 = some (0, .iload_n 2, [1], .null, []) := rfl
theorem cd92_37 : code9 92 37 = some (0, .iconst 3, [1], .int 3, []) := rfl
theorem cd92_38 : code9 92 38 = some (0, .iastore, [1], .null, []) := rfl
theorem cd92_39 : code9 92 39 = some (0, .return_, [1], .null, []) := rfl
def State_sellFind (a0 a1 : Nat) (l2 : Int32) (I : FI) : Option (FI) := if in9 l2 10 then (if (Land_hasPerson a1 (I (a0 + 5) l2.toNatClampNeg) I) then (if in9 (I (a0 + 5) l2.toNatClampNeg) 6 then (Option.bind (Land_factOf a1 l2 5 I) fun x4 => (Option.bind (some (up2 I (a0 + 6) ((I (a0 + 5) l2.toNatClampNeg).toNatClampNeg) ((I (a0 + 6) ((I (a0 + 5) l2.toNatClampNeg).toNatClampNeg)) + (x4 / 2)))) fun I5 => (Option.bind (some (up2 I5 (a0 + 4) l2.toNatClampNeg (3 : Int32))) fun I6 => (some I6)))) else none) else (Option.bind (some (up2 I (a0 + 4) l2.toNatClampNeg (3 : Int32))) fun I2 => (some I2))) else none
set_option maxRecDepth 8000 in
theorem t_State_sellFind {d : Nat} {a0 a1 : Nat} {c : Nat × Nat} {S : Nat → Nat × Nat} {P : Nat → Nat → Option Nat} {I : FI} {J : FJ} {l2 : Int32} {r : FI} (hd : 1 ≤ d) (h0 : O9 S P a0) (h1 : O6 S P a1) (h : State_sellFind a0 a1 l2 I = some r) : Go d M_State_sellFind 0 [some (.ref a0), some (.ref a1), some (.int l2), none] [] (c, S, I, J, P) (none, false, (c, S, r, J, P)) := by
  obtain ⟨d, rfl⟩ : ∃ e, d = e + 1 := ⟨d - 1, by omega⟩
  unfold State_sellFind at h
  refine g_aload_n cd92_0 rfl rfl ?_
  refine g_getP cd92_1 rfl (O9.o h0) (show P a0 4 = some (a0 + 5) from O9.p4 h0) ?_
  refine g_iload_n cd92_4 rfl rfl ?_
  obtain ⟨hg1, h⟩ := grd h
  refine G_iald cd92_5 rfl (show S (a0 + 5) = (1, 10) from O9.s4 h0) hg1 ?_
  refine g_istore_n (ls2 := [some (.ref a0), some (.ref a1), some (.int l2), some (.int (I (a0 + 5) l2.toNatClampNeg))]) cd92_6 rfl rfl ?_
  refine g_aload_n cd92_7 rfl rfl ?_
  refine g_iload_n cd92_8 rfl rfl ?_
  refine g_callVZ (L := [some (.ref a1), some (.int (I (a0 + 5) l2.toNatClampNeg))]) cd92_9 rfl rfl rfl rfl rfl (O6.o h1) (t_Land_hasPerson (by omega) h1 rfl) ?_
  refine g_if_eq cd92_12 rfl (fun hb => ?_) (fun hb => ?_)
  · have h := ifnE (b2i_f hb) h
    refine g_aload_n cd92_32 rfl rfl ?_
    refine g_getP cd92_33 rfl (O9.o h0) (show P a0 3 = some (a0 + 4) from O9.p3 h0) ?_
    refine g_iload_n cd92_36 rfl rfl ?_
    refine g_iconst cd92_37 rfl ?_
    obtain ⟨I2, e1, h⟩ := bnd h
    refine G_iast cd92_38 rfl (show S (a0 + 4) = (1, 10) from O9.s3 h0) hg1 (Option.some.inj e1) ?_
    exact g_vret cd92_39 (by obtain rfl := Option.some.inj h; rfl)
  · have h := ifpE (b2i_t hb) h
    refine g_aload_n cd92_15 rfl rfl ?_
    refine g_getP cd92_16 rfl (O9.o h0) (show P a0 5 = some (a0 + 6) from O9.p5 h0) ?_
    refine g_iload_n cd92_19 rfl rfl ?_
    refine g_dup2R cd92_20 rfl ?_
    obtain ⟨hg3, h⟩ := grd h
    refine G_iald cd92_21 rfl (show S (a0 + 6) = (1, 6) from O9.s5 h0) hg3 ?_
    refine g_aload_n cd92_22 rfl rfl ?_
    refine g_iload_n cd92_23 rfl rfl ?_
    refine g_iconst cd92_24 rfl ?_
    obtain ⟨x4, hx, h⟩ := bnd h
    refine g_callVI (L := [some (.ref a1), some (.int l2), some (.int 5)]) cd92_25 rfl rfl rfl rfl rfl (O6.o h1) (t_Land_factOf (by omega) h1 hx) ?_
    refine g_iconst cd92_28 rfl ?_
    refine g_idiv cd92_29 rfl (by decide) ?_
    refine g_iadd cd92_30 rfl ?_
    obtain ⟨I5, e1, h⟩ := bnd h
    refine G_iast cd92_31 rfl (show S (a0 + 6) = (1, 6) from O9.s5 h0) hg3 (Option.some.inj e1) ?_
    refine g_aload_n cd92_32 rfl rfl ?_
    refine g_getP cd92_33 rfl (O9.o h0) (show P a0 3 = some (a0 + 4) from O9.p3 h0) ?_
    refine g_iload_n cd92_36 rfl rfl ?_
    refine g_iconst cd92_37 rfl ?_
    obtain ⟨I6, e1, h⟩ := bnd h
    refine G_iast cd92_38 rfl (show S (a0 + 4) = (1, 10) from O9.s3 h0) hg1 (Option.some.inj e1) ?_
    exact g_vret cd92_39 (by obtain rfl := Option.some.inj h; rfl)
/-! HiddenOrLost$State.layFind(III)V -/
theorem cd93_0 : code9 93 0 = some (0, .aload_n 0, [1], .null, []) := rfl
theorem cd93_1 : code9 93 1 = some (0, .getfield 21, [3, 9, 3, 2], .null, []) := rfl
theorem cd93_4 : code9 93 4 = some (0, .iload_n 1, [1], .null, []) := rfl
theorem cd93_5 : code9 93 5 = some (0, .iconst 0, [1], .int 0, []) := rfl
theorem cd93_6 : code9 93 6 = some (0, .iastore, [1], .null, []) := rfl
theorem cd93_7 : code9 93 7 = some (0, .aload_n 0, [1], .null, []) := rfl
theorem cd93_8 : code9 93 8 = some (0, .getfield 9, [3, 9, 0, 2], .null, []) := rfl
theorem cd93_11 : code9 93 11 = some (0, .iload_n 1, [1], .null, []) := rfl
theorem cd93_12 : code9 93 12 = some (0, .iload_n 2, [1], .null, []) := rfl
theorem cd93_13 : code9 93 13 = some (0, .iastore, [1], .null, []) := rfl
theorem cd93_14 : code9 93 14 = some (0, .aload_n 0, [1], .null, []) := rfl
theorem cd93_15 : code9 93 15 = some (0, .getfield 15, [3, 9, 1, 2], .null, []) := rfl
theorem cd93_18 : code9 93 18 = some (0, .iload_n 1, [1], .null, []) := rfl
theorem cd93_19 : code9 93 19 = some (0, .iload_n 3, [1], .null, []) := rfl
theorem cd93_20 : code9 93 20 = some (0, .iastore, [1], .null, []) := rfl
theorem cd93_21 : code9 93 21 = some (0, .aload_n 0, [1], .null, []) := rfl
theorem cd93_22 : code9 93 22 = some (0, .getfield 18, [3, 9, 2, 2], .null, []) := rfl
theorem cd93_25 : code9 93 25 = some (0, .iload_n 1, [1], .null, []) := rfl
theorem cd93_26 : code9 93 26 = some (0, .iconst 0, [1], .int 0, []) := rfl
theorem cd93_27 : code9 93 27 = some (0, .iastore, [1], .null, []) := rfl
theorem cd93_28 : code9 93 28 = some (0, .return_, [1], .null, []) := rfl
def State_layFind (a0 : Nat) (l1 : Int32) (l2 : Int32) (l3 : Int32) (I : FI) : Option (FI) := if in9 l1 10 then (Option.bind (some (up2 I (a0 + 4) l1.toNatClampNeg (0 : Int32))) fun I2 => (Option.bind (some (up2 I2 (a0 + 1) l1.toNatClampNeg l2)) fun I3 => (Option.bind (some (up2 I3 (a0 + 2) l1.toNatClampNeg l3)) fun I4 => (Option.bind (some (up2 I4 (a0 + 3) l1.toNatClampNeg (0 : Int32))) fun I5 => (some I5))))) else none
set_option maxRecDepth 8000 in
theorem t_State_layFind {d : Nat} {a0 : Nat} {c : Nat × Nat} {S : Nat → Nat × Nat} {P : Nat → Nat → Option Nat} {I : FI} {J : FJ} {l1 : Int32} {l2 : Int32} {l3 : Int32} {r : FI} (hd : 0 ≤ d) (h0 : O9 S P a0) (h : State_layFind a0 l1 l2 l3 I = some r) : Go d M_State_layFind 0 [some (.ref a0), some (.int l1), some (.int l2), some (.int l3)] [] (c, S, I, J, P) (none, false, (c, S, r, J, P)) := by
  unfold State_layFind at h
  refine g_aload_n cd93_0 rfl rfl ?_
  refine g_getP cd93_1 rfl (O9.o h0) (show P a0 3 = some (a0 + 4) from O9.p3 h0) ?_
  refine g_iload_n cd93_4 rfl rfl ?_
  refine g_iconst cd93_5 rfl ?_
  obtain ⟨hg1, h⟩ := grd h
  obtain ⟨I2, e1, h⟩ := bnd h
  refine G_iast cd93_6 rfl (show S (a0 + 4) = (1, 10) from O9.s3 h0) hg1 (Option.some.inj e1) ?_
  refine g_aload_n cd93_7 rfl rfl ?_
  refine g_getP cd93_8 rfl (O9.o h0) (show P a0 0 = some (a0 + 1) from O9.p0 h0) ?_
  refine g_iload_n cd93_11 rfl rfl ?_
  refine g_iload_n cd93_12 rfl rfl ?_
  obtain ⟨I3, e1, h⟩ := bnd h
  refine G_iast cd93_13 rfl (show S (a0 + 1) = (1, 10) from O9.s0 h0) hg1 (Option.some.inj e1) ?_
  refine g_aload_n cd93_14 rfl rfl ?_
  refine g_getP cd93_15 rfl (O9.o h0) (show P a0 1 = some (a0 + 2) from O9.p1 h0) ?_
  refine g_iload_n cd93_18 rfl rfl ?_
  refine g_iload_n cd93_19 rfl rfl ?_
  obtain ⟨I4, e1, h⟩ := bnd h
  refine G_iast cd93_20 rfl (show S (a0 + 2) = (1, 10) from O9.s1 h0) hg1 (Option.some.inj e1) ?_
  refine g_aload_n cd93_21 rfl rfl ?_
  refine g_getP cd93_22 rfl (O9.o h0) (show P a0 2 = some (a0 + 3) from O9.p2 h0) ?_
  refine g_iload_n cd93_25 rfl rfl ?_
  refine g_iconst cd93_26 rfl ?_
  obtain ⟨I5, e1, h⟩ := bnd h
  refine G_iast cd93_27 rfl (show S (a0 + 3) = (1, 10) from O9.s2 h0) hg1 (Option.some.inj e1) ?_
  exact g_vret cd93_28 (by obtain rfl := Option.some.inj h; rfl)
/-! HiddenOrLost$Draws.below(I)I -/
theorem cd22_0 : code9 22 0 = some (0, .aload_n 0, [1], .null, []) := rfl
theorem cd22_1 : code9 22 1 = some (0, .aload_n 0, [1], .null, []) := rfl
theorem cd22_2 : code9 22 2 = some (0, .getfield 7, [3, 2, 0, 0], .null, []) := rfl
theorem cd22_5 : code9 22 5 = some (0, .ldc 13, [2], .int 1103515245, []) := rfl
theorem cd22_7 : code9 22 7 = some (0, .imul, [1], .null, []) := rfl
theorem cd22_8 : code9 22 8 = some (0, .sipush 12345, [3], .int 12345, []) := rfl
theorem cd22_11 : code9 22 11 = some (0, .iadd, [1], .null, []) := rfl
theorem cd22_12 : code9 22 12 = some (0, .putfield 7, [3, 2, 0, 0], .null, []) := rfl
theorem cd22_15 : code9 22 15 = some (0, .iload_n 1, [1], .null, []) := rfl
theorem cd22_16 : code9 22 16 = some (0, .ifCond .le 15, [3, 31], .null, []) := rfl
theorem cd22_19 : code9 22 19 = some (0, .aload_n 0, [1], .null, []) := rfl
theorem cd22_20 : code9 22 20 = some (0, .getfield 7, [3, 2, 0, 0], .null, []) := rfl
theorem cd22_23 : code9 22 23 = some (0, .bipush 8, [2], .int 8, []) := rfl
theorem cd22_25 : code9 22 25 = some (0, .iushr, [1], .null, []) := rfl
theorem cd22_26 : code9 22 26 = some (0, .iload_n 1, [1], .null, []) := rfl
theorem cd22_27 : code9 22 27 = some (0, .irem, [1], .null, []) := rfl
theorem cd22_28 : code9 22 28 = some (0, .goto 4, [3, 32, 2], .null, []) := rfl
theorem cd22_31 : code9 22 31 = some (0, .iconst 0, [1], .int 0, []) := rfl
theorem cd22_32 : code9 22 32 = some (3, .ireturn, [1, 1], .null, []) := rfl
def Draws_below (a0 : Nat) (l1 : Int32) (I : FI) : Option (Int32 × FI) := Option.bind (some (up2 I a0 0 (((I a0 0) * 1103515245) + 12345))) fun I1 => (if l1 ≤ 0 then (some (0, I1)) else (if ¬ l1 = 0 then (some ((((I1 a0 0).toUInt32 >>> ((8 : Int32).toUInt32 &&& Int32.toUInt32 31)).toInt32) - (((I1 a0 0).toUInt32 >>> ((8 : Int32).toUInt32 &&& Int32.toUInt32 31)).toInt32) / l1 * l1, I1)) else none))
set_option maxRecDepth 8000 in
theorem t_Draws_below {d : Nat} {a0 : Nat} {c : Nat × Nat} {S : Nat → Nat × Nat} {P : Nat → Nat → Option Nat} {I : FI} {J : FJ} {l1 : Int32} {r : Int32 × FI} (hd : 0 ≤ d) (h0 : O2 S P a0) (h : Draws_below a0 l1 I = some r) : Go d M_Draws_below 0 [some (.ref a0), some (.int l1)] [] (c, S, I, J, P) (some (.int r.1), false, (c, S, r.2, J, P)) := by
  unfold Draws_below at h
  refine g_aload_n cd22_0 rfl rfl ?_
  refine g_aload_n cd22_1 rfl rfl ?_
  refine g_getI cd22_2 rfl (O2.o h0) ?_
  refine g_ldc cd22_5 rfl ?_
  refine g_imul cd22_7 rfl ?_
  refine g_sipush cd22_8 rfl ?_
  refine g_iadd cd22_11 rfl ?_
  obtain ⟨I1, e1, h⟩ := bnd h
  refine G_putI cd22_12 rfl (O2.o h0) (Option.some.inj e1) ?_
  refine g_iload_n cd22_15 rfl rfl ?_
  refine g_if_le cd22_16 rfl (fun hb => ?_) (fun hb => ?_)
  · have h := ifpE hb h
    refine g_iconst cd22_31 rfl ?_
    exact g_iret cd22_32 (Or.inl rfl) (by obtain rfl := Option.some.inj h; rfl)
  · have h := ifnE hb h
    refine g_aload_n cd22_19 rfl rfl ?_
    refine g_getI cd22_20 rfl (O2.o h0) ?_
    refine g_bipush cd22_23 rfl ?_
    refine g_iushr cd22_25 rfl ?_
    refine g_iload_n cd22_26 rfl rfl ?_
    obtain ⟨hg2, h⟩ := grd h
    refine g_irem cd22_27 rfl hg2 ?_
    refine g_goto (ls2 := [some (.ref a0), some (.int l1)]) cd22_28 rfl rfl ?_
    exact g_iret cd22_32 (Or.inl rfl) (by obtain rfl := Option.some.inj h; rfl)
/-! HiddenOrLost$State.shift(LHiddenOrLost$Land;II)Z -/
theorem cd96_0 : code9 96 0 = some (0, .aload_n 0, [1], .null, []) := rfl
theorem cd96_1 : code9 96 1 = some (0, .getfield 9, [3, 9, 0, 2], .null, []) := rfl
theorem cd96_4 : code9 96 4 = some (0, .iload_n 2, [1], .null, []) := rfl
theorem cd96_5 : code9 96 5 = some (0, .iaload, [1], .null, []) := rfl
theorem cd96_6 : code9 96 6 = some (0, .istore 4, [2], .null, []) := rfl
theorem cd96_8 : code9 96 8 = some (0, .aload_n 0, [1], .null, []) := rfl
theorem cd96_9 : code9 96 9 = some (0, .getfield 15, [3, 9, 1, 2], .null, []) := rfl
theorem cd96_12 : code9 96 12 = some (0, .iload_n 2, [1], .null, []) := rfl
theorem cd96_13 : code9 96 13 = some (0, .iaload, [1], .null, []) := rfl
theorem cd96_14 : code9 96 14 = some (0, .istore 5, [2], .null, []) := rfl
theorem cd96_16 : code9 96 16 = some (0, .iload_n 3, [1], .null, []) := rfl
theorem cd96_17 : code9 96 17 = some (0, .tableswitch 55 1 4 #[31, 37, 43, 49], [31, 72], .null, [(1, 48), (2, 54), (3, 60), (4, 66)]) := rfl
theorem cd96_48 : code9 96 48 = some (0, .iinc 4 1, [3], .int 1, []) := rfl
theorem cd96_51 : code9 96 51 = some (0, .goto 23, [3, 74, 6], .null, []) := rfl
theorem cd96_54 : code9 96 54 = some (0, .iinc 4 (-1), [3], .int (-1), []) := rfl
theorem cd96_57 : code9 96 57 = some (0, .goto 17, [3, 74, 6], .null, []) := rfl
theorem cd96_60 : code9 96 60 = some (0, .iinc 5 1, [3], .int 1, []) := rfl
theorem cd96_63 : code9 96 63 = some (0, .goto 11, [3, 74, 6], .null, []) := rfl
theorem cd96_66 : code9 96 66 = some (0, .iinc 5 (-1), [3], .int (-1), []) := rfl
theorem cd96_69 : code9 96 69 = some (0, .goto 5, [3, 74, 6], .null, []) := rfl
theorem cd96_72 : code9 96 72 = some (0, .iconst 0, [1], .int 0, []) := rfl
theorem cd96_73 : code9 96 73 = some (0, .ireturn, [1, 3], .null, []) := rfl
theorem cd96_74 : code9 96 74 = some (7, .aload_n 1, [1], .null, []) := rfl
theorem cd96_75 : code9 96 75 = some (0, .iload 4, [2], .null, []) := rfl
theorem cd96_77 : code9 96 77 = some (0, .iload 5, [2], .null, []) := rfl
theorem cd96_79 : code9 96 79 = some (0, .invokevirtual 104, [3, 53, 3, 1, 3, 3, 6, 0], .null, []) := rfl
theorem cd96_82 : code9 96 82 = some (0, .ifCond .ne 5, [3, 87], .null, []) := rfl
theorem cd96_85 : code9 96 85 = some (0, .iconst 0, [1], .int 0, []) := rfl
theorem cd96_86 : code9 96 86 = some (0, .ireturn, [1, 3], .null, []) := rfl
theorem cd96_87 : code9 96 87 = some (0, .aload_n 0, [1], .null, []) := rfl
theorem cd96_88 : code9 96 88 = some (0, .getfield 9, [3, 9, 0, 2], .null, []) := rfl
theorem cd96_91 : code9 96 91 = some (0, .iload_n 2, [1], .null, []) := rfl
theorem cd96_92 : code9 96 92 = some (0, .iload 4, [2], .null, []) := rfl
theorem cd96_94 : code9 96 94 = some (0, .iastore, [1], .null, []) := rfl
theorem cd96_95 : code9 96 95 = some (0, .aload_n 0, [1], .null, []) := rfl
theorem cd96_96 : code9 96 96 = some (0, .getfield 15, [3, 9, 1, 2], .null, []) := rfl
theorem cd96_99 : code9 96 99 = some (0, .iload_n 2, [1], .null, []) := rfl
theorem cd96_100 : code9 96 100 = some (0, .iload 5, [2], .null, []) := rfl
theorem cd96_102 : code9 96 102 = some (0, .iastore, [1], .null, []) := rfl
theorem cd96_103 : code9 96 103 = some (0, .iconst 1, [1], .int 1, []) := rfl
theorem cd96_104 : code9 96 104 = some (0, .ireturn, [1, 3], .null, []) := rfl
def State_shift (a0 a1 : Nat) (l2 : Int32) (l3 : Int32) (I : FI) : Option (Bool × FI) := if in9 l2 10 then (if l3 = 1 then (if (Land_hasCell a1 ((I (a0 + 1) l2.toNatClampNeg) + 1) (I (a0 + 2) l2.toNatClampNeg) I) then (Option.bind (some (up2 I (a0 + 1) l2.toNatClampNeg ((I (a0 + 1) l2.toNatClampNeg) + 1))) fun I2 => (Option.bind (some (up2 I2 (a0 + 2) l2.toNatClampNeg (I (a0 + 2) l2.toNatClampNeg))) fun I3 => (some (true, I3)))) else (some (false, I))) else (if l3 = 2 then (if (Land_hasCell a1 ((I (a0 + 1) l2.toNatClampNeg) + (-1)) (I (a0 + 2) l2.toNatClampNeg) I) then (Option.bind (some (up2 I (a0 + 1) l2.toNatClampNeg ((I (a0 + 1) l2.toNatClampNeg) + (-1)))) fun I4 => (Option.bind (some (up2 I4 (a0 + 2) l2.toNatClampNeg (I (a0 + 2) l2.toNatClampNeg))) fun I5 => (some (true, I5)))) else (some (false, I))) else (if l3 = 3 then (if (Land_hasCell a1 (I (a0 + 1) l2.toNatClampNeg) ((I (a0 + 2) l2.toNatClampNeg) + 1) I) then (Option.bind (some (up2 I (a0 + 1) l2.toNatClampNeg (I (a0 + 1) l2.toNatClampNeg))) fun I6 => (Option.bind (some (up2 I6 (a0 + 2) l2.toNatClampNeg ((I (a0 + 2) l2.toNatClampNeg) + 1))) fun I7 => (some (true, I7)))) else (some (false, I))) else (if l3 = 4 then (if (Land_hasCell a1 (I (a0 + 1) l2.toNatClampNeg) ((I (a0 + 2) l2.toNatClampNeg) + (-1)) I) then (Option.bind (some (up2 I (a0 + 1) l2.toNatClampNeg (I (a0 + 1) l2.toNatClampNeg))) fun I8 => (Option.bind (some (up2 I8 (a0 + 2) l2.toNatClampNeg ((I (a0 + 2) l2.toNatClampNeg) + (-1)))) fun I9 => (some (true, I9)))) else (some (false, I))) else (some (false, I)))))) else none
set_option maxRecDepth 8000 in
theorem t_State_shift {d : Nat} {a0 a1 : Nat} {c : Nat × Nat} {S : Nat → Nat × Nat} {P : Nat → Nat → Option Nat} {I : FI} {J : FJ} {l2 : Int32} {l3 : Int32} {r : Bool × FI} (hd : 1 ≤ d) (h0 : O9 S P a0) (h1 : O6 S P a1) (h : State_shift a0 a1 l2 l3 I = some r) : Go d M_State_shift 0 [some (.ref a0), some (.ref a1), some (.int l2), some (.int l3), none, none] [] (c, S, I, J, P) (some (.int (b2i r.1)), false, (c, S, r.2, J, P)) := by
  obtain ⟨d, rfl⟩ : ∃ e, d = e + 1 := ⟨d - 1, by omega⟩
  unfold State_shift at h
  refine g_aload_n cd96_0 rfl rfl ?_
  refine g_getP cd96_1 rfl (O9.o h0) (show P a0 0 = some (a0 + 1) from O9.p0 h0) ?_
  refine g_iload_n cd96_4 rfl rfl ?_
  obtain ⟨hg1, h⟩ := grd h
  refine G_iald cd96_5 rfl (show S (a0 + 1) = (1, 10) from O9.s0 h0) hg1 ?_
  refine g_istore (ls2 := [some (.ref a0), some (.ref a1), some (.int l2), some (.int l3), some (.int (I (a0 + 1) l2.toNatClampNeg)), none]) cd96_6 rfl rfl ?_
  refine g_aload_n cd96_8 rfl rfl ?_
  refine g_getP cd96_9 rfl (O9.o h0) (show P a0 1 = some (a0 + 2) from O9.p1 h0) ?_
  refine g_iload_n cd96_12 rfl rfl ?_
  refine G_iald cd96_13 rfl (show S (a0 + 2) = (1, 10) from O9.s1 h0) hg1 ?_
  refine g_istore (ls2 := [some (.ref a0), some (.ref a1), some (.int l2), some (.int l3), some (.int (I (a0 + 1) l2.toNatClampNeg)), some (.int (I (a0 + 2) l2.toNatClampNeg))]) cd96_14 rfl rfl ?_
  refine g_iload_n cd96_16 rfl rfl ?_
  refine g_tableswitch cd96_17 rfl ?_
  refine ifi (fun hb => ?_) (fun hb => ?_)
  · have h := ifpE hb h
    show Go _ _ 48 [some (.ref a0), some (.ref a1), some (.int l2), some (.int l3), some (.int (I (a0 + 1) l2.toNatClampNeg)), some (.int (I (a0 + 2) l2.toNatClampNeg))] [] _ _
    refine g_iinc (ls2 := [some (.ref a0), some (.ref a1), some (.int l2), some (.int l3), some (.int ((I (a0 + 1) l2.toNatClampNeg) + 1)), some (.int (I (a0 + 2) l2.toNatClampNeg))]) cd96_48 rfl rfl rfl ?_
    refine g_goto (ls2 := [some (.ref a0), some (.ref a1), some (.int l2), some (.int l3), some (.int ((I (a0 + 1) l2.toNatClampNeg) + 1)), some (.int (I (a0 + 2) l2.toNatClampNeg))]) cd96_51 rfl rfl ?_
    refine g_aload_n cd96_74 rfl rfl ?_
    refine g_iload cd96_75 rfl rfl ?_
    refine g_iload cd96_77 rfl rfl ?_
    refine g_callVZ (L := [some (.ref a1), some (.int ((I (a0 + 1) l2.toNatClampNeg) + 1)), some (.int (I (a0 + 2) l2.toNatClampNeg))]) cd96_79 rfl rfl rfl rfl rfl (O6.o h1) (t_Land_hasCell (by omega) h1 rfl) ?_
    refine g_if_ne cd96_82 rfl (fun hb => ?_) (fun hb => ?_)
    · have h := ifnE (b2i_f hb) h
      refine g_iconst cd96_85 rfl ?_
      exact g_iret cd96_86 (Or.inr ⟨rfl, Or.inl rfl⟩) (by obtain rfl := Option.some.inj h; rfl)
    · have h := ifpE (b2i_t hb) h
      refine g_aload_n cd96_87 rfl rfl ?_
      refine g_getP cd96_88 rfl (O9.o h0) (show P a0 0 = some (a0 + 1) from O9.p0 h0) ?_
      refine g_iload_n cd96_91 rfl rfl ?_
      refine g_iload cd96_92 rfl rfl ?_
      obtain ⟨I2, e1, h⟩ := bnd h
      refine G_iast cd96_94 rfl (show S (a0 + 1) = (1, 10) from O9.s0 h0) hg1 (Option.some.inj e1) ?_
      refine g_aload_n cd96_95 rfl rfl ?_
      refine g_getP cd96_96 rfl (O9.o h0) (show P a0 1 = some (a0 + 2) from O9.p1 h0) ?_
      refine g_iload_n cd96_99 rfl rfl ?_
      refine g_iload cd96_100 rfl rfl ?_
      obtain ⟨I3, e1, h⟩ := bnd h
      refine G_iast cd96_102 rfl (show S (a0 + 2) = (1, 10) from O9.s1 h0) hg1 (Option.some.inj e1) ?_
      refine g_iconst cd96_103 rfl ?_
      exact g_iret cd96_104 (Or.inr ⟨rfl, Or.inr rfl⟩) (by obtain rfl := Option.some.inj h; rfl)
  have h := ifnE hb h
  refine ifi (fun hb => ?_) (fun hb => ?_)
  · have h := ifpE hb h
    show Go _ _ 54 [some (.ref a0), some (.ref a1), some (.int l2), some (.int l3), some (.int (I (a0 + 1) l2.toNatClampNeg)), some (.int (I (a0 + 2) l2.toNatClampNeg))] [] _ _
    refine g_iinc (ls2 := [some (.ref a0), some (.ref a1), some (.int l2), some (.int l3), some (.int ((I (a0 + 1) l2.toNatClampNeg) + (-1))), some (.int (I (a0 + 2) l2.toNatClampNeg))]) cd96_54 rfl rfl rfl ?_
    refine g_goto (ls2 := [some (.ref a0), some (.ref a1), some (.int l2), some (.int l3), some (.int ((I (a0 + 1) l2.toNatClampNeg) + (-1))), some (.int (I (a0 + 2) l2.toNatClampNeg))]) cd96_57 rfl rfl ?_
    refine g_aload_n cd96_74 rfl rfl ?_
    refine g_iload cd96_75 rfl rfl ?_
    refine g_iload cd96_77 rfl rfl ?_
    refine g_callVZ (L := [some (.ref a1), some (.int ((I (a0 + 1) l2.toNatClampNeg) + (-1))), some (.int (I (a0 + 2) l2.toNatClampNeg))]) cd96_79 rfl rfl rfl rfl rfl (O6.o h1) (t_Land_hasCell (by omega) h1 rfl) ?_
    refine g_if_ne cd96_82 rfl (fun hb => ?_) (fun hb => ?_)
    · have h := ifnE (b2i_f hb) h
      refine g_iconst cd96_85 rfl ?_
      exact g_iret cd96_86 (Or.inr ⟨rfl, Or.inl rfl⟩) (by obtain rfl := Option.some.inj h; rfl)
    · have h := ifpE (b2i_t hb) h
      refine g_aload_n cd96_87 rfl rfl ?_
      refine g_getP cd96_88 rfl (O9.o h0) (show P a0 0 = some (a0 + 1) from O9.p0 h0) ?_
      refine g_iload_n cd96_91 rfl rfl ?_
      refine g_iload cd96_92 rfl rfl ?_
      obtain ⟨I4, e1, h⟩ := bnd h
      refine G_iast cd96_94 rfl (show S (a0 + 1) = (1, 10) from O9.s0 h0) hg1 (Option.some.inj e1) ?_
      refine g_aload_n cd96_95 rfl rfl ?_
      refine g_getP cd96_96 rfl (O9.o h0) (show P a0 1 = some (a0 + 2) from O9.p1 h0) ?_
      refine g_iload_n cd96_99 rfl rfl ?_
      refine g_iload cd96_100 rfl rfl ?_
      obtain ⟨I5, e1, h⟩ := bnd h
      refine G_iast cd96_102 rfl (show S (a0 + 2) = (1, 10) from O9.s1 h0) hg1 (Option.some.inj e1) ?_
      refine g_iconst cd96_103 rfl ?_
      exact g_iret cd96_104 (Or.inr ⟨rfl, Or.inr rfl⟩) (by obtain rfl := Option.some.inj h; rfl)
  have h := ifnE hb h
  refine ifi (fun hb => ?_) (fun hb => ?_)
  · have h := ifpE hb h
    show Go _ _ 60 [some (.ref a0), some (.ref a1), some (.int l2), some (.int l3), some (.int (I (a0 + 1) l2.toNatClampNeg)), some (.int (I (a0 + 2) l2.toNatClampNeg))] [] _ _
    refine g_iinc (ls2 := [some (.ref a0), some (.ref a1), some (.int l2), some (.int l3), some (.int (I (a0 + 1) l2.toNatClampNeg)), some (.int ((I (a0 + 2) l2.toNatClampNeg) + 1))]) cd96_60 rfl rfl rfl ?_
    refine g_goto (ls2 := [some (.ref a0), some (.ref a1), some (.int l2), some (.int l3), some (.int (I (a0 + 1) l2.toNatClampNeg)), some (.int ((I (a0 + 2) l2.toNatClampNeg) + 1))]) cd96_63 rfl rfl ?_
    refine g_aload_n cd96_74 rfl rfl ?_
    refine g_iload cd96_75 rfl rfl ?_
    refine g_iload cd96_77 rfl rfl ?_
    refine g_callVZ (L := [some (.ref a1), some (.int (I (a0 + 1) l2.toNatClampNeg)), some (.int ((I (a0 + 2) l2.toNatClampNeg) + 1))]) cd96_79 rfl rfl rfl rfl rfl (O6.o h1) (t_Land_hasCell (by omega) h1 rfl) ?_
    refine g_if_ne cd96_82 rfl (fun hb => ?_) (fun hb => ?_)
    · have h := ifnE (b2i_f hb) h
      refine g_iconst cd96_85 rfl ?_
      exact g_iret cd96_86 (Or.inr ⟨rfl, Or.inl rfl⟩) (by obtain rfl := Option.some.inj h; rfl)
    · have h := ifpE (b2i_t hb) h
      refine g_aload_n cd96_87 rfl rfl ?_
      refine g_getP cd96_88 rfl (O9.o h0) (show P a0 0 = some (a0 + 1) from O9.p0 h0) ?_
      refine g_iload_n cd96_91 rfl rfl ?_
      refine g_iload cd96_92 rfl rfl ?_
      obtain ⟨I6, e1, h⟩ := bnd h
      refine G_iast cd96_94 rfl (show S (a0 + 1) = (1, 10) from O9.s0 h0) hg1 (Option.some.inj e1) ?_
      refine g_aload_n cd96_95 rfl rfl ?_
      refine g_getP cd96_96 rfl (O9.o h0) (show P a0 1 = some (a0 + 2) from O9.p1 h0) ?_
      refine g_iload_n cd96_99 rfl rfl ?_
      refine g_iload cd96_100 rfl rfl ?_
      obtain ⟨I7, e1, h⟩ := bnd h
      refine G_iast cd96_102 rfl (show S (a0 + 2) = (1, 10) from O9.s1 h0) hg1 (Option.some.inj e1) ?_
      refine g_iconst cd96_103 rfl ?_
      exact g_iret cd96_104 (Or.inr ⟨rfl, Or.inr rfl⟩) (by obtain rfl := Option.some.inj h; rfl)
  have h := ifnE hb h
  refine ifi (fun hb => ?_) (fun hb => ?_)
  · have h := ifpE hb h
    show Go _ _ 66 [some (.ref a0), some (.ref a1), some (.int l2), some (.int l3), some (.int (I (a0 + 1) l2.toNatClampNeg)), some (.int (I (a0 + 2) l2.toNatClampNeg))] [] _ _
    refine g_iinc (ls2 := [some (.ref a0), some (.ref a1), some (.int l2), some (.int l3), some (.int (I (a0 + 1) l2.toNatClampNeg)), some (.int ((I (a0 + 2) l2.toNatClampNeg) + (-1)))]) cd96_66 rfl rfl rfl ?_
    refine g_goto (ls2 := [some (.ref a0), some (.ref a1), some (.int l2), some (.int l3), some (.int (I (a0 + 1) l2.toNatClampNeg)), some (.int ((I (a0 + 2) l2.toNatClampNeg) + (-1)))]) cd96_69 rfl rfl ?_
    refine g_aload_n cd96_74 rfl rfl ?_
    refine g_iload cd96_75 rfl rfl ?_
    refine g_iload cd96_77 rfl rfl ?_
    refine g_callVZ (L := [some (.ref a1), some (.int (I (a0 + 1) l2.toNatClampNeg)), some (.int ((I (a0 + 2) l2.toNatClampNeg) + (-1)))]) cd96_79 rfl rfl rfl rfl rfl (O6.o h1) (t_Land_hasCell (by omega) h1 rfl) ?_
    refine g_if_ne cd96_82 rfl (fun hb => ?_) (fun hb => ?_)
    · have h := ifnE (b2i_f hb) h
      refine g_iconst cd96_85 rfl ?_
      exact g_iret cd96_86 (Or.inr ⟨rfl, Or.inl rfl⟩) (by obtain rfl := Option.some.inj h; rfl)
    · have h := ifpE (b2i_t hb) h
      refine g_aload_n cd96_87 rfl rfl ?_
      refine g_getP cd96_88 rfl (O9.o h0) (show P a0 0 = some (a0 + 1) from O9.p0 h0) ?_
      refine g_iload_n cd96_91 rfl rfl ?_
      refine g_iload cd96_92 rfl rfl ?_
      obtain ⟨I8, e1, h⟩ := bnd h
      refine G_iast cd96_94 rfl (show S (a0 + 1) = (1, 10) from O9.s0 h0) hg1 (Option.some.inj e1) ?_
      refine g_aload_n cd96_95 rfl rfl ?_
      refine g_getP cd96_96 rfl (O9.o h0) (show P a0 1 = some (a0 + 2) from O9.p1 h0) ?_
      refine g_iload_n cd96_99 rfl rfl ?_
      refine g_iload cd96_100 rfl rfl ?_
      obtain ⟨I9, e1, h⟩ := bnd h
      refine G_iast cd96_102 rfl (show S (a0 + 2) = (1, 10) from O9.s1 h0) hg1 (Option.some.inj e1) ?_
      refine g_iconst cd96_103 rfl ?_
      exact g_iret cd96_104 (Or.inr ⟨rfl, Or.inr rfl⟩) (by obtain rfl := Option.some.inj h; rfl)
  have h := ifnE hb h
  show Go _ _ 72 [some (.ref a0), some (.ref a1), some (.int l2), some (.int l3), some (.int (I (a0 + 1) l2.toNatClampNeg)), some (.int (I (a0 + 2) l2.toNatClampNeg))] [] _ _
  refine g_iconst cd96_72 rfl ?_
  exact g_iret cd96_73 (Or.inr ⟨rfl, Or.inl rfl⟩) (by obtain rfl := Option.some.inj h; rfl)

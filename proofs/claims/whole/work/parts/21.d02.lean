/-! java/util/Arrays.fill([II)V -/
theorem cd299_0 : code9 299 0 = some (0, .iconst 0, [1], .int 0, []) := rfl
theorem cd299_1 : code9 299 1 = some (0, .istore_n 2, [1], .null, []) := rfl
theorem cd299_2 : code9 299 2 = some (0, .aload_n 0, [1], .null, []) := rfl
theorem cd299_3 : code9 299 3 = some (0, .arraylength, [1], .null, []) := rfl
theorem cd299_4 : code9 299 4 = some (0, .istore_n 3, [1], .null, []) := rfl
theorem cd299_5 : code9 299 5 = some (5, .iload_n 2, [1], .null, []) := rfl
theorem cd299_6 : code9 299 6 = some (0, .iload_n 3, [1], .null, []) := rfl
theorem cd299_7 : code9 299 7 = some (0, .if_icmp .ge 13, [3, 20], .null, []) := rfl
theorem cd299_10 : code9 299 10 = some (0, .aload_n 0, [1], .null, []) := rfl
theorem cd299_11 : code9 299 11 = some (0, .iload_n 2, [1], .null, []) := rfl
theorem cd299_12 : code9 299 12 = some (0, .iload_n 1, [1], .null, []) := rfl
theorem cd299_13 : code9 299 13 = some (0, .iastore, [1], .null, []) := rfl
theorem cd299_14 : code9 299 14 = some (0, .iinc 2 1, [3], .int 1, []) := rfl
theorem cd299_17 : code9 299 17 = some (0, .goto (-12), [3, 5, 4], .null, []) := rfl
theorem cd299_20 : code9 299 20 = some (0, .return_, [1], .null, []) := rfl
def Arrays_fill_5 (N : Nat) (a0 n0 : Nat) : Nat → Int32 → Int32 → Int32 → FI → Option (FI)
  | 0 => fun _ _ _ _ => none
  | n + 1 => fun l1 l2 l3 I => if l3 ≤ l2 then (some I) else (if in9 l2 n0 then (Option.bind (some (up2 I a0 l2.toNatClampNeg l1)) fun I2 => (Arrays_fill_5 N a0 n0 n l1 (l2 + 1) l3 I2)) else none)
def Arrays_fill (N : Nat) (a0 n0 : Nat) (l1 : Int32) (I : FI) : Option (FI) := Arrays_fill_5 N a0 n0 N l1 0 (Int32.ofNat n0) I
set_option maxRecDepth 8000 in
theorem t_Arrays_fill_5 {d : Nat} {N : Nat} {a0 n0 : Nat} {c : Nat × Nat} {S : Nat → Nat × Nat} {P : Nat → Nat → Option Nat} {r : FI} (hd : 0 ≤ d) (h0 : S a0 = (1, n0)) : ∀ (n : Nat) (l1 : Int32) (l2 : Int32) (l3 : Int32) (I : FI) (J : FJ), Arrays_fill_5 N a0 n0 n l1 l2 l3 I = some r → Go d M_Arrays_fill 5 [some (.ref a0), some (.int l1), some (.int l2), some (.int l3)] [] (c, S, I, J, P) (none, false, (c, S, r, J, P)) := by
  intro n
  induction n with
  | zero =>
    intro l1 l2 l3 I J h
    cases h
  | succ n ih =>
    intro l1 l2 l3 I J h
    unfold Arrays_fill_5 at h
    refine g_iload_n cd299_5 rfl rfl ?_
    refine g_iload_n cd299_6 rfl rfl ?_
    refine g_icmp_ge cd299_7 rfl (fun hb => ?_) (fun hb => ?_)
    · have h := ifpE hb h
      exact g_vret cd299_20 (by obtain rfl := Option.some.inj h; rfl)
    · have h := ifnE hb h
      refine g_aload_n cd299_10 rfl rfl ?_
      refine g_iload_n cd299_11 rfl rfl ?_
      refine g_iload_n cd299_12 rfl rfl ?_
      obtain ⟨hg1, h⟩ := grd h
      obtain ⟨I2, e1, h⟩ := bnd h
      refine G_iast cd299_13 rfl h0 hg1 (Option.some.inj e1) ?_
      refine g_iinc (ls2 := [some (.ref a0), some (.int l1), some (.int (l2 + 1)), some (.int l3)]) cd299_14 rfl rfl rfl ?_
      refine g_goto (ls2 := [some (.ref a0), some (.int l1), some (.int (l2 + 1)), some (.int l3)]) cd299_17 rfl rfl ?_
      exact ih l1 (l2 + 1) l3 I2 J h
set_option maxRecDepth 8000 in
theorem t_Arrays_fill {d : Nat} {N : Nat} {a0 n0 : Nat} {c : Nat × Nat} {S : Nat → Nat × Nat} {P : Nat → Nat → Option Nat} {I : FI} {J : FJ} {l1 : Int32} {r : FI} (hd : 0 ≤ d) (h0 : S a0 = (1, n0)) (h : Arrays_fill N a0 n0 l1 I = some r) : Go d M_Arrays_fill 0 [some (.ref a0), some (.int l1), none, none] [] (c, S, I, J, P) (none, false, (c, S, r, J, P)) := by
  unfold Arrays_fill at h
  refine g_iconst cd299_0 rfl ?_
  refine g_istore_n (ls2 := [some (.ref a0), some (.int l1), some (.int 0), none]) cd299_1 rfl rfl ?_
  refine g_aload_n cd299_2 rfl rfl ?_
  refine G_alen cd299_3 rfl h0 (by decide) ?_
  refine g_istore_n (ls2 := [some (.ref a0), some (.int l1), some (.int 0), some (.int (Int32.ofNat n0))]) cd299_4 rfl rfl ?_
  exact t_Arrays_fill_5 hd h0 _ l1 0 (Int32.ofNat n0) I J h
/-! HiddenOrLost$State.turnOver(LHiddenOrLost$Land;LHiddenOrLost$Draws;)I -/
theorem cd95_0 : code9 95 0 = some (0, .iconst 0, [1], .int 0, []) := rfl
theorem cd95_1 : code9 95 1 = some (0, .istore_n 3, [1], .null, []) := rfl
theorem cd95_2 : code9 95 2 = some (0, .iconst 0, [1], .int 0, []) := rfl
theorem cd95_3 : code9 95 3 = some (0, .istore 4, [2], .null, []) := rfl
theorem cd95_5 : code9 95 5 = some (6, .iload 4, [2], .null, []) := rfl
theorem cd95_7 : code9 95 7 = some (0, .aload_n 1, [1], .null, []) := rfl
theorem cd95_8 : code9 95 8 = some (0, .getfield 46, [3, 6, 12, 0], .null, []) := rfl
theorem cd95_11 : code9 95 11 = some (0, .if_icmp .ge 60, [3, 71], .null, []) := rfl
theorem cd95_14 : code9 95 14 = some (0, .aload_n 0, [1], .null, []) := rfl
theorem cd95_15 : code9 95 15 = some (0, .getfield 21, [3, 9, 3, 2], .null, []) := rfl
theorem cd95_18 : code9 95 18 = some (0, .iload 4, [2], .null, []) := rfl
theorem cd95_20 : code9 95 20 = some (0, .iaload, [1], .null, []) := rfl
theorem cd95_21 : code9 95 21 = some (0, .ifCond .ne 44, [3, 65], .null, []) := rfl
theorem cd95_24 : code9 95 24 = some (0, .aload_n 0, [1], .null, []) := rfl
theorem cd95_25 : code9 95 25 = some (0, .getfield 18, [3, 9, 2, 2], .null, []) := rfl
theorem cd95_28 : code9 95 28 = some (0, .iload 4, [2], .null, []) := rfl
theorem cd95_30 : code9 95 30 = some (0, .iaload, [1], .null, []) := rfl
theorem cd95_31 : code9 95 31 = some (0, .iconst 3, [1], .int 3, []) := rfl
theorem cd95_32 : code9 95 32 = some (0, .if_icmp .ge 33, [3, 65], .null, []) := rfl
theorem cd95_35 : code9 95 35 = some (0, .aload_n 0, [1], .null, []) := rfl
theorem cd95_36 : code9 95 36 = some (0, .aload_n 1, [1], .null, []) := rfl
theorem cd95_37 : code9 95 37 = some (0, .iload 4, [2], .null, []) := rfl
theorem cd95_39 : code9 95 39 = some (0, .aload_n 2, [1], .null, []) := rfl
theorem cd95_40 : code9 95 40 = some (0, .iconst 5, [1], .int 5, []) := rfl
theorem cd95_41 : code9 95 41 = some (0, .invokevirtual 95, [3, 22, 2, 1, 1, 2, 2, 0], .null, []) := rfl
theorem cd95_44 : code9 95 44 = some (0, .invokevirtual 100, [3, 96, 4, 1, 3, 6, 9, 0], .null, []) := rfl
theorem cd95_47 : code9 95 47 = some (0, .ifCond .eq 6, [3, 53], .null, []) := rfl
theorem cd95_50 : code9 95 50 = some (0, .iinc 3 1, [3], .int 1, []) := rfl
theorem cd95_53 : code9 95 53 = some (6, .aload_n 0, [1], .null, []) := rfl
theorem cd95_54 : code9 95 54 = some (0, .getfield 18, [3, 9, 2, 2], .null, []) := rfl
theorem cd95_57 : code9 95 57 = some (0, .iload 4, [2], .null, []) := rfl
theorem cd95_59 : code9 95 59 = some (0, .aload_n 2, [1], .null, []) := rfl
theorem cd95_60 : code9 95 60 = some (0, .iconst 3, [1], .int 3, []) := rfl
theorem cd95_61 : code9 95 61 = some (0, .invokevirtual 95, [3, 22, 2, 1, 1, 2, 2, 0], .null, []) := rfl
theorem cd95_64 : code9 95 64 = some (0, .iastore, [1], .null, []) := rfl
theorem cd95_65 : code9 95 65 = some (6, .iinc 4 1, [3], .int 1, []) := rfl
theorem cd95_68 : code9 95 68 = some (0, .goto (-63), [3, 5, 5], .null, []) := rfl
theorem cd95_71 : code9 95 71 = some (0, .aload_n 0, [1], .null, []) := rfl
theorem cd95_72 : code9 95 72 = some (0, .getfield 36, [3, 9, 8, 2], .null, []) := rfl
theorem cd95_75 : code9 95 75 = some (0, .iconst 0, [1], .int 0, []) := rfl
theorem cd95_76 : code9 95 76 = some (0, .invokestatic 55, [3, 299, 2, 0, 0, 4, 17, 0], .null, []) := rfl
theorem cd95_79 : code9 95 79 = some (0, .aload_n 0, [1], .null, []) := rfl
theorem cd95_80 : code9 95 80 = some (0, .dup, [1], .null, []) := rfl
theorem cd95_81 : code9 95 81 = some (0, .getfield 43, [3, 9, 10, 0], .null, []) := rfl
theorem cd95_84 : code9 95 84 = some (0, .iconst 1, [1], .int 1, []) := rfl
theorem cd95_85 : code9 95 85 = some (0, .iadd, [1], .null, []) := rfl
theorem cd95_86 : code9 95 86 = some (0, .putfield 43, [3, 9, 10, 0], .null, []) := rfl
theorem cd95_89 : code9 95 89 = some (0, .iload_n 3, [1], .null, []) := rfl
theorem cd95_90 : code9 95 90 = some (0, .ireturn, [1, 1], .null, []) := rfl
def State_turnOver_5 (N : Nat) (a0 a1 a2 : Nat) : Nat → Int32 → Int32 → FI → Option (Int32 × FI)
  | 0 => fun _ _ _ => none
  | n + 1 => fun l3 l4 I => if (I a1 12) ≤ l4 then (Option.bind (Arrays_fill N (a0 + 9) 36 0 I) fun x1 => (Option.bind (some (up2 x1 a0 10 ((x1 a0 10) + 1))) fun I2 => (some (l3, I2)))) else (if in9 l4 10 then (if (I (a0 + 4) l4.toNatClampNeg) = 0 then (if 3 ≤ (I (a0 + 3) l4.toNatClampNeg) then (State_turnOver_5 N a0 a1 a2 n l3 (l4 + 1) I) else (Option.bind (Draws_below a2 5 I) fun x4 => (Option.bind (State_shift a0 a1 l4 x4.1 x4.2) fun x5 => (if x5.1 then (Option.bind (Draws_below a2 3 x5.2) fun x8 => (Option.bind (some (up2 x8.2 (a0 + 3) l4.toNatClampNeg x8.1)) fun I9 => (State_turnOver_5 N a0 a1 a2 n (l3 + 1) (l4 + 1) I9))) else (Option.bind (Draws_below a2 3 x5.2) fun x6 => (Option.bind (some (up2 x6.2 (a0 + 3) l4.toNatClampNeg x6.1)) fun I7 => (State_turnOver_5 N a0 a1 a2 n l3 (l4 + 1) I7))))))) else (State_turnOver_5 N a0 a1 a2 n l3 (l4 + 1) I)) else none)
def State_turnOver (N : Nat) (a0 a1 a2 : Nat) (I : FI) : Option (Int32 × FI) := State_turnOver_5 N a0 a1 a2 N 0 0 I
set_option maxRecDepth 8000 in
theorem t_State_turnOver_5 {d : Nat} {N : Nat} {a0 a1 a2 : Nat} {c : Nat × Nat} {S : Nat → Nat × Nat} {P : Nat → Nat → Option Nat} {r : Int32 × FI} (hd : 2 ≤ (d + 1)) (h0 : O9 S P a0) (h1 : O6 S P a1) (h2 : O2 S P a2) : ∀ (n : Nat) (l3 : Int32) (l4 : Int32) (I : FI) (J : FJ), State_turnOver_5 N a0 a1 a2 n l3 l4 I = some r → Go (d + 1) M_State_turnOver 5 [some (.ref a0), some (.ref a1), some (.ref a2), some (.int l3), some (.int l4)] [] (c, S, I, J, P) (some (.int r.1), false, (c, S, r.2, J, P)) := by
  intro n
  induction n with
  | zero =>
    intro l3 l4 I J h
    cases h
  | succ n ih =>
    intro l3 l4 I J h
    unfold State_turnOver_5 at h
    refine g_iload cd95_5 rfl rfl ?_
    refine g_aload_n cd95_7 rfl rfl ?_
    refine g_getI cd95_8 rfl (O6.o h1) ?_
    refine g_icmp_ge cd95_11 rfl (fun hb => ?_) (fun hb => ?_)
    · have h := ifpE hb h
      refine g_aload_n cd95_71 rfl rfl ?_
      refine g_getP cd95_72 rfl (O9.o h0) (show P a0 8 = some (a0 + 9) from O9.p8 h0) ?_
      refine g_iconst cd95_75 rfl ?_
      obtain ⟨x1, hx, h⟩ := bnd h
      refine g_callSV (L := [some (.ref (a0 + 9)), some (.int 0), none, none]) cd95_76 rfl rfl rfl rfl rfl (t_Arrays_fill (by omega) (show S (a0 + 9) = (1, 36) from O9.s8 h0) hx) ?_
      refine g_aload_n cd95_79 rfl rfl ?_
      refine g_dupR cd95_80 rfl ?_
      refine g_getI cd95_81 rfl (O9.o h0) ?_
      refine g_iconst cd95_84 rfl ?_
      refine g_iadd cd95_85 rfl ?_
      obtain ⟨I2, e1, h⟩ := bnd h
      refine G_putI cd95_86 rfl (O9.o h0) (Option.some.inj e1) ?_
      refine g_iload_n cd95_89 rfl rfl ?_
      exact g_iret cd95_90 (Or.inl rfl) (by obtain rfl := Option.some.inj h; rfl)
    · have h := ifnE hb h
      refine g_aload_n cd95_14 rfl rfl ?_
      refine g_getP cd95_15 rfl (O9.o h0) (show P a0 3 = some (a0 + 4) from O9.p3 h0) ?_
      refine g_iload cd95_18 rfl rfl ?_
      obtain ⟨hg3, h⟩ := grd h
      refine G_iald cd95_20 rfl (show S (a0 + 4) = (1, 10) from O9.s3 h0) hg3 ?_
      refine g_if_ne cd95_21 rfl (fun hb => ?_) (fun hb => ?_)
      · have h := ifpE hb h
        refine g_aload_n cd95_24 rfl rfl ?_
        refine g_getP cd95_25 rfl (O9.o h0) (show P a0 2 = some (a0 + 3) from O9.p2 h0) ?_
        refine g_iload cd95_28 rfl rfl ?_
        refine G_iald cd95_30 rfl (show S (a0 + 3) = (1, 10) from O9.s2 h0) hg3 ?_
        refine g_iconst cd95_31 rfl ?_
        refine g_icmp_ge cd95_32 rfl (fun hb => ?_) (fun hb => ?_)
        · have h := ifpE hb h
          refine g_iinc (ls2 := [some (.ref a0), some (.ref a1), some (.ref a2), some (.int l3), some (.int (l4 + 1))]) cd95_65 rfl rfl rfl ?_
          refine g_goto (ls2 := [some (.ref a0), some (.ref a1), some (.ref a2), some (.int l3), some (.int (l4 + 1))]) cd95_68 rfl rfl ?_
          exact ih l3 (l4 + 1) I J h
        · have h := ifnE hb h
          refine g_aload_n cd95_35 rfl rfl ?_
          refine g_aload_n cd95_36 rfl rfl ?_
          refine g_iload cd95_37 rfl rfl ?_
          refine g_aload_n cd95_39 rfl rfl ?_
          refine g_iconst cd95_40 rfl ?_
          obtain ⟨x4, hx, h⟩ := bnd h
          refine g_callVI (L := [some (.ref a2), some (.int 5)]) cd95_41 rfl rfl rfl rfl rfl (O2.o h2) (t_Draws_below (by omega) h2 hx) ?_
          obtain ⟨x5, hx, h⟩ := bnd h
          refine g_callVZ (L := [some (.ref a0), some (.ref a1), some (.int l4), some (.int x4.1), none, none]) cd95_44 rfl rfl rfl rfl rfl (O9.o h0) (t_State_shift (by omega) h0 h1 hx) ?_
          refine g_if_eq cd95_47 rfl (fun hb => ?_) (fun hb => ?_)
          · have h := ifnE (b2i_f hb) h
            refine g_aload_n cd95_53 rfl rfl ?_
            refine g_getP cd95_54 rfl (O9.o h0) (show P a0 2 = some (a0 + 3) from O9.p2 h0) ?_
            refine g_iload cd95_57 rfl rfl ?_
            refine g_aload_n cd95_59 rfl rfl ?_
            refine g_iconst cd95_60 rfl ?_
            obtain ⟨x6, hx, h⟩ := bnd h
            refine g_callVI (L := [some (.ref a2), some (.int 3)]) cd95_61 rfl rfl rfl rfl rfl (O2.o h2) (t_Draws_below (by omega) h2 hx) ?_
            obtain ⟨I7, e1, h⟩ := bnd h
            refine G_iast cd95_64 rfl (show S (a0 + 3) = (1, 10) from O9.s2 h0) hg3 (Option.some.inj e1) ?_
            refine g_iinc (ls2 := [some (.ref a0), some (.ref a1), some (.ref a2), some (.int l3), some (.int (l4 + 1))]) cd95_65 rfl rfl rfl ?_
            refine g_goto (ls2 := [some (.ref a0), some (.ref a1), some (.ref a2), some (.int l3), some (.int (l4 + 1))]) cd95_68 rfl rfl ?_
            exact ih l3 (l4 + 1) I7 J h
          · have h := ifpE (b2i_t hb) h
            refine g_iinc (ls2 := [some (.ref a0), some (.ref a1), some (.ref a2), some (.int (l3 + 1)), some (.int l4)]) cd95_50 rfl rfl rfl ?_
            refine g_aload_n cd95_53 rfl rfl ?_
            refine g_getP cd95_54 rfl (O9.o h0) (show P a0 2 = some (a0 + 3) from O9.p2 h0) ?_
            refine g_iload cd95_57 rfl rfl ?_
            refine g_aload_n cd95_59 rfl rfl ?_
            refine g_iconst cd95_60 rfl ?_
            obtain ⟨x8, hx, h⟩ := bnd h
            refine g_callVI (L := [some (.ref a2), some (.int 3)]) cd95_61 rfl rfl rfl rfl rfl (O2.o h2) (t_Draws_below (by omega) h2 hx) ?_
            obtain ⟨I9, e1, h⟩ := bnd h
            refine G_iast cd95_64 rfl (show S (a0 + 3) = (1, 10) from O9.s2 h0) hg3 (Option.some.inj e1) ?_
            refine g_iinc (ls2 := [some (.ref a0), some (.ref a1), some (.ref a2), some (.int (l3 + 1)), some (.int (l4 + 1))]) cd95_65 rfl rfl rfl ?_
            refine g_goto (ls2 := [some (.ref a0), some (.ref a1), some (.ref a2), some (.int (l3 + 1)), some (.int (l4 + 1))]) cd95_68 rfl rfl ?_
            exact ih (l3 + 1) (l4 + 1) I9 J h
      · have h := ifnE hb h
        refine g_iinc (ls2 := [some (.ref a0), some (.ref a1), some (.ref a2), some (.int l3), some (.int (l4 + 1))]) cd95_65 rfl rfl rfl ?_
        refine g_goto (ls2 := [some (.ref a0), some (.ref a1), some (.ref a2), some (.int l3), some (.int (l4 + 1))]) cd95_68 rfl rfl ?_
        exact ih l3 (l4 + 1) I J h
set_option maxRecDepth 8000 in
theorem t_State_turnOver {d : Nat} {N : Nat} {a0 a1 a2 : Nat} {c : Nat × Nat} {S : Nat → Nat × Nat} {P : Nat → Nat → Option Nat} {I : FI} {J : FJ} {r : Int32 × FI} (hd : 2 ≤ d) (h0 : O9 S P a0) (h1 : O6 S P a1) (h2 : O2 S P a2) (h : State_turnOver N a0 a1 a2 I = some r) : Go d M_State_turnOver 0 [some (.ref a0), some (.ref a1), some (.ref a2), none, none] [] (c, S, I, J, P) (some (.int r.1), false, (c, S, r.2, J, P)) := by
  obtain ⟨d, rfl⟩ : ∃ e, d = e + 1 := ⟨d - 1, by omega⟩
  unfold State_turnOver at h
  refine g_iconst cd95_0 rfl ?_
  refine g_istore_n (ls2 := [some (.ref a0), some (.ref a1), some (.ref a2), some (.int 0), none]) cd95_1 rfl rfl ?_
  refine g_iconst cd95_2 rfl ?_
  refine g_istore (ls2 := [some (.ref a0), some (.ref a1), some (.ref a2), some (.int 0), some (.int 0)]) cd95_3 rfl rfl ?_
  exact t_State_turnOver_5 hd h0 h1 h2 _ 0 0 I J h
/-! HiddenOrLost$Land.columnOf(I)I -/
theorem cd56_0 : code9 56 0 = some (0, .aload_n 0, [1], .null, []) := rfl
theorem cd56_1 : code9 56 1 = some (0, .getfield 37, [3, 6, 8, 0], .null, []) := rfl
theorem cd56_4 : code9 56 4 = some (0, .ifCond .le 12, [3, 16], .null, []) := rfl
theorem cd56_7 : code9 56 7 = some (0, .iload_n 1, [1], .null, []) := rfl
theorem cd56_8 : code9 56 8 = some (0, .aload_n 0, [1], .null, []) := rfl
theorem cd56_9 : code9 56 9 = some (0, .getfield 37, [3, 6, 8, 0], .null, []) := rfl
theorem cd56_12 : code9 56 12 = some (0, .irem, [1], .null, []) := rfl
theorem cd56_13 : code9 56 13 = some (0, .goto 4, [3, 17, 2], .null, []) := rfl
theorem cd56_16 : code9 56 16 = some (0, .iconst 0, [1], .int 0, []) := rfl
theorem cd56_17 : code9 56 17 = some (3, .ireturn, [1, 1], .null, []) := rfl
def Land_columnOf (a0 : Nat) (l1 : Int32) (I : FI) : Option (Int32) := if (I a0 8) ≤ 0 then (some 0) else (if ¬ (I a0 8) = 0 then (some (l1 - l1 / (I a0 8) * (I a0 8))) else none)
set_option maxRecDepth 8000 in
theorem t_Land_columnOf {d : Nat} {a0 : Nat} {c : Nat × Nat} {S : Nat → Nat × Nat} {P : Nat → Nat → Option Nat} {I : FI} {J : FJ} {l1 : Int32} {r : Int32} (hd : 0 ≤ d) (h0 : O6 S P a0) (h : Land_columnOf a0 l1 I = some r) : Go d M_Land_columnOf 0 [some (.ref a0), some (.int l1)] [] (c, S, I, J, P) (some (.int r), false, (c, S, I, J, P)) := by
  unfold Land_columnOf at h
  refine g_aload_n cd56_0 rfl rfl ?_
  refine g_getI cd56_1 rfl (O6.o h0) ?_
  refine g_if_le cd56_4 rfl (fun hb => ?_) (fun hb => ?_)
  · have h := ifpE hb h
    refine g_iconst cd56_16 rfl ?_
    exact g_iret cd56_17 (Or.inl rfl) (by obtain rfl := Option.some.inj h; rfl)
  · have h := ifnE hb h
    refine g_iload_n cd56_7 rfl rfl ?_
    refine g_aload_n cd56_8 rfl rfl ?_
    refine g_getI cd56_9 rfl (O6.o h0) ?_
    obtain ⟨hg1, h⟩ := grd h
    refine g_irem cd56_12 rfl hg1 ?_
    refine g_goto (ls2 := [some (.ref a0), some (.int l1)]) cd56_13 rfl rfl ?_
    exact g_iret cd56_17 (Or.inl rfl) (by obtain rfl := Option.some.inj h; rfl)
/-! HiddenOrLost$Land.rowOf(I)I -/
theorem cd57_0 : code9 57 0 = some (0, .aload_n 0, [1], .null, []) := rfl
theorem cd57_1 : code9 57 1 = some (0, .getfield 37, [3, 6, 8, 0], .null, []) := rfl
theorem cd57_4 : code9 57 4 = some (0, .ifCond .le 12, [3, 16], .null, []) := rfl
theorem cd57_7 : code9 57 7 = some (0, .iload_n 1, [1], .null, []) := rfl
theorem cd57_8 : code9 57 8 = some (0, .aload_n 0, [1], .null, []) := rfl
theorem cd57_9 : code9 57 9 = some (0, .getfield 37, [3, 6, 8, 0], .null, []) := rfl
theorem cd57_12 : code9 57 12 = some (0, .idiv, [1], .null, []) := rfl
theorem cd57_13 : code9 57 13 = some (0, .goto 4, [3, 17, 2], .null, []) := rfl
theorem cd57_16 : code9 57 16 = some (0, .iconst 0, [1], .int 0, []) := rfl
theorem cd57_17 : code9 57 17 = some (3, .ireturn, [1, 1], .null, []) := rfl
def Land_rowOf (a0 : Nat) (l1 : Int32) (I : FI) : Option (Int32) := if (I a0 8) ≤ 0 then (some 0) else (if ¬ (I a0 8) = 0 then (some (l1 / (I a0 8))) else none)
set_option maxRecDepth 8000 in
theorem t_Land_rowOf {d : Nat} {a0 : Nat} {c : Nat × Nat} {S : Nat → Nat × Nat} {P : Nat → Nat → Option Nat} {I : FI} {J : FJ} {l1 : Int32} {r : Int32} (hd : 0 ≤ d) (h0 : O6 S P a0) (h : Land_rowOf a0 l1 I = some r) : Go d M_Land_rowOf 0 [some (.ref a0), some (.int l1)] [] (c, S, I, J, P) (some (.int r), false, (c, S, I, J, P)) := by
  unfold Land_rowOf at h
  refine g_aload_n cd57_0 rfl rfl ?_
  refine g_getI cd57_1 rfl (O6.o h0) ?_
  refine g_if_le cd57_4 rfl (fun hb => ?_) (fun hb => ?_)
  · have h := ifpE hb h
    refine g_iconst cd57_16 rfl ?_
    exact g_iret cd57_17 (Or.inl rfl) (by obtain rfl := Option.some.inj h; rfl)
  · have h := ifnE hb h
    refine g_iload_n cd57_7 rfl rfl ?_
    refine g_aload_n cd57_8 rfl rfl ?_
    refine g_getI cd57_9 rfl (O6.o h0) ?_
    obtain ⟨hg1, h⟩ := grd h
    refine g_idiv cd57_12 rfl hg1 ?_
    refine g_goto (ls2 := [some (.ref a0), some (.int l1)]) cd57_13 rfl rfl ?_
    exact g_iret cd57_17 (Or.inl rfl) (by obtain rfl := Option.some.inj h; rfl)
/-! HiddenOrLost$State.passNight(LHiddenOrLost$Land;LHiddenOrLost$Draws;)V -/
theorem cd98_0 : code9 98 0 = some (0, .aload_n 2, [1], .null, []) := rfl
theorem cd98_1 : code9 98 1 = some (0, .aload_n 1, [1], .null, []) := rfl
theorem cd98_2 : code9 98 2 = some (0, .getfield 114, [3, 6, 11, 0], .null, []) := rfl
theorem cd98_5 : code9 98 5 = some (0, .invokevirtual 95, [3, 22, 2, 1, 1, 2, 2, 0], .null, []) := rfl
theorem cd98_8 : code9 98 8 = some (0, .istore_n 3, [1], .null, []) := rfl
theorem cd98_9 : code9 98 9 = some (0, .aload_n 2, [1], .null, []) := rfl
theorem cd98_10 : code9 98 10 = some (0, .aload_n 1, [1], .null, []) := rfl
theorem cd98_11 : code9 98 11 = some (0, .getfield 117, [3, 6, 8, 0], .null, []) := rfl
theorem cd98_14 : code9 98 14 = some (0, .aload_n 1, [1], .null, []) := rfl
theorem cd98_15 : code9 98 15 = some (0, .getfield 120, [3, 6, 9, 0], .null, []) := rfl
theorem cd98_18 : code9 98 18 = some (0, .imul, [1], .null, []) := rfl
theorem cd98_19 : code9 98 19 = some (0, .invokevirtual 95, [3, 22, 2, 1, 1, 2, 2, 0], .null, []) := rfl
theorem cd98_22 : code9 98 22 = some (0, .istore 4, [2], .null, []) := rfl
theorem cd98_24 : code9 98 24 = some (0, .aload_n 0, [1], .null, []) := rfl
theorem cd98_25 : code9 98 25 = some (0, .aload_n 1, [1], .null, []) := rfl
theorem cd98_26 : code9 98 26 = some (0, .iload_n 3, [1], .null, []) := rfl
theorem cd98_27 : code9 98 27 = some (0, .aload_n 1, [1], .null, []) := rfl
theorem cd98_28 : code9 98 28 = some (0, .iload 4, [2], .null, []) := rfl
theorem cd98_30 : code9 98 30 = some (0, .invokevirtual 123, [3, 56, 2, 1, 1, 2, 6, 0], .null, []) := rfl
theorem cd98_33 : code9 98 33 = some (0, .aload_n 1, [1], .null, []) := rfl
theorem cd98_34 : code9 98 34 = some (0, .iload 4, [2], .null, []) := rfl
theorem cd98_36 : code9 98 36 = some (0, .invokevirtual 126, [3, 57, 2, 1, 1, 2, 6, 0], .null, []) := rfl
theorem cd98_39 : code9 98 39 = some (0, .invokevirtual 129, [3, 90, 5, 1, 1, 9, 9, 0], .null, []) := rfl
theorem cd98_42 : code9 98 42 = some (0, .pop, [1], .null, []) := rfl
theorem cd98_43 : code9 98 43 = some (0, .iconst 0, [1], .int 0, []) := rfl
theorem cd98_44 : code9 98 44 = some (0, .istore 5, [2], .null, []) := rfl
theorem cd98_46 : code9 98 46 = some (7, .iload 5, [2], .null, []) := rfl
theorem cd98_48 : code9 98 48 = some (0, .aload_n 1, [1], .null, []) := rfl
theorem cd98_49 : code9 98 49 = some (0, .getfield 46, [3, 6, 12, 0], .null, []) := rfl
theorem cd98_52 : code9 98 52 = some (0, .if_icmp .ge 56, [3, 108], .null, []) := rfl
theorem cd98_55 : code9 98 55 = some (0, .aload_n 0, [1], .null, []) := rfl
theorem cd98_56 : code9 98 56 = some (0, .getfield 21, [3, 9, 3, 2], .null, []) := rfl
theorem cd98_59 : code9 98 59 = some (0, .iload 5, [2], .null, []) := rfl
theorem cd98_61 : code9 98 61 = some (0, .iaload, [1], .null, []) := rfl
theorem cd98_62 : code9 98 62 = some (0, .iconst 1, [1], .int 1, []) := rfl
theorem cd98_63 : code9 98 63 = some (0, .if_icmp .ne 39, [3, 102], .null, []) := rfl
theorem cd98_66 : code9 98 66 = some (0, .aload_n 2, [1], .null, []) := rfl
theorem cd98_67 : code9 98 67 = some (0, .iconst 4, [1], .int 4, []) := rfl
theorem cd98_68 : code9 98 68 = some (0, .invokevirtual 95, [3, 22, 2, 1, 1, 2, 2, 0], .null, []) := rfl
theorem cd98_71 : code9 98 71 = some (0, .istore 6, [2], .null, []) := rfl
theorem cd98_73 : code9 98 73 = some (0, .iload 6, [2], .null, []) := rfl
theorem cd98_75 : code9 98 75 = some (0, .ifCond .ne 14, [3, 89], .null, []) := rfl
theorem cd98_78 : code9 98 78 = some (0, .aload_n 0, [1], .null, []) := rfl
theorem cd98_79 : code9 98 79 = some (0, .getfield 21, [3, 9, 3, 2], .null, []) := rfl
theorem cd98_82 : code9 98 82 = some (0, .iload 5, [2], .null, []) := rfl
theorem cd98_84 : code9 98 84 = some (0, .iconst 2, [1], .int 2, []) := rfl
theorem cd98_85 : code9 98 85 = some (0, .iastore, [1], .null, []) := rfl
theorem cd98_86 : code9 98 86 = some (0, .goto 16, [3, 102, 6], .null, []) := rfl
theorem cd98_89 : code9 98 89 = some (0, .iload 6, [2], .null, []) := rfl
theorem cd98_91 : code9 98 91 = some (0, .iconst 1, [1], .int 1, []) := rfl
theorem cd98_92 : code9 98 92 = some (0, .if_icmp .ne 10, [3, 102], .null, []) := rfl
theorem cd98_95 : code9 98 95 = some (0, .aload_n 0, [1], .null, []) := rfl
theorem cd98_96 : code9 98 96 = some (0, .aload_n 1, [1], .null, []) := rfl
theorem cd98_97 : code9 98 97 = some (0, .iload 5, [2], .null, []) := rfl
theorem cd98_99 : code9 98 99 = some (0, .invokevirtual 133, [3, 92, 3, 1, 0, 4, 9, 0], .null, []) := rfl
theorem cd98_102 : code9 98 102 = some (7, .iinc 5 1, [3], .int 1, []) := rfl
theorem cd98_105 : code9 98 105 = some (0, .goto (-59), [3, 46, 6], .null, []) := rfl
theorem cd98_108 : code9 98 108 = some (0, .aload_n 0, [1], .null, []) := rfl
theorem cd98_109 : code9 98 109 = some (0, .dup, [1], .null, []) := rfl
theorem cd98_110 : code9 98 110 = some (0, .getfield 39, [3, 9, 9, 0], .null, []) := rfl
theorem cd98_113 : code9 98 113 = some (0, .iconst 1, [1], .int 1, []) := rfl
theorem cd98_114 : code9 98 114 = some (0, .iadd, [1], .null, []) := rfl
theorem cd98_115 : code9 98 115 = some (0, .putfield 39, [3, 9, 9, 0], .null, []) := rfl
theorem cd98_118 : code9 98 118 = some (0, .return_, [1], .null, []) := rfl
def State_passNight_46 (N : Nat) (a0 a1 a2 : Nat) : Nat → Int32 → Int32 → Int32 → FI → Option (FI)
  | 0 => fun _ _ _ _ => none
  | n + 1 => fun l3 l4 l5 I => if (I a1 12) ≤ l5 then (Option.bind (some (up2 I a0 9 ((I a0 9) + 1))) fun I6 => (some I6)) else (if in9 l5 10 then (if (I (a0 + 4) l5.toNatClampNeg) = 1 then (Option.bind (Draws_below a2 4 I) fun x8 => (if x8.1 = 0 then (Option.bind (some (up2 x8.2 (a0 + 4) l5.toNatClampNeg (2 : Int32))) fun I9 => (State_passNight_46 N a0 a1 a2 n l3 l4 (l5 + 1) I9)) else (if x8.1 = 1 then (Option.bind (State_sellFind a0 a1 l5 x8.2) fun x10 => (State_passNight_46 N a0 a1 a2 n l3 l4 (l5 + 1) x10)) else (State_passNight_46 N a0 a1 a2 n l3 l4 (l5 + 1) x8.2)))) else (State_passNight_46 N a0 a1 a2 n l3 l4 (l5 + 1) I)) else none)
def State_passNight (N : Nat) (a0 a1 a2 : Nat) (I : FI) : Option (FI) := Option.bind (Draws_below a2 (I a1 11) I) fun x1 => (Option.bind (Draws_below a2 ((x1.2 a1 8) * (x1.2 a1 9)) x1.2) fun x2 => (Option.bind (Land_columnOf a1 x2.1 x2.2) fun x3 => (Option.bind (Land_rowOf a1 x2.1 x2.2) fun x4 => (Option.bind (State_digCell N a0 a1 x1.1 x3 x4 x2.2) fun x5 => (State_passNight_46 N a0 a1 a2 N x1.1 x2.1 0 x5.2)))))
set_option maxRecDepth 8000 in
theorem t_State_passNight_46 {d : Nat} {N : Nat} {a0 a1 a2 : Nat} {c : Nat × Nat} {S : Nat → Nat × Nat} {P : Nat → Nat → Option Nat} {r : FI} (hd : 2 ≤ (d + 1)) (h0 : O9 S P a0) (h1 : O6 S P a1) (h2 : O2 S P a2) : ∀ (n : Nat) (l3 : Int32) (l4 : Int32) (l5 : Int32) (I : FI) (J : FJ), State_passNight_46 N a0 a1 a2 n l3 l4 l5 I = some r → Go (d + 1) M_State_passNight 46 [some (.ref a0), some (.ref a1), some (.ref a2), some (.int l3), some (.int l4), some (.int l5), none] [] (c, S, I, J, P) (none, false, (c, S, r, J, P)) := by
  intro n
  induction n with
  | zero =>
    intro l3 l4 l5 I J h
    cases h
  | succ n ih =>
    intro l3 l4 l5 I J h
    unfold State_passNight_46 at h
    refine g_iload cd98_46 rfl rfl ?_
    refine g_aload_n cd98_48 rfl rfl ?_
    refine g_getI cd98_49 rfl (O6.o h1) ?_
    refine g_icmp_ge cd98_52 rfl (fun hb => ?_) (fun hb => ?_)
    · have h := ifpE hb h
      refine g_aload_n cd98_108 rfl rfl ?_
      refine g_dupR cd98_109 rfl ?_
      refine g_getI cd98_110 rfl (O9.o h0) ?_
      refine g_iconst cd98_113 rfl ?_
      refine g_iadd cd98_114 rfl ?_
      obtain ⟨I6, e1, h⟩ := bnd h
      refine G_putI cd98_115 rfl (O9.o h0) (Option.some.inj e1) ?_
      exact g_vret cd98_118 (by obtain rfl := Option.some.inj h; rfl)
    · have h := ifnE hb h
      refine g_aload_n cd98_55 rfl rfl ?_
      refine g_getP cd98_56 rfl (O9.o h0) (show P a0 3 = some (a0 + 4) from O9.p3 h0) ?_
      refine g_iload cd98_59 rfl rfl ?_
      obtain ⟨hg7, h⟩ := grd h
      refine G_iald cd98_61 rfl (show S (a0 + 4) = (1, 10) from O9.s3 h0) hg7 ?_
      refine g_iconst cd98_62 rfl ?_
      refine g_icmp_ne cd98_63 rfl (fun hb => ?_) (fun hb => ?_)
      · have h := ifpE hb h
        refine g_aload_n cd98_66 rfl rfl ?_
        refine g_iconst cd98_67 rfl ?_
        obtain ⟨x8, hx, h⟩ := bnd h
        refine g_callVI (L := [some (.ref a2), some (.int 4)]) cd98_68 rfl rfl rfl rfl rfl (O2.o h2) (t_Draws_below (by omega) h2 hx) ?_
        refine g_istore (ls2 := [some (.ref a0), some (.ref a1), some (.ref a2), some (.int l3), some (.int l4), some (.int l5), some (.int x8.1)]) cd98_71 rfl rfl ?_
        refine g_iload cd98_73 rfl rfl ?_
        refine g_if_ne cd98_75 rfl (fun hb => ?_) (fun hb => ?_)
        · have h := ifpE hb h
          refine g_aload_n cd98_78 rfl rfl ?_
          refine g_getP cd98_79 rfl (O9.o h0) (show P a0 3 = some (a0 + 4) from O9.p3 h0) ?_
          refine g_iload cd98_82 rfl rfl ?_
          refine g_iconst cd98_84 rfl ?_
          obtain ⟨I9, e1, h⟩ := bnd h
          refine G_iast cd98_85 rfl (show S (a0 + 4) = (1, 10) from O9.s3 h0) hg7 (Option.some.inj e1) ?_
          refine g_goto (ls2 := [some (.ref a0), some (.ref a1), some (.ref a2), some (.int l3), some (.int l4), some (.int l5), none]) cd98_86 rfl rfl ?_
          refine g_iinc (ls2 := [some (.ref a0), some (.ref a1), some (.ref a2), some (.int l3), some (.int l4), some (.int (l5 + 1)), none]) cd98_102 rfl rfl rfl ?_
          refine g_goto (ls2 := [some (.ref a0), some (.ref a1), some (.ref a2), some (.int l3), some (.int l4), some (.int (l5 + 1)), none]) cd98_105 rfl rfl ?_
          exact ih l3 l4 (l5 + 1) I9 J h
        · have h := ifnE hb h
          refine g_iload cd98_89 rfl rfl ?_
          refine g_iconst cd98_91 rfl ?_
          refine g_icmp_ne cd98_92 rfl (fun hb => ?_) (fun hb => ?_)
          · have h := ifpE hb h
            refine g_aload_n cd98_95 rfl rfl ?_
            refine g_aload_n cd98_96 rfl rfl ?_
            refine g_iload cd98_97 rfl rfl ?_
            obtain ⟨x10, hx, h⟩ := bnd h
            refine g_callVV (L := [some (.ref a0), some (.ref a1), some (.int l5), none]) cd98_99 rfl rfl rfl rfl rfl (O9.o h0) (t_State_sellFind (by omega) h0 h1 hx) ?_
            refine go_cut (k := 0) (ls' := [some (.ref a0), some (.ref a1), some (.ref a2), some (.int l3), some (.int l4), some (.int l5), none]) cd98_102 rfl ?_
            refine g_iinc (ls2 := [some (.ref a0), some (.ref a1), some (.ref a2), some (.int l3), some (.int l4), some (.int (l5 + 1)), none]) cd98_102 rfl rfl rfl ?_
            refine g_goto (ls2 := [some (.ref a0), some (.ref a1), some (.ref a2), some (.int l3), some (.int l4), some (.int (l5 + 1)), none]) cd98_105 rfl rfl ?_
            exact ih l3 l4 (l5 + 1) x10 J h
          · have h := ifnE hb h
            refine go_cut (k := 0) (ls' := [some (.ref a0), some (.ref a1), some (.ref a2), some (.int l3), some (.int l4), some (.int l5), none]) cd98_102 rfl ?_
            refine g_iinc (ls2 := [some (.ref a0), some (.ref a1), some (.ref a2), some (.int l3), some (.int l4), some (.int (l5 + 1)), none]) cd98_102 rfl rfl rfl ?_
            refine g_goto (ls2 := [some (.ref a0), some (.ref a1), some (.ref a2), some (.int l3), some (.int l4), some (.int (l5 + 1)), none]) cd98_105 rfl rfl ?_
            exact ih l3 l4 (l5 + 1) x8.2 J h
      · have h := ifnE hb h
        refine g_iinc (ls2 := [some (.ref a0), some (.ref a1), some (.ref a2), some (.int l3), some (.int l4), some (.int (l5 + 1)), none]) cd98_102 rfl rfl rfl ?_
        refine g_goto (ls2 := [some (.ref a0), some (.ref a1), some (.ref a2), some (.int l3), some (.int l4), some (.int (l5 + 1)), none]) cd98_105 rfl rfl ?_
        exact ih l3 l4 (l5 + 1) I J h
set_option maxRecDepth 8000 in
theorem t_State_passNight {d : Nat} {N : Nat} {a0 a1 a2 : Nat} {c : Nat × Nat} {S : Nat → Nat × Nat} {P : Nat → Nat → Option Nat} {I : FI} {J : FJ} {r : FI} (hd : 2 ≤ d) (h0 : O9 S P a0) (h1 : O6 S P a1) (h2 : O2 S P a2) (h : State_passNight N a0 a1 a2 I = some r) : Go d M_State_passNight 0 [some (.ref a0), some (.ref a1), some (.ref a2), none, none, none, none] [] (c, S, I, J, P) (none, false, (c, S, r, J, P)) := by
  obtain ⟨d, rfl⟩ : ∃ e, d = e + 1 := ⟨d - 1, by omega⟩
  unfold State_passNight at h
  refine g_aload_n cd98_0 rfl rfl ?_
  refine g_aload_n cd98_1 rfl rfl ?_
  refine g_getI cd98_2 rfl (O6.o h1) ?_
  obtain ⟨x1, hx, h⟩ := bnd h
  refine g_callVI (L := [some (.ref a2), some (.int (I a1 11))]) cd98_5 rfl rfl rfl rfl rfl (O2.o h2) (t_Draws_below (by omega) h2 hx) ?_
  refine g_istore_n (ls2 := [some (.ref a0), some (.ref a1), some (.ref a2), some (.int x1.1), none, none, none]) cd98_8 rfl rfl ?_
  refine g_aload_n cd98_9 rfl rfl ?_
  refine g_aload_n cd98_10 rfl rfl ?_
  refine g_getI cd98_11 rfl (O6.o h1) ?_
  refine g_aload_n cd98_14 rfl rfl ?_
  refine g_getI cd98_15 rfl (O6.o h1) ?_
  refine g_imul cd98_18 rfl ?_
  obtain ⟨x2, hx, h⟩ := bnd h
  refine g_callVI (L := [some (.ref a2), some (.int ((x1.2 a1 8) * (x1.2 a1 9)))]) cd98_19 rfl rfl rfl rfl rfl (O2.o h2) (t_Draws_below (by omega) h2 hx) ?_
  refine g_istore (ls2 := [some (.ref a0), some (.ref a1), some (.ref a2), some (.int x1.1), some (.int x2.1), none, none]) cd98_22 rfl rfl ?_
  refine g_aload_n cd98_24 rfl rfl ?_
  refine g_aload_n cd98_25 rfl rfl ?_
  refine g_iload_n cd98_26 rfl rfl ?_
  refine g_aload_n cd98_27 rfl rfl ?_
  refine g_iload cd98_28 rfl rfl ?_
  obtain ⟨x3, hx, h⟩ := bnd h
  refine g_callVI (L := [some (.ref a1), some (.int x2.1)]) cd98_30 rfl rfl rfl rfl rfl (O6.o h1) (t_Land_columnOf (by omega) h1 hx) ?_
  refine g_aload_n cd98_33 rfl rfl ?_
  refine g_iload cd98_34 rfl rfl ?_
  obtain ⟨x4, hx, h⟩ := bnd h
  refine g_callVI (L := [some (.ref a1), some (.int x2.1)]) cd98_36 rfl rfl rfl rfl rfl (O6.o h1) (t_Land_rowOf (by omega) h1 hx) ?_
  obtain ⟨x5, hx, h⟩ := bnd h
  refine g_callVI (L := [some (.ref a0), some (.ref a1), some (.int x1.1), some (.int x3), some (.int x4), none, none, none, none]) cd98_39 rfl rfl rfl rfl rfl (O9.o h0) (t_State_digCell (by omega) h0 h1 hx) ?_
  refine g_popI cd98_42 rfl ?_
  refine g_iconst cd98_43 rfl ?_
  refine g_istore (ls2 := [some (.ref a0), some (.ref a1), some (.ref a2), some (.int x1.1), some (.int x2.1), some (.int 0), none]) cd98_44 rfl rfl ?_
  exact t_State_passNight_46 hd h0 h1 h2 _ x1.1 x2.1 0 x5.2 J h
/-! HiddenOrLost$State.passNights(LHiddenOrLost$Land;LHiddenOrLost$Draws;I)I -/
theorem cd97_0 : code9 97 0 = some (0, .iload_n 3, [1], .null, []) := rfl
theorem cd97_1 : code9 97 1 = some (0, .sipush 400, [3], .int 400, []) := rfl
theorem cd97_4 : code9 97 4 = some (0, .aload_n 0, [1], .null, []) := rfl
theorem cd97_5 : code9 97 5 = some (0, .getfield 39, [3, 9, 9, 0], .null, []) := rfl
theorem cd97_8 : code9 97 8 = some (0, .isub, [1], .null, []) := rfl
theorem cd97_9 : code9 97 9 = some (0, .invokestatic 107, [3, 7], .null, []) := rfl
theorem cd97_12 : code9 97 12 = some (0, .istore 4, [2], .null, []) := rfl
theorem cd97_14 : code9 97 14 = some (0, .iconst 0, [1], .int 0, []) := rfl
theorem cd97_15 : code9 97 15 = some (0, .istore 5, [2], .null, []) := rfl
theorem cd97_17 : code9 97 17 = some (7, .iload 5, [2], .null, []) := rfl
theorem cd97_19 : code9 97 19 = some (0, .iload 4, [2], .null, []) := rfl
theorem cd97_21 : code9 97 21 = some (0, .if_icmp .ge 15, [3, 36], .null, []) := rfl
theorem cd97_24 : code9 97 24 = some (0, .aload_n 0, [1], .null, []) := rfl
theorem cd97_25 : code9 97 25 = some (0, .aload_n 1, [1], .null, []) := rfl
theorem cd97_26 : code9 97 26 = some (0, .aload_n 2, [1], .null, []) := rfl
theorem cd97_27 : code9 97 27 = some (0, .invokevirtual 110, [3, 98, 3, 1, 0, 7, 9, 0], .null, []) := rfl
theorem cd97_30 : code9 97 30 = some (0, .iinc 5 1, [3], .int 1, []) := rfl
theorem cd97_33 : code9 97 33 = some (0, .goto (-16), [3, 17, 6], .null, []) := rfl
theorem cd97_36 : code9 97 36 = some (0, .iload 4, [2], .null, []) := rfl
theorem cd97_38 : code9 97 38 = some (0, .ireturn, [1, 1], .null, []) := rfl
def State_passNights_17 (N : Nat) (a0 a1 a2 : Nat) : Nat → Int32 → Int32 → Int32 → FI → Option (Int32 × FI)
  | 0 => fun _ _ _ _ => none
  | n + 1 => fun l3 l4 l5 I => if l4 ≤ l5 then (some (l4, I)) else (Option.bind (State_passNight N a0 a1 a2 I) fun x1 => (State_passNights_17 N a0 a1 a2 n l3 l4 (l5 + 1) x1))
def State_passNights (N : Nat) (a0 a1 a2 : Nat) (l3 : Int32) (I : FI) : Option (Int32 × FI) := State_passNights_17 N a0 a1 a2 N l3 (if (400 - (I a0 9)) < l3 then (400 - (I a0 9)) else l3) 0 I
set_option maxRecDepth 8000 in
theorem t_State_passNights_17 {d : Nat} {N : Nat} {a0 a1 a2 : Nat} {c : Nat × Nat} {S : Nat → Nat × Nat} {P : Nat → Nat → Option Nat} {r : Int32 × FI} (hd : 3 ≤ (d + 1)) (h0 : O9 S P a0) (h1 : O6 S P a1) (h2 : O2 S P a2) : ∀ (n : Nat) (l3 : Int32) (l4 : Int32) (l5 : Int32) (I : FI) (J : FJ), State_passNights_17 N a0 a1 a2 n l3 l4 l5 I = some r → Go (d + 1) M_State_passNights 17 [some (.ref a0), some (.ref a1), some (.ref a2), some (.int l3), some (.int l4), some (.int l5)] [] (c, S, I, J, P) (some (.int r.1), false, (c, S, r.2, J, P)) := by
  intro n
  induction n with
  | zero =>
    intro l3 l4 l5 I J h
    cases h
  | succ n ih =>
    intro l3 l4 l5 I J h
    unfold State_passNights_17 at h
    refine g_iload cd97_17 rfl rfl ?_
    refine g_iload cd97_19 rfl rfl ?_
    refine g_icmp_ge cd97_21 rfl (fun hb => ?_) (fun hb => ?_)
    · have h := ifpE hb h
      refine g_iload cd97_36 rfl rfl ?_
      exact g_iret cd97_38 (Or.inl rfl) (by obtain rfl := Option.some.inj h; rfl)
    · have h := ifnE hb h
      refine g_aload_n cd97_24 rfl rfl ?_
      refine g_aload_n cd97_25 rfl rfl ?_
      refine g_aload_n cd97_26 rfl rfl ?_
      obtain ⟨x1, hx, h⟩ := bnd h
      refine g_callVV (L := [some (.ref a0), some (.ref a1), some (.ref a2), none, none, none, none]) cd97_27 rfl rfl rfl rfl rfl (O9.o h0) (t_State_passNight (by omega) h0 h1 h2 hx) ?_
      refine g_iinc (ls2 := [some (.ref a0), some (.ref a1), some (.ref a2), some (.int l3), some (.int l4), some (.int (l5 + 1))]) cd97_30 rfl rfl rfl ?_
      refine g_goto (ls2 := [some (.ref a0), some (.ref a1), some (.ref a2), some (.int l3), some (.int l4), some (.int (l5 + 1))]) cd97_33 rfl rfl ?_
      exact ih l3 l4 (l5 + 1) x1 J h
set_option maxRecDepth 8000 in
theorem t_State_passNights {d : Nat} {N : Nat} {a0 a1 a2 : Nat} {c : Nat × Nat} {S : Nat → Nat × Nat} {P : Nat → Nat → Option Nat} {I : FI} {J : FJ} {l3 : Int32} {r : Int32 × FI} (hd : 3 ≤ d) (h0 : O9 S P a0) (h1 : O6 S P a1) (h2 : O2 S P a2) (h : State_passNights N a0 a1 a2 l3 I = some r) : Go d M_State_passNights 0 [some (.ref a0), some (.ref a1), some (.ref a2), some (.int l3), none, none] [] (c, S, I, J, P) (some (.int r.1), false, (c, S, r.2, J, P)) := by
  obtain ⟨d, rfl⟩ : ∃ e, d = e + 1 := ⟨d - 1, by omega⟩
  unfold State_passNights at h
  refine g_iload_n cd97_0 rfl rfl ?_
  refine g_sipush cd97_1 rfl ?_
  refine g_aload_n cd97_4 rfl rfl ?_
  refine g_getI cd97_5 rfl (O9.o h0) ?_
  refine g_isub cd97_8 rfl ?_
  refine g_min cd97_9 rfl (Nat.succ_ne_zero _) rfl ?_
  refine g_istore (ls2 := [some (.ref a0), some (.ref a1), some (.ref a2), some (.int l3), some (.int (if (400 - (I a0 9)) < l3 then (400 - (I a0 9)) else l3)), none]) cd97_12 rfl rfl ?_
  refine g_iconst cd97_14 rfl ?_
  refine g_istore (ls2 := [some (.ref a0), some (.ref a1), some (.ref a2), some (.int l3), some (.int (if (400 - (I a0 9)) < l3 then (400 - (I a0 9)) else l3)), some (.int 0)]) cd97_15 rfl rfl ?_
  exact t_State_passNights_17 hd h0 h1 h2 _ l3 (if (400 - (I a0 9)) < l3 then (400 - (I a0 9)) else l3) 0 I J h
/-! HiddenOrLost$Book.liveLine(LHiddenOrLost$Land;LHiddenOrLost$State;LHiddenOrLost$Draws;I)V -/
theorem cd20_0 : code9 20 0 = some (0, .aload_n 0, [1], .null, []) := rfl
theorem cd20_1 : code9 20 1 = some (0, .getfield 15, [3, 1, 1, 2], .null, []) := rfl
theorem cd20_4 : code9 20 4 = some (0, .iload 4, [2], .null, []) := rfl
theorem cd20_6 : code9 20 6 = some (0, .iaload, [1], .null, []) := rfl
theorem cd20_7 : code9 20 7 = some (0, .istore 5, [2], .null, []) := rfl
theorem cd20_9 : code9 20 9 = some (0, .aload_n 3, [1], .null, []) := rfl
theorem cd20_10 : code9 20 10 = some (0, .iload 5, [2], .null, []) := rfl
theorem cd20_12 : code9 20 12 = some (0, .putfield 136, [3, 2, 0, 0], .null, []) := rfl
theorem cd20_15 : code9 20 15 = some (0, .aload_n 0, [1], .null, []) := rfl
theorem cd20_16 : code9 20 16 = some (0, .getfield 9, [3, 1, 0, 2], .null, []) := rfl
theorem cd20_19 : code9 20 19 = some (0, .iload 4, [2], .null, []) := rfl
theorem cd20_21 : code9 20 21 = some (0, .iaload, [1], .null, []) := rfl
theorem cd20_22 : code9 20 22 = some (0, .tableswitch 134 18 23 #[38, 63, 74, 84, 107, 124], [38, 156], .null, [(18, 60), (19, 85), (20, 96), (21, 106), (22, 129), (23, 146)]) := rfl
theorem cd20_60 : code9 20 60 = some (0, .aload_n 2, [1], .null, []) := rfl
theorem cd20_61 : code9 20 61 = some (0, .aload_n 1, [1], .null, []) := rfl
theorem cd20_62 : code9 20 62 = some (0, .iload 5, [2], .null, []) := rfl
theorem cd20_64 : code9 20 64 = some (0, .aload_n 0, [1], .null, []) := rfl
theorem cd20_65 : code9 20 65 = some (0, .getfield 18, [3, 1, 2, 2], .null, []) := rfl
theorem cd20_68 : code9 20 68 = some (0, .iload 4, [2], .null, []) := rfl
theorem cd20_70 : code9 20 70 = some (0, .iaload, [1], .null, []) := rfl
theorem cd20_71 : code9 20 71 = some (0, .aload_n 0, [1], .null, []) := rfl
theorem cd20_72 : code9 20 72 = some (0, .getfield 21, [3, 1, 3, 2], .null, []) := rfl
theorem cd20_75 : code9 20 75 = some (0, .iload 4, [2], .null, []) := rfl
theorem cd20_77 : code9 20 77 = some (0, .iaload, [1], .null, []) := rfl
theorem cd20_78 : code9 20 78 = some (0, .invokevirtual 141, [3, 90, 5, 1, 1, 9, 9, 0], .null, []) := rfl
theorem cd20_81 : code9 20 81 = some (0, .pop, [1], .null, []) := rfl
theorem cd20_82 : code9 20 82 = some (0, .goto 83, [3, 165, 6], .null, []) := rfl
theorem cd20_85 : code9 20 85 = some (0, .aload_n 2, [1], .null, []) := rfl
theorem cd20_86 : code9 20 86 = some (0, .getfield 145, [3, 9, 3, 2], .null, []) := rfl
theorem cd20_89 : code9 20 89 = some (0, .iload 5, [2], .null, []) := rfl
theorem cd20_91 : code9 20 91 = some (0, .iconst 2, [1], .int 2, []) := rfl
theorem cd20_92 : code9 20 92 = some (0, .iastore, [1], .null, []) := rfl
theorem cd20_93 : code9 20 93 = some (0, .goto 72, [3, 165, 6], .null, []) := rfl
theorem cd20_96 : code9 20 96 = some (0, .aload_n 2, [1], .null, []) := rfl
theorem cd20_97 : code9 20 97 = some (0, .aload_n 1, [1], .null, []) := rfl
theorem cd20_98 : code9 20 98 = some (0, .iload 5, [2], .null, []) := rfl
theorem cd20_100 : code9 20 100 = some (0, .invokevirtual 148, [3, 92, 3, 1, 0, 4, 9, 0], .null, []) := rfl
theorem cd20_103 : code9 20 103 = some (0, .goto 62, [3, 165, 6], .null, []) := rfl
theorem cd20_106 : code9 20 106 = some (0, .aload_n 2, [1], .null, []) := rfl
theorem cd20_107 : code9 20 107 = some (0, .iload 5, [2], .null, []) := rfl
theorem cd20_109 : code9 20 109 = some (0, .aload_n 0, [1], .null, []) := rfl
theorem cd20_110 : code9 20 110 = some (0, .getfield 18, [3, 1, 2, 2], .null, []) := rfl
theorem cd20_113 : code9 20 113 = some (0, .iload 4, [2], .null, []) := rfl
theorem cd20_115 : code9 20 115 = some (0, .iaload, [1], .null, []) := rfl
theorem cd20_116 : code9 20 116 = some (0, .aload_n 0, [1], .null, []) := rfl
theorem cd20_117 : code9 20 117 = some (0, .getfield 21, [3, 1, 3, 2], .null, []) := rfl
theorem cd20_120 : code9 20 120 = some (0, .iload 4, [2], .null, []) := rfl
theorem cd20_122 : code9 20 122 = some (0, .iaload, [1], .null, []) := rfl
theorem cd20_123 : code9 20 123 = some (0, .invokevirtual 152, [3, 93, 4, 1, 0, 4, 9, 0], .null, []) := rfl
theorem cd20_126 : code9 20 126 = some (0, .goto 39, [3, 165, 6], .null, []) := rfl
theorem cd20_129 : code9 20 129 = some (0, .aload_n 2, [1], .null, []) := rfl
theorem cd20_130 : code9 20 130 = some (0, .getfield 156, [3, 9, 4, 2], .null, []) := rfl
theorem cd20_133 : code9 20 133 = some (0, .iload 5, [2], .null, []) := rfl
theorem cd20_135 : code9 20 135 = some (0, .aload_n 0, [1], .null, []) := rfl
theorem cd20_136 : code9 20 136 = some (0, .getfield 18, [3, 1, 2, 2], .null, []) := rfl
theorem cd20_139 : code9 20 139 = some (0, .iload 4, [2], .null, []) := rfl
theorem cd20_141 : code9 20 141 = some (0, .iaload, [1], .null, []) := rfl
theorem cd20_142 : code9 20 142 = some (0, .iastore, [1], .null, []) := rfl
theorem cd20_143 : code9 20 143 = some (0, .goto 22, [3, 165, 6], .null, []) := rfl
theorem cd20_146 : code9 20 146 = some (0, .aload_n 2, [1], .null, []) := rfl
theorem cd20_147 : code9 20 147 = some (0, .aload_n 1, [1], .null, []) := rfl
theorem cd20_148 : code9 20 148 = some (0, .aload_n 3, [1], .null, []) := rfl
theorem cd20_149 : code9 20 149 = some (0, .invokevirtual 159, [3, 95, 3, 1, 1, 5, 9, 0], .null, []) := rfl
theorem cd20_152 : code9 20 152 = some (0, .pop, [1], .null, []) := rfl
theorem cd20_153 : code9 20 153 = some (0, .goto 12, [3, 165, 6], .null, []) := rfl
theorem cd20_156 : code9 20 156 = some (0, .aload_n 2, [1], .null, []) := rfl
theorem cd20_157 : code9 20 157 = some (0, .aload_n 1, [1], .null, []) := rfl
theorem cd20_158 : code9 20 158 = some (0, .aload_n 3, [1], .null, []) := rfl
theorem cd20_159 : code9 20 159 = some (0, .iload 5, [2], .null, []) := rfl
theorem cd20_161 : code9 20 161 = some (0, .invokevirtual 163, [3, 97, 4, 1, 1, 6, 9, 0], .null, []) := rfl
theorem cd20_164 : code9 20 164 = some (0, .pop, [1], .null, []) := rfl
theorem cd20_165 : code9 20 165 = some (7, .return_, [1], .null, []) := rfl
def Book_liveLine (N : Nat) (a0 a1 a2 a3 : Nat) (l4 : Int32) (I : FI) : Option (FI) := if in9 l4 40 then (Option.bind (some (up2 I a3 0 (I (a0 + 2) l4.toNatClampNeg))) fun I2 => (if (I2 (a0 + 1) l4.toNatClampNeg) = 18 then (Option.bind (State_digCell N a2 a1 (I (a0 + 2) l4.toNatClampNeg) (I2 (a0 + 3) l4.toNatClampNeg) (I2 (a0 + 4) l4.toNatClampNeg) I2) fun x3 => (some x3.2)) else (if (I2 (a0 + 1) l4.toNatClampNeg) = 19 then (if in9 (I (a0 + 2) l4.toNatClampNeg) 10 then (Option.bind (some (up2 I2 (a2 + 4) ((I (a0 + 2) l4.toNatClampNeg).toNatClampNeg) (2 : Int32))) fun I5 => (some I5)) else none) else (if (I2 (a0 + 1) l4.toNatClampNeg) = 20 then (Option.bind (State_sellFind a2 a1 (I (a0 + 2) l4.toNatClampNeg) I2) fun x6 => (some x6)) else (if (I2 (a0 + 1) l4.toNatClampNeg) = 21 then (Option.bind (State_layFind a2 (I (a0 + 2) l4.toNatClampNeg) (I2 (a0 + 3) l4.toNatClampNeg) (I2 (a0 + 4) l4.toNatClampNeg) I2) fun x7 => (some x7)) else (if (I2 (a0 + 1) l4.toNatClampNeg) = 22 then (if in9 (I (a0 + 2) l4.toNatClampNeg) 10 then (Option.bind (some (up2 I2 (a2 + 5) ((I (a0 + 2) l4.toNatClampNeg).toNatClampNeg) (I2 (a0 + 3) l4.toNatClampNeg))) fun I9 => (some I9)) else none) else (if (I2 (a0 + 1) l4.toNatClampNeg) = 23 then (Option.bind (State_turnOver N a2 a1 a3 I2) fun x10 => (some x10.2)) else (Option.bind (State_passNights N a2 a1 a3 (I (a0 + 2) l4.toNatClampNeg) I2) fun x11 => (some x11.2))))))))) else none
set_option maxRecDepth 8000 in
theorem t_Book_liveLine {d : Nat} {N : Nat} {a0 a1 a2 a3 : Nat} {c : Nat × Nat} {S : Nat → Nat × Nat} {P : Nat → Nat → Option Nat} {I : FI} {J : FJ} {l4 : Int32} {r : FI} (hd : 4 ≤ d) (h0 : O1 S P a0) (h1 : O6 S P a1) (h2 : O9 S P a2) (h3 : O2 S P a3) (h : Book_liveLine N a0 a1 a2 a3 l4 I = some r) : Go d M_Book_liveLine 0 [some (.ref a0), some (.ref a1), some (.ref a2), some (.ref a3), some (.int l4), none] [] (c, S, I, J, P) (none, false, (c, S, r, J, P)) := by
  obtain ⟨d, rfl⟩ : ∃ e, d = e + 1 := ⟨d - 1, by omega⟩
  unfold Book_liveLine at h
  refine g_aload_n cd20_0 rfl rfl ?_
  refine g_getP cd20_1 rfl (O1.o h0) (show P a0 1 = some (a0 + 2) from O1.p1 h0) ?_
  refine g_iload cd20_4 rfl rfl ?_
  obtain ⟨hg1, h⟩ := grd h
  refine G_iald cd20_6 rfl (show S (a0 + 2) = (1, 40) from O1.s1 h0) hg1 ?_
  refine g_istore (ls2 := [some (.ref a0), some (.ref a1), some (.ref a2), some (.ref a3), some (.int l4), some (.int (I (a0 + 2) l4.toNatClampNeg))]) cd20_7 rfl rfl ?_
  refine g_aload_n cd20_9 rfl rfl ?_
  refine g_iload cd20_10 rfl rfl ?_
  obtain ⟨I2, e1, h⟩ := bnd h
  refine G_putI cd20_12 rfl (O2.o h3) (Option.some.inj e1) ?_
  refine g_aload_n cd20_15 rfl rfl ?_
  refine g_getP cd20_16 rfl (O1.o h0) (show P a0 0 = some (a0 + 1) from O1.p0 h0) ?_
  refine g_iload cd20_19 rfl rfl ?_
  refine G_iald cd20_21 rfl (show S (a0 + 1) = (1, 40) from O1.s0 h0) hg1 ?_
  refine g_tableswitch cd20_22 rfl ?_
  refine ifi (fun hb => ?_) (fun hb => ?_)
  · have h := ifpE hb h
    show Go _ _ 60 [some (.ref a0), some (.ref a1), some (.ref a2), some (.ref a3), some (.int l4), some (.int (I (a0 + 2) l4.toNatClampNeg))] [] _ _
    refine g_aload_n cd20_60 rfl rfl ?_
    refine g_aload_n cd20_61 rfl rfl ?_
    refine g_iload cd20_62 rfl rfl ?_
    refine g_aload_n cd20_64 rfl rfl ?_
    refine g_getP cd20_65 rfl (O1.o h0) (show P a0 2 = some (a0 + 3) from O1.p2 h0) ?_
    refine g_iload cd20_68 rfl rfl ?_
    refine G_iald cd20_70 rfl (show S (a0 + 3) = (1, 40) from O1.s2 h0) hg1 ?_
    refine g_aload_n cd20_71 rfl rfl ?_
    refine g_getP cd20_72 rfl (O1.o h0) (show P a0 3 = some (a0 + 4) from O1.p3 h0) ?_
    refine g_iload cd20_75 rfl rfl ?_
    refine G_iald cd20_77 rfl (show S (a0 + 4) = (1, 40) from O1.s3 h0) hg1 ?_
    obtain ⟨x3, hx, h⟩ := bnd h
    refine g_callVI (L := [some (.ref a2), some (.ref a1), some (.int (I (a0 + 2) l4.toNatClampNeg)), some (.int (I2 (a0 + 3) l4.toNatClampNeg)), some (.int (I2 (a0 + 4) l4.toNatClampNeg)), none, none, none, none]) cd20_78 rfl rfl rfl rfl rfl (O9.o h2) (t_State_digCell (by omega) h2 h1 hx) ?_
    refine g_popI cd20_81 rfl ?_
    refine g_goto (ls2 := [some (.ref a0), some (.ref a1), some (.ref a2), some (.ref a3), some (.int l4), some (.int (I (a0 + 2) l4.toNatClampNeg))]) cd20_82 rfl rfl ?_
    exact g_vret cd20_165 (by obtain rfl := Option.some.inj h; rfl)
  have h := ifnE hb h
  refine ifi (fun hb => ?_) (fun hb => ?_)
  · have h := ifpE hb h
    show Go _ _ 85 [some (.ref a0), some (.ref a1), some (.ref a2), some (.ref a3), some (.int l4), some (.int (I (a0 + 2) l4.toNatClampNeg))] [] _ _
    refine g_aload_n cd20_85 rfl rfl ?_
    refine g_getP cd20_86 rfl (O9.o h2) (show P a2 3 = some (a2 + 4) from O9.p3 h2) ?_
    refine g_iload cd20_89 rfl rfl ?_
    refine g_iconst cd20_91 rfl ?_
    obtain ⟨hg4, h⟩ := grd h
    obtain ⟨I5, e1, h⟩ := bnd h
    refine G_iast cd20_92 rfl (show S (a2 + 4) = (1, 10) from O9.s3 h2) hg4 (Option.some.inj e1) ?_
    refine g_goto (ls2 := [some (.ref a0), some (.ref a1), some (.ref a2), some (.ref a3), some (.int l4), some (.int (I (a0 + 2) l4.toNatClampNeg))]) cd20_93 rfl rfl ?_
    exact g_vret cd20_165 (by obtain rfl := Option.some.inj h; rfl)
  have h := ifnE hb h
  refine ifi (fun hb => ?_) (fun hb => ?_)
  · have h := ifpE hb h
    show Go _ _ 96 [some (.ref a0), some (.ref a1), some (.ref a2), some (.ref a3), some (.int l4), some (.int (I (a0 + 2) l4.toNatClampNeg))] [] _ _
    refine g_aload_n cd20_96 rfl rfl ?_
    refine g_aload_n cd20_97 rfl rfl ?_
    refine g_iload cd20_98 rfl rfl ?_
    obtain ⟨x6, hx, h⟩ := bnd h
    refine g_callVV (L := [some (.ref a2), some (.ref a1), some (.int (I (a0 + 2) l4.toNatClampNeg)), none]) cd20_100 rfl rfl rfl rfl rfl (O9.o h2) (t_State_sellFind (by omega) h2 h1 hx) ?_
    refine g_goto (ls2 := [some (.ref a0), some (.ref a1), some (.ref a2), some (.ref a3), some (.int l4), some (.int (I (a0 + 2) l4.toNatClampNeg))]) cd20_103 rfl rfl ?_
    exact g_vret cd20_165 (by obtain rfl := Option.some.inj h; rfl)
  have h := ifnE hb h
  refine ifi (fun hb => ?_) (fun hb => ?_)
  · have h := ifpE hb h
    show Go _ _ 106 [some (.ref a0), some (.ref a1), some (.ref a2), some (.ref a3), some (.int l4), some (.int (I (a0 + 2) l4.toNatClampNeg))] [] _ _
    refine g_aload_n cd20_106 rfl rfl ?_
    refine g_iload cd20_107 rfl rfl ?_
    refine g_aload_n cd20_109 rfl rfl ?_
    refine g_getP cd20_110 rfl (O1.o h0) (show P a0 2 = some (a0 + 3) from O1.p2 h0) ?_
    refine g_iload cd20_113 rfl rfl ?_
    refine G_iald cd20_115 rfl (show S (a0 + 3) = (1, 40) from O1.s2 h0) hg1 ?_
    refine g_aload_n cd20_116 rfl rfl ?_
    refine g_getP cd20_117 rfl (O1.o h0) (show P a0 3 = some (a0 + 4) from O1.p3 h0) ?_
    refine g_iload cd20_120 rfl rfl ?_
    refine G_iald cd20_122 rfl (show S (a0 + 4) = (1, 40) from O1.s3 h0) hg1 ?_
    obtain ⟨x7, hx, h⟩ := bnd h
    refine g_callVV (L := [some (.ref a2), some (.int (I (a0 + 2) l4.toNatClampNeg)), some (.int (I2 (a0 + 3) l4.toNatClampNeg)), some (.int (I2 (a0 + 4) l4.toNatClampNeg))]) cd20_123 rfl rfl rfl rfl rfl (O9.o h2) (t_State_layFind (by omega) h2 hx) ?_
    refine g_goto (ls2 := [some (.ref a0), some (.ref a1), some (.ref a2), some (.ref a3), some (.int l4), some (.int (I (a0 + 2) l4.toNatClampNeg))]) cd20_126 rfl rfl ?_
    exact g_vret cd20_165 (by obtain rfl := Option.some.inj h; rfl)
  have h := ifnE hb h
  refine ifi (fun hb => ?_) (fun hb => ?_)
  · have h := ifpE hb h
    show Go _ _ 129 [some (.ref a0), some (.ref a1), some (.ref a2), some (.ref a3), some (.int l4), some (.int (I (a0 + 2) l4.toNatClampNeg))] [] _ _
    refine g_aload_n cd20_129 rfl rfl ?_
    refine g_getP cd20_130 rfl (O9.o h2) (show P a2 4 = some (a2 + 5) from O9.p4 h2) ?_
    refine g_iload cd20_133 rfl rfl ?_
    refine g_aload_n cd20_135 rfl rfl ?_
    refine g_getP cd20_136 rfl (O1.o h0) (show P a0 2 = some (a0 + 3) from O1.p2 h0) ?_
    refine g_iload cd20_139 rfl rfl ?_
    refine G_iald cd20_141 rfl (show S (a0 + 3) = (1, 40) from O1.s2 h0) hg1 ?_
    obtain ⟨hg8, h⟩ := grd h
    obtain ⟨I9, e1, h⟩ := bnd h
    refine G_iast cd20_142 rfl (show S (a2 + 5) = (1, 10) from O9.s4 h2) hg8 (Option.some.inj e1) ?_
    refine g_goto (ls2 := [some (.ref a0), some (.ref a1), some (.ref a2), some (.ref a3), some (.int l4), some (.int (I (a0 + 2) l4.toNatClampNeg))]) cd20_143 rfl rfl ?_
    exact g_vret cd20_165 (by obtain rfl := Option.some.inj h; rfl)
  have h := ifnE hb h
  refine ifi (fun hb => ?_) (fun hb => ?_)
  · have h := ifpE hb h
    show Go _ _ 146 [some (.ref a0), some (.ref a1), some (.ref a2), some (.ref a3), some (.int l4), some (.int (I (a0 + 2) l4.toNatClampNeg))] [] _ _
    refine g_aload_n cd20_146 rfl rfl ?_
    refine g_aload_n cd20_147 rfl rfl ?_
    refine g_aload_n cd20_148 rfl rfl ?_
    obtain ⟨x10, hx, h⟩ := bnd h
    refine g_callVI (L := [some (.ref a2), some (.ref a1), some (.ref a3), none, none]) cd20_149 rfl rfl rfl rfl rfl (O9.o h2) (t_State_turnOver (by omega) h2 h1 h3 hx) ?_
    refine g_popI cd20_152 rfl ?_
    refine g_goto (ls2 := [some (.ref a0), some (.ref a1), some (.ref a2), some (.ref a3), some (.int l4), some (.int (I (a0 + 2) l4.toNatClampNeg))]) cd20_153 rfl rfl ?_
    exact g_vret cd20_165 (by obtain rfl := Option.some.inj h; rfl)
  have h := ifnE hb h
  show Go _ _ 156 [some (.ref a0), some (.ref a1), some (.ref a2), some (.ref a3), some (.int l4), some (.int (I (a0 + 2) l4.toNatClampNeg))] [] _ _
  refine g_aload_n cd20_156 rfl rfl ?_
  refine g_aload_n cd20_157 rfl rfl ?_
  refine g_aload_n cd20_158 rfl rfl ?_
  refine g_iload cd20_159 rfl rfl ?_
  obtain ⟨x11, hx, h⟩ := bnd h
  refine g_callVI (L := [some (.ref a2), some (.ref a1), some (.ref a3), some (.int (I (a0 + 2) l4.toNatClampNeg)), none, none]) cd20_161 rfl rfl rfl rfl rfl (O9.o h2) (t_State_passNights (by omega) h2 h1 h3 hx) ?_
  refine g_popI cd20_164 rfl ?_
  exact g_vret cd20_165 (by obtain rfl := Option.some.inj h; rfl)
/-! HiddenOrLost$Book.live(LHiddenOrLost$Land;LHiddenOrLost$State;LHiddenOrLost$Draws;)I -/
theorem cd17_0 : code9 17 0 = some (0, .aload_n 0, [1], .null, []) := rfl
theorem cd17_1 : code9 17 1 = some (0, .iconst 0, [1], .int 0, []) := rfl
theorem cd17_2 : code9 17 2 = some (0, .putfield 28, [3, 1, 5, 0], .null, []) := rfl
theorem cd17_5 : code9 17 5 = some (0, .iconst 0, [1], .int 0, []) := rfl
theorem cd17_6 : code9 17 6 = some (0, .istore 4, [2], .null, []) := rfl
theorem cd17_8 : code9 17 8 = some (6, .iload 4, [2], .null, []) := rfl
theorem cd17_10 : code9 17 10 = some (0, .aload_n 0, [1], .null, []) := rfl
theorem cd17_11 : code9 17 11 = some (0, .getfield 24, [3, 1, 4, 0], .null, []) := rfl
theorem cd17_14 : code9 17 14 = some (0, .if_icmp .ge 47, [3, 61], .null, []) := rfl
theorem cd17_17 : code9 17 17 = some (0, .iload 4, [2], .null, []) := rfl
theorem cd17_19 : code9 17 19 = some (0, .bipush 40, [2], .int 40, []) := rfl
theorem cd17_21 : code9 17 21 = some (0, .if_icmp .ge 40, [3, 61], .null, []) := rfl
theorem cd17_24 : code9 17 24 = some (0, .aload_n 0, [1], .null, []) := rfl
theorem cd17_25 : code9 17 25 = some (0, .aload_n 0, [1], .null, []) := rfl
theorem cd17_26 : code9 17 26 = some (0, .aload_n 1, [1], .null, []) := rfl
theorem cd17_27 : code9 17 27 = some (0, .aload_n 2, [1], .null, []) := rfl
theorem cd17_28 : code9 17 28 = some (0, .iload 4, [2], .null, []) := rfl
theorem cd17_30 : code9 17 30 = some (0, .invokevirtual 103, [3, 18, 4, 1, 1, 6, 1, 0], .null, []) := rfl
theorem cd17_33 : code9 17 33 = some (0, .putfield 28, [3, 1, 5, 0], .null, []) := rfl
theorem cd17_36 : code9 17 36 = some (0, .aload_n 0, [1], .null, []) := rfl
theorem cd17_37 : code9 17 37 = some (0, .getfield 28, [3, 1, 5, 0], .null, []) := rfl
theorem cd17_40 : code9 17 40 = some (0, .ifCond .eq 6, [3, 46], .null, []) := rfl
theorem cd17_43 : code9 17 43 = some (0, .iload 4, [2], .null, []) := rfl
theorem cd17_45 : code9 17 45 = some (0, .ireturn, [1, 1], .null, []) := rfl
theorem cd17_46 : code9 17 46 = some (0, .aload_n 0, [1], .null, []) := rfl
theorem cd17_47 : code9 17 47 = some (0, .aload_n 1, [1], .null, []) := rfl
theorem cd17_48 : code9 17 48 = some (0, .aload_n 2, [1], .null, []) := rfl
theorem cd17_49 : code9 17 49 = some (0, .aload_n 3, [1], .null, []) := rfl
theorem cd17_50 : code9 17 50 = some (0, .iload 4, [2], .null, []) := rfl
theorem cd17_52 : code9 17 52 = some (0, .invokevirtual 107, [3, 20, 5, 1, 0, 6, 1, 0], .null, []) := rfl
theorem cd17_55 : code9 17 55 = some (0, .iinc 4 1, [3], .int 1, []) := rfl
theorem cd17_58 : code9 17 58 = some (0, .goto (-50), [3, 8, 5], .null, []) := rfl
theorem cd17_61 : code9 17 61 = some (6, .aload_n 0, [1], .null, []) := rfl
theorem cd17_62 : code9 17 62 = some (0, .getfield 24, [3, 1, 4, 0], .null, []) := rfl
theorem cd17_65 : code9 17 65 = some (0, .ireturn, [1, 1], .null, []) := rfl
def Book_live_8 (N : Nat) (a0 a1 a2 a3 : Nat) : Nat → Int32 → FI → Option (Int32 × FI)
  | 0 => fun _ _ => none
  | n + 1 => fun l4 I => if (I a0 4) ≤ l4 then (some (I a0 4, I)) else (if 40 ≤ l4 then (some (I a0 4, I)) else (Option.bind (Book_whyWrong a0 a1 a2 l4 I) fun x2 => (Option.bind (some (up2 I a0 5 x2)) fun I3 => (if (I3 a0 5) = 0 then (Option.bind (Book_liveLine N a0 a1 a2 a3 l4 I3) fun x4 => (Book_live_8 N a0 a1 a2 a3 n (l4 + 1) x4)) else (some (l4, I3))))))
def Book_live (N : Nat) (a0 a1 a2 a3 : Nat) (I : FI) : Option (Int32 × FI) := Option.bind (some (up2 I a0 5 (0 : Int32))) fun I1 => (Book_live_8 N a0 a1 a2 a3 N 0 I1)
set_option maxRecDepth 8000 in
theorem t_Book_live_8 {d : Nat} {N : Nat} {a0 a1 a2 a3 : Nat} {c : Nat × Nat} {S : Nat → Nat × Nat} {P : Nat → Nat → Option Nat} {r : Int32 × FI} (hd : 5 ≤ (d + 1)) (h0 : O1 S P a0) (h1 : O6 S P a1) (h2 : O9 S P a2) (h3 : O2 S P a3) : ∀ (n : Nat) (l4 : Int32) (I : FI) (J : FJ), Book_live_8 N a0 a1 a2 a3 n l4 I = some r → Go (d + 1) M_Book_live 8 [some (.ref a0), some (.ref a1), some (.ref a2), some (.ref a3), some (.int l4)] [] (c, S, I, J, P) (some (.int r.1), false, (c, S, r.2, J, P)) := by
  intro n
  induction n with
  | zero =>
    intro l4 I J h
    cases h
  | succ n ih =>
    intro l4 I J h
    unfold Book_live_8 at h
    refine g_iload cd17_8 rfl rfl ?_
    refine g_aload_n cd17_10 rfl rfl ?_
    refine g_getI cd17_11 rfl (O1.o h0) ?_
    refine g_icmp_ge cd17_14 rfl (fun hb => ?_) (fun hb => ?_)
    · have h := ifpE hb h
      refine g_aload_n cd17_61 rfl rfl ?_
      refine g_getI cd17_62 rfl (O1.o h0) ?_
      exact g_iret cd17_65 (Or.inl rfl) (by obtain rfl := Option.some.inj h; rfl)
    · have h := ifnE hb h
      refine g_iload cd17_17 rfl rfl ?_
      refine g_bipush cd17_19 rfl ?_
      refine g_icmp_ge cd17_21 rfl (fun hb => ?_) (fun hb => ?_)
      · have h := ifpE hb h
        refine g_aload_n cd17_61 rfl rfl ?_
        refine g_getI cd17_62 rfl (O1.o h0) ?_
        exact g_iret cd17_65 (Or.inl rfl) (by obtain rfl := Option.some.inj h; rfl)
      · have h := ifnE hb h
        refine g_aload_n cd17_24 rfl rfl ?_
        refine g_aload_n cd17_25 rfl rfl ?_
        refine g_aload_n cd17_26 rfl rfl ?_
        refine g_aload_n cd17_27 rfl rfl ?_
        refine g_iload cd17_28 rfl rfl ?_
        obtain ⟨x2, hx, h⟩ := bnd h
        refine g_callVI (L := [some (.ref a0), some (.ref a1), some (.ref a2), some (.int l4), none, none]) cd17_30 rfl rfl rfl rfl rfl (O1.o h0) (t_Book_whyWrong (by omega) h0 h1 h2 hx) ?_
        obtain ⟨I3, e1, h⟩ := bnd h
        refine G_putI cd17_33 rfl (O1.o h0) (Option.some.inj e1) ?_
        refine g_aload_n cd17_36 rfl rfl ?_
        refine g_getI cd17_37 rfl (O1.o h0) ?_
        refine g_if_eq cd17_40 rfl (fun hb => ?_) (fun hb => ?_)
        · have h := ifpE hb h
          refine g_aload_n cd17_46 rfl rfl ?_
          refine g_aload_n cd17_47 rfl rfl ?_
          refine g_aload_n cd17_48 rfl rfl ?_
          refine g_aload_n cd17_49 rfl rfl ?_
          refine g_iload cd17_50 rfl rfl ?_
          obtain ⟨x4, hx, h⟩ := bnd h
          refine g_callVV (L := [some (.ref a0), some (.ref a1), some (.ref a2), some (.ref a3), some (.int l4), none]) cd17_52 rfl rfl rfl rfl rfl (O1.o h0) (t_Book_liveLine (by omega) h0 h1 h2 h3 hx) ?_
          refine g_iinc (ls2 := [some (.ref a0), some (.ref a1), some (.ref a2), some (.ref a3), some (.int (l4 + 1))]) cd17_55 rfl rfl rfl ?_
          refine g_goto (ls2 := [some (.ref a0), some (.ref a1), some (.ref a2), some (.ref a3), some (.int (l4 + 1))]) cd17_58 rfl rfl ?_
          exact ih (l4 + 1) x4 J h
        · have h := ifnE hb h
          refine g_iload cd17_43 rfl rfl ?_
          exact g_iret cd17_45 (Or.inl rfl) (by obtain rfl := Option.some.inj h; rfl)
set_option maxRecDepth 8000 in
theorem t_Book_live {d : Nat} {N : Nat} {a0 a1 a2 a3 : Nat} {c : Nat × Nat} {S : Nat → Nat × Nat} {P : Nat → Nat → Option Nat} {I : FI} {J : FJ} {r : Int32 × FI} (hd : 5 ≤ d) (h0 : O1 S P a0) (h1 : O6 S P a1) (h2 : O9 S P a2) (h3 : O2 S P a3) (h : Book_live N a0 a1 a2 a3 I = some r) : Go d M_Book_live 0 [some (.ref a0), some (.ref a1), some (.ref a2), some (.ref a3), none] [] (c, S, I, J, P) (some (.int r.1), false, (c, S, r.2, J, P)) := by
  obtain ⟨d, rfl⟩ : ∃ e, d = e + 1 := ⟨d - 1, by omega⟩
  unfold Book_live at h
  refine g_aload_n cd17_0 rfl rfl ?_
  refine g_iconst cd17_1 rfl ?_
  obtain ⟨I1, e1, h⟩ := bnd h
  refine G_putI cd17_2 rfl (O1.o h0) (Option.some.inj e1) ?_
  refine g_iconst cd17_5 rfl ?_
  refine g_istore (ls2 := [some (.ref a0), some (.ref a1), some (.ref a2), some (.ref a3), some (.int 0)]) cd17_6 rfl rfl ?_
  exact t_Book_live_8 hd h0 h1 h2 h3 _ 0 I1 J h
/-! HiddenOrLost$History.clear()V -/
theorem cd24_0 : code9 24 0 = some (0, .aload_n 0, [1], .null, []) := rfl
theorem cd24_1 : code9 24 1 = some (0, .iconst 0, [1], .int 0, []) := rfl
theorem cd24_2 : code9 24 2 = some (0, .putfield 21, [3, 3, 2, 0], .null, []) := rfl
theorem cd24_5 : code9 24 5 = some (0, .return_, [1], .null, []) := rfl
def History_clear (a0 : Nat) (I : FI) : Option (FI) := Option.bind (some (up2 I a0 2 (0 : Int32))) fun I1 => (some I1)
set_option maxRecDepth 8000 in
theorem t_History_clear {d : Nat} {a0 : Nat} {c : Nat × Nat} {S : Nat → Nat × Nat} {P : Nat → Nat → Option Nat} {I : FI} {J : FJ} {r : FI} (hd : 0 ≤ d) (h0 : O3 S P a0) (h : History_clear a0 I = some r) : Go d M_History_clear 0 [some (.ref a0)] [] (c, S, I, J, P) (none, false, (c, S, r, J, P)) := by
  unfold History_clear at h
  refine g_aload_n cd24_0 rfl rfl ?_
  refine g_iconst cd24_1 rfl ?_
  obtain ⟨I1, e1, h⟩ := bnd h
  refine G_putI cd24_2 rfl (O3.o h0) (Option.some.inj e1) ?_
  exact g_vret cd24_5 (by obtain rfl := Option.some.inj h; rfl)
/-! HiddenOrLost$State.copy(LHiddenOrLost$State;)V -/
theorem cd89_0 : code9 89 0 = some (0, .aload_n 1, [1], .null, []) := rfl
theorem cd89_1 : code9 89 1 = some (0, .getfield 9, [3, 9, 0, 2], .null, []) := rfl
theorem cd89_4 : code9 89 4 = some (0, .iconst 0, [1], .int 0, []) := rfl
theorem cd89_5 : code9 89 5 = some (0, .aload_n 0, [1], .null, []) := rfl
theorem cd89_6 : code9 89 6 = some (0, .getfield 9, [3, 9, 0, 2], .null, []) := rfl
theorem cd89_9 : code9 89 9 = some (0, .iconst 0, [1], .int 0, []) := rfl
theorem cd89_10 : code9 89 10 = some (0, .aload_n 0, [1], .null, []) := rfl
theorem cd89_11 : code9 89 11 = some (0, .getfield 9, [3, 9, 0, 2], .null, []) := rfl
theorem cd89_14 : code9 89 14 = some (0, .arraylength, [1], .null, []) := rfl
theorem cd89_15 : code9 89 15 = some (0, .invokestatic 61, [3, 2], .null, []) := rfl
theorem cd89_18 : code9 89 18 = some (0, .aload_n 1, [1], .null, []) := rfl
theorem cd89_19 : code9 89 19 = some (0, .getfield 15, [3, 9, 1, 2], .null, []) := rfl
theorem cd89_22 : code9 89 22 = some (0, .iconst 0, [1], .int 0, []) := rfl
theorem cd89_23 : code9 89 23 = some (0, .aload_n 0, [1], .null, []) := rfl
theorem cd89_24 : code9 89 24 = some (0, .getfield 15, [3, 9, 1, 2], .null, []) := rfl
theorem cd89_27 : code9 89 27 = some (0, .iconst 0, [1], .int 0, []) := rfl
theorem cd89_28 : code9 89 28 = some (0, .aload_n 0, [1], .null, []) := rfl
theorem cd89_29 : code9 89 29 = some (0, .getfield 15, [3, 9, 1, 2], .null, []) := rfl
theorem cd89_32 : code9 89 32 = some (0, .arraylength, [1], .null, []) := rfl
theorem cd89_33 : code9 89 33 = some (0, .invokestatic 61, [3, 2], .null, []) := rfl
theorem cd89_36 : code9 89 36 = some (0, .aload_n 1, [1], .null, []) := rfl
theorem cd89_37 : code9 89 37 = some (0, .getfield 18, [3, 9, 2, 2], .null, []) := rfl
theorem cd89_40 : code9 89 40 = some (0, .iconst 0, [1], .int 0, []) := rfl
theorem cd89_41 : code9 89 41 = some (0, .aload_n 0, [1], .null, []) := rfl
theorem cd89_42 : code9 89 42 = some (0, .getfield 18, [3, 9, 2, 2], .null, []) := rfl
theorem cd89_45 : code9 89 45 = some (0, .iconst 0, [1], .int 0, []) := rfl
theorem cd89_46 : code9 89 46 = some (0, .aload_n 0, [1], .null, []) := rfl
theorem cd89_47 : code9 89 47 = some (0, .getfield 18, [3, 9, 2, 2], .null, []) := rfl
theorem cd89_50 : code9 89 50 = some (0, .arraylength, [1], .null, []) := rfl
theorem cd89_51 : code9 89 51 = some (0, .invokestatic 61, [3, 2], .null, []) := rfl
theorem cd89_54 : code9 89 54 = some (0, .aload_n 1, [1], .null, []) := rfl
theorem cd89_55 : code9 89 55 = some (0, .getfield 21, [3, 9, 3, 2], .null, []) := rfl
theorem cd89_58 : code9 89 58 = some (0, .iconst 0, [1], .int 0, []) := rfl
theorem cd89_59 : code9 89 59 = some (0, .aload_n 0, [1], .null, []) := rfl
theorem cd89_60 : code9 89 60 = some (0, .getfield 21, [3, 9, 3, 2], .null, []) := rfl
theorem cd89_63 : code9 89 63 = some (0, .iconst 0, [1], .int 0, []) := rfl
theorem cd89_64 : code9 89 64 = some (0, .aload_n 0, [1], .null, []) := rfl
theorem cd89_65 : code9 89 65 = some (0, .getfield 21, [3, 9, 3, 2], .null, []) := rfl
theorem cd89_68 : code9 89 68 = some (0, .arraylength, [1], .null, []) := rfl
theorem cd89_69 : code9 89 69 = some (0, .invokestatic 61, [3, 2], .null, []) := rfl
theorem cd89_72 : code9 89 72 = some (0, .aload_n 1, [1], .null, []) := rfl
theorem cd89_73 : code9 89 73 = some (0, .getfield 24, [3, 9, 4, 2], .null, []) := rfl
theorem cd89_76 : code9 89 76 = some (0, .iconst 0, [1], .int 0, []) := rfl
theorem cd89_77 : code9 89 77 = some (0, .aload_n 0, [1], .null, []) := rfl
theorem cd89_78 : code9 89 78 = some (0, .getfield 24, [3, 9, 4, 2], .null, []) := rfl
theorem cd89_81 : code9 89 81 = some (0, .iconst 0, [1], .int 0, []) := rfl
theorem cd89_82 : code9 89 82 = some (0, .aload_n 0, [1], .null, []) := rfl
theorem cd89_83 : code9 89 83 = some (0, .getfield 24, [3, 9, 4, 2], .null, []) := rfl
theorem cd89_86 : code9 89 86 = some (0, .arraylength, [1], .null, []) := rfl
theorem cd89_87 : code9 89 87 = some (0, .invokestatic 61, [3, 2], .null, []) := rfl
theorem cd89_90 : code9 89 90 = some (0, .aload_n 1, [1], .null, []) := rfl
theorem cd89_91 : code9 89 91 = some (0, .getfield 27, [3, 9, 5, 2], .null, []) := rfl
theorem cd89_94 : code9 89 94 = some (0, .iconst 0, [1], .int 0, []) := rfl
theorem cd89_95 : code9 89 95 = some (0, .aload_n 0, [1], .null, []) := rfl
theorem cd89_96 : code9 89 96 = some (0, .getfield 27, [3, 9, 5, 2], .null, []) := rfl
theorem cd89_99 : code9 89 99 = some (0, .iconst 0, [1], .int 0, []) := rfl
theorem cd89_100 : code9 89 100 = some (0, .aload_n 0, [1], .null, []) := rfl
theorem cd89_101 : code9 89 101 = some (0, .getfield 27, [3, 9, 5, 2], .null, []) := rfl
theorem cd89_104 : code9 89 104 = some (0, .arraylength, [1], .null, []) := rfl
theorem cd89_105 : code9 89 105 = some (0, .invokestatic 61, [3, 2], .null, []) := rfl
theorem cd89_108 : code9 89 108 = some (0, .aload_n 1, [1], .null, []) := rfl
theorem cd89_109 : code9 89 109 = some (0, .getfield 30, [3, 9, 6, 2], .null, []) := rfl
theorem cd89_112 : code9 89 112 = some (0, .iconst 0, [1], .int 0, []) := rfl
theorem cd89_113 : code9 89 113 = some (0, .aload_n 0, [1], .null, []) := rfl
theorem cd89_114 : code9 89 114 = some (0, .getfield 30, [3, 9, 6, 2], .null, []) := rfl
theorem cd89_117 : code9 89 117 = some (0, .iconst 0, [1], .int 0, []) := rfl
theorem cd89_118 : code9 89 118 = some (0, .aload_n 0, [1], .null, []) := rfl
theorem cd89_119 : code9 89 119 = some (0, .getfield 30, [3, 9, 6, 2], .null, []) := rfl
theorem cd89_122 : code9 89 122 = some (0, .arraylength, [1], .null, []) := rfl
theorem cd89_123 : code9 89 123 = some (0, .invokestatic 61, [3, 2], .null, []) := rfl
theorem cd89_126 : code9 89 126 = some (0, .aload_n 1, [1], .null, []) := rfl
theorem cd89_127 : code9 89 127 = some (0, .getfield 33, [3, 9, 7, 2], .null, []) := rfl
theorem cd89_130 : code9 89 130 = some (0, .iconst 0, [1], .int 0, []) := rfl
theorem cd89_131 : code9 89 131 = some (0, .aload_n 0, [1], .null, []) := rfl
theorem cd89_132 : code9 89 132 = some (0, .getfield 33, [3, 9, 7, 2], .null, []) := rfl
theorem cd89_135 : code9 89 135 = some (0, .iconst 0, [1], .int 0, []) := rfl
theorem cd89_136 : code9 89 136 = some (0, .aload_n 0, [1], .null, []) := rfl
theorem cd89_137 : code9 89 137 = some (0, .getfield 33, [3, 9, 7, 2], .null, []) := rfl
theorem cd89_140 : code9 89 140 = some (0, .arraylength, [1], .null, []) := rfl
theorem cd89_141 : code9 89 141 = some (0, .invokestatic 61, [3, 2], .null, []) := rfl
theorem cd89_144 : code9 89 144 = some (0, .aload_n 1, [1], .null, []) := rfl
theorem cd89_145 : code9 89 145 = some (0, .getfield 36, [3, 9, 8, 2], .null, []) := rfl
theorem cd89_148 : code9 89 148 = some (0, .iconst 0, [1], .int 0, []) := rfl
theorem cd89_149 : code9 89 149 = some (0, .aload_n 0, [1], .null, []) := rfl
theorem cd89_150 : code9 89 150 = some (0, .getfield 36, [3, 9, 8, 2], .null, []) := rfl
theorem cd89_153 : code9 89 153 = some (0, .iconst 0, [1], .int 0, []) := rfl
theorem cd89_154 : code9 89 154 = some (0, .aload_n 0, [1], .null, []) := rfl
theorem cd89_155 : code9 89 155 = some (0, .getfield 36, [3, 9, 8, 2], .null, []) := rfl
theorem cd89_158 : code9 89 158 = some (0, .arraylength, [1], .null, []) := rfl
theorem cd89_159 : code9 89 159 = some (0, .invokestatic 61, [3, 2], .null, []) := rfl
theorem cd89_162 : code9 89 162 = some (0, .aload_n 0, [1], .null, []) := rfl
theorem cd89_163 : code9 89 163 = some (0, .aload_n 1, [1], .null, []) := rfl
theorem cd89_164 : code9 89 164 = some (0, .getfield 39, [3, 9, 9, 0], .null, []) := rfl
theorem cd89_167 : code9 89 167 = some (0, .putfield 39, [3, 9, 9, 0], .null, []) := rfl
theorem cd89_170 : code9 89 170 = some (0, .aload_n 0, [1], .null, []) := rfl
theorem cd89_171 : code9 89 171 = some (0, .aload_n 1, [1], .null, []) := rfl
theorem cd89_172 : code9 89 172 = some (0, .getfield 43, [3, 9, 10, 0], .null, []) := rfl
theorem cd89_175 : code9 89 175 = some (0, .putfield 43, [3, 9, 10, 0], .null, []) := rfl
theorem cd89_178 : code9 89 178 = some (0, .return_, [1], .null, []) := rfl
def State_copy (a0 a1 : Nat) (I : FI) : Option (FI) := if (a1 + 1) ≠ (a0 + 1) then (Option.bind (some (cp2 I (a1 + 1) ((0 : Int32).toNatClampNeg) (a0 + 1) ((0 : Int32).toNatClampNeg) ((Int32.ofNat 10).toNatClampNeg))) fun I2 => (if (a1 + 2) ≠ (a0 + 2) then (Option.bind (some (cp2 I2 (a1 + 2) ((0 : Int32).toNatClampNeg) (a0 + 2) ((0 : Int32).toNatClampNeg) ((Int32.ofNat 10).toNatClampNeg))) fun I4 => (if (a1 + 3) ≠ (a0 + 3) then (Option.bind (some (cp2 I4 (a1 + 3) ((0 : Int32).toNatClampNeg) (a0 + 3) ((0 : Int32).toNatClampNeg) ((Int32.ofNat 10).toNatClampNeg))) fun I6 => (if (a1 + 4) ≠ (a0 + 4) then (Option.bind (some (cp2 I6 (a1 + 4) ((0 : Int32).toNatClampNeg) (a0 + 4) ((0 : Int32).toNatClampNeg) ((Int32.ofNat 10).toNatClampNeg))) fun I8 => (if (a1 + 5) ≠ (a0 + 5) then (Option.bind (some (cp2 I8 (a1 + 5) ((0 : Int32).toNatClampNeg) (a0 + 5) ((0 : Int32).toNatClampNeg) ((Int32.ofNat 10).toNatClampNeg))) fun I10 => (if (a1 + 6) ≠ (a0 + 6) then (Option.bind (some (cp2 I10 (a1 + 6) ((0 : Int32).toNatClampNeg) (a0 + 6) ((0 : Int32).toNatClampNeg) ((Int32.ofNat 6).toNatClampNeg))) fun I12 => (if (a1 + 7) ≠ (a0 + 7) then (Option.bind (some (cp2 I12 (a1 + 7) ((0 : Int32).toNatClampNeg) (a0 + 7) ((0 : Int32).toNatClampNeg) ((Int32.ofNat 6).toNatClampNeg))) fun I14 => (if (a1 + 8) ≠ (a0 + 8) then (Option.bind (some (cp2 I14 (a1 + 8) ((0 : Int32).toNatClampNeg) (a0 + 8) ((0 : Int32).toNatClampNeg) ((Int32.ofNat 6).toNatClampNeg))) fun I16 => (if (a1 + 9) ≠ (a0 + 9) then (Option.bind (some (cp2 I16 (a1 + 9) ((0 : Int32).toNatClampNeg) (a0 + 9) ((0 : Int32).toNatClampNeg) ((Int32.ofNat 36).toNatClampNeg))) fun I18 => (Option.bind (some (up2 I18 a0 9 (I18 a1 9))) fun I19 => (Option.bind (some (up2 I19 a0 10 (I19 a1 10))) fun I20 => (some I20)))) else none)) else none)) else none)) else none)) else none)) else none)) else none)) else none)) else none
set_option maxRecDepth 8000 in
theorem t_State_copy {d : Nat} {a0 a1 : Nat} {c : Nat × Nat} {S : Nat → Nat × Nat} {P : Nat → Nat → Option Nat} {I : FI} {J : FJ} {r : FI} (hd : 1 ≤ d) (h0 : O9 S P a0) (h1 : O9 S P a1) (h : State_copy a0 a1 I = some r) : Go d M_State_copy 0 [some (.ref a0), some (.ref a1)] [] (c, S, I, J, P) (none, false, (c, S, r, J, P)) := by
  obtain ⟨d, rfl⟩ : ∃ e, d = e + 1 := ⟨d - 1, by omega⟩
  unfold State_copy at h
  refine g_aload_n cd89_0 rfl rfl ?_
  refine g_getP cd89_1 rfl (O9.o h1) (show P a1 0 = some (a1 + 1) from O9.p0 h1) ?_
  refine g_iconst cd89_4 rfl ?_
  refine g_aload_n cd89_5 rfl rfl ?_
  refine g_getP cd89_6 rfl (O9.o h0) (show P a0 0 = some (a0 + 1) from O9.p0 h0) ?_
  refine g_iconst cd89_9 rfl ?_
  refine g_aload_n cd89_10 rfl rfl ?_
  refine g_getP cd89_11 rfl (O9.o h0) (show P a0 0 = some (a0 + 1) from O9.p0 h0) ?_
  refine G_alen cd89_14 rfl (show S (a0 + 1) = (1, 10) from O9.s0 h0) (by decide) ?_
  obtain ⟨hg1, h⟩ := grd h
  obtain ⟨I2, e1, h⟩ := bnd h
  refine G_cpyI cd89_15 rfl (Nat.succ_ne_zero _) (show S (a1 + 1) = (1, 10) from O9.s0 h1) (show S (a0 + 1) = (1, 10) from O9.s0 h0) hg1 (by decide) rfl (Option.some.inj e1) ?_
  refine g_aload_n cd89_18 rfl rfl ?_
  refine g_getP cd89_19 rfl (O9.o h1) (show P a1 1 = some (a1 + 2) from O9.p1 h1) ?_
  refine g_iconst cd89_22 rfl ?_
  refine g_aload_n cd89_23 rfl rfl ?_
  refine g_getP cd89_24 rfl (O9.o h0) (show P a0 1 = some (a0 + 2) from O9.p1 h0) ?_
  refine g_iconst cd89_27 rfl ?_
  refine g_aload_n cd89_28 rfl rfl ?_
  refine g_getP cd89_29 rfl (O9.o h0) (show P a0 1 = some (a0 + 2) from O9.p1 h0) ?_
  refine G_alen cd89_32 rfl (show S (a0 + 2) = (1, 10) from O9.s1 h0) (by decide) ?_
  obtain ⟨hg3, h⟩ := grd h
  obtain ⟨I4, e1, h⟩ := bnd h
  refine G_cpyI cd89_33 rfl (Nat.succ_ne_zero _) (show S (a1 + 2) = (1, 10) from O9.s1 h1) (show S (a0 + 2) = (1, 10) from O9.s1 h0) hg3 (by decide) rfl (Option.some.inj e1) ?_
  refine g_aload_n cd89_36 rfl rfl ?_
  refine g_getP cd89_37 rfl (O9.o h1) (show P a1 2 = some (a1 + 3) from O9.p2 h1) ?_
  refine g_iconst cd89_40 rfl ?_
  refine g_aload_n cd89_41 rfl rfl ?_
  refine g_getP cd89_42 rfl (O9.o h0) (show P a0 2 = some (a0 + 3) from O9.p2 h0) ?_
  refine g_iconst cd89_45 rfl ?_
  refine g_aload_n cd89_46 rfl rfl ?_
  refine g_getP cd89_47 rfl (O9.o h0) (show P a0 2 = some (a0 + 3) from O9.p2 h0) ?_
  refine G_alen cd89_50 rfl (show S (a0 + 3) = (1, 10) from O9.s2 h0) (by decide) ?_
  obtain ⟨hg5, h⟩ := grd h
  obtain ⟨I6, e1, h⟩ := bnd h
  refine G_cpyI cd89_51 rfl (Nat.succ_ne_zero _) (show S (a1 + 3) = (1, 10) from O9.s2 h1) (show S (a0 + 3) = (1, 10) from O9.s2 h0) hg5 (by decide) rfl (Option.some.inj e1) ?_
  refine g_aload_n cd89_54 rfl rfl ?_
  refine g_getP cd89_55 rfl (O9.o h1) (show P a1 3 = some (a1 + 4) from O9.p3 h1) ?_
  refine g_iconst cd89_58 rfl ?_
  refine g_aload_n cd89_59 rfl rfl ?_
  refine g_getP cd89_60 rfl (O9.o h0) (show P a0 3 = some (a0 + 4) from O9.p3 h0) ?_
  refine g_iconst cd89_63 rfl ?_
  refine g_aload_n cd89_64 rfl rfl ?_
  refine g_getP cd89_65 rfl (O9.o h0) (show P a0 3 = some (a0 + 4) from O9.p3 h0) ?_
  refine G_alen cd89_68 rfl (show S (a0 + 4) = (1, 10) from O9.s3 h0) (by decide) ?_
  obtain ⟨hg7, h⟩ := grd h
  obtain ⟨I8, e1, h⟩ := bnd h
  refine G_cpyI cd89_69 rfl (Nat.succ_ne_zero _) (show S (a1 + 4) = (1, 10) from O9.s3 h1) (show S (a0 + 4) = (1, 10) from O9.s3 h0) hg7 (by decide) rfl (Option.some.inj e1) ?_
  refine g_aload_n cd89_72 rfl rfl ?_
  refine g_getP cd89_73 rfl (O9.o h1) (show P a1 4 = some (a1 + 5) from O9.p4 h1) ?_
  refine g_iconst cd89_76 rfl ?_
  refine g_aload_n cd89_77 rfl rfl ?_
  refine g_getP cd89_78 rfl (O9.o h0) (show P a0 4 = some (a0 + 5) from O9.p4 h0) ?_
  refine g_iconst cd89_81 rfl ?_
  refine g_aload_n cd89_82 rfl rfl ?_
  refine g_getP cd89_83 rfl (O9.o h0) (show P a0 4 = some (a0 + 5) from O9.p4 h0) ?_
  refine G_alen cd89_86 rfl (show S (a0 + 5) = (1, 10) from O9.s4 h0) (by decide) ?_
  obtain ⟨hg9, h⟩ := grd h
  obtain ⟨I10, e1, h⟩ := bnd h
  refine G_cpyI cd89_87 rfl (Nat.succ_ne_zero _) (show S (a1 + 5) = (1, 10) from O9.s4 h1) (show S (a0 + 5) = (1, 10) from O9.s4 h0) hg9 (by decide) rfl (Option.some.inj e1) ?_
  refine g_aload_n cd89_90 rfl rfl ?_
  refine g_getP cd89_91 rfl (O9.o h1) (show P a1 5 = some (a1 + 6) from O9.p5 h1) ?_
  refine g_iconst cd89_94 rfl ?_
  refine g_aload_n cd89_95 rfl rfl ?_
  refine g_getP cd89_96 rfl (O9.o h0) (show P a0 5 = some (a0 + 6) from O9.p5 h0) ?_
  refine g_iconst cd89_99 rfl ?_
  refine g_aload_n cd89_100 rfl rfl ?_
  refine g_getP cd89_101 rfl (O9.o h0) (show P a0 5 = some (a0 + 6) from O9.p5 h0) ?_
  refine G_alen cd89_104 rfl (show S (a0 + 6) = (1, 6) from O9.s5 h0) (by decide) ?_
  obtain ⟨hg11, h⟩ := grd h
  obtain ⟨I12, e1, h⟩ := bnd h
  refine G_cpyI cd89_105 rfl (Nat.succ_ne_zero _) (show S (a1 + 6) = (1, 6) from O9.s5 h1) (show S (a0 + 6) = (1, 6) from O9.s5 h0) hg11 (by decide) rfl (Option.some.inj e1) ?_
  refine g_aload_n cd89_108 rfl rfl ?_
  refine g_getP cd89_109 rfl (O9.o h1) (show P a1 6 = some (a1 + 7) from O9.p6 h1) ?_
  refine g_iconst cd89_112 rfl ?_
  refine g_aload_n cd89_113 rfl rfl ?_
  refine g_getP cd89_114 rfl (O9.o h0) (show P a0 6 = some (a0 + 7) from O9.p6 h0) ?_
  refine g_iconst cd89_117 rfl ?_
  refine g_aload_n cd89_118 rfl rfl ?_
  refine g_getP cd89_119 rfl (O9.o h0) (show P a0 6 = some (a0 + 7) from O9.p6 h0) ?_
  refine G_alen cd89_122 rfl (show S (a0 + 7) = (1, 6) from O9.s6 h0) (by decide) ?_
  obtain ⟨hg13, h⟩ := grd h
  obtain ⟨I14, e1, h⟩ := bnd h
  refine G_cpyI cd89_123 rfl (Nat.succ_ne_zero _) (show S (a1 + 7) = (1, 6) from O9.s6 h1) (show S (a0 + 7) = (1, 6) from O9.s6 h0) hg13 (by decide) rfl (Option.some.inj e1) ?_
  refine g_aload_n cd89_126 rfl rfl ?_
  refine g_getP cd89_127 rfl (O9.o h1) (show P a1 7 = some (a1 + 8) from O9.p7 h1) ?_
  refine g_iconst cd89_130 rfl ?_
  refine g_aload_n cd89_131 rfl rfl ?_
  refine g_getP cd89_132 rfl (O9.o h0) (show P a0 7 = some (a0 + 8) from O9.p7 h0) ?_
  refine g_iconst cd89_135 rfl ?_
  refine g_aload_n cd89_136 rfl rfl ?_
  refine g_getP cd89_137 rfl (O9.o h0) (show P a0 7 = some (a0 + 8) from O9.p7 h0) ?_
  refine G_alen cd89_140 rfl (show S (a0 + 8) = (1, 6) from O9.s7 h0) (by decide) ?_
  obtain ⟨hg15, h⟩ := grd h
  obtain ⟨I16, e1, h⟩ := bnd h
  refine G_cpyI cd89_141 rfl (Nat.succ_ne_zero _) (show S (a1 + 8) = (1, 6) from O9.s7 h1) (show S (a0 + 8) = (1, 6) from O9.s7 h0) hg15 (by decide) rfl (Option.some.inj e1) ?_
  refine g_aload_n cd89_144 rfl rfl ?_
  refine g_getP cd89_145 rfl (O9.o h1) (show P a1 8 = some (a1 + 9) from O9.p8 h1) ?_
  refine g_iconst cd89_148 rfl ?_
  refine g_aload_n cd89_149 rfl rfl ?_
  refine g_getP cd89_150 rfl (O9.o h0) (show P a0 8 = some (a0 + 9) from O9.p8 h0) ?_
  refine g_iconst cd89_153 rfl ?_
  refine g_aload_n cd89_154 rfl rfl ?_
  refine g_getP cd89_155 rfl (O9.o h0) (show P a0 8 = some (a0 + 9) from O9.p8 h0) ?_
  refine G_alen cd89_158 rfl (show S (a0 + 9) = (1, 36) from O9.s8 h0) (by decide) ?_
  obtain ⟨hg17, h⟩ := grd h
  obtain ⟨I18, e1, h⟩ := bnd h
  refine G_cpyI cd89_159 rfl (Nat.succ_ne_zero _) (show S (a1 + 9) = (1, 36) from O9.s8 h1) (show S (a0 + 9) = (1, 36) from O9.s8 h0) hg17 (by decide) rfl (Option.some.inj e1) ?_
  refine g_aload_n cd89_162 rfl rfl ?_
  refine g_aload_n cd89_163 rfl rfl ?_
  refine g_getI cd89_164 rfl (O9.o h1) ?_
  obtain ⟨I19, e1, h⟩ := bnd h
  refine G_putI cd89_167 rfl (O9.o h0) (Option.some.inj e1) ?_
  refine g_aload_n cd89_170 rfl rfl ?_
  refine g_aload_n cd89_171 rfl rfl ?_
  refine g_getI cd89_172 rfl (O9.o h1) ?_
  obtain ⟨I20, e1, h⟩ := bnd h
  refine G_putI cd89_175 rfl (O9.o h0) (Option.some.inj e1) ?_
  exact g_vret cd89_178 (by obtain rfl := Option.some.inj h; rfl)
/-! HiddenOrLost$History.keep(LHiddenOrLost$State;)V -/
theorem cd25_0 : code9 25 0 = some (0, .aload_n 0, [1], .null, []) := rfl
theorem cd25_1 : code9 25 1 = some (0, .getfield 21, [3, 3, 2, 0], .null, []) := rfl
theorem cd25_4 : code9 25 4 = some (0, .bipush 8, [2], .int 8, []) := rfl
theorem cd25_6 : code9 25 6 = some (0, .if_icmp .ne 26, [3, 32], .null, []) := rfl
theorem cd25_9 : code9 25 9 = some (0, .aload_n 0, [1], .null, []) := rfl
theorem cd25_10 : code9 25 10 = some (0, .aload_n 0, [1], .null, []) := rfl
theorem cd25_11 : code9 25 11 = some (0, .getfield 17, [3, 3, 1, 0], .null, []) := rfl
theorem cd25_14 : code9 25 14 = some (0, .iconst 1, [1], .int 1, []) := rfl
theorem cd25_15 : code9 25 15 = some (0, .iadd, [1], .null, []) := rfl
theorem cd25_16 : code9 25 16 = some (0, .bipush 8, [2], .int 8, []) := rfl
theorem cd25_18 : code9 25 18 = some (0, .irem, [1], .null, []) := rfl
theorem cd25_19 : code9 25 19 = some (0, .putfield 17, [3, 3, 1, 0], .null, []) := rfl
theorem cd25_22 : code9 25 22 = some (0, .aload_n 0, [1], .null, []) := rfl
theorem cd25_23 : code9 25 23 = some (0, .dup, [1], .null, []) := rfl
theorem cd25_24 : code9 25 24 = some (0, .getfield 21, [3, 3, 2, 0], .null, []) := rfl
theorem cd25_27 : code9 25 27 = some (0, .iconst 1, [1], .int 1, []) := rfl
theorem cd25_28 : code9 25 28 = some (0, .isub, [1], .null, []) := rfl
theorem cd25_29 : code9 25 29 = some (0, .putfield 21, [3, 3, 2, 0], .null, []) := rfl
theorem cd25_32 : code9 25 32 = some (3, .aload_n 0, [1], .null, []) := rfl
theorem cd25_33 : code9 25 33 = some (0, .getfield 11, [3, 3, 0, 2], .null, []) := rfl
theorem cd25_36 : code9 25 36 = some (0, .aload_n 0, [1], .null, []) := rfl
theorem cd25_37 : code9 25 37 = some (0, .getfield 17, [3, 3, 1, 0], .null, []) := rfl
theorem cd25_40 : code9 25 40 = some (0, .aload_n 0, [1], .null, []) := rfl
theorem cd25_41 : code9 25 41 = some (0, .getfield 21, [3, 3, 2, 0], .null, []) := rfl
theorem cd25_44 : code9 25 44 = some (0, .iadd, [1], .null, []) := rfl
theorem cd25_45 : code9 25 45 = some (0, .bipush 8, [2], .int 8, []) := rfl
theorem cd25_47 : code9 25 47 = some (0, .irem, [1], .null, []) := rfl
theorem cd25_48 : code9 25 48 = some (0, .aaload, [1], .null, []) := rfl
theorem cd25_49 : code9 25 49 = some (0, .astore_n 2, [1], .null, []) := rfl
theorem cd25_50 : code9 25 50 = some (0, .aload_n 2, [1], .null, []) := rfl
theorem cd25_51 : code9 25 51 = some (0, .ifnull 8, [3, 59], .null, []) := rfl
theorem cd25_54 : code9 25 54 = some (0, .aload_n 2, [1], .null, []) := rfl
theorem cd25_55 : code9 25 55 = some (0, .aload_n 1, [1], .null, []) := rfl
theorem cd25_56 : code9 25 56 = some (0, .invokevirtual 25, [3, 89, 2, 1, 0, 2, 9, 0], .null, []) := rfl
theorem cd25_59 : code9 25 59 = some (4, .aload_n 0, [1], .null, []) := rfl
theorem cd25_60 : code9 25 60 = some (0, .dup, [1], .null, []) := rfl
theorem cd25_61 : code9 25 61 = some (0, .getfield 21, [3, 3, 2, 0], .null, []) := rfl
theorem cd25_64 : code9 25 64 = some (0, .iconst 1, [1], .int 1, []) := rfl
theorem cd25_65 : code9 25 65 = some (0, .iadd, [1], .null, []) := rfl
theorem cd25_66 : code9 25 66 = some (0, .putfield 21, [3, 3, 2, 0], .null, []) := rfl
theorem cd25_69 : code9 25 69 = some (0, .return_, [1], .null, []) := rfl
def History_keep (a0 a1 : Nat) (I : FI) : Option (FI) := if (I a0 2) = 8 then (Option.bind (some (up2 I a0 1 (((I a0 1) + 1) - ((I a0 1) + 1) / 8 * 8))) fun I1 => (Option.bind (some (up2 I1 a0 2 ((I1 a0 2) - 1))) fun I2 => (if in9 (((I2 a0 1) + (I2 a0 2)) - ((I2 a0 1) + (I2 a0 2)) / 8 * 8) 8 then (Option.bind (State_copy (a0 + 2 + 10 * (((I2 a0 1) + (I2 a0 2)) - ((I2 a0 1) + (I2 a0 2)) / 8 * 8).toNatClampNeg) a1 I2) fun x4 => (Option.bind (some (up2 x4 a0 2 ((x4 a0 2) + 1))) fun I5 => (some I5))) else none))) else (if in9 (((I a0 1) + (I a0 2)) - ((I a0 1) + (I a0 2)) / 8 * 8) 8 then (Option.bind (State_copy (a0 + 2 + 10 * (((I a0 1) + (I a0 2)) - ((I a0 1) + (I a0 2)) / 8 * 8).toNatClampNeg) a1 I) fun x7 => (Option.bind (some (up2 x7 a0 2 ((x7 a0 2) + 1))) fun I8 => (some I8))) else none)
set_option maxRecDepth 8000 in
theorem t_History_keep {d : Nat} {a0 a1 : Nat} {c : Nat × Nat} {S : Nat → Nat × Nat} {P : Nat → Nat → Option Nat} {I : FI} {J : FJ} {r : FI} (hd : 2 ≤ d) (h0 : O3 S P a0) (h1 : O9 S P a1) (h : History_keep a0 a1 I = some r) : Go d M_History_keep 0 [some (.ref a0), some (.ref a1), none] [] (c, S, I, J, P) (none, false, (c, S, r, J, P)) := by
  obtain ⟨d, rfl⟩ : ∃ e, d = e + 1 := ⟨d - 1, by omega⟩
  unfold History_keep at h
  refine g_aload_n cd25_0 rfl rfl ?_
  refine g_getI cd25_1 rfl (O3.o h0) ?_
  refine g_bipush cd25_4 rfl ?_
  refine g_icmp_ne cd25_6 rfl (fun hb => ?_) (fun hb => ?_)
  · have h := ifpE hb h
    refine g_aload_n cd25_9 rfl rfl ?_
    refine g_aload_n cd25_10 rfl rfl ?_
    refine g_getI cd25_11 rfl (O3.o h0) ?_
    refine g_iconst cd25_14 rfl ?_
    refine g_iadd cd25_15 rfl ?_
    refine g_bipush cd25_16 rfl ?_
    refine g_irem cd25_18 rfl (by decide) ?_
    obtain ⟨I1, e1, h⟩ := bnd h
    refine G_putI cd25_19 rfl (O3.o h0) (Option.some.inj e1) ?_
    refine g_aload_n cd25_22 rfl rfl ?_
    refine g_dupR cd25_23 rfl ?_
    refine g_getI cd25_24 rfl (O3.o h0) ?_
    refine g_iconst cd25_27 rfl ?_
    refine g_isub cd25_28 rfl ?_
    obtain ⟨I2, e1, h⟩ := bnd h
    refine G_putI cd25_29 rfl (O3.o h0) (Option.some.inj e1) ?_
    refine g_aload_n cd25_32 rfl rfl ?_
    refine g_getP cd25_33 rfl (O3.o h0) (show P a0 0 = some (a0 + 1) from O3.p0 h0) ?_
    refine g_aload_n cd25_36 rfl rfl ?_
    refine g_getI cd25_37 rfl (O3.o h0) ?_
    refine g_aload_n cd25_40 rfl rfl ?_
    refine g_getI cd25_41 rfl (O3.o h0) ?_
    refine g_iadd cd25_44 rfl ?_
    refine g_bipush cd25_45 rfl ?_
    refine g_irem cd25_47 rfl (by decide) ?_
    obtain ⟨hg3, h⟩ := grd h
    refine G_aald cd25_48 rfl (show S (a0 + 1) = (5, 8) from O3.s0 h0) hg3 (O3.e h0 hg3.2) ?_
    refine g_astore_n (ls2 := [some (.ref a0), some (.ref a1), some (.ref (a0 + 2 + 10 * (((I2 a0 1) + (I2 a0 2)) - ((I2 a0 1) + (I2 a0 2)) / 8 * 8).toNatClampNeg))]) cd25_49 rfl rfl ?_
    refine g_aload_n cd25_50 rfl rfl ?_
    refine g_ifnull cd25_51 rfl ?_
    refine g_aload_n cd25_54 rfl rfl ?_
    refine g_aload_n cd25_55 rfl rfl ?_
    obtain ⟨x4, hx, h⟩ := bnd h
    refine g_callVV (L := [some (.ref (a0 + 2 + 10 * (((I2 a0 1) + (I2 a0 2)) - ((I2 a0 1) + (I2 a0 2)) / 8 * 8).toNatClampNeg)), some (.ref a1)]) cd25_56 rfl rfl rfl rfl rfl (O9.o (O3.t h0 hg3.2)) (t_State_copy (by omega) (O3.t h0 hg3.2) h1 hx) ?_
    refine g_aload_n cd25_59 rfl rfl ?_
    refine g_dupR cd25_60 rfl ?_
    refine g_getI cd25_61 rfl (O3.o h0) ?_
    refine g_iconst cd25_64 rfl ?_
    refine g_iadd cd25_65 rfl ?_
    obtain ⟨I5, e1, h⟩ := bnd h
    refine G_putI cd25_66 rfl (O3.o h0) (Option.some.inj e1) ?_
    exact g_vret cd25_69 (by obtain rfl := Option.some.inj h; rfl)
  · have h := ifnE hb h
    refine g_aload_n cd25_32 rfl rfl ?_
    refine g_getP cd25_33 rfl (O3.o h0) (show P a0 0 = some (a0 + 1) from O3.p0 h0) ?_
    refine g_aload_n cd25_36 rfl rfl ?_
    refine g_getI cd25_37 rfl (O3.o h0) ?_
    refine g_aload_n cd25_40 rfl rfl ?_
    refine g_getI cd25_41 rfl (O3.o h0) ?_
    refine g_iadd cd25_44 rfl ?_
    refine g_bipush cd25_45 rfl ?_
    refine g_irem cd25_47 rfl (by decide) ?_
    obtain ⟨hg6, h⟩ := grd h
    refine G_aald cd25_48 rfl (show S (a0 + 1) = (5, 8) from O3.s0 h0) hg6 (O3.e h0 hg6.2) ?_
    refine g_astore_n (ls2 := [some (.ref a0), some (.ref a1), some (.ref (a0 + 2 + 10 * (((I a0 1) + (I a0 2)) - ((I a0 1) + (I a0 2)) / 8 * 8).toNatClampNeg))]) cd25_49 rfl rfl ?_
    refine g_aload_n cd25_50 rfl rfl ?_
    refine g_ifnull cd25_51 rfl ?_
    refine g_aload_n cd25_54 rfl rfl ?_
    refine g_aload_n cd25_55 rfl rfl ?_
    obtain ⟨x7, hx, h⟩ := bnd h
    refine g_callVV (L := [some (.ref (a0 + 2 + 10 * (((I a0 1) + (I a0 2)) - ((I a0 1) + (I a0 2)) / 8 * 8).toNatClampNeg)), some (.ref a1)]) cd25_56 rfl rfl rfl rfl rfl (O9.o (O3.t h0 hg6.2)) (t_State_copy (by omega) (O3.t h0 hg6.2) h1 hx) ?_
    refine g_aload_n cd25_59 rfl rfl ?_
    refine g_dupR cd25_60 rfl ?_
    refine g_getI cd25_61 rfl (O3.o h0) ?_
    refine g_iconst cd25_64 rfl ?_
    refine g_iadd cd25_65 rfl ?_
    obtain ⟨I8, e1, h⟩ := bnd h
    refine G_putI cd25_66 rfl (O3.o h0) (Option.some.inj e1) ?_
    exact g_vret cd25_69 (by obtain rfl := Option.some.inj h; rfl)
/-! HiddenOrLost$History.takeBack(LHiddenOrLost$State;)Z -/
theorem cd26_0 : code9 26 0 = some (0, .aload_n 0, [1], .null, []) := rfl
theorem cd26_1 : code9 26 1 = some (0, .getfield 21, [3, 3, 2, 0], .null, []) := rfl
theorem cd26_4 : code9 26 4 = some (0, .ifCond .ne 5, [3, 9], .null, []) := rfl
theorem cd26_7 : code9 26 7 = some (0, .iconst 0, [1], .int 0, []) := rfl
theorem cd26_8 : code9 26 8 = some (0, .ireturn, [1, 3], .null, []) := rfl
theorem cd26_9 : code9 26 9 = some (0, .aload_n 0, [1], .null, []) := rfl
theorem cd26_10 : code9 26 10 = some (0, .dup, [1], .null, []) := rfl
theorem cd26_11 : code9 26 11 = some (0, .getfield 21, [3, 3, 2, 0], .null, []) := rfl
theorem cd26_14 : code9 26 14 = some (0, .iconst 1, [1], .int 1, []) := rfl
theorem cd26_15 : code9 26 15 = some (0, .isub, [1], .null, []) := rfl
theorem cd26_16 : code9 26 16 = some (0, .putfield 21, [3, 3, 2, 0], .null, []) := rfl
theorem cd26_19 : code9 26 19 = some (0, .aload_n 0, [1], .null, []) := rfl
theorem cd26_20 : code9 26 20 = some (0, .getfield 11, [3, 3, 0, 2], .null, []) := rfl
theorem cd26_23 : code9 26 23 = some (0, .aload_n 0, [1], .null, []) := rfl
theorem cd26_24 : code9 26 24 = some (0, .getfield 17, [3, 3, 1, 0], .null, []) := rfl
theorem cd26_27 : code9 26 27 = some (0, .aload_n 0, [1], .null, []) := rfl
theorem cd26_28 : code9 26 28 = some (0, .getfield 21, [3, 3, 2, 0], .null, []) := rfl
theorem cd26_31 : code9 26 31 = some (0, .iadd, [1], .null, []) := rfl
theorem cd26_32 : code9 26 32 = some (0, .bipush 8, [2], .int 8, []) := rfl
theorem cd26_34 : code9 26 34 = some (0, .irem, [1], .null, []) := rfl
theorem cd26_35 : code9 26 35 = some (0, .aaload, [1], .null, []) := rfl
theorem cd26_36 : code9 26 36 = some (0, .astore_n 2, [1], .null, []) := rfl
theorem cd26_37 : code9 26 37 = some (0, .aload_n 2, [1], .null, []) := rfl
theorem cd26_38 : code9 26 38 = some (0, .ifnull 8, [3, 46], .null, []) := rfl
theorem cd26_41 : code9 26 41 = some (0, .aload_n 1, [1], .null, []) := rfl
theorem cd26_42 : code9 26 42 = some (0, .aload_n 2, [1], .null, []) := rfl
theorem cd26_43 : code9 26 43 = some (0, .invokevirtual 25, [3, 89, 2, 1, 0, 2, 9, 0], .null, []) := rfl
theorem cd26_46 : code9 26 46 = some (4, .iconst 1, [1], .int 1, []) := rfl
theorem cd26_47 : code9 26 47 = some (0, .ireturn, [1, 3], .null, []) := rfl
def History_takeBack (a0 a1 : Nat) (I : FI) : Option (Bool × FI) := if (I a0 2) = 0 then (some (false, I)) else (Option.bind (some (up2 I a0 2 ((I a0 2) - 1))) fun I1 => (if in9 (((I1 a0 1) + (I1 a0 2)) - ((I1 a0 1) + (I1 a0 2)) / 8 * 8) 8 then (Option.bind (State_copy a1 (a0 + 2 + 10 * (((I1 a0 1) + (I1 a0 2)) - ((I1 a0 1) + (I1 a0 2)) / 8 * 8).toNatClampNeg) I1) fun x3 => (some (true, x3))) else none))
set_option maxRecDepth 8000 in
theorem t_History_takeBack {d : Nat} {a0 a1 : Nat} {c : Nat × Nat} {S : Nat → Nat × Nat} {P : Nat → Nat → Option Nat} {I : FI} {J : FJ} {r : Bool × FI} (hd : 2 ≤ d) (h0 : O3 S P a0) (h1 : O9 S P a1) (h : History_takeBack a0 a1 I = some r) : Go d M_History_takeBack 0 [some (.ref a0), some (.ref a1), none] [] (c, S, I, J, P) (some (.int (b2i r.1)), false, (c, S, r.2, J, P)) := by
  obtain ⟨d, rfl⟩ : ∃ e, d = e + 1 := ⟨d - 1, by omega⟩
  unfold History_takeBack at h
  refine g_aload_n cd26_0 rfl rfl ?_
  refine g_getI cd26_1 rfl (O3.o h0) ?_
  refine g_if_ne cd26_4 rfl (fun hb => ?_) (fun hb => ?_)
  · have h := ifpE hb h
    refine g_iconst cd26_7 rfl ?_
    exact g_iret cd26_8 (Or.inr ⟨rfl, Or.inl rfl⟩) (by obtain rfl := Option.some.inj h; rfl)
  · have h := ifnE hb h
    refine g_aload_n cd26_9 rfl rfl ?_
    refine g_dupR cd26_10 rfl ?_
    refine g_getI cd26_11 rfl (O3.o h0) ?_
    refine g_iconst cd26_14 rfl ?_
    refine g_isub cd26_15 rfl ?_
    obtain ⟨I1, e1, h⟩ := bnd h
    refine G_putI cd26_16 rfl (O3.o h0) (Option.some.inj e1) ?_
    refine g_aload_n cd26_19 rfl rfl ?_
    refine g_getP cd26_20 rfl (O3.o h0) (show P a0 0 = some (a0 + 1) from O3.p0 h0) ?_
    refine g_aload_n cd26_23 rfl rfl ?_
    refine g_getI cd26_24 rfl (O3.o h0) ?_
    refine g_aload_n cd26_27 rfl rfl ?_
    refine g_getI cd26_28 rfl (O3.o h0) ?_
    refine g_iadd cd26_31 rfl ?_
    refine g_bipush cd26_32 rfl ?_
    refine g_irem cd26_34 rfl (by decide) ?_
    obtain ⟨hg2, h⟩ := grd h
    refine G_aald cd26_35 rfl (show S (a0 + 1) = (5, 8) from O3.s0 h0) hg2 (O3.e h0 hg2.2) ?_
    refine g_astore_n (ls2 := [some (.ref a0), some (.ref a1), some (.ref (a0 + 2 + 10 * (((I1 a0 1) + (I1 a0 2)) - ((I1 a0 1) + (I1 a0 2)) / 8 * 8).toNatClampNeg))]) cd26_36 rfl rfl ?_
    refine g_aload_n cd26_37 rfl rfl ?_
    refine g_ifnull cd26_38 rfl ?_
    refine g_aload_n cd26_41 rfl rfl ?_
    refine g_aload_n cd26_42 rfl rfl ?_
    obtain ⟨x3, hx, h⟩ := bnd h
    refine g_callVV (L := [some (.ref a1), some (.ref (a0 + 2 + 10 * (((I1 a0 1) + (I1 a0 2)) - ((I1 a0 1) + (I1 a0 2)) / 8 * 8).toNatClampNeg))]) cd26_43 rfl rfl rfl rfl rfl (O9.o h1) (t_State_copy (by omega) h1 (O3.t h0 hg2.2) hx) ?_
    refine g_iconst cd26_46 rfl ?_
    exact g_iret cd26_47 (Or.inr ⟨rfl, Or.inr rfl⟩) (by obtain rfl := Option.some.inj h; rfl)
/-! HiddenOrLost$Label.add(I)V -/
theorem cd31_0 : code9 31 0 = some (0, .aload_n 0, [1], .null, []) := rfl
theorem cd31_1 : code9 31 1 = some (0, .getfield 15, [3, 5, 1, 0], .null, []) := rfl
theorem cd31_4 : code9 31 4 = some (0, .aload_n 0, [1], .null, []) := rfl
theorem cd31_5 : code9 31 5 = some (0, .getfield 9, [3, 5, 0, 2], .null, []) := rfl
theorem cd31_8 : code9 31 8 = some (0, .arraylength, [1], .null, []) := rfl
theorem cd31_9 : code9 31 9 = some (0, .if_icmp .ge 24, [3, 33], .null, []) := rfl
theorem cd31_12 : code9 31 12 = some (0, .aload_n 0, [1], .null, []) := rfl
theorem cd31_13 : code9 31 13 = some (0, .getfield 9, [3, 5, 0, 2], .null, []) := rfl
theorem cd31_16 : code9 31 16 = some (0, .aload_n 0, [1], .null, []) := rfl
theorem cd31_17 : code9 31 17 = some (0, .getfield 15, [3, 5, 1, 0], .null, []) := rfl
theorem cd31_20 : code9 31 20 = some (0, .iload_n 1, [1], .null, []) := rfl
theorem cd31_21 : code9 31 21 = some (0, .i2b, [1], .null, []) := rfl
theorem cd31_22 : code9 31 22 = some (0, .bastore, [1], .null, []) := rfl
theorem cd31_23 : code9 31 23 = some (0, .aload_n 0, [1], .null, []) := rfl
theorem cd31_24 : code9 31 24 = some (0, .dup, [1], .null, []) := rfl
theorem cd31_25 : code9 31 25 = some (0, .getfield 15, [3, 5, 1, 0], .null, []) := rfl
theorem cd31_28 : code9 31 28 = some (0, .iconst 1, [1], .int 1, []) := rfl
theorem cd31_29 : code9 31 29 = some (0, .iadd, [1], .null, []) := rfl
theorem cd31_30 : code9 31 30 = some (0, .putfield 15, [3, 5, 1, 0], .null, []) := rfl
theorem cd31_33 : code9 31 33 = some (3, .return_, [1], .null, []) := rfl
def Label_add (a0 : Nat) (l1 : Int32) (I : FI) : Option (FI) := if (Int32.ofNat 40) ≤ (I a0 1) then (some I) else (if in9 (I a0 1) 40 then (Option.bind (some (up2 I (a0 + 1) ((I a0 1).toNatClampNeg) (vp_nar .byte l1.toInt8.toInt32))) fun I2 => (Option.bind (some (up2 I2 a0 1 ((I2 a0 1) + 1))) fun I3 => (some I3))) else none)
set_option maxRecDepth 8000 in
theorem t_Label_add {d : Nat} {a0 : Nat} {c : Nat × Nat} {S : Nat → Nat × Nat} {P : Nat → Nat → Option Nat} {I : FI} {J : FJ} {l1 : Int32} {r : FI} (hd : 0 ≤ d) (h0 : O5 S P a0) (h : Label_add a0 l1 I = some r) : Go d M_Label_add 0 [some (.ref a0), some (.int l1)] [] (c, S, I, J, P) (none, false, (c, S, r, J, P)) := by
  unfold Label_add at h
  refine g_aload_n cd31_0 rfl rfl ?_
  refine g_getI cd31_1 rfl (O5.o h0) ?_
  refine g_aload_n cd31_4 rfl rfl ?_
  refine g_getP cd31_5 rfl (O5.o h0) (show P a0 0 = some (a0 + 1) from O5.p0 h0) ?_
  refine G_alen cd31_8 rfl (show S (a0 + 1) = (2, 40) from O5.s0 h0) (by decide) ?_
  refine g_icmp_ge cd31_9 rfl (fun hb => ?_) (fun hb => ?_)
  · have h := ifpE hb h
    exact g_vret cd31_33 (by obtain rfl := Option.some.inj h; rfl)
  · have h := ifnE hb h
    refine g_aload_n cd31_12 rfl rfl ?_
    refine g_getP cd31_13 rfl (O5.o h0) (show P a0 0 = some (a0 + 1) from O5.p0 h0) ?_
    refine g_aload_n cd31_16 rfl rfl ?_
    refine g_getI cd31_17 rfl (O5.o h0) ?_
    refine g_iload_n cd31_20 rfl rfl ?_
    refine g_i2b cd31_21 rfl ?_
    obtain ⟨hg1, h⟩ := grd h
    obtain ⟨I2, e1, h⟩ := bnd h
    refine G_bastB cd31_22 rfl (show S (a0 + 1) = (2, 40) from O5.s0 h0) hg1 (Option.some.inj e1) ?_
    refine g_aload_n cd31_23 rfl rfl ?_
    refine g_dupR cd31_24 rfl ?_
    refine g_getI cd31_25 rfl (O5.o h0) ?_
    refine g_iconst cd31_28 rfl ?_
    refine g_iadd cd31_29 rfl ?_
    obtain ⟨I3, e1, h⟩ := bnd h
    refine G_putI cd31_30 rfl (O5.o h0) (Option.some.inj e1) ?_
    exact g_vret cd31_33 (by obtain rfl := Option.some.inj h; rfl)
/-! HiddenOrLost$Label.addName(J)V -/
theorem cd30_0 : code9 30 0 = some (0, .bipush 30, [2], .int 30, []) := rfl
theorem cd30_2 : code9 30 2 = some (0, .istore_n 3, [1], .null, []) := rfl
theorem cd30_3 : code9 30 3 = some (5, .iload_n 3, [1], .null, []) := rfl
theorem cd30_4 : code9 30 4 = some (0, .ifCond .lt 35, [3, 39], .null, []) := rfl
theorem cd30_7 : code9 30 7 = some (0, .lload_n 1, [1], .null, []) := rfl
theorem cd30_8 : code9 30 8 = some (0, .iload_n 3, [1], .null, []) := rfl
theorem cd30_9 : code9 30 9 = some (0, .lshr, [1], .null, []) := rfl
theorem cd30_10 : code9 30 10 = some (0, .ldc2_w 77, [3], .long 31, []) := rfl
theorem cd30_13 : code9 30 13 = some (0, .land, [1], .null, []) := rfl
theorem cd30_14 : code9 30 14 = some (0, .l2i, [1], .null, []) := rfl
theorem cd30_15 : code9 30 15 = some (0, .istore 4, [2], .null, []) := rfl
theorem cd30_17 : code9 30 17 = some (0, .iload 4, [2], .null, []) := rfl
theorem cd30_19 : code9 30 19 = some (0, .ifCond .le 14, [3, 33], .null, []) := rfl
theorem cd30_22 : code9 30 22 = some (0, .aload_n 0, [1], .null, []) := rfl
theorem cd30_23 : code9 30 23 = some (0, .bipush 97, [2], .int 97, []) := rfl
theorem cd30_25 : code9 30 25 = some (0, .iload 4, [2], .null, []) := rfl
theorem cd30_27 : code9 30 27 = some (0, .iadd, [1], .null, []) := rfl
theorem cd30_28 : code9 30 28 = some (0, .iconst 1, [1], .int 1, []) := rfl
theorem cd30_29 : code9 30 29 = some (0, .isub, [1], .null, []) := rfl
theorem cd30_30 : code9 30 30 = some (0, .invokevirtual 29, [3, 31, 2, 1, 0, 2, 5, 0], .null, []) := rfl
theorem cd30_33 : code9 30 33 = some (6, .iinc 3 (-5), [3], .int (-5), []) := rfl
theorem cd30_36 : code9 30 36 = some (0, .goto (-33), [3, 3, 4], .null, []) := rfl
theorem cd30_39 : code9 30 39 = some (0, .return_, [1], .null, []) := rfl
def Label_addName_3 (N : Nat) (a0 : Nat) : Nat → Int64 → Int32 → FI → Option (FI)
  | 0 => fun _ _ _ => none
  | n + 1 => fun l1 l3 I => if l3 < 0 then (some I) else (if (((l1 >>> (l3.toInt64 &&& 63)) &&& 31).toInt32) ≤ 0 then (Label_addName_3 N a0 n l1 (l3 + (-5)) I) else (Option.bind (Label_add a0 ((97 + (((l1 >>> (l3.toInt64 &&& 63)) &&& 31).toInt32)) - 1) I) fun x1 => (Label_addName_3 N a0 n l1 (l3 + (-5)) x1)))
def Label_addName (N : Nat) (a0 : Nat) (l1 : Int64) (I : FI) : Option (FI) := Label_addName_3 N a0 N l1 30 I
set_option maxRecDepth 8000 in
theorem t_Label_addName_3 {d : Nat} {N : Nat} {a0 : Nat} {c : Nat × Nat} {S : Nat → Nat × Nat} {P : Nat → Nat → Option Nat} {r : FI} (hd : 1 ≤ (d + 1)) (h0 : O5 S P a0) : ∀ (n : Nat) (l1 : Int64) (l3 : Int32) (I : FI) (J : FJ), Label_addName_3 N a0 n l1 l3 I = some r → Go (d + 1) M_Label_addName 3 [some (.ref a0), some (.long l1), none, some (.int l3), none] [] (c, S, I, J, P) (none, false, (c, S, r, J, P)) := by
  intro n
  induction n with
  | zero =>
    intro l1 l3 I J h
    cases h
  | succ n ih =>
    intro l1 l3 I J h
    unfold Label_addName_3 at h
    refine g_iload_n cd30_3 rfl rfl ?_
    refine g_if_lt cd30_4 rfl (fun hb => ?_) (fun hb => ?_)
    · have h := ifpE hb h
      exact g_vret cd30_39 (by obtain rfl := Option.some.inj h; rfl)
    · have h := ifnE hb h
      refine g_lload_n cd30_7 rfl rfl ?_
      refine g_iload_n cd30_8 rfl rfl ?_
      refine g_lshr cd30_9 rfl ?_
      refine g_ldc2_w cd30_10 rfl ?_
      refine g_land cd30_13 rfl ?_
      refine g_l2i cd30_14 rfl ?_
      refine g_istore (ls2 := [some (.ref a0), some (.long l1), none, some (.int l3), some (.int (((l1 >>> (l3.toInt64 &&& 63)) &&& 31).toInt32))]) cd30_15 rfl rfl ?_
      refine g_iload cd30_17 rfl rfl ?_
      refine g_if_le cd30_19 rfl (fun hb => ?_) (fun hb => ?_)
      · have h := ifpE hb h
        refine g_iinc (ls2 := [some (.ref a0), some (.long l1), none, some (.int (l3 + (-5))), some (.int (((l1 >>> (l3.toInt64 &&& 63)) &&& 31).toInt32))]) cd30_33 rfl rfl rfl ?_
        refine g_goto (ls2 := [some (.ref a0), some (.long l1), none, some (.int (l3 + (-5))), none]) cd30_36 rfl rfl ?_
        exact ih l1 (l3 + (-5)) I J h
      · have h := ifnE hb h
        refine g_aload_n cd30_22 rfl rfl ?_
        refine g_bipush cd30_23 rfl ?_
        refine g_iload cd30_25 rfl rfl ?_
        refine g_iadd cd30_27 rfl ?_
        refine g_iconst cd30_28 rfl ?_
        refine g_isub cd30_29 rfl ?_
        obtain ⟨x1, hx, h⟩ := bnd h
        refine g_callVV (L := [some (.ref a0), some (.int ((97 + (((l1 >>> (l3.toInt64 &&& 63)) &&& 31).toInt32)) - 1))]) cd30_30 rfl rfl rfl rfl rfl (O5.o h0) (t_Label_add (by omega) h0 hx) ?_
        refine g_iinc (ls2 := [some (.ref a0), some (.long l1), none, some (.int (l3 + (-5))), some (.int (((l1 >>> (l3.toInt64 &&& 63)) &&& 31).toInt32))]) cd30_33 rfl rfl rfl ?_
        refine g_goto (ls2 := [some (.ref a0), some (.long l1), none, some (.int (l3 + (-5))), none]) cd30_36 rfl rfl ?_
        exact ih l1 (l3 + (-5)) x1 J h
set_option maxRecDepth 8000 in
theorem t_Label_addName {d : Nat} {N : Nat} {a0 : Nat} {c : Nat × Nat} {S : Nat → Nat × Nat} {P : Nat → Nat → Option Nat} {I : FI} {J : FJ} {l1 : Int64} {r : FI} (hd : 1 ≤ d) (h0 : O5 S P a0) (h : Label_addName N a0 l1 I = some r) : Go d M_Label_addName 0 [some (.ref a0), some (.long l1), none, none, none] [] (c, S, I, J, P) (none, false, (c, S, r, J, P)) := by
  obtain ⟨d, rfl⟩ : ∃ e, d = e + 1 := ⟨d - 1, by omega⟩
  unfold Label_addName at h
  refine g_bipush cd30_0 rfl ?_
  refine g_istore_n (ls2 := [some (.ref a0), some (.long l1), none, some (.int 30), none]) cd30_2 rfl rfl ?_
  exact t_Label_addName_3 hd h0 _ l1 30 I J h
/-! HiddenOrLost$Label.addNumber(I)V -/
theorem cd32_0 : code9 32 0 = some (0, .iload_n 1, [1], .null, []) := rfl
theorem cd32_1 : code9 32 1 = some (0, .bipush 100, [2], .int 100, []) := rfl
theorem cd32_3 : code9 32 3 = some (0, .if_icmp .lt 14, [3, 17], .null, []) := rfl
theorem cd32_6 : code9 32 6 = some (0, .aload_n 0, [1], .null, []) := rfl
theorem cd32_7 : code9 32 7 = some (0, .bipush 48, [2], .int 48, []) := rfl
theorem cd32_9 : code9 32 9 = some (0, .iload_n 1, [1], .null, []) := rfl
theorem cd32_10 : code9 32 10 = some (0, .bipush 100, [2], .int 100, []) := rfl
theorem cd32_12 : code9 32 12 = some (0, .idiv, [1], .null, []) := rfl
theorem cd32_13 : code9 32 13 = some (0, .iadd, [1], .null, []) := rfl
theorem cd32_14 : code9 32 14 = some (0, .invokevirtual 29, [3, 31, 2, 1, 0, 2, 5, 0], .null, []) := rfl
theorem cd32_17 : code9 32 17 = some (3, .iload_n 1, [1], .null, []) := rfl
theorem cd32_18 : code9 32 18 = some (0, .bipush 10, [2], .int 10, []) := rfl
theorem cd32_20 : code9 32 20 = some (0, .if_icmp .lt 17, [3, 37], .null, []) := rfl
theorem cd32_23 : code9 32 23 = some (0, .aload_n 0, [1], .null, []) := rfl
theorem cd32_24 : code9 32 24 = some (0, .bipush 48, [2], .int 48, []) := rfl
theorem cd32_26 : code9 32 26 = some (0, .iload_n 1, [1], .null, []) := rfl
theorem cd32_27 : code9 32 27 = some (0, .bipush 10, [2], .int 10, []) := rfl
theorem cd32_29 : code9 32 29 = some (0, .idiv, [1], .null, []) := rfl
theorem cd32_30 : code9 32 30 = some (0, .bipush 10, [2], .int 10, []) := rfl
theorem cd32_32 : code9 32 32 = some (0, .irem, [1], .null, []) := rfl
theorem cd32_33 : code9 32 33 = some (0, .iadd, [1], .null, []) := rfl
theorem cd32_34 : code9 32 34 = some (0, .invokevirtual 29, [3, 31, 2, 1, 0, 2, 5, 0], .null, []) := rfl
theorem cd32_37 : code9 32 37 = some (3, .aload_n 0, [1], .null, []) := rfl
theorem cd32_38 : code9 32 38 = some (0, .bipush 48, [2], .int 48, []) := rfl
theorem cd32_40 : code9 32 40 = some (0, .iload_n 1, [1], .null, []) := rfl
theorem cd32_41 : code9 32 41 = some (0, .bipush 10, [2], .int 10, []) := rfl
theorem cd32_43 : code9 32 43 = some (0, .irem, [1], .null, []) := rfl
theorem cd32_44 : code9 32 44 = some (0, .iadd, [1], .null, []) := rfl
theorem cd32_45 : code9 32 45 = some (0, .invokevirtual 29, [3, 31, 2, 1, 0, 2, 5, 0], .null, []) := rfl
theorem cd32_48 : code9 32 48 = some (0, .return_, [1], .null, []) := rfl
def Label_addNumber (a0 : Nat) (l1 : Int32) (I : FI) : Option (FI) := if l1 < 100 then (if l1 < 10 then (Option.bind (Label_add a0 (48 + (l1 - l1 / 10 * 10)) I) fun x1 => (some x1)) else (Option.bind (Label_add a0 (48 + ((l1 / 10) - (l1 / 10) / 10 * 10)) I) fun x2 => (Option.bind (Label_add a0 (48 + (l1 - l1 / 10 * 10)) x2) fun x3 => (some x3)))) else (Option.bind (Label_add a0 (48 + (l1 / 100)) I) fun x4 => (if l1 < 10 then (Option.bind (Label_add a0 (48 + (l1 - l1 / 10 * 10)) x4) fun x5 => (some x5)) else (Option.bind (Label_add a0 (48 + ((l1 / 10) - (l1 / 10) / 10 * 10)) x4) fun x6 => (Option.bind (Label_add a0 (48 + (l1 - l1 / 10 * 10)) x6) fun x7 => (some x7)))))
set_option maxRecDepth 8000 in
theorem t_Label_addNumber {d : Nat} {a0 : Nat} {c : Nat × Nat} {S : Nat → Nat × Nat} {P : Nat → Nat → Option Nat} {I : FI} {J : FJ} {l1 : Int32} {r : FI} (hd : 1 ≤ d) (h0 : O5 S P a0) (h : Label_addNumber a0 l1 I = some r) : Go d M_Label_addNumber 0 [some (.ref a0), some (.int l1)] [] (c, S, I, J, P) (none, false, (c, S, r, J, P)) := by
  obtain ⟨d, rfl⟩ : ∃ e, d = e + 1 := ⟨d - 1, by omega⟩
  unfold Label_addNumber at h
  refine g_iload_n cd32_0 rfl rfl ?_
  refine g_bipush cd32_1 rfl ?_
  refine g_icmp_lt cd32_3 rfl (fun hb => ?_) (fun hb => ?_)
  · have h := ifpE hb h
    refine g_iload_n cd32_17 rfl rfl ?_
    refine g_bipush cd32_18 rfl ?_
    refine g_icmp_lt cd32_20 rfl (fun hb => ?_) (fun hb => ?_)
    · have h := ifpE hb h
      refine g_aload_n cd32_37 rfl rfl ?_
      refine g_bipush cd32_38 rfl ?_
      refine g_iload_n cd32_40 rfl rfl ?_
      refine g_bipush cd32_41 rfl ?_
      refine g_irem cd32_43 rfl (by decide) ?_
      refine g_iadd cd32_44 rfl ?_
      obtain ⟨x1, hx, h⟩ := bnd h
      refine g_callVV (L := [some (.ref a0), some (.int (48 + (l1 - l1 / 10 * 10)))]) cd32_45 rfl rfl rfl rfl rfl (O5.o h0) (t_Label_add (by omega) h0 hx) ?_
      exact g_vret cd32_48 (by obtain rfl := Option.some.inj h; rfl)
    · have h := ifnE hb h
      refine g_aload_n cd32_23 rfl rfl ?_
      refine g_bipush cd32_24 rfl ?_
      refine g_iload_n cd32_26 rfl rfl ?_
      refine g_bipush cd32_27 rfl ?_
      refine g_idiv cd32_29 rfl (by decide) ?_
      refine g_bipush cd32_30 rfl ?_
      refine g_irem cd32_32 rfl (by decide) ?_
      refine g_iadd cd32_33 rfl ?_
      obtain ⟨x2, hx, h⟩ := bnd h
      refine g_callVV (L := [some (.ref a0), some (.int (48 + ((l1 / 10) - (l1 / 10) / 10 * 10)))]) cd32_34 rfl rfl rfl rfl rfl (O5.o h0) (t_Label_add (by omega) h0 hx) ?_
      refine g_aload_n cd32_37 rfl rfl ?_
      refine g_bipush cd32_38 rfl ?_
      refine g_iload_n cd32_40 rfl rfl ?_
      refine g_bipush cd32_41 rfl ?_
      refine g_irem cd32_43 rfl (by decide) ?_
      refine g_iadd cd32_44 rfl ?_
      obtain ⟨x3, hx, h⟩ := bnd h
      refine g_callVV (L := [some (.ref a0), some (.int (48 + (l1 - l1 / 10 * 10)))]) cd32_45 rfl rfl rfl rfl rfl (O5.o h0) (t_Label_add (by omega) h0 hx) ?_
      exact g_vret cd32_48 (by obtain rfl := Option.some.inj h; rfl)
  · have h := ifnE hb h
    refine g_aload_n cd32_6 rfl rfl ?_
    refine g_bipush cd32_7 rfl ?_
    refine g_iload_n cd32_9 rfl rfl ?_
    refine g_bipush cd32_10 rfl ?_
    refine g_idiv cd32_12 rfl (by decide) ?_
    refine g_iadd cd32_13 rfl ?_
    obtain ⟨x4, hx, h⟩ := bnd h
    refine g_callVV (L := [some (.ref a0), some (.int (48 + (l1 / 100)))]) cd32_14 rfl rfl rfl rfl rfl (O5.o h0) (t_Label_add (by omega) h0 hx) ?_
    refine g_iload_n cd32_17 rfl rfl ?_
    refine g_bipush cd32_18 rfl ?_
    refine g_icmp_lt cd32_20 rfl (fun hb => ?_) (fun hb => ?_)
    · have h := ifpE hb h
      refine g_aload_n cd32_37 rfl rfl ?_
      refine g_bipush cd32_38 rfl ?_
      refine g_iload_n cd32_40 rfl rfl ?_
      refine g_bipush cd32_41 rfl ?_
      refine g_irem cd32_43 rfl (by decide) ?_
      refine g_iadd cd32_44 rfl ?_
      obtain ⟨x5, hx, h⟩ := bnd h
      refine g_callVV (L := [some (.ref a0), some (.int (48 + (l1 - l1 / 10 * 10)))]) cd32_45 rfl rfl rfl rfl rfl (O5.o h0) (t_Label_add (by omega) h0 hx) ?_
      exact g_vret cd32_48 (by obtain rfl := Option.some.inj h; rfl)
    · have h := ifnE hb h
      refine g_aload_n cd32_23 rfl rfl ?_
      refine g_bipush cd32_24 rfl ?_
      refine g_iload_n cd32_26 rfl rfl ?_
      refine g_bipush cd32_27 rfl ?_
      refine g_idiv cd32_29 rfl (by decide) ?_
      refine g_bipush cd32_30 rfl ?_
      refine g_irem cd32_32 rfl (by decide) ?_
      refine g_iadd cd32_33 rfl ?_
      obtain ⟨x6, hx, h⟩ := bnd h
      refine g_callVV (L := [some (.ref a0), some (.int (48 + ((l1 / 10) - (l1 / 10) / 10 * 10)))]) cd32_34 rfl rfl rfl rfl rfl (O5.o h0) (t_Label_add (by omega) h0 hx) ?_
      refine g_aload_n cd32_37 rfl rfl ?_
      refine g_bipush cd32_38 rfl ?_
      refine g_iload_n cd32_40 rfl rfl ?_
      refine g_bipush cd32_41 rfl ?_
      refine g_irem cd32_43 rfl (by decide) ?_
      refine g_iadd cd32_44 rfl ?_
      obtain ⟨x7, hx, h⟩ := bnd h
      refine g_callVV (L := [some (.ref a0), some (.int (48 + (l1 - l1 / 10 * 10)))]) cd32_45 rfl rfl rfl rfl rfl (O5.o h0) (t_Label_add (by omega) h0 hx) ?_
      exact g_vret cd32_48 (by obtain rfl := Option.some.inj h; rfl)
/-! HiddenOrLost$Label.addText(Ljava/lang/String;)V -/
theorem cd33_0 : code9 33 0 = some (0, .iconst 0, [1], .int 0, []) := rfl
theorem cd33_1 : code9 33 1 = some (0, .istore_n 2, [1], .null, []) := rfl
theorem cd33_2 : code9 33 2 = some (4, .iload_n 2, [1], .null, []) := rfl
theorem cd33_3 : code9 33 3 = some (0, .aload_n 1, [1], .null, []) := rfl
theorem cd33_4 : code9 33 4 = some (0, .invokevirtual 68, [3, 3], .null, []) := rfl
theorem cd33_7 : code9 33 7 = some (0, .if_icmp .ge 18, [3, 25], .null, []) := rfl
theorem cd33_10 : code9 33 10 = some (0, .aload_n 0, [1], .null, []) := rfl
theorem cd33_11 : code9 33 11 = some (0, .aload_n 1, [1], .null, []) := rfl
theorem cd33_12 : code9 33 12 = some (0, .iload_n 2, [1], .null, []) := rfl
theorem cd33_13 : code9 33 13 = some (0, .invokevirtual 73, [3, 4], .null, []) := rfl
theorem cd33_16 : code9 33 16 = some (0, .invokevirtual 29, [3, 31, 2, 1, 0, 2, 5, 0], .null, []) := rfl
theorem cd33_19 : code9 33 19 = some (0, .iinc 2 1, [3], .int 1, []) := rfl
theorem cd33_22 : code9 33 22 = some (0, .goto (-20), [3, 2, 3], .null, []) := rfl
theorem cd33_25 : code9 33 25 = some (0, .return_, [1], .null, []) := rfl
def Label_addText_2 (N : Nat) (a0 a1 : Nat) : Nat → Int32 → FI → Option (FI)
  | 0 => fun _ _ => none
  | n + 1 => fun l2 I => if oFF < a1 ∧ a1 ≤ oFF + 5 then (if (Int32.ofNat (sLen (a1 - oFF - 1))) ≤ l2 then (some I) else (if oFF < a1 ∧ a1 ≤ oFF + 5 ∧ in9 l2 (sLen (a1 - oFF - 1)) then (Option.bind (Label_add a0 (sCh (a1 - oFF - 1) (l2.toNatClampNeg)) I) fun x3 => (Label_addText_2 N a0 a1 n (l2 + 1) x3)) else none)) else none
def Label_addText (N : Nat) (a0 a1 : Nat) (I : FI) : Option (FI) := Label_addText_2 N a0 a1 N 0 I
set_option maxRecDepth 8000 in
theorem t_Label_addText_2 {d : Nat} {N : Nat} {a0 a1 : Nat} {c : Nat × Nat} {S : Nat → Nat × Nat} {P : Nat → Nat → Option Nat} {r : FI} (hd : 8 ≤ (d + 1)) (h0 : O5 S P a0) : ∀ (n : Nat) (l2 : Int32) (I : FI) (J : FJ), Label_addText_2 N a0 a1 n l2 I = some r → Go (d + 1) M_Label_addText 2 [some (.ref a0), some (.ref a1), some (.int l2)] [] (c, S, I, J, P) (none, false, (c, S, r, J, P)) := by
  intro n
  induction n with
  | zero =>
    intro l2 I J h
    cases h
  | succ n ih =>
    intro l2 I J h
    unfold Label_addText_2 at h
    refine g_iload_n cd33_2 rfl rfl ?_
    refine g_aload_n cd33_3 rfl rfl ?_
    obtain ⟨hg1, h⟩ := grd h
    refine g_slen cd33_4 rfl ⟨hg1.1, hg1.2, by omega⟩ rfl ?_
    refine g_icmp_ge cd33_7 rfl (fun hb => ?_) (fun hb => ?_)
    · have h := ifpE hb h
      exact g_vret cd33_25 (by obtain rfl := Option.some.inj h; rfl)
    · have h := ifnE hb h
      refine g_aload_n cd33_10 rfl rfl ?_
      refine g_aload_n cd33_11 rfl rfl ?_
      refine g_iload_n cd33_12 rfl rfl ?_
      obtain ⟨hg2, h⟩ := grd h
      refine g_sch cd33_13 rfl ⟨hg2.1, hg2.2.1, by omega, hg2.2.2⟩ rfl ?_
      obtain ⟨x3, hx, h⟩ := bnd h
      refine g_callVV (L := [some (.ref a0), some (.int (sCh (a1 - oFF - 1) (l2.toNatClampNeg)))]) cd33_16 rfl rfl rfl rfl rfl (O5.o h0) (t_Label_add (by omega) h0 hx) ?_
      refine g_iinc (ls2 := [some (.ref a0), some (.ref a1), some (.int (l2 + 1))]) cd33_19 rfl rfl rfl ?_
      refine g_goto (ls2 := [some (.ref a0), some (.ref a1), some (.int (l2 + 1))]) cd33_22 rfl rfl ?_
      exact ih (l2 + 1) x3 J h
set_option maxRecDepth 8000 in
theorem t_Label_addText {d : Nat} {N : Nat} {a0 a1 : Nat} {c : Nat × Nat} {S : Nat → Nat × Nat} {P : Nat → Nat → Option Nat} {I : FI} {J : FJ} {r : FI} (hd : 8 ≤ d) (h0 : O5 S P a0) (h : Label_addText N a0 a1 I = some r) : Go d M_Label_addText 0 [some (.ref a0), some (.ref a1), none] [] (c, S, I, J, P) (none, false, (c, S, r, J, P)) := by
  obtain ⟨d, rfl⟩ : ∃ e, d = e + 1 := ⟨d - 1, by omega⟩
  unfold Label_addText at h
  refine g_iconst cd33_0 rfl ?_
  refine g_istore_n (ls2 := [some (.ref a0), some (.ref a1), some (.int 0)]) cd33_1 rfl rfl ?_
  exact t_Label_addText_2 hd h0 _ 0 I J h
/-! HiddenOrLost$Label.write(LHiddenOrLost$Land;LHiddenOrLost$State;I)V -/
theorem cd29_0 : code9 29 0 = some (0, .aload_n 0, [1], .null, []) := rfl
theorem cd29_1 : code9 29 1 = some (0, .iconst 0, [1], .int 0, []) := rfl
theorem cd29_2 : code9 29 2 = some (0, .putfield 15, [3, 5, 1, 0], .null, []) := rfl
theorem cd29_5 : code9 29 5 = some (0, .aload_n 0, [1], .null, []) := rfl
theorem cd29_6 : code9 29 6 = some (0, .aload_n 1, [1], .null, []) := rfl
theorem cd29_7 : code9 29 7 = some (0, .getfield 19, [3, 6, 1, 2], .null, []) := rfl
theorem cd29_10 : code9 29 10 = some (0, .iload_n 3, [1], .null, []) := rfl
theorem cd29_11 : code9 29 11 = some (0, .laload, [1], .null, []) := rfl
theorem cd29_12 : code9 29 12 = some (0, .invokevirtual 25, [3, 30, 2, 1, 0, 5, 5, 0], .null, []) := rfl
theorem cd29_15 : code9 29 15 = some (0, .aload_n 0, [1], .null, []) := rfl
theorem cd29_16 : code9 29 16 = some (0, .bipush 32, [2], .int 32, []) := rfl
theorem cd29_18 : code9 29 18 = some (0, .invokevirtual 29, [3, 31, 2, 1, 0, 2, 5, 0], .null, []) := rfl
theorem cd29_21 : code9 29 21 = some (0, .aload_n 0, [1], .null, []) := rfl
theorem cd29_22 : code9 29 22 = some (0, .aload_n 1, [1], .null, []) := rfl
theorem cd29_23 : code9 29 23 = some (0, .iload_n 3, [1], .null, []) := rfl
theorem cd29_24 : code9 29 24 = some (0, .iconst 4, [1], .int 4, []) := rfl
theorem cd29_25 : code9 29 25 = some (0, .invokevirtual 33, [3, 51, 3, 1, 1, 3, 6, 0], .null, []) := rfl
theorem cd29_28 : code9 29 28 = some (0, .invokevirtual 37, [3, 32, 2, 1, 0, 2, 5, 0], .null, []) := rfl
theorem cd29_31 : code9 29 31 = some (0, .aload_n 2, [1], .null, []) := rfl
theorem cd29_32 : code9 29 32 = some (0, .getfield 40, [3, 9, 3, 2], .null, []) := rfl
theorem cd29_35 : code9 29 35 = some (0, .iload_n 3, [1], .null, []) := rfl
theorem cd29_36 : code9 29 36 = some (0, .iaload, [1], .null, []) := rfl
theorem cd29_37 : code9 29 37 = some (0, .tableswitch 82 0 2 #[27, 36, 73], [27, 119], .null, [(0, 64), (1, 73), (2, 110)]) := rfl
theorem cd29_64 : code9 29 64 = some (0, .aload_n 0, [1], .null, []) := rfl
theorem cd29_65 : code9 29 65 = some (0, .ldc 46, [2], .ref 1000000002, []) := rfl
theorem cd29_67 : code9 29 67 = some (0, .invokevirtual 48, [3, 33, 2, 1, 0, 3, 5, 0], .null, []) := rfl
theorem cd29_70 : code9 29 70 = some (0, .goto 55, [3, 125, 4], .null, []) := rfl
theorem cd29_73 : code9 29 73 = some (0, .aload_n 0, [1], .null, []) := rfl
theorem cd29_74 : code9 29 74 = some (0, .ldc 52, [2], .ref 1000000003, []) := rfl
theorem cd29_76 : code9 29 76 = some (0, .invokevirtual 48, [3, 33, 2, 1, 0, 3, 5, 0], .null, []) := rfl
theorem cd29_79 : code9 29 79 = some (0, .aload_n 1, [1], .null, []) := rfl
theorem cd29_80 : code9 29 80 = some (0, .aload_n 2, [1], .null, []) := rfl
theorem cd29_81 : code9 29 81 = some (0, .getfield 54, [3, 9, 4, 2], .null, []) := rfl
theorem cd29_84 : code9 29 84 = some (0, .iload_n 3, [1], .null, []) := rfl
theorem cd29_85 : code9 29 85 = some (0, .iaload, [1], .null, []) := rfl
theorem cd29_86 : code9 29 86 = some (0, .invokevirtual 57, [3, 52, 2, 1, 3, 2, 6, 0], .null, []) := rfl
theorem cd29_89 : code9 29 89 = some (0, .ifCond .eq 36, [3, 125], .null, []) := rfl
theorem cd29_92 : code9 29 92 = some (0, .aload_n 0, [1], .null, []) := rfl
theorem cd29_93 : code9 29 93 = some (0, .aload_n 1, [1], .null, []) := rfl
theorem cd29_94 : code9 29 94 = some (0, .getfield 61, [3, 6, 0, 2], .null, []) := rfl
theorem cd29_97 : code9 29 97 = some (0, .aload_n 2, [1], .null, []) := rfl
theorem cd29_98 : code9 29 98 = some (0, .getfield 54, [3, 9, 4, 2], .null, []) := rfl
theorem cd29_101 : code9 29 101 = some (0, .iload_n 3, [1], .null, []) := rfl
theorem cd29_102 : code9 29 102 = some (0, .iaload, [1], .null, []) := rfl
theorem cd29_103 : code9 29 103 = some (0, .laload, [1], .null, []) := rfl
theorem cd29_104 : code9 29 104 = some (0, .invokevirtual 25, [3, 30, 2, 1, 0, 5, 5, 0], .null, []) := rfl
theorem cd29_107 : code9 29 107 = some (0, .goto 18, [3, 125, 4], .null, []) := rfl
theorem cd29_110 : code9 29 110 = some (0, .aload_n 0, [1], .null, []) := rfl
theorem cd29_111 : code9 29 111 = some (0, .ldc 64, [2], .ref 1000000004, []) := rfl
theorem cd29_113 : code9 29 113 = some (0, .invokevirtual 48, [3, 33, 2, 1, 0, 3, 5, 0], .null, []) := rfl
theorem cd29_116 : code9 29 116 = some (0, .goto 9, [3, 125, 4], .null, []) := rfl
theorem cd29_119 : code9 29 119 = some (0, .aload_n 0, [1], .null, []) := rfl
theorem cd29_120 : code9 29 120 = some (0, .ldc 66, [2], .ref 1000000005, []) := rfl
theorem cd29_122 : code9 29 122 = some (0, .invokevirtual 48, [3, 33, 2, 1, 0, 3, 5, 0], .null, []) := rfl
theorem cd29_125 : code9 29 125 = some (5, .return_, [1], .null, []) := rfl
def Label_write (N : Nat) (a0 a1 a2 : Nat) (l3 : Int32) (I : FI) (J : FJ) : Option (FI) := Option.bind (some (up2 I a0 1 (0 : Int32))) fun I1 => (if in9 l3 10 then (Option.bind (Label_addName N a0 (J (a1 + 2) l3.toNatClampNeg) I1) fun x3 => (Option.bind (Label_add a0 32 x3) fun x4 => (Option.bind (Land_factOf a1 l3 4 x4) fun x5 => (Option.bind (Label_addNumber a0 x5 x4) fun x6 => (if (x6 (a2 + 4) l3.toNatClampNeg) = 0 then (Option.bind (Label_addText N a0 1000000002 x6) fun x7 => (some x7)) else (if (x6 (a2 + 4) l3.toNatClampNeg) = 1 then (Option.bind (Label_addText N a0 1000000003 x6) fun x8 => (if (Land_hasPerson a1 (x8 (a2 + 5) l3.toNatClampNeg) x8) then (if in9 (x8 (a2 + 5) l3.toNatClampNeg) 6 then (Option.bind (Label_addName N a0 (J (a1 + 1) ((x8 (a2 + 5) l3.toNatClampNeg).toNatClampNeg)) x8) fun x10 => (some x10)) else none) else (some x8))) else (if (x6 (a2 + 4) l3.toNatClampNeg) = 2 then (Option.bind (Label_addText N a0 1000000004 x6) fun x11 => (some x11)) else (Option.bind (Label_addText N a0 1000000005 x6) fun x12 => (some x12))))))))) else none)
set_option maxRecDepth 8000 in
theorem t_Label_write {d : Nat} {N : Nat} {a0 a1 a2 : Nat} {c : Nat × Nat} {S : Nat → Nat × Nat} {P : Nat → Nat → Option Nat} {I : FI} {J : FJ} {l3 : Int32} {r : FI} (hd : 9 ≤ d) (h0 : O5 S P a0) (h1 : O6 S P a1) (h2 : O9 S P a2) (h : Label_write N a0 a1 a2 l3 I J = some r) : Go d M_Label_write 0 [some (.ref a0), some (.ref a1), some (.ref a2), some (.int l3)] [] (c, S, I, J, P) (none, false, (c, S, r, J, P)) := by
  obtain ⟨d, rfl⟩ : ∃ e, d = e + 1 := ⟨d - 1, by omega⟩
  unfold Label_write at h
  refine g_aload_n cd29_0 rfl rfl ?_
  refine g_iconst cd29_1 rfl ?_
  obtain ⟨I1, e1, h⟩ := bnd h
  refine G_putI cd29_2 rfl (O5.o h0) (Option.some.inj e1) ?_
  refine g_aload_n cd29_5 rfl rfl ?_
  refine g_aload_n cd29_6 rfl rfl ?_
  refine g_getP cd29_7 rfl (O6.o h1) (show P a1 1 = some (a1 + 2) from O6.p1 h1) ?_
  refine g_iload_n cd29_10 rfl rfl ?_
  obtain ⟨hg2, h⟩ := grd h
  refine G_lald cd29_11 rfl (show S (a1 + 2) = (4, 10) from O6.s1 h1) hg2 ?_
  obtain ⟨x3, hx, h⟩ := bnd h
  refine g_callVV (L := [some (.ref a0), some (.long (J (a1 + 2) l3.toNatClampNeg)), none, none, none]) cd29_12 rfl rfl rfl rfl rfl (O5.o h0) (t_Label_addName (by omega) h0 hx) ?_
  refine g_aload_n cd29_15 rfl rfl ?_
  refine g_bipush cd29_16 rfl ?_
  obtain ⟨x4, hx, h⟩ := bnd h
  refine g_callVV (L := [some (.ref a0), some (.int 32)]) cd29_18 rfl rfl rfl rfl rfl (O5.o h0) (t_Label_add (by omega) h0 hx) ?_
  refine g_aload_n cd29_21 rfl rfl ?_
  refine g_aload_n cd29_22 rfl rfl ?_
  refine g_iload_n cd29_23 rfl rfl ?_
  refine g_iconst cd29_24 rfl ?_
  obtain ⟨x5, hx, h⟩ := bnd h
  refine g_callVI (L := [some (.ref a1), some (.int l3), some (.int 4)]) cd29_25 rfl rfl rfl rfl rfl (O6.o h1) (t_Land_factOf (by omega) h1 hx) ?_
  obtain ⟨x6, hx, h⟩ := bnd h
  refine g_callVV (L := [some (.ref a0), some (.int x5)]) cd29_28 rfl rfl rfl rfl rfl (O5.o h0) (t_Label_addNumber (by omega) h0 hx) ?_
  refine g_aload_n cd29_31 rfl rfl ?_
  refine g_getP cd29_32 rfl (O9.o h2) (show P a2 3 = some (a2 + 4) from O9.p3 h2) ?_
  refine g_iload_n cd29_35 rfl rfl ?_
  refine G_iald cd29_36 rfl (show S (a2 + 4) = (1, 10) from O9.s3 h2) hg2 ?_
  refine g_tableswitch cd29_37 rfl ?_
  refine ifi (fun hb => ?_) (fun hb => ?_)
  · have h := ifpE hb h
    show Go _ _ 64 [some (.ref a0), some (.ref a1), some (.ref a2), some (.int l3)] [] _ _
    refine g_aload_n cd29_64 rfl rfl ?_
    refine g_ldc cd29_65 rfl ?_
    obtain ⟨x7, hx, h⟩ := bnd h
    refine g_callVV (L := [some (.ref a0), some (.ref 1000000002), none]) cd29_67 rfl rfl rfl rfl rfl (O5.o h0) (t_Label_addText (by omega) h0 hx) ?_
    refine g_goto (ls2 := [some (.ref a0), some (.ref a1), some (.ref a2), some (.int l3)]) cd29_70 rfl rfl ?_
    exact g_vret cd29_125 (by obtain rfl := Option.some.inj h; rfl)
  have h := ifnE hb h
  refine ifi (fun hb => ?_) (fun hb => ?_)
  · have h := ifpE hb h
    show Go _ _ 73 [some (.ref a0), some (.ref a1), some (.ref a2), some (.int l3)] [] _ _
    refine g_aload_n cd29_73 rfl rfl ?_
    refine g_ldc cd29_74 rfl ?_
    obtain ⟨x8, hx, h⟩ := bnd h
    refine g_callVV (L := [some (.ref a0), some (.ref 1000000003), none]) cd29_76 rfl rfl rfl rfl rfl (O5.o h0) (t_Label_addText (by omega) h0 hx) ?_
    refine g_aload_n cd29_79 rfl rfl ?_
    refine g_aload_n cd29_80 rfl rfl ?_
    refine g_getP cd29_81 rfl (O9.o h2) (show P a2 4 = some (a2 + 5) from O9.p4 h2) ?_
    refine g_iload_n cd29_84 rfl rfl ?_
    refine G_iald cd29_85 rfl (show S (a2 + 5) = (1, 10) from O9.s4 h2) hg2 ?_
    refine g_callVZ (L := [some (.ref a1), some (.int (x8 (a2 + 5) l3.toNatClampNeg))]) cd29_86 rfl rfl rfl rfl rfl (O6.o h1) (t_Land_hasPerson (by omega) h1 rfl) ?_
    refine g_if_eq cd29_89 rfl (fun hb => ?_) (fun hb => ?_)
    · have h := ifnE (b2i_f hb) h
      exact g_vret cd29_125 (by obtain rfl := Option.some.inj h; rfl)
    · have h := ifpE (b2i_t hb) h
      refine g_aload_n cd29_92 rfl rfl ?_
      refine g_aload_n cd29_93 rfl rfl ?_
      refine g_getP cd29_94 rfl (O6.o h1) (show P a1 0 = some (a1 + 1) from O6.p0 h1) ?_
      refine g_aload_n cd29_97 rfl rfl ?_
      refine g_getP cd29_98 rfl (O9.o h2) (show P a2 4 = some (a2 + 5) from O9.p4 h2) ?_
      refine g_iload_n cd29_101 rfl rfl ?_
      refine G_iald cd29_102 rfl (show S (a2 + 5) = (1, 10) from O9.s4 h2) hg2 ?_
      obtain ⟨hg9, h⟩ := grd h
      refine G_lald cd29_103 rfl (show S (a1 + 1) = (4, 6) from O6.s0 h1) hg9 ?_
      obtain ⟨x10, hx, h⟩ := bnd h
      refine g_callVV (L := [some (.ref a0), some (.long (J (a1 + 1) ((x8 (a2 + 5) l3.toNatClampNeg).toNatClampNeg))), none, none, none]) cd29_104 rfl rfl rfl rfl rfl (O5.o h0) (t_Label_addName (by omega) h0 hx) ?_
      refine g_goto (ls2 := [some (.ref a0), some (.ref a1), some (.ref a2), some (.int l3)]) cd29_107 rfl rfl ?_
      exact g_vret cd29_125 (by obtain rfl := Option.some.inj h; rfl)
  have h := ifnE hb h
  refine ifi (fun hb => ?_) (fun hb => ?_)
  · have h := ifpE hb h
    show Go _ _ 110 [some (.ref a0), some (.ref a1), some (.ref a2), some (.int l3)] [] _ _
    refine g_aload_n cd29_110 rfl rfl ?_
    refine g_ldc cd29_111 rfl ?_
    obtain ⟨x11, hx, h⟩ := bnd h
    refine g_callVV (L := [some (.ref a0), some (.ref 1000000004), none]) cd29_113 rfl rfl rfl rfl rfl (O5.o h0) (t_Label_addText (by omega) h0 hx) ?_
    refine g_goto (ls2 := [some (.ref a0), some (.ref a1), some (.ref a2), some (.int l3)]) cd29_116 rfl rfl ?_
    exact g_vret cd29_125 (by obtain rfl := Option.some.inj h; rfl)
  have h := ifnE hb h
  show Go _ _ 119 [some (.ref a0), some (.ref a1), some (.ref a2), some (.int l3)] [] _ _
  refine g_aload_n cd29_119 rfl rfl ?_
  refine g_ldc cd29_120 rfl ?_
  obtain ⟨x12, hx, h⟩ := bnd h
  refine g_callVV (L := [some (.ref a0), some (.ref 1000000005), none]) cd29_122 rfl rfl rfl rfl rfl (O5.o h0) (t_Label_addText (by omega) h0 hx) ?_
  exact g_vret cd29_125 (by obtain rfl := Option.some.inj h; rfl)
/-! HiddenOrLost$Land.clear()V -/
theorem cd35_0 : code9 35 0 = some (0, .aload_n 0, [1], .null, []) := rfl
theorem cd35_1 : code9 35 1 = some (0, .getfield 28, [3, 6, 5, 2], .null, []) := rfl
theorem cd35_4 : code9 35 4 = some (0, .bipush 6, [2], .int 6, []) := rfl
theorem cd35_6 : code9 35 6 = some (0, .invokestatic 65, [3, 299, 2, 0, 0, 4, 17, 0], .null, []) := rfl
theorem cd35_9 : code9 35 9 = some (0, .aload_n 0, [1], .null, []) := rfl
theorem cd35_10 : code9 35 10 = some (0, .getfield 31, [3, 6, 6, 2], .null, []) := rfl
theorem cd35_13 : code9 35 13 = some (0, .iconst 1, [1], .int 1, []) := rfl
theorem cd35_14 : code9 35 14 = some (0, .invokestatic 65, [3, 299, 2, 0, 0, 4, 17, 0], .null, []) := rfl
theorem cd35_17 : code9 35 17 = some (0, .aload_n 0, [1], .null, []) := rfl
theorem cd35_18 : code9 35 18 = some (0, .getfield 34, [3, 6, 7, 2], .null, []) := rfl
theorem cd35_21 : code9 35 21 = some (0, .iconst 4, [1], .int 4, []) := rfl
theorem cd35_22 : code9 35 22 = some (0, .invokestatic 65, [3, 299, 2, 0, 0, 4, 17, 0], .null, []) := rfl
theorem cd35_25 : code9 35 25 = some (0, .aload_n 0, [1], .null, []) := rfl
theorem cd35_26 : code9 35 26 = some (0, .iconst 4, [1], .int 4, []) := rfl
theorem cd35_27 : code9 35 27 = some (0, .putfield 37, [3, 6, 8, 0], .null, []) := rfl
theorem cd35_30 : code9 35 30 = some (0, .aload_n 0, [1], .null, []) := rfl
theorem cd35_31 : code9 35 31 = some (0, .iconst 4, [1], .int 4, []) := rfl
theorem cd35_32 : code9 35 32 = some (0, .putfield 41, [3, 6, 9, 0], .null, []) := rfl
theorem cd35_35 : code9 35 35 = some (0, .aload_n 0, [1], .null, []) := rfl
theorem cd35_36 : code9 35 36 = some (0, .iconst 3, [1], .int 3, []) := rfl
theorem cd35_37 : code9 35 37 = some (0, .putfield 44, [3, 6, 10, 0], .null, []) := rfl
theorem cd35_40 : code9 35 40 = some (0, .aload_n 0, [1], .null, []) := rfl
theorem cd35_41 : code9 35 41 = some (0, .iconst 0, [1], .int 0, []) := rfl
theorem cd35_42 : code9 35 42 = some (0, .putfield 47, [3, 6, 11, 0], .null, []) := rfl
theorem cd35_45 : code9 35 45 = some (0, .aload_n 0, [1], .null, []) := rfl
theorem cd35_46 : code9 35 46 = some (0, .iconst 0, [1], .int 0, []) := rfl
theorem cd35_47 : code9 35 47 = some (0, .putfield 50, [3, 6, 12, 0], .null, []) := rfl
theorem cd35_50 : code9 35 50 = some (0, .aload_n 0, [1], .null, []) := rfl
theorem cd35_51 : code9 35 51 = some (0, .iconst 0, [1], .int 0, []) := rfl
theorem cd35_52 : code9 35 52 = some (0, .putfield 53, [3, 6, 13, 0], .null, []) := rfl
theorem cd35_55 : code9 35 55 = some (0, .aload_n 0, [1], .null, []) := rfl
theorem cd35_56 : code9 35 56 = some (0, .iconst 0, [1], .int 0, []) := rfl
theorem cd35_57 : code9 35 57 = some (0, .putfield 56, [3, 6, 14, 0], .null, []) := rfl
theorem cd35_60 : code9 35 60 = some (0, .aload_n 0, [1], .null, []) := rfl
theorem cd35_61 : code9 35 61 = some (0, .iconst 0, [1], .int 0, []) := rfl
theorem cd35_62 : code9 35 62 = some (0, .putfield 59, [3, 6, 15, 0], .null, []) := rfl
theorem cd35_65 : code9 35 65 = some (0, .return_, [1], .null, []) := rfl
def Land_clear (N : Nat) (a0 : Nat) (I : FI) : Option (FI) := Option.bind (Arrays_fill N (a0 + 6) 12 6 I) fun x1 => (Option.bind (Arrays_fill N (a0 + 7) 3 1 x1) fun x2 => (Option.bind (Arrays_fill N (a0 + 8) 9 4 x2) fun x3 => (Option.bind (some (up2 x3 a0 8 (4 : Int32))) fun I4 => (Option.bind (some (up2 I4 a0 9 (4 : Int32))) fun I5 => (Option.bind (some (up2 I5 a0 10 (3 : Int32))) fun I6 => (Option.bind (some (up2 I6 a0 11 (0 : Int32))) fun I7 => (Option.bind (some (up2 I7 a0 12 (0 : Int32))) fun I8 => (Option.bind (some (up2 I8 a0 13 (0 : Int32))) fun I9 => (Option.bind (some (up2 I9 a0 14 (0 : Int32))) fun I10 => (Option.bind (some (up2 I10 a0 15 (0 : Int32))) fun I11 => (some I11)))))))))))
set_option maxRecDepth 8000 in
theorem t_Land_clear {d : Nat} {N : Nat} {a0 : Nat} {c : Nat × Nat} {S : Nat → Nat × Nat} {P : Nat → Nat → Option Nat} {I : FI} {J : FJ} {r : FI} (hd : 1 ≤ d) (h0 : O6 S P a0) (h : Land_clear N a0 I = some r) : Go d M_Land_clear 0 [some (.ref a0)] [] (c, S, I, J, P) (none, false, (c, S, r, J, P)) := by
  obtain ⟨d, rfl⟩ : ∃ e, d = e + 1 := ⟨d - 1, by omega⟩
  unfold Land_clear at h
  refine g_aload_n cd35_0 rfl rfl ?_
  refine g_getP cd35_1 rfl (O6.o h0) (show P a0 5 = some (a0 + 6) from O6.p5 h0) ?_
  refine g_bipush cd35_4 rfl ?_
  obtain ⟨x1, hx, h⟩ := bnd h
  refine g_callSV (L := [some (.ref (a0 + 6)), some (.int 6), none, none]) cd35_6 rfl rfl rfl rfl rfl (t_Arrays_fill (by omega) (show S (a0 + 6) = (1, 12) from O6.s5 h0) hx) ?_
  refine g_aload_n cd35_9 rfl rfl ?_
  refine g_getP cd35_10 rfl (O6.o h0) (show P a0 6 = some (a0 + 7) from O6.p6 h0) ?_
  refine g_iconst cd35_13 rfl ?_
  obtain ⟨x2, hx, h⟩ := bnd h
  refine g_callSV (L := [some (.ref (a0 + 7)), some (.int 1), none, none]) cd35_14 rfl rfl rfl rfl rfl (t_Arrays_fill (by omega) (show S (a0 + 7) = (1, 3) from O6.s6 h0) hx) ?_
  refine g_aload_n cd35_17 rfl rfl ?_
  refine g_getP cd35_18 rfl (O6.o h0) (show P a0 7 = some (a0 + 8) from O6.p7 h0) ?_
  refine g_iconst cd35_21 rfl ?_
  obtain ⟨x3, hx, h⟩ := bnd h
  refine g_callSV (L := [some (.ref (a0 + 8)), some (.int 4), none, none]) cd35_22 rfl rfl rfl rfl rfl (t_Arrays_fill (by omega) (show S (a0 + 8) = (1, 9) from O6.s7 h0) hx) ?_
  refine g_aload_n cd35_25 rfl rfl ?_
  refine g_iconst cd35_26 rfl ?_
  obtain ⟨I4, e1, h⟩ := bnd h
  refine G_putI cd35_27 rfl (O6.o h0) (Option.some.inj e1) ?_
  refine g_aload_n cd35_30 rfl rfl ?_
  refine g_iconst cd35_31 rfl ?_
  obtain ⟨I5, e1, h⟩ := bnd h
  refine G_putI cd35_32 rfl (O6.o h0) (Option.some.inj e1) ?_
  refine g_aload_n cd35_35 rfl rfl ?_
  refine g_iconst cd35_36 rfl ?_
  obtain ⟨I6, e1, h⟩ := bnd h
  refine G_putI cd35_37 rfl (O6.o h0) (Option.some.inj e1) ?_
  refine g_aload_n cd35_40 rfl rfl ?_
  refine g_iconst cd35_41 rfl ?_
  obtain ⟨I7, e1, h⟩ := bnd h
  refine G_putI cd35_42 rfl (O6.o h0) (Option.some.inj e1) ?_
  refine g_aload_n cd35_45 rfl rfl ?_
  refine g_iconst cd35_46 rfl ?_
  obtain ⟨I8, e1, h⟩ := bnd h
  refine G_putI cd35_47 rfl (O6.o h0) (Option.some.inj e1) ?_
  refine g_aload_n cd35_50 rfl rfl ?_
  refine g_iconst cd35_51 rfl ?_
  obtain ⟨I9, e1, h⟩ := bnd h
  refine G_putI cd35_52 rfl (O6.o h0) (Option.some.inj e1) ?_
  refine g_aload_n cd35_55 rfl rfl ?_
  refine g_iconst cd35_56 rfl ?_
  obtain ⟨I10, e1, h⟩ := bnd h
  refine G_putI cd35_57 rfl (O6.o h0) (Option.some.inj e1) ?_
  refine g_aload_n cd35_60 rfl rfl ?_
  refine g_iconst cd35_61 rfl ?_
  obtain ⟨I11, e1, h⟩ := bnd h
  refine G_putI cd35_62 rfl (O6.o h0) (Option.some.inj e1) ?_
  exact g_vret cd35_65 (by obtain rfl := Option.some.inj h; rfl)
/-! HiddenOrLost$Land.takeOnce(LHiddenOrLost$Tape;I)Z -/
theorem cd39_0 : code9 39 0 = some (0, .aload_n 0, [1], .null, []) := rfl
theorem cd39_1 : code9 39 1 = some (0, .getfield 59, [3, 6, 15, 0], .null, []) := rfl
theorem cd39_4 : code9 39 4 = some (0, .iload_n 2, [1], .null, []) := rfl
theorem cd39_5 : code9 39 5 = some (0, .ishr, [1], .null, []) := rfl
theorem cd39_6 : code9 39 6 = some (0, .iconst 1, [1], .int 1, []) := rfl
theorem cd39_7 : code9 39 7 = some (0, .iand, [1], .null, []) := rfl
theorem cd39_8 : code9 39 8 = some (0, .iconst 1, [1], .int 1, []) := rfl
theorem cd39_9 : code9 39 9 = some (0, .if_icmp .ne 9, [3, 18], .null, []) := rfl
theorem cd39_12 : code9 39 12 = some (0, .aload_n 1, [1], .null, []) := rfl
theorem cd39_13 : code9 39 13 = some (0, .iconst 3, [1], .int 3, []) := rfl
theorem cd39_14 : code9 39 14 = some (0, .invokevirtual 106, [3, 116, 2, 1, 3, 2, 10, 0], .null, []) := rfl
theorem cd39_17 : code9 39 17 = some (0, .ireturn, [1, 3], .null, []) := rfl
theorem cd39_18 : code9 39 18 = some (0, .aload_n 0, [1], .null, []) := rfl
theorem cd39_19 : code9 39 19 = some (0, .dup, [1], .null, []) := rfl
theorem cd39_20 : code9 39 20 = some (0, .getfield 59, [3, 6, 15, 0], .null, []) := rfl
theorem cd39_23 : code9 39 23 = some (0, .iconst 1, [1], .int 1, []) := rfl
theorem cd39_24 : code9 39 24 = some (0, .iload_n 2, [1], .null, []) := rfl
theorem cd39_25 : code9 39 25 = some (0, .ishl, [1], .null, []) := rfl
theorem cd39_26 : code9 39 26 = some (0, .ior, [1], .null, []) := rfl
theorem cd39_27 : code9 39 27 = some (0, .putfield 59, [3, 6, 15, 0], .null, []) := rfl
theorem cd39_30 : code9 39 30 = some (0, .aload_n 1, [1], .null, []) := rfl
theorem cd39_31 : code9 39 31 = some (0, .invokevirtual 134, [3, 114, 1, 1, 0, 1, 10, 0], .null, []) := rfl
theorem cd39_34 : code9 39 34 = some (0, .iconst 1, [1], .int 1, []) := rfl
theorem cd39_35 : code9 39 35 = some (0, .ireturn, [1, 3], .null, []) := rfl
def Land_takeOnce (a0 a1 : Nat) (l2 : Int32) (I : FI) (J : FJ) : Option (Bool × FI × FJ) := if (((I a0 15) >>> (l2 &&& 31)) &&& 1) = 1 then (Option.bind (Tape_fail a1 3 I) fun x1 => (some (x1.1, x1.2, J))) else (Option.bind (some (up2 I a0 15 ((I a0 15) ||| (1 <<< (l2 &&& 31))))) fun I2 => (Option.bind (Tape_step a1 I2 J) fun x3 => (some (true, x3.1, x3.2))))
set_option maxRecDepth 8000 in
theorem t_Land_takeOnce {d : Nat} {a0 a1 : Nat} {c : Nat × Nat} {S : Nat → Nat × Nat} {P : Nat → Nat → Option Nat} {I : FI} {J : FJ} {l2 : Int32} {r : Bool × FI × FJ} (hd : 1 ≤ d) (h0 : O6 S P a0) (h1 : O10 S P a1) (h : Land_takeOnce a0 a1 l2 I J = some r) : Go d M_Land_takeOnce 0 [some (.ref a0), some (.ref a1), some (.int l2)] [] (c, S, I, J, P) (some (.int (b2i r.1)), false, (c, S, r.2.1, r.2.2, P)) := by
  obtain ⟨d, rfl⟩ : ∃ e, d = e + 1 := ⟨d - 1, by omega⟩
  unfold Land_takeOnce at h
  refine g_aload_n cd39_0 rfl rfl ?_
  refine g_getI cd39_1 rfl (O6.o h0) ?_
  refine g_iload_n cd39_4 rfl rfl ?_
  refine g_ishr cd39_5 rfl ?_
  refine g_iconst cd39_6 rfl ?_
  refine g_iand cd39_7 rfl ?_
  refine g_iconst cd39_8 rfl ?_
  refine g_icmp_ne cd39_9 rfl (fun hb => ?_) (fun hb => ?_)
  · have h := ifpE hb h
    refine g_aload_n cd39_12 rfl rfl ?_
    refine g_iconst cd39_13 rfl ?_
    obtain ⟨x1, hx, h⟩ := bnd h
    refine g_callVZ (L := [some (.ref a1), some (.int 3)]) cd39_14 rfl rfl rfl rfl rfl (O10.o h1) (t_Tape_fail (by omega) h1 hx) ?_
    exact g_iret cd39_17 (Or.inr ⟨rfl, b2i_or _⟩) (by obtain rfl := Option.some.inj h; rfl)
  · have h := ifnE hb h
    refine g_aload_n cd39_18 rfl rfl ?_
    refine g_dupR cd39_19 rfl ?_
    refine g_getI cd39_20 rfl (O6.o h0) ?_
    refine g_iconst cd39_23 rfl ?_
    refine g_iload_n cd39_24 rfl rfl ?_
    refine g_ishl cd39_25 rfl ?_
    refine g_ior cd39_26 rfl ?_
    obtain ⟨I2, e1, h⟩ := bnd h
    refine G_putI cd39_27 rfl (O6.o h0) (Option.some.inj e1) ?_
    refine g_aload_n cd39_30 rfl rfl ?_
    obtain ⟨x3, hx, h⟩ := bnd h
    refine g_callVV (L := [some (.ref a1)]) cd39_31 rfl rfl rfl rfl rfl (O10.o h1) (t_Tape_step (by omega) h1 hx) ?_
    refine g_iconst cd39_34 rfl ?_
    exact g_iret cd39_35 (Or.inr ⟨rfl, Or.inr rfl⟩) (by obtain rfl := Option.some.inj h; rfl)
/-! HiddenOrLost$Land.readSize(LHiddenOrLost$Tape;)Z -/
theorem cd38_0 : code9 38 0 = some (0, .aload_n 0, [1], .null, []) := rfl
theorem cd38_1 : code9 38 1 = some (0, .getfield 50, [3, 6, 12, 0], .null, []) := rfl
theorem cd38_4 : code9 38 4 = some (0, .ifCond .le 9, [3, 13], .null, []) := rfl
theorem cd38_7 : code9 38 7 = some (0, .aload_n 1, [1], .null, []) := rfl
theorem cd38_8 : code9 38 8 = some (0, .iconst 3, [1], .int 3, []) := rfl
theorem cd38_9 : code9 38 9 = some (0, .invokevirtual 106, [3, 116, 2, 1, 3, 2, 10, 0], .null, []) := rfl
theorem cd38_12 : code9 38 12 = some (0, .ireturn, [1, 3], .null, []) := rfl
theorem cd38_13 : code9 38 13 = some (0, .aload_n 0, [1], .null, []) := rfl
theorem cd38_14 : code9 38 14 = some (0, .aload_n 1, [1], .null, []) := rfl
theorem cd38_15 : code9 38 15 = some (0, .iconst 0, [1], .int 0, []) := rfl
theorem cd38_16 : code9 38 16 = some (0, .invokevirtual 137, [3, 39, 3, 1, 3, 3, 6, 0], .null, []) := rfl
theorem cd38_19 : code9 38 19 = some (0, .ifCond .eq 13, [3, 32], .null, []) := rfl
theorem cd38_22 : code9 38 22 = some (0, .aload_n 1, [1], .null, []) := rfl
theorem cd38_23 : code9 38 23 = some (0, .iconst 2, [1], .int 2, []) := rfl
theorem cd38_24 : code9 38 24 = some (0, .bipush 6, [2], .int 6, []) := rfl
theorem cd38_26 : code9 38 26 = some (0, .invokevirtual 141, [3, 117, 3, 1, 3, 3, 10, 0], .null, []) := rfl
theorem cd38_29 : code9 38 29 = some (0, .ifCond .ne 5, [3, 34], .null, []) := rfl
theorem cd38_32 : code9 38 32 = some (3, .iconst 0, [1], .int 0, []) := rfl
theorem cd38_33 : code9 38 33 = some (0, .ireturn, [1, 3], .null, []) := rfl
theorem cd38_34 : code9 38 34 = some (0, .aload_n 0, [1], .null, []) := rfl
theorem cd38_35 : code9 38 35 = some (0, .aload_n 1, [1], .null, []) := rfl
theorem cd38_36 : code9 38 36 = some (0, .getfield 144, [3, 10, 12, 0], .null, []) := rfl
theorem cd38_39 : code9 38 39 = some (0, .putfield 37, [3, 6, 8, 0], .null, []) := rfl
theorem cd38_42 : code9 38 42 = some (0, .aload_n 1, [1], .null, []) := rfl
theorem cd38_43 : code9 38 43 = some (0, .iconst 2, [1], .int 2, []) := rfl
theorem cd38_44 : code9 38 44 = some (0, .bipush 6, [2], .int 6, []) := rfl
theorem cd38_46 : code9 38 46 = some (0, .invokevirtual 141, [3, 117, 3, 1, 3, 3, 10, 0], .null, []) := rfl
theorem cd38_49 : code9 38 49 = some (0, .ifCond .ne 5, [3, 54], .null, []) := rfl
theorem cd38_52 : code9 38 52 = some (0, .iconst 0, [1], .int 0, []) := rfl
theorem cd38_53 : code9 38 53 = some (0, .ireturn, [1, 3], .null, []) := rfl
theorem cd38_54 : code9 38 54 = some (0, .aload_n 0, [1], .null, []) := rfl
theorem cd38_55 : code9 38 55 = some (0, .aload_n 1, [1], .null, []) := rfl
theorem cd38_56 : code9 38 56 = some (0, .getfield 144, [3, 10, 12, 0], .null, []) := rfl
theorem cd38_59 : code9 38 59 = some (0, .putfield 41, [3, 6, 9, 0], .null, []) := rfl
theorem cd38_62 : code9 38 62 = some (0, .iconst 1, [1], .int 1, []) := rfl
theorem cd38_63 : code9 38 63 = some (0, .ireturn, [1, 3], .null, []) := rfl
def Land_readSize (a0 a1 : Nat) (I : FI) (J : FJ) : Option (Bool × FI × FJ) := if (I a0 12) ≤ 0 then (Option.bind (Land_takeOnce a0 a1 0 I J) fun x1 => (if x1.1 then (Option.bind (Tape_takeNumber a1 2 6 x1.2.1 x1.2.2) fun x2 => (if x2.1 then (Option.bind (some (up2 x2.2.1 a0 8 (x2.2.1 a1 12))) fun I3 => (Option.bind (Tape_takeNumber a1 2 6 I3 x2.2.2) fun x4 => (if x4.1 then (Option.bind (some (up2 x4.2.1 a0 9 (x4.2.1 a1 12))) fun I5 => (some (true, I5, x4.2.2))) else (some (false, x4.2.1, x4.2.2))))) else (some (false, x2.2.1, x2.2.2)))) else (some (false, x1.2.1, x1.2.2)))) else (Option.bind (Tape_fail a1 3 I) fun x6 => (some (x6.1, x6.2, J)))
set_option maxRecDepth 8000 in
theorem t_Land_readSize {d : Nat} {a0 a1 : Nat} {c : Nat × Nat} {S : Nat → Nat × Nat} {P : Nat → Nat → Option Nat} {I : FI} {J : FJ} {r : Bool × FI × FJ} (hd : 2 ≤ d) (h0 : O6 S P a0) (h1 : O10 S P a1) (h : Land_readSize a0 a1 I J = some r) : Go d M_Land_readSize 0 [some (.ref a0), some (.ref a1)] [] (c, S, I, J, P) (some (.int (b2i r.1)), false, (c, S, r.2.1, r.2.2, P)) := by
  obtain ⟨d, rfl⟩ : ∃ e, d = e + 1 := ⟨d - 1, by omega⟩
  unfold Land_readSize at h
  refine g_aload_n cd38_0 rfl rfl ?_
  refine g_getI cd38_1 rfl (O6.o h0) ?_
  refine g_if_le cd38_4 rfl (fun hb => ?_) (fun hb => ?_)
  · have h := ifpE hb h
    refine g_aload_n cd38_13 rfl rfl ?_
    refine g_aload_n cd38_14 rfl rfl ?_
    refine g_iconst cd38_15 rfl ?_
    obtain ⟨x1, hx, h⟩ := bnd h
    refine g_callVZ (L := [some (.ref a0), some (.ref a1), some (.int 0)]) cd38_16 rfl rfl rfl rfl rfl (O6.o h0) (t_Land_takeOnce (by omega) h0 h1 hx) ?_
    refine g_if_eq cd38_19 rfl (fun hb => ?_) (fun hb => ?_)
    · have h := ifnE (b2i_f hb) h
      refine g_iconst cd38_32 rfl ?_
      exact g_iret cd38_33 (Or.inr ⟨rfl, Or.inl rfl⟩) (by obtain rfl := Option.some.inj h; rfl)
    · have h := ifpE (b2i_t hb) h
      refine g_aload_n cd38_22 rfl rfl ?_
      refine g_iconst cd38_23 rfl ?_
      refine g_bipush cd38_24 rfl ?_
      obtain ⟨x2, hx, h⟩ := bnd h
      refine g_callVZ (L := [some (.ref a1), some (.int 2), some (.int 6)]) cd38_26 rfl rfl rfl rfl rfl (O10.o h1) (t_Tape_takeNumber (by omega) h1 hx) ?_
      refine g_if_ne cd38_29 rfl (fun hb => ?_) (fun hb => ?_)
      · have h := ifnE (b2i_f hb) h
        refine g_iconst cd38_32 rfl ?_
        exact g_iret cd38_33 (Or.inr ⟨rfl, Or.inl rfl⟩) (by obtain rfl := Option.some.inj h; rfl)
      · have h := ifpE (b2i_t hb) h
        refine g_aload_n cd38_34 rfl rfl ?_
        refine g_aload_n cd38_35 rfl rfl ?_
        refine g_getI cd38_36 rfl (O10.o h1) ?_
        obtain ⟨I3, e1, h⟩ := bnd h
        refine G_putI cd38_39 rfl (O6.o h0) (Option.some.inj e1) ?_
        refine g_aload_n cd38_42 rfl rfl ?_
        refine g_iconst cd38_43 rfl ?_
        refine g_bipush cd38_44 rfl ?_
        obtain ⟨x4, hx, h⟩ := bnd h
        refine g_callVZ (L := [some (.ref a1), some (.int 2), some (.int 6)]) cd38_46 rfl rfl rfl rfl rfl (O10.o h1) (t_Tape_takeNumber (by omega) h1 hx) ?_
        refine g_if_ne cd38_49 rfl (fun hb => ?_) (fun hb => ?_)
        · have h := ifnE (b2i_f hb) h
          refine g_iconst cd38_52 rfl ?_
          exact g_iret cd38_53 (Or.inr ⟨rfl, Or.inl rfl⟩) (by obtain rfl := Option.some.inj h; rfl)
        · have h := ifpE (b2i_t hb) h
          refine g_aload_n cd38_54 rfl rfl ?_
          refine g_aload_n cd38_55 rfl rfl ?_
          refine g_getI cd38_56 rfl (O10.o h1) ?_
          obtain ⟨I5, e1, h⟩ := bnd h
          refine G_putI cd38_59 rfl (O6.o h0) (Option.some.inj e1) ?_
          refine g_iconst cd38_62 rfl ?_
          exact g_iret cd38_63 (Or.inr ⟨rfl, Or.inr rfl⟩) (by obtain rfl := Option.some.inj h; rfl)
  · have h := ifnE hb h
    refine g_aload_n cd38_7 rfl rfl ?_
    refine g_iconst cd38_8 rfl ?_
    obtain ⟨x6, hx, h⟩ := bnd h
    refine g_callVZ (L := [some (.ref a1), some (.int 3)]) cd38_9 rfl rfl rfl rfl rfl (O10.o h1) (t_Tape_fail (by omega) h1 hx) ?_
    exact g_iret cd38_12 (Or.inr ⟨rfl, b2i_or _⟩) (by obtain rfl := Option.some.inj h; rfl)
/-! HiddenOrLost$Land.reachNewName(LHiddenOrLost$Tape;Z)Z -/
theorem cd41_0 : code9 41 0 = some (0, .iload_n 2, [1], .null, []) := rfl
theorem cd41_1 : code9 41 1 = some (0, .ifCond .ne 9, [3, 10], .null, []) := rfl
theorem cd41_4 : code9 41 4 = some (0, .aload_n 1, [1], .null, []) := rfl
theorem cd41_5 : code9 41 5 = some (0, .iconst 4, [1], .int 4, []) := rfl
theorem cd41_6 : code9 41 6 = some (0, .invokevirtual 106, [3, 116, 2, 1, 3, 2, 10, 0], .null, []) := rfl
theorem cd41_9 : code9 41 9 = some (0, .ireturn, [1, 3], .null, []) := rfl
theorem cd41_10 : code9 41 10 = some (0, .aload_n 1, [1], .null, []) := rfl
theorem cd41_11 : code9 41 11 = some (0, .invokevirtual 134, [3, 114, 1, 1, 0, 1, 10, 0], .null, []) := rfl
theorem cd41_14 : code9 41 14 = some (0, .aload_n 1, [1], .null, []) := rfl
theorem cd41_15 : code9 41 15 = some (0, .invokevirtual 147, [3, 118, 1, 1, 3, 1, 10, 0], .null, []) := rfl
theorem cd41_18 : code9 41 18 = some (0, .ifCond .ne 9, [3, 27], .null, []) := rfl
theorem cd41_21 : code9 41 21 = some (0, .aload_n 1, [1], .null, []) := rfl
theorem cd41_22 : code9 41 22 = some (0, .iconst 1, [1], .int 1, []) := rfl
theorem cd41_23 : code9 41 23 = some (0, .invokevirtual 106, [3, 116, 2, 1, 3, 2, 10, 0], .null, []) := rfl
theorem cd41_26 : code9 41 26 = some (0, .ireturn, [1, 3], .null, []) := rfl
theorem cd41_27 : code9 41 27 = some (0, .aload_n 0, [1], .null, []) := rfl
theorem cd41_28 : code9 41 28 = some (0, .aload_n 1, [1], .null, []) := rfl
theorem cd41_29 : code9 41 29 = some (0, .getfield 151, [3, 10, 10, 1], .null, []) := rfl
theorem cd41_32 : code9 41 32 = some (0, .invokevirtual 155, [3, 42, 2, 1, 1, 3, 6, 0], .null, []) := rfl
theorem cd41_35 : code9 41 35 = some (0, .ifCond .ge 32, [3, 67], .null, []) := rfl
theorem cd41_38 : code9 41 38 = some (0, .aload_n 0, [1], .null, []) := rfl
theorem cd41_39 : code9 41 39 = some (0, .aload_n 1, [1], .null, []) := rfl
theorem cd41_40 : code9 41 40 = some (0, .getfield 151, [3, 10, 10, 1], .null, []) := rfl
theorem cd41_43 : code9 41 43 = some (0, .invokevirtual 159, [3, 44, 2, 1, 1, 3, 6, 0], .null, []) := rfl
theorem cd41_46 : code9 41 46 = some (0, .ifCond .ge 21, [3, 67], .null, []) := rfl
theorem cd41_49 : code9 41 49 = some (0, .aload_n 0, [1], .null, []) := rfl
theorem cd41_50 : code9 41 50 = some (0, .getfield 18, [3, 6, 2, 2], .null, []) := rfl
theorem cd41_53 : code9 41 53 = some (0, .aload_n 0, [1], .null, []) := rfl
theorem cd41_54 : code9 41 54 = some (0, .getfield 53, [3, 6, 13, 0], .null, []) := rfl
theorem cd41_57 : code9 41 57 = some (0, .aload_n 1, [1], .null, []) := rfl
theorem cd41_58 : code9 41 58 = some (0, .getfield 151, [3, 10, 10, 1], .null, []) := rfl
theorem cd41_61 : code9 41 61 = some (0, .invokestatic 81, [3, 43, 3, 0, 1, 5, 6, 0], .null, []) := rfl
theorem cd41_64 : code9 41 64 = some (0, .ifCond .lt 7, [3, 71], .null, []) := rfl
theorem cd41_67 : code9 41 67 = some (4, .iconst 1, [1], .int 1, []) := rfl
theorem cd41_68 : code9 41 68 = some (0, .goto 4, [3, 72, 3], .null, []) := rfl
theorem cd41_71 : code9 41 71 = some (0, .iconst 0, [1], .int 0, []) := rfl
theorem cd41_72 : code9 41 72 = some (4, .istore_n 3, [1], .null, []) := rfl
theorem cd41_73 : code9 41 73 = some (0, .iload_n 3, [1], .null, []) := rfl
theorem cd41_74 : code9 41 74 = some (0, .ifCond .eq 11, [3, 85], .null, []) := rfl
theorem cd41_77 : code9 41 77 = some (0, .aload_n 1, [1], .null, []) := rfl
theorem cd41_78 : code9 41 78 = some (0, .iconst 3, [1], .int 3, []) := rfl
theorem cd41_79 : code9 41 79 = some (0, .invokevirtual 106, [3, 116, 2, 1, 3, 2, 10, 0], .null, []) := rfl
theorem cd41_82 : code9 41 82 = some (0, .ifCond .eq 7, [3, 89], .null, []) := rfl
theorem cd41_85 : code9 41 85 = some (5, .iconst 1, [1], .int 1, []) := rfl
theorem cd41_86 : code9 41 86 = some (0, .goto 4, [3, 90, 4], .null, []) := rfl
theorem cd41_89 : code9 41 89 = some (0, .iconst 0, [1], .int 0, []) := rfl
theorem cd41_90 : code9 41 90 = some (5, .ireturn, [1, 3], .null, []) := rfl
def Land_reachNewName (N : Nat) (a0 a1 : Nat) (b2 : Bool) (I : FI) (J : FJ) : Option (Bool × FI × FJ) := if b2 then (Option.bind (Tape_step a1 I J) fun x2 => (if (Tape_isName a1 x2.1) then (Option.bind (Land_personNamed N a0 (x2.2 a1 10) x2.1 x2.2) fun x4 => (if 0 ≤ x4 then (Option.bind (Tape_fail a1 3 x2.1) fun x5 => (if x5.1 then (some (true, x5.2, x2.2)) else (some (false, x5.2, x2.2)))) else (Option.bind (Land_findNamed N a0 (x2.2 a1 10) x2.1 x2.2) fun x6 => (if 0 ≤ x6 then (Option.bind (Tape_fail a1 3 x2.1) fun x7 => (if x7.1 then (some (true, x7.2, x2.2)) else (some (false, x7.2, x2.2)))) else (Option.bind (Land_placeOf N (a0 + 3) 6 (x2.1 a0 13) (x2.2 a1 10) x2.2) fun x8 => (if x8 < 0 then (some (true, x2.1, x2.2)) else (Option.bind (Tape_fail a1 3 x2.1) fun x9 => (if x9.1 then (some (true, x9.2, x2.2)) else (some (false, x9.2, x2.2)))))))))) else (Option.bind (Tape_fail a1 1 x2.1) fun x3 => (some (x3.1, x3.2, x2.2))))) else (Option.bind (Tape_fail a1 4 I) fun x1 => (some (x1.1, x1.2, J)))
set_option maxRecDepth 8000 in
theorem t_Land_reachNewName {d : Nat} {N : Nat} {a0 a1 : Nat} {c : Nat × Nat} {S : Nat → Nat × Nat} {P : Nat → Nat → Option Nat} {I : FI} {J : FJ} {b2 : Bool} {r : Bool × FI × FJ} (hd : 2 ≤ d) (h0 : O6 S P a0) (h1 : O10 S P a1) (h : Land_reachNewName N a0 a1 b2 I J = some r) : Go d M_Land_reachNewName 0 [some (.ref a0), some (.ref a1), some (.int (b2i b2)), none] [] (c, S, I, J, P) (some (.int (b2i r.1)), false, (c, S, r.2.1, r.2.2, P)) := by
  obtain ⟨d, rfl⟩ : ∃ e, d = e + 1 := ⟨d - 1, by omega⟩
  unfold Land_reachNewName at h
  refine g_iload_n cd41_0 rfl rfl ?_
  refine g_if_ne cd41_1 rfl (fun hb => ?_) (fun hb => ?_)
  · have h := ifnE (b2i_f hb) h
    refine g_aload_n cd41_4 rfl rfl ?_
    refine g_iconst cd41_5 rfl ?_
    obtain ⟨x1, hx, h⟩ := bnd h
    refine g_callVZ (L := [some (.ref a1), some (.int 4)]) cd41_6 rfl rfl rfl rfl rfl (O10.o h1) (t_Tape_fail (by omega) h1 hx) ?_
    exact g_iret cd41_9 (Or.inr ⟨rfl, b2i_or _⟩) (by obtain rfl := Option.some.inj h; rfl)
  · have h := ifpE (b2i_t hb) h
    refine g_aload_n cd41_10 rfl rfl ?_
    obtain ⟨x2, hx, h⟩ := bnd h
    refine g_callVV (L := [some (.ref a1)]) cd41_11 rfl rfl rfl rfl rfl (O10.o h1) (t_Tape_step (by omega) h1 hx) ?_
    refine g_aload_n cd41_14 rfl rfl ?_
    refine g_callVZ (L := [some (.ref a1)]) cd41_15 rfl rfl rfl rfl rfl (O10.o h1) (t_Tape_isName (by omega) h1 rfl) ?_
    refine g_if_ne cd41_18 rfl (fun hb => ?_) (fun hb => ?_)
    · have h := ifnE (b2i_f hb) h
      refine g_aload_n cd41_21 rfl rfl ?_
      refine g_iconst cd41_22 rfl ?_
      obtain ⟨x3, hx, h⟩ := bnd h
      refine g_callVZ (L := [some (.ref a1), some (.int 1)]) cd41_23 rfl rfl rfl rfl rfl (O10.o h1) (t_Tape_fail (by omega) h1 hx) ?_
      exact g_iret cd41_26 (Or.inr ⟨rfl, b2i_or _⟩) (by obtain rfl := Option.some.inj h; rfl)
    · have h := ifpE (b2i_t hb) h
      refine g_aload_n cd41_27 rfl rfl ?_
      refine g_aload_n cd41_28 rfl rfl ?_
      refine g_getJ cd41_29 rfl (O10.o h1) ?_
      obtain ⟨x4, hx, h⟩ := bnd h
      refine g_callVI (L := [some (.ref a0), some (.long (x2.2 a1 10)), none]) cd41_32 rfl rfl rfl rfl rfl (O6.o h0) (t_Land_personNamed (by omega) h0 hx) ?_
      refine g_if_ge cd41_35 rfl (fun hb => ?_) (fun hb => ?_)
      · have h := ifpE hb h
        refine g_iconst cd41_67 rfl ?_
        refine g_goto (ls2 := [some (.ref a0), some (.ref a1), some (.int (b2i b2)), none]) cd41_68 rfl rfl ?_
        refine g_istore_n (ls2 := [some (.ref a0), some (.ref a1), some (.int (b2i b2)), some (.int 1)]) cd41_72 rfl rfl ?_
        refine g_iload_n cd41_73 rfl rfl ?_
        refine g_if_eq cd41_74 rfl (fun hb => ?_) (fun hb => ?_)
        · exact absurd hb (by decide)
        refine g_aload_n cd41_77 rfl rfl ?_
        refine g_iconst cd41_78 rfl ?_
        obtain ⟨x5, hx, h⟩ := bnd h
        refine g_callVZ (L := [some (.ref a1), some (.int 3)]) cd41_79 rfl rfl rfl rfl rfl (O10.o h1) (t_Tape_fail (by omega) h1 hx) ?_
        refine g_if_eq cd41_82 rfl (fun hb => ?_) (fun hb => ?_)
        · have h := ifnE (b2i_f hb) h
          refine g_iconst cd41_89 rfl ?_
          exact g_iret cd41_90 (Or.inr ⟨rfl, Or.inl rfl⟩) (by obtain rfl := Option.some.inj h; rfl)
        · have h := ifpE (b2i_t hb) h
          refine g_iconst cd41_85 rfl ?_
          refine g_goto (ls2 := [some (.ref a0), some (.ref a1), some (.int (b2i b2)), some (.int 1)]) cd41_86 rfl rfl ?_
          exact g_iret cd41_90 (Or.inr ⟨rfl, Or.inr rfl⟩) (by obtain rfl := Option.some.inj h; rfl)
      · have h := ifnE hb h
        refine g_aload_n cd41_38 rfl rfl ?_
        refine g_aload_n cd41_39 rfl rfl ?_
        refine g_getJ cd41_40 rfl (O10.o h1) ?_
        obtain ⟨x6, hx, h⟩ := bnd h
        refine g_callVI (L := [some (.ref a0), some (.long (x2.2 a1 10)), none]) cd41_43 rfl rfl rfl rfl rfl (O6.o h0) (t_Land_findNamed (by omega) h0 hx) ?_
        refine g_if_ge cd41_46 rfl (fun hb => ?_) (fun hb => ?_)
        · have h := ifpE hb h
          refine g_iconst cd41_67 rfl ?_
          refine g_goto (ls2 := [some (.ref a0), some (.ref a1), some (.int (b2i b2)), none]) cd41_68 rfl rfl ?_
          refine g_istore_n (ls2 := [some (.ref a0), some (.ref a1), some (.int (b2i b2)), some (.int 1)]) cd41_72 rfl rfl ?_
          refine g_iload_n cd41_73 rfl rfl ?_
          refine g_if_eq cd41_74 rfl (fun hb => ?_) (fun hb => ?_)
          · exact absurd hb (by decide)
          refine g_aload_n cd41_77 rfl rfl ?_
          refine g_iconst cd41_78 rfl ?_
          obtain ⟨x7, hx, h⟩ := bnd h
          refine g_callVZ (L := [some (.ref a1), some (.int 3)]) cd41_79 rfl rfl rfl rfl rfl (O10.o h1) (t_Tape_fail (by omega) h1 hx) ?_
          refine g_if_eq cd41_82 rfl (fun hb => ?_) (fun hb => ?_)
          · have h := ifnE (b2i_f hb) h
            refine g_iconst cd41_89 rfl ?_
            exact g_iret cd41_90 (Or.inr ⟨rfl, Or.inl rfl⟩) (by obtain rfl := Option.some.inj h; rfl)
          · have h := ifpE (b2i_t hb) h
            refine g_iconst cd41_85 rfl ?_
            refine g_goto (ls2 := [some (.ref a0), some (.ref a1), some (.int (b2i b2)), some (.int 1)]) cd41_86 rfl rfl ?_
            exact g_iret cd41_90 (Or.inr ⟨rfl, Or.inr rfl⟩) (by obtain rfl := Option.some.inj h; rfl)
        · have h := ifnE hb h
          refine g_aload_n cd41_49 rfl rfl ?_
          refine g_getP cd41_50 rfl (O6.o h0) (show P a0 2 = some (a0 + 3) from O6.p2 h0) ?_
          refine g_aload_n cd41_53 rfl rfl ?_
          refine g_getI cd41_54 rfl (O6.o h0) ?_
          refine g_aload_n cd41_57 rfl rfl ?_
          refine g_getJ cd41_58 rfl (O10.o h1) ?_
          obtain ⟨x8, hx, h⟩ := bnd h
          refine g_callSI (L := [some (.ref (a0 + 3)), some (.int (x2.1 a0 13)), some (.long (x2.2 a1 10)), none, none]) cd41_61 rfl rfl rfl rfl rfl (t_Land_placeOf (by omega) (show S (a0 + 3) = (4, 6) from O6.s2 h0) hx) ?_
          refine g_if_lt cd41_64 rfl (fun hb => ?_) (fun hb => ?_)
          · have h := ifpE hb h
            refine g_iconst cd41_71 rfl ?_
            refine g_istore_n (ls2 := [some (.ref a0), some (.ref a1), some (.int (b2i b2)), some (.int 0)]) cd41_72 rfl rfl ?_
            refine g_iload_n cd41_73 rfl rfl ?_
            refine g_if_eq cd41_74 rfl (fun hb => ?_) (fun hb => ?_)
            rotate_left
            · exact absurd (by decide) hb
            refine g_iconst cd41_85 rfl ?_
            refine g_goto (ls2 := [some (.ref a0), some (.ref a1), some (.int (b2i b2)), some (.int 0)]) cd41_86 rfl rfl ?_
            exact g_iret cd41_90 (Or.inr ⟨rfl, Or.inr rfl⟩) (by obtain rfl := Option.some.inj h; rfl)
          · have h := ifnE hb h
            refine g_iconst cd41_67 rfl ?_
            refine g_goto (ls2 := [some (.ref a0), some (.ref a1), some (.int (b2i b2)), none]) cd41_68 rfl rfl ?_
            refine g_istore_n (ls2 := [some (.ref a0), some (.ref a1), some (.int (b2i b2)), some (.int 1)]) cd41_72 rfl rfl ?_
            refine g_iload_n cd41_73 rfl rfl ?_
            refine g_if_eq cd41_74 rfl (fun hb => ?_) (fun hb => ?_)
            · exact absurd hb (by decide)
            refine g_aload_n cd41_77 rfl rfl ?_
            refine g_iconst cd41_78 rfl ?_
            obtain ⟨x9, hx, h⟩ := bnd h
            refine g_callVZ (L := [some (.ref a1), some (.int 3)]) cd41_79 rfl rfl rfl rfl rfl (O10.o h1) (t_Tape_fail (by omega) h1 hx) ?_
            refine g_if_eq cd41_82 rfl (fun hb => ?_) (fun hb => ?_)
            · have h := ifnE (b2i_f hb) h
              refine g_iconst cd41_89 rfl ?_
              exact g_iret cd41_90 (Or.inr ⟨rfl, Or.inl rfl⟩) (by obtain rfl := Option.some.inj h; rfl)
            · have h := ifpE (b2i_t hb) h
              refine g_iconst cd41_85 rfl ?_
              refine g_goto (ls2 := [some (.ref a0), some (.ref a1), some (.int (b2i b2)), some (.int 1)]) cd41_86 rfl rfl ?_
              exact g_iret cd41_90 (Or.inr ⟨rfl, Or.inr rfl⟩) (by obtain rfl := Option.some.inj h; rfl)
/-! HiddenOrLost$Land.readPerson(LHiddenOrLost$Tape;)Z -/
theorem cd40_0 : code9 40 0 = some (0, .aload_n 0, [1], .null, []) := rfl
theorem cd40_1 : code9 40 1 = some (0, .aload_n 1, [1], .null, []) := rfl
theorem cd40_2 : code9 40 2 = some (0, .aload_n 0, [1], .null, []) := rfl
theorem cd40_3 : code9 40 3 = some (0, .getfield 47, [3, 6, 11, 0], .null, []) := rfl
theorem cd40_6 : code9 40 6 = some (0, .bipush 6, [2], .int 6, []) := rfl
theorem cd40_8 : code9 40 8 = some (0, .if_icmp .ge 7, [3, 15], .null, []) := rfl
theorem cd40_11 : code9 40 11 = some (0, .iconst 1, [1], .int 1, []) := rfl
theorem cd40_12 : code9 40 12 = some (0, .goto 4, [3, 16, 2], .null, []) := rfl
theorem cd40_15 : code9 40 15 = some (0, .iconst 0, [1], .int 0, []) := rfl
theorem cd40_16 : code9 40 16 = some (3, .invokevirtual 162, [3, 41, 3, 1, 3, 4, 6, 0], .null, []) := rfl
theorem cd40_19 : code9 40 19 = some (0, .ifCond .ne 5, [3, 24], .null, []) := rfl
theorem cd40_22 : code9 40 22 = some (0, .iconst 0, [1], .int 0, []) := rfl
theorem cd40_23 : code9 40 23 = some (0, .ireturn, [1, 3], .null, []) := rfl
theorem cd40_24 : code9 40 24 = some (0, .aload_n 0, [1], .null, []) := rfl
theorem cd40_25 : code9 40 25 = some (0, .getfield 9, [3, 6, 0, 2], .null, []) := rfl
theorem cd40_28 : code9 40 28 = some (0, .aload_n 0, [1], .null, []) := rfl
theorem cd40_29 : code9 40 29 = some (0, .getfield 47, [3, 6, 11, 0], .null, []) := rfl
theorem cd40_32 : code9 40 32 = some (0, .aload_n 1, [1], .null, []) := rfl
theorem cd40_33 : code9 40 33 = some (0, .getfield 151, [3, 10, 10, 1], .null, []) := rfl
theorem cd40_36 : code9 40 36 = some (0, .lastore, [1], .null, []) := rfl
theorem cd40_37 : code9 40 37 = some (0, .aload_n 0, [1], .null, []) := rfl
theorem cd40_38 : code9 40 38 = some (0, .dup, [1], .null, []) := rfl
theorem cd40_39 : code9 40 39 = some (0, .getfield 47, [3, 6, 11, 0], .null, []) := rfl
theorem cd40_42 : code9 40 42 = some (0, .iconst 1, [1], .int 1, []) := rfl
theorem cd40_43 : code9 40 43 = some (0, .iadd, [1], .null, []) := rfl
theorem cd40_44 : code9 40 44 = some (0, .putfield 47, [3, 6, 11, 0], .null, []) := rfl
theorem cd40_47 : code9 40 47 = some (0, .aload_n 1, [1], .null, []) := rfl
theorem cd40_48 : code9 40 48 = some (0, .invokevirtual 134, [3, 114, 1, 1, 0, 1, 10, 0], .null, []) := rfl
theorem cd40_51 : code9 40 51 = some (0, .iconst 1, [1], .int 1, []) := rfl
theorem cd40_52 : code9 40 52 = some (0, .ireturn, [1, 3], .null, []) := rfl
def Land_readPerson (N : Nat) (a0 a1 : Nat) (I : FI) (J : FJ) : Option (Bool × FI × FJ) := if 6 ≤ (I a0 11) then (Option.bind (Land_reachNewName N a0 a1 false I J) fun x1 => (if x1.1 then (if in9 (x1.2.1 a0 11) 6 then (Option.bind (some (up2 x1.2.2 (a0 + 1) ((x1.2.1 a0 11).toNatClampNeg) (x1.2.2 a1 10))) fun J3 => (Option.bind (some (up2 x1.2.1 a0 11 ((x1.2.1 a0 11) + 1))) fun I4 => (Option.bind (Tape_step a1 I4 J3) fun x5 => (some (true, x5.1, x5.2))))) else none) else (some (false, x1.2.1, x1.2.2)))) else (Option.bind (Land_reachNewName N a0 a1 true I J) fun x6 => (if x6.1 then (if in9 (x6.2.1 a0 11) 6 then (Option.bind (some (up2 x6.2.2 (a0 + 1) ((x6.2.1 a0 11).toNatClampNeg) (x6.2.2 a1 10))) fun J8 => (Option.bind (some (up2 x6.2.1 a0 11 ((x6.2.1 a0 11) + 1))) fun I9 => (Option.bind (Tape_step a1 I9 J8) fun x10 => (some (true, x10.1, x10.2))))) else none) else (some (false, x6.2.1, x6.2.2))))
set_option maxRecDepth 8000 in
theorem t_Land_readPerson {d : Nat} {N : Nat} {a0 a1 : Nat} {c : Nat × Nat} {S : Nat → Nat × Nat} {P : Nat → Nat → Option Nat} {I : FI} {J : FJ} {r : Bool × FI × FJ} (hd : 3 ≤ d) (h0 : O6 S P a0) (h1 : O10 S P a1) (h : Land_readPerson N a0 a1 I J = some r) : Go d M_Land_readPerson 0 [some (.ref a0), some (.ref a1)] [] (c, S, I, J, P) (some (.int (b2i r.1)), false, (c, S, r.2.1, r.2.2, P)) := by
  obtain ⟨d, rfl⟩ : ∃ e, d = e + 1 := ⟨d - 1, by omega⟩
  unfold Land_readPerson at h
  refine g_aload_n cd40_0 rfl rfl ?_
  refine g_aload_n cd40_1 rfl rfl ?_
  refine g_aload_n cd40_2 rfl rfl ?_
  refine g_getI cd40_3 rfl (O6.o h0) ?_
  refine g_bipush cd40_6 rfl ?_
  refine g_icmp_ge cd40_8 rfl (fun hb => ?_) (fun hb => ?_)
  · have h := ifpE hb h
    refine g_iconst cd40_15 rfl ?_
    obtain ⟨x1, hx, h⟩ := bnd h
    refine g_callVZ (L := [some (.ref a0), some (.ref a1), some (.int 0), none]) cd40_16 rfl rfl rfl rfl rfl (O6.o h0) (t_Land_reachNewName (by omega) h0 h1 hx) ?_
    refine g_if_ne cd40_19 rfl (fun hb => ?_) (fun hb => ?_)
    · have h := ifnE (b2i_f hb) h
      refine g_iconst cd40_22 rfl ?_
      exact g_iret cd40_23 (Or.inr ⟨rfl, Or.inl rfl⟩) (by obtain rfl := Option.some.inj h; rfl)
    · have h := ifpE (b2i_t hb) h
      refine g_aload_n cd40_24 rfl rfl ?_
      refine g_getP cd40_25 rfl (O6.o h0) (show P a0 0 = some (a0 + 1) from O6.p0 h0) ?_
      refine g_aload_n cd40_28 rfl rfl ?_
      refine g_getI cd40_29 rfl (O6.o h0) ?_
      refine g_aload_n cd40_32 rfl rfl ?_
      refine g_getJ cd40_33 rfl (O10.o h1) ?_
      obtain ⟨hg2, h⟩ := grd h
      obtain ⟨J3, e1, h⟩ := bnd h
      refine G_last cd40_36 rfl (show S (a0 + 1) = (4, 6) from O6.s0 h0) hg2 (Option.some.inj e1) ?_
      refine g_aload_n cd40_37 rfl rfl ?_
      refine g_dupR cd40_38 rfl ?_
      refine g_getI cd40_39 rfl (O6.o h0) ?_
      refine g_iconst cd40_42 rfl ?_
      refine g_iadd cd40_43 rfl ?_
      obtain ⟨I4, e1, h⟩ := bnd h
      refine G_putI cd40_44 rfl (O6.o h0) (Option.some.inj e1) ?_
      refine g_aload_n cd40_47 rfl rfl ?_
      obtain ⟨x5, hx, h⟩ := bnd h
      refine g_callVV (L := [some (.ref a1)]) cd40_48 rfl rfl rfl rfl rfl (O10.o h1) (t_Tape_step (by omega) h1 hx) ?_
      refine g_iconst cd40_51 rfl ?_
      exact g_iret cd40_52 (Or.inr ⟨rfl, Or.inr rfl⟩) (by obtain rfl := Option.some.inj h; rfl)
  · have h := ifnE hb h
    refine g_iconst cd40_11 rfl ?_
    refine g_goto (ls2 := [some (.ref a0), some (.ref a1)]) cd40_12 rfl rfl ?_
    obtain ⟨x6, hx, h⟩ := bnd h
    refine g_callVZ (L := [some (.ref a0), some (.ref a1), some (.int 1), none]) cd40_16 rfl rfl rfl rfl rfl (O6.o h0) (t_Land_reachNewName (by omega) h0 h1 hx) ?_
    refine g_if_ne cd40_19 rfl (fun hb => ?_) (fun hb => ?_)
    · have h := ifnE (b2i_f hb) h
      refine g_iconst cd40_22 rfl ?_
      exact g_iret cd40_23 (Or.inr ⟨rfl, Or.inl rfl⟩) (by obtain rfl := Option.some.inj h; rfl)
    · have h := ifpE (b2i_t hb) h
      refine g_aload_n cd40_24 rfl rfl ?_
      refine g_getP cd40_25 rfl (O6.o h0) (show P a0 0 = some (a0 + 1) from O6.p0 h0) ?_
      refine g_aload_n cd40_28 rfl rfl ?_
      refine g_getI cd40_29 rfl (O6.o h0) ?_
      refine g_aload_n cd40_32 rfl rfl ?_
      refine g_getJ cd40_33 rfl (O10.o h1) ?_
      obtain ⟨hg7, h⟩ := grd h
      obtain ⟨J8, e1, h⟩ := bnd h
      refine G_last cd40_36 rfl (show S (a0 + 1) = (4, 6) from O6.s0 h0) hg7 (Option.some.inj e1) ?_
      refine g_aload_n cd40_37 rfl rfl ?_
      refine g_dupR cd40_38 rfl ?_
      refine g_getI cd40_39 rfl (O6.o h0) ?_
      refine g_iconst cd40_42 rfl ?_
      refine g_iadd cd40_43 rfl ?_
      obtain ⟨I9, e1, h⟩ := bnd h
      refine G_putI cd40_44 rfl (O6.o h0) (Option.some.inj e1) ?_
      refine g_aload_n cd40_47 rfl rfl ?_
      obtain ⟨x10, hx, h⟩ := bnd h
      refine g_callVV (L := [some (.ref a1)]) cd40_48 rfl rfl rfl rfl rfl (O10.o h1) (t_Tape_step (by omega) h1 hx) ?_
      refine g_iconst cd40_51 rfl ?_
      exact g_iret cd40_52 (Or.inr ⟨rfl, Or.inr rfl⟩) (by obtain rfl := Option.some.inj h; rfl)
/-! HiddenOrLost$Land.mostOf(I)I -/
theorem cd46_0 : code9 46 0 = some (0, .iload_n 1, [1], .null, []) := rfl
theorem cd46_1 : code9 46 1 = some (0, .tableswitch 52 1 4 #[31, 38, 45, 48], [31, 53], .null, [(1, 32), (2, 39), (3, 46), (4, 49)]) := rfl
theorem cd46_32 : code9 46 32 = some (0, .aload_n 0, [1], .null, []) := rfl
theorem cd46_33 : code9 46 33 = some (0, .getfield 37, [3, 6, 8, 0], .null, []) := rfl
theorem cd46_36 : code9 46 36 = some (0, .iconst 1, [1], .int 1, []) := rfl
theorem cd46_37 : code9 46 37 = some (0, .isub, [1], .null, []) := rfl
theorem cd46_38 : code9 46 38 = some (0, .ireturn, [1, 1], .null, []) := rfl
theorem cd46_39 : code9 46 39 = some (0, .aload_n 0, [1], .null, []) := rfl
theorem cd46_40 : code9 46 40 = some (0, .getfield 41, [3, 6, 9, 0], .null, []) := rfl
theorem cd46_43 : code9 46 43 = some (0, .iconst 1, [1], .int 1, []) := rfl
theorem cd46_44 : code9 46 44 = some (0, .isub, [1], .null, []) := rfl
theorem cd46_45 : code9 46 45 = some (0, .ireturn, [1, 1], .null, []) := rfl
theorem cd46_46 : code9 46 46 = some (0, .bipush 9, [2], .int 9, []) := rfl
theorem cd46_48 : code9 46 48 = some (0, .ireturn, [1, 1], .null, []) := rfl
theorem cd46_49 : code9 46 49 = some (0, .sipush 999, [3], .int 999, []) := rfl
theorem cd46_52 : code9 46 52 = some (0, .ireturn, [1, 1], .null, []) := rfl
theorem cd46_53 : code9 46 53 = some (0, .bipush 99, [2], .int 99, []) := rfl
theorem cd46_55 : code9 46 55 = some (0, .ireturn, [1, 1], .null, []) := rfl
def Land_mostOf (a0 : Nat) (l1 : Int32) (I : FI) : Int32 := if l1 = 1 then ((I a0 8) - 1) else (if l1 = 2 then ((I a0 9) - 1) else (if l1 = 3 then (9) else (if l1 = 4 then (999) else (99))))
set_option maxRecDepth 8000 in
theorem t_Land_mostOf {d : Nat} {a0 : Nat} {c : Nat × Nat} {S : Nat → Nat × Nat} {P : Nat → Nat → Option Nat} {I : FI} {J : FJ} {l1 : Int32} {r : Int32} (hd : 0 ≤ d) (h0 : O6 S P a0) (h : Land_mostOf a0 l1 I = r) : Go d M_Land_mostOf 0 [some (.ref a0), some (.int l1)] [] (c, S, I, J, P) (some (.int r), false, (c, S, I, J, P)) := by
  unfold Land_mostOf at h
  refine g_iload_n cd46_0 rfl rfl ?_
  refine g_tableswitch cd46_1 rfl ?_
  refine ifi (fun hb => ?_) (fun hb => ?_)
  · have h := ifpE hb h
    show Go _ _ 32 [some (.ref a0), some (.int l1)] [] _ _
    refine g_aload_n cd46_32 rfl rfl ?_
    refine g_getI cd46_33 rfl (O6.o h0) ?_
    refine g_iconst cd46_36 rfl ?_
    refine g_isub cd46_37 rfl ?_
    exact g_iret cd46_38 (Or.inl rfl) (by subst h; rfl)
  have h := ifnE hb h
  refine ifi (fun hb => ?_) (fun hb => ?_)
  · have h := ifpE hb h
    show Go _ _ 39 [some (.ref a0), some (.int l1)] [] _ _
    refine g_aload_n cd46_39 rfl rfl ?_
    refine g_getI cd46_40 rfl (O6.o h0) ?_
    refine g_iconst cd46_43 rfl ?_
    refine g_isub cd46_44 rfl ?_
    exact g_iret cd46_45 (Or.inl rfl) (by subst h; rfl)
  have h := ifnE hb h
  refine ifi (fun hb => ?_) (fun hb => ?_)
  · have h := ifpE hb h
    show Go _ _ 46 [some (.ref a0), some (.int l1)] [] _ _
    refine g_bipush cd46_46 rfl ?_
    exact g_iret cd46_48 (Or.inl rfl) (by subst h; rfl)
  have h := ifnE hb h
  refine ifi (fun hb => ?_) (fun hb => ?_)
  · have h := ifpE hb h
    show Go _ _ 49 [some (.ref a0), some (.int l1)] [] _ _
    refine g_sipush cd46_49 rfl ?_
    exact g_iret cd46_52 (Or.inl rfl) (by subst h; rfl)
  have h := ifnE hb h
  show Go _ _ 53 [some (.ref a0), some (.int l1)] [] _ _
  refine g_bipush cd46_53 rfl ?_
  exact g_iret cd46_55 (Or.inl rfl) (by subst h; rfl)
/-! HiddenOrLost$Land.readFind(LHiddenOrLost$Tape;)Z -/
theorem cd45_0 : code9 45 0 = some (0, .aload_n 0, [1], .null, []) := rfl
theorem cd45_1 : code9 45 1 = some (0, .aload_n 1, [1], .null, []) := rfl
theorem cd45_2 : code9 45 2 = some (0, .aload_n 0, [1], .null, []) := rfl
theorem cd45_3 : code9 45 3 = some (0, .getfield 50, [3, 6, 12, 0], .null, []) := rfl
theorem cd45_6 : code9 45 6 = some (0, .bipush 10, [2], .int 10, []) := rfl
theorem cd45_8 : code9 45 8 = some (0, .if_icmp .ge 7, [3, 15], .null, []) := rfl
theorem cd45_11 : code9 45 11 = some (0, .iconst 1, [1], .int 1, []) := rfl
theorem cd45_12 : code9 45 12 = some (0, .goto 4, [3, 16, 2], .null, []) := rfl
theorem cd45_15 : code9 45 15 = some (0, .iconst 0, [1], .int 0, []) := rfl
theorem cd45_16 : code9 45 16 = some (3, .invokevirtual 162, [3, 41, 3, 1, 3, 4, 6, 0], .null, []) := rfl
theorem cd45_19 : code9 45 19 = some (0, .ifCond .ne 5, [3, 24], .null, []) := rfl
theorem cd45_22 : code9 45 22 = some (0, .iconst 0, [1], .int 0, []) := rfl
theorem cd45_23 : code9 45 23 = some (0, .ireturn, [1, 3], .null, []) := rfl
theorem cd45_24 : code9 45 24 = some (0, .aload_n 0, [1], .null, []) := rfl
theorem cd45_25 : code9 45 25 = some (0, .getfield 50, [3, 6, 12, 0], .null, []) := rfl
theorem cd45_28 : code9 45 28 = some (0, .bipush 6, [2], .int 6, []) := rfl
theorem cd45_30 : code9 45 30 = some (0, .imul, [1], .null, []) := rfl
theorem cd45_31 : code9 45 31 = some (0, .istore_n 2, [1], .null, []) := rfl
theorem cd45_32 : code9 45 32 = some (0, .aload_n 0, [1], .null, []) := rfl
theorem cd45_33 : code9 45 33 = some (0, .getfield 15, [3, 6, 1, 2], .null, []) := rfl
theorem cd45_36 : code9 45 36 = some (0, .aload_n 0, [1], .null, []) := rfl
theorem cd45_37 : code9 45 37 = some (0, .getfield 50, [3, 6, 12, 0], .null, []) := rfl
theorem cd45_40 : code9 45 40 = some (0, .aload_n 1, [1], .null, []) := rfl
theorem cd45_41 : code9 45 41 = some (0, .getfield 151, [3, 10, 10, 1], .null, []) := rfl
theorem cd45_44 : code9 45 44 = some (0, .lastore, [1], .null, []) := rfl
theorem cd45_45 : code9 45 45 = some (0, .aload_n 1, [1], .null, []) := rfl
theorem cd45_46 : code9 45 46 = some (0, .invokevirtual 134, [3, 114, 1, 1, 0, 1, 10, 0], .null, []) := rfl
theorem cd45_49 : code9 45 49 = some (0, .aload_n 1, [1], .null, []) := rfl
theorem cd45_50 : code9 45 50 = some (0, .bipush 8, [2], .int 8, []) := rfl
theorem cd45_52 : code9 45 52 = some (0, .iconst 4, [1], .int 4, []) := rfl
theorem cd45_53 : code9 45 53 = some (0, .invokevirtual 166, [3, 119, 3, 1, 3, 3, 10, 0], .null, []) := rfl
theorem cd45_56 : code9 45 56 = some (0, .ifCond .ne 5, [3, 61], .null, []) := rfl
theorem cd45_59 : code9 45 59 = some (0, .iconst 0, [1], .int 0, []) := rfl
theorem cd45_60 : code9 45 60 = some (0, .ireturn, [1, 3], .null, []) := rfl
theorem cd45_61 : code9 45 61 = some (0, .aload_n 0, [1], .null, []) := rfl
theorem cd45_62 : code9 45 62 = some (0, .getfield 21, [3, 6, 3, 2], .null, []) := rfl
theorem cd45_65 : code9 45 65 = some (0, .iload_n 2, [1], .null, []) := rfl
theorem cd45_66 : code9 45 66 = some (0, .aload_n 1, [1], .null, []) := rfl
theorem cd45_67 : code9 45 67 = some (0, .getfield 144, [3, 10, 12, 0], .null, []) := rfl
theorem cd45_70 : code9 45 70 = some (0, .iastore, [1], .null, []) := rfl
theorem cd45_71 : code9 45 71 = some (0, .iconst 1, [1], .int 1, []) := rfl
theorem cd45_72 : code9 45 72 = some (0, .istore_n 3, [1], .null, []) := rfl
theorem cd45_73 : code9 45 73 = some (5, .iload_n 3, [1], .null, []) := rfl
theorem cd45_74 : code9 45 74 = some (0, .bipush 6, [2], .int 6, []) := rfl
theorem cd45_76 : code9 45 76 = some (0, .if_icmp .ge 36, [3, 112], .null, []) := rfl
theorem cd45_79 : code9 45 79 = some (0, .aload_n 1, [1], .null, []) := rfl
theorem cd45_80 : code9 45 80 = some (0, .iconst 0, [1], .int 0, []) := rfl
theorem cd45_81 : code9 45 81 = some (0, .aload_n 0, [1], .null, []) := rfl
theorem cd45_82 : code9 45 82 = some (0, .iload_n 3, [1], .null, []) := rfl
theorem cd45_83 : code9 45 83 = some (0, .invokevirtual 169, [3, 46, 2, 1, 1, 2, 6, 0], .null, []) := rfl
theorem cd45_86 : code9 45 86 = some (0, .invokevirtual 141, [3, 117, 3, 1, 3, 3, 10, 0], .null, []) := rfl
theorem cd45_89 : code9 45 89 = some (0, .ifCond .ne 5, [3, 94], .null, []) := rfl
theorem cd45_92 : code9 45 92 = some (0, .iconst 0, [1], .int 0, []) := rfl
theorem cd45_93 : code9 45 93 = some (0, .ireturn, [1, 3], .null, []) := rfl
theorem cd45_94 : code9 45 94 = some (0, .aload_n 0, [1], .null, []) := rfl
theorem cd45_95 : code9 45 95 = some (0, .getfield 21, [3, 6, 3, 2], .null, []) := rfl
theorem cd45_98 : code9 45 98 = some (0, .iload_n 2, [1], .null, []) := rfl
theorem cd45_99 : code9 45 99 = some (0, .iload_n 3, [1], .null, []) := rfl
theorem cd45_100 : code9 45 100 = some (0, .iadd, [1], .null, []) := rfl
theorem cd45_101 : code9 45 101 = some (0, .aload_n 1, [1], .null, []) := rfl
theorem cd45_102 : code9 45 102 = some (0, .getfield 144, [3, 10, 12, 0], .null, []) := rfl
theorem cd45_105 : code9 45 105 = some (0, .iastore, [1], .null, []) := rfl
theorem cd45_106 : code9 45 106 = some (0, .iinc 3 1, [3], .int 1, []) := rfl
theorem cd45_109 : code9 45 109 = some (0, .goto (-36), [3, 73, 4], .null, []) := rfl
theorem cd45_112 : code9 45 112 = some (0, .aload_n 0, [1], .null, []) := rfl
theorem cd45_113 : code9 45 113 = some (0, .dup, [1], .null, []) := rfl
theorem cd45_114 : code9 45 114 = some (0, .getfield 50, [3, 6, 12, 0], .null, []) := rfl
theorem cd45_117 : code9 45 117 = some (0, .iconst 1, [1], .int 1, []) := rfl
theorem cd45_118 : code9 45 118 = some (0, .iadd, [1], .null, []) := rfl
theorem cd45_119 : code9 45 119 = some (0, .putfield 50, [3, 6, 12, 0], .null, []) := rfl
theorem cd45_122 : code9 45 122 = some (0, .iconst 1, [1], .int 1, []) := rfl
theorem cd45_123 : code9 45 123 = some (0, .ireturn, [1, 3], .null, []) := rfl
def Land_readFind_73 (N : Nat) (a0 a1 : Nat) : Nat → Int32 → Int32 → FI → FJ → Option (Bool × FI × FJ)
  | 0 => fun _ _ _ _ => none
  | n + 1 => fun l2 l3 I J => if 6 ≤ l3 then (Option.bind (some (up2 I a0 12 ((I a0 12) + 1))) fun I8 => (some (true, I8, J))) else (Option.bind (Tape_takeNumber a1 0 (Land_mostOf a0 l3 I) I J) fun x9 => (if x9.1 then (if in9 (l2 + l3) 60 then (Option.bind (some (up2 x9.2.1 (a0 + 4) ((l2 + l3).toNatClampNeg) (x9.2.1 a1 12))) fun I11 => (Land_readFind_73 N a0 a1 n l2 (l3 + 1) I11 x9.2.2)) else none) else (some (false, x9.2.1, x9.2.2))))
def Land_readFind (N : Nat) (a0 a1 : Nat) (I : FI) (J : FJ) : Option (Bool × FI × FJ) := if 10 ≤ (I a0 12) then (Option.bind (Land_reachNewName N a0 a1 false I J) fun x1 => (if x1.1 then (if in9 (x1.2.1 a0 12) 10 then (Option.bind (some (up2 x1.2.2 (a0 + 2) ((x1.2.1 a0 12).toNatClampNeg) (x1.2.2 a1 10))) fun J3 => (Option.bind (Tape_step a1 x1.2.1 J3) fun x4 => (Option.bind (Tape_takeAmong a1 8 4 x4.1 x4.2) fun x5 => (if x5.1 then (if in9 ((x1.2.1 a0 12) * 6) 60 then (Option.bind (some (up2 x5.2.1 (a0 + 4) (((x1.2.1 a0 12) * 6).toNatClampNeg) (x5.2.1 a1 12))) fun I7 => (Land_readFind_73 N a0 a1 N ((x1.2.1 a0 12) * 6) 1 I7 x5.2.2)) else none) else (some (false, x5.2.1, x5.2.2)))))) else none) else (some (false, x1.2.1, x1.2.2)))) else (Option.bind (Land_reachNewName N a0 a1 true I J) fun x12 => (if x12.1 then (if in9 (x12.2.1 a0 12) 10 then (Option.bind (some (up2 x12.2.2 (a0 + 2) ((x12.2.1 a0 12).toNatClampNeg) (x12.2.2 a1 10))) fun J14 => (Option.bind (Tape_step a1 x12.2.1 J14) fun x15 => (Option.bind (Tape_takeAmong a1 8 4 x15.1 x15.2) fun x16 => (if x16.1 then (if in9 ((x12.2.1 a0 12) * 6) 60 then (Option.bind (some (up2 x16.2.1 (a0 + 4) (((x12.2.1 a0 12) * 6).toNatClampNeg) (x16.2.1 a1 12))) fun I18 => (Land_readFind_73 N a0 a1 N ((x12.2.1 a0 12) * 6) 1 I18 x16.2.2)) else none) else (some (false, x16.2.1, x16.2.2)))))) else none) else (some (false, x12.2.1, x12.2.2))))
set_option maxRecDepth 8000 in
theorem t_Land_readFind_73 {d : Nat} {N : Nat} {a0 a1 : Nat} {c : Nat × Nat} {S : Nat → Nat × Nat} {P : Nat → Nat → Option Nat} {r : Bool × FI × FJ} (hd : 3 ≤ (d + 1)) (h0 : O6 S P a0) (h1 : O10 S P a1) : ∀ (n : Nat) (l2 : Int32) (l3 : Int32) (I : FI) (J : FJ), Land_readFind_73 N a0 a1 n l2 l3 I J = some r → Go (d + 1) M_Land_readFind 73 [some (.ref a0), some (.ref a1), some (.int l2), some (.int l3)] [] (c, S, I, J, P) (some (.int (b2i r.1)), false, (c, S, r.2.1, r.2.2, P)) := by
  intro n
  induction n with
  | zero =>
    intro l2 l3 I J h
    cases h
  | succ n ih =>
    intro l2 l3 I J h
    unfold Land_readFind_73 at h
    refine g_iload_n cd45_73 rfl rfl ?_
    refine g_bipush cd45_74 rfl ?_
    refine g_icmp_ge cd45_76 rfl (fun hb => ?_) (fun hb => ?_)
    · have h := ifpE hb h
      refine g_aload_n cd45_112 rfl rfl ?_
      refine g_dupR cd45_113 rfl ?_
      refine g_getI cd45_114 rfl (O6.o h0) ?_
      refine g_iconst cd45_117 rfl ?_
      refine g_iadd cd45_118 rfl ?_
      obtain ⟨I8, e1, h⟩ := bnd h
      refine G_putI cd45_119 rfl (O6.o h0) (Option.some.inj e1) ?_
      refine g_iconst cd45_122 rfl ?_
      exact g_iret cd45_123 (Or.inr ⟨rfl, Or.inr rfl⟩) (by obtain rfl := Option.some.inj h; rfl)
    · have h := ifnE hb h
      refine g_aload_n cd45_79 rfl rfl ?_
      refine g_iconst cd45_80 rfl ?_
      refine g_aload_n cd45_81 rfl rfl ?_
      refine g_iload_n cd45_82 rfl rfl ?_
      refine g_callVI (L := [some (.ref a0), some (.int l3)]) cd45_83 rfl rfl rfl rfl rfl (O6.o h0) (t_Land_mostOf (by omega) h0 rfl) ?_
      obtain ⟨x9, hx, h⟩ := bnd h
      refine g_callVZ (L := [some (.ref a1), some (.int 0), some (.int (Land_mostOf a0 l3 I))]) cd45_86 rfl rfl rfl rfl rfl (O10.o h1) (t_Tape_takeNumber (by omega) h1 hx) ?_
      refine g_if_ne cd45_89 rfl (fun hb => ?_) (fun hb => ?_)
      · have h := ifnE (b2i_f hb) h
        refine g_iconst cd45_92 rfl ?_
        exact g_iret cd45_93 (Or.inr ⟨rfl, Or.inl rfl⟩) (by obtain rfl := Option.some.inj h; rfl)
      · have h := ifpE (b2i_t hb) h
        refine g_aload_n cd45_94 rfl rfl ?_
        refine g_getP cd45_95 rfl (O6.o h0) (show P a0 3 = some (a0 + 4) from O6.p3 h0) ?_
        refine g_iload_n cd45_98 rfl rfl ?_
        refine g_iload_n cd45_99 rfl rfl ?_
        refine g_iadd cd45_100 rfl ?_
        refine g_aload_n cd45_101 rfl rfl ?_
        refine g_getI cd45_102 rfl (O10.o h1) ?_
        obtain ⟨hg10, h⟩ := grd h
        obtain ⟨I11, e1, h⟩ := bnd h
        refine G_iast cd45_105 rfl (show S (a0 + 4) = (1, 60) from O6.s3 h0) hg10 (Option.some.inj e1) ?_
        refine g_iinc (ls2 := [some (.ref a0), some (.ref a1), some (.int l2), some (.int (l3 + 1))]) cd45_106 rfl rfl rfl ?_
        refine g_goto (ls2 := [some (.ref a0), some (.ref a1), some (.int l2), some (.int (l3 + 1))]) cd45_109 rfl rfl ?_
        exact ih l2 (l3 + 1) I11 x9.2.2 h
set_option maxRecDepth 8000 in
theorem t_Land_readFind {d : Nat} {N : Nat} {a0 a1 : Nat} {c : Nat × Nat} {S : Nat → Nat × Nat} {P : Nat → Nat → Option Nat} {I : FI} {J : FJ} {r : Bool × FI × FJ} (hd : 3 ≤ d) (h0 : O6 S P a0) (h1 : O10 S P a1) (h : Land_readFind N a0 a1 I J = some r) : Go d M_Land_readFind 0 [some (.ref a0), some (.ref a1), none, none] [] (c, S, I, J, P) (some (.int (b2i r.1)), false, (c, S, r.2.1, r.2.2, P)) := by
  obtain ⟨d, rfl⟩ : ∃ e, d = e + 1 := ⟨d - 1, by omega⟩
  unfold Land_readFind at h
  refine g_aload_n cd45_0 rfl rfl ?_
  refine g_aload_n cd45_1 rfl rfl ?_
  refine g_aload_n cd45_2 rfl rfl ?_
  refine g_getI cd45_3 rfl (O6.o h0) ?_
  refine g_bipush cd45_6 rfl ?_
  refine g_icmp_ge cd45_8 rfl (fun hb => ?_) (fun hb => ?_)
  · have h := ifpE hb h
    refine g_iconst cd45_15 rfl ?_
    obtain ⟨x1, hx, h⟩ := bnd h
    refine g_callVZ (L := [some (.ref a0), some (.ref a1), some (.int 0), none]) cd45_16 rfl rfl rfl rfl rfl (O6.o h0) (t_Land_reachNewName (by omega) h0 h1 hx) ?_
    refine g_if_ne cd45_19 rfl (fun hb => ?_) (fun hb => ?_)
    · have h := ifnE (b2i_f hb) h
      refine g_iconst cd45_22 rfl ?_
      exact g_iret cd45_23 (Or.inr ⟨rfl, Or.inl rfl⟩) (by obtain rfl := Option.some.inj h; rfl)
    · have h := ifpE (b2i_t hb) h
      refine g_aload_n cd45_24 rfl rfl ?_
      refine g_getI cd45_25 rfl (O6.o h0) ?_
      refine g_bipush cd45_28 rfl ?_
      refine g_imul cd45_30 rfl ?_
      refine g_istore_n (ls2 := [some (.ref a0), some (.ref a1), some (.int ((x1.2.1 a0 12) * 6)), none]) cd45_31 rfl rfl ?_
      refine g_aload_n cd45_32 rfl rfl ?_
      refine g_getP cd45_33 rfl (O6.o h0) (show P a0 1 = some (a0 + 2) from O6.p1 h0) ?_
      refine g_aload_n cd45_36 rfl rfl ?_
      refine g_getI cd45_37 rfl (O6.o h0) ?_
      refine g_aload_n cd45_40 rfl rfl ?_
      refine g_getJ cd45_41 rfl (O10.o h1) ?_
      obtain ⟨hg2, h⟩ := grd h
      obtain ⟨J3, e1, h⟩ := bnd h
      refine G_last cd45_44 rfl (show S (a0 + 2) = (4, 10) from O6.s1 h0) hg2 (Option.some.inj e1) ?_
      refine g_aload_n cd45_45 rfl rfl ?_
      obtain ⟨x4, hx, h⟩ := bnd h
      refine g_callVV (L := [some (.ref a1)]) cd45_46 rfl rfl rfl rfl rfl (O10.o h1) (t_Tape_step (by omega) h1 hx) ?_
      refine g_aload_n cd45_49 rfl rfl ?_
      refine g_bipush cd45_50 rfl ?_
      refine g_iconst cd45_52 rfl ?_
      obtain ⟨x5, hx, h⟩ := bnd h
      refine g_callVZ (L := [some (.ref a1), some (.int 8), some (.int 4)]) cd45_53 rfl rfl rfl rfl rfl (O10.o h1) (t_Tape_takeAmong (by omega) h1 hx) ?_
      refine g_if_ne cd45_56 rfl (fun hb => ?_) (fun hb => ?_)
      · have h := ifnE (b2i_f hb) h
        refine g_iconst cd45_59 rfl ?_
        exact g_iret cd45_60 (Or.inr ⟨rfl, Or.inl rfl⟩) (by obtain rfl := Option.some.inj h; rfl)
      · have h := ifpE (b2i_t hb) h
        refine g_aload_n cd45_61 rfl rfl ?_
        refine g_getP cd45_62 rfl (O6.o h0) (show P a0 3 = some (a0 + 4) from O6.p3 h0) ?_
        refine g_iload_n cd45_65 rfl rfl ?_
        refine g_aload_n cd45_66 rfl rfl ?_
        refine g_getI cd45_67 rfl (O10.o h1) ?_
        obtain ⟨hg6, h⟩ := grd h
        obtain ⟨I7, e1, h⟩ := bnd h
        refine G_iast cd45_70 rfl (show S (a0 + 4) = (1, 60) from O6.s3 h0) hg6 (Option.some.inj e1) ?_
        refine g_iconst cd45_71 rfl ?_
        refine g_istore_n (ls2 := [some (.ref a0), some (.ref a1), some (.int ((x1.2.1 a0 12) * 6)), some (.int 1)]) cd45_72 rfl rfl ?_
        exact t_Land_readFind_73 hd h0 h1 _ ((x1.2.1 a0 12) * 6) 1 I7 x5.2.2 h
  · have h := ifnE hb h
    refine g_iconst cd45_11 rfl ?_
    refine g_goto (ls2 := [some (.ref a0), some (.ref a1), none, none]) cd45_12 rfl rfl ?_
    obtain ⟨x12, hx, h⟩ := bnd h
    refine g_callVZ (L := [some (.ref a0), some (.ref a1), some (.int 1), none]) cd45_16 rfl rfl rfl rfl rfl (O6.o h0) (t_Land_reachNewName (by omega) h0 h1 hx) ?_
    refine g_if_ne cd45_19 rfl (fun hb => ?_) (fun hb => ?_)
    · have h := ifnE (b2i_f hb) h
      refine g_iconst cd45_22 rfl ?_
      exact g_iret cd45_23 (Or.inr ⟨rfl, Or.inl rfl⟩) (by obtain rfl := Option.some.inj h; rfl)
    · have h := ifpE (b2i_t hb) h
      refine g_aload_n cd45_24 rfl rfl ?_
      refine g_getI cd45_25 rfl (O6.o h0) ?_
      refine g_bipush cd45_28 rfl ?_
      refine g_imul cd45_30 rfl ?_
      refine g_istore_n (ls2 := [some (.ref a0), some (.ref a1), some (.int ((x12.2.1 a0 12) * 6)), none]) cd45_31 rfl rfl ?_
      refine g_aload_n cd45_32 rfl rfl ?_
      refine g_getP cd45_33 rfl (O6.o h0) (show P a0 1 = some (a0 + 2) from O6.p1 h0) ?_
      refine g_aload_n cd45_36 rfl rfl ?_
      refine g_getI cd45_37 rfl (O6.o h0) ?_
      refine g_aload_n cd45_40 rfl rfl ?_
      refine g_getJ cd45_41 rfl (O10.o h1) ?_
      obtain ⟨hg13, h⟩ := grd h
      obtain ⟨J14, e1, h⟩ := bnd h
      refine G_last cd45_44 rfl (show S (a0 + 2) = (4, 10) from O6.s1 h0) hg13 (Option.some.inj e1) ?_
      refine g_aload_n cd45_45 rfl rfl ?_
      obtain ⟨x15, hx, h⟩ := bnd h
      refine g_callVV (L := [some (.ref a1)]) cd45_46 rfl rfl rfl rfl rfl (O10.o h1) (t_Tape_step (by omega) h1 hx) ?_
      refine g_aload_n cd45_49 rfl rfl ?_
      refine g_bipush cd45_50 rfl ?_
      refine g_iconst cd45_52 rfl ?_
      obtain ⟨x16, hx, h⟩ := bnd h
      refine g_callVZ (L := [some (.ref a1), some (.int 8), some (.int 4)]) cd45_53 rfl rfl rfl rfl rfl (O10.o h1) (t_Tape_takeAmong (by omega) h1 hx) ?_
      refine g_if_ne cd45_56 rfl (fun hb => ?_) (fun hb => ?_)
      · have h := ifnE (b2i_f hb) h
        refine g_iconst cd45_59 rfl ?_
        exact g_iret cd45_60 (Or.inr ⟨rfl, Or.inl rfl⟩) (by obtain rfl := Option.some.inj h; rfl)
      · have h := ifpE (b2i_t hb) h
        refine g_aload_n cd45_61 rfl rfl ?_
        refine g_getP cd45_62 rfl (O6.o h0) (show P a0 3 = some (a0 + 4) from O6.p3 h0) ?_
        refine g_iload_n cd45_65 rfl rfl ?_
        refine g_aload_n cd45_66 rfl rfl ?_
        refine g_getI cd45_67 rfl (O10.o h1) ?_
        obtain ⟨hg17, h⟩ := grd h
        obtain ⟨I18, e1, h⟩ := bnd h
        refine G_iast cd45_70 rfl (show S (a0 + 4) = (1, 60) from O6.s3 h0) hg17 (Option.some.inj e1) ?_
        refine g_iconst cd45_71 rfl ?_
        refine g_istore_n (ls2 := [some (.ref a0), some (.ref a1), some (.int ((x12.2.1 a0 12) * 6)), some (.int 1)]) cd45_72 rfl rfl ?_
        exact t_Land_readFind_73 hd h0 h1 _ ((x12.2.1 a0 12) * 6) 1 I18 x16.2.2 h

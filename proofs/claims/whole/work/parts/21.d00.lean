/-! HiddenOrLost$Land.factOf(II)I -/
theorem cd51_0 : code9 51 0 = some (0, .iload_n 1, [1], .null, []) := rfl
theorem cd51_1 : code9 51 1 = some (0, .ifCond .lt 35, [3, 36], .null, []) := rfl
theorem cd51_4 : code9 51 4 = some (0, .iload_n 1, [1], .null, []) := rfl
theorem cd51_5 : code9 51 5 = some (0, .aload_n 0, [1], .null, []) := rfl
theorem cd51_6 : code9 51 6 = some (0, .getfield 50, [3, 6, 12, 0], .null, []) := rfl
theorem cd51_9 : code9 51 9 = some (0, .if_icmp .ge 27, [3, 36], .null, []) := rfl
theorem cd51_12 : code9 51 12 = some (0, .iload_n 2, [1], .null, []) := rfl
theorem cd51_13 : code9 51 13 = some (0, .ifCond .lt 23, [3, 36], .null, []) := rfl
theorem cd51_16 : code9 51 16 = some (0, .iload_n 2, [1], .null, []) := rfl
theorem cd51_17 : code9 51 17 = some (0, .bipush 6, [2], .int 6, []) := rfl
theorem cd51_19 : code9 51 19 = some (0, .if_icmp .ge 17, [3, 36], .null, []) := rfl
theorem cd51_22 : code9 51 22 = some (0, .aload_n 0, [1], .null, []) := rfl
theorem cd51_23 : code9 51 23 = some (0, .getfield 21, [3, 6, 3, 2], .null, []) := rfl
theorem cd51_26 : code9 51 26 = some (0, .iload_n 1, [1], .null, []) := rfl
theorem cd51_27 : code9 51 27 = some (0, .bipush 6, [2], .int 6, []) := rfl
theorem cd51_29 : code9 51 29 = some (0, .imul, [1], .null, []) := rfl
theorem cd51_30 : code9 51 30 = some (0, .iload_n 2, [1], .null, []) := rfl
theorem cd51_31 : code9 51 31 = some (0, .iadd, [1], .null, []) := rfl
theorem cd51_32 : code9 51 32 = some (0, .iaload, [1], .null, []) := rfl
theorem cd51_33 : code9 51 33 = some (0, .goto 4, [3, 37, 3], .null, []) := rfl
theorem cd51_36 : code9 51 36 = some (4, .iconst (-1), [1], .int (-1), []) := rfl
theorem cd51_37 : code9 51 37 = some (4, .ireturn, [1, 1], .null, []) := rfl
def Land_factOf (a0 : Nat) (l1 : Int32) (l2 : Int32) (I : FI) : Option (Int32) := if l1 < 0 then (some (-1)) else (if (I a0 12) ≤ l1 then (some (-1)) else (if l2 < 0 then (some (-1)) else (if 6 ≤ l2 then (some (-1)) else (if in9 ((l1 * 6) + l2) 60 then (some (I (a0 + 4) (((l1 * 6) + l2).toNatClampNeg))) else none))))
set_option maxRecDepth 8000 in
theorem t_Land_factOf {d : Nat} {a0 : Nat} {c : Nat × Nat} {S : Nat → Nat × Nat} {P : Nat → Nat → Option Nat} {I : FI} {J : FJ} {l1 : Int32} {l2 : Int32} {r : Int32} (hd : 0 ≤ d) (h0 : O6 S P a0) (h : Land_factOf a0 l1 l2 I = some r) : Go d M_Land_factOf 0 [some (.ref a0), some (.int l1), some (.int l2)] [] (c, S, I, J, P) (some (.int r), false, (c, S, I, J, P)) := by
  unfold Land_factOf at h
  refine g_iload_n cd51_0 rfl rfl ?_
  refine g_if_lt cd51_1 rfl (fun hb => ?_) (fun hb => ?_)
  · have h := ifpE hb h
    refine g_iconst cd51_36 rfl ?_
    exact g_iret cd51_37 (Or.inl rfl) (by obtain rfl := Option.some.inj h; rfl)
  · have h := ifnE hb h
    refine g_iload_n cd51_4 rfl rfl ?_
    refine g_aload_n cd51_5 rfl rfl ?_
    refine g_getI cd51_6 rfl (O6.o h0) ?_
    refine g_icmp_ge cd51_9 rfl (fun hb => ?_) (fun hb => ?_)
    · have h := ifpE hb h
      refine g_iconst cd51_36 rfl ?_
      exact g_iret cd51_37 (Or.inl rfl) (by obtain rfl := Option.some.inj h; rfl)
    · have h := ifnE hb h
      refine g_iload_n cd51_12 rfl rfl ?_
      refine g_if_lt cd51_13 rfl (fun hb => ?_) (fun hb => ?_)
      · have h := ifpE hb h
        refine g_iconst cd51_36 rfl ?_
        exact g_iret cd51_37 (Or.inl rfl) (by obtain rfl := Option.some.inj h; rfl)
      · have h := ifnE hb h
        refine g_iload_n cd51_16 rfl rfl ?_
        refine g_bipush cd51_17 rfl ?_
        refine g_icmp_ge cd51_19 rfl (fun hb => ?_) (fun hb => ?_)
        · have h := ifpE hb h
          refine g_iconst cd51_36 rfl ?_
          exact g_iret cd51_37 (Or.inl rfl) (by obtain rfl := Option.some.inj h; rfl)
        · have h := ifnE hb h
          refine g_aload_n cd51_22 rfl rfl ?_
          refine g_getP cd51_23 rfl (O6.o h0) (show P a0 3 = some (a0 + 4) from O6.p3 h0) ?_
          refine g_iload_n cd51_26 rfl rfl ?_
          refine g_bipush cd51_27 rfl ?_
          refine g_imul cd51_29 rfl ?_
          refine g_iload_n cd51_30 rfl rfl ?_
          refine g_iadd cd51_31 rfl ?_
          obtain ⟨hg1, h⟩ := grd h
          refine G_iald cd51_32 rfl (show S (a0 + 4) = (1, 60) from O6.s3 h0) hg1 ?_
          refine g_goto (ls2 := [some (.ref a0), some (.int l1), some (.int l2)]) cd51_33 rfl rfl ?_
          exact g_iret cd51_37 (Or.inl rfl) (by obtain rfl := Option.some.inj h; rfl)
/-! java/util/Arrays.fill([JJ)V -/
theorem cd300_0 : code9 300 0 = some (0, .iconst 0, [1], .int 0, []) := rfl
theorem cd300_1 : code9 300 1 = some (0, .istore_n 3, [1], .null, []) := rfl
theorem cd300_2 : code9 300 2 = some (0, .aload_n 0, [1], .null, []) := rfl
theorem cd300_3 : code9 300 3 = some (0, .arraylength, [1], .null, []) := rfl
theorem cd300_4 : code9 300 4 = some (0, .istore 4, [2], .null, []) := rfl
theorem cd300_6 : code9 300 6 = some (6, .iload_n 3, [1], .null, []) := rfl
theorem cd300_7 : code9 300 7 = some (0, .iload 4, [2], .null, []) := rfl
theorem cd300_9 : code9 300 9 = some (0, .if_icmp .ge 13, [3, 22], .null, []) := rfl
theorem cd300_12 : code9 300 12 = some (0, .aload_n 0, [1], .null, []) := rfl
theorem cd300_13 : code9 300 13 = some (0, .iload_n 3, [1], .null, []) := rfl
theorem cd300_14 : code9 300 14 = some (0, .lload_n 1, [1], .null, []) := rfl
theorem cd300_15 : code9 300 15 = some (0, .lastore, [1], .null, []) := rfl
theorem cd300_16 : code9 300 16 = some (0, .iinc 3 1, [3], .int 1, []) := rfl
theorem cd300_19 : code9 300 19 = some (0, .goto (-13), [3, 6, 5], .null, []) := rfl
theorem cd300_22 : code9 300 22 = some (0, .return_, [1], .null, []) := rfl
def Arrays_fill_JJV_6 (N : Nat) (a0 n0 : Nat) : Nat → Int64 → Int32 → Int32 → FJ → Option (FJ)
  | 0 => fun _ _ _ _ => none
  | n + 1 => fun l1 l3 l4 J => if l4 ≤ l3 then (some J) else (if in9 l3 n0 then (Option.bind (some (up2 J a0 l3.toNatClampNeg l1)) fun J2 => (Arrays_fill_JJV_6 N a0 n0 n l1 (l3 + 1) l4 J2)) else none)
def Arrays_fill_JJV (N : Nat) (a0 n0 : Nat) (l1 : Int64) (J : FJ) : Option (FJ) := Arrays_fill_JJV_6 N a0 n0 N l1 0 (Int32.ofNat n0) J
set_option maxRecDepth 8000 in
theorem t_Arrays_fill_JJV_6 {d : Nat} {N : Nat} {a0 n0 : Nat} {c : Nat × Nat} {S : Nat → Nat × Nat} {P : Nat → Nat → Option Nat} {r : FJ} (hd : 0 ≤ d) (h0 : S a0 = (4, n0)) : ∀ (n : Nat) (l1 : Int64) (l3 : Int32) (l4 : Int32) (I : FI) (J : FJ), Arrays_fill_JJV_6 N a0 n0 n l1 l3 l4 J = some r → Go d M_Arrays_fill_JJV 6 [some (.ref a0), some (.long l1), none, some (.int l3), some (.int l4)] [] (c, S, I, J, P) (none, false, (c, S, I, r, P)) := by
  intro n
  induction n with
  | zero =>
    intro l1 l3 l4 I J h
    cases h
  | succ n ih =>
    intro l1 l3 l4 I J h
    unfold Arrays_fill_JJV_6 at h
    refine g_iload_n cd300_6 rfl rfl ?_
    refine g_iload cd300_7 rfl rfl ?_
    refine g_icmp_ge cd300_9 rfl (fun hb => ?_) (fun hb => ?_)
    · have h := ifpE hb h
      exact g_vret cd300_22 (by obtain rfl := Option.some.inj h; rfl)
    · have h := ifnE hb h
      refine g_aload_n cd300_12 rfl rfl ?_
      refine g_iload_n cd300_13 rfl rfl ?_
      refine g_lload_n cd300_14 rfl rfl ?_
      obtain ⟨hg1, h⟩ := grd h
      obtain ⟨J2, e1, h⟩ := bnd h
      refine G_last cd300_15 rfl h0 hg1 (Option.some.inj e1) ?_
      refine g_iinc (ls2 := [some (.ref a0), some (.long l1), none, some (.int (l3 + 1)), some (.int l4)]) cd300_16 rfl rfl rfl ?_
      refine g_goto (ls2 := [some (.ref a0), some (.long l1), none, some (.int (l3 + 1)), some (.int l4)]) cd300_19 rfl rfl ?_
      exact ih l1 (l3 + 1) l4 I J2 h
set_option maxRecDepth 8000 in
theorem t_Arrays_fill_JJV {d : Nat} {N : Nat} {a0 n0 : Nat} {c : Nat × Nat} {S : Nat → Nat × Nat} {P : Nat → Nat → Option Nat} {I : FI} {J : FJ} {l1 : Int64} {r : FJ} (hd : 0 ≤ d) (h0 : S a0 = (4, n0)) (h : Arrays_fill_JJV N a0 n0 l1 J = some r) : Go d M_Arrays_fill_JJV 0 [some (.ref a0), some (.long l1), none, none, none] [] (c, S, I, J, P) (none, false, (c, S, I, r, P)) := by
  unfold Arrays_fill_JJV at h
  refine g_iconst cd300_0 rfl ?_
  refine g_istore_n (ls2 := [some (.ref a0), some (.long l1), none, some (.int 0), none]) cd300_1 rfl rfl ?_
  refine g_aload_n cd300_2 rfl rfl ?_
  refine G_alen cd300_3 rfl h0 (by decide) ?_
  refine g_istore (ls2 := [some (.ref a0), some (.long l1), none, some (.int 0), some (.int (Int32.ofNat n0))]) cd300_4 rfl rfl ?_
  exact t_Arrays_fill_JJV_6 hd h0 _ l1 0 (Int32.ofNat n0) I J h
/-! HiddenOrLost$Beliefs.weigh(LHiddenOrLost$Land;LHiddenOrLost$State;I)V -/
theorem cd1_0 : code9 1 0 = some (0, .aload_n 0, [1], .null, []) := rfl
theorem cd1_1 : code9 1 1 = some (0, .lconst 0, [1], .long 0, []) := rfl
theorem cd1_2 : code9 1 2 = some (0, .putfield 15, [3, 0, 1, 1], .null, []) := rfl
theorem cd1_5 : code9 1 5 = some (0, .iconst 0, [1], .int 0, []) := rfl
theorem cd1_6 : code9 1 6 = some (0, .istore 4, [2], .null, []) := rfl
theorem cd1_8 : code9 1 8 = some (6, .iload 4, [2], .null, []) := rfl
theorem cd1_10 : code9 1 10 = some (0, .iconst 3, [1], .int 3, []) := rfl
theorem cd1_11 : code9 1 11 = some (0, .if_icmp .ge 97, [3, 108], .null, []) := rfl
theorem cd1_14 : code9 1 14 = some (0, .aload_n 1, [1], .null, []) := rfl
theorem cd1_15 : code9 1 15 = some (0, .getfield 19, [3, 6, 6, 2], .null, []) := rfl
theorem cd1_18 : code9 1 18 = some (0, .iload 4, [2], .null, []) := rfl
theorem cd1_20 : code9 1 20 = some (0, .iaload, [1], .null, []) := rfl
theorem cd1_21 : code9 1 21 = some (0, .i2l, [1], .null, []) := rfl
theorem cd1_22 : code9 1 22 = some (0, .lstore 5, [2], .null, []) := rfl
theorem cd1_24 : code9 1 24 = some (0, .iconst 0, [1], .int 0, []) := rfl
theorem cd1_25 : code9 1 25 = some (0, .istore 7, [2], .null, []) := rfl
theorem cd1_27 : code9 1 27 = some (9, .iload 7, [2], .null, []) := rfl
theorem cd1_29 : code9 1 29 = some (0, .aload_n 1, [1], .null, []) := rfl
theorem cd1_30 : code9 1 30 = some (0, .getfield 25, [3, 6, 12, 0], .null, []) := rfl
theorem cd1_33 : code9 1 33 = some (0, .if_icmp .ge 49, [3, 82], .null, []) := rfl
theorem cd1_36 : code9 1 36 = some (0, .aload_n 2, [1], .null, []) := rfl
theorem cd1_37 : code9 1 37 = some (0, .getfield 29, [3, 9, 3, 2], .null, []) := rfl
theorem cd1_40 : code9 1 40 = some (0, .iload 7, [2], .null, []) := rfl
theorem cd1_42 : code9 1 42 = some (0, .iaload, [1], .null, []) := rfl
theorem cd1_43 : code9 1 43 = some (0, .iconst 2, [1], .int 2, []) := rfl
theorem cd1_44 : code9 1 44 = some (0, .if_icmp .eq 9, [3, 53], .null, []) := rfl
theorem cd1_47 : code9 1 47 = some (0, .iload 7, [2], .null, []) := rfl
theorem cd1_49 : code9 1 49 = some (0, .iload_n 3, [1], .null, []) := rfl
theorem cd1_50 : code9 1 50 = some (0, .if_icmp .ne 26, [3, 76], .null, []) := rfl
theorem cd1_53 : code9 1 53 = some (9, .lload 5, [2], .null, []) := rfl
theorem cd1_55 : code9 1 55 = some (0, .aload_n 1, [1], .null, []) := rfl
theorem cd1_56 : code9 1 56 = some (0, .getfield 34, [3, 6, 5, 2], .null, []) := rfl
theorem cd1_59 : code9 1 59 = some (0, .iload 4, [2], .null, []) := rfl
theorem cd1_61 : code9 1 61 = some (0, .iconst 4, [1], .int 4, []) := rfl
theorem cd1_62 : code9 1 62 = some (0, .imul, [1], .null, []) := rfl
theorem cd1_63 : code9 1 63 = some (0, .aload_n 1, [1], .null, []) := rfl
theorem cd1_64 : code9 1 64 = some (0, .iload 7, [2], .null, []) := rfl
theorem cd1_66 : code9 1 66 = some (0, .iconst 0, [1], .int 0, []) := rfl
theorem cd1_67 : code9 1 67 = some (0, .invokevirtual 37, [3, 51, 3, 1, 1, 3, 6, 0], .null, []) := rfl
theorem cd1_70 : code9 1 70 = some (0, .iadd, [1], .null, []) := rfl
theorem cd1_71 : code9 1 71 = some (0, .iaload, [1], .null, []) := rfl
theorem cd1_72 : code9 1 72 = some (0, .i2l, [1], .null, []) := rfl
theorem cd1_73 : code9 1 73 = some (0, .lmul, [1], .null, []) := rfl
theorem cd1_74 : code9 1 74 = some (0, .lstore 5, [2], .null, []) := rfl
theorem cd1_76 : code9 1 76 = some (9, .iinc 7 1, [3], .int 1, []) := rfl
theorem cd1_79 : code9 1 79 = some (0, .goto (-52), [3, 27, 8], .null, []) := rfl
theorem cd1_82 : code9 1 82 = some (0, .aload_n 0, [1], .null, []) := rfl
theorem cd1_83 : code9 1 83 = some (0, .getfield 9, [3, 0, 0, 2], .null, []) := rfl
theorem cd1_86 : code9 1 86 = some (0, .iload 4, [2], .null, []) := rfl
theorem cd1_88 : code9 1 88 = some (0, .lload 5, [2], .null, []) := rfl
theorem cd1_90 : code9 1 90 = some (0, .lastore, [1], .null, []) := rfl
theorem cd1_91 : code9 1 91 = some (0, .aload_n 0, [1], .null, []) := rfl
theorem cd1_92 : code9 1 92 = some (0, .dup, [1], .null, []) := rfl
theorem cd1_93 : code9 1 93 = some (0, .getfield 15, [3, 0, 1, 1], .null, []) := rfl
theorem cd1_96 : code9 1 96 = some (0, .lload 5, [2], .null, []) := rfl
theorem cd1_98 : code9 1 98 = some (0, .ladd, [1], .null, []) := rfl
theorem cd1_99 : code9 1 99 = some (0, .putfield 15, [3, 0, 1, 1], .null, []) := rfl
theorem cd1_102 : code9 1 102 = some (0, .iinc 4 1, [3], .int 1, []) := rfl
theorem cd1_105 : code9 1 105 = some (0, .goto (-97), [3, 8, 5], .null, []) := rfl
theorem cd1_108 : code9 1 108 = some (0, .aload_n 0, [1], .null, []) := rfl
theorem cd1_109 : code9 1 109 = some (0, .getfield 15, [3, 0, 1, 1], .null, []) := rfl
theorem cd1_112 : code9 1 112 = some (0, .lconst 0, [1], .long 0, []) := rfl
theorem cd1_113 : code9 1 113 = some (0, .lcmp, [1], .null, []) := rfl
theorem cd1_114 : code9 1 114 = some (0, .ifCond .ne 18, [3, 132], .null, []) := rfl
theorem cd1_117 : code9 1 117 = some (0, .aload_n 0, [1], .null, []) := rfl
theorem cd1_118 : code9 1 118 = some (0, .getfield 9, [3, 0, 0, 2], .null, []) := rfl
theorem cd1_121 : code9 1 121 = some (0, .lconst 1, [1], .long 1, []) := rfl
theorem cd1_122 : code9 1 122 = some (0, .invokestatic 41, [3, 300, 2, 0, 0, 5, 17, 0], .null, []) := rfl
theorem cd1_125 : code9 1 125 = some (0, .aload_n 0, [1], .null, []) := rfl
theorem cd1_126 : code9 1 126 = some (0, .ldc2_w 47, [3], .long 3, []) := rfl
theorem cd1_129 : code9 1 129 = some (0, .putfield 15, [3, 0, 1, 1], .null, []) := rfl
theorem cd1_132 : code9 1 132 = some (6, .return_, [1], .null, []) := rfl
def Beliefs_weigh_27 (N : Nat) (a0 a1 a2 : Nat) (K : Int32 → Int32 → FI → FJ → Option (FJ)) : Nat → Int32 → Int32 → Int64 → Int32 → FI → FJ → Option (FJ)
  | 0 => fun _ _ _ _ _ _ => none
  | n + 1 => fun l3 l4 l5 l7 I J => if (I a1 12) ≤ l7 then (if in9 l4 3 then (Option.bind (some (up2 J (a0 + 1) l4.toNatClampNeg l5)) fun J6 => (Option.bind (some (up2 J6 a0 1 ((J6 a0 1) + l5))) fun J7 => (K l3 (l4 + 1) I J7))) else none) else (if in9 l7 10 then (if (I (a2 + 4) l7.toNatClampNeg) = 2 then (Option.bind (Land_factOf a1 l7 0 I) fun x9 => (if in9 ((l4 * 4) + x9) 12 then (Beliefs_weigh_27 N a0 a1 a2 K n l3 l4 (l5 * ((I (a1 + 6) (((l4 * 4) + x9).toNatClampNeg)).toInt64)) (l7 + 1) I J) else none)) else (if l7 = l3 then (Option.bind (Land_factOf a1 l7 0 I) fun x11 => (if in9 ((l4 * 4) + x11) 12 then (Beliefs_weigh_27 N a0 a1 a2 K n l3 l4 (l5 * ((I (a1 + 6) (((l4 * 4) + x11).toNatClampNeg)).toInt64)) (l7 + 1) I J) else none)) else (Beliefs_weigh_27 N a0 a1 a2 K n l3 l4 l5 (l7 + 1) I J))) else none)
def Beliefs_weigh_8 (N : Nat) (a0 a1 a2 : Nat) : Nat → Int32 → Int32 → FI → FJ → Option (FJ)
  | 0 => fun _ _ _ _ => none
  | n + 1 => fun l3 l4 I J => if 3 ≤ l4 then (if (J a0 1) = (0 : Int64) then (Option.bind (Arrays_fill_JJV N (a0 + 1) 3 1 J) fun x2 => (Option.bind (some (up2 x2 a0 1 (3 : Int64))) fun J3 => (some J3))) else (some J)) else (if in9 l4 3 then (Beliefs_weigh_27 N a0 a1 a2 (fun x3 x4 I J => Beliefs_weigh_8 N a0 a1 a2 n x3 x4 I J) N l3 l4 ((I (a1 + 7) l4.toNatClampNeg).toInt64) 0 I J) else none)
def Beliefs_weigh (N : Nat) (a0 a1 a2 : Nat) (l3 : Int32) (I : FI) (J : FJ) : Option (FJ) := Option.bind (some (up2 J a0 1 (0 : Int64))) fun J1 => (Beliefs_weigh_8 N a0 a1 a2 N l3 0 I J1)
set_option maxRecDepth 8000 in
theorem t_Beliefs_weigh_27 {d : Nat} {N : Nat} {a0 a1 a2 : Nat} {c : Nat × Nat} {S : Nat → Nat × Nat} {P : Nat → Nat → Option Nat} {K : Int32 → Int32 → FI → FJ → Option (FJ)} {r : FJ} (hd : 1 ≤ (d + 1)) (h0 : O0 S P a0) (h1 : O6 S P a1) (h2 : O9 S P a2) (hK : ∀ (x3 : Int32) (x4 : Int32) (I : FI) (J : FJ), K x3 x4 I J = some r → Go (d + 1) M_Beliefs_weigh 8 [some (.ref a0), some (.ref a1), some (.ref a2), some (.int x3), some (.int x4), none, none, none] [] (c, S, I, J, P) (none, false, (c, S, I, r, P))) : ∀ (n : Nat) (l3 : Int32) (l4 : Int32) (l5 : Int64) (l7 : Int32) (I : FI) (J : FJ), Beliefs_weigh_27 N a0 a1 a2 K n l3 l4 l5 l7 I J = some r → Go (d + 1) M_Beliefs_weigh 27 [some (.ref a0), some (.ref a1), some (.ref a2), some (.int l3), some (.int l4), some (.long l5), none, some (.int l7)] [] (c, S, I, J, P) (none, false, (c, S, I, r, P)) := by
  intro n
  induction n with
  | zero =>
    intro l3 l4 l5 l7 I J h
    cases h
  | succ n ih =>
    intro l3 l4 l5 l7 I J h
    unfold Beliefs_weigh_27 at h
    refine g_iload cd1_27 rfl rfl ?_
    refine g_aload_n cd1_29 rfl rfl ?_
    refine g_getI cd1_30 rfl (O6.o h1) ?_
    refine g_icmp_ge cd1_33 rfl (fun hb => ?_) (fun hb => ?_)
    · have h := ifpE hb h
      refine g_aload_n cd1_82 rfl rfl ?_
      refine g_getP cd1_83 rfl (O0.o h0) (show P a0 0 = some (a0 + 1) from O0.p0 h0) ?_
      refine g_iload cd1_86 rfl rfl ?_
      refine g_lload cd1_88 rfl rfl ?_
      obtain ⟨hg5, h⟩ := grd h
      obtain ⟨J6, e1, h⟩ := bnd h
      refine G_last cd1_90 rfl (show S (a0 + 1) = (4, 3) from O0.s0 h0) hg5 (Option.some.inj e1) ?_
      refine g_aload_n cd1_91 rfl rfl ?_
      refine g_dupR cd1_92 rfl ?_
      refine g_getJ cd1_93 rfl (O0.o h0) ?_
      refine g_lload cd1_96 rfl rfl ?_
      refine g_ladd cd1_98 rfl ?_
      obtain ⟨J7, e1, h⟩ := bnd h
      refine G_putJ cd1_99 rfl (O0.o h0) (Option.some.inj e1) ?_
      refine g_iinc (ls2 := [some (.ref a0), some (.ref a1), some (.ref a2), some (.int l3), some (.int (l4 + 1)), some (.long l5), none, some (.int l7)]) cd1_102 rfl rfl rfl ?_
      refine g_goto (ls2 := [some (.ref a0), some (.ref a1), some (.ref a2), some (.int l3), some (.int (l4 + 1)), none, none, none]) cd1_105 rfl rfl ?_
      exact hK l3 (l4 + 1) I J7 h
    · have h := ifnE hb h
      refine g_aload_n cd1_36 rfl rfl ?_
      refine g_getP cd1_37 rfl (O9.o h2) (show P a2 3 = some (a2 + 4) from O9.p3 h2) ?_
      refine g_iload cd1_40 rfl rfl ?_
      obtain ⟨hg8, h⟩ := grd h
      refine G_iald cd1_42 rfl (show S (a2 + 4) = (1, 10) from O9.s3 h2) hg8 ?_
      refine g_iconst cd1_43 rfl ?_
      refine g_icmp_eq cd1_44 rfl (fun hb => ?_) (fun hb => ?_)
      · have h := ifpE hb h
        refine g_lload cd1_53 rfl rfl ?_
        refine g_aload_n cd1_55 rfl rfl ?_
        refine g_getP cd1_56 rfl (O6.o h1) (show P a1 5 = some (a1 + 6) from O6.p5 h1) ?_
        refine g_iload cd1_59 rfl rfl ?_
        refine g_iconst cd1_61 rfl ?_
        refine g_imul cd1_62 rfl ?_
        refine g_aload_n cd1_63 rfl rfl ?_
        refine g_iload cd1_64 rfl rfl ?_
        refine g_iconst cd1_66 rfl ?_
        obtain ⟨x9, hx, h⟩ := bnd h
        refine g_callVI (L := [some (.ref a1), some (.int l7), some (.int 0)]) cd1_67 rfl rfl rfl rfl rfl (O6.o h1) (t_Land_factOf (by omega) h1 hx) ?_
        refine g_iadd cd1_70 rfl ?_
        obtain ⟨hg10, h⟩ := grd h
        refine G_iald cd1_71 rfl (show S (a1 + 6) = (1, 12) from O6.s5 h1) hg10 ?_
        refine g_i2l cd1_72 rfl ?_
        refine g_lmul cd1_73 rfl ?_
        refine g_lstore (ls2 := [some (.ref a0), some (.ref a1), some (.ref a2), some (.int l3), some (.int l4), some (.long (l5 * ((I (a1 + 6) (((l4 * 4) + x9).toNatClampNeg)).toInt64))), none, some (.int l7)]) cd1_74 rfl rfl ?_
        refine g_iinc (ls2 := [some (.ref a0), some (.ref a1), some (.ref a2), some (.int l3), some (.int l4), some (.long (l5 * ((I (a1 + 6) (((l4 * 4) + x9).toNatClampNeg)).toInt64))), none, some (.int (l7 + 1))]) cd1_76 rfl rfl rfl ?_
        refine g_goto (ls2 := [some (.ref a0), some (.ref a1), some (.ref a2), some (.int l3), some (.int l4), some (.long (l5 * ((I (a1 + 6) (((l4 * 4) + x9).toNatClampNeg)).toInt64))), none, some (.int (l7 + 1))]) cd1_79 rfl rfl ?_
        exact ih l3 l4 (l5 * ((I (a1 + 6) (((l4 * 4) + x9).toNatClampNeg)).toInt64)) (l7 + 1) I J h
      · have h := ifnE hb h
        refine g_iload cd1_47 rfl rfl ?_
        refine g_iload_n cd1_49 rfl rfl ?_
        refine g_icmp_ne cd1_50 rfl (fun hb => ?_) (fun hb => ?_)
        · have h := ifpE hb h
          refine g_lload cd1_53 rfl rfl ?_
          refine g_aload_n cd1_55 rfl rfl ?_
          refine g_getP cd1_56 rfl (O6.o h1) (show P a1 5 = some (a1 + 6) from O6.p5 h1) ?_
          refine g_iload cd1_59 rfl rfl ?_
          refine g_iconst cd1_61 rfl ?_
          refine g_imul cd1_62 rfl ?_
          refine g_aload_n cd1_63 rfl rfl ?_
          refine g_iload cd1_64 rfl rfl ?_
          refine g_iconst cd1_66 rfl ?_
          obtain ⟨x11, hx, h⟩ := bnd h
          refine g_callVI (L := [some (.ref a1), some (.int l7), some (.int 0)]) cd1_67 rfl rfl rfl rfl rfl (O6.o h1) (t_Land_factOf (by omega) h1 hx) ?_
          refine g_iadd cd1_70 rfl ?_
          obtain ⟨hg12, h⟩ := grd h
          refine G_iald cd1_71 rfl (show S (a1 + 6) = (1, 12) from O6.s5 h1) hg12 ?_
          refine g_i2l cd1_72 rfl ?_
          refine g_lmul cd1_73 rfl ?_
          refine g_lstore (ls2 := [some (.ref a0), some (.ref a1), some (.ref a2), some (.int l3), some (.int l4), some (.long (l5 * ((I (a1 + 6) (((l4 * 4) + x11).toNatClampNeg)).toInt64))), none, some (.int l7)]) cd1_74 rfl rfl ?_
          refine g_iinc (ls2 := [some (.ref a0), some (.ref a1), some (.ref a2), some (.int l3), some (.int l4), some (.long (l5 * ((I (a1 + 6) (((l4 * 4) + x11).toNatClampNeg)).toInt64))), none, some (.int (l7 + 1))]) cd1_76 rfl rfl rfl ?_
          refine g_goto (ls2 := [some (.ref a0), some (.ref a1), some (.ref a2), some (.int l3), some (.int l4), some (.long (l5 * ((I (a1 + 6) (((l4 * 4) + x11).toNatClampNeg)).toInt64))), none, some (.int (l7 + 1))]) cd1_79 rfl rfl ?_
          exact ih l3 l4 (l5 * ((I (a1 + 6) (((l4 * 4) + x11).toNatClampNeg)).toInt64)) (l7 + 1) I J h
        · have h := ifnE hb h
          refine g_iinc (ls2 := [some (.ref a0), some (.ref a1), some (.ref a2), some (.int l3), some (.int l4), some (.long l5), none, some (.int (l7 + 1))]) cd1_76 rfl rfl rfl ?_
          refine g_goto (ls2 := [some (.ref a0), some (.ref a1), some (.ref a2), some (.int l3), some (.int l4), some (.long l5), none, some (.int (l7 + 1))]) cd1_79 rfl rfl ?_
          exact ih l3 l4 l5 (l7 + 1) I J h
set_option maxRecDepth 8000 in
theorem t_Beliefs_weigh_8 {d : Nat} {N : Nat} {a0 a1 a2 : Nat} {c : Nat × Nat} {S : Nat → Nat × Nat} {P : Nat → Nat → Option Nat} {r : FJ} (hd : 1 ≤ (d + 1)) (h0 : O0 S P a0) (h1 : O6 S P a1) (h2 : O9 S P a2) : ∀ (n : Nat) (l3 : Int32) (l4 : Int32) (I : FI) (J : FJ), Beliefs_weigh_8 N a0 a1 a2 n l3 l4 I J = some r → Go (d + 1) M_Beliefs_weigh 8 [some (.ref a0), some (.ref a1), some (.ref a2), some (.int l3), some (.int l4), none, none, none] [] (c, S, I, J, P) (none, false, (c, S, I, r, P)) := by
  intro n
  induction n with
  | zero =>
    intro l3 l4 I J h
    cases h
  | succ n ih =>
    intro l3 l4 I J h
    unfold Beliefs_weigh_8 at h
    refine g_iload cd1_8 rfl rfl ?_
    refine g_iconst cd1_10 rfl ?_
    refine g_icmp_ge cd1_11 rfl (fun hb => ?_) (fun hb => ?_)
    · have h := ifpE hb h
      refine g_aload_n cd1_108 rfl rfl ?_
      refine g_getJ cd1_109 rfl (O0.o h0) ?_
      refine g_lconst cd1_112 rfl ?_
      refine g_lcmp cd1_113 rfl ?_
      refine g_if_ne cd1_114 rfl (fun hb => ?_) (fun hb => ?_)
      · have h := ifpE (lgc_eq.mp hb) h
        refine g_aload_n cd1_117 rfl rfl ?_
        refine g_getP cd1_118 rfl (O0.o h0) (show P a0 0 = some (a0 + 1) from O0.p0 h0) ?_
        refine g_lconst cd1_121 rfl ?_
        obtain ⟨x2, hx, h⟩ := bnd h
        refine g_callSV (L := [some (.ref (a0 + 1)), some (.long 1), none, none, none]) cd1_122 rfl rfl rfl rfl rfl (t_Arrays_fill_JJV (by omega) (show S (a0 + 1) = (4, 3) from O0.s0 h0) hx) ?_
        refine g_aload_n cd1_125 rfl rfl ?_
        refine g_ldc2_w cd1_126 rfl ?_
        obtain ⟨J3, e1, h⟩ := bnd h
        refine G_putJ cd1_129 rfl (O0.o h0) (Option.some.inj e1) ?_
        exact g_vret cd1_132 (by obtain rfl := Option.some.inj h; rfl)
      · have h := ifnE (fun q => hb (lgc_eq.mpr q)) h
        exact g_vret cd1_132 (by obtain rfl := Option.some.inj h; rfl)
    · have h := ifnE hb h
      refine g_aload_n cd1_14 rfl rfl ?_
      refine g_getP cd1_15 rfl (O6.o h1) (show P a1 6 = some (a1 + 7) from O6.p6 h1) ?_
      refine g_iload cd1_18 rfl rfl ?_
      obtain ⟨hg4, h⟩ := grd h
      refine G_iald cd1_20 rfl (show S (a1 + 7) = (1, 3) from O6.s6 h1) hg4 ?_
      refine g_i2l cd1_21 rfl ?_
      refine g_lstore (ls2 := [some (.ref a0), some (.ref a1), some (.ref a2), some (.int l3), some (.int l4), some (.long ((I (a1 + 7) l4.toNatClampNeg).toInt64)), none, none]) cd1_22 rfl rfl ?_
      refine g_iconst cd1_24 rfl ?_
      refine g_istore (ls2 := [some (.ref a0), some (.ref a1), some (.ref a2), some (.int l3), some (.int l4), some (.long ((I (a1 + 7) l4.toNatClampNeg).toInt64)), none, some (.int 0)]) cd1_25 rfl rfl ?_
      exact t_Beliefs_weigh_27 hd h0 h1 h2 (fun x3 x4 I J h => ih x3 x4 I J h) _ l3 l4 ((I (a1 + 7) l4.toNatClampNeg).toInt64) 0 I J h
set_option maxRecDepth 8000 in
theorem t_Beliefs_weigh {d : Nat} {N : Nat} {a0 a1 a2 : Nat} {c : Nat × Nat} {S : Nat → Nat × Nat} {P : Nat → Nat → Option Nat} {I : FI} {J : FJ} {l3 : Int32} {r : FJ} (hd : 1 ≤ d) (h0 : O0 S P a0) (h1 : O6 S P a1) (h2 : O9 S P a2) (h : Beliefs_weigh N a0 a1 a2 l3 I J = some r) : Go d M_Beliefs_weigh 0 [some (.ref a0), some (.ref a1), some (.ref a2), some (.int l3), none, none, none, none] [] (c, S, I, J, P) (none, false, (c, S, I, r, P)) := by
  obtain ⟨d, rfl⟩ : ∃ e, d = e + 1 := ⟨d - 1, by omega⟩
  unfold Beliefs_weigh at h
  refine g_aload_n cd1_0 rfl rfl ?_
  refine g_lconst cd1_1 rfl ?_
  obtain ⟨J1, e1, h⟩ := bnd h
  refine G_putJ cd1_2 rfl (O0.o h0) (Option.some.inj e1) ?_
  refine g_iconst cd1_5 rfl ?_
  refine g_istore (ls2 := [some (.ref a0), some (.ref a1), some (.ref a2), some (.int l3), some (.int 0), none, none, none]) cd1_6 rfl rfl ?_
  exact t_Beliefs_weigh_8 hd h0 h1 h2 _ l3 0 I J1 h
/-! HiddenOrLost$Beliefs.likeliest()I -/
theorem cd2_0 : code9 2 0 = some (0, .iconst 0, [1], .int 0, []) := rfl
theorem cd2_1 : code9 2 1 = some (0, .istore_n 1, [1], .null, []) := rfl
theorem cd2_2 : code9 2 2 = some (0, .iconst 1, [1], .int 1, []) := rfl
theorem cd2_3 : code9 2 3 = some (0, .istore_n 2, [1], .null, []) := rfl
theorem cd2_4 : code9 2 4 = some (4, .iload_n 2, [1], .null, []) := rfl
theorem cd2_5 : code9 2 5 = some (0, .iconst 3, [1], .int 3, []) := rfl
theorem cd2_6 : code9 2 6 = some (0, .if_icmp .ge 27, [3, 33], .null, []) := rfl
theorem cd2_9 : code9 2 9 = some (0, .aload_n 0, [1], .null, []) := rfl
theorem cd2_10 : code9 2 10 = some (0, .getfield 9, [3, 0, 0, 2], .null, []) := rfl
theorem cd2_13 : code9 2 13 = some (0, .iload_n 2, [1], .null, []) := rfl
theorem cd2_14 : code9 2 14 = some (0, .laload, [1], .null, []) := rfl
theorem cd2_15 : code9 2 15 = some (0, .aload_n 0, [1], .null, []) := rfl
theorem cd2_16 : code9 2 16 = some (0, .getfield 9, [3, 0, 0, 2], .null, []) := rfl
theorem cd2_19 : code9 2 19 = some (0, .iload_n 1, [1], .null, []) := rfl
theorem cd2_20 : code9 2 20 = some (0, .laload, [1], .null, []) := rfl
theorem cd2_21 : code9 2 21 = some (0, .lcmp, [1], .null, []) := rfl
theorem cd2_22 : code9 2 22 = some (0, .ifCond .le 5, [3, 27], .null, []) := rfl
theorem cd2_25 : code9 2 25 = some (0, .iload_n 2, [1], .null, []) := rfl
theorem cd2_26 : code9 2 26 = some (0, .istore_n 1, [1], .null, []) := rfl
theorem cd2_27 : code9 2 27 = some (4, .iinc 2 1, [3], .int 1, []) := rfl
theorem cd2_30 : code9 2 30 = some (0, .goto (-26), [3, 4, 3], .null, []) := rfl
theorem cd2_33 : code9 2 33 = some (0, .iload_n 1, [1], .null, []) := rfl
theorem cd2_34 : code9 2 34 = some (0, .ireturn, [1, 1], .null, []) := rfl
def Beliefs_likeliest_4 (N : Nat) (a0 : Nat) : Nat → Int32 → Int32 → FJ → Option (Int32)
  | 0 => fun _ _ _ => none
  | n + 1 => fun l1 l2 J => if 3 ≤ l2 then (some l1) else (if in9 l2 3 then (if in9 l1 3 then (if (J (a0 + 1) l2.toNatClampNeg) ≤ (J (a0 + 1) l1.toNatClampNeg) then (Beliefs_likeliest_4 N a0 n l1 (l2 + 1) J) else (Beliefs_likeliest_4 N a0 n l2 (l2 + 1) J)) else none) else none)
def Beliefs_likeliest (N : Nat) (a0 : Nat) (J : FJ) : Option (Int32) := Beliefs_likeliest_4 N a0 N 0 1 J
set_option maxRecDepth 8000 in
theorem t_Beliefs_likeliest_4 {d : Nat} {N : Nat} {a0 : Nat} {c : Nat × Nat} {S : Nat → Nat × Nat} {P : Nat → Nat → Option Nat} {r : Int32} (hd : 0 ≤ d) (h0 : O0 S P a0) : ∀ (n : Nat) (l1 : Int32) (l2 : Int32) (I : FI) (J : FJ), Beliefs_likeliest_4 N a0 n l1 l2 J = some r → Go d M_Beliefs_likeliest 4 [some (.ref a0), some (.int l1), some (.int l2)] [] (c, S, I, J, P) (some (.int r), false, (c, S, I, J, P)) := by
  intro n
  induction n with
  | zero =>
    intro l1 l2 I J h
    cases h
  | succ n ih =>
    intro l1 l2 I J h
    unfold Beliefs_likeliest_4 at h
    refine g_iload_n cd2_4 rfl rfl ?_
    refine g_iconst cd2_5 rfl ?_
    refine g_icmp_ge cd2_6 rfl (fun hb => ?_) (fun hb => ?_)
    · have h := ifpE hb h
      refine g_iload_n cd2_33 rfl rfl ?_
      exact g_iret cd2_34 (Or.inl rfl) (by obtain rfl := Option.some.inj h; rfl)
    · have h := ifnE hb h
      refine g_aload_n cd2_9 rfl rfl ?_
      refine g_getP cd2_10 rfl (O0.o h0) (show P a0 0 = some (a0 + 1) from O0.p0 h0) ?_
      refine g_iload_n cd2_13 rfl rfl ?_
      obtain ⟨hg1, h⟩ := grd h
      refine G_lald cd2_14 rfl (show S (a0 + 1) = (4, 3) from O0.s0 h0) hg1 ?_
      refine g_aload_n cd2_15 rfl rfl ?_
      refine g_getP cd2_16 rfl (O0.o h0) (show P a0 0 = some (a0 + 1) from O0.p0 h0) ?_
      refine g_iload_n cd2_19 rfl rfl ?_
      obtain ⟨hg2, h⟩ := grd h
      refine G_lald cd2_20 rfl (show S (a0 + 1) = (4, 3) from O0.s0 h0) hg2 ?_
      refine g_lcmp cd2_21 rfl ?_
      refine g_if_le cd2_22 rfl (fun hb => ?_) (fun hb => ?_)
      · have h := ifpE (lgc_le.mp hb) h
        refine g_iinc (ls2 := [some (.ref a0), some (.int l1), some (.int (l2 + 1))]) cd2_27 rfl rfl rfl ?_
        refine g_goto (ls2 := [some (.ref a0), some (.int l1), some (.int (l2 + 1))]) cd2_30 rfl rfl ?_
        exact ih l1 (l2 + 1) I J h
      · have h := ifnE (fun q => hb (lgc_le.mpr q)) h
        refine g_iload_n cd2_25 rfl rfl ?_
        refine g_istore_n (ls2 := [some (.ref a0), some (.int l2), some (.int l2)]) cd2_26 rfl rfl ?_
        refine g_iinc (ls2 := [some (.ref a0), some (.int l2), some (.int (l2 + 1))]) cd2_27 rfl rfl rfl ?_
        refine g_goto (ls2 := [some (.ref a0), some (.int l2), some (.int (l2 + 1))]) cd2_30 rfl rfl ?_
        exact ih l2 (l2 + 1) I J h
set_option maxRecDepth 8000 in
theorem t_Beliefs_likeliest {d : Nat} {N : Nat} {a0 : Nat} {c : Nat × Nat} {S : Nat → Nat × Nat} {P : Nat → Nat → Option Nat} {I : FI} {J : FJ} {r : Int32} (hd : 0 ≤ d) (h0 : O0 S P a0) (h : Beliefs_likeliest N a0 J = some r) : Go d M_Beliefs_likeliest 0 [some (.ref a0), none, none] [] (c, S, I, J, P) (some (.int r), false, (c, S, I, J, P)) := by
  unfold Beliefs_likeliest at h
  refine g_iconst cd2_0 rfl ?_
  refine g_istore_n (ls2 := [some (.ref a0), some (.int 0), none]) cd2_1 rfl rfl ?_
  refine g_iconst cd2_2 rfl ?_
  refine g_istore_n (ls2 := [some (.ref a0), some (.int 0), some (.int 1)]) cd2_3 rfl rfl ?_
  exact t_Beliefs_likeliest_4 hd h0 _ 0 1 I J h
/-! HiddenOrLost$Beliefs.rightGuesses(LHiddenOrLost$Land;I)J -/
theorem cd4_0 : code9 4 0 = some (0, .lconst 0, [1], .long 0, []) := rfl
theorem cd4_1 : code9 4 1 = some (0, .lstore_n 3, [1], .null, []) := rfl
theorem cd4_2 : code9 4 2 = some (0, .lconst 0, [1], .long 0, []) := rfl
theorem cd4_3 : code9 4 3 = some (0, .lstore 5, [2], .null, []) := rfl
theorem cd4_5 : code9 4 5 = some (0, .iconst 0, [1], .int 0, []) := rfl
theorem cd4_6 : code9 4 6 = some (0, .istore 7, [2], .null, []) := rfl
theorem cd4_8 : code9 4 8 = some (9, .iload 7, [2], .null, []) := rfl
theorem cd4_10 : code9 4 10 = some (0, .iconst 3, [1], .int 3, []) := rfl
theorem cd4_11 : code9 4 11 = some (0, .if_icmp .ge 59, [3, 70], .null, []) := rfl
theorem cd4_14 : code9 4 14 = some (0, .aload_n 1, [1], .null, []) := rfl
theorem cd4_15 : code9 4 15 = some (0, .getfield 34, [3, 6, 5, 2], .null, []) := rfl
theorem cd4_18 : code9 4 18 = some (0, .iload 7, [2], .null, []) := rfl
theorem cd4_20 : code9 4 20 = some (0, .iconst 4, [1], .int 4, []) := rfl
theorem cd4_21 : code9 4 21 = some (0, .imul, [1], .null, []) := rfl
theorem cd4_22 : code9 4 22 = some (0, .iload_n 2, [1], .null, []) := rfl
theorem cd4_23 : code9 4 23 = some (0, .iadd, [1], .null, []) := rfl
theorem cd4_24 : code9 4 24 = some (0, .iaload, [1], .null, []) := rfl
theorem cd4_25 : code9 4 25 = some (0, .istore 8, [2], .null, []) := rfl
theorem cd4_27 : code9 4 27 = some (0, .lload_n 3, [1], .null, []) := rfl
theorem cd4_28 : code9 4 28 = some (0, .aload_n 0, [1], .null, []) := rfl
theorem cd4_29 : code9 4 29 = some (0, .getfield 9, [3, 0, 0, 2], .null, []) := rfl
theorem cd4_32 : code9 4 32 = some (0, .iload 7, [2], .null, []) := rfl
theorem cd4_34 : code9 4 34 = some (0, .laload, [1], .null, []) := rfl
theorem cd4_35 : code9 4 35 = some (0, .iload 8, [2], .null, []) := rfl
theorem cd4_37 : code9 4 37 = some (0, .i2l, [1], .null, []) := rfl
theorem cd4_38 : code9 4 38 = some (0, .lmul, [1], .null, []) := rfl
theorem cd4_39 : code9 4 39 = some (0, .invokestatic 49, [3, 8], .null, []) := rfl
theorem cd4_42 : code9 4 42 = some (0, .lstore_n 3, [1], .null, []) := rfl
theorem cd4_43 : code9 4 43 = some (0, .lload 5, [2], .null, []) := rfl
theorem cd4_45 : code9 4 45 = some (0, .aload_n 0, [1], .null, []) := rfl
theorem cd4_46 : code9 4 46 = some (0, .getfield 9, [3, 0, 0, 2], .null, []) := rfl
theorem cd4_49 : code9 4 49 = some (0, .iload 7, [2], .null, []) := rfl
theorem cd4_51 : code9 4 51 = some (0, .laload, [1], .null, []) := rfl
theorem cd4_52 : code9 4 52 = some (0, .bipush 12, [2], .int 12, []) := rfl
theorem cd4_54 : code9 4 54 = some (0, .iload 8, [2], .null, []) := rfl
theorem cd4_56 : code9 4 56 = some (0, .isub, [1], .null, []) := rfl
theorem cd4_57 : code9 4 57 = some (0, .i2l, [1], .null, []) := rfl
theorem cd4_58 : code9 4 58 = some (0, .lmul, [1], .null, []) := rfl
theorem cd4_59 : code9 4 59 = some (0, .invokestatic 49, [3, 8], .null, []) := rfl
theorem cd4_62 : code9 4 62 = some (0, .lstore 5, [2], .null, []) := rfl
theorem cd4_64 : code9 4 64 = some (0, .iinc 7 1, [3], .int 1, []) := rfl
theorem cd4_67 : code9 4 67 = some (0, .goto (-59), [3, 8, 8], .null, []) := rfl
theorem cd4_70 : code9 4 70 = some (0, .lload_n 3, [1], .null, []) := rfl
theorem cd4_71 : code9 4 71 = some (0, .lload 5, [2], .null, []) := rfl
theorem cd4_73 : code9 4 73 = some (0, .ladd, [1], .null, []) := rfl
theorem cd4_74 : code9 4 74 = some (0, .lreturn, [1], .null, []) := rfl
def Beliefs_rightGuesses_8 (N : Nat) (a0 a1 : Nat) : Nat → Int32 → Int64 → Int64 → Int32 → FI → FJ → Option (Int64)
  | 0 => fun _ _ _ _ _ _ => none
  | n + 1 => fun l2 l3 l5 l7 I J => if 3 ≤ l7 then (some (l3 + l5)) else (if in9 ((l7 * 4) + l2) 12 then (if in9 l7 3 then (Beliefs_rightGuesses_8 N a0 a1 n l2 (if ((J (a0 + 1) l7.toNatClampNeg) * ((I (a1 + 6) (((l7 * 4) + l2).toNatClampNeg)).toInt64)) < l3 then l3 else ((J (a0 + 1) l7.toNatClampNeg) * ((I (a1 + 6) (((l7 * 4) + l2).toNatClampNeg)).toInt64))) (if ((J (a0 + 1) l7.toNatClampNeg) * ((12 - (I (a1 + 6) (((l7 * 4) + l2).toNatClampNeg))).toInt64)) < l5 then l5 else ((J (a0 + 1) l7.toNatClampNeg) * ((12 - (I (a1 + 6) (((l7 * 4) + l2).toNatClampNeg))).toInt64))) (l7 + 1) I J) else none) else none)
def Beliefs_rightGuesses (N : Nat) (a0 a1 : Nat) (l2 : Int32) (I : FI) (J : FJ) : Option (Int64) := Beliefs_rightGuesses_8 N a0 a1 N l2 0 0 0 I J
set_option maxRecDepth 8000 in
theorem t_Beliefs_rightGuesses_8 {d : Nat} {N : Nat} {a0 a1 : Nat} {c : Nat × Nat} {S : Nat → Nat × Nat} {P : Nat → Nat → Option Nat} {r : Int64} (hd : 1 ≤ (d + 1)) (h0 : O0 S P a0) (h1 : O6 S P a1) : ∀ (n : Nat) (l2 : Int32) (l3 : Int64) (l5 : Int64) (l7 : Int32) (I : FI) (J : FJ), Beliefs_rightGuesses_8 N a0 a1 n l2 l3 l5 l7 I J = some r → Go (d + 1) M_Beliefs_rightGuesses 8 [some (.ref a0), some (.ref a1), some (.int l2), some (.long l3), none, some (.long l5), none, some (.int l7), none] [] (c, S, I, J, P) (some (.long r), false, (c, S, I, J, P)) := by
  intro n
  induction n with
  | zero =>
    intro l2 l3 l5 l7 I J h
    cases h
  | succ n ih =>
    intro l2 l3 l5 l7 I J h
    unfold Beliefs_rightGuesses_8 at h
    refine g_iload cd4_8 rfl rfl ?_
    refine g_iconst cd4_10 rfl ?_
    refine g_icmp_ge cd4_11 rfl (fun hb => ?_) (fun hb => ?_)
    · have h := ifpE hb h
      refine g_lload_n cd4_70 rfl rfl ?_
      refine g_lload cd4_71 rfl rfl ?_
      refine g_ladd cd4_73 rfl ?_
      exact g_lret cd4_74 (by obtain rfl := Option.some.inj h; rfl)
    · have h := ifnE hb h
      refine g_aload_n cd4_14 rfl rfl ?_
      refine g_getP cd4_15 rfl (O6.o h1) (show P a1 5 = some (a1 + 6) from O6.p5 h1) ?_
      refine g_iload cd4_18 rfl rfl ?_
      refine g_iconst cd4_20 rfl ?_
      refine g_imul cd4_21 rfl ?_
      refine g_iload_n cd4_22 rfl rfl ?_
      refine g_iadd cd4_23 rfl ?_
      obtain ⟨hg1, h⟩ := grd h
      refine G_iald cd4_24 rfl (show S (a1 + 6) = (1, 12) from O6.s5 h1) hg1 ?_
      refine g_istore (ls2 := [some (.ref a0), some (.ref a1), some (.int l2), some (.long l3), none, some (.long l5), none, some (.int l7), some (.int (I (a1 + 6) (((l7 * 4) + l2).toNatClampNeg)))]) cd4_25 rfl rfl ?_
      refine g_lload_n cd4_27 rfl rfl ?_
      refine g_aload_n cd4_28 rfl rfl ?_
      refine g_getP cd4_29 rfl (O0.o h0) (show P a0 0 = some (a0 + 1) from O0.p0 h0) ?_
      refine g_iload cd4_32 rfl rfl ?_
      obtain ⟨hg2, h⟩ := grd h
      refine G_lald cd4_34 rfl (show S (a0 + 1) = (4, 3) from O0.s0 h0) hg2 ?_
      refine g_iload cd4_35 rfl rfl ?_
      refine g_i2l cd4_37 rfl ?_
      refine g_lmul cd4_38 rfl ?_
      refine g_maxJ cd4_39 rfl (Nat.succ_ne_zero _) rfl ?_
      refine g_lstore_n (ls2 := [some (.ref a0), some (.ref a1), some (.int l2), some (.long (if ((J (a0 + 1) l7.toNatClampNeg) * ((I (a1 + 6) (((l7 * 4) + l2).toNatClampNeg)).toInt64)) < l3 then l3 else ((J (a0 + 1) l7.toNatClampNeg) * ((I (a1 + 6) (((l7 * 4) + l2).toNatClampNeg)).toInt64)))), none, some (.long l5), none, some (.int l7), some (.int (I (a1 + 6) (((l7 * 4) + l2).toNatClampNeg)))]) cd4_42 rfl rfl ?_
      refine g_lload cd4_43 rfl rfl ?_
      refine g_aload_n cd4_45 rfl rfl ?_
      refine g_getP cd4_46 rfl (O0.o h0) (show P a0 0 = some (a0 + 1) from O0.p0 h0) ?_
      refine g_iload cd4_49 rfl rfl ?_
      refine G_lald cd4_51 rfl (show S (a0 + 1) = (4, 3) from O0.s0 h0) hg2 ?_
      refine g_bipush cd4_52 rfl ?_
      refine g_iload cd4_54 rfl rfl ?_
      refine g_isub cd4_56 rfl ?_
      refine g_i2l cd4_57 rfl ?_
      refine g_lmul cd4_58 rfl ?_
      refine g_maxJ cd4_59 rfl (Nat.succ_ne_zero _) rfl ?_
      refine g_lstore (ls2 := [some (.ref a0), some (.ref a1), some (.int l2), some (.long (if ((J (a0 + 1) l7.toNatClampNeg) * ((I (a1 + 6) (((l7 * 4) + l2).toNatClampNeg)).toInt64)) < l3 then l3 else ((J (a0 + 1) l7.toNatClampNeg) * ((I (a1 + 6) (((l7 * 4) + l2).toNatClampNeg)).toInt64)))), none, some (.long (if ((J (a0 + 1) l7.toNatClampNeg) * ((12 - (I (a1 + 6) (((l7 * 4) + l2).toNatClampNeg))).toInt64)) < l5 then l5 else ((J (a0 + 1) l7.toNatClampNeg) * ((12 - (I (a1 + 6) (((l7 * 4) + l2).toNatClampNeg))).toInt64)))), none, some (.int l7), some (.int (I (a1 + 6) (((l7 * 4) + l2).toNatClampNeg)))]) cd4_62 rfl rfl ?_
      refine g_iinc (ls2 := [some (.ref a0), some (.ref a1), some (.int l2), some (.long (if ((J (a0 + 1) l7.toNatClampNeg) * ((I (a1 + 6) (((l7 * 4) + l2).toNatClampNeg)).toInt64)) < l3 then l3 else ((J (a0 + 1) l7.toNatClampNeg) * ((I (a1 + 6) (((l7 * 4) + l2).toNatClampNeg)).toInt64)))), none, some (.long (if ((J (a0 + 1) l7.toNatClampNeg) * ((12 - (I (a1 + 6) (((l7 * 4) + l2).toNatClampNeg))).toInt64)) < l5 then l5 else ((J (a0 + 1) l7.toNatClampNeg) * ((12 - (I (a1 + 6) (((l7 * 4) + l2).toNatClampNeg))).toInt64)))), none, some (.int (l7 + 1)), some (.int (I (a1 + 6) (((l7 * 4) + l2).toNatClampNeg)))]) cd4_64 rfl rfl rfl ?_
      refine g_goto (ls2 := [some (.ref a0), some (.ref a1), some (.int l2), some (.long (if ((J (a0 + 1) l7.toNatClampNeg) * ((I (a1 + 6) (((l7 * 4) + l2).toNatClampNeg)).toInt64)) < l3 then l3 else ((J (a0 + 1) l7.toNatClampNeg) * ((I (a1 + 6) (((l7 * 4) + l2).toNatClampNeg)).toInt64)))), none, some (.long (if ((J (a0 + 1) l7.toNatClampNeg) * ((12 - (I (a1 + 6) (((l7 * 4) + l2).toNatClampNeg))).toInt64)) < l5 then l5 else ((J (a0 + 1) l7.toNatClampNeg) * ((12 - (I (a1 + 6) (((l7 * 4) + l2).toNatClampNeg))).toInt64)))), none, some (.int (l7 + 1)), none]) cd4_67 rfl rfl ?_
      exact ih l2 (if ((J (a0 + 1) l7.toNatClampNeg) * ((I (a1 + 6) (((l7 * 4) + l2).toNatClampNeg)).toInt64)) < l3 then l3 else ((J (a0 + 1) l7.toNatClampNeg) * ((I (a1 + 6) (((l7 * 4) + l2).toNatClampNeg)).toInt64))) (if ((J (a0 + 1) l7.toNatClampNeg) * ((12 - (I (a1 + 6) (((l7 * 4) + l2).toNatClampNeg))).toInt64)) < l5 then l5 else ((J (a0 + 1) l7.toNatClampNeg) * ((12 - (I (a1 + 6) (((l7 * 4) + l2).toNatClampNeg))).toInt64))) (l7 + 1) I J h
set_option maxRecDepth 8000 in
theorem t_Beliefs_rightGuesses {d : Nat} {N : Nat} {a0 a1 : Nat} {c : Nat × Nat} {S : Nat → Nat × Nat} {P : Nat → Nat → Option Nat} {I : FI} {J : FJ} {l2 : Int32} {r : Int64} (hd : 1 ≤ d) (h0 : O0 S P a0) (h1 : O6 S P a1) (h : Beliefs_rightGuesses N a0 a1 l2 I J = some r) : Go d M_Beliefs_rightGuesses 0 [some (.ref a0), some (.ref a1), some (.int l2), none, none, none, none, none, none] [] (c, S, I, J, P) (some (.long r), false, (c, S, I, J, P)) := by
  obtain ⟨d, rfl⟩ : ∃ e, d = e + 1 := ⟨d - 1, by omega⟩
  unfold Beliefs_rightGuesses at h
  refine g_lconst cd4_0 rfl ?_
  refine g_lstore_n (ls2 := [some (.ref a0), some (.ref a1), some (.int l2), some (.long 0), none, none, none, none, none]) cd4_1 rfl rfl ?_
  refine g_lconst cd4_2 rfl ?_
  refine g_lstore (ls2 := [some (.ref a0), some (.ref a1), some (.int l2), some (.long 0), none, some (.long 0), none, none, none]) cd4_3 rfl rfl ?_
  refine g_iconst cd4_5 rfl ?_
  refine g_istore (ls2 := [some (.ref a0), some (.ref a1), some (.int l2), some (.long 0), none, some (.long 0), none, some (.int 0), none]) cd4_6 rfl rfl ?_
  exact t_Beliefs_rightGuesses_8 hd h0 h1 _ l2 0 0 0 I J h
/-! HiddenOrLost$Beliefs.surestKind(LHiddenOrLost$Land;)I -/
theorem cd3_0 : code9 3 0 = some (0, .iconst 0, [1], .int 0, []) := rfl
theorem cd3_1 : code9 3 1 = some (0, .istore_n 2, [1], .null, []) := rfl
theorem cd3_2 : code9 3 2 = some (0, .iconst 1, [1], .int 1, []) := rfl
theorem cd3_3 : code9 3 3 = some (0, .istore_n 3, [1], .null, []) := rfl
theorem cd3_4 : code9 3 4 = some (5, .iload_n 3, [1], .null, []) := rfl
theorem cd3_5 : code9 3 5 = some (0, .iconst 4, [1], .int 4, []) := rfl
theorem cd3_6 : code9 3 6 = some (0, .if_icmp .ge 27, [3, 33], .null, []) := rfl
theorem cd3_9 : code9 3 9 = some (0, .aload_n 0, [1], .null, []) := rfl
theorem cd3_10 : code9 3 10 = some (0, .aload_n 1, [1], .null, []) := rfl
theorem cd3_11 : code9 3 11 = some (0, .iload_n 3, [1], .null, []) := rfl
theorem cd3_12 : code9 3 12 = some (0, .invokevirtual 55, [3, 4, 3, 1, 2, 9, 0, 0], .null, []) := rfl
theorem cd3_15 : code9 3 15 = some (0, .aload_n 0, [1], .null, []) := rfl
theorem cd3_16 : code9 3 16 = some (0, .aload_n 1, [1], .null, []) := rfl
theorem cd3_17 : code9 3 17 = some (0, .iload_n 2, [1], .null, []) := rfl
theorem cd3_18 : code9 3 18 = some (0, .invokevirtual 55, [3, 4, 3, 1, 2, 9, 0, 0], .null, []) := rfl
theorem cd3_21 : code9 3 21 = some (0, .lcmp, [1], .null, []) := rfl
theorem cd3_22 : code9 3 22 = some (0, .ifCond .le 5, [3, 27], .null, []) := rfl
theorem cd3_25 : code9 3 25 = some (0, .iload_n 3, [1], .null, []) := rfl
theorem cd3_26 : code9 3 26 = some (0, .istore_n 2, [1], .null, []) := rfl
theorem cd3_27 : code9 3 27 = some (5, .iinc 3 1, [3], .int 1, []) := rfl
theorem cd3_30 : code9 3 30 = some (0, .goto (-26), [3, 4, 4], .null, []) := rfl
theorem cd3_33 : code9 3 33 = some (0, .iload_n 2, [1], .null, []) := rfl
theorem cd3_34 : code9 3 34 = some (0, .ireturn, [1, 1], .null, []) := rfl
def Beliefs_surestKind_4 (N : Nat) (a0 a1 : Nat) : Nat → Int32 → Int32 → FI → FJ → Option (Int32)
  | 0 => fun _ _ _ _ => none
  | n + 1 => fun l2 l3 I J => if 4 ≤ l3 then (some l2) else (Option.bind (Beliefs_rightGuesses N a0 a1 l3 I J) fun x1 => (Option.bind (Beliefs_rightGuesses N a0 a1 l2 I J) fun x2 => (if x1 ≤ x2 then (Beliefs_surestKind_4 N a0 a1 n l2 (l3 + 1) I J) else (Beliefs_surestKind_4 N a0 a1 n l3 (l3 + 1) I J))))
def Beliefs_surestKind (N : Nat) (a0 a1 : Nat) (I : FI) (J : FJ) : Option (Int32) := Beliefs_surestKind_4 N a0 a1 N 0 1 I J
set_option maxRecDepth 8000 in
theorem t_Beliefs_surestKind_4 {d : Nat} {N : Nat} {a0 a1 : Nat} {c : Nat × Nat} {S : Nat → Nat × Nat} {P : Nat → Nat → Option Nat} {r : Int32} (hd : 2 ≤ (d + 1)) (h0 : O0 S P a0) (h1 : O6 S P a1) : ∀ (n : Nat) (l2 : Int32) (l3 : Int32) (I : FI) (J : FJ), Beliefs_surestKind_4 N a0 a1 n l2 l3 I J = some r → Go (d + 1) M_Beliefs_surestKind 4 [some (.ref a0), some (.ref a1), some (.int l2), some (.int l3)] [] (c, S, I, J, P) (some (.int r), false, (c, S, I, J, P)) := by
  intro n
  induction n with
  | zero =>
    intro l2 l3 I J h
    cases h
  | succ n ih =>
    intro l2 l3 I J h
    unfold Beliefs_surestKind_4 at h
    refine g_iload_n cd3_4 rfl rfl ?_
    refine g_iconst cd3_5 rfl ?_
    refine g_icmp_ge cd3_6 rfl (fun hb => ?_) (fun hb => ?_)
    · have h := ifpE hb h
      refine g_iload_n cd3_33 rfl rfl ?_
      exact g_iret cd3_34 (Or.inl rfl) (by obtain rfl := Option.some.inj h; rfl)
    · have h := ifnE hb h
      refine g_aload_n cd3_9 rfl rfl ?_
      refine g_aload_n cd3_10 rfl rfl ?_
      refine g_iload_n cd3_11 rfl rfl ?_
      obtain ⟨x1, hx, h⟩ := bnd h
      refine g_callVJ (L := [some (.ref a0), some (.ref a1), some (.int l3), none, none, none, none, none, none]) cd3_12 rfl rfl rfl rfl rfl (O0.o h0) (t_Beliefs_rightGuesses (by omega) h0 h1 hx) ?_
      refine g_aload_n cd3_15 rfl rfl ?_
      refine g_aload_n cd3_16 rfl rfl ?_
      refine g_iload_n cd3_17 rfl rfl ?_
      obtain ⟨x2, hx, h⟩ := bnd h
      refine g_callVJ (L := [some (.ref a0), some (.ref a1), some (.int l2), none, none, none, none, none, none]) cd3_18 rfl rfl rfl rfl rfl (O0.o h0) (t_Beliefs_rightGuesses (by omega) h0 h1 hx) ?_
      refine g_lcmp cd3_21 rfl ?_
      refine g_if_le cd3_22 rfl (fun hb => ?_) (fun hb => ?_)
      · have h := ifpE (lgc_le.mp hb) h
        refine g_iinc (ls2 := [some (.ref a0), some (.ref a1), some (.int l2), some (.int (l3 + 1))]) cd3_27 rfl rfl rfl ?_
        refine g_goto (ls2 := [some (.ref a0), some (.ref a1), some (.int l2), some (.int (l3 + 1))]) cd3_30 rfl rfl ?_
        exact ih l2 (l3 + 1) I J h
      · have h := ifnE (fun q => hb (lgc_le.mpr q)) h
        refine g_iload_n cd3_25 rfl rfl ?_
        refine g_istore_n (ls2 := [some (.ref a0), some (.ref a1), some (.int l3), some (.int l3)]) cd3_26 rfl rfl ?_
        refine g_iinc (ls2 := [some (.ref a0), some (.ref a1), some (.int l3), some (.int (l3 + 1))]) cd3_27 rfl rfl rfl ?_
        refine g_goto (ls2 := [some (.ref a0), some (.ref a1), some (.int l3), some (.int (l3 + 1))]) cd3_30 rfl rfl ?_
        exact ih l3 (l3 + 1) I J h
set_option maxRecDepth 8000 in
theorem t_Beliefs_surestKind {d : Nat} {N : Nat} {a0 a1 : Nat} {c : Nat × Nat} {S : Nat → Nat × Nat} {P : Nat → Nat → Option Nat} {I : FI} {J : FJ} {r : Int32} (hd : 2 ≤ d) (h0 : O0 S P a0) (h1 : O6 S P a1) (h : Beliefs_surestKind N a0 a1 I J = some r) : Go d M_Beliefs_surestKind 0 [some (.ref a0), some (.ref a1), none, none] [] (c, S, I, J, P) (some (.int r), false, (c, S, I, J, P)) := by
  obtain ⟨d, rfl⟩ : ∃ e, d = e + 1 := ⟨d - 1, by omega⟩
  unfold Beliefs_surestKind at h
  refine g_iconst cd3_0 rfl ?_
  refine g_istore_n (ls2 := [some (.ref a0), some (.ref a1), some (.int 0), none]) cd3_1 rfl rfl ?_
  refine g_iconst cd3_2 rfl ?_
  refine g_istore_n (ls2 := [some (.ref a0), some (.ref a1), some (.int 0), some (.int 1)]) cd3_3 rfl rfl ?_
  exact t_Beliefs_surestKind_4 hd h0 h1 _ 0 1 I J h
/-! HiddenOrLost$Beliefs.shareOf(LHiddenOrLost$Land;I)J -/
theorem cd6_0 : code9 6 0 = some (0, .lconst 0, [1], .long 0, []) := rfl
theorem cd6_1 : code9 6 1 = some (0, .lstore_n 3, [1], .null, []) := rfl
theorem cd6_2 : code9 6 2 = some (0, .iconst 0, [1], .int 0, []) := rfl
theorem cd6_3 : code9 6 3 = some (0, .istore 5, [2], .null, []) := rfl
theorem cd6_5 : code9 6 5 = some (7, .iload 5, [2], .null, []) := rfl
theorem cd6_7 : code9 6 7 = some (0, .iconst 3, [1], .int 3, []) := rfl
theorem cd6_8 : code9 6 8 = some (0, .if_icmp .ge 32, [3, 40], .null, []) := rfl
theorem cd6_11 : code9 6 11 = some (0, .lload_n 3, [1], .null, []) := rfl
theorem cd6_12 : code9 6 12 = some (0, .aload_n 0, [1], .null, []) := rfl
theorem cd6_13 : code9 6 13 = some (0, .getfield 9, [3, 0, 0, 2], .null, []) := rfl
theorem cd6_16 : code9 6 16 = some (0, .iload 5, [2], .null, []) := rfl
theorem cd6_18 : code9 6 18 = some (0, .laload, [1], .null, []) := rfl
theorem cd6_19 : code9 6 19 = some (0, .aload_n 1, [1], .null, []) := rfl
theorem cd6_20 : code9 6 20 = some (0, .getfield 59, [3, 6, 7, 2], .null, []) := rfl
theorem cd6_23 : code9 6 23 = some (0, .iload 5, [2], .null, []) := rfl
theorem cd6_25 : code9 6 25 = some (0, .iconst 3, [1], .int 3, []) := rfl
theorem cd6_26 : code9 6 26 = some (0, .imul, [1], .null, []) := rfl
theorem cd6_27 : code9 6 27 = some (0, .iload_n 2, [1], .null, []) := rfl
theorem cd6_28 : code9 6 28 = some (0, .iadd, [1], .null, []) := rfl
theorem cd6_29 : code9 6 29 = some (0, .iaload, [1], .null, []) := rfl
theorem cd6_30 : code9 6 30 = some (0, .i2l, [1], .null, []) := rfl
theorem cd6_31 : code9 6 31 = some (0, .lmul, [1], .null, []) := rfl
theorem cd6_32 : code9 6 32 = some (0, .ladd, [1], .null, []) := rfl
theorem cd6_33 : code9 6 33 = some (0, .lstore_n 3, [1], .null, []) := rfl
theorem cd6_34 : code9 6 34 = some (0, .iinc 5 1, [3], .int 1, []) := rfl
theorem cd6_37 : code9 6 37 = some (0, .goto (-32), [3, 5, 6], .null, []) := rfl
theorem cd6_40 : code9 6 40 = some (0, .lload_n 3, [1], .null, []) := rfl
theorem cd6_41 : code9 6 41 = some (0, .lreturn, [1], .null, []) := rfl
def Beliefs_shareOf_5 (N : Nat) (a0 a1 : Nat) : Nat → Int32 → Int64 → Int32 → FI → FJ → Option (Int64)
  | 0 => fun _ _ _ _ _ => none
  | n + 1 => fun l2 l3 l5 I J => if 3 ≤ l5 then (some l3) else (if in9 l5 3 then (if in9 ((l5 * 3) + l2) 9 then (Beliefs_shareOf_5 N a0 a1 n l2 (l3 + ((J (a0 + 1) l5.toNatClampNeg) * ((I (a1 + 8) (((l5 * 3) + l2).toNatClampNeg)).toInt64))) (l5 + 1) I J) else none) else none)
def Beliefs_shareOf (N : Nat) (a0 a1 : Nat) (l2 : Int32) (I : FI) (J : FJ) : Option (Int64) := Beliefs_shareOf_5 N a0 a1 N l2 0 0 I J
set_option maxRecDepth 8000 in
theorem t_Beliefs_shareOf_5 {d : Nat} {N : Nat} {a0 a1 : Nat} {c : Nat × Nat} {S : Nat → Nat × Nat} {P : Nat → Nat → Option Nat} {r : Int64} (hd : 0 ≤ d) (h0 : O0 S P a0) (h1 : O6 S P a1) : ∀ (n : Nat) (l2 : Int32) (l3 : Int64) (l5 : Int32) (I : FI) (J : FJ), Beliefs_shareOf_5 N a0 a1 n l2 l3 l5 I J = some r → Go d M_Beliefs_shareOf 5 [some (.ref a0), some (.ref a1), some (.int l2), some (.long l3), none, some (.int l5)] [] (c, S, I, J, P) (some (.long r), false, (c, S, I, J, P)) := by
  intro n
  induction n with
  | zero =>
    intro l2 l3 l5 I J h
    cases h
  | succ n ih =>
    intro l2 l3 l5 I J h
    unfold Beliefs_shareOf_5 at h
    refine g_iload cd6_5 rfl rfl ?_
    refine g_iconst cd6_7 rfl ?_
    refine g_icmp_ge cd6_8 rfl (fun hb => ?_) (fun hb => ?_)
    · have h := ifpE hb h
      refine g_lload_n cd6_40 rfl rfl ?_
      exact g_lret cd6_41 (by obtain rfl := Option.some.inj h; rfl)
    · have h := ifnE hb h
      refine g_lload_n cd6_11 rfl rfl ?_
      refine g_aload_n cd6_12 rfl rfl ?_
      refine g_getP cd6_13 rfl (O0.o h0) (show P a0 0 = some (a0 + 1) from O0.p0 h0) ?_
      refine g_iload cd6_16 rfl rfl ?_
      obtain ⟨hg1, h⟩ := grd h
      refine G_lald cd6_18 rfl (show S (a0 + 1) = (4, 3) from O0.s0 h0) hg1 ?_
      refine g_aload_n cd6_19 rfl rfl ?_
      refine g_getP cd6_20 rfl (O6.o h1) (show P a1 7 = some (a1 + 8) from O6.p7 h1) ?_
      refine g_iload cd6_23 rfl rfl ?_
      refine g_iconst cd6_25 rfl ?_
      refine g_imul cd6_26 rfl ?_
      refine g_iload_n cd6_27 rfl rfl ?_
      refine g_iadd cd6_28 rfl ?_
      obtain ⟨hg2, h⟩ := grd h
      refine G_iald cd6_29 rfl (show S (a1 + 8) = (1, 9) from O6.s7 h1) hg2 ?_
      refine g_i2l cd6_30 rfl ?_
      refine g_lmul cd6_31 rfl ?_
      refine g_ladd cd6_32 rfl ?_
      refine g_lstore_n (ls2 := [some (.ref a0), some (.ref a1), some (.int l2), some (.long (l3 + ((J (a0 + 1) l5.toNatClampNeg) * ((I (a1 + 8) (((l5 * 3) + l2).toNatClampNeg)).toInt64)))), none, some (.int l5)]) cd6_33 rfl rfl ?_
      refine g_iinc (ls2 := [some (.ref a0), some (.ref a1), some (.int l2), some (.long (l3 + ((J (a0 + 1) l5.toNatClampNeg) * ((I (a1 + 8) (((l5 * 3) + l2).toNatClampNeg)).toInt64)))), none, some (.int (l5 + 1))]) cd6_34 rfl rfl rfl ?_
      refine g_goto (ls2 := [some (.ref a0), some (.ref a1), some (.int l2), some (.long (l3 + ((J (a0 + 1) l5.toNatClampNeg) * ((I (a1 + 8) (((l5 * 3) + l2).toNatClampNeg)).toInt64)))), none, some (.int (l5 + 1))]) cd6_37 rfl rfl ?_
      exact ih l2 (l3 + ((J (a0 + 1) l5.toNatClampNeg) * ((I (a1 + 8) (((l5 * 3) + l2).toNatClampNeg)).toInt64))) (l5 + 1) I J h
set_option maxRecDepth 8000 in
theorem t_Beliefs_shareOf {d : Nat} {N : Nat} {a0 a1 : Nat} {c : Nat × Nat} {S : Nat → Nat × Nat} {P : Nat → Nat → Option Nat} {I : FI} {J : FJ} {l2 : Int32} {r : Int64} (hd : 0 ≤ d) (h0 : O0 S P a0) (h1 : O6 S P a1) (h : Beliefs_shareOf N a0 a1 l2 I J = some r) : Go d M_Beliefs_shareOf 0 [some (.ref a0), some (.ref a1), some (.int l2), none, none, none] [] (c, S, I, J, P) (some (.long r), false, (c, S, I, J, P)) := by
  unfold Beliefs_shareOf at h
  refine g_lconst cd6_0 rfl ?_
  refine g_lstore_n (ls2 := [some (.ref a0), some (.ref a1), some (.int l2), some (.long 0), none, none]) cd6_1 rfl rfl ?_
  refine g_iconst cd6_2 rfl ?_
  refine g_istore (ls2 := [some (.ref a0), some (.ref a1), some (.int l2), some (.long 0), none, some (.int 0)]) cd6_3 rfl rfl ?_
  exact t_Beliefs_shareOf_5 hd h0 h1 _ l2 0 0 I J h
/-! HiddenOrLost$Beliefs.tellingPays(LHiddenOrLost$Land;I)Z -/
theorem cd5_0 : code9 5 0 = some (0, .iconst 2, [1], .int 2, []) := rfl
theorem cd5_1 : code9 5 1 = some (0, .iload_n 2, [1], .null, []) := rfl
theorem cd5_2 : code9 5 2 = some (0, .imul, [1], .null, []) := rfl
theorem cd5_3 : code9 5 3 = some (0, .i2l, [1], .null, []) := rfl
theorem cd5_4 : code9 5 4 = some (0, .aload_n 0, [1], .null, []) := rfl
theorem cd5_5 : code9 5 5 = some (0, .aload_n 1, [1], .null, []) := rfl
theorem cd5_6 : code9 5 6 = some (0, .iconst 1, [1], .int 1, []) := rfl
theorem cd5_7 : code9 5 7 = some (0, .invokevirtual 62, [3, 6, 3, 1, 2, 6, 0, 0], .null, []) := rfl
theorem cd5_10 : code9 5 10 = some (0, .lmul, [1], .null, []) := rfl
theorem cd5_11 : code9 5 11 = some (0, .lstore_n 3, [1], .null, []) := rfl
theorem cd5_12 : code9 5 12 = some (0, .iload_n 2, [1], .null, []) := rfl
theorem cd5_13 : code9 5 13 = some (0, .i2l, [1], .null, []) := rfl
theorem cd5_14 : code9 5 14 = some (0, .ldc2_w 65, [3], .long 12, []) := rfl
theorem cd5_17 : code9 5 17 = some (0, .ldc2_w 47, [3], .long 3, []) := rfl
theorem cd5_20 : code9 5 20 = some (0, .aload_n 1, [1], .null, []) := rfl
theorem cd5_21 : code9 5 21 = some (0, .getfield 67, [3, 6, 10, 0], .null, []) := rfl
theorem cd5_24 : code9 5 24 = some (0, .i2l, [1], .null, []) := rfl
theorem cd5_25 : code9 5 25 = some (0, .lmul, [1], .null, []) := rfl
theorem cd5_26 : code9 5 26 = some (0, .lsub, [1], .null, []) := rfl
theorem cd5_27 : code9 5 27 = some (0, .lmul, [1], .null, []) := rfl
theorem cd5_28 : code9 5 28 = some (0, .aload_n 0, [1], .null, []) := rfl
theorem cd5_29 : code9 5 29 = some (0, .getfield 15, [3, 0, 1, 1], .null, []) := rfl
theorem cd5_32 : code9 5 32 = some (0, .lmul, [1], .null, []) := rfl
theorem cd5_33 : code9 5 33 = some (0, .lstore 5, [2], .null, []) := rfl
theorem cd5_35 : code9 5 35 = some (0, .lload_n 3, [1], .null, []) := rfl
theorem cd5_36 : code9 5 36 = some (0, .lload 5, [2], .null, []) := rfl
theorem cd5_38 : code9 5 38 = some (0, .lcmp, [1], .null, []) := rfl
theorem cd5_39 : code9 5 39 = some (0, .ifCond .lt 7, [3, 46], .null, []) := rfl
theorem cd5_42 : code9 5 42 = some (0, .iconst 1, [1], .int 1, []) := rfl
theorem cd5_43 : code9 5 43 = some (0, .goto 4, [3, 47, 7], .null, []) := rfl
theorem cd5_46 : code9 5 46 = some (0, .iconst 0, [1], .int 0, []) := rfl
theorem cd5_47 : code9 5 47 = some (8, .ireturn, [1, 3], .null, []) := rfl
def Beliefs_tellingPays (N : Nat) (a0 a1 : Nat) (l2 : Int32) (I : FI) (J : FJ) : Option (Bool) := Option.bind (Beliefs_shareOf N a0 a1 1 I J) fun x1 => (if (((2 * l2).toInt64) * x1) < ((l2.toInt64 * (12 - (3 * ((I a1 10).toInt64)))) * (J a0 1)) then (some false) else (some true))
set_option maxRecDepth 8000 in
theorem t_Beliefs_tellingPays {d : Nat} {N : Nat} {a0 a1 : Nat} {c : Nat × Nat} {S : Nat → Nat × Nat} {P : Nat → Nat → Option Nat} {I : FI} {J : FJ} {l2 : Int32} {r : Bool} (hd : 1 ≤ d) (h0 : O0 S P a0) (h1 : O6 S P a1) (h : Beliefs_tellingPays N a0 a1 l2 I J = some r) : Go d M_Beliefs_tellingPays 0 [some (.ref a0), some (.ref a1), some (.int l2), none, none, none, none] [] (c, S, I, J, P) (some (.int (b2i r)), false, (c, S, I, J, P)) := by
  obtain ⟨d, rfl⟩ : ∃ e, d = e + 1 := ⟨d - 1, by omega⟩
  unfold Beliefs_tellingPays at h
  refine g_iconst cd5_0 rfl ?_
  refine g_iload_n cd5_1 rfl rfl ?_
  refine g_imul cd5_2 rfl ?_
  refine g_i2l cd5_3 rfl ?_
  refine g_aload_n cd5_4 rfl rfl ?_
  refine g_aload_n cd5_5 rfl rfl ?_
  refine g_iconst cd5_6 rfl ?_
  obtain ⟨x1, hx, h⟩ := bnd h
  refine g_callVJ (L := [some (.ref a0), some (.ref a1), some (.int 1), none, none, none]) cd5_7 rfl rfl rfl rfl rfl (O0.o h0) (t_Beliefs_shareOf (by omega) h0 h1 hx) ?_
  refine g_lmul cd5_10 rfl ?_
  refine g_lstore_n (ls2 := [some (.ref a0), some (.ref a1), some (.int l2), some (.long (((2 * l2).toInt64) * x1)), none, none, none]) cd5_11 rfl rfl ?_
  refine g_iload_n cd5_12 rfl rfl ?_
  refine g_i2l cd5_13 rfl ?_
  refine g_ldc2_w cd5_14 rfl ?_
  refine g_ldc2_w cd5_17 rfl ?_
  refine g_aload_n cd5_20 rfl rfl ?_
  refine g_getI cd5_21 rfl (O6.o h1) ?_
  refine g_i2l cd5_24 rfl ?_
  refine g_lmul cd5_25 rfl ?_
  refine g_lsub cd5_26 rfl ?_
  refine g_lmul cd5_27 rfl ?_
  refine g_aload_n cd5_28 rfl rfl ?_
  refine g_getJ cd5_29 rfl (O0.o h0) ?_
  refine g_lmul cd5_32 rfl ?_
  refine g_lstore (ls2 := [some (.ref a0), some (.ref a1), some (.int l2), some (.long (((2 * l2).toInt64) * x1)), none, some (.long ((l2.toInt64 * (12 - (3 * ((I a1 10).toInt64)))) * (J a0 1))), none]) cd5_33 rfl rfl ?_
  refine g_lload_n cd5_35 rfl rfl ?_
  refine g_lload cd5_36 rfl rfl ?_
  refine g_lcmp cd5_38 rfl ?_
  refine g_if_lt cd5_39 rfl (fun hb => ?_) (fun hb => ?_)
  · have h := ifpE (lgc_lt.mp hb) h
    refine g_iconst cd5_46 rfl ?_
    exact g_iret cd5_47 (Or.inr ⟨rfl, Or.inl rfl⟩) (by obtain rfl := Option.some.inj h; rfl)
  · have h := ifnE (fun q => hb (lgc_lt.mpr q)) h
    refine g_iconst cd5_42 rfl ?_
    refine g_goto (ls2 := [some (.ref a0), some (.ref a1), some (.int l2), some (.long (((2 * l2).toInt64) * x1)), none, some (.long ((l2.toInt64 * (12 - (3 * ((I a1 10).toInt64)))) * (J a0 1))), none]) cd5_43 rfl rfl ?_
    exact g_iret cd5_47 (Or.inr ⟨rfl, Or.inr rfl⟩) (by obtain rfl := Option.some.inj h; rfl)
/-! HiddenOrLost$Beliefs.commonDivisor(JJ)J -/
theorem cd8_0 : code9 8 0 = some (0, .lload_n 0, [1], .null, []) := rfl
theorem cd8_1 : code9 8 1 = some (0, .lstore 4, [2], .null, []) := rfl
theorem cd8_3 : code9 8 3 = some (0, .lload_n 2, [1], .null, []) := rfl
theorem cd8_4 : code9 8 4 = some (0, .lstore 6, [2], .null, []) := rfl
theorem cd8_6 : code9 8 6 = some (0, .iconst 0, [1], .int 0, []) := rfl
theorem cd8_7 : code9 8 7 = some (0, .istore 8, [2], .null, []) := rfl
theorem cd8_9 : code9 8 9 = some (10, .iload 8, [2], .null, []) := rfl
theorem cd8_11 : code9 8 11 = some (0, .sipush 200, [3], .int 200, []) := rfl
theorem cd8_14 : code9 8 14 = some (0, .if_icmp .ge 31, [3, 45], .null, []) := rfl
theorem cd8_17 : code9 8 17 = some (0, .lload 6, [2], .null, []) := rfl
theorem cd8_19 : code9 8 19 = some (0, .lconst 0, [1], .long 0, []) := rfl
theorem cd8_20 : code9 8 20 = some (0, .lcmp, [1], .null, []) := rfl
theorem cd8_21 : code9 8 21 = some (0, .ifCond .eq 24, [3, 45], .null, []) := rfl
theorem cd8_24 : code9 8 24 = some (0, .lload 4, [2], .null, []) := rfl
theorem cd8_26 : code9 8 26 = some (0, .lload 6, [2], .null, []) := rfl
theorem cd8_28 : code9 8 28 = some (0, .lrem, [1], .null, []) := rfl
theorem cd8_29 : code9 8 29 = some (0, .lstore 9, [2], .null, []) := rfl
theorem cd8_31 : code9 8 31 = some (0, .lload 6, [2], .null, []) := rfl
theorem cd8_33 : code9 8 33 = some (0, .lstore 4, [2], .null, []) := rfl
theorem cd8_35 : code9 8 35 = some (0, .lload 9, [2], .null, []) := rfl
theorem cd8_37 : code9 8 37 = some (0, .lstore 6, [2], .null, []) := rfl
theorem cd8_39 : code9 8 39 = some (0, .iinc 8 1, [3], .int 1, []) := rfl
theorem cd8_42 : code9 8 42 = some (0, .goto (-33), [3, 9, 9], .null, []) := rfl
theorem cd8_45 : code9 8 45 = some (10, .lload 4, [2], .null, []) := rfl
theorem cd8_47 : code9 8 47 = some (0, .lreturn, [1], .null, []) := rfl
def Beliefs_commonDivisor_9 (N : Nat) : Nat → Int64 → Int64 → Int64 → Int64 → Int32 → Option (Int64)
  | 0 => fun _ _ _ _ _ => none
  | n + 1 => fun l0 l2 l4 l6 l8 => if 200 ≤ l8 then (some l4) else (if l6 = (0 : Int64) then (some l4) else (if ¬ l6 = 0 then (Beliefs_commonDivisor_9 N n l0 l2 l6 (l4 - l4 / l6 * l6) (l8 + 1)) else none))
def Beliefs_commonDivisor (N : Nat) (l0 : Int64) (l2 : Int64) : Option (Int64) := Beliefs_commonDivisor_9 N N l0 l2 l0 l2 0
set_option maxRecDepth 8000 in
theorem t_Beliefs_commonDivisor_9 {d : Nat} {N : Nat} {c : Nat × Nat} {S : Nat → Nat × Nat} {P : Nat → Nat → Option Nat} {r : Int64} (hd : 0 ≤ d) : ∀ (n : Nat) (l0 : Int64) (l2 : Int64) (l4 : Int64) (l6 : Int64) (l8 : Int32) (I : FI) (J : FJ), Beliefs_commonDivisor_9 N n l0 l2 l4 l6 l8 = some r → Go d M_Beliefs_commonDivisor 9 [some (.long l0), none, some (.long l2), none, some (.long l4), none, some (.long l6), none, some (.int l8), none, none] [] (c, S, I, J, P) (some (.long r), false, (c, S, I, J, P)) := by
  intro n
  induction n with
  | zero =>
    intro l0 l2 l4 l6 l8 I J h
    cases h
  | succ n ih =>
    intro l0 l2 l4 l6 l8 I J h
    unfold Beliefs_commonDivisor_9 at h
    refine g_iload cd8_9 rfl rfl ?_
    refine g_sipush cd8_11 rfl ?_
    refine g_icmp_ge cd8_14 rfl (fun hb => ?_) (fun hb => ?_)
    · have h := ifpE hb h
      refine g_lload cd8_45 rfl rfl ?_
      exact g_lret cd8_47 (by obtain rfl := Option.some.inj h; rfl)
    · have h := ifnE hb h
      refine g_lload cd8_17 rfl rfl ?_
      refine g_lconst cd8_19 rfl ?_
      refine g_lcmp cd8_20 rfl ?_
      refine g_if_eq cd8_21 rfl (fun hb => ?_) (fun hb => ?_)
      · have h := ifpE (lgc_eq.mp hb) h
        refine g_lload cd8_45 rfl rfl ?_
        exact g_lret cd8_47 (by obtain rfl := Option.some.inj h; rfl)
      · have h := ifnE (fun q => hb (lgc_eq.mpr q)) h
        refine g_lload cd8_24 rfl rfl ?_
        refine g_lload cd8_26 rfl rfl ?_
        obtain ⟨hg1, h⟩ := grd h
        refine g_lrem cd8_28 rfl hg1 ?_
        refine g_lstore (ls2 := [some (.long l0), none, some (.long l2), none, some (.long l4), none, some (.long l6), none, some (.int l8), some (.long (l4 - l4 / l6 * l6)), none]) cd8_29 rfl rfl ?_
        refine g_lload cd8_31 rfl rfl ?_
        refine g_lstore (ls2 := [some (.long l0), none, some (.long l2), none, some (.long l6), none, some (.long l6), none, some (.int l8), some (.long (l4 - l4 / l6 * l6)), none]) cd8_33 rfl rfl ?_
        refine g_lload cd8_35 rfl rfl ?_
        refine g_lstore (ls2 := [some (.long l0), none, some (.long l2), none, some (.long l6), none, some (.long (l4 - l4 / l6 * l6)), none, some (.int l8), some (.long (l4 - l4 / l6 * l6)), none]) cd8_37 rfl rfl ?_
        refine g_iinc (ls2 := [some (.long l0), none, some (.long l2), none, some (.long l6), none, some (.long (l4 - l4 / l6 * l6)), none, some (.int (l8 + 1)), some (.long (l4 - l4 / l6 * l6)), none]) cd8_39 rfl rfl rfl ?_
        refine g_goto (ls2 := [some (.long l0), none, some (.long l2), none, some (.long l6), none, some (.long (l4 - l4 / l6 * l6)), none, some (.int (l8 + 1)), none, none]) cd8_42 rfl rfl ?_
        exact ih l0 l2 l6 (l4 - l4 / l6 * l6) (l8 + 1) I J h
set_option maxRecDepth 8000 in
theorem t_Beliefs_commonDivisor {d : Nat} {N : Nat} {c : Nat × Nat} {S : Nat → Nat × Nat} {P : Nat → Nat → Option Nat} {I : FI} {J : FJ} {l0 : Int64} {l2 : Int64} {r : Int64} (hd : 0 ≤ d) (h : Beliefs_commonDivisor N l0 l2 = some r) : Go d M_Beliefs_commonDivisor 0 [some (.long l0), none, some (.long l2), none, none, none, none, none, none, none, none] [] (c, S, I, J, P) (some (.long r), false, (c, S, I, J, P)) := by
  unfold Beliefs_commonDivisor at h
  refine g_lload_n cd8_0 rfl rfl ?_
  refine g_lstore (ls2 := [some (.long l0), none, some (.long l2), none, some (.long l0), none, none, none, none, none, none]) cd8_1 rfl rfl ?_
  refine g_lload_n cd8_3 rfl rfl ?_
  refine g_lstore (ls2 := [some (.long l0), none, some (.long l2), none, some (.long l0), none, some (.long l2), none, none, none, none]) cd8_4 rfl rfl ?_
  refine g_iconst cd8_6 rfl ?_
  refine g_istore (ls2 := [some (.long l0), none, some (.long l2), none, some (.long l0), none, some (.long l2), none, some (.int 0), none, none]) cd8_7 rfl rfl ?_
  exact t_Beliefs_commonDivisor_9 hd _ l0 l2 l0 l2 0 I J h
/-! HiddenOrLost$Beliefs.termOf(JJI)J -/
theorem cd7_0 : code9 7 0 = some (0, .lload_n 0, [1], .null, []) := rfl
theorem cd7_1 : code9 7 1 = some (0, .lload_n 2, [1], .null, []) := rfl
theorem cd7_2 : code9 7 2 = some (0, .invokestatic 70, [3, 8, 2, 0, 2, 11, 0, 0], .null, []) := rfl
theorem cd7_5 : code9 7 5 = some (0, .lstore 5, [2], .null, []) := rfl
theorem cd7_7 : code9 7 7 = some (0, .lload 5, [2], .null, []) := rfl
theorem cd7_9 : code9 7 9 = some (0, .lconst 0, [1], .long 0, []) := rfl
theorem cd7_10 : code9 7 10 = some (0, .lcmp, [1], .null, []) := rfl
theorem cd7_11 : code9 7 11 = some (0, .ifCond .ne 5, [3, 16], .null, []) := rfl
theorem cd7_14 : code9 7 14 = some (0, .lconst 0, [1], .long 0, []) := rfl
theorem cd7_15 : code9 7 15 = some (0, .lreturn, [1], .null, []) := rfl
theorem cd7_16 : code9 7 16 = some (0, .iload 4, [2], .null, []) := rfl
theorem cd7_18 : code9 7 18 = some (0, .ifCond .ne 10, [3, 28], .null, []) := rfl
theorem cd7_21 : code9 7 21 = some (0, .lload_n 0, [1], .null, []) := rfl
theorem cd7_22 : code9 7 22 = some (0, .lload 5, [2], .null, []) := rfl
theorem cd7_24 : code9 7 24 = some (0, .ldiv, [1], .null, []) := rfl
theorem cd7_25 : code9 7 25 = some (0, .goto 7, [3, 32, 7], .null, []) := rfl
theorem cd7_28 : code9 7 28 = some (0, .lload_n 2, [1], .null, []) := rfl
theorem cd7_29 : code9 7 29 = some (0, .lload 5, [2], .null, []) := rfl
theorem cd7_31 : code9 7 31 = some (0, .ldiv, [1], .null, []) := rfl
theorem cd7_32 : code9 7 32 = some (8, .lreturn, [1], .null, []) := rfl
def Beliefs_termOf (N : Nat) (l0 : Int64) (l2 : Int64) (l4 : Int32) : Option (Int64) := Option.bind (Beliefs_commonDivisor N l0 l2) fun x1 => (if x1 = (0 : Int64) then (some 0) else (if l4 = 0 then (if ¬ x1 = 0 then (some (l0 / x1)) else none) else (if ¬ x1 = 0 then (some (l2 / x1)) else none)))
set_option maxRecDepth 8000 in
theorem t_Beliefs_termOf {d : Nat} {N : Nat} {c : Nat × Nat} {S : Nat → Nat × Nat} {P : Nat → Nat → Option Nat} {I : FI} {J : FJ} {l0 : Int64} {l2 : Int64} {l4 : Int32} {r : Int64} (hd : 1 ≤ d) (h : Beliefs_termOf N l0 l2 l4 = some r) : Go d M_Beliefs_termOf 0 [some (.long l0), none, some (.long l2), none, some (.int l4), none, none] [] (c, S, I, J, P) (some (.long r), false, (c, S, I, J, P)) := by
  obtain ⟨d, rfl⟩ : ∃ e, d = e + 1 := ⟨d - 1, by omega⟩
  unfold Beliefs_termOf at h
  refine g_lload_n cd7_0 rfl rfl ?_
  refine g_lload_n cd7_1 rfl rfl ?_
  obtain ⟨x1, hx, h⟩ := bnd h
  refine g_callSJ (L := [some (.long l0), none, some (.long l2), none, none, none, none, none, none, none, none]) cd7_2 rfl rfl rfl rfl rfl (t_Beliefs_commonDivisor (by omega)  hx) ?_
  refine g_lstore (ls2 := [some (.long l0), none, some (.long l2), none, some (.int l4), some (.long x1), none]) cd7_5 rfl rfl ?_
  refine g_lload cd7_7 rfl rfl ?_
  refine g_lconst cd7_9 rfl ?_
  refine g_lcmp cd7_10 rfl ?_
  refine g_if_ne cd7_11 rfl (fun hb => ?_) (fun hb => ?_)
  · have h := ifpE (lgc_eq.mp hb) h
    refine g_lconst cd7_14 rfl ?_
    exact g_lret cd7_15 (by obtain rfl := Option.some.inj h; rfl)
  · have h := ifnE (fun q => hb (lgc_eq.mpr q)) h
    refine g_iload cd7_16 rfl rfl ?_
    refine g_if_ne cd7_18 rfl (fun hb => ?_) (fun hb => ?_)
    · have h := ifpE hb h
      refine g_lload_n cd7_21 rfl rfl ?_
      refine g_lload cd7_22 rfl rfl ?_
      obtain ⟨hg2, h⟩ := grd h
      refine g_ldiv cd7_24 rfl hg2 ?_
      refine g_goto (ls2 := [some (.long l0), none, some (.long l2), none, some (.int l4), some (.long x1), none]) cd7_25 rfl rfl ?_
      exact g_lret cd7_32 (by obtain rfl := Option.some.inj h; rfl)
    · have h := ifnE hb h
      refine g_lload_n cd7_28 rfl rfl ?_
      refine g_lload cd7_29 rfl rfl ?_
      obtain ⟨hg3, h⟩ := grd h
      refine g_ldiv cd7_31 rfl hg3 ?_
      exact g_lret cd7_32 (by obtain rfl := Option.some.inj h; rfl)
/-! HiddenOrLost$Tape.skipBlanks()V -/
theorem cd106_0 : code9 106 0 = some (2, .aload_n 0, [1], .null, []) := rfl
theorem cd106_1 : code9 106 1 = some (0, .getfield 33, [3, 10, 6, 0], .null, []) := rfl
theorem cd106_4 : code9 106 4 = some (0, .aload_n 0, [1], .null, []) := rfl
theorem cd106_5 : code9 106 5 = some (0, .getfield 29, [3, 10, 5, 0], .null, []) := rfl
theorem cd106_8 : code9 106 8 = some (0, .if_icmp .ge 44, [3, 52], .null, []) := rfl
theorem cd106_11 : code9 106 11 = some (0, .aload_n 0, [1], .null, []) := rfl
theorem cd106_12 : code9 106 12 = some (0, .getfield 9, [3, 10, 0, 2], .null, []) := rfl
theorem cd106_15 : code9 106 15 = some (0, .aload_n 0, [1], .null, []) := rfl
theorem cd106_16 : code9 106 16 = some (0, .getfield 33, [3, 10, 6, 0], .null, []) := rfl
theorem cd106_19 : code9 106 19 = some (0, .baload, [1], .null, []) := rfl
theorem cd106_20 : code9 106 20 = some (0, .bipush 32, [2], .int 32, []) := rfl
theorem cd106_22 : code9 106 22 = some (0, .if_icmp .eq 17, [3, 39], .null, []) := rfl
theorem cd106_25 : code9 106 25 = some (0, .aload_n 0, [1], .null, []) := rfl
theorem cd106_26 : code9 106 26 = some (0, .getfield 9, [3, 10, 0, 2], .null, []) := rfl
theorem cd106_29 : code9 106 29 = some (0, .aload_n 0, [1], .null, []) := rfl
theorem cd106_30 : code9 106 30 = some (0, .getfield 33, [3, 10, 6, 0], .null, []) := rfl
theorem cd106_33 : code9 106 33 = some (0, .baload, [1], .null, []) := rfl
theorem cd106_34 : code9 106 34 = some (0, .bipush 10, [2], .int 10, []) := rfl
theorem cd106_36 : code9 106 36 = some (0, .if_icmp .ne 16, [3, 52], .null, []) := rfl
theorem cd106_39 : code9 106 39 = some (2, .aload_n 0, [1], .null, []) := rfl
theorem cd106_40 : code9 106 40 = some (0, .dup, [1], .null, []) := rfl
theorem cd106_41 : code9 106 41 = some (0, .getfield 33, [3, 10, 6, 0], .null, []) := rfl
theorem cd106_44 : code9 106 44 = some (0, .iconst 1, [1], .int 1, []) := rfl
theorem cd106_45 : code9 106 45 = some (0, .iadd, [1], .null, []) := rfl
theorem cd106_46 : code9 106 46 = some (0, .putfield 33, [3, 10, 6, 0], .null, []) := rfl
theorem cd106_49 : code9 106 49 = some (0, .goto (-49), [3, 0, 1], .null, []) := rfl
theorem cd106_52 : code9 106 52 = some (2, .return_, [1], .null, []) := rfl
def Tape_skipBlanks_0 (N : Nat) (a0 : Nat) : Nat → FI → Option (FI)
  | 0 => fun _ => none
  | n + 1 => fun I => if (I a0 5) ≤ (I a0 6) then (some I) else (if in9 (I a0 6) 940 then (if (I (a0 + 1) ((I a0 6).toNatClampNeg)) = 32 then (Option.bind (some (up2 I a0 6 ((I a0 6) + 1))) fun I4 => (Tape_skipBlanks_0 N a0 n I4)) else (if (I (a0 + 1) ((I a0 6).toNatClampNeg)) = 10 then (Option.bind (some (up2 I a0 6 ((I a0 6) + 1))) fun I5 => (Tape_skipBlanks_0 N a0 n I5)) else (some I))) else none)
def Tape_skipBlanks (N : Nat) (a0 : Nat) (I : FI) : Option (FI) := if (I a0 5) ≤ (I a0 6) then (some I) else (if in9 (I a0 6) 940 then (if (I (a0 + 1) ((I a0 6).toNatClampNeg)) = 32 then (Option.bind (some (up2 I a0 6 ((I a0 6) + 1))) fun I2 => (Tape_skipBlanks_0 N a0 N I2)) else (if (I (a0 + 1) ((I a0 6).toNatClampNeg)) = 10 then (Option.bind (some (up2 I a0 6 ((I a0 6) + 1))) fun I6 => (Tape_skipBlanks_0 N a0 N I6)) else (some I))) else none)
set_option maxRecDepth 8000 in
theorem t_Tape_skipBlanks_0 {d : Nat} {N : Nat} {a0 : Nat} {c : Nat × Nat} {S : Nat → Nat × Nat} {P : Nat → Nat → Option Nat} {r : FI} (hd : 0 ≤ d) (h0 : O10 S P a0) : ∀ (n : Nat) (I : FI) (J : FJ), Tape_skipBlanks_0 N a0 n I = some r → Go d M_Tape_skipBlanks 0 [some (.ref a0)] [] (c, S, I, J, P) (none, false, (c, S, r, J, P)) := by
  intro n
  induction n with
  | zero =>
    intro  I J h
    cases h
  | succ n ih =>
    intro  I J h
    unfold Tape_skipBlanks_0 at h
    refine g_aload_n cd106_0 rfl rfl ?_
    refine g_getI cd106_1 rfl (O10.o h0) ?_
    refine g_aload_n cd106_4 rfl rfl ?_
    refine g_getI cd106_5 rfl (O10.o h0) ?_
    refine g_icmp_ge cd106_8 rfl (fun hb => ?_) (fun hb => ?_)
    · have h := ifpE hb h
      exact g_vret cd106_52 (by obtain rfl := Option.some.inj h; rfl)
    · have h := ifnE hb h
      refine g_aload_n cd106_11 rfl rfl ?_
      refine g_getP cd106_12 rfl (O10.o h0) (show P a0 0 = some (a0 + 1) from O10.p0 h0) ?_
      refine g_aload_n cd106_15 rfl rfl ?_
      refine g_getI cd106_16 rfl (O10.o h0) ?_
      obtain ⟨hg3, h⟩ := grd h
      refine G_bald cd106_19 rfl (show S (a0 + 1) = (2, 940) from O10.s0 h0) hg3 ?_
      refine g_bipush cd106_20 rfl ?_
      refine g_icmp_eq cd106_22 rfl (fun hb => ?_) (fun hb => ?_)
      · have h := ifpE hb h
        refine g_aload_n cd106_39 rfl rfl ?_
        refine g_dupR cd106_40 rfl ?_
        refine g_getI cd106_41 rfl (O10.o h0) ?_
        refine g_iconst cd106_44 rfl ?_
        refine g_iadd cd106_45 rfl ?_
        obtain ⟨I4, e1, h⟩ := bnd h
        refine G_putI cd106_46 rfl (O10.o h0) (Option.some.inj e1) ?_
        refine g_goto (ls2 := [some (.ref a0)]) cd106_49 rfl rfl ?_
        exact ih  I4 J h
      · have h := ifnE hb h
        refine g_aload_n cd106_25 rfl rfl ?_
        refine g_getP cd106_26 rfl (O10.o h0) (show P a0 0 = some (a0 + 1) from O10.p0 h0) ?_
        refine g_aload_n cd106_29 rfl rfl ?_
        refine g_getI cd106_30 rfl (O10.o h0) ?_
        refine G_bald cd106_33 rfl (show S (a0 + 1) = (2, 940) from O10.s0 h0) hg3 ?_
        refine g_bipush cd106_34 rfl ?_
        refine g_icmp_ne cd106_36 rfl (fun hb => ?_) (fun hb => ?_)
        · have h := ifpE hb h
          refine g_aload_n cd106_39 rfl rfl ?_
          refine g_dupR cd106_40 rfl ?_
          refine g_getI cd106_41 rfl (O10.o h0) ?_
          refine g_iconst cd106_44 rfl ?_
          refine g_iadd cd106_45 rfl ?_
          obtain ⟨I5, e1, h⟩ := bnd h
          refine G_putI cd106_46 rfl (O10.o h0) (Option.some.inj e1) ?_
          refine g_goto (ls2 := [some (.ref a0)]) cd106_49 rfl rfl ?_
          exact ih  I5 J h
        · have h := ifnE hb h
          exact g_vret cd106_52 (by obtain rfl := Option.some.inj h; rfl)
set_option maxRecDepth 8000 in
theorem t_Tape_skipBlanks {d : Nat} {N : Nat} {a0 : Nat} {c : Nat × Nat} {S : Nat → Nat × Nat} {P : Nat → Nat → Option Nat} {I : FI} {J : FJ} {r : FI} (hd : 0 ≤ d) (h0 : O10 S P a0) (h : Tape_skipBlanks N a0 I = some r) : Go d M_Tape_skipBlanks 0 [some (.ref a0)] [] (c, S, I, J, P) (none, false, (c, S, r, J, P)) := by
  unfold Tape_skipBlanks at h
  refine g_aload_n cd106_0 rfl rfl ?_
  refine g_getI cd106_1 rfl (O10.o h0) ?_
  refine g_aload_n cd106_4 rfl rfl ?_
  refine g_getI cd106_5 rfl (O10.o h0) ?_
  refine g_icmp_ge cd106_8 rfl (fun hb => ?_) (fun hb => ?_)
  · have h := ifpE hb h
    exact g_vret cd106_52 (by obtain rfl := Option.some.inj h; rfl)
  · have h := ifnE hb h
    refine g_aload_n cd106_11 rfl rfl ?_
    refine g_getP cd106_12 rfl (O10.o h0) (show P a0 0 = some (a0 + 1) from O10.p0 h0) ?_
    refine g_aload_n cd106_15 rfl rfl ?_
    refine g_getI cd106_16 rfl (O10.o h0) ?_
    obtain ⟨hg1, h⟩ := grd h
    refine G_bald cd106_19 rfl (show S (a0 + 1) = (2, 940) from O10.s0 h0) hg1 ?_
    refine g_bipush cd106_20 rfl ?_
    refine g_icmp_eq cd106_22 rfl (fun hb => ?_) (fun hb => ?_)
    · have h := ifpE hb h
      refine g_aload_n cd106_39 rfl rfl ?_
      refine g_dupR cd106_40 rfl ?_
      refine g_getI cd106_41 rfl (O10.o h0) ?_
      refine g_iconst cd106_44 rfl ?_
      refine g_iadd cd106_45 rfl ?_
      obtain ⟨I2, e1, h⟩ := bnd h
      refine G_putI cd106_46 rfl (O10.o h0) (Option.some.inj e1) ?_
      refine g_goto (ls2 := [some (.ref a0)]) cd106_49 rfl rfl ?_
      exact t_Tape_skipBlanks_0 hd h0 _  I2 J h
    · have h := ifnE hb h
      refine g_aload_n cd106_25 rfl rfl ?_
      refine g_getP cd106_26 rfl (O10.o h0) (show P a0 0 = some (a0 + 1) from O10.p0 h0) ?_
      refine g_aload_n cd106_29 rfl rfl ?_
      refine g_getI cd106_30 rfl (O10.o h0) ?_
      refine G_bald cd106_33 rfl (show S (a0 + 1) = (2, 940) from O10.s0 h0) hg1 ?_
      refine g_bipush cd106_34 rfl ?_
      refine g_icmp_ne cd106_36 rfl (fun hb => ?_) (fun hb => ?_)
      · have h := ifpE hb h
        refine g_aload_n cd106_39 rfl rfl ?_
        refine g_dupR cd106_40 rfl ?_
        refine g_getI cd106_41 rfl (O10.o h0) ?_
        refine g_iconst cd106_44 rfl ?_
        refine g_iadd cd106_45 rfl ?_
        obtain ⟨I6, e1, h⟩ := bnd h
        refine G_putI cd106_46 rfl (O10.o h0) (Option.some.inj e1) ?_
        refine g_goto (ls2 := [some (.ref a0)]) cd106_49 rfl rfl ?_
        exact t_Tape_skipBlanks_0 hd h0 _  I6 J h
      · have h := ifnE hb h
        exact g_vret cd106_52 (by obtain rfl := Option.some.inj h; rfl)
/-! HiddenOrLost$Tape.isDigit(I)Z -/
theorem cd109_0 : code9 109 0 = some (0, .iload_n 0, [1], .null, []) := rfl
theorem cd109_1 : code9 109 1 = some (0, .bipush 48, [2], .int 48, []) := rfl
theorem cd109_3 : code9 109 3 = some (0, .if_icmp .lt 13, [3, 16], .null, []) := rfl
theorem cd109_6 : code9 109 6 = some (0, .iload_n 0, [1], .null, []) := rfl
theorem cd109_7 : code9 109 7 = some (0, .bipush 57, [2], .int 57, []) := rfl
theorem cd109_9 : code9 109 9 = some (0, .if_icmp .gt 7, [3, 16], .null, []) := rfl
theorem cd109_12 : code9 109 12 = some (0, .iconst 1, [1], .int 1, []) := rfl
theorem cd109_13 : code9 109 13 = some (0, .goto 4, [3, 17, 1], .null, []) := rfl
theorem cd109_16 : code9 109 16 = some (2, .iconst 0, [1], .int 0, []) := rfl
theorem cd109_17 : code9 109 17 = some (2, .ireturn, [1, 3], .null, []) := rfl
def Tape_isDigit (l0 : Int32) : Bool := if l0 < 48 then (false) else (if 57 < l0 then (false) else (true))
set_option maxRecDepth 8000 in
theorem t_Tape_isDigit {d : Nat} {c : Nat × Nat} {S : Nat → Nat × Nat} {P : Nat → Nat → Option Nat} {I : FI} {J : FJ} {l0 : Int32} {r : Bool} (hd : 0 ≤ d) (h : Tape_isDigit l0 = r) : Go d M_Tape_isDigit 0 [some (.int l0)] [] (c, S, I, J, P) (some (.int (b2i r)), false, (c, S, I, J, P)) := by
  unfold Tape_isDigit at h
  refine g_iload_n cd109_0 rfl rfl ?_
  refine g_bipush cd109_1 rfl ?_
  refine g_icmp_lt cd109_3 rfl (fun hb => ?_) (fun hb => ?_)
  · have h := ifpE hb h
    refine g_iconst cd109_16 rfl ?_
    exact g_iret cd109_17 (Or.inr ⟨rfl, Or.inl rfl⟩) (by subst h; rfl)
  · have h := ifnE hb h
    refine g_iload_n cd109_6 rfl rfl ?_
    refine g_bipush cd109_7 rfl ?_
    refine g_icmp_gt cd109_9 rfl (fun hb => ?_) (fun hb => ?_)
    · have h := ifpE hb h
      refine g_iconst cd109_16 rfl ?_
      exact g_iret cd109_17 (Or.inr ⟨rfl, Or.inl rfl⟩) (by subst h; rfl)
    · have h := ifnE hb h
      refine g_iconst cd109_12 rfl ?_
      refine g_goto (ls2 := [some (.int l0)]) cd109_13 rfl rfl ?_
      exact g_iret cd109_17 (Or.inr ⟨rfl, Or.inr rfl⟩) (by subst h; rfl)
/-! HiddenOrLost$Tape.goesOn(I)Z -/
theorem cd108_0 : code9 108 0 = some (0, .iload_n 0, [1], .null, []) := rfl
theorem cd108_1 : code9 108 1 = some (0, .invokestatic 107, [3, 109, 1, 0, 3, 1, 10, 0], .null, []) := rfl
theorem cd108_4 : code9 108 4 = some (0, .ifCond .ne 15, [3, 19], .null, []) := rfl
theorem cd108_7 : code9 108 7 = some (0, .iload_n 0, [1], .null, []) := rfl
theorem cd108_8 : code9 108 8 = some (0, .bipush 97, [2], .int 97, []) := rfl
theorem cd108_10 : code9 108 10 = some (0, .if_icmp .lt 13, [3, 23], .null, []) := rfl
theorem cd108_13 : code9 108 13 = some (0, .iload_n 0, [1], .null, []) := rfl
theorem cd108_14 : code9 108 14 = some (0, .bipush 122, [2], .int 122, []) := rfl
theorem cd108_16 : code9 108 16 = some (0, .if_icmp .gt 7, [3, 23], .null, []) := rfl
theorem cd108_19 : code9 108 19 = some (2, .iconst 1, [1], .int 1, []) := rfl
theorem cd108_20 : code9 108 20 = some (0, .goto 4, [3, 24, 1], .null, []) := rfl
theorem cd108_23 : code9 108 23 = some (2, .iconst 0, [1], .int 0, []) := rfl
theorem cd108_24 : code9 108 24 = some (2, .ireturn, [1, 3], .null, []) := rfl
def Tape_goesOn (l0 : Int32) : Bool := if (Tape_isDigit l0) then (true) else (if l0 < 97 then (false) else (if 122 < l0 then (false) else (true)))
set_option maxRecDepth 8000 in
theorem t_Tape_goesOn {d : Nat} {c : Nat × Nat} {S : Nat → Nat × Nat} {P : Nat → Nat → Option Nat} {I : FI} {J : FJ} {l0 : Int32} {r : Bool} (hd : 1 ≤ d) (h : Tape_goesOn l0 = r) : Go d M_Tape_goesOn 0 [some (.int l0)] [] (c, S, I, J, P) (some (.int (b2i r)), false, (c, S, I, J, P)) := by
  obtain ⟨d, rfl⟩ : ∃ e, d = e + 1 := ⟨d - 1, by omega⟩
  unfold Tape_goesOn at h
  refine g_iload_n cd108_0 rfl rfl ?_
  refine g_callSZ (L := [some (.int l0)]) cd108_1 rfl rfl rfl rfl rfl (t_Tape_isDigit (by omega)  rfl) ?_
  refine g_if_ne cd108_4 rfl (fun hb => ?_) (fun hb => ?_)
  · have h := ifnE (b2i_f hb) h
    refine g_iload_n cd108_7 rfl rfl ?_
    refine g_bipush cd108_8 rfl ?_
    refine g_icmp_lt cd108_10 rfl (fun hb => ?_) (fun hb => ?_)
    · have h := ifpE hb h
      refine g_iconst cd108_23 rfl ?_
      exact g_iret cd108_24 (Or.inr ⟨rfl, Or.inl rfl⟩) (by subst h; rfl)
    · have h := ifnE hb h
      refine g_iload_n cd108_13 rfl rfl ?_
      refine g_bipush cd108_14 rfl ?_
      refine g_icmp_gt cd108_16 rfl (fun hb => ?_) (fun hb => ?_)
      · have h := ifpE hb h
        refine g_iconst cd108_23 rfl ?_
        exact g_iret cd108_24 (Or.inr ⟨rfl, Or.inl rfl⟩) (by subst h; rfl)
      · have h := ifnE hb h
        refine g_iconst cd108_19 rfl ?_
        refine g_goto (ls2 := [some (.int l0)]) cd108_20 rfl rfl ?_
        exact g_iret cd108_24 (Or.inr ⟨rfl, Or.inr rfl⟩) (by subst h; rfl)
  · have h := ifpE (b2i_t hb) h
    refine g_iconst cd108_19 rfl ?_
    refine g_goto (ls2 := [some (.int l0)]) cd108_20 rfl rfl ?_
    exact g_iret cd108_24 (Or.inr ⟨rfl, Or.inr rfl⟩) (by subst h; rfl)
/-! HiddenOrLost$Tape.withLetter(JI)J -/
theorem cd103_0 : code9 103 0 = some (0, .lload_n 0, [1], .null, []) := rfl
theorem cd103_1 : code9 103 1 = some (0, .ldc2_w 79, [3], .long 32, []) := rfl
theorem cd103_4 : code9 103 4 = some (0, .lmul, [1], .null, []) := rfl
theorem cd103_5 : code9 103 5 = some (0, .iload_n 2, [1], .null, []) := rfl
theorem cd103_6 : code9 103 6 = some (0, .bipush 97, [2], .int 97, []) := rfl
theorem cd103_8 : code9 103 8 = some (0, .isub, [1], .null, []) := rfl
theorem cd103_9 : code9 103 9 = some (0, .iconst 1, [1], .int 1, []) := rfl
theorem cd103_10 : code9 103 10 = some (0, .iadd, [1], .null, []) := rfl
theorem cd103_11 : code9 103 11 = some (0, .i2l, [1], .null, []) := rfl
theorem cd103_12 : code9 103 12 = some (0, .ladd, [1], .null, []) := rfl
theorem cd103_13 : code9 103 13 = some (0, .lreturn, [1], .null, []) := rfl
def Tape_withLetter (l0 : Int64) (l2 : Int32) : Int64 := (l0 * 32) + (((l2 - 97) + 1).toInt64)
set_option maxRecDepth 8000 in
theorem t_Tape_withLetter {d : Nat} {c : Nat × Nat} {S : Nat → Nat × Nat} {P : Nat → Nat → Option Nat} {I : FI} {J : FJ} {l0 : Int64} {l2 : Int32} {r : Int64} (hd : 0 ≤ d) (h : Tape_withLetter l0 l2 = r) : Go d M_Tape_withLetter 0 [some (.long l0), none, some (.int l2)] [] (c, S, I, J, P) (some (.long r), false, (c, S, I, J, P)) := by
  unfold Tape_withLetter at h
  refine g_lload_n cd103_0 rfl rfl ?_
  refine g_ldc2_w cd103_1 rfl ?_
  refine g_lmul cd103_4 rfl ?_
  refine g_iload_n cd103_5 rfl rfl ?_
  refine g_bipush cd103_6 rfl ?_
  refine g_isub cd103_8 rfl ?_
  refine g_iconst cd103_9 rfl ?_
  refine g_iadd cd103_10 rfl ?_
  refine g_i2l cd103_11 rfl ?_
  refine g_ladd cd103_12 rfl ?_
  exact g_lret cd103_13 (by subst h; rfl)
/-! HiddenOrLost$Tape.wordOf(J)I -/
theorem cd111_0 : code9 111 0 = some (0, .iconst 0, [1], .int 0, []) := rfl
theorem cd111_1 : code9 111 1 = some (0, .istore_n 3, [1], .null, []) := rfl
theorem cd111_2 : code9 111 2 = some (5, .iload_n 3, [1], .null, []) := rfl
theorem cd111_3 : code9 111 3 = some (0, .bipush 35, [2], .int 35, []) := rfl
theorem cd111_5 : code9 111 5 = some (0, .if_icmp .ge 22, [3, 27], .null, []) := rfl
theorem cd111_8 : code9 111 8 = some (0, .aload_n 0, [1], .null, []) := rfl
theorem cd111_9 : code9 111 9 = some (0, .getfield 15, [3, 10, 1, 2], .null, []) := rfl
theorem cd111_12 : code9 111 12 = some (0, .iload_n 3, [1], .null, []) := rfl
theorem cd111_13 : code9 111 13 = some (0, .laload, [1], .null, []) := rfl
theorem cd111_14 : code9 111 14 = some (0, .lload_n 1, [1], .null, []) := rfl
theorem cd111_15 : code9 111 15 = some (0, .lcmp, [1], .null, []) := rfl
theorem cd111_16 : code9 111 16 = some (0, .ifCond .ne 5, [3, 21], .null, []) := rfl
theorem cd111_19 : code9 111 19 = some (0, .iload_n 3, [1], .null, []) := rfl
theorem cd111_20 : code9 111 20 = some (0, .ireturn, [1, 1], .null, []) := rfl
theorem cd111_21 : code9 111 21 = some (0, .iinc 3 1, [3], .int 1, []) := rfl
theorem cd111_24 : code9 111 24 = some (0, .goto (-22), [3, 2, 4], .null, []) := rfl
theorem cd111_27 : code9 111 27 = some (0, .iconst (-1), [1], .int (-1), []) := rfl
theorem cd111_28 : code9 111 28 = some (0, .ireturn, [1, 1], .null, []) := rfl
def Tape_wordOf_2 (N : Nat) (a0 : Nat) : Nat → Int64 → Int32 → FJ → Option (Int32)
  | 0 => fun _ _ _ => none
  | n + 1 => fun l1 l3 J => if 35 ≤ l3 then (some (-1)) else (if in9 l3 35 then (if (J (a0 + 2) l3.toNatClampNeg) = l1 then (some l3) else (Tape_wordOf_2 N a0 n l1 (l3 + 1) J)) else none)
def Tape_wordOf (N : Nat) (a0 : Nat) (l1 : Int64) (J : FJ) : Option (Int32) := Tape_wordOf_2 N a0 N l1 0 J
set_option maxRecDepth 8000 in
theorem t_Tape_wordOf_2 {d : Nat} {N : Nat} {a0 : Nat} {c : Nat × Nat} {S : Nat → Nat × Nat} {P : Nat → Nat → Option Nat} {r : Int32} (hd : 0 ≤ d) (h0 : O10 S P a0) : ∀ (n : Nat) (l1 : Int64) (l3 : Int32) (I : FI) (J : FJ), Tape_wordOf_2 N a0 n l1 l3 J = some r → Go d M_Tape_wordOf 2 [some (.ref a0), some (.long l1), none, some (.int l3)] [] (c, S, I, J, P) (some (.int r), false, (c, S, I, J, P)) := by
  intro n
  induction n with
  | zero =>
    intro l1 l3 I J h
    cases h
  | succ n ih =>
    intro l1 l3 I J h
    unfold Tape_wordOf_2 at h
    refine g_iload_n cd111_2 rfl rfl ?_
    refine g_bipush cd111_3 rfl ?_
    refine g_icmp_ge cd111_5 rfl (fun hb => ?_) (fun hb => ?_)
    · have h := ifpE hb h
      refine g_iconst cd111_27 rfl ?_
      exact g_iret cd111_28 (Or.inl rfl) (by obtain rfl := Option.some.inj h; rfl)
    · have h := ifnE hb h
      refine g_aload_n cd111_8 rfl rfl ?_
      refine g_getP cd111_9 rfl (O10.o h0) (show P a0 1 = some (a0 + 2) from O10.p1 h0) ?_
      refine g_iload_n cd111_12 rfl rfl ?_
      obtain ⟨hg1, h⟩ := grd h
      refine G_lald cd111_13 rfl (show S (a0 + 2) = (4, 35) from O10.s1 h0) hg1 ?_
      refine g_lload_n cd111_14 rfl rfl ?_
      refine g_lcmp cd111_15 rfl ?_
      refine g_if_ne cd111_16 rfl (fun hb => ?_) (fun hb => ?_)
      · have h := ifpE (lgc_eq.mp hb) h
        refine g_iload_n cd111_19 rfl rfl ?_
        exact g_iret cd111_20 (Or.inl rfl) (by obtain rfl := Option.some.inj h; rfl)
      · have h := ifnE (fun q => hb (lgc_eq.mpr q)) h
        refine g_iinc (ls2 := [some (.ref a0), some (.long l1), none, some (.int (l3 + 1))]) cd111_21 rfl rfl rfl ?_
        refine g_goto (ls2 := [some (.ref a0), some (.long l1), none, some (.int (l3 + 1))]) cd111_24 rfl rfl ?_
        exact ih l1 (l3 + 1) I J h
set_option maxRecDepth 8000 in
theorem t_Tape_wordOf {d : Nat} {N : Nat} {a0 : Nat} {c : Nat × Nat} {S : Nat → Nat × Nat} {P : Nat → Nat → Option Nat} {I : FI} {J : FJ} {l1 : Int64} {r : Int32} (hd : 0 ≤ d) (h0 : O10 S P a0) (h : Tape_wordOf N a0 l1 J = some r) : Go d M_Tape_wordOf 0 [some (.ref a0), some (.long l1), none, none] [] (c, S, I, J, P) (some (.int r), false, (c, S, I, J, P)) := by
  unfold Tape_wordOf at h
  refine g_iconst cd111_0 rfl ?_
  refine g_istore_n (ls2 := [some (.ref a0), some (.long l1), none, some (.int 0)]) cd111_1 rfl rfl ?_
  exact t_Tape_wordOf_2 hd h0 _ l1 0 I J h
/-! HiddenOrLost$Tape.readRun(I)V -/
theorem cd110_0 : code9 110 0 = some (0, .iconst 0, [1], .int 0, []) := rfl
theorem cd110_1 : code9 110 1 = some (0, .istore_n 2, [1], .null, []) := rfl
theorem cd110_2 : code9 110 2 = some (0, .iconst 0, [1], .int 0, []) := rfl
theorem cd110_3 : code9 110 3 = some (0, .istore_n 3, [1], .null, []) := rfl
theorem cd110_4 : code9 110 4 = some (0, .iconst 0, [1], .int 0, []) := rfl
theorem cd110_5 : code9 110 5 = some (0, .istore 4, [2], .null, []) := rfl
theorem cd110_7 : code9 110 7 = some (0, .lconst 0, [1], .long 0, []) := rfl
theorem cd110_8 : code9 110 8 = some (0, .lstore 5, [2], .null, []) := rfl
theorem cd110_10 : code9 110 10 = some (8, .aload_n 0, [1], .null, []) := rfl
theorem cd110_11 : code9 110 11 = some (0, .getfield 33, [3, 10, 6, 0], .null, []) := rfl
theorem cd110_14 : code9 110 14 = some (0, .aload_n 0, [1], .null, []) := rfl
theorem cd110_15 : code9 110 15 = some (0, .getfield 29, [3, 10, 5, 0], .null, []) := rfl
theorem cd110_18 : code9 110 18 = some (0, .if_icmp .ge 100, [3, 118], .null, []) := rfl
theorem cd110_21 : code9 110 21 = some (0, .aload_n 0, [1], .null, []) := rfl
theorem cd110_22 : code9 110 22 = some (0, .getfield 9, [3, 10, 0, 2], .null, []) := rfl
theorem cd110_25 : code9 110 25 = some (0, .aload_n 0, [1], .null, []) := rfl
theorem cd110_26 : code9 110 26 = some (0, .getfield 33, [3, 10, 6, 0], .null, []) := rfl
theorem cd110_29 : code9 110 29 = some (0, .baload, [1], .null, []) := rfl
theorem cd110_30 : code9 110 30 = some (0, .invokestatic 97, [3, 108, 1, 0, 3, 1, 10, 0], .null, []) := rfl
theorem cd110_33 : code9 110 33 = some (0, .ifCond .eq 85, [3, 118], .null, []) := rfl
theorem cd110_36 : code9 110 36 = some (0, .aload_n 0, [1], .null, []) := rfl
theorem cd110_37 : code9 110 37 = some (0, .getfield 9, [3, 10, 0, 2], .null, []) := rfl
theorem cd110_40 : code9 110 40 = some (0, .aload_n 0, [1], .null, []) := rfl
theorem cd110_41 : code9 110 41 = some (0, .getfield 33, [3, 10, 6, 0], .null, []) := rfl
theorem cd110_44 : code9 110 44 = some (0, .baload, [1], .null, []) := rfl
theorem cd110_45 : code9 110 45 = some (0, .istore 7, [2], .null, []) := rfl
theorem cd110_47 : code9 110 47 = some (0, .iload 7, [2], .null, []) := rfl
theorem cd110_49 : code9 110 49 = some (0, .invokestatic 107, [3, 109, 1, 0, 3, 1, 10, 0], .null, []) := rfl
theorem cd110_52 : code9 110 52 = some (0, .ifCond .eq 31, [3, 83], .null, []) := rfl
theorem cd110_55 : code9 110 55 = some (0, .iinc 3 1, [3], .int 1, []) := rfl
theorem cd110_58 : code9 110 58 = some (0, .iload_n 3, [1], .null, []) := rfl
theorem cd110_59 : code9 110 59 = some (0, .iconst 3, [1], .int 3, []) := rfl
theorem cd110_60 : code9 110 60 = some (0, .if_icmp .le 7, [3, 67], .null, []) := rfl
theorem cd110_63 : code9 110 63 = some (0, .iconst 0, [1], .int 0, []) := rfl
theorem cd110_64 : code9 110 64 = some (0, .goto 14, [3, 78, 8], .null, []) := rfl
theorem cd110_67 : code9 110 67 = some (0, .iload 4, [2], .null, []) := rfl
theorem cd110_69 : code9 110 69 = some (0, .bipush 10, [2], .int 10, []) := rfl
theorem cd110_71 : code9 110 71 = some (0, .imul, [1], .null, []) := rfl
theorem cd110_72 : code9 110 72 = some (0, .iload 7, [2], .null, []) := rfl
theorem cd110_74 : code9 110 74 = some (0, .iadd, [1], .null, []) := rfl
theorem cd110_75 : code9 110 75 = some (0, .bipush 48, [2], .int 48, []) := rfl
theorem cd110_77 : code9 110 77 = some (0, .isub, [1], .null, []) := rfl
theorem cd110_78 : code9 110 78 = some (9, .istore 4, [2], .null, []) := rfl
theorem cd110_80 : code9 110 80 = some (0, .goto 25, [3, 105, 8], .null, []) := rfl
theorem cd110_83 : code9 110 83 = some (0, .iinc 2 1, [3], .int 1, []) := rfl
theorem cd110_86 : code9 110 86 = some (0, .iload_n 2, [1], .null, []) := rfl
theorem cd110_87 : code9 110 87 = some (0, .bipush 7, [2], .int 7, []) := rfl
theorem cd110_89 : code9 110 89 = some (0, .if_icmp .le 7, [3, 96], .null, []) := rfl
theorem cd110_92 : code9 110 92 = some (0, .lconst 0, [1], .long 0, []) := rfl
theorem cd110_93 : code9 110 93 = some (0, .goto 10, [3, 103, 8], .null, []) := rfl
theorem cd110_96 : code9 110 96 = some (0, .lload 5, [2], .null, []) := rfl
theorem cd110_98 : code9 110 98 = some (0, .iload 7, [2], .null, []) := rfl
theorem cd110_100 : code9 110 100 = some (0, .invokestatic 75, [3, 103, 2, 0, 2, 3, 10, 0], .null, []) := rfl
theorem cd110_103 : code9 110 103 = some (9, .lstore 5, [2], .null, []) := rfl
theorem cd110_105 : code9 110 105 = some (9, .aload_n 0, [1], .null, []) := rfl
theorem cd110_106 : code9 110 106 = some (0, .dup, [1], .null, []) := rfl
theorem cd110_107 : code9 110 107 = some (0, .getfield 33, [3, 10, 6, 0], .null, []) := rfl
theorem cd110_110 : code9 110 110 = some (0, .iconst 1, [1], .int 1, []) := rfl
theorem cd110_111 : code9 110 111 = some (0, .iadd, [1], .null, []) := rfl
theorem cd110_112 : code9 110 112 = some (0, .putfield 33, [3, 10, 6, 0], .null, []) := rfl
theorem cd110_115 : code9 110 115 = some (0, .goto (-105), [3, 10, 7], .null, []) := rfl
theorem cd110_118 : code9 110 118 = some (8, .iload_n 3, [1], .null, []) := rfl
theorem cd110_119 : code9 110 119 = some (0, .ifCond .ne 57, [3, 176], .null, []) := rfl
theorem cd110_122 : code9 110 122 = some (0, .iload_n 2, [1], .null, []) := rfl
theorem cd110_123 : code9 110 123 = some (0, .bipush 7, [2], .int 7, []) := rfl
theorem cd110_125 : code9 110 125 = some (0, .if_icmp .gt 51, [3, 176], .null, []) := rfl
theorem cd110_128 : code9 110 128 = some (0, .aload_n 0, [1], .null, []) := rfl
theorem cd110_129 : code9 110 129 = some (0, .lload 5, [2], .null, []) := rfl
theorem cd110_131 : code9 110 131 = some (0, .invokevirtual 110, [3, 111, 2, 1, 1, 4, 10, 0], .null, []) := rfl
theorem cd110_134 : code9 110 134 = some (0, .istore 7, [2], .null, []) := rfl
theorem cd110_136 : code9 110 136 = some (0, .aload_n 0, [1], .null, []) := rfl
theorem cd110_137 : code9 110 137 = some (0, .getfield 19, [3, 10, 2, 2], .null, []) := rfl
theorem cd110_140 : code9 110 140 = some (0, .iload_n 1, [1], .null, []) := rfl
theorem cd110_141 : code9 110 141 = some (0, .iload 7, [2], .null, []) := rfl
theorem cd110_143 : code9 110 143 = some (0, .iconst (-1), [1], .int (-1), []) := rfl
theorem cd110_144 : code9 110 144 = some (0, .if_icmp .ne 7, [3, 151], .null, []) := rfl
theorem cd110_147 : code9 110 147 = some (0, .iconst 3, [1], .int 3, []) := rfl
theorem cd110_148 : code9 110 148 = some (0, .goto 4, [3, 152, 8], .null, []) := rfl
theorem cd110_151 : code9 110 151 = some (0, .iconst 4, [1], .int 4, []) := rfl
theorem cd110_152 : code9 110 152 = some (9, .iastore, [1], .null, []) := rfl
theorem cd110_153 : code9 110 153 = some (0, .aload_n 0, [1], .null, []) := rfl
theorem cd110_154 : code9 110 154 = some (0, .getfield 26, [3, 10, 4, 2], .null, []) := rfl
theorem cd110_157 : code9 110 157 = some (0, .iload_n 1, [1], .null, []) := rfl
theorem cd110_158 : code9 110 158 = some (0, .iload 7, [2], .null, []) := rfl
theorem cd110_160 : code9 110 160 = some (0, .iconst (-1), [1], .int (-1), []) := rfl
theorem cd110_161 : code9 110 161 = some (0, .if_icmp .ne 8, [3, 169], .null, []) := rfl
theorem cd110_164 : code9 110 164 = some (0, .lload 5, [2], .null, []) := rfl
theorem cd110_166 : code9 110 166 = some (0, .goto 6, [3, 172, 8], .null, []) := rfl
theorem cd110_169 : code9 110 169 = some (0, .iload 7, [2], .null, []) := rfl
theorem cd110_171 : code9 110 171 = some (0, .i2l, [1], .null, []) := rfl
theorem cd110_172 : code9 110 172 = some (9, .lastore, [1], .null, []) := rfl
theorem cd110_173 : code9 110 173 = some (0, .goto 32, [3, 205, 7], .null, []) := rfl
theorem cd110_176 : code9 110 176 = some (8, .aload_n 0, [1], .null, []) := rfl
theorem cd110_177 : code9 110 177 = some (0, .getfield 19, [3, 10, 2, 2], .null, []) := rfl
theorem cd110_180 : code9 110 180 = some (0, .iload_n 1, [1], .null, []) := rfl
theorem cd110_181 : code9 110 181 = some (0, .iload_n 2, [1], .null, []) := rfl
theorem cd110_182 : code9 110 182 = some (0, .ifCond .ne 12, [3, 194], .null, []) := rfl
theorem cd110_185 : code9 110 185 = some (0, .iload_n 3, [1], .null, []) := rfl
theorem cd110_186 : code9 110 186 = some (0, .iconst 3, [1], .int 3, []) := rfl
theorem cd110_187 : code9 110 187 = some (0, .if_icmp .gt 7, [3, 194], .null, []) := rfl
theorem cd110_190 : code9 110 190 = some (0, .iconst 5, [1], .int 5, []) := rfl
theorem cd110_191 : code9 110 191 = some (0, .goto 4, [3, 195, 7], .null, []) := rfl
theorem cd110_194 : code9 110 194 = some (8, .iconst 2, [1], .int 2, []) := rfl
theorem cd110_195 : code9 110 195 = some (8, .iastore, [1], .null, []) := rfl
theorem cd110_196 : code9 110 196 = some (0, .aload_n 0, [1], .null, []) := rfl
theorem cd110_197 : code9 110 197 = some (0, .getfield 26, [3, 10, 4, 2], .null, []) := rfl
theorem cd110_200 : code9 110 200 = some (0, .iload_n 1, [1], .null, []) := rfl
theorem cd110_201 : code9 110 201 = some (0, .iload 4, [2], .null, []) := rfl
theorem cd110_203 : code9 110 203 = some (0, .i2l, [1], .null, []) := rfl
theorem cd110_204 : code9 110 204 = some (0, .lastore, [1], .null, []) := rfl
theorem cd110_205 : code9 110 205 = some (8, .return_, [1], .null, []) := rfl
def Tape_readRun_10 (N : Nat) (a0 : Nat) : Nat → Int32 → Int32 → Int32 → Int32 → Int64 → FI → FJ → Option (FI × FJ)
  | 0 => fun _ _ _ _ _ _ _ => none
  | n + 1 => fun l1 l2 l3 l4 l5 I J => if (I a0 5) ≤ (I a0 6) then (if l3 = 0 then (if 7 < l2 then (if l2 = 0 then (if 3 < l3 then (if in9 l1 901 then (Option.bind (some (up2 I (a0 + 3) l1.toNatClampNeg (2 : Int32))) fun I2 => (Option.bind (some (up2 J (a0 + 5) l1.toNatClampNeg l4.toInt64)) fun J3 => (some (I2, J3)))) else none) else (if in9 l1 901 then (Option.bind (some (up2 I (a0 + 3) l1.toNatClampNeg (5 : Int32))) fun I5 => (Option.bind (some (up2 J (a0 + 5) l1.toNatClampNeg l4.toInt64)) fun J6 => (some (I5, J6)))) else none)) else (if in9 l1 901 then (Option.bind (some (up2 I (a0 + 3) l1.toNatClampNeg (2 : Int32))) fun I8 => (Option.bind (some (up2 J (a0 + 5) l1.toNatClampNeg l4.toInt64)) fun J9 => (some (I8, J9)))) else none)) else (Option.bind (Tape_wordOf N a0 l5 J) fun x10 => (if x10 = (-1) then (if in9 l1 901 then (Option.bind (some (up2 I (a0 + 3) l1.toNatClampNeg (3 : Int32))) fun I12 => (if x10 = (-1) then (Option.bind (some (up2 J (a0 + 5) l1.toNatClampNeg l5)) fun J13 => (some (I12, J13))) else (Option.bind (some (up2 J (a0 + 5) l1.toNatClampNeg x10.toInt64)) fun J14 => (some (I12, J14))))) else none) else (if in9 l1 901 then (Option.bind (some (up2 I (a0 + 3) l1.toNatClampNeg (4 : Int32))) fun I16 => (if x10 = (-1) then (Option.bind (some (up2 J (a0 + 5) l1.toNatClampNeg l5)) fun J17 => (some (I16, J17))) else (Option.bind (some (up2 J (a0 + 5) l1.toNatClampNeg x10.toInt64)) fun J18 => (some (I16, J18))))) else none)))) else (if l2 = 0 then (if 3 < l3 then (if in9 l1 901 then (Option.bind (some (up2 I (a0 + 3) l1.toNatClampNeg (2 : Int32))) fun I20 => (Option.bind (some (up2 J (a0 + 5) l1.toNatClampNeg l4.toInt64)) fun J21 => (some (I20, J21)))) else none) else (if in9 l1 901 then (Option.bind (some (up2 I (a0 + 3) l1.toNatClampNeg (5 : Int32))) fun I23 => (Option.bind (some (up2 J (a0 + 5) l1.toNatClampNeg l4.toInt64)) fun J24 => (some (I23, J24)))) else none)) else (if in9 l1 901 then (Option.bind (some (up2 I (a0 + 3) l1.toNatClampNeg (2 : Int32))) fun I26 => (Option.bind (some (up2 J (a0 + 5) l1.toNatClampNeg l4.toInt64)) fun J27 => (some (I26, J27)))) else none))) else (if in9 (I a0 6) 940 then (if (Tape_goesOn (I (a0 + 1) ((I a0 6).toNatClampNeg))) then (if (Tape_isDigit (I (a0 + 1) ((I a0 6).toNatClampNeg))) then (if (l3 + 1) ≤ 3 then (Option.bind (some (up2 I a0 6 ((I a0 6) + 1))) fun I58 => (Tape_readRun_10 N a0 n l1 l2 (l3 + 1) (((l4 * 10) + (I (a0 + 1) ((I a0 6).toNatClampNeg))) - 48) l5 I58 J)) else (Option.bind (some (up2 I a0 6 ((I a0 6) + 1))) fun I59 => (Tape_readRun_10 N a0 n l1 l2 (l3 + 1) 0 l5 I59 J))) else (if (l2 + 1) ≤ 7 then (Option.bind (some (up2 I a0 6 ((I a0 6) + 1))) fun I56 => (Tape_readRun_10 N a0 n l1 (l2 + 1) l3 l4 (Tape_withLetter l5 (I (a0 + 1) ((I a0 6).toNatClampNeg))) I56 J)) else (Option.bind (some (up2 I a0 6 ((I a0 6) + 1))) fun I57 => (Tape_readRun_10 N a0 n l1 (l2 + 1) l3 l4 0 I57 J)))) else (if l3 = 0 then (if 7 < l2 then (if l2 = 0 then (if 3 < l3 then (if in9 l1 901 then (Option.bind (some (up2 I (a0 + 3) l1.toNatClampNeg (2 : Int32))) fun I30 => (Option.bind (some (up2 J (a0 + 5) l1.toNatClampNeg l4.toInt64)) fun J31 => (some (I30, J31)))) else none) else (if in9 l1 901 then (Option.bind (some (up2 I (a0 + 3) l1.toNatClampNeg (5 : Int32))) fun I33 => (Option.bind (some (up2 J (a0 + 5) l1.toNatClampNeg l4.toInt64)) fun J34 => (some (I33, J34)))) else none)) else (if in9 l1 901 then (Option.bind (some (up2 I (a0 + 3) l1.toNatClampNeg (2 : Int32))) fun I36 => (Option.bind (some (up2 J (a0 + 5) l1.toNatClampNeg l4.toInt64)) fun J37 => (some (I36, J37)))) else none)) else (Option.bind (Tape_wordOf N a0 l5 J) fun x38 => (if x38 = (-1) then (if in9 l1 901 then (Option.bind (some (up2 I (a0 + 3) l1.toNatClampNeg (3 : Int32))) fun I40 => (if x38 = (-1) then (Option.bind (some (up2 J (a0 + 5) l1.toNatClampNeg l5)) fun J41 => (some (I40, J41))) else (Option.bind (some (up2 J (a0 + 5) l1.toNatClampNeg x38.toInt64)) fun J42 => (some (I40, J42))))) else none) else (if in9 l1 901 then (Option.bind (some (up2 I (a0 + 3) l1.toNatClampNeg (4 : Int32))) fun I44 => (if x38 = (-1) then (Option.bind (some (up2 J (a0 + 5) l1.toNatClampNeg l5)) fun J45 => (some (I44, J45))) else (Option.bind (some (up2 J (a0 + 5) l1.toNatClampNeg x38.toInt64)) fun J46 => (some (I44, J46))))) else none)))) else (if l2 = 0 then (if 3 < l3 then (if in9 l1 901 then (Option.bind (some (up2 I (a0 + 3) l1.toNatClampNeg (2 : Int32))) fun I48 => (Option.bind (some (up2 J (a0 + 5) l1.toNatClampNeg l4.toInt64)) fun J49 => (some (I48, J49)))) else none) else (if in9 l1 901 then (Option.bind (some (up2 I (a0 + 3) l1.toNatClampNeg (5 : Int32))) fun I51 => (Option.bind (some (up2 J (a0 + 5) l1.toNatClampNeg l4.toInt64)) fun J52 => (some (I51, J52)))) else none)) else (if in9 l1 901 then (Option.bind (some (up2 I (a0 + 3) l1.toNatClampNeg (2 : Int32))) fun I54 => (Option.bind (some (up2 J (a0 + 5) l1.toNatClampNeg l4.toInt64)) fun J55 => (some (I54, J55)))) else none)))) else none)
def Tape_readRun (N : Nat) (a0 : Nat) (l1 : Int32) (I : FI) (J : FJ) : Option (FI × FJ) := Tape_readRun_10 N a0 N l1 0 0 0 0 I J
set_option maxRecDepth 8000 in
theorem t_Tape_readRun_10 {d : Nat} {N : Nat} {a0 : Nat} {c : Nat × Nat} {S : Nat → Nat × Nat} {P : Nat → Nat → Option Nat} {r : FI × FJ} (hd : 2 ≤ (d + 1)) (h0 : O10 S P a0) : ∀ (n : Nat) (l1 : Int32) (l2 : Int32) (l3 : Int32) (l4 : Int32) (l5 : Int64) (I : FI) (J : FJ), Tape_readRun_10 N a0 n l1 l2 l3 l4 l5 I J = some r → Go (d + 1) M_Tape_readRun 10 [some (.ref a0), some (.int l1), some (.int l2), some (.int l3), some (.int l4), some (.long l5), none, none] [] (c, S, I, J, P) (none, false, (c, S, r.1, r.2, P)) := by
  intro n
  induction n with
  | zero =>
    intro l1 l2 l3 l4 l5 I J h
    cases h
  | succ n ih =>
    intro l1 l2 l3 l4 l5 I J h
    unfold Tape_readRun_10 at h
    refine g_aload_n cd110_10 rfl rfl ?_
    refine g_getI cd110_11 rfl (O10.o h0) ?_
    refine g_aload_n cd110_14 rfl rfl ?_
    refine g_getI cd110_15 rfl (O10.o h0) ?_
    refine g_icmp_ge cd110_18 rfl (fun hb => ?_) (fun hb => ?_)
    · have h := ifpE hb h
      refine g_iload_n cd110_118 rfl rfl ?_
      refine g_if_ne cd110_119 rfl (fun hb => ?_) (fun hb => ?_)
      · have h := ifpE hb h
        refine g_iload_n cd110_122 rfl rfl ?_
        refine g_bipush cd110_123 rfl ?_
        refine g_icmp_gt cd110_125 rfl (fun hb => ?_) (fun hb => ?_)
        · have h := ifpE hb h
          refine g_aload_n cd110_176 rfl rfl ?_
          refine g_getP cd110_177 rfl (O10.o h0) (show P a0 2 = some (a0 + 3) from O10.p2 h0) ?_
          refine g_iload_n cd110_180 rfl rfl ?_
          refine g_iload_n cd110_181 rfl rfl ?_
          refine g_if_ne cd110_182 rfl (fun hb => ?_) (fun hb => ?_)
          · have h := ifpE hb h
            refine g_iload_n cd110_185 rfl rfl ?_
            refine g_iconst cd110_186 rfl ?_
            refine g_icmp_gt cd110_187 rfl (fun hb => ?_) (fun hb => ?_)
            · have h := ifpE hb h
              refine g_iconst cd110_194 rfl ?_
              obtain ⟨hg1, h⟩ := grd h
              obtain ⟨I2, e1, h⟩ := bnd h
              refine G_iast cd110_195 rfl (show S (a0 + 3) = (1, 901) from O10.s2 h0) hg1 (Option.some.inj e1) ?_
              refine g_aload_n cd110_196 rfl rfl ?_
              refine g_getP cd110_197 rfl (O10.o h0) (show P a0 4 = some (a0 + 5) from O10.p4 h0) ?_
              refine g_iload_n cd110_200 rfl rfl ?_
              refine g_iload cd110_201 rfl rfl ?_
              refine g_i2l cd110_203 rfl ?_
              obtain ⟨J3, e1, h⟩ := bnd h
              refine G_last cd110_204 rfl (show S (a0 + 5) = (4, 901) from O10.s4 h0) hg1 (Option.some.inj e1) ?_
              exact g_vret cd110_205 (by obtain rfl := Option.some.inj h; rfl)
            · have h := ifnE hb h
              refine g_iconst cd110_190 rfl ?_
              refine g_goto (ls2 := [some (.ref a0), some (.int l1), some (.int l2), some (.int l3), some (.int l4), some (.long l5), none, none]) cd110_191 rfl rfl ?_
              obtain ⟨hg4, h⟩ := grd h
              obtain ⟨I5, e1, h⟩ := bnd h
              refine G_iast cd110_195 rfl (show S (a0 + 3) = (1, 901) from O10.s2 h0) hg4 (Option.some.inj e1) ?_
              refine g_aload_n cd110_196 rfl rfl ?_
              refine g_getP cd110_197 rfl (O10.o h0) (show P a0 4 = some (a0 + 5) from O10.p4 h0) ?_
              refine g_iload_n cd110_200 rfl rfl ?_
              refine g_iload cd110_201 rfl rfl ?_
              refine g_i2l cd110_203 rfl ?_
              obtain ⟨J6, e1, h⟩ := bnd h
              refine G_last cd110_204 rfl (show S (a0 + 5) = (4, 901) from O10.s4 h0) hg4 (Option.some.inj e1) ?_
              exact g_vret cd110_205 (by obtain rfl := Option.some.inj h; rfl)
          · have h := ifnE hb h
            refine g_iconst cd110_194 rfl ?_
            obtain ⟨hg7, h⟩ := grd h
            obtain ⟨I8, e1, h⟩ := bnd h
            refine G_iast cd110_195 rfl (show S (a0 + 3) = (1, 901) from O10.s2 h0) hg7 (Option.some.inj e1) ?_
            refine g_aload_n cd110_196 rfl rfl ?_
            refine g_getP cd110_197 rfl (O10.o h0) (show P a0 4 = some (a0 + 5) from O10.p4 h0) ?_
            refine g_iload_n cd110_200 rfl rfl ?_
            refine g_iload cd110_201 rfl rfl ?_
            refine g_i2l cd110_203 rfl ?_
            obtain ⟨J9, e1, h⟩ := bnd h
            refine G_last cd110_204 rfl (show S (a0 + 5) = (4, 901) from O10.s4 h0) hg7 (Option.some.inj e1) ?_
            exact g_vret cd110_205 (by obtain rfl := Option.some.inj h; rfl)
        · have h := ifnE hb h
          refine g_aload_n cd110_128 rfl rfl ?_
          refine g_lload cd110_129 rfl rfl ?_
          obtain ⟨x10, hx, h⟩ := bnd h
          refine g_callVI (L := [some (.ref a0), some (.long l5), none, none]) cd110_131 rfl rfl rfl rfl rfl (O10.o h0) (t_Tape_wordOf (by omega) h0 hx) ?_
          refine g_istore (ls2 := [some (.ref a0), some (.int l1), some (.int l2), some (.int l3), some (.int l4), some (.long l5), none, some (.int x10)]) cd110_134 rfl rfl ?_
          refine g_aload_n cd110_136 rfl rfl ?_
          refine g_getP cd110_137 rfl (O10.o h0) (show P a0 2 = some (a0 + 3) from O10.p2 h0) ?_
          refine g_iload_n cd110_140 rfl rfl ?_
          refine g_iload cd110_141 rfl rfl ?_
          refine g_iconst cd110_143 rfl ?_
          refine g_icmp_ne cd110_144 rfl (fun hb => ?_) (fun hb => ?_)
          · have h := ifpE hb h
            refine g_iconst cd110_147 rfl ?_
            refine g_goto (ls2 := [some (.ref a0), some (.int l1), some (.int l2), some (.int l3), some (.int l4), some (.long l5), none, some (.int x10)]) cd110_148 rfl rfl ?_
            obtain ⟨hg11, h⟩ := grd h
            obtain ⟨I12, e1, h⟩ := bnd h
            refine G_iast cd110_152 rfl (show S (a0 + 3) = (1, 901) from O10.s2 h0) hg11 (Option.some.inj e1) ?_
            refine g_aload_n cd110_153 rfl rfl ?_
            refine g_getP cd110_154 rfl (O10.o h0) (show P a0 4 = some (a0 + 5) from O10.p4 h0) ?_
            refine g_iload_n cd110_157 rfl rfl ?_
            refine g_iload cd110_158 rfl rfl ?_
            refine g_iconst cd110_160 rfl ?_
            refine g_icmp_ne cd110_161 rfl (fun hb => ?_) (fun hb => ?_)
            · have h := ifpE hb h
              refine g_lload cd110_164 rfl rfl ?_
              refine g_goto (ls2 := [some (.ref a0), some (.int l1), some (.int l2), some (.int l3), some (.int l4), some (.long l5), none, some (.int x10)]) cd110_166 rfl rfl ?_
              obtain ⟨J13, e1, h⟩ := bnd h
              refine G_last cd110_172 rfl (show S (a0 + 5) = (4, 901) from O10.s4 h0) hg11 (Option.some.inj e1) ?_
              refine g_goto (ls2 := [some (.ref a0), some (.int l1), some (.int l2), some (.int l3), some (.int l4), some (.long l5), none, none]) cd110_173 rfl rfl ?_
              exact g_vret cd110_205 (by obtain rfl := Option.some.inj h; rfl)
            · have h := ifnE hb h
              refine g_iload cd110_169 rfl rfl ?_
              refine g_i2l cd110_171 rfl ?_
              obtain ⟨J14, e1, h⟩ := bnd h
              refine G_last cd110_172 rfl (show S (a0 + 5) = (4, 901) from O10.s4 h0) hg11 (Option.some.inj e1) ?_
              refine g_goto (ls2 := [some (.ref a0), some (.int l1), some (.int l2), some (.int l3), some (.int l4), some (.long l5), none, none]) cd110_173 rfl rfl ?_
              exact g_vret cd110_205 (by obtain rfl := Option.some.inj h; rfl)
          · have h := ifnE hb h
            refine g_iconst cd110_151 rfl ?_
            obtain ⟨hg15, h⟩ := grd h
            obtain ⟨I16, e1, h⟩ := bnd h
            refine G_iast cd110_152 rfl (show S (a0 + 3) = (1, 901) from O10.s2 h0) hg15 (Option.some.inj e1) ?_
            refine g_aload_n cd110_153 rfl rfl ?_
            refine g_getP cd110_154 rfl (O10.o h0) (show P a0 4 = some (a0 + 5) from O10.p4 h0) ?_
            refine g_iload_n cd110_157 rfl rfl ?_
            refine g_iload cd110_158 rfl rfl ?_
            refine g_iconst cd110_160 rfl ?_
            refine g_icmp_ne cd110_161 rfl (fun hb => ?_) (fun hb => ?_)
            · have h := ifpE hb h
              refine g_lload cd110_164 rfl rfl ?_
              refine g_goto (ls2 := [some (.ref a0), some (.int l1), some (.int l2), some (.int l3), some (.int l4), some (.long l5), none, some (.int x10)]) cd110_166 rfl rfl ?_
              obtain ⟨J17, e1, h⟩ := bnd h
              refine G_last cd110_172 rfl (show S (a0 + 5) = (4, 901) from O10.s4 h0) hg15 (Option.some.inj e1) ?_
              refine g_goto (ls2 := [some (.ref a0), some (.int l1), some (.int l2), some (.int l3), some (.int l4), some (.long l5), none, none]) cd110_173 rfl rfl ?_
              exact g_vret cd110_205 (by obtain rfl := Option.some.inj h; rfl)
            · have h := ifnE hb h
              refine g_iload cd110_169 rfl rfl ?_
              refine g_i2l cd110_171 rfl ?_
              obtain ⟨J18, e1, h⟩ := bnd h
              refine G_last cd110_172 rfl (show S (a0 + 5) = (4, 901) from O10.s4 h0) hg15 (Option.some.inj e1) ?_
              refine g_goto (ls2 := [some (.ref a0), some (.int l1), some (.int l2), some (.int l3), some (.int l4), some (.long l5), none, none]) cd110_173 rfl rfl ?_
              exact g_vret cd110_205 (by obtain rfl := Option.some.inj h; rfl)
      · have h := ifnE hb h
        refine g_aload_n cd110_176 rfl rfl ?_
        refine g_getP cd110_177 rfl (O10.o h0) (show P a0 2 = some (a0 + 3) from O10.p2 h0) ?_
        refine g_iload_n cd110_180 rfl rfl ?_
        refine g_iload_n cd110_181 rfl rfl ?_
        refine g_if_ne cd110_182 rfl (fun hb => ?_) (fun hb => ?_)
        · have h := ifpE hb h
          refine g_iload_n cd110_185 rfl rfl ?_
          refine g_iconst cd110_186 rfl ?_
          refine g_icmp_gt cd110_187 rfl (fun hb => ?_) (fun hb => ?_)
          · have h := ifpE hb h
            refine g_iconst cd110_194 rfl ?_
            obtain ⟨hg19, h⟩ := grd h
            obtain ⟨I20, e1, h⟩ := bnd h
            refine G_iast cd110_195 rfl (show S (a0 + 3) = (1, 901) from O10.s2 h0) hg19 (Option.some.inj e1) ?_
            refine g_aload_n cd110_196 rfl rfl ?_
            refine g_getP cd110_197 rfl (O10.o h0) (show P a0 4 = some (a0 + 5) from O10.p4 h0) ?_
            refine g_iload_n cd110_200 rfl rfl ?_
            refine g_iload cd110_201 rfl rfl ?_
            refine g_i2l cd110_203 rfl ?_
            obtain ⟨J21, e1, h⟩ := bnd h
            refine G_last cd110_204 rfl (show S (a0 + 5) = (4, 901) from O10.s4 h0) hg19 (Option.some.inj e1) ?_
            exact g_vret cd110_205 (by obtain rfl := Option.some.inj h; rfl)
          · have h := ifnE hb h
            refine g_iconst cd110_190 rfl ?_
            refine g_goto (ls2 := [some (.ref a0), some (.int l1), some (.int l2), some (.int l3), some (.int l4), some (.long l5), none, none]) cd110_191 rfl rfl ?_
            obtain ⟨hg22, h⟩ := grd h
            obtain ⟨I23, e1, h⟩ := bnd h
            refine G_iast cd110_195 rfl (show S (a0 + 3) = (1, 901) from O10.s2 h0) hg22 (Option.some.inj e1) ?_
            refine g_aload_n cd110_196 rfl rfl ?_
            refine g_getP cd110_197 rfl (O10.o h0) (show P a0 4 = some (a0 + 5) from O10.p4 h0) ?_
            refine g_iload_n cd110_200 rfl rfl ?_
            refine g_iload cd110_201 rfl rfl ?_
            refine g_i2l cd110_203 rfl ?_
            obtain ⟨J24, e1, h⟩ := bnd h
            refine G_last cd110_204 rfl (show S (a0 + 5) = (4, 901) from O10.s4 h0) hg22 (Option.some.inj e1) ?_
            exact g_vret cd110_205 (by obtain rfl := Option.some.inj h; rfl)
        · have h := ifnE hb h
          refine g_iconst cd110_194 rfl ?_
          obtain ⟨hg25, h⟩ := grd h
          obtain ⟨I26, e1, h⟩ := bnd h
          refine G_iast cd110_195 rfl (show S (a0 + 3) = (1, 901) from O10.s2 h0) hg25 (Option.some.inj e1) ?_
          refine g_aload_n cd110_196 rfl rfl ?_
          refine g_getP cd110_197 rfl (O10.o h0) (show P a0 4 = some (a0 + 5) from O10.p4 h0) ?_
          refine g_iload_n cd110_200 rfl rfl ?_
          refine g_iload cd110_201 rfl rfl ?_
          refine g_i2l cd110_203 rfl ?_
          obtain ⟨J27, e1, h⟩ := bnd h
          refine G_last cd110_204 rfl (show S (a0 + 5) = (4, 901) from O10.s4 h0) hg25 (Option.some.inj e1) ?_
          exact g_vret cd110_205 (by obtain rfl := Option.some.inj h; rfl)
    · have h := ifnE hb h
      refine g_aload_n cd110_21 rfl rfl ?_
      refine g_getP cd110_22 rfl (O10.o h0) (show P a0 0 = some (a0 + 1) from O10.p0 h0) ?_
      refine g_aload_n cd110_25 rfl rfl ?_
      refine g_getI cd110_26 rfl (O10.o h0) ?_
      obtain ⟨hg28, h⟩ := grd h
      refine G_bald cd110_29 rfl (show S (a0 + 1) = (2, 940) from O10.s0 h0) hg28 ?_
      refine g_callSZ (L := [some (.int (I (a0 + 1) ((I a0 6).toNatClampNeg)))]) cd110_30 rfl rfl rfl rfl rfl (t_Tape_goesOn (by omega)  rfl) ?_
      refine g_if_eq cd110_33 rfl (fun hb => ?_) (fun hb => ?_)
      · have h := ifnE (b2i_f hb) h
        refine g_iload_n cd110_118 rfl rfl ?_
        refine g_if_ne cd110_119 rfl (fun hb => ?_) (fun hb => ?_)
        · have h := ifpE hb h
          refine g_iload_n cd110_122 rfl rfl ?_
          refine g_bipush cd110_123 rfl ?_
          refine g_icmp_gt cd110_125 rfl (fun hb => ?_) (fun hb => ?_)
          · have h := ifpE hb h
            refine g_aload_n cd110_176 rfl rfl ?_
            refine g_getP cd110_177 rfl (O10.o h0) (show P a0 2 = some (a0 + 3) from O10.p2 h0) ?_
            refine g_iload_n cd110_180 rfl rfl ?_
            refine g_iload_n cd110_181 rfl rfl ?_
            refine g_if_ne cd110_182 rfl (fun hb => ?_) (fun hb => ?_)
            · have h := ifpE hb h
              refine g_iload_n cd110_185 rfl rfl ?_
              refine g_iconst cd110_186 rfl ?_
              refine g_icmp_gt cd110_187 rfl (fun hb => ?_) (fun hb => ?_)
              · have h := ifpE hb h
                refine g_iconst cd110_194 rfl ?_
                obtain ⟨hg29, h⟩ := grd h
                obtain ⟨I30, e1, h⟩ := bnd h
                refine G_iast cd110_195 rfl (show S (a0 + 3) = (1, 901) from O10.s2 h0) hg29 (Option.some.inj e1) ?_
                refine g_aload_n cd110_196 rfl rfl ?_
                refine g_getP cd110_197 rfl (O10.o h0) (show P a0 4 = some (a0 + 5) from O10.p4 h0) ?_
                refine g_iload_n cd110_200 rfl rfl ?_
                refine g_iload cd110_201 rfl rfl ?_
                refine g_i2l cd110_203 rfl ?_
                obtain ⟨J31, e1, h⟩ := bnd h
                refine G_last cd110_204 rfl (show S (a0 + 5) = (4, 901) from O10.s4 h0) hg29 (Option.some.inj e1) ?_
                exact g_vret cd110_205 (by obtain rfl := Option.some.inj h; rfl)
              · have h := ifnE hb h
                refine g_iconst cd110_190 rfl ?_
                refine g_goto (ls2 := [some (.ref a0), some (.int l1), some (.int l2), some (.int l3), some (.int l4), some (.long l5), none, none]) cd110_191 rfl rfl ?_
                obtain ⟨hg32, h⟩ := grd h
                obtain ⟨I33, e1, h⟩ := bnd h
                refine G_iast cd110_195 rfl (show S (a0 + 3) = (1, 901) from O10.s2 h0) hg32 (Option.some.inj e1) ?_
                refine g_aload_n cd110_196 rfl rfl ?_
                refine g_getP cd110_197 rfl (O10.o h0) (show P a0 4 = some (a0 + 5) from O10.p4 h0) ?_
                refine g_iload_n cd110_200 rfl rfl ?_
                refine g_iload cd110_201 rfl rfl ?_
                refine g_i2l cd110_203 rfl ?_
                obtain ⟨J34, e1, h⟩ := bnd h
                refine G_last cd110_204 rfl (show S (a0 + 5) = (4, 901) from O10.s4 h0) hg32 (Option.some.inj e1) ?_
                exact g_vret cd110_205 (by obtain rfl := Option.some.inj h; rfl)
            · have h := ifnE hb h
              refine g_iconst cd110_194 rfl ?_
              obtain ⟨hg35, h⟩ := grd h
              obtain ⟨I36, e1, h⟩ := bnd h
              refine G_iast cd110_195 rfl (show S (a0 + 3) = (1, 901) from O10.s2 h0) hg35 (Option.some.inj e1) ?_
              refine g_aload_n cd110_196 rfl rfl ?_
              refine g_getP cd110_197 rfl (O10.o h0) (show P a0 4 = some (a0 + 5) from O10.p4 h0) ?_
              refine g_iload_n cd110_200 rfl rfl ?_
              refine g_iload cd110_201 rfl rfl ?_
              refine g_i2l cd110_203 rfl ?_
              obtain ⟨J37, e1, h⟩ := bnd h
              refine G_last cd110_204 rfl (show S (a0 + 5) = (4, 901) from O10.s4 h0) hg35 (Option.some.inj e1) ?_
              exact g_vret cd110_205 (by obtain rfl := Option.some.inj h; rfl)
          · have h := ifnE hb h
            refine g_aload_n cd110_128 rfl rfl ?_
            refine g_lload cd110_129 rfl rfl ?_
            obtain ⟨x38, hx, h⟩ := bnd h
            refine g_callVI (L := [some (.ref a0), some (.long l5), none, none]) cd110_131 rfl rfl rfl rfl rfl (O10.o h0) (t_Tape_wordOf (by omega) h0 hx) ?_
            refine g_istore (ls2 := [some (.ref a0), some (.int l1), some (.int l2), some (.int l3), some (.int l4), some (.long l5), none, some (.int x38)]) cd110_134 rfl rfl ?_
            refine g_aload_n cd110_136 rfl rfl ?_
            refine g_getP cd110_137 rfl (O10.o h0) (show P a0 2 = some (a0 + 3) from O10.p2 h0) ?_
            refine g_iload_n cd110_140 rfl rfl ?_
            refine g_iload cd110_141 rfl rfl ?_
            refine g_iconst cd110_143 rfl ?_
            refine g_icmp_ne cd110_144 rfl (fun hb => ?_) (fun hb => ?_)
            · have h := ifpE hb h
              refine g_iconst cd110_147 rfl ?_
              refine g_goto (ls2 := [some (.ref a0), some (.int l1), some (.int l2), some (.int l3), some (.int l4), some (.long l5), none, some (.int x38)]) cd110_148 rfl rfl ?_
              obtain ⟨hg39, h⟩ := grd h
              obtain ⟨I40, e1, h⟩ := bnd h
              refine G_iast cd110_152 rfl (show S (a0 + 3) = (1, 901) from O10.s2 h0) hg39 (Option.some.inj e1) ?_
              refine g_aload_n cd110_153 rfl rfl ?_
              refine g_getP cd110_154 rfl (O10.o h0) (show P a0 4 = some (a0 + 5) from O10.p4 h0) ?_
              refine g_iload_n cd110_157 rfl rfl ?_
              refine g_iload cd110_158 rfl rfl ?_
              refine g_iconst cd110_160 rfl ?_
              refine g_icmp_ne cd110_161 rfl (fun hb => ?_) (fun hb => ?_)
              · have h := ifpE hb h
                refine g_lload cd110_164 rfl rfl ?_
                refine g_goto (ls2 := [some (.ref a0), some (.int l1), some (.int l2), some (.int l3), some (.int l4), some (.long l5), none, some (.int x38)]) cd110_166 rfl rfl ?_
                obtain ⟨J41, e1, h⟩ := bnd h
                refine G_last cd110_172 rfl (show S (a0 + 5) = (4, 901) from O10.s4 h0) hg39 (Option.some.inj e1) ?_
                refine g_goto (ls2 := [some (.ref a0), some (.int l1), some (.int l2), some (.int l3), some (.int l4), some (.long l5), none, none]) cd110_173 rfl rfl ?_
                exact g_vret cd110_205 (by obtain rfl := Option.some.inj h; rfl)
              · have h := ifnE hb h
                refine g_iload cd110_169 rfl rfl ?_
                refine g_i2l cd110_171 rfl ?_
                obtain ⟨J42, e1, h⟩ := bnd h
                refine G_last cd110_172 rfl (show S (a0 + 5) = (4, 901) from O10.s4 h0) hg39 (Option.some.inj e1) ?_
                refine g_goto (ls2 := [some (.ref a0), some (.int l1), some (.int l2), some (.int l3), some (.int l4), some (.long l5), none, none]) cd110_173 rfl rfl ?_
                exact g_vret cd110_205 (by obtain rfl := Option.some.inj h; rfl)
            · have h := ifnE hb h
              refine g_iconst cd110_151 rfl ?_
              obtain ⟨hg43, h⟩ := grd h
              obtain ⟨I44, e1, h⟩ := bnd h
              refine G_iast cd110_152 rfl (show S (a0 + 3) = (1, 901) from O10.s2 h0) hg43 (Option.some.inj e1) ?_
              refine g_aload_n cd110_153 rfl rfl ?_
              refine g_getP cd110_154 rfl (O10.o h0) (show P a0 4 = some (a0 + 5) from O10.p4 h0) ?_
              refine g_iload_n cd110_157 rfl rfl ?_
              refine g_iload cd110_158 rfl rfl ?_
              refine g_iconst cd110_160 rfl ?_
              refine g_icmp_ne cd110_161 rfl (fun hb => ?_) (fun hb => ?_)
              · have h := ifpE hb h
                refine g_lload cd110_164 rfl rfl ?_
                refine g_goto (ls2 := [some (.ref a0), some (.int l1), some (.int l2), some (.int l3), some (.int l4), some (.long l5), none, some (.int x38)]) cd110_166 rfl rfl ?_
                obtain ⟨J45, e1, h⟩ := bnd h
                refine G_last cd110_172 rfl (show S (a0 + 5) = (4, 901) from O10.s4 h0) hg43 (Option.some.inj e1) ?_
                refine g_goto (ls2 := [some (.ref a0), some (.int l1), some (.int l2), some (.int l3), some (.int l4), some (.long l5), none, none]) cd110_173 rfl rfl ?_
                exact g_vret cd110_205 (by obtain rfl := Option.some.inj h; rfl)
              · have h := ifnE hb h
                refine g_iload cd110_169 rfl rfl ?_
                refine g_i2l cd110_171 rfl ?_
                obtain ⟨J46, e1, h⟩ := bnd h
                refine G_last cd110_172 rfl (show S (a0 + 5) = (4, 901) from O10.s4 h0) hg43 (Option.some.inj e1) ?_
                refine g_goto (ls2 := [some (.ref a0), some (.int l1), some (.int l2), some (.int l3), some (.int l4), some (.long l5), none, none]) cd110_173 rfl rfl ?_
                exact g_vret cd110_205 (by obtain rfl := Option.some.inj h; rfl)
        · have h := ifnE hb h
          refine g_aload_n cd110_176 rfl rfl ?_
          refine g_getP cd110_177 rfl (O10.o h0) (show P a0 2 = some (a0 + 3) from O10.p2 h0) ?_
          refine g_iload_n cd110_180 rfl rfl ?_
          refine g_iload_n cd110_181 rfl rfl ?_
          refine g_if_ne cd110_182 rfl (fun hb => ?_) (fun hb => ?_)
          · have h := ifpE hb h
            refine g_iload_n cd110_185 rfl rfl ?_
            refine g_iconst cd110_186 rfl ?_
            refine g_icmp_gt cd110_187 rfl (fun hb => ?_) (fun hb => ?_)
            · have h := ifpE hb h
              refine g_iconst cd110_194 rfl ?_
              obtain ⟨hg47, h⟩ := grd h
              obtain ⟨I48, e1, h⟩ := bnd h
              refine G_iast cd110_195 rfl (show S (a0 + 3) = (1, 901) from O10.s2 h0) hg47 (Option.some.inj e1) ?_
              refine g_aload_n cd110_196 rfl rfl ?_
              refine g_getP cd110_197 rfl (O10.o h0) (show P a0 4 = some (a0 + 5) from O10.p4 h0) ?_
              refine g_iload_n cd110_200 rfl rfl ?_
              refine g_iload cd110_201 rfl rfl ?_
              refine g_i2l cd110_203 rfl ?_
              obtain ⟨J49, e1, h⟩ := bnd h
              refine G_last cd110_204 rfl (show S (a0 + 5) = (4, 901) from O10.s4 h0) hg47 (Option.some.inj e1) ?_
              exact g_vret cd110_205 (by obtain rfl := Option.some.inj h; rfl)
            · have h := ifnE hb h
              refine g_iconst cd110_190 rfl ?_
              refine g_goto (ls2 := [some (.ref a0), some (.int l1), some (.int l2), some (.int l3), some (.int l4), some (.long l5), none, none]) cd110_191 rfl rfl ?_
              obtain ⟨hg50, h⟩ := grd h
              obtain ⟨I51, e1, h⟩ := bnd h
              refine G_iast cd110_195 rfl (show S (a0 + 3) = (1, 901) from O10.s2 h0) hg50 (Option.some.inj e1) ?_
              refine g_aload_n cd110_196 rfl rfl ?_
              refine g_getP cd110_197 rfl (O10.o h0) (show P a0 4 = some (a0 + 5) from O10.p4 h0) ?_
              refine g_iload_n cd110_200 rfl rfl ?_
              refine g_iload cd110_201 rfl rfl ?_
              refine g_i2l cd110_203 rfl ?_
              obtain ⟨J52, e1, h⟩ := bnd h
              refine G_last cd110_204 rfl (show S (a0 + 5) = (4, 901) from O10.s4 h0) hg50 (Option.some.inj e1) ?_
              exact g_vret cd110_205 (by obtain rfl := Option.some.inj h; rfl)
          · have h := ifnE hb h
            refine g_iconst cd110_194 rfl ?_
            obtain ⟨hg53, h⟩ := grd h
            obtain ⟨I54, e1, h⟩ := bnd h
            refine G_iast cd110_195 rfl (show S (a0 + 3) = (1, 901) from O10.s2 h0) hg53 (Option.some.inj e1) ?_
            refine g_aload_n cd110_196 rfl rfl ?_
            refine g_getP cd110_197 rfl (O10.o h0) (show P a0 4 = some (a0 + 5) from O10.p4 h0) ?_
            refine g_iload_n cd110_200 rfl rfl ?_
            refine g_iload cd110_201 rfl rfl ?_
            refine g_i2l cd110_203 rfl ?_
            obtain ⟨J55, e1, h⟩ := bnd h
            refine G_last cd110_204 rfl (show S (a0 + 5) = (4, 901) from O10.s4 h0) hg53 (Option.some.inj e1) ?_
            exact g_vret cd110_205 (by obtain rfl := Option.some.inj h; rfl)
      · have h := ifpE (b2i_t hb) h
        refine g_aload_n cd110_36 rfl rfl ?_
        refine g_getP cd110_37 rfl (O10.o h0) (show P a0 0 = some (a0 + 1) from O10.p0 h0) ?_
        refine g_aload_n cd110_40 rfl rfl ?_
        refine g_getI cd110_41 rfl (O10.o h0) ?_
        refine G_bald cd110_44 rfl (show S (a0 + 1) = (2, 940) from O10.s0 h0) hg28 ?_
        refine g_istore (ls2 := [some (.ref a0), some (.int l1), some (.int l2), some (.int l3), some (.int l4), some (.long l5), none, some (.int (I (a0 + 1) ((I a0 6).toNatClampNeg)))]) cd110_45 rfl rfl ?_
        refine g_iload cd110_47 rfl rfl ?_
        refine g_callSZ (L := [some (.int (I (a0 + 1) ((I a0 6).toNatClampNeg)))]) cd110_49 rfl rfl rfl rfl rfl (t_Tape_isDigit (by omega)  rfl) ?_
        refine g_if_eq cd110_52 rfl (fun hb => ?_) (fun hb => ?_)
        · have h := ifnE (b2i_f hb) h
          refine g_iinc (ls2 := [some (.ref a0), some (.int l1), some (.int (l2 + 1)), some (.int l3), some (.int l4), some (.long l5), none, some (.int (I (a0 + 1) ((I a0 6).toNatClampNeg)))]) cd110_83 rfl rfl rfl ?_
          refine g_iload_n cd110_86 rfl rfl ?_
          refine g_bipush cd110_87 rfl ?_
          refine g_icmp_le cd110_89 rfl (fun hb => ?_) (fun hb => ?_)
          · have h := ifpE hb h
            refine g_lload cd110_96 rfl rfl ?_
            refine g_iload cd110_98 rfl rfl ?_
            refine g_callSJ (L := [some (.long l5), none, some (.int (I (a0 + 1) ((I a0 6).toNatClampNeg)))]) cd110_100 rfl rfl rfl rfl rfl (t_Tape_withLetter (by omega)  rfl) ?_
            refine g_lstore (ls2 := [some (.ref a0), some (.int l1), some (.int (l2 + 1)), some (.int l3), some (.int l4), some (.long (Tape_withLetter l5 (I (a0 + 1) ((I a0 6).toNatClampNeg)))), none, some (.int (I (a0 + 1) ((I a0 6).toNatClampNeg)))]) cd110_103 rfl rfl ?_
            refine g_aload_n cd110_105 rfl rfl ?_
            refine g_dupR cd110_106 rfl ?_
            refine g_getI cd110_107 rfl (O10.o h0) ?_
            refine g_iconst cd110_110 rfl ?_
            refine g_iadd cd110_111 rfl ?_
            obtain ⟨I56, e1, h⟩ := bnd h
            refine G_putI cd110_112 rfl (O10.o h0) (Option.some.inj e1) ?_
            refine g_goto (ls2 := [some (.ref a0), some (.int l1), some (.int (l2 + 1)), some (.int l3), some (.int l4), some (.long (Tape_withLetter l5 (I (a0 + 1) ((I a0 6).toNatClampNeg)))), none, none]) cd110_115 rfl rfl ?_
            exact ih l1 (l2 + 1) l3 l4 (Tape_withLetter l5 (I (a0 + 1) ((I a0 6).toNatClampNeg))) I56 J h
          · have h := ifnE hb h
            refine g_lconst cd110_92 rfl ?_
            refine g_goto (ls2 := [some (.ref a0), some (.int l1), some (.int (l2 + 1)), some (.int l3), some (.int l4), some (.long l5), none, some (.int (I (a0 + 1) ((I a0 6).toNatClampNeg)))]) cd110_93 rfl rfl ?_
            refine g_lstore (ls2 := [some (.ref a0), some (.int l1), some (.int (l2 + 1)), some (.int l3), some (.int l4), some (.long 0), none, some (.int (I (a0 + 1) ((I a0 6).toNatClampNeg)))]) cd110_103 rfl rfl ?_
            refine g_aload_n cd110_105 rfl rfl ?_
            refine g_dupR cd110_106 rfl ?_
            refine g_getI cd110_107 rfl (O10.o h0) ?_
            refine g_iconst cd110_110 rfl ?_
            refine g_iadd cd110_111 rfl ?_
            obtain ⟨I57, e1, h⟩ := bnd h
            refine G_putI cd110_112 rfl (O10.o h0) (Option.some.inj e1) ?_
            refine g_goto (ls2 := [some (.ref a0), some (.int l1), some (.int (l2 + 1)), some (.int l3), some (.int l4), some (.long 0), none, none]) cd110_115 rfl rfl ?_
            exact ih l1 (l2 + 1) l3 l4 0 I57 J h
        · have h := ifpE (b2i_t hb) h
          refine g_iinc (ls2 := [some (.ref a0), some (.int l1), some (.int l2), some (.int (l3 + 1)), some (.int l4), some (.long l5), none, some (.int (I (a0 + 1) ((I a0 6).toNatClampNeg)))]) cd110_55 rfl rfl rfl ?_
          refine g_iload_n cd110_58 rfl rfl ?_
          refine g_iconst cd110_59 rfl ?_
          refine g_icmp_le cd110_60 rfl (fun hb => ?_) (fun hb => ?_)
          · have h := ifpE hb h
            refine g_iload cd110_67 rfl rfl ?_
            refine g_bipush cd110_69 rfl ?_
            refine g_imul cd110_71 rfl ?_
            refine g_iload cd110_72 rfl rfl ?_
            refine g_iadd cd110_74 rfl ?_
            refine g_bipush cd110_75 rfl ?_
            refine g_isub cd110_77 rfl ?_
            refine g_istore (ls2 := [some (.ref a0), some (.int l1), some (.int l2), some (.int (l3 + 1)), some (.int (((l4 * 10) + (I (a0 + 1) ((I a0 6).toNatClampNeg))) - 48)), some (.long l5), none, some (.int (I (a0 + 1) ((I a0 6).toNatClampNeg)))]) cd110_78 rfl rfl ?_
            refine g_goto (ls2 := [some (.ref a0), some (.int l1), some (.int l2), some (.int (l3 + 1)), some (.int (((l4 * 10) + (I (a0 + 1) ((I a0 6).toNatClampNeg))) - 48)), some (.long l5), none, some (.int (I (a0 + 1) ((I a0 6).toNatClampNeg)))]) cd110_80 rfl rfl ?_
            refine g_aload_n cd110_105 rfl rfl ?_
            refine g_dupR cd110_106 rfl ?_
            refine g_getI cd110_107 rfl (O10.o h0) ?_
            refine g_iconst cd110_110 rfl ?_
            refine g_iadd cd110_111 rfl ?_
            obtain ⟨I58, e1, h⟩ := bnd h
            refine G_putI cd110_112 rfl (O10.o h0) (Option.some.inj e1) ?_
            refine g_goto (ls2 := [some (.ref a0), some (.int l1), some (.int l2), some (.int (l3 + 1)), some (.int (((l4 * 10) + (I (a0 + 1) ((I a0 6).toNatClampNeg))) - 48)), some (.long l5), none, none]) cd110_115 rfl rfl ?_
            exact ih l1 l2 (l3 + 1) (((l4 * 10) + (I (a0 + 1) ((I a0 6).toNatClampNeg))) - 48) l5 I58 J h
          · have h := ifnE hb h
            refine g_iconst cd110_63 rfl ?_
            refine g_goto (ls2 := [some (.ref a0), some (.int l1), some (.int l2), some (.int (l3 + 1)), some (.int l4), some (.long l5), none, some (.int (I (a0 + 1) ((I a0 6).toNatClampNeg)))]) cd110_64 rfl rfl ?_
            refine g_istore (ls2 := [some (.ref a0), some (.int l1), some (.int l2), some (.int (l3 + 1)), some (.int 0), some (.long l5), none, some (.int (I (a0 + 1) ((I a0 6).toNatClampNeg)))]) cd110_78 rfl rfl ?_
            refine g_goto (ls2 := [some (.ref a0), some (.int l1), some (.int l2), some (.int (l3 + 1)), some (.int 0), some (.long l5), none, some (.int (I (a0 + 1) ((I a0 6).toNatClampNeg)))]) cd110_80 rfl rfl ?_
            refine g_aload_n cd110_105 rfl rfl ?_
            refine g_dupR cd110_106 rfl ?_
            refine g_getI cd110_107 rfl (O10.o h0) ?_
            refine g_iconst cd110_110 rfl ?_
            refine g_iadd cd110_111 rfl ?_
            obtain ⟨I59, e1, h⟩ := bnd h
            refine G_putI cd110_112 rfl (O10.o h0) (Option.some.inj e1) ?_
            refine g_goto (ls2 := [some (.ref a0), some (.int l1), some (.int l2), some (.int (l3 + 1)), some (.int 0), some (.long l5), none, none]) cd110_115 rfl rfl ?_
            exact ih l1 l2 (l3 + 1) 0 l5 I59 J h
set_option maxRecDepth 8000 in
theorem t_Tape_readRun {d : Nat} {N : Nat} {a0 : Nat} {c : Nat × Nat} {S : Nat → Nat × Nat} {P : Nat → Nat → Option Nat} {I : FI} {J : FJ} {l1 : Int32} {r : FI × FJ} (hd : 2 ≤ d) (h0 : O10 S P a0) (h : Tape_readRun N a0 l1 I J = some r) : Go d M_Tape_readRun 0 [some (.ref a0), some (.int l1), none, none, none, none, none, none] [] (c, S, I, J, P) (none, false, (c, S, r.1, r.2, P)) := by
  obtain ⟨d, rfl⟩ : ∃ e, d = e + 1 := ⟨d - 1, by omega⟩
  unfold Tape_readRun at h
  refine g_iconst cd110_0 rfl ?_
  refine g_istore_n (ls2 := [some (.ref a0), some (.int l1), some (.int 0), none, none, none, none, none]) cd110_1 rfl rfl ?_
  refine g_iconst cd110_2 rfl ?_
  refine g_istore_n (ls2 := [some (.ref a0), some (.int l1), some (.int 0), some (.int 0), none, none, none, none]) cd110_3 rfl rfl ?_
  refine g_iconst cd110_4 rfl ?_
  refine g_istore (ls2 := [some (.ref a0), some (.int l1), some (.int 0), some (.int 0), some (.int 0), none, none, none]) cd110_5 rfl rfl ?_
  refine g_lconst cd110_7 rfl ?_
  refine g_lstore (ls2 := [some (.ref a0), some (.int l1), some (.int 0), some (.int 0), some (.int 0), some (.long 0), none, none]) cd110_8 rfl rfl ?_
  exact t_Tape_readRun_10 hd h0 _ l1 0 0 0 0 I J h
/-! HiddenOrLost$Tape.isCompare(I)Z -/
theorem cd113_0 : code9 113 0 = some (0, .iload_n 0, [1], .null, []) := rfl
theorem cd113_1 : code9 113 1 = some (0, .bipush 60, [2], .int 60, []) := rfl
theorem cd113_3 : code9 113 3 = some (0, .if_icmp .eq 15, [3, 18], .null, []) := rfl
theorem cd113_6 : code9 113 6 = some (0, .iload_n 0, [1], .null, []) := rfl
theorem cd113_7 : code9 113 7 = some (0, .bipush 61, [2], .int 61, []) := rfl
theorem cd113_9 : code9 113 9 = some (0, .if_icmp .eq 9, [3, 18], .null, []) := rfl
theorem cd113_12 : code9 113 12 = some (0, .iload_n 0, [1], .null, []) := rfl
theorem cd113_13 : code9 113 13 = some (0, .bipush 62, [2], .int 62, []) := rfl
theorem cd113_15 : code9 113 15 = some (0, .if_icmp .ne 7, [3, 22], .null, []) := rfl
theorem cd113_18 : code9 113 18 = some (2, .iconst 1, [1], .int 1, []) := rfl
theorem cd113_19 : code9 113 19 = some (0, .goto 4, [3, 23, 1], .null, []) := rfl
theorem cd113_22 : code9 113 22 = some (0, .iconst 0, [1], .int 0, []) := rfl
theorem cd113_23 : code9 113 23 = some (2, .ireturn, [1, 3], .null, []) := rfl
def Tape_isCompare (l0 : Int32) : Bool := if l0 = 60 then (true) else (if l0 = 61 then (true) else (if l0 = 62 then (true) else (false)))
set_option maxRecDepth 8000 in
theorem t_Tape_isCompare {d : Nat} {c : Nat × Nat} {S : Nat → Nat × Nat} {P : Nat → Nat → Option Nat} {I : FI} {J : FJ} {l0 : Int32} {r : Bool} (hd : 0 ≤ d) (h : Tape_isCompare l0 = r) : Go d M_Tape_isCompare 0 [some (.int l0)] [] (c, S, I, J, P) (some (.int (b2i r)), false, (c, S, I, J, P)) := by
  unfold Tape_isCompare at h
  refine g_iload_n cd113_0 rfl rfl ?_
  refine g_bipush cd113_1 rfl ?_
  refine g_icmp_eq cd113_3 rfl (fun hb => ?_) (fun hb => ?_)
  · have h := ifpE hb h
    refine g_iconst cd113_18 rfl ?_
    refine g_goto (ls2 := [some (.int l0)]) cd113_19 rfl rfl ?_
    exact g_iret cd113_23 (Or.inr ⟨rfl, Or.inr rfl⟩) (by subst h; rfl)
  · have h := ifnE hb h
    refine g_iload_n cd113_6 rfl rfl ?_
    refine g_bipush cd113_7 rfl ?_
    refine g_icmp_eq cd113_9 rfl (fun hb => ?_) (fun hb => ?_)
    · have h := ifpE hb h
      refine g_iconst cd113_18 rfl ?_
      refine g_goto (ls2 := [some (.int l0)]) cd113_19 rfl rfl ?_
      exact g_iret cd113_23 (Or.inr ⟨rfl, Or.inr rfl⟩) (by subst h; rfl)
    · have h := ifnE hb h
      refine g_iload_n cd113_12 rfl rfl ?_
      refine g_bipush cd113_13 rfl ?_
      refine g_icmp_ne cd113_15 rfl (fun hb => ?_) (fun hb => ?_)
      · have h := ifpE hb h
        refine g_iconst cd113_18 rfl ?_
        refine g_goto (ls2 := [some (.int l0)]) cd113_19 rfl rfl ?_
        exact g_iret cd113_23 (Or.inr ⟨rfl, Or.inr rfl⟩) (by subst h; rfl)
      · have h := ifnE hb h
        refine g_iconst cd113_22 rfl ?_
        exact g_iret cd113_23 (Or.inr ⟨rfl, Or.inl rfl⟩) (by subst h; rfl)
/-! HiddenOrLost$Tape.isSign(I)Z -/
theorem cd112_0 : code9 112 0 = some (0, .iload_n 0, [1], .null, []) := rfl
theorem cd112_1 : code9 112 1 = some (0, .bipush 59, [2], .int 59, []) := rfl
theorem cd112_3 : code9 112 3 = some (0, .if_icmp .eq 22, [3, 25], .null, []) := rfl
theorem cd112_6 : code9 112 6 = some (0, .iload_n 0, [1], .null, []) := rfl
theorem cd112_7 : code9 112 7 = some (0, .bipush 40, [2], .int 40, []) := rfl
theorem cd112_9 : code9 112 9 = some (0, .if_icmp .eq 16, [3, 25], .null, []) := rfl
theorem cd112_12 : code9 112 12 = some (0, .iload_n 0, [1], .null, []) := rfl
theorem cd112_13 : code9 112 13 = some (0, .bipush 41, [2], .int 41, []) := rfl
theorem cd112_15 : code9 112 15 = some (0, .if_icmp .eq 10, [3, 25], .null, []) := rfl
theorem cd112_18 : code9 112 18 = some (0, .iload_n 0, [1], .null, []) := rfl
theorem cd112_19 : code9 112 19 = some (0, .invokestatic 114, [3, 113, 1, 0, 3, 1, 10, 0], .null, []) := rfl
theorem cd112_22 : code9 112 22 = some (0, .ifCond .eq 7, [3, 29], .null, []) := rfl
theorem cd112_25 : code9 112 25 = some (2, .iconst 1, [1], .int 1, []) := rfl
theorem cd112_26 : code9 112 26 = some (0, .goto 4, [3, 30, 1], .null, []) := rfl
theorem cd112_29 : code9 112 29 = some (0, .iconst 0, [1], .int 0, []) := rfl
theorem cd112_30 : code9 112 30 = some (2, .ireturn, [1, 3], .null, []) := rfl
def Tape_isSign (l0 : Int32) : Bool := if l0 = 59 then (true) else (if l0 = 40 then (true) else (if l0 = 41 then (true) else (if (Tape_isCompare l0) then (true) else (false))))
set_option maxRecDepth 8000 in
theorem t_Tape_isSign {d : Nat} {c : Nat × Nat} {S : Nat → Nat × Nat} {P : Nat → Nat → Option Nat} {I : FI} {J : FJ} {l0 : Int32} {r : Bool} (hd : 1 ≤ d) (h : Tape_isSign l0 = r) : Go d M_Tape_isSign 0 [some (.int l0)] [] (c, S, I, J, P) (some (.int (b2i r)), false, (c, S, I, J, P)) := by
  obtain ⟨d, rfl⟩ : ∃ e, d = e + 1 := ⟨d - 1, by omega⟩
  unfold Tape_isSign at h
  refine g_iload_n cd112_0 rfl rfl ?_
  refine g_bipush cd112_1 rfl ?_
  refine g_icmp_eq cd112_3 rfl (fun hb => ?_) (fun hb => ?_)
  · have h := ifpE hb h
    refine g_iconst cd112_25 rfl ?_
    refine g_goto (ls2 := [some (.int l0)]) cd112_26 rfl rfl ?_
    exact g_iret cd112_30 (Or.inr ⟨rfl, Or.inr rfl⟩) (by subst h; rfl)
  · have h := ifnE hb h
    refine g_iload_n cd112_6 rfl rfl ?_
    refine g_bipush cd112_7 rfl ?_
    refine g_icmp_eq cd112_9 rfl (fun hb => ?_) (fun hb => ?_)
    · have h := ifpE hb h
      refine g_iconst cd112_25 rfl ?_
      refine g_goto (ls2 := [some (.int l0)]) cd112_26 rfl rfl ?_
      exact g_iret cd112_30 (Or.inr ⟨rfl, Or.inr rfl⟩) (by subst h; rfl)
    · have h := ifnE hb h
      refine g_iload_n cd112_12 rfl rfl ?_
      refine g_bipush cd112_13 rfl ?_
      refine g_icmp_eq cd112_15 rfl (fun hb => ?_) (fun hb => ?_)
      · have h := ifpE hb h
        refine g_iconst cd112_25 rfl ?_
        refine g_goto (ls2 := [some (.int l0)]) cd112_26 rfl rfl ?_
        exact g_iret cd112_30 (Or.inr ⟨rfl, Or.inr rfl⟩) (by subst h; rfl)
      · have h := ifnE hb h
        refine g_iload_n cd112_18 rfl rfl ?_
        refine g_callSZ (L := [some (.int l0)]) cd112_19 rfl rfl rfl rfl rfl (t_Tape_isCompare (by omega)  rfl) ?_
        refine g_if_eq cd112_22 rfl (fun hb => ?_) (fun hb => ?_)
        · have h := ifnE (b2i_f hb) h
          refine g_iconst cd112_29 rfl ?_
          exact g_iret cd112_30 (Or.inr ⟨rfl, Or.inl rfl⟩) (by subst h; rfl)
        · have h := ifpE (b2i_t hb) h
          refine g_iconst cd112_25 rfl ?_
          refine g_goto (ls2 := [some (.int l0)]) cd112_26 rfl rfl ?_
          exact g_iret cd112_30 (Or.inr ⟨rfl, Or.inr rfl⟩) (by subst h; rfl)
/-! HiddenOrLost$Tape.readToken(I)V -/
theorem cd107_0 : code9 107 0 = some (0, .aload_n 0, [1], .null, []) := rfl
theorem cd107_1 : code9 107 1 = some (0, .getfield 9, [3, 10, 0, 2], .null, []) := rfl
theorem cd107_4 : code9 107 4 = some (0, .aload_n 0, [1], .null, []) := rfl
theorem cd107_5 : code9 107 5 = some (0, .getfield 33, [3, 10, 6, 0], .null, []) := rfl
theorem cd107_8 : code9 107 8 = some (0, .baload, [1], .null, []) := rfl
theorem cd107_9 : code9 107 9 = some (0, .istore_n 2, [1], .null, []) := rfl
theorem cd107_10 : code9 107 10 = some (0, .iload_n 2, [1], .null, []) := rfl
theorem cd107_11 : code9 107 11 = some (0, .invokestatic 97, [3, 108, 1, 0, 3, 1, 10, 0], .null, []) := rfl
theorem cd107_14 : code9 107 14 = some (0, .ifCond .eq 11, [3, 25], .null, []) := rfl
theorem cd107_17 : code9 107 17 = some (0, .aload_n 0, [1], .null, []) := rfl
theorem cd107_18 : code9 107 18 = some (0, .iload_n 1, [1], .null, []) := rfl
theorem cd107_19 : code9 107 19 = some (0, .invokevirtual 101, [3, 110, 2, 1, 0, 8, 10, 0], .null, []) := rfl
theorem cd107_22 : code9 107 22 = some (0, .goto 31, [3, 53, 3], .null, []) := rfl
theorem cd107_25 : code9 107 25 = some (0, .aload_n 0, [1], .null, []) := rfl
theorem cd107_26 : code9 107 26 = some (0, .getfield 19, [3, 10, 2, 2], .null, []) := rfl
theorem cd107_29 : code9 107 29 = some (0, .iload_n 1, [1], .null, []) := rfl
theorem cd107_30 : code9 107 30 = some (0, .iload_n 2, [1], .null, []) := rfl
theorem cd107_31 : code9 107 31 = some (0, .invokestatic 104, [3, 112, 1, 0, 3, 1, 10, 0], .null, []) := rfl
theorem cd107_34 : code9 107 34 = some (0, .ifCond .eq 7, [3, 41], .null, []) := rfl
theorem cd107_37 : code9 107 37 = some (0, .iload_n 2, [1], .null, []) := rfl
theorem cd107_38 : code9 107 38 = some (0, .goto 4, [3, 42, 3], .null, []) := rfl
theorem cd107_41 : code9 107 41 = some (0, .iconst 2, [1], .int 2, []) := rfl
theorem cd107_42 : code9 107 42 = some (4, .iastore, [1], .null, []) := rfl
theorem cd107_43 : code9 107 43 = some (0, .aload_n 0, [1], .null, []) := rfl
theorem cd107_44 : code9 107 44 = some (0, .dup, [1], .null, []) := rfl
theorem cd107_45 : code9 107 45 = some (0, .getfield 33, [3, 10, 6, 0], .null, []) := rfl
theorem cd107_48 : code9 107 48 = some (0, .iconst 1, [1], .int 1, []) := rfl
theorem cd107_49 : code9 107 49 = some (0, .iadd, [1], .null, []) := rfl
theorem cd107_50 : code9 107 50 = some (0, .putfield 33, [3, 10, 6, 0], .null, []) := rfl
theorem cd107_53 : code9 107 53 = some (4, .return_, [1], .null, []) := rfl
def Tape_readToken (N : Nat) (a0 : Nat) (l1 : Int32) (I : FI) (J : FJ) : Option (FI × FJ) := if in9 (I a0 6) 940 then (if (Tape_goesOn (I (a0 + 1) ((I a0 6).toNatClampNeg))) then (Option.bind (Tape_readRun N a0 l1 I J) fun x8 => (some (x8.1, x8.2))) else (if (Tape_isSign (I (a0 + 1) ((I a0 6).toNatClampNeg))) then (if in9 l1 901 then (Option.bind (some (up2 I (a0 + 3) l1.toNatClampNeg (I (a0 + 1) ((I a0 6).toNatClampNeg)))) fun I6 => (Option.bind (some (up2 I6 a0 6 ((I6 a0 6) + 1))) fun I7 => (some (I7, J)))) else none) else (if in9 l1 901 then (Option.bind (some (up2 I (a0 + 3) l1.toNatClampNeg (2 : Int32))) fun I3 => (Option.bind (some (up2 I3 a0 6 ((I3 a0 6) + 1))) fun I4 => (some (I4, J)))) else none))) else none
set_option maxRecDepth 8000 in
theorem t_Tape_readToken {d : Nat} {N : Nat} {a0 : Nat} {c : Nat × Nat} {S : Nat → Nat × Nat} {P : Nat → Nat → Option Nat} {I : FI} {J : FJ} {l1 : Int32} {r : FI × FJ} (hd : 3 ≤ d) (h0 : O10 S P a0) (h : Tape_readToken N a0 l1 I J = some r) : Go d M_Tape_readToken 0 [some (.ref a0), some (.int l1), none] [] (c, S, I, J, P) (none, false, (c, S, r.1, r.2, P)) := by
  obtain ⟨d, rfl⟩ : ∃ e, d = e + 1 := ⟨d - 1, by omega⟩
  unfold Tape_readToken at h
  refine g_aload_n cd107_0 rfl rfl ?_
  refine g_getP cd107_1 rfl (O10.o h0) (show P a0 0 = some (a0 + 1) from O10.p0 h0) ?_
  refine g_aload_n cd107_4 rfl rfl ?_
  refine g_getI cd107_5 rfl (O10.o h0) ?_
  obtain ⟨hg1, h⟩ := grd h
  refine G_bald cd107_8 rfl (show S (a0 + 1) = (2, 940) from O10.s0 h0) hg1 ?_
  refine g_istore_n (ls2 := [some (.ref a0), some (.int l1), some (.int (I (a0 + 1) ((I a0 6).toNatClampNeg)))]) cd107_9 rfl rfl ?_
  refine g_iload_n cd107_10 rfl rfl ?_
  refine g_callSZ (L := [some (.int (I (a0 + 1) ((I a0 6).toNatClampNeg)))]) cd107_11 rfl rfl rfl rfl rfl (t_Tape_goesOn (by omega)  rfl) ?_
  refine g_if_eq cd107_14 rfl (fun hb => ?_) (fun hb => ?_)
  · have h := ifnE (b2i_f hb) h
    refine g_aload_n cd107_25 rfl rfl ?_
    refine g_getP cd107_26 rfl (O10.o h0) (show P a0 2 = some (a0 + 3) from O10.p2 h0) ?_
    refine g_iload_n cd107_29 rfl rfl ?_
    refine g_iload_n cd107_30 rfl rfl ?_
    refine g_callSZ (L := [some (.int (I (a0 + 1) ((I a0 6).toNatClampNeg)))]) cd107_31 rfl rfl rfl rfl rfl (t_Tape_isSign (by omega)  rfl) ?_
    refine g_if_eq cd107_34 rfl (fun hb => ?_) (fun hb => ?_)
    · have h := ifnE (b2i_f hb) h
      refine g_iconst cd107_41 rfl ?_
      obtain ⟨hg2, h⟩ := grd h
      obtain ⟨I3, e1, h⟩ := bnd h
      refine G_iast cd107_42 rfl (show S (a0 + 3) = (1, 901) from O10.s2 h0) hg2 (Option.some.inj e1) ?_
      refine g_aload_n cd107_43 rfl rfl ?_
      refine g_dupR cd107_44 rfl ?_
      refine g_getI cd107_45 rfl (O10.o h0) ?_
      refine g_iconst cd107_48 rfl ?_
      refine g_iadd cd107_49 rfl ?_
      obtain ⟨I4, e1, h⟩ := bnd h
      refine G_putI cd107_50 rfl (O10.o h0) (Option.some.inj e1) ?_
      exact g_vret cd107_53 (by obtain rfl := Option.some.inj h; rfl)
    · have h := ifpE (b2i_t hb) h
      refine g_iload_n cd107_37 rfl rfl ?_
      refine g_goto (ls2 := [some (.ref a0), some (.int l1), some (.int (I (a0 + 1) ((I a0 6).toNatClampNeg)))]) cd107_38 rfl rfl ?_
      obtain ⟨hg5, h⟩ := grd h
      obtain ⟨I6, e1, h⟩ := bnd h
      refine G_iast cd107_42 rfl (show S (a0 + 3) = (1, 901) from O10.s2 h0) hg5 (Option.some.inj e1) ?_
      refine g_aload_n cd107_43 rfl rfl ?_
      refine g_dupR cd107_44 rfl ?_
      refine g_getI cd107_45 rfl (O10.o h0) ?_
      refine g_iconst cd107_48 rfl ?_
      refine g_iadd cd107_49 rfl ?_
      obtain ⟨I7, e1, h⟩ := bnd h
      refine G_putI cd107_50 rfl (O10.o h0) (Option.some.inj e1) ?_
      exact g_vret cd107_53 (by obtain rfl := Option.some.inj h; rfl)
  · have h := ifpE (b2i_t hb) h
    refine g_aload_n cd107_17 rfl rfl ?_
    refine g_iload_n cd107_18 rfl rfl ?_
    obtain ⟨x8, hx, h⟩ := bnd h
    refine g_callVV (L := [some (.ref a0), some (.int l1), none, none, none, none, none, none]) cd107_19 rfl rfl rfl rfl rfl (O10.o h0) (t_Tape_readRun (by omega) h0 hx) ?_
    refine g_goto (ls2 := [some (.ref a0), some (.int l1), some (.int (I (a0 + 1) ((I a0 6).toNatClampNeg)))]) cd107_22 rfl rfl ?_
    exact g_vret cd107_53 (by obtain rfl := Option.some.inj h; rfl)
/-! HiddenOrLost$Tape.step()V -/
theorem cd114_0 : code9 114 0 = some (0, .aload_n 0, [1], .null, []) := rfl
theorem cd114_1 : code9 114 1 = some (0, .aload_n 0, [1], .null, []) := rfl
theorem cd114_2 : code9 114 2 = some (0, .getfield 19, [3, 10, 2, 2], .null, []) := rfl
theorem cd114_5 : code9 114 5 = some (0, .aload_n 0, [1], .null, []) := rfl
theorem cd114_6 : code9 114 6 = some (0, .getfield 39, [3, 10, 8, 0], .null, []) := rfl
theorem cd114_9 : code9 114 9 = some (0, .iaload, [1], .null, []) := rfl
theorem cd114_10 : code9 114 10 = some (0, .putfield 42, [3, 10, 9, 0], .null, []) := rfl
theorem cd114_13 : code9 114 13 = some (0, .aload_n 0, [1], .null, []) := rfl
theorem cd114_14 : code9 114 14 = some (0, .aload_n 0, [1], .null, []) := rfl
theorem cd114_15 : code9 114 15 = some (0, .getfield 23, [3, 10, 3, 2], .null, []) := rfl
theorem cd114_18 : code9 114 18 = some (0, .aload_n 0, [1], .null, []) := rfl
theorem cd114_19 : code9 114 19 = some (0, .getfield 39, [3, 10, 8, 0], .null, []) := rfl
theorem cd114_22 : code9 114 22 = some (0, .iaload, [1], .null, []) := rfl
theorem cd114_23 : code9 114 23 = some (0, .putfield 55, [3, 10, 13, 0], .null, []) := rfl
theorem cd114_26 : code9 114 26 = some (0, .aload_n 0, [1], .null, []) := rfl
theorem cd114_27 : code9 114 27 = some (0, .aload_n 0, [1], .null, []) := rfl
theorem cd114_28 : code9 114 28 = some (0, .getfield 26, [3, 10, 4, 2], .null, []) := rfl
theorem cd114_31 : code9 114 31 = some (0, .aload_n 0, [1], .null, []) := rfl
theorem cd114_32 : code9 114 32 = some (0, .getfield 39, [3, 10, 8, 0], .null, []) := rfl
theorem cd114_35 : code9 114 35 = some (0, .laload, [1], .null, []) := rfl
theorem cd114_36 : code9 114 36 = some (0, .putfield 45, [3, 10, 10, 1], .null, []) := rfl
theorem cd114_39 : code9 114 39 = some (0, .aload_n 0, [1], .null, []) := rfl
theorem cd114_40 : code9 114 40 = some (0, .aload_n 0, [1], .null, []) := rfl
theorem cd114_41 : code9 114 41 = some (0, .getfield 42, [3, 10, 9, 0], .null, []) := rfl
theorem cd114_44 : code9 114 44 = some (0, .iconst 4, [1], .int 4, []) := rfl
theorem cd114_45 : code9 114 45 = some (0, .if_icmp .ne 11, [3, 56], .null, []) := rfl
theorem cd114_48 : code9 114 48 = some (0, .aload_n 0, [1], .null, []) := rfl
theorem cd114_49 : code9 114 49 = some (0, .getfield 45, [3, 10, 10, 1], .null, []) := rfl
theorem cd114_52 : code9 114 52 = some (0, .l2i, [1], .null, []) := rfl
theorem cd114_53 : code9 114 53 = some (0, .goto 4, [3, 57, 1], .null, []) := rfl
theorem cd114_56 : code9 114 56 = some (0, .iconst (-1), [1], .int (-1), []) := rfl
theorem cd114_57 : code9 114 57 = some (2, .putfield 49, [3, 10, 11, 0], .null, []) := rfl
theorem cd114_60 : code9 114 60 = some (0, .aload_n 0, [1], .null, []) := rfl
theorem cd114_61 : code9 114 61 = some (0, .getfield 39, [3, 10, 8, 0], .null, []) := rfl
theorem cd114_64 : code9 114 64 = some (0, .aload_n 0, [1], .null, []) := rfl
theorem cd114_65 : code9 114 65 = some (0, .getfield 36, [3, 10, 7, 0], .null, []) := rfl
theorem cd114_68 : code9 114 68 = some (0, .if_icmp .ge 13, [3, 81], .null, []) := rfl
theorem cd114_71 : code9 114 71 = some (0, .aload_n 0, [1], .null, []) := rfl
theorem cd114_72 : code9 114 72 = some (0, .dup, [1], .null, []) := rfl
theorem cd114_73 : code9 114 73 = some (0, .getfield 39, [3, 10, 8, 0], .null, []) := rfl
theorem cd114_76 : code9 114 76 = some (0, .iconst 1, [1], .int 1, []) := rfl
theorem cd114_77 : code9 114 77 = some (0, .iadd, [1], .null, []) := rfl
theorem cd114_78 : code9 114 78 = some (0, .putfield 39, [3, 10, 8, 0], .null, []) := rfl
theorem cd114_81 : code9 114 81 = some (2, .return_, [1], .null, []) := rfl
def Tape_step (a0 : Nat) (I : FI) (J : FJ) : Option (FI × FJ) := if in9 (I a0 8) 901 then (Option.bind (some (up2 I a0 9 (I (a0 + 3) ((I a0 8).toNatClampNeg)))) fun I2 => (if in9 (I2 a0 8) 901 then (Option.bind (some (up2 I2 a0 13 (I2 (a0 + 4) ((I2 a0 8).toNatClampNeg)))) fun I4 => (if in9 (I4 a0 8) 901 then (Option.bind (some (up2 J a0 10 (J (a0 + 5) ((I4 a0 8).toNatClampNeg)))) fun J6 => (if (I4 a0 9) = 4 then (Option.bind (some (up2 I4 a0 11 ((J6 a0 10).toInt32))) fun I7 => (if (I7 a0 7) ≤ (I7 a0 8) then (some (I7, J6)) else (Option.bind (some (up2 I7 a0 8 ((I7 a0 8) + 1))) fun I8 => (some (I8, J6))))) else (Option.bind (some (up2 I4 a0 11 (-1 : Int32))) fun I9 => (if (I9 a0 7) ≤ (I9 a0 8) then (some (I9, J6)) else (Option.bind (some (up2 I9 a0 8 ((I9 a0 8) + 1))) fun I10 => (some (I10, J6))))))) else none)) else none)) else none
set_option maxRecDepth 8000 in
theorem t_Tape_step {d : Nat} {a0 : Nat} {c : Nat × Nat} {S : Nat → Nat × Nat} {P : Nat → Nat → Option Nat} {I : FI} {J : FJ} {r : FI × FJ} (hd : 0 ≤ d) (h0 : O10 S P a0) (h : Tape_step a0 I J = some r) : Go d M_Tape_step 0 [some (.ref a0)] [] (c, S, I, J, P) (none, false, (c, S, r.1, r.2, P)) := by
  unfold Tape_step at h
  refine g_aload_n cd114_0 rfl rfl ?_
  refine g_aload_n cd114_1 rfl rfl ?_
  refine g_getP cd114_2 rfl (O10.o h0) (show P a0 2 = some (a0 + 3) from O10.p2 h0) ?_
  refine g_aload_n cd114_5 rfl rfl ?_
  refine g_getI cd114_6 rfl (O10.o h0) ?_
  obtain ⟨hg1, h⟩ := grd h
  refine G_iald cd114_9 rfl (show S (a0 + 3) = (1, 901) from O10.s2 h0) hg1 ?_
  obtain ⟨I2, e1, h⟩ := bnd h
  refine G_putI cd114_10 rfl (O10.o h0) (Option.some.inj e1) ?_
  refine g_aload_n cd114_13 rfl rfl ?_
  refine g_aload_n cd114_14 rfl rfl ?_
  refine g_getP cd114_15 rfl (O10.o h0) (show P a0 3 = some (a0 + 4) from O10.p3 h0) ?_
  refine g_aload_n cd114_18 rfl rfl ?_
  refine g_getI cd114_19 rfl (O10.o h0) ?_
  obtain ⟨hg3, h⟩ := grd h
  refine G_iald cd114_22 rfl (show S (a0 + 4) = (1, 901) from O10.s3 h0) hg3 ?_
  obtain ⟨I4, e1, h⟩ := bnd h
  refine G_putI cd114_23 rfl (O10.o h0) (Option.some.inj e1) ?_
  refine g_aload_n cd114_26 rfl rfl ?_
  refine g_aload_n cd114_27 rfl rfl ?_
  refine g_getP cd114_28 rfl (O10.o h0) (show P a0 4 = some (a0 + 5) from O10.p4 h0) ?_
  refine g_aload_n cd114_31 rfl rfl ?_
  refine g_getI cd114_32 rfl (O10.o h0) ?_
  obtain ⟨hg5, h⟩ := grd h
  refine G_lald cd114_35 rfl (show S (a0 + 5) = (4, 901) from O10.s4 h0) hg5 ?_
  obtain ⟨J6, e1, h⟩ := bnd h
  refine G_putJ cd114_36 rfl (O10.o h0) (Option.some.inj e1) ?_
  refine g_aload_n cd114_39 rfl rfl ?_
  refine g_aload_n cd114_40 rfl rfl ?_
  refine g_getI cd114_41 rfl (O10.o h0) ?_
  refine g_iconst cd114_44 rfl ?_
  refine g_icmp_ne cd114_45 rfl (fun hb => ?_) (fun hb => ?_)
  · have h := ifpE hb h
    refine g_aload_n cd114_48 rfl rfl ?_
    refine g_getJ cd114_49 rfl (O10.o h0) ?_
    refine g_l2i cd114_52 rfl ?_
    refine g_goto (ls2 := [some (.ref a0)]) cd114_53 rfl rfl ?_
    obtain ⟨I7, e1, h⟩ := bnd h
    refine G_putI cd114_57 rfl (O10.o h0) (Option.some.inj e1) ?_
    refine g_aload_n cd114_60 rfl rfl ?_
    refine g_getI cd114_61 rfl (O10.o h0) ?_
    refine g_aload_n cd114_64 rfl rfl ?_
    refine g_getI cd114_65 rfl (O10.o h0) ?_
    refine g_icmp_ge cd114_68 rfl (fun hb => ?_) (fun hb => ?_)
    · have h := ifpE hb h
      exact g_vret cd114_81 (by obtain rfl := Option.some.inj h; rfl)
    · have h := ifnE hb h
      refine g_aload_n cd114_71 rfl rfl ?_
      refine g_dupR cd114_72 rfl ?_
      refine g_getI cd114_73 rfl (O10.o h0) ?_
      refine g_iconst cd114_76 rfl ?_
      refine g_iadd cd114_77 rfl ?_
      obtain ⟨I8, e1, h⟩ := bnd h
      refine G_putI cd114_78 rfl (O10.o h0) (Option.some.inj e1) ?_
      exact g_vret cd114_81 (by obtain rfl := Option.some.inj h; rfl)
  · have h := ifnE hb h
    refine g_iconst cd114_56 rfl ?_
    obtain ⟨I9, e1, h⟩ := bnd h
    refine G_putI cd114_57 rfl (O10.o h0) (Option.some.inj e1) ?_
    refine g_aload_n cd114_60 rfl rfl ?_
    refine g_getI cd114_61 rfl (O10.o h0) ?_
    refine g_aload_n cd114_64 rfl rfl ?_
    refine g_getI cd114_65 rfl (O10.o h0) ?_
    refine g_icmp_ge cd114_68 rfl (fun hb => ?_) (fun hb => ?_)
    · have h := ifpE hb h
      exact g_vret cd114_81 (by obtain rfl := Option.some.inj h; rfl)
    · have h := ifnE hb h
      refine g_aload_n cd114_71 rfl rfl ?_
      refine g_dupR cd114_72 rfl ?_
      refine g_getI cd114_73 rfl (O10.o h0) ?_
      refine g_iconst cd114_76 rfl ?_
      refine g_iadd cd114_77 rfl ?_
      obtain ⟨I10, e1, h⟩ := bnd h
      refine G_putI cd114_78 rfl (O10.o h0) (Option.some.inj e1) ?_
      exact g_vret cd114_81 (by obtain rfl := Option.some.inj h; rfl)
/-! HiddenOrLost$Tape.begin(I)V -/
theorem cd105_0 : code9 105 0 = some (0, .iconst 0, [1], .int 0, []) := rfl
theorem cd105_1 : code9 105 1 = some (0, .istore_n 2, [1], .null, []) := rfl
theorem cd105_2 : code9 105 2 = some (0, .aload_n 0, [1], .null, []) := rfl
theorem cd105_3 : code9 105 3 = some (0, .iconst 0, [1], .int 0, []) := rfl
theorem cd105_4 : code9 105 4 = some (0, .putfield 33, [3, 10, 6, 0], .null, []) := rfl
theorem cd105_7 : code9 105 7 = some (0, .aload_n 0, [1], .null, []) := rfl
theorem cd105_8 : code9 105 8 = some (0, .invokevirtual 81, [3, 106, 1, 1, 0, 1, 10, 0], .null, []) := rfl
theorem cd105_11 : code9 105 11 = some (4, .iload_n 2, [1], .null, []) := rfl
theorem cd105_12 : code9 105 12 = some (0, .sipush 900, [3], .int 900, []) := rfl
theorem cd105_15 : code9 105 15 = some (0, .if_icmp .ge 47, [3, 62], .null, []) := rfl
theorem cd105_18 : code9 105 18 = some (0, .aload_n 0, [1], .null, []) := rfl
theorem cd105_19 : code9 105 19 = some (0, .getfield 33, [3, 10, 6, 0], .null, []) := rfl
theorem cd105_22 : code9 105 22 = some (0, .aload_n 0, [1], .null, []) := rfl
theorem cd105_23 : code9 105 23 = some (0, .getfield 29, [3, 10, 5, 0], .null, []) := rfl
theorem cd105_26 : code9 105 26 = some (0, .if_icmp .ge 36, [3, 62], .null, []) := rfl
theorem cd105_29 : code9 105 29 = some (0, .aload_n 0, [1], .null, []) := rfl
theorem cd105_30 : code9 105 30 = some (0, .getfield 33, [3, 10, 6, 0], .null, []) := rfl
theorem cd105_33 : code9 105 33 = some (0, .iload_n 1, [1], .null, []) := rfl
theorem cd105_34 : code9 105 34 = some (0, .if_icmp .ge 28, [3, 62], .null, []) := rfl
theorem cd105_37 : code9 105 37 = some (0, .aload_n 0, [1], .null, []) := rfl
theorem cd105_38 : code9 105 38 = some (0, .getfield 23, [3, 10, 3, 2], .null, []) := rfl
theorem cd105_41 : code9 105 41 = some (0, .iload_n 2, [1], .null, []) := rfl
theorem cd105_42 : code9 105 42 = some (0, .aload_n 0, [1], .null, []) := rfl
theorem cd105_43 : code9 105 43 = some (0, .getfield 33, [3, 10, 6, 0], .null, []) := rfl
theorem cd105_46 : code9 105 46 = some (0, .iastore, [1], .null, []) := rfl
theorem cd105_47 : code9 105 47 = some (0, .aload_n 0, [1], .null, []) := rfl
theorem cd105_48 : code9 105 48 = some (0, .iload_n 2, [1], .null, []) := rfl
theorem cd105_49 : code9 105 49 = some (0, .invokevirtual 84, [3, 107, 2, 1, 0, 3, 10, 0], .null, []) := rfl
theorem cd105_52 : code9 105 52 = some (0, .iinc 2 1, [3], .int 1, []) := rfl
theorem cd105_55 : code9 105 55 = some (0, .aload_n 0, [1], .null, []) := rfl
theorem cd105_56 : code9 105 56 = some (0, .invokevirtual 81, [3, 106, 1, 1, 0, 1, 10, 0], .null, []) := rfl
theorem cd105_59 : code9 105 59 = some (0, .goto (-48), [3, 11, 3], .null, []) := rfl
theorem cd105_62 : code9 105 62 = some (4, .aload_n 0, [1], .null, []) := rfl
theorem cd105_63 : code9 105 63 = some (0, .getfield 19, [3, 10, 2, 2], .null, []) := rfl
theorem cd105_66 : code9 105 66 = some (0, .iload_n 2, [1], .null, []) := rfl
theorem cd105_67 : code9 105 67 = some (0, .aload_n 0, [1], .null, []) := rfl
theorem cd105_68 : code9 105 68 = some (0, .getfield 29, [3, 10, 5, 0], .null, []) := rfl
theorem cd105_71 : code9 105 71 = some (0, .iload_n 1, [1], .null, []) := rfl
theorem cd105_72 : code9 105 72 = some (0, .if_icmp .le 7, [3, 79], .null, []) := rfl
theorem cd105_75 : code9 105 75 = some (0, .iconst 1, [1], .int 1, []) := rfl
theorem cd105_76 : code9 105 76 = some (0, .goto 4, [3, 80, 3], .null, []) := rfl
theorem cd105_79 : code9 105 79 = some (0, .iconst 0, [1], .int 0, []) := rfl
theorem cd105_80 : code9 105 80 = some (4, .iastore, [1], .null, []) := rfl
theorem cd105_81 : code9 105 81 = some (0, .aload_n 0, [1], .null, []) := rfl
theorem cd105_82 : code9 105 82 = some (0, .getfield 23, [3, 10, 3, 2], .null, []) := rfl
theorem cd105_85 : code9 105 85 = some (0, .iload_n 2, [1], .null, []) := rfl
theorem cd105_86 : code9 105 86 = some (0, .aload_n 0, [1], .null, []) := rfl
theorem cd105_87 : code9 105 87 = some (0, .getfield 29, [3, 10, 5, 0], .null, []) := rfl
theorem cd105_90 : code9 105 90 = some (0, .iload_n 1, [1], .null, []) := rfl
theorem cd105_91 : code9 105 91 = some (0, .invokestatic 88, [3, 7], .null, []) := rfl
theorem cd105_94 : code9 105 94 = some (0, .iastore, [1], .null, []) := rfl
theorem cd105_95 : code9 105 95 = some (0, .aload_n 0, [1], .null, []) := rfl
theorem cd105_96 : code9 105 96 = some (0, .iload_n 2, [1], .null, []) := rfl
theorem cd105_97 : code9 105 97 = some (0, .putfield 36, [3, 10, 7, 0], .null, []) := rfl
theorem cd105_100 : code9 105 100 = some (0, .aload_n 0, [1], .null, []) := rfl
theorem cd105_101 : code9 105 101 = some (0, .iconst 0, [1], .int 0, []) := rfl
theorem cd105_102 : code9 105 102 = some (0, .putfield 39, [3, 10, 8, 0], .null, []) := rfl
theorem cd105_105 : code9 105 105 = some (0, .aload_n 0, [1], .null, []) := rfl
theorem cd105_106 : code9 105 106 = some (0, .iconst 0, [1], .int 0, []) := rfl
theorem cd105_107 : code9 105 107 = some (0, .putfield 58, [3, 10, 14, 0], .null, []) := rfl
theorem cd105_110 : code9 105 110 = some (0, .aload_n 0, [1], .null, []) := rfl
theorem cd105_111 : code9 105 111 = some (0, .iconst 0, [1], .int 0, []) := rfl
theorem cd105_112 : code9 105 112 = some (0, .putfield 61, [3, 10, 15, 0], .null, []) := rfl
theorem cd105_115 : code9 105 115 = some (0, .aload_n 0, [1], .null, []) := rfl
theorem cd105_116 : code9 105 116 = some (0, .invokevirtual 94, [3, 114, 1, 1, 0, 1, 10, 0], .null, []) := rfl
theorem cd105_119 : code9 105 119 = some (0, .return_, [1], .null, []) := rfl
def Tape_begin_11 (N : Nat) (a0 : Nat) : Nat → Int32 → Int32 → FI → FJ → Option (FI × FJ)
  | 0 => fun _ _ _ _ => none
  | n + 1 => fun l1 l2 I J => if 900 ≤ l2 then (if (I a0 5) ≤ l1 then (if in9 l2 901 then (Option.bind (some (up2 I (a0 + 3) l2.toNatClampNeg (0 : Int32))) fun I4 => (Option.bind (some (up2 I4 (a0 + 4) l2.toNatClampNeg (if l1 < (I4 a0 5) then l1 else (I4 a0 5)))) fun I5 => (Option.bind (some (up2 I5 a0 7 l2)) fun I6 => (Option.bind (some (up2 I6 a0 8 (0 : Int32))) fun I7 => (Option.bind (some (up2 I7 a0 14 (0 : Int32))) fun I8 => (Option.bind (some (up2 I8 a0 15 (0 : Int32))) fun I9 => (Option.bind (Tape_step a0 I9 J) fun x10 => (some (x10.1, x10.2))))))))) else none) else (if in9 l2 901 then (Option.bind (some (up2 I (a0 + 3) l2.toNatClampNeg (1 : Int32))) fun I12 => (Option.bind (some (up2 I12 (a0 + 4) l2.toNatClampNeg (if l1 < (I12 a0 5) then l1 else (I12 a0 5)))) fun I13 => (Option.bind (some (up2 I13 a0 7 l2)) fun I14 => (Option.bind (some (up2 I14 a0 8 (0 : Int32))) fun I15 => (Option.bind (some (up2 I15 a0 14 (0 : Int32))) fun I16 => (Option.bind (some (up2 I16 a0 15 (0 : Int32))) fun I17 => (Option.bind (Tape_step a0 I17 J) fun x18 => (some (x18.1, x18.2))))))))) else none)) else (if (I a0 5) ≤ (I a0 6) then (if (I a0 5) ≤ l1 then (if in9 l2 901 then (Option.bind (some (up2 I (a0 + 3) l2.toNatClampNeg (0 : Int32))) fun I20 => (Option.bind (some (up2 I20 (a0 + 4) l2.toNatClampNeg (if l1 < (I20 a0 5) then l1 else (I20 a0 5)))) fun I21 => (Option.bind (some (up2 I21 a0 7 l2)) fun I22 => (Option.bind (some (up2 I22 a0 8 (0 : Int32))) fun I23 => (Option.bind (some (up2 I23 a0 14 (0 : Int32))) fun I24 => (Option.bind (some (up2 I24 a0 15 (0 : Int32))) fun I25 => (Option.bind (Tape_step a0 I25 J) fun x26 => (some (x26.1, x26.2))))))))) else none) else (if in9 l2 901 then (Option.bind (some (up2 I (a0 + 3) l2.toNatClampNeg (1 : Int32))) fun I28 => (Option.bind (some (up2 I28 (a0 + 4) l2.toNatClampNeg (if l1 < (I28 a0 5) then l1 else (I28 a0 5)))) fun I29 => (Option.bind (some (up2 I29 a0 7 l2)) fun I30 => (Option.bind (some (up2 I30 a0 8 (0 : Int32))) fun I31 => (Option.bind (some (up2 I31 a0 14 (0 : Int32))) fun I32 => (Option.bind (some (up2 I32 a0 15 (0 : Int32))) fun I33 => (Option.bind (Tape_step a0 I33 J) fun x34 => (some (x34.1, x34.2))))))))) else none)) else (if l1 ≤ (I a0 6) then (if (I a0 5) ≤ l1 then (if in9 l2 901 then (Option.bind (some (up2 I (a0 + 3) l2.toNatClampNeg (0 : Int32))) fun I36 => (Option.bind (some (up2 I36 (a0 + 4) l2.toNatClampNeg (if l1 < (I36 a0 5) then l1 else (I36 a0 5)))) fun I37 => (Option.bind (some (up2 I37 a0 7 l2)) fun I38 => (Option.bind (some (up2 I38 a0 8 (0 : Int32))) fun I39 => (Option.bind (some (up2 I39 a0 14 (0 : Int32))) fun I40 => (Option.bind (some (up2 I40 a0 15 (0 : Int32))) fun I41 => (Option.bind (Tape_step a0 I41 J) fun x42 => (some (x42.1, x42.2))))))))) else none) else (if in9 l2 901 then (Option.bind (some (up2 I (a0 + 3) l2.toNatClampNeg (1 : Int32))) fun I44 => (Option.bind (some (up2 I44 (a0 + 4) l2.toNatClampNeg (if l1 < (I44 a0 5) then l1 else (I44 a0 5)))) fun I45 => (Option.bind (some (up2 I45 a0 7 l2)) fun I46 => (Option.bind (some (up2 I46 a0 8 (0 : Int32))) fun I47 => (Option.bind (some (up2 I47 a0 14 (0 : Int32))) fun I48 => (Option.bind (some (up2 I48 a0 15 (0 : Int32))) fun I49 => (Option.bind (Tape_step a0 I49 J) fun x50 => (some (x50.1, x50.2))))))))) else none)) else (if in9 l2 901 then (Option.bind (some (up2 I (a0 + 4) l2.toNatClampNeg (I a0 6))) fun I52 => (Option.bind (Tape_readToken N a0 l2 I52 J) fun x53 => (Option.bind (Tape_skipBlanks N a0 x53.1) fun x54 => (Tape_begin_11 N a0 n l1 (l2 + 1) x54 x53.2)))) else none)))
def Tape_begin (N : Nat) (a0 : Nat) (l1 : Int32) (I : FI) (J : FJ) : Option (FI × FJ) := Option.bind (some (up2 I a0 6 (0 : Int32))) fun I1 => (Option.bind (Tape_skipBlanks N a0 I1) fun x2 => (Tape_begin_11 N a0 N l1 0 x2 J))
set_option maxRecDepth 8000 in
theorem t_Tape_begin_11 {d : Nat} {N : Nat} {a0 : Nat} {c : Nat × Nat} {S : Nat → Nat × Nat} {P : Nat → Nat → Option Nat} {r : FI × FJ} (hd : 4 ≤ (d + 1)) (h0 : O10 S P a0) : ∀ (n : Nat) (l1 : Int32) (l2 : Int32) (I : FI) (J : FJ), Tape_begin_11 N a0 n l1 l2 I J = some r → Go (d + 1) M_Tape_begin 11 [some (.ref a0), some (.int l1), some (.int l2)] [] (c, S, I, J, P) (none, false, (c, S, r.1, r.2, P)) := by
  intro n
  induction n with
  | zero =>
    intro l1 l2 I J h
    cases h
  | succ n ih =>
    intro l1 l2 I J h
    unfold Tape_begin_11 at h
    refine g_iload_n cd105_11 rfl rfl ?_
    refine g_sipush cd105_12 rfl ?_
    refine g_icmp_ge cd105_15 rfl (fun hb => ?_) (fun hb => ?_)
    · have h := ifpE hb h
      refine g_aload_n cd105_62 rfl rfl ?_
      refine g_getP cd105_63 rfl (O10.o h0) (show P a0 2 = some (a0 + 3) from O10.p2 h0) ?_
      refine g_iload_n cd105_66 rfl rfl ?_
      refine g_aload_n cd105_67 rfl rfl ?_
      refine g_getI cd105_68 rfl (O10.o h0) ?_
      refine g_iload_n cd105_71 rfl rfl ?_
      refine g_icmp_le cd105_72 rfl (fun hb => ?_) (fun hb => ?_)
      · have h := ifpE hb h
        refine g_iconst cd105_79 rfl ?_
        obtain ⟨hg3, h⟩ := grd h
        obtain ⟨I4, e1, h⟩ := bnd h
        refine G_iast cd105_80 rfl (show S (a0 + 3) = (1, 901) from O10.s2 h0) hg3 (Option.some.inj e1) ?_
        refine g_aload_n cd105_81 rfl rfl ?_
        refine g_getP cd105_82 rfl (O10.o h0) (show P a0 3 = some (a0 + 4) from O10.p3 h0) ?_
        refine g_iload_n cd105_85 rfl rfl ?_
        refine g_aload_n cd105_86 rfl rfl ?_
        refine g_getI cd105_87 rfl (O10.o h0) ?_
        refine g_iload_n cd105_90 rfl rfl ?_
        refine g_min cd105_91 rfl (Nat.succ_ne_zero _) rfl ?_
        obtain ⟨I5, e1, h⟩ := bnd h
        refine G_iast cd105_94 rfl (show S (a0 + 4) = (1, 901) from O10.s3 h0) hg3 (Option.some.inj e1) ?_
        refine g_aload_n cd105_95 rfl rfl ?_
        refine g_iload_n cd105_96 rfl rfl ?_
        obtain ⟨I6, e1, h⟩ := bnd h
        refine G_putI cd105_97 rfl (O10.o h0) (Option.some.inj e1) ?_
        refine g_aload_n cd105_100 rfl rfl ?_
        refine g_iconst cd105_101 rfl ?_
        obtain ⟨I7, e1, h⟩ := bnd h
        refine G_putI cd105_102 rfl (O10.o h0) (Option.some.inj e1) ?_
        refine g_aload_n cd105_105 rfl rfl ?_
        refine g_iconst cd105_106 rfl ?_
        obtain ⟨I8, e1, h⟩ := bnd h
        refine G_putI cd105_107 rfl (O10.o h0) (Option.some.inj e1) ?_
        refine g_aload_n cd105_110 rfl rfl ?_
        refine g_iconst cd105_111 rfl ?_
        obtain ⟨I9, e1, h⟩ := bnd h
        refine G_putI cd105_112 rfl (O10.o h0) (Option.some.inj e1) ?_
        refine g_aload_n cd105_115 rfl rfl ?_
        obtain ⟨x10, hx, h⟩ := bnd h
        refine g_callVV (L := [some (.ref a0)]) cd105_116 rfl rfl rfl rfl rfl (O10.o h0) (t_Tape_step (by omega) h0 hx) ?_
        exact g_vret cd105_119 (by obtain rfl := Option.some.inj h; rfl)
      · have h := ifnE hb h
        refine g_iconst cd105_75 rfl ?_
        refine g_goto (ls2 := [some (.ref a0), some (.int l1), some (.int l2)]) cd105_76 rfl rfl ?_
        obtain ⟨hg11, h⟩ := grd h
        obtain ⟨I12, e1, h⟩ := bnd h
        refine G_iast cd105_80 rfl (show S (a0 + 3) = (1, 901) from O10.s2 h0) hg11 (Option.some.inj e1) ?_
        refine g_aload_n cd105_81 rfl rfl ?_
        refine g_getP cd105_82 rfl (O10.o h0) (show P a0 3 = some (a0 + 4) from O10.p3 h0) ?_
        refine g_iload_n cd105_85 rfl rfl ?_
        refine g_aload_n cd105_86 rfl rfl ?_
        refine g_getI cd105_87 rfl (O10.o h0) ?_
        refine g_iload_n cd105_90 rfl rfl ?_
        refine g_min cd105_91 rfl (Nat.succ_ne_zero _) rfl ?_
        obtain ⟨I13, e1, h⟩ := bnd h
        refine G_iast cd105_94 rfl (show S (a0 + 4) = (1, 901) from O10.s3 h0) hg11 (Option.some.inj e1) ?_
        refine g_aload_n cd105_95 rfl rfl ?_
        refine g_iload_n cd105_96 rfl rfl ?_
        obtain ⟨I14, e1, h⟩ := bnd h
        refine G_putI cd105_97 rfl (O10.o h0) (Option.some.inj e1) ?_
        refine g_aload_n cd105_100 rfl rfl ?_
        refine g_iconst cd105_101 rfl ?_
        obtain ⟨I15, e1, h⟩ := bnd h
        refine G_putI cd105_102 rfl (O10.o h0) (Option.some.inj e1) ?_
        refine g_aload_n cd105_105 rfl rfl ?_
        refine g_iconst cd105_106 rfl ?_
        obtain ⟨I16, e1, h⟩ := bnd h
        refine G_putI cd105_107 rfl (O10.o h0) (Option.some.inj e1) ?_
        refine g_aload_n cd105_110 rfl rfl ?_
        refine g_iconst cd105_111 rfl ?_
        obtain ⟨I17, e1, h⟩ := bnd h
        refine G_putI cd105_112 rfl (O10.o h0) (Option.some.inj e1) ?_
        refine g_aload_n cd105_115 rfl rfl ?_
        obtain ⟨x18, hx, h⟩ := bnd h
        refine g_callVV (L := [some (.ref a0)]) cd105_116 rfl rfl rfl rfl rfl (O10.o h0) (t_Tape_step (by omega) h0 hx) ?_
        exact g_vret cd105_119 (by obtain rfl := Option.some.inj h; rfl)
    · have h := ifnE hb h
      refine g_aload_n cd105_18 rfl rfl ?_
      refine g_getI cd105_19 rfl (O10.o h0) ?_
      refine g_aload_n cd105_22 rfl rfl ?_
      refine g_getI cd105_23 rfl (O10.o h0) ?_
      refine g_icmp_ge cd105_26 rfl (fun hb => ?_) (fun hb => ?_)
      · have h := ifpE hb h
        refine g_aload_n cd105_62 rfl rfl ?_
        refine g_getP cd105_63 rfl (O10.o h0) (show P a0 2 = some (a0 + 3) from O10.p2 h0) ?_
        refine g_iload_n cd105_66 rfl rfl ?_
        refine g_aload_n cd105_67 rfl rfl ?_
        refine g_getI cd105_68 rfl (O10.o h0) ?_
        refine g_iload_n cd105_71 rfl rfl ?_
        refine g_icmp_le cd105_72 rfl (fun hb => ?_) (fun hb => ?_)
        · have h := ifpE hb h
          refine g_iconst cd105_79 rfl ?_
          obtain ⟨hg19, h⟩ := grd h
          obtain ⟨I20, e1, h⟩ := bnd h
          refine G_iast cd105_80 rfl (show S (a0 + 3) = (1, 901) from O10.s2 h0) hg19 (Option.some.inj e1) ?_
          refine g_aload_n cd105_81 rfl rfl ?_
          refine g_getP cd105_82 rfl (O10.o h0) (show P a0 3 = some (a0 + 4) from O10.p3 h0) ?_
          refine g_iload_n cd105_85 rfl rfl ?_
          refine g_aload_n cd105_86 rfl rfl ?_
          refine g_getI cd105_87 rfl (O10.o h0) ?_
          refine g_iload_n cd105_90 rfl rfl ?_
          refine g_min cd105_91 rfl (Nat.succ_ne_zero _) rfl ?_
          obtain ⟨I21, e1, h⟩ := bnd h
          refine G_iast cd105_94 rfl (show S (a0 + 4) = (1, 901) from O10.s3 h0) hg19 (Option.some.inj e1) ?_
          refine g_aload_n cd105_95 rfl rfl ?_
          refine g_iload_n cd105_96 rfl rfl ?_
          obtain ⟨I22, e1, h⟩ := bnd h
          refine G_putI cd105_97 rfl (O10.o h0) (Option.some.inj e1) ?_
          refine g_aload_n cd105_100 rfl rfl ?_
          refine g_iconst cd105_101 rfl ?_
          obtain ⟨I23, e1, h⟩ := bnd h
          refine G_putI cd105_102 rfl (O10.o h0) (Option.some.inj e1) ?_
          refine g_aload_n cd105_105 rfl rfl ?_
          refine g_iconst cd105_106 rfl ?_
          obtain ⟨I24, e1, h⟩ := bnd h
          refine G_putI cd105_107 rfl (O10.o h0) (Option.some.inj e1) ?_
          refine g_aload_n cd105_110 rfl rfl ?_
          refine g_iconst cd105_111 rfl ?_
          obtain ⟨I25, e1, h⟩ := bnd h
          refine G_putI cd105_112 rfl (O10.o h0) (Option.some.inj e1) ?_
          refine g_aload_n cd105_115 rfl rfl ?_
          obtain ⟨x26, hx, h⟩ := bnd h
          refine g_callVV (L := [some (.ref a0)]) cd105_116 rfl rfl rfl rfl rfl (O10.o h0) (t_Tape_step (by omega) h0 hx) ?_
          exact g_vret cd105_119 (by obtain rfl := Option.some.inj h; rfl)
        · have h := ifnE hb h
          refine g_iconst cd105_75 rfl ?_
          refine g_goto (ls2 := [some (.ref a0), some (.int l1), some (.int l2)]) cd105_76 rfl rfl ?_
          obtain ⟨hg27, h⟩ := grd h
          obtain ⟨I28, e1, h⟩ := bnd h
          refine G_iast cd105_80 rfl (show S (a0 + 3) = (1, 901) from O10.s2 h0) hg27 (Option.some.inj e1) ?_
          refine g_aload_n cd105_81 rfl rfl ?_
          refine g_getP cd105_82 rfl (O10.o h0) (show P a0 3 = some (a0 + 4) from O10.p3 h0) ?_
          refine g_iload_n cd105_85 rfl rfl ?_
          refine g_aload_n cd105_86 rfl rfl ?_
          refine g_getI cd105_87 rfl (O10.o h0) ?_
          refine g_iload_n cd105_90 rfl rfl ?_
          refine g_min cd105_91 rfl (Nat.succ_ne_zero _) rfl ?_
          obtain ⟨I29, e1, h⟩ := bnd h
          refine G_iast cd105_94 rfl (show S (a0 + 4) = (1, 901) from O10.s3 h0) hg27 (Option.some.inj e1) ?_
          refine g_aload_n cd105_95 rfl rfl ?_
          refine g_iload_n cd105_96 rfl rfl ?_
          obtain ⟨I30, e1, h⟩ := bnd h
          refine G_putI cd105_97 rfl (O10.o h0) (Option.some.inj e1) ?_
          refine g_aload_n cd105_100 rfl rfl ?_
          refine g_iconst cd105_101 rfl ?_
          obtain ⟨I31, e1, h⟩ := bnd h
          refine G_putI cd105_102 rfl (O10.o h0) (Option.some.inj e1) ?_
          refine g_aload_n cd105_105 rfl rfl ?_
          refine g_iconst cd105_106 rfl ?_
          obtain ⟨I32, e1, h⟩ := bnd h
          refine G_putI cd105_107 rfl (O10.o h0) (Option.some.inj e1) ?_
          refine g_aload_n cd105_110 rfl rfl ?_
          refine g_iconst cd105_111 rfl ?_
          obtain ⟨I33, e1, h⟩ := bnd h
          refine G_putI cd105_112 rfl (O10.o h0) (Option.some.inj e1) ?_
          refine g_aload_n cd105_115 rfl rfl ?_
          obtain ⟨x34, hx, h⟩ := bnd h
          refine g_callVV (L := [some (.ref a0)]) cd105_116 rfl rfl rfl rfl rfl (O10.o h0) (t_Tape_step (by omega) h0 hx) ?_
          exact g_vret cd105_119 (by obtain rfl := Option.some.inj h; rfl)
      · have h := ifnE hb h
        refine g_aload_n cd105_29 rfl rfl ?_
        refine g_getI cd105_30 rfl (O10.o h0) ?_
        refine g_iload_n cd105_33 rfl rfl ?_
        refine g_icmp_ge cd105_34 rfl (fun hb => ?_) (fun hb => ?_)
        · have h := ifpE hb h
          refine g_aload_n cd105_62 rfl rfl ?_
          refine g_getP cd105_63 rfl (O10.o h0) (show P a0 2 = some (a0 + 3) from O10.p2 h0) ?_
          refine g_iload_n cd105_66 rfl rfl ?_
          refine g_aload_n cd105_67 rfl rfl ?_
          refine g_getI cd105_68 rfl (O10.o h0) ?_
          refine g_iload_n cd105_71 rfl rfl ?_
          refine g_icmp_le cd105_72 rfl (fun hb => ?_) (fun hb => ?_)
          · have h := ifpE hb h
            refine g_iconst cd105_79 rfl ?_
            obtain ⟨hg35, h⟩ := grd h
            obtain ⟨I36, e1, h⟩ := bnd h
            refine G_iast cd105_80 rfl (show S (a0 + 3) = (1, 901) from O10.s2 h0) hg35 (Option.some.inj e1) ?_
            refine g_aload_n cd105_81 rfl rfl ?_
            refine g_getP cd105_82 rfl (O10.o h0) (show P a0 3 = some (a0 + 4) from O10.p3 h0) ?_
            refine g_iload_n cd105_85 rfl rfl ?_
            refine g_aload_n cd105_86 rfl rfl ?_
            refine g_getI cd105_87 rfl (O10.o h0) ?_
            refine g_iload_n cd105_90 rfl rfl ?_
            refine g_min cd105_91 rfl (Nat.succ_ne_zero _) rfl ?_
            obtain ⟨I37, e1, h⟩ := bnd h
            refine G_iast cd105_94 rfl (show S (a0 + 4) = (1, 901) from O10.s3 h0) hg35 (Option.some.inj e1) ?_
            refine g_aload_n cd105_95 rfl rfl ?_
            refine g_iload_n cd105_96 rfl rfl ?_
            obtain ⟨I38, e1, h⟩ := bnd h
            refine G_putI cd105_97 rfl (O10.o h0) (Option.some.inj e1) ?_
            refine g_aload_n cd105_100 rfl rfl ?_
            refine g_iconst cd105_101 rfl ?_
            obtain ⟨I39, e1, h⟩ := bnd h
            refine G_putI cd105_102 rfl (O10.o h0) (Option.some.inj e1) ?_
            refine g_aload_n cd105_105 rfl rfl ?_
            refine g_iconst cd105_106 rfl ?_
            obtain ⟨I40, e1, h⟩ := bnd h
            refine G_putI cd105_107 rfl (O10.o h0) (Option.some.inj e1) ?_
            refine g_aload_n cd105_110 rfl rfl ?_
            refine g_iconst cd105_111 rfl ?_
            obtain ⟨I41, e1, h⟩ := bnd h
            refine G_putI cd105_112 rfl (O10.o h0) (Option.some.inj e1) ?_
            refine g_aload_n cd105_115 rfl rfl ?_
            obtain ⟨x42, hx, h⟩ := bnd h
            refine g_callVV (L := [some (.ref a0)]) cd105_116 rfl rfl rfl rfl rfl (O10.o h0) (t_Tape_step (by omega) h0 hx) ?_
            exact g_vret cd105_119 (by obtain rfl := Option.some.inj h; rfl)
          · have h := ifnE hb h
            refine g_iconst cd105_75 rfl ?_
            refine g_goto (ls2 := [some (.ref a0), some (.int l1), some (.int l2)]) cd105_76 rfl rfl ?_
            obtain ⟨hg43, h⟩ := grd h
            obtain ⟨I44, e1, h⟩ := bnd h
            refine G_iast cd105_80 rfl (show S (a0 + 3) = (1, 901) from O10.s2 h0) hg43 (Option.some.inj e1) ?_
            refine g_aload_n cd105_81 rfl rfl ?_
            refine g_getP cd105_82 rfl (O10.o h0) (show P a0 3 = some (a0 + 4) from O10.p3 h0) ?_
            refine g_iload_n cd105_85 rfl rfl ?_
            refine g_aload_n cd105_86 rfl rfl ?_
            refine g_getI cd105_87 rfl (O10.o h0) ?_
            refine g_iload_n cd105_90 rfl rfl ?_
            refine g_min cd105_91 rfl (Nat.succ_ne_zero _) rfl ?_
            obtain ⟨I45, e1, h⟩ := bnd h
            refine G_iast cd105_94 rfl (show S (a0 + 4) = (1, 901) from O10.s3 h0) hg43 (Option.some.inj e1) ?_
            refine g_aload_n cd105_95 rfl rfl ?_
            refine g_iload_n cd105_96 rfl rfl ?_
            obtain ⟨I46, e1, h⟩ := bnd h
            refine G_putI cd105_97 rfl (O10.o h0) (Option.some.inj e1) ?_
            refine g_aload_n cd105_100 rfl rfl ?_
            refine g_iconst cd105_101 rfl ?_
            obtain ⟨I47, e1, h⟩ := bnd h
            refine G_putI cd105_102 rfl (O10.o h0) (Option.some.inj e1) ?_
            refine g_aload_n cd105_105 rfl rfl ?_
            refine g_iconst cd105_106 rfl ?_
            obtain ⟨I48, e1, h⟩ := bnd h
            refine G_putI cd105_107 rfl (O10.o h0) (Option.some.inj e1) ?_
            refine g_aload_n cd105_110 rfl rfl ?_
            refine g_iconst cd105_111 rfl ?_
            obtain ⟨I49, e1, h⟩ := bnd h
            refine G_putI cd105_112 rfl (O10.o h0) (Option.some.inj e1) ?_
            refine g_aload_n cd105_115 rfl rfl ?_
            obtain ⟨x50, hx, h⟩ := bnd h
            refine g_callVV (L := [some (.ref a0)]) cd105_116 rfl rfl rfl rfl rfl (O10.o h0) (t_Tape_step (by omega) h0 hx) ?_
            exact g_vret cd105_119 (by obtain rfl := Option.some.inj h; rfl)
        · have h := ifnE hb h
          refine g_aload_n cd105_37 rfl rfl ?_
          refine g_getP cd105_38 rfl (O10.o h0) (show P a0 3 = some (a0 + 4) from O10.p3 h0) ?_
          refine g_iload_n cd105_41 rfl rfl ?_
          refine g_aload_n cd105_42 rfl rfl ?_
          refine g_getI cd105_43 rfl (O10.o h0) ?_
          obtain ⟨hg51, h⟩ := grd h
          obtain ⟨I52, e1, h⟩ := bnd h
          refine G_iast cd105_46 rfl (show S (a0 + 4) = (1, 901) from O10.s3 h0) hg51 (Option.some.inj e1) ?_
          refine g_aload_n cd105_47 rfl rfl ?_
          refine g_iload_n cd105_48 rfl rfl ?_
          obtain ⟨x53, hx, h⟩ := bnd h
          refine g_callVV (L := [some (.ref a0), some (.int l2), none]) cd105_49 rfl rfl rfl rfl rfl (O10.o h0) (t_Tape_readToken (by omega) h0 hx) ?_
          refine g_iinc (ls2 := [some (.ref a0), some (.int l1), some (.int (l2 + 1))]) cd105_52 rfl rfl rfl ?_
          refine g_aload_n cd105_55 rfl rfl ?_
          obtain ⟨x54, hx, h⟩ := bnd h
          refine g_callVV (L := [some (.ref a0)]) cd105_56 rfl rfl rfl rfl rfl (O10.o h0) (t_Tape_skipBlanks (by omega) h0 hx) ?_
          refine g_goto (ls2 := [some (.ref a0), some (.int l1), some (.int (l2 + 1))]) cd105_59 rfl rfl ?_
          exact ih l1 (l2 + 1) x54 x53.2 h
set_option maxRecDepth 8000 in
theorem t_Tape_begin {d : Nat} {N : Nat} {a0 : Nat} {c : Nat × Nat} {S : Nat → Nat × Nat} {P : Nat → Nat → Option Nat} {I : FI} {J : FJ} {l1 : Int32} {r : FI × FJ} (hd : 4 ≤ d) (h0 : O10 S P a0) (h : Tape_begin N a0 l1 I J = some r) : Go d M_Tape_begin 0 [some (.ref a0), some (.int l1), none] [] (c, S, I, J, P) (none, false, (c, S, r.1, r.2, P)) := by
  obtain ⟨d, rfl⟩ : ∃ e, d = e + 1 := ⟨d - 1, by omega⟩
  unfold Tape_begin at h
  refine g_iconst cd105_0 rfl ?_
  refine g_istore_n (ls2 := [some (.ref a0), some (.int l1), some (.int 0)]) cd105_1 rfl rfl ?_
  refine g_aload_n cd105_2 rfl rfl ?_
  refine g_iconst cd105_3 rfl ?_
  obtain ⟨I1, e1, h⟩ := bnd h
  refine G_putI cd105_4 rfl (O10.o h0) (Option.some.inj e1) ?_
  refine g_aload_n cd105_7 rfl rfl ?_
  obtain ⟨x2, hx, h⟩ := bnd h
  refine g_callVV (L := [some (.ref a0)]) cd105_8 rfl rfl rfl rfl rfl (O10.o h0) (t_Tape_skipBlanks (by omega) h0 hx) ?_
  exact t_Tape_begin_11 hd h0 _ l1 0 x2 J h

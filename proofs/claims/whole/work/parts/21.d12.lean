/-! HiddenOrLostModel.spread()I -/
theorem cd256_0 : code9 256 0 = some (0, .aload_n 0, [1], .null, []) := rfl
theorem cd256_1 : code9 256 1 = some (0, .iconst 0, [1], .int 0, []) := rfl
theorem cd256_2 : code9 256 2 = some (0, .putfield 1, [3, 12, 0, 0], .null, []) := rfl
theorem cd256_5 : code9 256 5 = some (0, .aload_n 0, [1], .null, []) := rfl
theorem cd256_6 : code9 256 6 = some (0, .aload_n 0, [1], .null, []) := rfl
theorem cd256_7 : code9 256 7 = some (0, .iconst 2, [1], .int 2, []) := rfl
theorem cd256_8 : code9 256 8 = some (0, .invokevirtual 261, [3, 219, 2, 1, 1, 4, 12, 0], .null, []) := rfl
theorem cd256_11 : code9 256 11 = some (0, .invokevirtual 342, [3, 257, 2, 1, 1, 5, 12, 0], .null, []) := rfl
theorem cd256_14 : code9 256 14 = some (0, .ireturn, [1, 1], .null, []) := rfl
def Mod_spread (N : Nat) (I : FI) : Option (Int32 × FI) := Option.bind (some (up2 I 204 0 (0 : Int32))) fun I1 => (Option.bind (Mod_those N 2 I1) fun x2 => (Option.bind (Mod_spreadOf N x2 I1) fun x3 => (some (x3, I1))))
set_option maxRecDepth 8000 in
theorem t_Mod_spread {d : Nat} {N : Nat} {c : Nat × Nat} {S : Nat → Nat × Nat} {P : Nat → Nat → Option Nat} {I : FI} {J : FJ} {r : Int32 × FI} (hd : 3 ≤ d) (hw : OM S P) (h : Mod_spread N I = some r) : Go d M_Mod_spread 0 [some (.ref 204)] [] (c, S, I, J, P) (some (.int r.1), false, (c, S, r.2, J, P)) := by
  obtain ⟨d, rfl⟩ : ∃ e, d = e + 1 := ⟨d - 1, by omega⟩
  unfold Mod_spread at h
  refine g_aload_n cd256_0 rfl rfl ?_
  refine g_iconst cd256_1 rfl ?_
  obtain ⟨I1, e1, h⟩ := bnd h
  refine G_putI cd256_2 rfl (OM.o hw) (Option.some.inj e1) ?_
  refine g_aload_n cd256_5 rfl rfl ?_
  refine g_aload_n cd256_6 rfl rfl ?_
  refine g_iconst cd256_7 rfl ?_
  obtain ⟨x2, hx, h⟩ := bnd h
  refine g_callVI (L := [some (.ref 204), some (.int 2), none, none]) cd256_8 rfl rfl rfl rfl rfl (OM.o hw) (t_Mod_those (by omega) hw hx) ?_
  obtain ⟨x3, hx, h⟩ := bnd h
  refine g_callVI (L := [some (.ref 204), some (.int x2), none, none, none]) cd256_11 rfl rfl rfl rfl rfl (OM.o hw) (t_Mod_spreadOf (by omega) hw hx) ?_
  exact g_iret cd256_14 (Or.inl rfl) (by obtain rfl := Option.some.inj h; rfl)
/-! HiddenOrLostModel.layAside()V -/
theorem cd259_0 : code9 259 0 = some (0, .iconst 0, [1], .int 0, []) := rfl
theorem cd259_1 : code9 259 1 = some (0, .istore_n 1, [1], .null, []) := rfl
theorem cd259_2 : code9 259 2 = some (3, .iload_n 1, [1], .null, []) := rfl
theorem cd259_3 : code9 259 3 = some (0, .bipush 107, [2], .int 107, []) := rfl
theorem cd259_5 : code9 259 5 = some (0, .if_icmp .ge 24, [3, 29], .null, []) := rfl
theorem cd259_8 : code9 259 8 = some (0, .aload_n 0, [1], .null, []) := rfl
theorem cd259_9 : code9 259 9 = some (0, .getfield 110, [3, 12, 18, 2], .null, []) := rfl
theorem cd259_12 : code9 259 12 = some (0, .iload_n 1, [1], .null, []) := rfl
theorem cd259_13 : code9 259 13 = some (0, .aload_n 0, [1], .null, []) := rfl
theorem cd259_14 : code9 259 14 = some (0, .getfield 98, [3, 12, 14, 2], .null, []) := rfl
theorem cd259_17 : code9 259 17 = some (0, .bipush 102, [2], .int 102, []) := rfl
theorem cd259_19 : code9 259 19 = some (0, .iload_n 1, [1], .null, []) := rfl
theorem cd259_20 : code9 259 20 = some (0, .iadd, [1], .null, []) := rfl
theorem cd259_21 : code9 259 21 = some (0, .iaload, [1], .null, []) := rfl
theorem cd259_22 : code9 259 22 = some (0, .iastore, [1], .null, []) := rfl
theorem cd259_23 : code9 259 23 = some (0, .iinc 1 1, [3], .int 1, []) := rfl
theorem cd259_26 : code9 259 26 = some (0, .goto (-24), [3, 2, 2], .null, []) := rfl
theorem cd259_29 : code9 259 29 = some (0, .return_, [1], .null, []) := rfl
def Mod_layAside_2 (N : Nat) : Nat → Int32 → FI → Option (FI)
  | 0 => fun _ _ => none
  | n + 1 => fun l1 I => if 107 ≤ l1 then (some I) else (if in9 (102 + l1) 451 then (if in9 l1 107 then (Option.bind (some (up2 I 210 l1.toNatClampNeg (I 206 ((102 + l1).toNatClampNeg)))) fun I3 => (Mod_layAside_2 N n (l1 + 1) I3)) else none) else none)
def Mod_layAside (N : Nat) (I : FI) : Option (FI) := Mod_layAside_2 N N 0 I
set_option maxRecDepth 8000 in
theorem t_Mod_layAside_2 {d : Nat} {N : Nat} {c : Nat × Nat} {S : Nat → Nat × Nat} {P : Nat → Nat → Option Nat} {r : FI} (hd : 0 ≤ d) (hw : OM S P) : ∀ (n : Nat) (l1 : Int32) (I : FI) (J : FJ), Mod_layAside_2 N n l1 I = some r → Go d M_Mod_layAside 2 [some (.ref 204), some (.int l1)] [] (c, S, I, J, P) (none, false, (c, S, r, J, P)) := by
  intro n
  induction n with
  | zero =>
    intro l1 I J h
    cases h
  | succ n ih =>
    intro l1 I J h
    unfold Mod_layAside_2 at h
    refine g_iload_n cd259_2 rfl rfl ?_
    refine g_bipush cd259_3 rfl ?_
    refine g_icmp_ge cd259_5 rfl (fun hb => ?_) (fun hb => ?_)
    · have h := ifpE hb h
      exact g_vret cd259_29 (by obtain rfl := Option.some.inj h; rfl)
    · have h := ifnE hb h
      refine g_aload_n cd259_8 rfl rfl ?_
      refine g_getP cd259_9 rfl (OM.o hw) (OM.p18 hw) ?_
      refine g_iload_n cd259_12 rfl rfl ?_
      refine g_aload_n cd259_13 rfl rfl ?_
      refine g_getP cd259_14 rfl (OM.o hw) (OM.p14 hw) ?_
      refine g_bipush cd259_17 rfl ?_
      refine g_iload_n cd259_19 rfl rfl ?_
      refine g_iadd cd259_20 rfl ?_
      obtain ⟨hg1, h⟩ := grd h
      refine G_iald cd259_21 rfl (OM.s14 hw) hg1 ?_
      obtain ⟨hg2, h⟩ := grd h
      obtain ⟨I3, e1, h⟩ := bnd h
      refine G_iast cd259_22 rfl (OM.s18 hw) hg2 (Option.some.inj e1) ?_
      refine g_iinc (ls2 := [some (.ref 204), some (.int (l1 + 1))]) cd259_23 rfl rfl rfl ?_
      refine g_goto (ls2 := [some (.ref 204), some (.int (l1 + 1))]) cd259_26 rfl rfl ?_
      exact ih (l1 + 1) I3 J h
set_option maxRecDepth 8000 in
theorem t_Mod_layAside {d : Nat} {N : Nat} {c : Nat × Nat} {S : Nat → Nat × Nat} {P : Nat → Nat → Option Nat} {I : FI} {J : FJ} {r : FI} (hd : 0 ≤ d) (hw : OM S P) (h : Mod_layAside N I = some r) : Go d M_Mod_layAside 0 [some (.ref 204), none] [] (c, S, I, J, P) (none, false, (c, S, r, J, P)) := by
  unfold Mod_layAside at h
  refine g_iconst cd259_0 rfl ?_
  refine g_istore_n (ls2 := [some (.ref 204), some (.int 0)]) cd259_1 rfl rfl ?_
  exact t_Mod_layAside_2 hd hw _ 0 I J h
/-! HiddenOrLostModel.takeBack()V -/
theorem cd260_0 : code9 260 0 = some (0, .iconst 0, [1], .int 0, []) := rfl
theorem cd260_1 : code9 260 1 = some (0, .istore_n 1, [1], .null, []) := rfl
theorem cd260_2 : code9 260 2 = some (3, .iload_n 1, [1], .null, []) := rfl
theorem cd260_3 : code9 260 3 = some (0, .bipush 107, [2], .int 107, []) := rfl
theorem cd260_5 : code9 260 5 = some (0, .if_icmp .ge 24, [3, 29], .null, []) := rfl
theorem cd260_8 : code9 260 8 = some (0, .aload_n 0, [1], .null, []) := rfl
theorem cd260_9 : code9 260 9 = some (0, .getfield 98, [3, 12, 14, 2], .null, []) := rfl
theorem cd260_12 : code9 260 12 = some (0, .bipush 102, [2], .int 102, []) := rfl
theorem cd260_14 : code9 260 14 = some (0, .iload_n 1, [1], .null, []) := rfl
theorem cd260_15 : code9 260 15 = some (0, .iadd, [1], .null, []) := rfl
theorem cd260_16 : code9 260 16 = some (0, .aload_n 0, [1], .null, []) := rfl
theorem cd260_17 : code9 260 17 = some (0, .getfield 110, [3, 12, 18, 2], .null, []) := rfl
theorem cd260_20 : code9 260 20 = some (0, .iload_n 1, [1], .null, []) := rfl
theorem cd260_21 : code9 260 21 = some (0, .iaload, [1], .null, []) := rfl
theorem cd260_22 : code9 260 22 = some (0, .iastore, [1], .null, []) := rfl
theorem cd260_23 : code9 260 23 = some (0, .iinc 1 1, [3], .int 1, []) := rfl
theorem cd260_26 : code9 260 26 = some (0, .goto (-24), [3, 2, 2], .null, []) := rfl
theorem cd260_29 : code9 260 29 = some (0, .return_, [1], .null, []) := rfl
def Mod_takeBack_2 (N : Nat) : Nat → Int32 → FI → Option (FI)
  | 0 => fun _ _ => none
  | n + 1 => fun l1 I => if 107 ≤ l1 then (some I) else (if in9 l1 107 then (if in9 (102 + l1) 451 then (Option.bind (some (up2 I 206 ((102 + l1).toNatClampNeg) (I 210 l1.toNatClampNeg))) fun I3 => (Mod_takeBack_2 N n (l1 + 1) I3)) else none) else none)
def Mod_takeBack (N : Nat) (I : FI) : Option (FI) := Mod_takeBack_2 N N 0 I
set_option maxRecDepth 8000 in
theorem t_Mod_takeBack_2 {d : Nat} {N : Nat} {c : Nat × Nat} {S : Nat → Nat × Nat} {P : Nat → Nat → Option Nat} {r : FI} (hd : 0 ≤ d) (hw : OM S P) : ∀ (n : Nat) (l1 : Int32) (I : FI) (J : FJ), Mod_takeBack_2 N n l1 I = some r → Go d M_Mod_takeBack 2 [some (.ref 204), some (.int l1)] [] (c, S, I, J, P) (none, false, (c, S, r, J, P)) := by
  intro n
  induction n with
  | zero =>
    intro l1 I J h
    cases h
  | succ n ih =>
    intro l1 I J h
    unfold Mod_takeBack_2 at h
    refine g_iload_n cd260_2 rfl rfl ?_
    refine g_bipush cd260_3 rfl ?_
    refine g_icmp_ge cd260_5 rfl (fun hb => ?_) (fun hb => ?_)
    · have h := ifpE hb h
      exact g_vret cd260_29 (by obtain rfl := Option.some.inj h; rfl)
    · have h := ifnE hb h
      refine g_aload_n cd260_8 rfl rfl ?_
      refine g_getP cd260_9 rfl (OM.o hw) (OM.p14 hw) ?_
      refine g_bipush cd260_12 rfl ?_
      refine g_iload_n cd260_14 rfl rfl ?_
      refine g_iadd cd260_15 rfl ?_
      refine g_aload_n cd260_16 rfl rfl ?_
      refine g_getP cd260_17 rfl (OM.o hw) (OM.p18 hw) ?_
      refine g_iload_n cd260_20 rfl rfl ?_
      obtain ⟨hg1, h⟩ := grd h
      refine G_iald cd260_21 rfl (OM.s18 hw) hg1 ?_
      obtain ⟨hg2, h⟩ := grd h
      obtain ⟨I3, e1, h⟩ := bnd h
      refine G_iast cd260_22 rfl (OM.s14 hw) hg2 (Option.some.inj e1) ?_
      refine g_iinc (ls2 := [some (.ref 204), some (.int (l1 + 1))]) cd260_23 rfl rfl rfl ?_
      refine g_goto (ls2 := [some (.ref 204), some (.int (l1 + 1))]) cd260_26 rfl rfl ?_
      exact ih (l1 + 1) I3 J h
set_option maxRecDepth 8000 in
theorem t_Mod_takeBack {d : Nat} {N : Nat} {c : Nat × Nat} {S : Nat → Nat × Nat} {P : Nat → Nat → Option Nat} {I : FI} {J : FJ} {r : FI} (hd : 0 ≤ d) (hw : OM S P) (h : Mod_takeBack N I = some r) : Go d M_Mod_takeBack 0 [some (.ref 204), none] [] (c, S, I, J, P) (none, false, (c, S, r, J, P)) := by
  unfold Mod_takeBack at h
  refine g_iconst cd260_0 rfl ?_
  refine g_istore_n (ls2 := [some (.ref 204), some (.int 0)]) cd260_1 rfl rfl ?_
  exact t_Mod_takeBack_2 hd hw _ 0 I J h
/-! HiddenOrLostModel.doubt(IIII)I -/
theorem cd258_0 : code9 258 0 = some (0, .aload_n 0, [1], .null, []) := rfl
theorem cd258_1 : code9 258 1 = some (0, .iconst 0, [1], .int 0, []) := rfl
theorem cd258_2 : code9 258 2 = some (0, .putfield 1, [3, 12, 0, 0], .null, []) := rfl
theorem cd258_5 : code9 258 5 = some (0, .aload_n 0, [1], .null, []) := rfl
theorem cd258_6 : code9 258 6 = some (0, .iload_n 1, [1], .null, []) := rfl
theorem cd258_7 : code9 258 7 = some (0, .iload_n 2, [1], .null, []) := rfl
theorem cd258_8 : code9 258 8 = some (0, .invokevirtual 251, [3, 214, 3, 1, 3, 3, 12, 0], .null, []) := rfl
theorem cd258_11 : code9 258 11 = some (0, .ifCond .eq 13, [3, 24], .null, []) := rfl
theorem cd258_14 : code9 258 14 = some (0, .iload_n 3, [1], .null, []) := rfl
theorem cd258_15 : code9 258 15 = some (0, .iconst 1, [1], .int 1, []) := rfl
theorem cd258_16 : code9 258 16 = some (0, .bipush 30, [2], .int 30, []) := rfl
theorem cd258_18 : code9 258 18 = some (0, .invokestatic 75, [3, 191, 3, 0, 3, 3, 12, 0], .null, []) := rfl
theorem cd258_21 : code9 258 21 = some (0, .ifCond .ne 5, [3, 26], .null, []) := rfl
theorem cd258_24 : code9 258 24 = some (6, .iconst (-1), [1], .int (-1), []) := rfl
theorem cd258_25 : code9 258 25 = some (0, .ireturn, [1, 1], .null, []) := rfl
theorem cd258_26 : code9 258 26 = some (0, .aload_n 0, [1], .null, []) := rfl
theorem cd258_27 : code9 258 27 = some (0, .iconst 2, [1], .int 2, []) := rfl
theorem cd258_28 : code9 258 28 = some (0, .invokevirtual 261, [3, 219, 2, 1, 1, 4, 12, 0], .null, []) := rfl
theorem cd258_31 : code9 258 31 = some (0, .istore 5, [2], .null, []) := rfl
theorem cd258_33 : code9 258 33 = some (0, .aload_n 0, [1], .null, []) := rfl
theorem cd258_34 : code9 258 34 = some (0, .iload 5, [2], .null, []) := rfl
theorem cd258_36 : code9 258 36 = some (0, .invokevirtual 342, [3, 257, 2, 1, 1, 5, 12, 0], .null, []) := rfl
theorem cd258_39 : code9 258 39 = some (0, .istore 6, [2], .null, []) := rfl
theorem cd258_41 : code9 258 41 = some (0, .iconst 0, [1], .int 0, []) := rfl
theorem cd258_42 : code9 258 42 = some (0, .istore 7, [2], .null, []) := rfl
theorem cd258_44 : code9 258 44 = some (0, .aload_n 0, [1], .null, []) := rfl
theorem cd258_45 : code9 258 45 = some (0, .invokevirtual 345, [3, 259, 1, 1, 0, 2, 12, 0], .null, []) := rfl
theorem cd258_48 : code9 258 48 = some (0, .iconst 0, [1], .int 0, []) := rfl
theorem cd258_49 : code9 258 49 = some (0, .istore 8, [2], .null, []) := rfl
theorem cd258_51 : code9 258 51 = some (10, .iload 8, [2], .null, []) := rfl
theorem cd258_53 : code9 258 53 = some (0, .iload_n 3, [1], .null, []) := rfl
theorem cd258_54 : code9 258 54 = some (0, .if_icmp .ge 102, [3, 156], .null, []) := rfl
theorem cd258_57 : code9 258 57 = some (0, .iconst 0, [1], .int 0, []) := rfl
theorem cd258_58 : code9 258 58 = some (0, .istore 9, [2], .null, []) := rfl
theorem cd258_60 : code9 258 60 = some (11, .iload 9, [2], .null, []) := rfl
theorem cd258_62 : code9 258 62 = some (0, .bipush 10, [2], .int 10, []) := rfl
theorem cd258_64 : code9 258 64 = some (0, .if_icmp .ge 39, [3, 103], .null, []) := rfl
theorem cd258_67 : code9 258 67 = some (0, .aload_n 0, [1], .null, []) := rfl
theorem cd258_68 : code9 258 68 = some (0, .getfield 98, [3, 12, 14, 2], .null, []) := rfl
theorem cd258_71 : code9 258 71 = some (0, .sipush 135, [3], .int 135, []) := rfl
theorem cd258_74 : code9 258 74 = some (0, .iload 9, [2], .null, []) := rfl
theorem cd258_76 : code9 258 76 = some (0, .iadd, [1], .null, []) := rfl
theorem cd258_77 : code9 258 77 = some (0, .iconst 3, [1], .int 3, []) := rfl
theorem cd258_78 : code9 258 78 = some (0, .iastore, [1], .null, []) := rfl
theorem cd258_79 : code9 258 79 = some (0, .iload 5, [2], .null, []) := rfl
theorem cd258_81 : code9 258 81 = some (0, .iload 9, [2], .null, []) := rfl
theorem cd258_83 : code9 258 83 = some (0, .invokestatic 258, [3, 221, 2, 0, 3, 2, 12, 0], .null, []) := rfl
theorem cd258_86 : code9 258 86 = some (0, .ifCond .eq 11, [3, 97], .null, []) := rfl
theorem cd258_89 : code9 258 89 = some (0, .aload_n 0, [1], .null, []) := rfl
theorem cd258_90 : code9 258 90 = some (0, .iload 9, [2], .null, []) := rfl
theorem cd258_92 : code9 258 92 = some (0, .iload_n 1, [1], .null, []) := rfl
theorem cd258_93 : code9 258 93 = some (0, .iload_n 2, [1], .null, []) := rfl
theorem cd258_94 : code9 258 94 = some (0, .invokevirtual 290, [3, 231, 4, 1, 0, 4, 12, 0], .null, []) := rfl
theorem cd258_97 : code9 258 97 = some (11, .iinc 9 1, [3], .int 1, []) := rfl
theorem cd258_100 : code9 258 100 = some (0, .goto (-40), [3, 60, 10], .null, []) := rfl
theorem cd258_103 : code9 258 103 = some (0, .aload_n 0, [1], .null, []) := rfl
theorem cd258_104 : code9 258 104 = some (0, .iload 4, [2], .null, []) := rfl
theorem cd258_106 : code9 258 106 = some (0, .iload 8, [2], .null, []) := rfl
theorem cd258_108 : code9 258 108 = some (0, .iadd, [1], .null, []) := rfl
theorem cd258_109 : code9 258 109 = some (0, .putfield 267, [3, 12, 25, 0], .null, []) := rfl
theorem cd258_112 : code9 258 112 = some (0, .iconst 0, [1], .int 0, []) := rfl
theorem cd258_113 : code9 258 113 = some (0, .istore 9, [2], .null, []) := rfl
theorem cd258_115 : code9 258 115 = some (11, .iload 9, [2], .null, []) := rfl
theorem cd258_117 : code9 258 117 = some (0, .iconst 3, [1], .int 3, []) := rfl
theorem cd258_118 : code9 258 118 = some (0, .if_icmp .ge 14, [3, 132], .null, []) := rfl
theorem cd258_121 : code9 258 121 = some (0, .aload_n 0, [1], .null, []) := rfl
theorem cd258_122 : code9 258 122 = some (0, .invokevirtual 294, [3, 234, 1, 1, 1, 6, 12, 0], .null, []) := rfl
theorem cd258_125 : code9 258 125 = some (0, .pop, [1], .null, []) := rfl
theorem cd258_126 : code9 258 126 = some (0, .iinc 9 1, [3], .int 1, []) := rfl
theorem cd258_129 : code9 258 129 = some (0, .goto (-14), [3, 115, 10], .null, []) := rfl
theorem cd258_132 : code9 258 132 = some (0, .aload_n 0, [1], .null, []) := rfl
theorem cd258_133 : code9 258 133 = some (0, .iload 5, [2], .null, []) := rfl
theorem cd258_135 : code9 258 135 = some (0, .invokevirtual 342, [3, 257, 2, 1, 1, 5, 12, 0], .null, []) := rfl
theorem cd258_138 : code9 258 138 = some (0, .iload 6, [2], .null, []) := rfl
theorem cd258_140 : code9 258 140 = some (0, .if_icmp .lt 6, [3, 146], .null, []) := rfl
theorem cd258_143 : code9 258 143 = some (0, .iinc 7 1, [3], .int 1, []) := rfl
theorem cd258_146 : code9 258 146 = some (11, .aload_n 0, [1], .null, []) := rfl
theorem cd258_147 : code9 258 147 = some (0, .invokevirtual 348, [3, 260, 1, 1, 0, 2, 12, 0], .null, []) := rfl
theorem cd258_150 : code9 258 150 = some (0, .iinc 8 1, [3], .int 1, []) := rfl
theorem cd258_153 : code9 258 153 = some (0, .goto (-102), [3, 51, 9], .null, []) := rfl
theorem cd258_156 : code9 258 156 = some (0, .iload 7, [2], .null, []) := rfl
theorem cd258_158 : code9 258 158 = some (0, .ireturn, [1, 1], .null, []) := rfl
def Mod_doubt_115 (N : Nat) (K : Int32 → Int32 → Int32 → Int32 → Int32 → Int32 → Int32 → Int32 → FI → Option (Int32 × FI)) : Nat → Int32 → Int32 → Int32 → Int32 → Int32 → Int32 → Int32 → Int32 → Int32 → FI → Option (Int32 × FI)
  | 0 => fun _ _ _ _ _ _ _ _ _ _ => none
  | n + 1 => fun l1 l2 l3 l4 l5 l6 l7 l8 l9 I => if 3 ≤ l9 then (Option.bind (Mod_spreadOf N l5 I) fun x7 => (if x7 < l6 then (Option.bind (Mod_takeBack N I) fun x8 => (K l1 l2 l3 l4 l5 l6 l7 (l8 + 1) x8)) else (Option.bind (Mod_takeBack N I) fun x9 => (K l1 l2 l3 l4 l5 l6 (l7 + 1) (l8 + 1) x9)))) else (Option.bind (Mod_doPlough N I) fun x10 => (Mod_doubt_115 N K n l1 l2 l3 l4 l5 l6 l7 l8 (l9 + 1) x10.2))
def Mod_doubt_60 (N : Nat) (K : Int32 → Int32 → Int32 → Int32 → Int32 → Int32 → Int32 → Int32 → FI → Option (Int32 × FI)) : Nat → Int32 → Int32 → Int32 → Int32 → Int32 → Int32 → Int32 → Int32 → Int32 → FI → Option (Int32 × FI)
  | 0 => fun _ _ _ _ _ _ _ _ _ _ => none
  | n + 1 => fun l1 l2 l3 l4 l5 l6 l7 l8 l9 I => if 10 ≤ l9 then (Option.bind (some (up2 I 204 25 (l4 + l8))) fun I6 => (Mod_doubt_115 N K N l1 l2 l3 l4 l5 l6 l7 l8 0 I6)) else (if in9 (135 + l9) 451 then (Option.bind (some (up2 I 206 ((135 + l9).toNatClampNeg) (3 : Int32))) fun I12 => (if (Mod_has l5 l9) then (Option.bind (Mod_doLay l9 l1 l2 I12) fun x13 => (Mod_doubt_60 N K n l1 l2 l3 l4 l5 l6 l7 l8 (l9 + 1) x13)) else (Mod_doubt_60 N K n l1 l2 l3 l4 l5 l6 l7 l8 (l9 + 1) I12))) else none)
def Mod_doubt_51 (N : Nat) : Nat → Int32 → Int32 → Int32 → Int32 → Int32 → Int32 → Int32 → Int32 → FI → Option (Int32 × FI)
  | 0 => fun _ _ _ _ _ _ _ _ _ => none
  | n + 1 => fun l1 l2 l3 l4 l5 l6 l7 l8 I => if l3 ≤ l8 then (some (l7, I)) else (Mod_doubt_60 N (fun x1 x2 x3 x4 x5 x6 x7 x8 I => Mod_doubt_51 N n x1 x2 x3 x4 x5 x6 x7 x8 I) N l1 l2 l3 l4 l5 l6 l7 l8 0 I)
def Mod_doubt (N : Nat) (l1 : Int32) (l2 : Int32) (l3 : Int32) (l4 : Int32) (I : FI) : Option (Int32 × FI) := Option.bind (some (up2 I 204 0 (0 : Int32))) fun I1 => (Option.bind (Mod_isCell l1 l2 I1) fun x2 => (if x2 then (if (Mod_isIn l3 1 30) then (Option.bind (Mod_those N 2 I1) fun x3 => (Option.bind (Mod_spreadOf N x3 I1) fun x4 => (Option.bind (Mod_layAside N I1) fun x5 => (Mod_doubt_51 N N l1 l2 l3 l4 x3 x4 0 0 x5)))) else (some ((-1), I1))) else (some ((-1), I1))))
set_option maxRecDepth 8000 in
theorem t_Mod_doubt_115 {d : Nat} {N : Nat} {c : Nat × Nat} {S : Nat → Nat × Nat} {P : Nat → Nat → Option Nat} {K : Int32 → Int32 → Int32 → Int32 → Int32 → Int32 → Int32 → Int32 → FI → Option (Int32 × FI)} {r : Int32 × FI} (hd : 3 ≤ (d + 1)) (hw : OM S P) (hK : ∀ (x1 : Int32) (x2 : Int32) (x3 : Int32) (x4 : Int32) (x5 : Int32) (x6 : Int32) (x7 : Int32) (x8 : Int32) (I : FI) (J : FJ), K x1 x2 x3 x4 x5 x6 x7 x8 I = some r → Go (d + 1) M_Mod_doubt 51 [some (.ref 204), some (.int x1), some (.int x2), some (.int x3), some (.int x4), some (.int x5), some (.int x6), some (.int x7), some (.int x8), none] [] (c, S, I, J, P) (some (.int r.1), false, (c, S, r.2, J, P))) : ∀ (n : Nat) (l1 : Int32) (l2 : Int32) (l3 : Int32) (l4 : Int32) (l5 : Int32) (l6 : Int32) (l7 : Int32) (l8 : Int32) (l9 : Int32) (I : FI) (J : FJ), Mod_doubt_115 N K n l1 l2 l3 l4 l5 l6 l7 l8 l9 I = some r → Go (d + 1) M_Mod_doubt 115 [some (.ref 204), some (.int l1), some (.int l2), some (.int l3), some (.int l4), some (.int l5), some (.int l6), some (.int l7), some (.int l8), some (.int l9)] [] (c, S, I, J, P) (some (.int r.1), false, (c, S, r.2, J, P)) := by
  intro n
  induction n with
  | zero =>
    intro l1 l2 l3 l4 l5 l6 l7 l8 l9 I J h
    cases h
  | succ n ih =>
    intro l1 l2 l3 l4 l5 l6 l7 l8 l9 I J h
    unfold Mod_doubt_115 at h
    refine g_iload cd258_115 rfl rfl ?_
    refine g_iconst cd258_117 rfl ?_
    refine g_icmp_ge cd258_118 rfl (fun hb => ?_) (fun hb => ?_)
    · have h := ifpE hb h
      refine g_aload_n cd258_132 rfl rfl ?_
      refine g_iload cd258_133 rfl rfl ?_
      obtain ⟨x7, hx, h⟩ := bnd h
      refine g_callVI (L := [some (.ref 204), some (.int l5), none, none, none]) cd258_135 rfl rfl rfl rfl rfl (OM.o hw) (t_Mod_spreadOf (by omega) hw hx) ?_
      refine g_iload cd258_138 rfl rfl ?_
      refine g_icmp_lt cd258_140 rfl (fun hb => ?_) (fun hb => ?_)
      · have h := ifpE hb h
        refine g_aload_n cd258_146 rfl rfl ?_
        obtain ⟨x8, hx, h⟩ := bnd h
        refine g_callVV (L := [some (.ref 204), none]) cd258_147 rfl rfl rfl rfl rfl (OM.o hw) (t_Mod_takeBack (by omega) hw hx) ?_
        refine g_iinc (ls2 := [some (.ref 204), some (.int l1), some (.int l2), some (.int l3), some (.int l4), some (.int l5), some (.int l6), some (.int l7), some (.int (l8 + 1)), some (.int l9)]) cd258_150 rfl rfl rfl ?_
        refine g_goto (ls2 := [some (.ref 204), some (.int l1), some (.int l2), some (.int l3), some (.int l4), some (.int l5), some (.int l6), some (.int l7), some (.int (l8 + 1)), none]) cd258_153 rfl rfl ?_
        exact hK l1 l2 l3 l4 l5 l6 l7 (l8 + 1) x8 J h
      · have h := ifnE hb h
        refine g_iinc (ls2 := [some (.ref 204), some (.int l1), some (.int l2), some (.int l3), some (.int l4), some (.int l5), some (.int l6), some (.int (l7 + 1)), some (.int l8), some (.int l9)]) cd258_143 rfl rfl rfl ?_
        refine g_aload_n cd258_146 rfl rfl ?_
        obtain ⟨x9, hx, h⟩ := bnd h
        refine g_callVV (L := [some (.ref 204), none]) cd258_147 rfl rfl rfl rfl rfl (OM.o hw) (t_Mod_takeBack (by omega) hw hx) ?_
        refine g_iinc (ls2 := [some (.ref 204), some (.int l1), some (.int l2), some (.int l3), some (.int l4), some (.int l5), some (.int l6), some (.int (l7 + 1)), some (.int (l8 + 1)), some (.int l9)]) cd258_150 rfl rfl rfl ?_
        refine g_goto (ls2 := [some (.ref 204), some (.int l1), some (.int l2), some (.int l3), some (.int l4), some (.int l5), some (.int l6), some (.int (l7 + 1)), some (.int (l8 + 1)), none]) cd258_153 rfl rfl ?_
        exact hK l1 l2 l3 l4 l5 l6 (l7 + 1) (l8 + 1) x9 J h
    · have h := ifnE hb h
      refine g_aload_n cd258_121 rfl rfl ?_
      obtain ⟨x10, hx, h⟩ := bnd h
      refine g_callVI (L := [some (.ref 204), none, none, none, none, none]) cd258_122 rfl rfl rfl rfl rfl (OM.o hw) (t_Mod_doPlough (by omega) hw hx) ?_
      refine g_popI cd258_125 rfl ?_
      refine g_iinc (ls2 := [some (.ref 204), some (.int l1), some (.int l2), some (.int l3), some (.int l4), some (.int l5), some (.int l6), some (.int l7), some (.int l8), some (.int (l9 + 1))]) cd258_126 rfl rfl rfl ?_
      refine g_goto (ls2 := [some (.ref 204), some (.int l1), some (.int l2), some (.int l3), some (.int l4), some (.int l5), some (.int l6), some (.int l7), some (.int l8), some (.int (l9 + 1))]) cd258_129 rfl rfl ?_
      exact ih l1 l2 l3 l4 l5 l6 l7 l8 (l9 + 1) x10.2 J h
set_option maxRecDepth 8000 in
theorem t_Mod_doubt_60 {d : Nat} {N : Nat} {c : Nat × Nat} {S : Nat → Nat × Nat} {P : Nat → Nat → Option Nat} {K : Int32 → Int32 → Int32 → Int32 → Int32 → Int32 → Int32 → Int32 → FI → Option (Int32 × FI)} {r : Int32 × FI} (hd : 3 ≤ (d + 1)) (hw : OM S P) (hK : ∀ (x1 : Int32) (x2 : Int32) (x3 : Int32) (x4 : Int32) (x5 : Int32) (x6 : Int32) (x7 : Int32) (x8 : Int32) (I : FI) (J : FJ), K x1 x2 x3 x4 x5 x6 x7 x8 I = some r → Go (d + 1) M_Mod_doubt 51 [some (.ref 204), some (.int x1), some (.int x2), some (.int x3), some (.int x4), some (.int x5), some (.int x6), some (.int x7), some (.int x8), none] [] (c, S, I, J, P) (some (.int r.1), false, (c, S, r.2, J, P))) : ∀ (n : Nat) (l1 : Int32) (l2 : Int32) (l3 : Int32) (l4 : Int32) (l5 : Int32) (l6 : Int32) (l7 : Int32) (l8 : Int32) (l9 : Int32) (I : FI) (J : FJ), Mod_doubt_60 N K n l1 l2 l3 l4 l5 l6 l7 l8 l9 I = some r → Go (d + 1) M_Mod_doubt 60 [some (.ref 204), some (.int l1), some (.int l2), some (.int l3), some (.int l4), some (.int l5), some (.int l6), some (.int l7), some (.int l8), some (.int l9)] [] (c, S, I, J, P) (some (.int r.1), false, (c, S, r.2, J, P)) := by
  intro n
  induction n with
  | zero =>
    intro l1 l2 l3 l4 l5 l6 l7 l8 l9 I J h
    cases h
  | succ n ih =>
    intro l1 l2 l3 l4 l5 l6 l7 l8 l9 I J h
    unfold Mod_doubt_60 at h
    refine g_iload cd258_60 rfl rfl ?_
    refine g_bipush cd258_62 rfl ?_
    refine g_icmp_ge cd258_64 rfl (fun hb => ?_) (fun hb => ?_)
    · have h := ifpE hb h
      refine g_aload_n cd258_103 rfl rfl ?_
      refine g_iload cd258_104 rfl rfl ?_
      refine g_iload cd258_106 rfl rfl ?_
      refine g_iadd cd258_108 rfl ?_
      obtain ⟨I6, e1, h⟩ := bnd h
      refine G_putI cd258_109 rfl (OM.o hw) (Option.some.inj e1) ?_
      refine g_iconst cd258_112 rfl ?_
      refine g_istore (ls2 := [some (.ref 204), some (.int l1), some (.int l2), some (.int l3), some (.int l4), some (.int l5), some (.int l6), some (.int l7), some (.int l8), some (.int 0)]) cd258_113 rfl rfl ?_
      exact t_Mod_doubt_115 hd hw hK _ l1 l2 l3 l4 l5 l6 l7 l8 0 I6 J h
    · have h := ifnE hb h
      refine g_aload_n cd258_67 rfl rfl ?_
      refine g_getP cd258_68 rfl (OM.o hw) (OM.p14 hw) ?_
      refine g_sipush cd258_71 rfl ?_
      refine g_iload cd258_74 rfl rfl ?_
      refine g_iadd cd258_76 rfl ?_
      refine g_iconst cd258_77 rfl ?_
      obtain ⟨hg11, h⟩ := grd h
      obtain ⟨I12, e1, h⟩ := bnd h
      refine G_iast cd258_78 rfl (OM.s14 hw) hg11 (Option.some.inj e1) ?_
      refine g_iload cd258_79 rfl rfl ?_
      refine g_iload cd258_81 rfl rfl ?_
      refine g_callSZ (L := [some (.int l5), some (.int l9)]) cd258_83 rfl rfl rfl rfl rfl (t_Mod_has (by omega)  rfl) ?_
      refine g_if_eq cd258_86 rfl (fun hb => ?_) (fun hb => ?_)
      · have h := ifnE (b2i_f hb) h
        refine g_iinc (ls2 := [some (.ref 204), some (.int l1), some (.int l2), some (.int l3), some (.int l4), some (.int l5), some (.int l6), some (.int l7), some (.int l8), some (.int (l9 + 1))]) cd258_97 rfl rfl rfl ?_
        refine g_goto (ls2 := [some (.ref 204), some (.int l1), some (.int l2), some (.int l3), some (.int l4), some (.int l5), some (.int l6), some (.int l7), some (.int l8), some (.int (l9 + 1))]) cd258_100 rfl rfl ?_
        exact ih l1 l2 l3 l4 l5 l6 l7 l8 (l9 + 1) I12 J h
      · have h := ifpE (b2i_t hb) h
        refine g_aload_n cd258_89 rfl rfl ?_
        refine g_iload cd258_90 rfl rfl ?_
        refine g_iload_n cd258_92 rfl rfl ?_
        refine g_iload_n cd258_93 rfl rfl ?_
        obtain ⟨x13, hx, h⟩ := bnd h
        refine g_callVV (L := [some (.ref 204), some (.int l9), some (.int l1), some (.int l2)]) cd258_94 rfl rfl rfl rfl rfl (OM.o hw) (t_Mod_doLay (by omega) hw hx) ?_
        refine g_iinc (ls2 := [some (.ref 204), some (.int l1), some (.int l2), some (.int l3), some (.int l4), some (.int l5), some (.int l6), some (.int l7), some (.int l8), some (.int (l9 + 1))]) cd258_97 rfl rfl rfl ?_
        refine g_goto (ls2 := [some (.ref 204), some (.int l1), some (.int l2), some (.int l3), some (.int l4), some (.int l5), some (.int l6), some (.int l7), some (.int l8), some (.int (l9 + 1))]) cd258_100 rfl rfl ?_
        exact ih l1 l2 l3 l4 l5 l6 l7 l8 (l9 + 1) x13 J h
set_option maxRecDepth 8000 in
theorem t_Mod_doubt_51 {d : Nat} {N : Nat} {c : Nat × Nat} {S : Nat → Nat × Nat} {P : Nat → Nat → Option Nat} {r : Int32 × FI} (hd : 3 ≤ (d + 1)) (hw : OM S P) : ∀ (n : Nat) (l1 : Int32) (l2 : Int32) (l3 : Int32) (l4 : Int32) (l5 : Int32) (l6 : Int32) (l7 : Int32) (l8 : Int32) (I : FI) (J : FJ), Mod_doubt_51 N n l1 l2 l3 l4 l5 l6 l7 l8 I = some r → Go (d + 1) M_Mod_doubt 51 [some (.ref 204), some (.int l1), some (.int l2), some (.int l3), some (.int l4), some (.int l5), some (.int l6), some (.int l7), some (.int l8), none] [] (c, S, I, J, P) (some (.int r.1), false, (c, S, r.2, J, P)) := by
  intro n
  induction n with
  | zero =>
    intro l1 l2 l3 l4 l5 l6 l7 l8 I J h
    cases h
  | succ n ih =>
    intro l1 l2 l3 l4 l5 l6 l7 l8 I J h
    unfold Mod_doubt_51 at h
    refine g_iload cd258_51 rfl rfl ?_
    refine g_iload_n cd258_53 rfl rfl ?_
    refine g_icmp_ge cd258_54 rfl (fun hb => ?_) (fun hb => ?_)
    · have h := ifpE hb h
      refine g_iload cd258_156 rfl rfl ?_
      exact g_iret cd258_158 (Or.inl rfl) (by obtain rfl := Option.some.inj h; rfl)
    · have h := ifnE hb h
      refine g_iconst cd258_57 rfl ?_
      refine g_istore (ls2 := [some (.ref 204), some (.int l1), some (.int l2), some (.int l3), some (.int l4), some (.int l5), some (.int l6), some (.int l7), some (.int l8), some (.int 0)]) cd258_58 rfl rfl ?_
      exact t_Mod_doubt_60 hd hw (fun x1 x2 x3 x4 x5 x6 x7 x8 I J h => ih x1 x2 x3 x4 x5 x6 x7 x8 I J h) _ l1 l2 l3 l4 l5 l6 l7 l8 0 I J h
set_option maxRecDepth 8000 in
theorem t_Mod_doubt {d : Nat} {N : Nat} {c : Nat × Nat} {S : Nat → Nat × Nat} {P : Nat → Nat → Option Nat} {I : FI} {J : FJ} {l1 : Int32} {l2 : Int32} {l3 : Int32} {l4 : Int32} {r : Int32 × FI} (hd : 3 ≤ d) (hw : OM S P) (h : Mod_doubt N l1 l2 l3 l4 I = some r) : Go d M_Mod_doubt 0 [some (.ref 204), some (.int l1), some (.int l2), some (.int l3), some (.int l4), none, none, none, none, none] [] (c, S, I, J, P) (some (.int r.1), false, (c, S, r.2, J, P)) := by
  obtain ⟨d, rfl⟩ : ∃ e, d = e + 1 := ⟨d - 1, by omega⟩
  unfold Mod_doubt at h
  refine g_aload_n cd258_0 rfl rfl ?_
  refine g_iconst cd258_1 rfl ?_
  obtain ⟨I1, e1, h⟩ := bnd h
  refine G_putI cd258_2 rfl (OM.o hw) (Option.some.inj e1) ?_
  refine g_aload_n cd258_5 rfl rfl ?_
  refine g_iload_n cd258_6 rfl rfl ?_
  refine g_iload_n cd258_7 rfl rfl ?_
  obtain ⟨x2, hx, h⟩ := bnd h
  refine g_callVZ (L := [some (.ref 204), some (.int l1), some (.int l2)]) cd258_8 rfl rfl rfl rfl rfl (OM.o hw) (t_Mod_isCell (by omega) hw hx) ?_
  refine g_if_eq cd258_11 rfl (fun hb => ?_) (fun hb => ?_)
  · have h := ifnE (b2i_f hb) h
    refine g_iconst cd258_24 rfl ?_
    exact g_iret cd258_25 (Or.inl rfl) (by obtain rfl := Option.some.inj h; rfl)
  · have h := ifpE (b2i_t hb) h
    refine g_iload_n cd258_14 rfl rfl ?_
    refine g_iconst cd258_15 rfl ?_
    refine g_bipush cd258_16 rfl ?_
    refine g_callSZ (L := [some (.int l3), some (.int 1), some (.int 30)]) cd258_18 rfl rfl rfl rfl rfl (t_Mod_isIn (by omega)  rfl) ?_
    refine g_if_ne cd258_21 rfl (fun hb => ?_) (fun hb => ?_)
    · have h := ifnE (b2i_f hb) h
      refine g_iconst cd258_24 rfl ?_
      exact g_iret cd258_25 (Or.inl rfl) (by obtain rfl := Option.some.inj h; rfl)
    · have h := ifpE (b2i_t hb) h
      refine g_aload_n cd258_26 rfl rfl ?_
      refine g_iconst cd258_27 rfl ?_
      obtain ⟨x3, hx, h⟩ := bnd h
      refine g_callVI (L := [some (.ref 204), some (.int 2), none, none]) cd258_28 rfl rfl rfl rfl rfl (OM.o hw) (t_Mod_those (by omega) hw hx) ?_
      refine g_istore (ls2 := [some (.ref 204), some (.int l1), some (.int l2), some (.int l3), some (.int l4), some (.int x3), none, none, none, none]) cd258_31 rfl rfl ?_
      refine g_aload_n cd258_33 rfl rfl ?_
      refine g_iload cd258_34 rfl rfl ?_
      obtain ⟨x4, hx, h⟩ := bnd h
      refine g_callVI (L := [some (.ref 204), some (.int x3), none, none, none]) cd258_36 rfl rfl rfl rfl rfl (OM.o hw) (t_Mod_spreadOf (by omega) hw hx) ?_
      refine g_istore (ls2 := [some (.ref 204), some (.int l1), some (.int l2), some (.int l3), some (.int l4), some (.int x3), some (.int x4), none, none, none]) cd258_39 rfl rfl ?_
      refine g_iconst cd258_41 rfl ?_
      refine g_istore (ls2 := [some (.ref 204), some (.int l1), some (.int l2), some (.int l3), some (.int l4), some (.int x3), some (.int x4), some (.int 0), none, none]) cd258_42 rfl rfl ?_
      refine g_aload_n cd258_44 rfl rfl ?_
      obtain ⟨x5, hx, h⟩ := bnd h
      refine g_callVV (L := [some (.ref 204), none]) cd258_45 rfl rfl rfl rfl rfl (OM.o hw) (t_Mod_layAside (by omega) hw hx) ?_
      refine g_iconst cd258_48 rfl ?_
      refine g_istore (ls2 := [some (.ref 204), some (.int l1), some (.int l2), some (.int l3), some (.int l4), some (.int x3), some (.int x4), some (.int 0), some (.int 0), none]) cd258_49 rfl rfl ?_
      exact t_Mod_doubt_51 hd hw _ l1 l2 l3 l4 x3 x4 0 0 x5 J h
/-! HiddenOrLostModel.fears()I -/
theorem cd261_0 : code9 261 0 = some (0, .aload_n 0, [1], .null, []) := rfl
theorem cd261_1 : code9 261 1 = some (0, .iconst 0, [1], .int 0, []) := rfl
theorem cd261_2 : code9 261 2 = some (0, .putfield 1, [3, 12, 0, 0], .null, []) := rfl
theorem cd261_5 : code9 261 5 = some (0, .aload_n 0, [1], .null, []) := rfl
theorem cd261_6 : code9 261 6 = some (0, .iconst 2, [1], .int 2, []) := rfl
theorem cd261_7 : code9 261 7 = some (0, .invokevirtual 261, [3, 219, 2, 1, 1, 4, 12, 0], .null, []) := rfl
theorem cd261_10 : code9 261 10 = some (0, .istore_n 1, [1], .null, []) := rfl
theorem cd261_11 : code9 261 11 = some (0, .iconst (-1), [1], .int (-1), []) := rfl
theorem cd261_12 : code9 261 12 = some (0, .istore_n 2, [1], .null, []) := rfl
theorem cd261_13 : code9 261 13 = some (0, .iconst 0, [1], .int 0, []) := rfl
theorem cd261_14 : code9 261 14 = some (0, .istore_n 3, [1], .null, []) := rfl
theorem cd261_15 : code9 261 15 = some (5, .iload_n 3, [1], .null, []) := rfl
theorem cd261_16 : code9 261 16 = some (0, .bipush 10, [2], .int 10, []) := rfl
theorem cd261_18 : code9 261 18 = some (0, .if_icmp .ge 40, [3, 58], .null, []) := rfl
theorem cd261_21 : code9 261 21 = some (0, .iload_n 1, [1], .null, []) := rfl
theorem cd261_22 : code9 261 22 = some (0, .iload_n 3, [1], .null, []) := rfl
theorem cd261_23 : code9 261 23 = some (0, .invokestatic 258, [3, 221, 2, 0, 3, 2, 12, 0], .null, []) := rfl
theorem cd261_26 : code9 261 26 = some (0, .ifCond .eq 26, [3, 52], .null, []) := rfl
theorem cd261_29 : code9 261 29 = some (0, .aload_n 0, [1], .null, []) := rfl
theorem cd261_30 : code9 261 30 = some (0, .getfield 98, [3, 12, 14, 2], .null, []) := rfl
theorem cd261_33 : code9 261 33 = some (0, .bipush 70, [2], .int 70, []) := rfl
theorem cd261_35 : code9 261 35 = some (0, .iload_n 3, [1], .null, []) := rfl
theorem cd261_36 : code9 261 36 = some (0, .iadd, [1], .null, []) := rfl
theorem cd261_37 : code9 261 37 = some (0, .iaload, [1], .null, []) := rfl
theorem cd261_38 : code9 261 38 = some (0, .iload_n 2, [1], .null, []) := rfl
theorem cd261_39 : code9 261 39 = some (0, .if_icmp .le 13, [3, 52], .null, []) := rfl
theorem cd261_42 : code9 261 42 = some (0, .aload_n 0, [1], .null, []) := rfl
theorem cd261_43 : code9 261 43 = some (0, .getfield 98, [3, 12, 14, 2], .null, []) := rfl
theorem cd261_46 : code9 261 46 = some (0, .bipush 70, [2], .int 70, []) := rfl
theorem cd261_48 : code9 261 48 = some (0, .iload_n 3, [1], .null, []) := rfl
theorem cd261_49 : code9 261 49 = some (0, .iadd, [1], .null, []) := rfl
theorem cd261_50 : code9 261 50 = some (0, .iaload, [1], .null, []) := rfl
theorem cd261_51 : code9 261 51 = some (0, .istore_n 2, [1], .null, []) := rfl
theorem cd261_52 : code9 261 52 = some (5, .iinc 3 1, [3], .int 1, []) := rfl
theorem cd261_55 : code9 261 55 = some (0, .goto (-40), [3, 15, 4], .null, []) := rfl
theorem cd261_58 : code9 261 58 = some (0, .iconst 0, [1], .int 0, []) := rfl
theorem cd261_59 : code9 261 59 = some (0, .istore_n 3, [1], .null, []) := rfl
theorem cd261_60 : code9 261 60 = some (0, .iconst 0, [1], .int 0, []) := rfl
theorem cd261_61 : code9 261 61 = some (0, .istore 4, [2], .null, []) := rfl
theorem cd261_63 : code9 261 63 = some (6, .iload 4, [2], .null, []) := rfl
theorem cd261_65 : code9 261 65 = some (0, .aload_n 0, [1], .null, []) := rfl
theorem cd261_66 : code9 261 66 = some (0, .getfield 98, [3, 12, 14, 2], .null, []) := rfl
theorem cd261_69 : code9 261 69 = some (0, .iconst 2, [1], .int 2, []) := rfl
theorem cd261_70 : code9 261 70 = some (0, .iaload, [1], .null, []) := rfl
theorem cd261_71 : code9 261 71 = some (0, .if_icmp .ge 51, [3, 122], .null, []) := rfl
theorem cd261_74 : code9 261 74 = some (0, .iload_n 1, [1], .null, []) := rfl
theorem cd261_75 : code9 261 75 = some (0, .ifCond .eq 34, [3, 109], .null, []) := rfl
theorem cd261_78 : code9 261 78 = some (0, .aload_n 0, [1], .null, []) := rfl
theorem cd261_79 : code9 261 79 = some (0, .getfield 98, [3, 12, 14, 2], .null, []) := rfl
theorem cd261_82 : code9 261 82 = some (0, .bipush 96, [2], .int 96, []) := rfl
theorem cd261_84 : code9 261 84 = some (0, .iload 4, [2], .null, []) := rfl
theorem cd261_86 : code9 261 86 = some (0, .iadd, [1], .null, []) := rfl
theorem cd261_87 : code9 261 87 = some (0, .iaload, [1], .null, []) := rfl
theorem cd261_88 : code9 261 88 = some (0, .iload_n 2, [1], .null, []) := rfl
theorem cd261_89 : code9 261 89 = some (0, .if_icmp .lt 27, [3, 116], .null, []) := rfl
theorem cd261_92 : code9 261 92 = some (0, .aload_n 0, [1], .null, []) := rfl
theorem cd261_93 : code9 261 93 = some (0, .getfield 98, [3, 12, 14, 2], .null, []) := rfl
theorem cd261_96 : code9 261 96 = some (0, .bipush 90, [2], .int 90, []) := rfl
theorem cd261_98 : code9 261 98 = some (0, .iload 4, [2], .null, []) := rfl
theorem cd261_100 : code9 261 100 = some (0, .iadd, [1], .null, []) := rfl
theorem cd261_101 : code9 261 101 = some (0, .iaload, [1], .null, []) := rfl
theorem cd261_102 : code9 261 102 = some (0, .iload_n 2, [1], .null, []) := rfl
theorem cd261_103 : code9 261 103 = some (0, .bipush 30, [2], .int 30, []) := rfl
theorem cd261_105 : code9 261 105 = some (0, .iadd, [1], .null, []) := rfl
theorem cd261_106 : code9 261 106 = some (0, .if_icmp .gt 10, [3, 116], .null, []) := rfl
theorem cd261_109 : code9 261 109 = some (6, .iload_n 3, [1], .null, []) := rfl
theorem cd261_110 : code9 261 110 = some (0, .iconst 1, [1], .int 1, []) := rfl
theorem cd261_111 : code9 261 111 = some (0, .iload 4, [2], .null, []) := rfl
theorem cd261_113 : code9 261 113 = some (0, .ishl, [1], .null, []) := rfl
theorem cd261_114 : code9 261 114 = some (0, .ior, [1], .null, []) := rfl
theorem cd261_115 : code9 261 115 = some (0, .istore_n 3, [1], .null, []) := rfl
theorem cd261_116 : code9 261 116 = some (6, .iinc 4 1, [3], .int 1, []) := rfl
theorem cd261_119 : code9 261 119 = some (0, .goto (-56), [3, 63, 5], .null, []) := rfl
theorem cd261_122 : code9 261 122 = some (0, .iload_n 3, [1], .null, []) := rfl
theorem cd261_123 : code9 261 123 = some (0, .ireturn, [1, 1], .null, []) := rfl
def Mod_fears_63 (N : Nat) : Nat → Int32 → Int32 → Int32 → Int32 → FI → Option (Int32 × FI)
  | 0 => fun _ _ _ _ _ => none
  | n + 1 => fun l1 l2 l3 l4 I => if (I 206 ((2 : Int32).toNatClampNeg)) ≤ l4 then (some (l3, I)) else (if l1 = 0 then (Mod_fears_63 N n l1 l2 (l3 ||| (1 <<< (l4 &&& 31))) (l4 + 1) I) else (if in9 (96 + l4) 451 then (if (I 206 ((96 + l4).toNatClampNeg)) < l2 then (Mod_fears_63 N n l1 l2 l3 (l4 + 1) I) else (if in9 (90 + l4) 451 then (if (l2 + 30) < (I 206 ((90 + l4).toNatClampNeg)) then (Mod_fears_63 N n l1 l2 l3 (l4 + 1) I) else (Mod_fears_63 N n l1 l2 (l3 ||| (1 <<< (l4 &&& 31))) (l4 + 1) I)) else none)) else none))
def Mod_fears_15 (N : Nat) : Nat → Int32 → Int32 → Int32 → FI → Option (Int32 × FI)
  | 0 => fun _ _ _ _ => none
  | n + 1 => fun l1 l2 l3 I => if 10 ≤ l3 then (Mod_fears_63 N N l1 l2 0 0 I) else (if (Mod_has l1 l3) then (if in9 (70 + l3) 451 then (if (I 206 ((70 + l3).toNatClampNeg)) ≤ l2 then (Mod_fears_15 N n l1 l2 (l3 + 1) I) else (Mod_fears_15 N n l1 (I 206 ((70 + l3).toNatClampNeg)) (l3 + 1) I)) else none) else (Mod_fears_15 N n l1 l2 (l3 + 1) I))
def Mod_fears (N : Nat) (I : FI) : Option (Int32 × FI) := Option.bind (some (up2 I 204 0 (0 : Int32))) fun I1 => (Option.bind (Mod_those N 2 I1) fun x2 => (Mod_fears_15 N N x2 (-1) 0 I1))
set_option maxRecDepth 8000 in
theorem t_Mod_fears_63 {d : Nat} {N : Nat} {c : Nat × Nat} {S : Nat → Nat × Nat} {P : Nat → Nat → Option Nat} {r : Int32 × FI} (hd : 1 ≤ (d + 1)) (hw : OM S P) : ∀ (n : Nat) (l1 : Int32) (l2 : Int32) (l3 : Int32) (l4 : Int32) (I : FI) (J : FJ), Mod_fears_63 N n l1 l2 l3 l4 I = some r → Go (d + 1) M_Mod_fears 63 [some (.ref 204), some (.int l1), some (.int l2), some (.int l3), some (.int l4)] [] (c, S, I, J, P) (some (.int r.1), false, (c, S, r.2, J, P)) := by
  intro n
  induction n with
  | zero =>
    intro l1 l2 l3 l4 I J h
    cases h
  | succ n ih =>
    intro l1 l2 l3 l4 I J h
    unfold Mod_fears_63 at h
    refine g_iload cd261_63 rfl rfl ?_
    refine g_aload_n cd261_65 rfl rfl ?_
    refine g_getP cd261_66 rfl (OM.o hw) (OM.p14 hw) ?_
    refine g_iconst cd261_69 rfl ?_
    refine G_iald cd261_70 rfl (OM.s14 hw) (by decide) ?_
    refine g_icmp_ge cd261_71 rfl (fun hb => ?_) (fun hb => ?_)
    · have h := ifpE hb h
      refine g_iload_n cd261_122 rfl rfl ?_
      exact g_iret cd261_123 (Or.inl rfl) (by obtain rfl := Option.some.inj h; rfl)
    · have h := ifnE hb h
      refine g_iload_n cd261_74 rfl rfl ?_
      refine g_if_eq cd261_75 rfl (fun hb => ?_) (fun hb => ?_)
      · have h := ifpE hb h
        refine g_iload_n cd261_109 rfl rfl ?_
        refine g_iconst cd261_110 rfl ?_
        refine g_iload cd261_111 rfl rfl ?_
        refine g_ishl cd261_113 rfl ?_
        refine g_ior cd261_114 rfl ?_
        refine g_istore_n (ls2 := [some (.ref 204), some (.int l1), some (.int l2), some (.int (l3 ||| (1 <<< (l4 &&& 31)))), some (.int l4)]) cd261_115 rfl rfl ?_
        refine g_iinc (ls2 := [some (.ref 204), some (.int l1), some (.int l2), some (.int (l3 ||| (1 <<< (l4 &&& 31)))), some (.int (l4 + 1))]) cd261_116 rfl rfl rfl ?_
        refine g_goto (ls2 := [some (.ref 204), some (.int l1), some (.int l2), some (.int (l3 ||| (1 <<< (l4 &&& 31)))), some (.int (l4 + 1))]) cd261_119 rfl rfl ?_
        exact ih l1 l2 (l3 ||| (1 <<< (l4 &&& 31))) (l4 + 1) I J h
      · have h := ifnE hb h
        refine g_aload_n cd261_78 rfl rfl ?_
        refine g_getP cd261_79 rfl (OM.o hw) (OM.p14 hw) ?_
        refine g_bipush cd261_82 rfl ?_
        refine g_iload cd261_84 rfl rfl ?_
        refine g_iadd cd261_86 rfl ?_
        obtain ⟨hg3, h⟩ := grd h
        refine G_iald cd261_87 rfl (OM.s14 hw) hg3 ?_
        refine g_iload_n cd261_88 rfl rfl ?_
        refine g_icmp_lt cd261_89 rfl (fun hb => ?_) (fun hb => ?_)
        · have h := ifpE hb h
          refine g_iinc (ls2 := [some (.ref 204), some (.int l1), some (.int l2), some (.int l3), some (.int (l4 + 1))]) cd261_116 rfl rfl rfl ?_
          refine g_goto (ls2 := [some (.ref 204), some (.int l1), some (.int l2), some (.int l3), some (.int (l4 + 1))]) cd261_119 rfl rfl ?_
          exact ih l1 l2 l3 (l4 + 1) I J h
        · have h := ifnE hb h
          refine g_aload_n cd261_92 rfl rfl ?_
          refine g_getP cd261_93 rfl (OM.o hw) (OM.p14 hw) ?_
          refine g_bipush cd261_96 rfl ?_
          refine g_iload cd261_98 rfl rfl ?_
          refine g_iadd cd261_100 rfl ?_
          obtain ⟨hg4, h⟩ := grd h
          refine G_iald cd261_101 rfl (OM.s14 hw) hg4 ?_
          refine g_iload_n cd261_102 rfl rfl ?_
          refine g_bipush cd261_103 rfl ?_
          refine g_iadd cd261_105 rfl ?_
          refine g_icmp_gt cd261_106 rfl (fun hb => ?_) (fun hb => ?_)
          · have h := ifpE hb h
            refine g_iinc (ls2 := [some (.ref 204), some (.int l1), some (.int l2), some (.int l3), some (.int (l4 + 1))]) cd261_116 rfl rfl rfl ?_
            refine g_goto (ls2 := [some (.ref 204), some (.int l1), some (.int l2), some (.int l3), some (.int (l4 + 1))]) cd261_119 rfl rfl ?_
            exact ih l1 l2 l3 (l4 + 1) I J h
          · have h := ifnE hb h
            refine g_iload_n cd261_109 rfl rfl ?_
            refine g_iconst cd261_110 rfl ?_
            refine g_iload cd261_111 rfl rfl ?_
            refine g_ishl cd261_113 rfl ?_
            refine g_ior cd261_114 rfl ?_
            refine g_istore_n (ls2 := [some (.ref 204), some (.int l1), some (.int l2), some (.int (l3 ||| (1 <<< (l4 &&& 31)))), some (.int l4)]) cd261_115 rfl rfl ?_
            refine g_iinc (ls2 := [some (.ref 204), some (.int l1), some (.int l2), some (.int (l3 ||| (1 <<< (l4 &&& 31)))), some (.int (l4 + 1))]) cd261_116 rfl rfl rfl ?_
            refine g_goto (ls2 := [some (.ref 204), some (.int l1), some (.int l2), some (.int (l3 ||| (1 <<< (l4 &&& 31)))), some (.int (l4 + 1))]) cd261_119 rfl rfl ?_
            exact ih l1 l2 (l3 ||| (1 <<< (l4 &&& 31))) (l4 + 1) I J h
set_option maxRecDepth 8000 in
theorem t_Mod_fears_15 {d : Nat} {N : Nat} {c : Nat × Nat} {S : Nat → Nat × Nat} {P : Nat → Nat → Option Nat} {r : Int32 × FI} (hd : 1 ≤ (d + 1)) (hw : OM S P) : ∀ (n : Nat) (l1 : Int32) (l2 : Int32) (l3 : Int32) (I : FI) (J : FJ), Mod_fears_15 N n l1 l2 l3 I = some r → Go (d + 1) M_Mod_fears 15 [some (.ref 204), some (.int l1), some (.int l2), some (.int l3), none] [] (c, S, I, J, P) (some (.int r.1), false, (c, S, r.2, J, P)) := by
  intro n
  induction n with
  | zero =>
    intro l1 l2 l3 I J h
    cases h
  | succ n ih =>
    intro l1 l2 l3 I J h
    unfold Mod_fears_15 at h
    refine g_iload_n cd261_15 rfl rfl ?_
    refine g_bipush cd261_16 rfl ?_
    refine g_icmp_ge cd261_18 rfl (fun hb => ?_) (fun hb => ?_)
    · have h := ifpE hb h
      refine g_iconst cd261_58 rfl ?_
      refine g_istore_n (ls2 := [some (.ref 204), some (.int l1), some (.int l2), some (.int 0), none]) cd261_59 rfl rfl ?_
      refine g_iconst cd261_60 rfl ?_
      refine g_istore (ls2 := [some (.ref 204), some (.int l1), some (.int l2), some (.int 0), some (.int 0)]) cd261_61 rfl rfl ?_
      exact t_Mod_fears_63 hd hw _ l1 l2 0 0 I J h
    · have h := ifnE hb h
      refine g_iload_n cd261_21 rfl rfl ?_
      refine g_iload_n cd261_22 rfl rfl ?_
      refine g_callSZ (L := [some (.int l1), some (.int l3)]) cd261_23 rfl rfl rfl rfl rfl (t_Mod_has (by omega)  rfl) ?_
      refine g_if_eq cd261_26 rfl (fun hb => ?_) (fun hb => ?_)
      · have h := ifnE (b2i_f hb) h
        refine g_iinc (ls2 := [some (.ref 204), some (.int l1), some (.int l2), some (.int (l3 + 1)), none]) cd261_52 rfl rfl rfl ?_
        refine g_goto (ls2 := [some (.ref 204), some (.int l1), some (.int l2), some (.int (l3 + 1)), none]) cd261_55 rfl rfl ?_
        exact ih l1 l2 (l3 + 1) I J h
      · have h := ifpE (b2i_t hb) h
        refine g_aload_n cd261_29 rfl rfl ?_
        refine g_getP cd261_30 rfl (OM.o hw) (OM.p14 hw) ?_
        refine g_bipush cd261_33 rfl ?_
        refine g_iload_n cd261_35 rfl rfl ?_
        refine g_iadd cd261_36 rfl ?_
        obtain ⟨hg5, h⟩ := grd h
        refine G_iald cd261_37 rfl (OM.s14 hw) hg5 ?_
        refine g_iload_n cd261_38 rfl rfl ?_
        refine g_icmp_le cd261_39 rfl (fun hb => ?_) (fun hb => ?_)
        · have h := ifpE hb h
          refine g_iinc (ls2 := [some (.ref 204), some (.int l1), some (.int l2), some (.int (l3 + 1)), none]) cd261_52 rfl rfl rfl ?_
          refine g_goto (ls2 := [some (.ref 204), some (.int l1), some (.int l2), some (.int (l3 + 1)), none]) cd261_55 rfl rfl ?_
          exact ih l1 l2 (l3 + 1) I J h
        · have h := ifnE hb h
          refine g_aload_n cd261_42 rfl rfl ?_
          refine g_getP cd261_43 rfl (OM.o hw) (OM.p14 hw) ?_
          refine g_bipush cd261_46 rfl ?_
          refine g_iload_n cd261_48 rfl rfl ?_
          refine g_iadd cd261_49 rfl ?_
          refine G_iald cd261_50 rfl (OM.s14 hw) hg5 ?_
          refine g_istore_n (ls2 := [some (.ref 204), some (.int l1), some (.int (I 206 ((70 + l3).toNatClampNeg))), some (.int l3), none]) cd261_51 rfl rfl ?_
          refine g_iinc (ls2 := [some (.ref 204), some (.int l1), some (.int (I 206 ((70 + l3).toNatClampNeg))), some (.int (l3 + 1)), none]) cd261_52 rfl rfl rfl ?_
          refine g_goto (ls2 := [some (.ref 204), some (.int l1), some (.int (I 206 ((70 + l3).toNatClampNeg))), some (.int (l3 + 1)), none]) cd261_55 rfl rfl ?_
          exact ih l1 (I 206 ((70 + l3).toNatClampNeg)) (l3 + 1) I J h
set_option maxRecDepth 8000 in
theorem t_Mod_fears {d : Nat} {N : Nat} {c : Nat × Nat} {S : Nat → Nat × Nat} {P : Nat → Nat → Option Nat} {I : FI} {J : FJ} {r : Int32 × FI} (hd : 1 ≤ d) (hw : OM S P) (h : Mod_fears N I = some r) : Go d M_Mod_fears 0 [some (.ref 204), none, none, none, none] [] (c, S, I, J, P) (some (.int r.1), false, (c, S, r.2, J, P)) := by
  obtain ⟨d, rfl⟩ : ∃ e, d = e + 1 := ⟨d - 1, by omega⟩
  unfold Mod_fears at h
  refine g_aload_n cd261_0 rfl rfl ?_
  refine g_iconst cd261_1 rfl ?_
  obtain ⟨I1, e1, h⟩ := bnd h
  refine G_putI cd261_2 rfl (OM.o hw) (Option.some.inj e1) ?_
  refine g_aload_n cd261_5 rfl rfl ?_
  refine g_iconst cd261_6 rfl ?_
  obtain ⟨x2, hx, h⟩ := bnd h
  refine g_callVI (L := [some (.ref 204), some (.int 2), none, none]) cd261_7 rfl rfl rfl rfl rfl (OM.o hw) (t_Mod_those (by omega) hw hx) ?_
  refine g_istore_n (ls2 := [some (.ref 204), some (.int x2), none, none, none]) cd261_10 rfl rfl ?_
  refine g_iconst cd261_11 rfl ?_
  refine g_istore_n (ls2 := [some (.ref 204), some (.int x2), some (.int (-1)), none, none]) cd261_12 rfl rfl ?_
  refine g_iconst cd261_13 rfl ?_
  refine g_istore_n (ls2 := [some (.ref 204), some (.int x2), some (.int (-1)), some (.int 0), none]) cd261_14 rfl rfl ?_
  exact t_Mod_fears_15 hd hw _ x2 (-1) 0 I1 J h
/-! HiddenOrLostModel.fear(II)I -/
theorem cd262_0 : code9 262 0 = some (0, .aload_n 0, [1], .null, []) := rfl
theorem cd262_1 : code9 262 1 = some (0, .iconst 0, [1], .int 0, []) := rfl
theorem cd262_2 : code9 262 2 = some (0, .putfield 1, [3, 12, 0, 0], .null, []) := rfl
theorem cd262_5 : code9 262 5 = some (0, .iload_n 1, [1], .null, []) := rfl
theorem cd262_6 : code9 262 6 = some (0, .iconst 0, [1], .int 0, []) := rfl
theorem cd262_7 : code9 262 7 = some (0, .aload_n 0, [1], .null, []) := rfl
theorem cd262_8 : code9 262 8 = some (0, .getfield 98, [3, 12, 14, 2], .null, []) := rfl
theorem cd262_11 : code9 262 11 = some (0, .iconst 2, [1], .int 2, []) := rfl
theorem cd262_12 : code9 262 12 = some (0, .iaload, [1], .null, []) := rfl
theorem cd262_13 : code9 262 13 = some (0, .iconst 1, [1], .int 1, []) := rfl
theorem cd262_14 : code9 262 14 = some (0, .isub, [1], .null, []) := rfl
theorem cd262_15 : code9 262 15 = some (0, .invokestatic 75, [3, 191, 3, 0, 3, 3, 12, 0], .null, []) := rfl
theorem cd262_18 : code9 262 18 = some (0, .ifCond .eq 12, [3, 30], .null, []) := rfl
theorem cd262_21 : code9 262 21 = some (0, .iload_n 2, [1], .null, []) := rfl
theorem cd262_22 : code9 262 22 = some (0, .iconst 0, [1], .int 0, []) := rfl
theorem cd262_23 : code9 262 23 = some (0, .iconst 1, [1], .int 1, []) := rfl
theorem cd262_24 : code9 262 24 = some (0, .invokestatic 75, [3, 191, 3, 0, 3, 3, 12, 0], .null, []) := rfl
theorem cd262_27 : code9 262 27 = some (0, .ifCond .ne 5, [3, 32], .null, []) := rfl
theorem cd262_30 : code9 262 30 = some (4, .iconst (-1), [1], .int (-1), []) := rfl
theorem cd262_31 : code9 262 31 = some (0, .ireturn, [1, 1], .null, []) := rfl
theorem cd262_32 : code9 262 32 = some (0, .iload_n 2, [1], .null, []) := rfl
theorem cd262_33 : code9 262 33 = some (0, .ifCond .ne 15, [3, 48], .null, []) := rfl
theorem cd262_36 : code9 262 36 = some (0, .aload_n 0, [1], .null, []) := rfl
theorem cd262_37 : code9 262 37 = some (0, .getfield 98, [3, 12, 14, 2], .null, []) := rfl
theorem cd262_40 : code9 262 40 = some (0, .bipush 90, [2], .int 90, []) := rfl
theorem cd262_42 : code9 262 42 = some (0, .iload_n 1, [1], .null, []) := rfl
theorem cd262_43 : code9 262 43 = some (0, .iadd, [1], .null, []) := rfl
theorem cd262_44 : code9 262 44 = some (0, .iaload, [1], .null, []) := rfl
theorem cd262_45 : code9 262 45 = some (0, .goto 12, [3, 57, 3], .null, []) := rfl
theorem cd262_48 : code9 262 48 = some (0, .aload_n 0, [1], .null, []) := rfl
theorem cd262_49 : code9 262 49 = some (0, .getfield 98, [3, 12, 14, 2], .null, []) := rfl
theorem cd262_52 : code9 262 52 = some (0, .bipush 96, [2], .int 96, []) := rfl
theorem cd262_54 : code9 262 54 = some (0, .iload_n 1, [1], .null, []) := rfl
theorem cd262_55 : code9 262 55 = some (0, .iadd, [1], .null, []) := rfl
theorem cd262_56 : code9 262 56 = some (0, .iaload, [1], .null, []) := rfl
theorem cd262_57 : code9 262 57 = some (4, .ireturn, [1, 1], .null, []) := rfl
def Mod_fear (l1 : Int32) (l2 : Int32) (I : FI) : Option (Int32 × FI) := Option.bind (some (up2 I 204 0 (0 : Int32))) fun I1 => (if (Mod_isIn l1 0 ((I1 206 ((2 : Int32).toNatClampNeg)) - 1)) then (if (Mod_isIn l2 0 1) then (if l2 = 0 then (if in9 (90 + l1) 451 then (some (I1 206 ((90 + l1).toNatClampNeg), I1)) else none) else (if in9 (96 + l1) 451 then (some (I1 206 ((96 + l1).toNatClampNeg), I1)) else none)) else (some ((-1), I1))) else (some ((-1), I1)))
set_option maxRecDepth 8000 in
theorem t_Mod_fear {d : Nat} {c : Nat × Nat} {S : Nat → Nat × Nat} {P : Nat → Nat → Option Nat} {I : FI} {J : FJ} {l1 : Int32} {l2 : Int32} {r : Int32 × FI} (hd : 1 ≤ d) (hw : OM S P) (h : Mod_fear l1 l2 I = some r) : Go d M_Mod_fear 0 [some (.ref 204), some (.int l1), some (.int l2)] [] (c, S, I, J, P) (some (.int r.1), false, (c, S, r.2, J, P)) := by
  obtain ⟨d, rfl⟩ : ∃ e, d = e + 1 := ⟨d - 1, by omega⟩
  unfold Mod_fear at h
  refine g_aload_n cd262_0 rfl rfl ?_
  refine g_iconst cd262_1 rfl ?_
  obtain ⟨I1, e1, h⟩ := bnd h
  refine G_putI cd262_2 rfl (OM.o hw) (Option.some.inj e1) ?_
  refine g_iload_n cd262_5 rfl rfl ?_
  refine g_iconst cd262_6 rfl ?_
  refine g_aload_n cd262_7 rfl rfl ?_
  refine g_getP cd262_8 rfl (OM.o hw) (OM.p14 hw) ?_
  refine g_iconst cd262_11 rfl ?_
  refine G_iald cd262_12 rfl (OM.s14 hw) (by decide) ?_
  refine g_iconst cd262_13 rfl ?_
  refine g_isub cd262_14 rfl ?_
  refine g_callSZ (L := [some (.int l1), some (.int 0), some (.int ((I1 206 ((2 : Int32).toNatClampNeg)) - 1))]) cd262_15 rfl rfl rfl rfl rfl (t_Mod_isIn (by omega)  rfl) ?_
  refine g_if_eq cd262_18 rfl (fun hb => ?_) (fun hb => ?_)
  · have h := ifnE (b2i_f hb) h
    refine g_iconst cd262_30 rfl ?_
    exact g_iret cd262_31 (Or.inl rfl) (by obtain rfl := Option.some.inj h; rfl)
  · have h := ifpE (b2i_t hb) h
    refine g_iload_n cd262_21 rfl rfl ?_
    refine g_iconst cd262_22 rfl ?_
    refine g_iconst cd262_23 rfl ?_
    refine g_callSZ (L := [some (.int l2), some (.int 0), some (.int 1)]) cd262_24 rfl rfl rfl rfl rfl (t_Mod_isIn (by omega)  rfl) ?_
    refine g_if_ne cd262_27 rfl (fun hb => ?_) (fun hb => ?_)
    · have h := ifnE (b2i_f hb) h
      refine g_iconst cd262_30 rfl ?_
      exact g_iret cd262_31 (Or.inl rfl) (by obtain rfl := Option.some.inj h; rfl)
    · have h := ifpE (b2i_t hb) h
      refine g_iload_n cd262_32 rfl rfl ?_
      refine g_if_ne cd262_33 rfl (fun hb => ?_) (fun hb => ?_)
      · have h := ifpE hb h
        refine g_aload_n cd262_36 rfl rfl ?_
        refine g_getP cd262_37 rfl (OM.o hw) (OM.p14 hw) ?_
        refine g_bipush cd262_40 rfl ?_
        refine g_iload_n cd262_42 rfl rfl ?_
        refine g_iadd cd262_43 rfl ?_
        obtain ⟨hg2, h⟩ := grd h
        refine G_iald cd262_44 rfl (OM.s14 hw) hg2 ?_
        refine g_goto (ls2 := [some (.ref 204), some (.int l1), some (.int l2)]) cd262_45 rfl rfl ?_
        exact g_iret cd262_57 (Or.inl rfl) (by obtain rfl := Option.some.inj h; rfl)
      · have h := ifnE hb h
        refine g_aload_n cd262_48 rfl rfl ?_
        refine g_getP cd262_49 rfl (OM.o hw) (OM.p14 hw) ?_
        refine g_bipush cd262_52 rfl ?_
        refine g_iload_n cd262_54 rfl rfl ?_
        refine g_iadd cd262_55 rfl ?_
        obtain ⟨hg3, h⟩ := grd h
        refine G_iald cd262_56 rfl (OM.s14 hw) hg3 ?_
        exact g_iret cd262_57 (Or.inl rfl) (by obtain rfl := Option.some.inj h; rfl)
/-! HiddenOrLostModel.pots()I -/
theorem cd263_0 : code9 263 0 = some (0, .aload_n 0, [1], .null, []) := rfl
theorem cd263_1 : code9 263 1 = some (0, .iconst 0, [1], .int 0, []) := rfl
theorem cd263_2 : code9 263 2 = some (0, .putfield 1, [3, 12, 0, 0], .null, []) := rfl
theorem cd263_5 : code9 263 5 = some (0, .iconst 0, [1], .int 0, []) := rfl
theorem cd263_6 : code9 263 6 = some (0, .istore_n 1, [1], .null, []) := rfl
theorem cd263_7 : code9 263 7 = some (0, .iconst 0, [1], .int 0, []) := rfl
theorem cd263_8 : code9 263 8 = some (0, .istore_n 2, [1], .null, []) := rfl
theorem cd263_9 : code9 263 9 = some (4, .iload_n 2, [1], .null, []) := rfl
theorem cd263_10 : code9 263 10 = some (0, .aload_n 0, [1], .null, []) := rfl
theorem cd263_11 : code9 263 11 = some (0, .getfield 98, [3, 12, 14, 2], .null, []) := rfl
theorem cd263_14 : code9 263 14 = some (0, .iconst 1, [1], .int 1, []) := rfl
theorem cd263_15 : code9 263 15 = some (0, .iaload, [1], .null, []) := rfl
theorem cd263_16 : code9 263 16 = some (0, .if_icmp .ge 102, [3, 118], .null, []) := rfl
theorem cd263_19 : code9 263 19 = some (0, .aload_n 0, [1], .null, []) := rfl
theorem cd263_20 : code9 263 20 = some (0, .getfield 98, [3, 12, 14, 2], .null, []) := rfl
theorem cd263_23 : code9 263 23 = some (0, .sipush 135, [3], .int 135, []) := rfl
theorem cd263_26 : code9 263 26 = some (0, .iload_n 2, [1], .null, []) := rfl
theorem cd263_27 : code9 263 27 = some (0, .iadd, [1], .null, []) := rfl
theorem cd263_28 : code9 263 28 = some (0, .iaload, [1], .null, []) := rfl
theorem cd263_29 : code9 263 29 = some (0, .iconst 2, [1], .int 2, []) := rfl
theorem cd263_30 : code9 263 30 = some (0, .if_icmp .ne 82, [3, 112], .null, []) := rfl
theorem cd263_33 : code9 263 33 = some (0, .aload_n 0, [1], .null, []) := rfl
theorem cd263_34 : code9 263 34 = some (0, .getfield 98, [3, 12, 14, 2], .null, []) := rfl
theorem cd263_37 : code9 263 37 = some (0, .bipush 30, [2], .int 30, []) := rfl
theorem cd263_39 : code9 263 39 = some (0, .iload_n 2, [1], .null, []) := rfl
theorem cd263_40 : code9 263 40 = some (0, .iadd, [1], .null, []) := rfl
theorem cd263_41 : code9 263 41 = some (0, .iaload, [1], .null, []) := rfl
theorem cd263_42 : code9 263 42 = some (0, .ifCond .eq 6, [3, 48], .null, []) := rfl
theorem cd263_45 : code9 263 45 = some (0, .goto 67, [3, 112, 3], .null, []) := rfl
theorem cd263_48 : code9 263 48 = some (0, .iload_n 1, [1], .null, []) := rfl
theorem cd263_49 : code9 263 49 = some (0, .istore_n 3, [1], .null, []) := rfl
theorem cd263_50 : code9 263 50 = some (5, .iload_n 3, [1], .null, []) := rfl
theorem cd263_51 : code9 263 51 = some (0, .ifCond .le 51, [3, 102], .null, []) := rfl
theorem cd263_54 : code9 263 54 = some (0, .aload_n 0, [1], .null, []) := rfl
theorem cd263_55 : code9 263 55 = some (0, .getfield 98, [3, 12, 14, 2], .null, []) := rfl
theorem cd263_58 : code9 263 58 = some (0, .bipush 70, [2], .int 70, []) := rfl
theorem cd263_60 : code9 263 60 = some (0, .aload_n 0, [1], .null, []) := rfl
theorem cd263_61 : code9 263 61 = some (0, .getfield 142, [3, 12, 32, 2], .null, []) := rfl
theorem cd263_64 : code9 263 64 = some (0, .iload_n 3, [1], .null, []) := rfl
theorem cd263_65 : code9 263 65 = some (0, .iconst 1, [1], .int 1, []) := rfl
theorem cd263_66 : code9 263 66 = some (0, .isub, [1], .null, []) := rfl
theorem cd263_67 : code9 263 67 = some (0, .iaload, [1], .null, []) := rfl
theorem cd263_68 : code9 263 68 = some (0, .iadd, [1], .null, []) := rfl
theorem cd263_69 : code9 263 69 = some (0, .iaload, [1], .null, []) := rfl
theorem cd263_70 : code9 263 70 = some (0, .aload_n 0, [1], .null, []) := rfl
theorem cd263_71 : code9 263 71 = some (0, .getfield 98, [3, 12, 14, 2], .null, []) := rfl
theorem cd263_74 : code9 263 74 = some (0, .bipush 70, [2], .int 70, []) := rfl
theorem cd263_76 : code9 263 76 = some (0, .iload_n 2, [1], .null, []) := rfl
theorem cd263_77 : code9 263 77 = some (0, .iadd, [1], .null, []) := rfl
theorem cd263_78 : code9 263 78 = some (0, .iaload, [1], .null, []) := rfl
theorem cd263_79 : code9 263 79 = some (0, .if_icmp .le 23, [3, 102], .null, []) := rfl
theorem cd263_82 : code9 263 82 = some (0, .aload_n 0, [1], .null, []) := rfl
theorem cd263_83 : code9 263 83 = some (0, .getfield 142, [3, 12, 32, 2], .null, []) := rfl
theorem cd263_86 : code9 263 86 = some (0, .iload_n 3, [1], .null, []) := rfl
theorem cd263_87 : code9 263 87 = some (0, .aload_n 0, [1], .null, []) := rfl
theorem cd263_88 : code9 263 88 = some (0, .getfield 142, [3, 12, 32, 2], .null, []) := rfl
theorem cd263_91 : code9 263 91 = some (0, .iload_n 3, [1], .null, []) := rfl
theorem cd263_92 : code9 263 92 = some (0, .iconst 1, [1], .int 1, []) := rfl
theorem cd263_93 : code9 263 93 = some (0, .isub, [1], .null, []) := rfl
theorem cd263_94 : code9 263 94 = some (0, .iaload, [1], .null, []) := rfl
theorem cd263_95 : code9 263 95 = some (0, .iastore, [1], .null, []) := rfl
theorem cd263_96 : code9 263 96 = some (0, .iinc 3 (-1), [3], .int (-1), []) := rfl
theorem cd263_99 : code9 263 99 = some (0, .goto (-49), [3, 50, 4], .null, []) := rfl
theorem cd263_102 : code9 263 102 = some (5, .aload_n 0, [1], .null, []) := rfl
theorem cd263_103 : code9 263 103 = some (0, .getfield 142, [3, 12, 32, 2], .null, []) := rfl
theorem cd263_106 : code9 263 106 = some (0, .iload_n 3, [1], .null, []) := rfl
theorem cd263_107 : code9 263 107 = some (0, .iload_n 2, [1], .null, []) := rfl
theorem cd263_108 : code9 263 108 = some (0, .iastore, [1], .null, []) := rfl
theorem cd263_109 : code9 263 109 = some (0, .iinc 1 1, [3], .int 1, []) := rfl
theorem cd263_112 : code9 263 112 = some (4, .iinc 2 1, [3], .int 1, []) := rfl
theorem cd263_115 : code9 263 115 = some (0, .goto (-106), [3, 9, 3], .null, []) := rfl
theorem cd263_118 : code9 263 118 = some (0, .iload_n 1, [1], .null, []) := rfl
theorem cd263_119 : code9 263 119 = some (0, .iconst 2, [1], .int 2, []) := rfl
theorem cd263_120 : code9 263 120 = some (0, .if_icmp .ge 5, [3, 125], .null, []) := rfl
theorem cd263_123 : code9 263 123 = some (0, .iconst (-1), [1], .int (-1), []) := rfl
theorem cd263_124 : code9 263 124 = some (0, .ireturn, [1, 1], .null, []) := rfl
theorem cd263_125 : code9 263 125 = some (0, .iconst (-1), [1], .int (-1), []) := rfl
theorem cd263_126 : code9 263 126 = some (0, .istore_n 2, [1], .null, []) := rfl
theorem cd263_127 : code9 263 127 = some (0, .iconst 0, [1], .int 0, []) := rfl
theorem cd263_128 : code9 263 128 = some (0, .istore_n 3, [1], .null, []) := rfl
theorem cd263_129 : code9 263 129 = some (0, .iconst 1, [1], .int 1, []) := rfl
theorem cd263_130 : code9 263 130 = some (0, .istore 4, [2], .null, []) := rfl
theorem cd263_132 : code9 263 132 = some (6, .iload 4, [2], .null, []) := rfl
theorem cd263_134 : code9 263 134 = some (0, .iload_n 1, [1], .null, []) := rfl
theorem cd263_135 : code9 263 135 = some (0, .if_icmp .ge 96, [3, 231], .null, []) := rfl
theorem cd263_138 : code9 263 138 = some (0, .aload_n 0, [1], .null, []) := rfl
theorem cd263_139 : code9 263 139 = some (0, .getfield 98, [3, 12, 14, 2], .null, []) := rfl
theorem cd263_142 : code9 263 142 = some (0, .bipush 70, [2], .int 70, []) := rfl
theorem cd263_144 : code9 263 144 = some (0, .aload_n 0, [1], .null, []) := rfl
theorem cd263_145 : code9 263 145 = some (0, .getfield 142, [3, 12, 32, 2], .null, []) := rfl
theorem cd263_148 : code9 263 148 = some (0, .iload 4, [2], .null, []) := rfl
theorem cd263_150 : code9 263 150 = some (0, .iconst 1, [1], .int 1, []) := rfl
theorem cd263_151 : code9 263 151 = some (0, .isub, [1], .null, []) := rfl
theorem cd263_152 : code9 263 152 = some (0, .iaload, [1], .null, []) := rfl
theorem cd263_153 : code9 263 153 = some (0, .iadd, [1], .null, []) := rfl
theorem cd263_154 : code9 263 154 = some (0, .iaload, [1], .null, []) := rfl
theorem cd263_155 : code9 263 155 = some (0, .aload_n 0, [1], .null, []) := rfl
theorem cd263_156 : code9 263 156 = some (0, .getfield 98, [3, 12, 14, 2], .null, []) := rfl
theorem cd263_159 : code9 263 159 = some (0, .bipush 70, [2], .int 70, []) := rfl
theorem cd263_161 : code9 263 161 = some (0, .aload_n 0, [1], .null, []) := rfl
theorem cd263_162 : code9 263 162 = some (0, .getfield 142, [3, 12, 32, 2], .null, []) := rfl
theorem cd263_165 : code9 263 165 = some (0, .iconst 0, [1], .int 0, []) := rfl
theorem cd263_166 : code9 263 166 = some (0, .iaload, [1], .null, []) := rfl
theorem cd263_167 : code9 263 167 = some (0, .iadd, [1], .null, []) := rfl
theorem cd263_168 : code9 263 168 = some (0, .iaload, [1], .null, []) := rfl
theorem cd263_169 : code9 263 169 = some (0, .isub, [1], .null, []) := rfl
theorem cd263_170 : code9 263 170 = some (0, .aload_n 0, [1], .null, []) := rfl
theorem cd263_171 : code9 263 171 = some (0, .getfield 98, [3, 12, 14, 2], .null, []) := rfl
theorem cd263_174 : code9 263 174 = some (0, .bipush 70, [2], .int 70, []) := rfl
theorem cd263_176 : code9 263 176 = some (0, .aload_n 0, [1], .null, []) := rfl
theorem cd263_177 : code9 263 177 = some (0, .getfield 142, [3, 12, 32, 2], .null, []) := rfl
theorem cd263_180 : code9 263 180 = some (0, .iload_n 1, [1], .null, []) := rfl
theorem cd263_181 : code9 263 181 = some (0, .iconst 1, [1], .int 1, []) := rfl
theorem cd263_182 : code9 263 182 = some (0, .isub, [1], .null, []) := rfl
theorem cd263_183 : code9 263 183 = some (0, .iaload, [1], .null, []) := rfl
theorem cd263_184 : code9 263 184 = some (0, .iadd, [1], .null, []) := rfl
theorem cd263_185 : code9 263 185 = some (0, .iaload, [1], .null, []) := rfl
theorem cd263_186 : code9 263 186 = some (0, .iadd, [1], .null, []) := rfl
theorem cd263_187 : code9 263 187 = some (0, .aload_n 0, [1], .null, []) := rfl
theorem cd263_188 : code9 263 188 = some (0, .getfield 98, [3, 12, 14, 2], .null, []) := rfl
theorem cd263_191 : code9 263 191 = some (0, .bipush 70, [2], .int 70, []) := rfl
theorem cd263_193 : code9 263 193 = some (0, .aload_n 0, [1], .null, []) := rfl
theorem cd263_194 : code9 263 194 = some (0, .getfield 142, [3, 12, 32, 2], .null, []) := rfl
theorem cd263_197 : code9 263 197 = some (0, .iload 4, [2], .null, []) := rfl
theorem cd263_199 : code9 263 199 = some (0, .iaload, [1], .null, []) := rfl
theorem cd263_200 : code9 263 200 = some (0, .iadd, [1], .null, []) := rfl
theorem cd263_201 : code9 263 201 = some (0, .iaload, [1], .null, []) := rfl
theorem cd263_202 : code9 263 202 = some (0, .isub, [1], .null, []) := rfl
theorem cd263_203 : code9 263 203 = some (0, .istore 5, [2], .null, []) := rfl
theorem cd263_205 : code9 263 205 = some (0, .iload_n 2, [1], .null, []) := rfl
theorem cd263_206 : code9 263 206 = some (0, .iconst (-1), [1], .int (-1), []) := rfl
theorem cd263_207 : code9 263 207 = some (0, .if_icmp .eq 12, [3, 219], .null, []) := rfl
theorem cd263_210 : code9 263 210 = some (0, .iload 5, [2], .null, []) := rfl
theorem cd263_212 : code9 263 212 = some (0, .iload_n 2, [1], .null, []) := rfl
theorem cd263_213 : code9 263 213 = some (0, .if_icmp .lt 6, [3, 219], .null, []) := rfl
theorem cd263_216 : code9 263 216 = some (0, .goto 9, [3, 225, 6], .null, []) := rfl
theorem cd263_219 : code9 263 219 = some (7, .iload 5, [2], .null, []) := rfl
theorem cd263_221 : code9 263 221 = some (0, .istore_n 2, [1], .null, []) := rfl
theorem cd263_222 : code9 263 222 = some (0, .iload 4, [2], .null, []) := rfl
theorem cd263_224 : code9 263 224 = some (0, .istore_n 3, [1], .null, []) := rfl
theorem cd263_225 : code9 263 225 = some (7, .iinc 4 1, [3], .int 1, []) := rfl
theorem cd263_228 : code9 263 228 = some (0, .goto (-96), [3, 132, 5], .null, []) := rfl
theorem cd263_231 : code9 263 231 = some (0, .aload_n 0, [1], .null, []) := rfl
theorem cd263_232 : code9 263 232 = some (0, .iconst 0, [1], .int 0, []) := rfl
theorem cd263_233 : code9 263 233 = some (0, .putfield 145, [3, 12, 33, 0], .null, []) := rfl
theorem cd263_236 : code9 263 236 = some (0, .iconst 0, [1], .int 0, []) := rfl
theorem cd263_237 : code9 263 237 = some (0, .istore 4, [2], .null, []) := rfl
theorem cd263_239 : code9 263 239 = some (6, .iload 4, [2], .null, []) := rfl
theorem cd263_241 : code9 263 241 = some (0, .iload_n 3, [1], .null, []) := rfl
theorem cd263_242 : code9 263 242 = some (0, .if_icmp .ge 27, [3, 269], .null, []) := rfl
theorem cd263_245 : code9 263 245 = some (0, .aload_n 0, [1], .null, []) := rfl
theorem cd263_246 : code9 263 246 = some (0, .dup, [1], .null, []) := rfl
theorem cd263_247 : code9 263 247 = some (0, .getfield 145, [3, 12, 33, 0], .null, []) := rfl
theorem cd263_250 : code9 263 250 = some (0, .iconst 1, [1], .int 1, []) := rfl
theorem cd263_251 : code9 263 251 = some (0, .aload_n 0, [1], .null, []) := rfl
theorem cd263_252 : code9 263 252 = some (0, .getfield 142, [3, 12, 32, 2], .null, []) := rfl
theorem cd263_255 : code9 263 255 = some (0, .iload 4, [2], .null, []) := rfl
theorem cd263_257 : code9 263 257 = some (0, .iaload, [1], .null, []) := rfl
theorem cd263_258 : code9 263 258 = some (0, .ishl, [1], .null, []) := rfl
theorem cd263_259 : code9 263 259 = some (0, .ior, [1], .null, []) := rfl
theorem cd263_260 : code9 263 260 = some (0, .putfield 145, [3, 12, 33, 0], .null, []) := rfl
theorem cd263_263 : code9 263 263 = some (0, .iinc 4 1, [3], .int 1, []) := rfl
theorem cd263_266 : code9 263 266 = some (0, .goto (-27), [3, 239, 5], .null, []) := rfl
theorem cd263_269 : code9 263 269 = some (0, .iload_n 2, [1], .null, []) := rfl
theorem cd263_270 : code9 263 270 = some (0, .ireturn, [1, 1], .null, []) := rfl
def Mod_pots_239 (N : Nat) : Nat → Int32 → Int32 → Int32 → Int32 → FI → Option (Int32 × FI)
  | 0 => fun _ _ _ _ _ => none
  | n + 1 => fun l1 l2 l3 l4 I => if l3 ≤ l4 then (some (l2, I)) else (if in9 l4 10 then (Option.bind (some (up2 I 204 33 ((I 204 33) ||| (1 <<< ((I 220 l4.toNatClampNeg) &&& 31))))) fun I4 => (Mod_pots_239 N n l1 l2 l3 (l4 + 1) I4)) else none)
def Mod_pots_132 (N : Nat) : Nat → Int32 → Int32 → Int32 → Int32 → FI → Option (Int32 × FI)
  | 0 => fun _ _ _ _ _ => none
  | n + 1 => fun l1 l2 l3 l4 I => if l1 ≤ l4 then (Option.bind (some (up2 I 204 33 (0 : Int32))) fun I2 => (Mod_pots_239 N N l1 l2 l3 0 I2)) else (if in9 (l4 - 1) 10 then (if in9 (70 + (I 220 ((l4 - 1).toNatClampNeg))) 451 then (if in9 (70 + (I 220 ((0 : Int32).toNatClampNeg))) 451 then (if in9 (l1 - 1) 10 then (if in9 (70 + (I 220 ((l1 - 1).toNatClampNeg))) 451 then (if in9 l4 10 then (if in9 (70 + (I 220 l4.toNatClampNeg)) 451 then (if l2 = (-1) then (Mod_pots_132 N n l1 ((((I 206 ((70 + (I 220 ((l4 - 1).toNatClampNeg))).toNatClampNeg)) - (I 206 ((70 + (I 220 ((0 : Int32).toNatClampNeg))).toNatClampNeg))) + (I 206 ((70 + (I 220 ((l1 - 1).toNatClampNeg))).toNatClampNeg))) - (I 206 ((70 + (I 220 l4.toNatClampNeg)).toNatClampNeg))) l4 (l4 + 1) I) else (if ((((I 206 ((70 + (I 220 ((l4 - 1).toNatClampNeg))).toNatClampNeg)) - (I 206 ((70 + (I 220 ((0 : Int32).toNatClampNeg))).toNatClampNeg))) + (I 206 ((70 + (I 220 ((l1 - 1).toNatClampNeg))).toNatClampNeg))) - (I 206 ((70 + (I 220 l4.toNatClampNeg)).toNatClampNeg))) < l2 then (Mod_pots_132 N n l1 ((((I 206 ((70 + (I 220 ((l4 - 1).toNatClampNeg))).toNatClampNeg)) - (I 206 ((70 + (I 220 ((0 : Int32).toNatClampNeg))).toNatClampNeg))) + (I 206 ((70 + (I 220 ((l1 - 1).toNatClampNeg))).toNatClampNeg))) - (I 206 ((70 + (I 220 l4.toNatClampNeg)).toNatClampNeg))) l4 (l4 + 1) I) else (Mod_pots_132 N n l1 l2 l3 (l4 + 1) I))) else none) else none) else none) else none) else none) else none) else none)
def Mod_pots_50 (N : Nat) (K : Int32 → Int32 → FI → Option (Int32 × FI)) : Nat → Int32 → Int32 → Int32 → FI → Option (Int32 × FI)
  | 0 => fun _ _ _ _ => none
  | n + 1 => fun l1 l2 l3 I => if l3 ≤ 0 then (if in9 l3 10 then (Option.bind (some (up2 I 220 l3.toNatClampNeg l2)) fun I15 => (K (l1 + 1) (l2 + 1) I15)) else none) else (if in9 (l3 - 1) 10 then (if in9 (70 + (I 220 ((l3 - 1).toNatClampNeg))) 451 then (if in9 (70 + l2) 451 then (if (I 206 ((70 + (I 220 ((l3 - 1).toNatClampNeg))).toNatClampNeg)) ≤ (I 206 ((70 + l2).toNatClampNeg)) then (if in9 l3 10 then (Option.bind (some (up2 I 220 l3.toNatClampNeg l2)) fun I20 => (K (l1 + 1) (l2 + 1) I20)) else none) else (if in9 l3 10 then (Option.bind (some (up2 I 220 l3.toNatClampNeg (I 220 ((l3 - 1).toNatClampNeg)))) fun I22 => (Mod_pots_50 N K n l1 l2 (l3 + (-1)) I22)) else none)) else none) else none) else none)
def Mod_pots_9 (N : Nat) : Nat → Int32 → Int32 → FI → Option (Int32 × FI)
  | 0 => fun _ _ _ => none
  | n + 1 => fun l1 l2 I => if (I 206 ((1 : Int32).toNatClampNeg)) ≤ l2 then (if 2 ≤ l1 then (Mod_pots_132 N N l1 (-1) 0 1 I) else (some ((-1), I))) else (if in9 (135 + l2) 451 then (if (I 206 ((135 + l2).toNatClampNeg)) = 2 then (if in9 (30 + l2) 451 then (if (I 206 ((30 + l2).toNatClampNeg)) = 0 then (Mod_pots_50 N (fun x1 x2 I => Mod_pots_9 N n x1 x2 I) N l1 l2 l1 I) else (Mod_pots_9 N n l1 (l2 + 1) I)) else none) else (Mod_pots_9 N n l1 (l2 + 1) I)) else none)
def Mod_pots (N : Nat) (I : FI) : Option (Int32 × FI) := Option.bind (some (up2 I 204 0 (0 : Int32))) fun I1 => (Mod_pots_9 N N 0 0 I1)
set_option maxRecDepth 8000 in
theorem t_Mod_pots_239 {d : Nat} {N : Nat} {c : Nat × Nat} {S : Nat → Nat × Nat} {P : Nat → Nat → Option Nat} {r : Int32 × FI} (hd : 0 ≤ d) (hw : OM S P) : ∀ (n : Nat) (l1 : Int32) (l2 : Int32) (l3 : Int32) (l4 : Int32) (I : FI) (J : FJ), Mod_pots_239 N n l1 l2 l3 l4 I = some r → Go d M_Mod_pots 239 [some (.ref 204), some (.int l1), some (.int l2), some (.int l3), some (.int l4), none] [] (c, S, I, J, P) (some (.int r.1), false, (c, S, r.2, J, P)) := by
  intro n
  induction n with
  | zero =>
    intro l1 l2 l3 l4 I J h
    cases h
  | succ n ih =>
    intro l1 l2 l3 l4 I J h
    unfold Mod_pots_239 at h
    refine g_iload cd263_239 rfl rfl ?_
    refine g_iload_n cd263_241 rfl rfl ?_
    refine g_icmp_ge cd263_242 rfl (fun hb => ?_) (fun hb => ?_)
    · have h := ifpE hb h
      refine g_iload_n cd263_269 rfl rfl ?_
      exact g_iret cd263_270 (Or.inl rfl) (by obtain rfl := Option.some.inj h; rfl)
    · have h := ifnE hb h
      refine g_aload_n cd263_245 rfl rfl ?_
      refine g_dupR cd263_246 rfl ?_
      refine g_getI cd263_247 rfl (OM.o hw) ?_
      refine g_iconst cd263_250 rfl ?_
      refine g_aload_n cd263_251 rfl rfl ?_
      refine g_getP cd263_252 rfl (OM.o hw) (OM.p32 hw) ?_
      refine g_iload cd263_255 rfl rfl ?_
      obtain ⟨hg3, h⟩ := grd h
      refine G_iald cd263_257 rfl (OM.s32 hw) hg3 ?_
      refine g_ishl cd263_258 rfl ?_
      refine g_ior cd263_259 rfl ?_
      obtain ⟨I4, e1, h⟩ := bnd h
      refine G_putI cd263_260 rfl (OM.o hw) (Option.some.inj e1) ?_
      refine g_iinc (ls2 := [some (.ref 204), some (.int l1), some (.int l2), some (.int l3), some (.int (l4 + 1)), none]) cd263_263 rfl rfl rfl ?_
      refine g_goto (ls2 := [some (.ref 204), some (.int l1), some (.int l2), some (.int l3), some (.int (l4 + 1)), none]) cd263_266 rfl rfl ?_
      exact ih l1 l2 l3 (l4 + 1) I4 J h
set_option maxRecDepth 8000 in
theorem t_Mod_pots_132 {d : Nat} {N : Nat} {c : Nat × Nat} {S : Nat → Nat × Nat} {P : Nat → Nat → Option Nat} {r : Int32 × FI} (hd : 0 ≤ d) (hw : OM S P) : ∀ (n : Nat) (l1 : Int32) (l2 : Int32) (l3 : Int32) (l4 : Int32) (I : FI) (J : FJ), Mod_pots_132 N n l1 l2 l3 l4 I = some r → Go d M_Mod_pots 132 [some (.ref 204), some (.int l1), some (.int l2), some (.int l3), some (.int l4), none] [] (c, S, I, J, P) (some (.int r.1), false, (c, S, r.2, J, P)) := by
  intro n
  induction n with
  | zero =>
    intro l1 l2 l3 l4 I J h
    cases h
  | succ n ih =>
    intro l1 l2 l3 l4 I J h
    unfold Mod_pots_132 at h
    refine g_iload cd263_132 rfl rfl ?_
    refine g_iload_n cd263_134 rfl rfl ?_
    refine g_icmp_ge cd263_135 rfl (fun hb => ?_) (fun hb => ?_)
    · have h := ifpE hb h
      refine g_aload_n cd263_231 rfl rfl ?_
      refine g_iconst cd263_232 rfl ?_
      obtain ⟨I2, e1, h⟩ := bnd h
      refine G_putI cd263_233 rfl (OM.o hw) (Option.some.inj e1) ?_
      refine g_iconst cd263_236 rfl ?_
      refine g_istore (ls2 := [some (.ref 204), some (.int l1), some (.int l2), some (.int l3), some (.int 0), none]) cd263_237 rfl rfl ?_
      exact t_Mod_pots_239 hd hw _ l1 l2 l3 0 I2 J h
    · have h := ifnE hb h
      refine g_aload_n cd263_138 rfl rfl ?_
      refine g_getP cd263_139 rfl (OM.o hw) (OM.p14 hw) ?_
      refine g_bipush cd263_142 rfl ?_
      refine g_aload_n cd263_144 rfl rfl ?_
      refine g_getP cd263_145 rfl (OM.o hw) (OM.p32 hw) ?_
      refine g_iload cd263_148 rfl rfl ?_
      refine g_iconst cd263_150 rfl ?_
      refine g_isub cd263_151 rfl ?_
      obtain ⟨hg5, h⟩ := grd h
      refine G_iald cd263_152 rfl (OM.s32 hw) hg5 ?_
      refine g_iadd cd263_153 rfl ?_
      obtain ⟨hg6, h⟩ := grd h
      refine G_iald cd263_154 rfl (OM.s14 hw) hg6 ?_
      refine g_aload_n cd263_155 rfl rfl ?_
      refine g_getP cd263_156 rfl (OM.o hw) (OM.p14 hw) ?_
      refine g_bipush cd263_159 rfl ?_
      refine g_aload_n cd263_161 rfl rfl ?_
      refine g_getP cd263_162 rfl (OM.o hw) (OM.p32 hw) ?_
      refine g_iconst cd263_165 rfl ?_
      refine G_iald cd263_166 rfl (OM.s32 hw) (by decide) ?_
      refine g_iadd cd263_167 rfl ?_
      obtain ⟨hg7, h⟩ := grd h
      refine G_iald cd263_168 rfl (OM.s14 hw) hg7 ?_
      refine g_isub cd263_169 rfl ?_
      refine g_aload_n cd263_170 rfl rfl ?_
      refine g_getP cd263_171 rfl (OM.o hw) (OM.p14 hw) ?_
      refine g_bipush cd263_174 rfl ?_
      refine g_aload_n cd263_176 rfl rfl ?_
      refine g_getP cd263_177 rfl (OM.o hw) (OM.p32 hw) ?_
      refine g_iload_n cd263_180 rfl rfl ?_
      refine g_iconst cd263_181 rfl ?_
      refine g_isub cd263_182 rfl ?_
      obtain ⟨hg8, h⟩ := grd h
      refine G_iald cd263_183 rfl (OM.s32 hw) hg8 ?_
      refine g_iadd cd263_184 rfl ?_
      obtain ⟨hg9, h⟩ := grd h
      refine G_iald cd263_185 rfl (OM.s14 hw) hg9 ?_
      refine g_iadd cd263_186 rfl ?_
      refine g_aload_n cd263_187 rfl rfl ?_
      refine g_getP cd263_188 rfl (OM.o hw) (OM.p14 hw) ?_
      refine g_bipush cd263_191 rfl ?_
      refine g_aload_n cd263_193 rfl rfl ?_
      refine g_getP cd263_194 rfl (OM.o hw) (OM.p32 hw) ?_
      refine g_iload cd263_197 rfl rfl ?_
      obtain ⟨hg10, h⟩ := grd h
      refine G_iald cd263_199 rfl (OM.s32 hw) hg10 ?_
      refine g_iadd cd263_200 rfl ?_
      obtain ⟨hg11, h⟩ := grd h
      refine G_iald cd263_201 rfl (OM.s14 hw) hg11 ?_
      refine g_isub cd263_202 rfl ?_
      refine g_istore (ls2 := [some (.ref 204), some (.int l1), some (.int l2), some (.int l3), some (.int l4), some (.int ((((I 206 ((70 + (I 220 ((l4 - 1).toNatClampNeg))).toNatClampNeg)) - (I 206 ((70 + (I 220 ((0 : Int32).toNatClampNeg))).toNatClampNeg))) + (I 206 ((70 + (I 220 ((l1 - 1).toNatClampNeg))).toNatClampNeg))) - (I 206 ((70 + (I 220 l4.toNatClampNeg)).toNatClampNeg))))]) cd263_203 rfl rfl ?_
      refine g_iload_n cd263_205 rfl rfl ?_
      refine g_iconst cd263_206 rfl ?_
      refine g_icmp_eq cd263_207 rfl (fun hb => ?_) (fun hb => ?_)
      · have h := ifpE hb h
        refine g_iload cd263_219 rfl rfl ?_
        refine g_istore_n (ls2 := [some (.ref 204), some (.int l1), some (.int ((((I 206 ((70 + (I 220 ((l4 - 1).toNatClampNeg))).toNatClampNeg)) - (I 206 ((70 + (I 220 ((0 : Int32).toNatClampNeg))).toNatClampNeg))) + (I 206 ((70 + (I 220 ((l1 - 1).toNatClampNeg))).toNatClampNeg))) - (I 206 ((70 + (I 220 l4.toNatClampNeg)).toNatClampNeg)))), some (.int l3), some (.int l4), some (.int ((((I 206 ((70 + (I 220 ((l4 - 1).toNatClampNeg))).toNatClampNeg)) - (I 206 ((70 + (I 220 ((0 : Int32).toNatClampNeg))).toNatClampNeg))) + (I 206 ((70 + (I 220 ((l1 - 1).toNatClampNeg))).toNatClampNeg))) - (I 206 ((70 + (I 220 l4.toNatClampNeg)).toNatClampNeg))))]) cd263_221 rfl rfl ?_
        refine g_iload cd263_222 rfl rfl ?_
        refine g_istore_n (ls2 := [some (.ref 204), some (.int l1), some (.int ((((I 206 ((70 + (I 220 ((l4 - 1).toNatClampNeg))).toNatClampNeg)) - (I 206 ((70 + (I 220 ((0 : Int32).toNatClampNeg))).toNatClampNeg))) + (I 206 ((70 + (I 220 ((l1 - 1).toNatClampNeg))).toNatClampNeg))) - (I 206 ((70 + (I 220 l4.toNatClampNeg)).toNatClampNeg)))), some (.int l4), some (.int l4), some (.int ((((I 206 ((70 + (I 220 ((l4 - 1).toNatClampNeg))).toNatClampNeg)) - (I 206 ((70 + (I 220 ((0 : Int32).toNatClampNeg))).toNatClampNeg))) + (I 206 ((70 + (I 220 ((l1 - 1).toNatClampNeg))).toNatClampNeg))) - (I 206 ((70 + (I 220 l4.toNatClampNeg)).toNatClampNeg))))]) cd263_224 rfl rfl ?_
        refine g_iinc (ls2 := [some (.ref 204), some (.int l1), some (.int ((((I 206 ((70 + (I 220 ((l4 - 1).toNatClampNeg))).toNatClampNeg)) - (I 206 ((70 + (I 220 ((0 : Int32).toNatClampNeg))).toNatClampNeg))) + (I 206 ((70 + (I 220 ((l1 - 1).toNatClampNeg))).toNatClampNeg))) - (I 206 ((70 + (I 220 l4.toNatClampNeg)).toNatClampNeg)))), some (.int l4), some (.int (l4 + 1)), some (.int ((((I 206 ((70 + (I 220 ((l4 - 1).toNatClampNeg))).toNatClampNeg)) - (I 206 ((70 + (I 220 ((0 : Int32).toNatClampNeg))).toNatClampNeg))) + (I 206 ((70 + (I 220 ((l1 - 1).toNatClampNeg))).toNatClampNeg))) - (I 206 ((70 + (I 220 l4.toNatClampNeg)).toNatClampNeg))))]) cd263_225 rfl rfl rfl ?_
        refine g_goto (ls2 := [some (.ref 204), some (.int l1), some (.int ((((I 206 ((70 + (I 220 ((l4 - 1).toNatClampNeg))).toNatClampNeg)) - (I 206 ((70 + (I 220 ((0 : Int32).toNatClampNeg))).toNatClampNeg))) + (I 206 ((70 + (I 220 ((l1 - 1).toNatClampNeg))).toNatClampNeg))) - (I 206 ((70 + (I 220 l4.toNatClampNeg)).toNatClampNeg)))), some (.int l4), some (.int (l4 + 1)), none]) cd263_228 rfl rfl ?_
        exact ih l1 ((((I 206 ((70 + (I 220 ((l4 - 1).toNatClampNeg))).toNatClampNeg)) - (I 206 ((70 + (I 220 ((0 : Int32).toNatClampNeg))).toNatClampNeg))) + (I 206 ((70 + (I 220 ((l1 - 1).toNatClampNeg))).toNatClampNeg))) - (I 206 ((70 + (I 220 l4.toNatClampNeg)).toNatClampNeg))) l4 (l4 + 1) I J h
      · have h := ifnE hb h
        refine g_iload cd263_210 rfl rfl ?_
        refine g_iload_n cd263_212 rfl rfl ?_
        refine g_icmp_lt cd263_213 rfl (fun hb => ?_) (fun hb => ?_)
        · have h := ifpE hb h
          refine g_iload cd263_219 rfl rfl ?_
          refine g_istore_n (ls2 := [some (.ref 204), some (.int l1), some (.int ((((I 206 ((70 + (I 220 ((l4 - 1).toNatClampNeg))).toNatClampNeg)) - (I 206 ((70 + (I 220 ((0 : Int32).toNatClampNeg))).toNatClampNeg))) + (I 206 ((70 + (I 220 ((l1 - 1).toNatClampNeg))).toNatClampNeg))) - (I 206 ((70 + (I 220 l4.toNatClampNeg)).toNatClampNeg)))), some (.int l3), some (.int l4), some (.int ((((I 206 ((70 + (I 220 ((l4 - 1).toNatClampNeg))).toNatClampNeg)) - (I 206 ((70 + (I 220 ((0 : Int32).toNatClampNeg))).toNatClampNeg))) + (I 206 ((70 + (I 220 ((l1 - 1).toNatClampNeg))).toNatClampNeg))) - (I 206 ((70 + (I 220 l4.toNatClampNeg)).toNatClampNeg))))]) cd263_221 rfl rfl ?_
          refine g_iload cd263_222 rfl rfl ?_
          refine g_istore_n (ls2 := [some (.ref 204), some (.int l1), some (.int ((((I 206 ((70 + (I 220 ((l4 - 1).toNatClampNeg))).toNatClampNeg)) - (I 206 ((70 + (I 220 ((0 : Int32).toNatClampNeg))).toNatClampNeg))) + (I 206 ((70 + (I 220 ((l1 - 1).toNatClampNeg))).toNatClampNeg))) - (I 206 ((70 + (I 220 l4.toNatClampNeg)).toNatClampNeg)))), some (.int l4), some (.int l4), some (.int ((((I 206 ((70 + (I 220 ((l4 - 1).toNatClampNeg))).toNatClampNeg)) - (I 206 ((70 + (I 220 ((0 : Int32).toNatClampNeg))).toNatClampNeg))) + (I 206 ((70 + (I 220 ((l1 - 1).toNatClampNeg))).toNatClampNeg))) - (I 206 ((70 + (I 220 l4.toNatClampNeg)).toNatClampNeg))))]) cd263_224 rfl rfl ?_
          refine g_iinc (ls2 := [some (.ref 204), some (.int l1), some (.int ((((I 206 ((70 + (I 220 ((l4 - 1).toNatClampNeg))).toNatClampNeg)) - (I 206 ((70 + (I 220 ((0 : Int32).toNatClampNeg))).toNatClampNeg))) + (I 206 ((70 + (I 220 ((l1 - 1).toNatClampNeg))).toNatClampNeg))) - (I 206 ((70 + (I 220 l4.toNatClampNeg)).toNatClampNeg)))), some (.int l4), some (.int (l4 + 1)), some (.int ((((I 206 ((70 + (I 220 ((l4 - 1).toNatClampNeg))).toNatClampNeg)) - (I 206 ((70 + (I 220 ((0 : Int32).toNatClampNeg))).toNatClampNeg))) + (I 206 ((70 + (I 220 ((l1 - 1).toNatClampNeg))).toNatClampNeg))) - (I 206 ((70 + (I 220 l4.toNatClampNeg)).toNatClampNeg))))]) cd263_225 rfl rfl rfl ?_
          refine g_goto (ls2 := [some (.ref 204), some (.int l1), some (.int ((((I 206 ((70 + (I 220 ((l4 - 1).toNatClampNeg))).toNatClampNeg)) - (I 206 ((70 + (I 220 ((0 : Int32).toNatClampNeg))).toNatClampNeg))) + (I 206 ((70 + (I 220 ((l1 - 1).toNatClampNeg))).toNatClampNeg))) - (I 206 ((70 + (I 220 l4.toNatClampNeg)).toNatClampNeg)))), some (.int l4), some (.int (l4 + 1)), none]) cd263_228 rfl rfl ?_
          exact ih l1 ((((I 206 ((70 + (I 220 ((l4 - 1).toNatClampNeg))).toNatClampNeg)) - (I 206 ((70 + (I 220 ((0 : Int32).toNatClampNeg))).toNatClampNeg))) + (I 206 ((70 + (I 220 ((l1 - 1).toNatClampNeg))).toNatClampNeg))) - (I 206 ((70 + (I 220 l4.toNatClampNeg)).toNatClampNeg))) l4 (l4 + 1) I J h
        · have h := ifnE hb h
          refine g_goto (ls2 := [some (.ref 204), some (.int l1), some (.int l2), some (.int l3), some (.int l4), some (.int ((((I 206 ((70 + (I 220 ((l4 - 1).toNatClampNeg))).toNatClampNeg)) - (I 206 ((70 + (I 220 ((0 : Int32).toNatClampNeg))).toNatClampNeg))) + (I 206 ((70 + (I 220 ((l1 - 1).toNatClampNeg))).toNatClampNeg))) - (I 206 ((70 + (I 220 l4.toNatClampNeg)).toNatClampNeg))))]) cd263_216 rfl rfl ?_
          refine g_iinc (ls2 := [some (.ref 204), some (.int l1), some (.int l2), some (.int l3), some (.int (l4 + 1)), some (.int ((((I 206 ((70 + (I 220 ((l4 - 1).toNatClampNeg))).toNatClampNeg)) - (I 206 ((70 + (I 220 ((0 : Int32).toNatClampNeg))).toNatClampNeg))) + (I 206 ((70 + (I 220 ((l1 - 1).toNatClampNeg))).toNatClampNeg))) - (I 206 ((70 + (I 220 l4.toNatClampNeg)).toNatClampNeg))))]) cd263_225 rfl rfl rfl ?_
          refine g_goto (ls2 := [some (.ref 204), some (.int l1), some (.int l2), some (.int l3), some (.int (l4 + 1)), none]) cd263_228 rfl rfl ?_
          exact ih l1 l2 l3 (l4 + 1) I J h
set_option maxRecDepth 8000 in
theorem t_Mod_pots_50 {d : Nat} {N : Nat} {c : Nat × Nat} {S : Nat → Nat × Nat} {P : Nat → Nat → Option Nat} {K : Int32 → Int32 → FI → Option (Int32 × FI)} {r : Int32 × FI} (hd : 0 ≤ d) (hw : OM S P) (hK : ∀ (x1 : Int32) (x2 : Int32) (I : FI) (J : FJ), K x1 x2 I = some r → Go d M_Mod_pots 9 [some (.ref 204), some (.int x1), some (.int x2), none, none, none] [] (c, S, I, J, P) (some (.int r.1), false, (c, S, r.2, J, P))) : ∀ (n : Nat) (l1 : Int32) (l2 : Int32) (l3 : Int32) (I : FI) (J : FJ), Mod_pots_50 N K n l1 l2 l3 I = some r → Go d M_Mod_pots 50 [some (.ref 204), some (.int l1), some (.int l2), some (.int l3), none, none] [] (c, S, I, J, P) (some (.int r.1), false, (c, S, r.2, J, P)) := by
  intro n
  induction n with
  | zero =>
    intro l1 l2 l3 I J h
    cases h
  | succ n ih =>
    intro l1 l2 l3 I J h
    unfold Mod_pots_50 at h
    refine g_iload_n cd263_50 rfl rfl ?_
    refine g_if_le cd263_51 rfl (fun hb => ?_) (fun hb => ?_)
    · have h := ifpE hb h
      refine g_aload_n cd263_102 rfl rfl ?_
      refine g_getP cd263_103 rfl (OM.o hw) (OM.p32 hw) ?_
      refine g_iload_n cd263_106 rfl rfl ?_
      refine g_iload_n cd263_107 rfl rfl ?_
      obtain ⟨hg14, h⟩ := grd h
      obtain ⟨I15, e1, h⟩ := bnd h
      refine G_iast cd263_108 rfl (OM.s32 hw) hg14 (Option.some.inj e1) ?_
      refine g_iinc (ls2 := [some (.ref 204), some (.int (l1 + 1)), some (.int l2), some (.int l3), none, none]) cd263_109 rfl rfl rfl ?_
      refine go_cut (k := 0) (ls' := [some (.ref 204), some (.int (l1 + 1)), some (.int l2), none, none, none]) cd263_112 rfl ?_
      refine g_iinc (ls2 := [some (.ref 204), some (.int (l1 + 1)), some (.int (l2 + 1)), none, none, none]) cd263_112 rfl rfl rfl ?_
      refine g_goto (ls2 := [some (.ref 204), some (.int (l1 + 1)), some (.int (l2 + 1)), none, none, none]) cd263_115 rfl rfl ?_
      exact hK (l1 + 1) (l2 + 1) I15 J h
    · have h := ifnE hb h
      refine g_aload_n cd263_54 rfl rfl ?_
      refine g_getP cd263_55 rfl (OM.o hw) (OM.p14 hw) ?_
      refine g_bipush cd263_58 rfl ?_
      refine g_aload_n cd263_60 rfl rfl ?_
      refine g_getP cd263_61 rfl (OM.o hw) (OM.p32 hw) ?_
      refine g_iload_n cd263_64 rfl rfl ?_
      refine g_iconst cd263_65 rfl ?_
      refine g_isub cd263_66 rfl ?_
      obtain ⟨hg16, h⟩ := grd h
      refine G_iald cd263_67 rfl (OM.s32 hw) hg16 ?_
      refine g_iadd cd263_68 rfl ?_
      obtain ⟨hg17, h⟩ := grd h
      refine G_iald cd263_69 rfl (OM.s14 hw) hg17 ?_
      refine g_aload_n cd263_70 rfl rfl ?_
      refine g_getP cd263_71 rfl (OM.o hw) (OM.p14 hw) ?_
      refine g_bipush cd263_74 rfl ?_
      refine g_iload_n cd263_76 rfl rfl ?_
      refine g_iadd cd263_77 rfl ?_
      obtain ⟨hg18, h⟩ := grd h
      refine G_iald cd263_78 rfl (OM.s14 hw) hg18 ?_
      refine g_icmp_le cd263_79 rfl (fun hb => ?_) (fun hb => ?_)
      · have h := ifpE hb h
        refine g_aload_n cd263_102 rfl rfl ?_
        refine g_getP cd263_103 rfl (OM.o hw) (OM.p32 hw) ?_
        refine g_iload_n cd263_106 rfl rfl ?_
        refine g_iload_n cd263_107 rfl rfl ?_
        obtain ⟨hg19, h⟩ := grd h
        obtain ⟨I20, e1, h⟩ := bnd h
        refine G_iast cd263_108 rfl (OM.s32 hw) hg19 (Option.some.inj e1) ?_
        refine g_iinc (ls2 := [some (.ref 204), some (.int (l1 + 1)), some (.int l2), some (.int l3), none, none]) cd263_109 rfl rfl rfl ?_
        refine go_cut (k := 0) (ls' := [some (.ref 204), some (.int (l1 + 1)), some (.int l2), none, none, none]) cd263_112 rfl ?_
        refine g_iinc (ls2 := [some (.ref 204), some (.int (l1 + 1)), some (.int (l2 + 1)), none, none, none]) cd263_112 rfl rfl rfl ?_
        refine g_goto (ls2 := [some (.ref 204), some (.int (l1 + 1)), some (.int (l2 + 1)), none, none, none]) cd263_115 rfl rfl ?_
        exact hK (l1 + 1) (l2 + 1) I20 J h
      · have h := ifnE hb h
        refine g_aload_n cd263_82 rfl rfl ?_
        refine g_getP cd263_83 rfl (OM.o hw) (OM.p32 hw) ?_
        refine g_iload_n cd263_86 rfl rfl ?_
        refine g_aload_n cd263_87 rfl rfl ?_
        refine g_getP cd263_88 rfl (OM.o hw) (OM.p32 hw) ?_
        refine g_iload_n cd263_91 rfl rfl ?_
        refine g_iconst cd263_92 rfl ?_
        refine g_isub cd263_93 rfl ?_
        refine G_iald cd263_94 rfl (OM.s32 hw) hg16 ?_
        obtain ⟨hg21, h⟩ := grd h
        obtain ⟨I22, e1, h⟩ := bnd h
        refine G_iast cd263_95 rfl (OM.s32 hw) hg21 (Option.some.inj e1) ?_
        refine g_iinc (ls2 := [some (.ref 204), some (.int l1), some (.int l2), some (.int (l3 + (-1))), none, none]) cd263_96 rfl rfl rfl ?_
        refine g_goto (ls2 := [some (.ref 204), some (.int l1), some (.int l2), some (.int (l3 + (-1))), none, none]) cd263_99 rfl rfl ?_
        exact ih l1 l2 (l3 + (-1)) I22 J h
set_option maxRecDepth 8000 in
theorem t_Mod_pots_9 {d : Nat} {N : Nat} {c : Nat × Nat} {S : Nat → Nat × Nat} {P : Nat → Nat → Option Nat} {r : Int32 × FI} (hd : 0 ≤ d) (hw : OM S P) : ∀ (n : Nat) (l1 : Int32) (l2 : Int32) (I : FI) (J : FJ), Mod_pots_9 N n l1 l2 I = some r → Go d M_Mod_pots 9 [some (.ref 204), some (.int l1), some (.int l2), none, none, none] [] (c, S, I, J, P) (some (.int r.1), false, (c, S, r.2, J, P)) := by
  intro n
  induction n with
  | zero =>
    intro l1 l2 I J h
    cases h
  | succ n ih =>
    intro l1 l2 I J h
    unfold Mod_pots_9 at h
    refine g_iload_n cd263_9 rfl rfl ?_
    refine g_aload_n cd263_10 rfl rfl ?_
    refine g_getP cd263_11 rfl (OM.o hw) (OM.p14 hw) ?_
    refine g_iconst cd263_14 rfl ?_
    refine G_iald cd263_15 rfl (OM.s14 hw) (by decide) ?_
    refine g_icmp_ge cd263_16 rfl (fun hb => ?_) (fun hb => ?_)
    · have h := ifpE hb h
      refine g_iload_n cd263_118 rfl rfl ?_
      refine g_iconst cd263_119 rfl ?_
      refine g_icmp_ge cd263_120 rfl (fun hb => ?_) (fun hb => ?_)
      · have h := ifpE hb h
        refine g_iconst cd263_125 rfl ?_
        refine g_istore_n (ls2 := [some (.ref 204), some (.int l1), some (.int (-1)), none, none, none]) cd263_126 rfl rfl ?_
        refine g_iconst cd263_127 rfl ?_
        refine g_istore_n (ls2 := [some (.ref 204), some (.int l1), some (.int (-1)), some (.int 0), none, none]) cd263_128 rfl rfl ?_
        refine g_iconst cd263_129 rfl ?_
        refine g_istore (ls2 := [some (.ref 204), some (.int l1), some (.int (-1)), some (.int 0), some (.int 1), none]) cd263_130 rfl rfl ?_
        exact t_Mod_pots_132 hd hw _ l1 (-1) 0 1 I J h
      · have h := ifnE hb h
        refine g_iconst cd263_123 rfl ?_
        exact g_iret cd263_124 (Or.inl rfl) (by obtain rfl := Option.some.inj h; rfl)
    · have h := ifnE hb h
      refine g_aload_n cd263_19 rfl rfl ?_
      refine g_getP cd263_20 rfl (OM.o hw) (OM.p14 hw) ?_
      refine g_sipush cd263_23 rfl ?_
      refine g_iload_n cd263_26 rfl rfl ?_
      refine g_iadd cd263_27 rfl ?_
      obtain ⟨hg12, h⟩ := grd h
      refine G_iald cd263_28 rfl (OM.s14 hw) hg12 ?_
      refine g_iconst cd263_29 rfl ?_
      refine g_icmp_ne cd263_30 rfl (fun hb => ?_) (fun hb => ?_)
      · have h := ifpE hb h
        refine g_aload_n cd263_33 rfl rfl ?_
        refine g_getP cd263_34 rfl (OM.o hw) (OM.p14 hw) ?_
        refine g_bipush cd263_37 rfl ?_
        refine g_iload_n cd263_39 rfl rfl ?_
        refine g_iadd cd263_40 rfl ?_
        obtain ⟨hg13, h⟩ := grd h
        refine G_iald cd263_41 rfl (OM.s14 hw) hg13 ?_
        refine g_if_eq cd263_42 rfl (fun hb => ?_) (fun hb => ?_)
        · have h := ifpE hb h
          refine g_iload_n cd263_48 rfl rfl ?_
          refine g_istore_n (ls2 := [some (.ref 204), some (.int l1), some (.int l2), some (.int l1), none, none]) cd263_49 rfl rfl ?_
          exact t_Mod_pots_50 hd hw (fun x1 x2 I J h => ih x1 x2 I J h) _ l1 l2 l1 I J h
        · have h := ifnE hb h
          refine g_goto (ls2 := [some (.ref 204), some (.int l1), some (.int l2), none, none, none]) cd263_45 rfl rfl ?_
          refine g_iinc (ls2 := [some (.ref 204), some (.int l1), some (.int (l2 + 1)), none, none, none]) cd263_112 rfl rfl rfl ?_
          refine g_goto (ls2 := [some (.ref 204), some (.int l1), some (.int (l2 + 1)), none, none, none]) cd263_115 rfl rfl ?_
          exact ih l1 (l2 + 1) I J h
      · have h := ifnE hb h
        refine g_iinc (ls2 := [some (.ref 204), some (.int l1), some (.int (l2 + 1)), none, none, none]) cd263_112 rfl rfl rfl ?_
        refine g_goto (ls2 := [some (.ref 204), some (.int l1), some (.int (l2 + 1)), none, none, none]) cd263_115 rfl rfl ?_
        exact ih l1 (l2 + 1) I J h
set_option maxRecDepth 8000 in
theorem t_Mod_pots {d : Nat} {N : Nat} {c : Nat × Nat} {S : Nat → Nat × Nat} {P : Nat → Nat → Option Nat} {I : FI} {J : FJ} {r : Int32 × FI} (hd : 0 ≤ d) (hw : OM S P) (h : Mod_pots N I = some r) : Go d M_Mod_pots 0 [some (.ref 204), none, none, none, none, none] [] (c, S, I, J, P) (some (.int r.1), false, (c, S, r.2, J, P)) := by
  unfold Mod_pots at h
  refine g_aload_n cd263_0 rfl rfl ?_
  refine g_iconst cd263_1 rfl ?_
  obtain ⟨I1, e1, h⟩ := bnd h
  refine G_putI cd263_2 rfl (OM.o hw) (Option.some.inj e1) ?_
  refine g_iconst cd263_5 rfl ?_
  refine g_istore_n (ls2 := [some (.ref 204), some (.int 0), none, none, none, none]) cd263_6 rfl rfl ?_
  refine g_iconst cd263_7 rfl ?_
  refine g_istore_n (ls2 := [some (.ref 204), some (.int 0), some (.int 0), none, none, none]) cd263_8 rfl rfl ?_
  exact t_Mod_pots_9 hd hw _ 0 0 I1 J h
/-! HiddenOrLostModel.early()I -/
theorem cd264_0 : code9 264 0 = some (0, .aload_n 0, [1], .null, []) := rfl
theorem cd264_1 : code9 264 1 = some (0, .iconst 0, [1], .int 0, []) := rfl
theorem cd264_2 : code9 264 2 = some (0, .putfield 1, [3, 12, 0, 0], .null, []) := rfl
theorem cd264_5 : code9 264 5 = some (0, .aload_n 0, [1], .null, []) := rfl
theorem cd264_6 : code9 264 6 = some (0, .getfield 145, [3, 12, 33, 0], .null, []) := rfl
theorem cd264_9 : code9 264 9 = some (0, .ireturn, [1, 1], .null, []) := rfl
def Mod_early (I : FI) : Option (Int32 × FI) := Option.bind (some (up2 I 204 0 (0 : Int32))) fun I1 => (some (I1 204 33, I1))
set_option maxRecDepth 8000 in
theorem t_Mod_early {d : Nat} {c : Nat × Nat} {S : Nat → Nat × Nat} {P : Nat → Nat → Option Nat} {I : FI} {J : FJ} {r : Int32 × FI} (hd : 0 ≤ d) (hw : OM S P) (h : Mod_early I = some r) : Go d M_Mod_early 0 [some (.ref 204)] [] (c, S, I, J, P) (some (.int r.1), false, (c, S, r.2, J, P)) := by
  unfold Mod_early at h
  refine g_aload_n cd264_0 rfl rfl ?_
  refine g_iconst cd264_1 rfl ?_
  obtain ⟨I1, e1, h⟩ := bnd h
  refine G_putI cd264_2 rfl (OM.o hw) (Option.some.inj e1) ?_
  refine g_aload_n cd264_5 rfl rfl ?_
  refine g_getI cd264_6 rfl (OM.o hw) ?_
  exact g_iret cd264_9 (Or.inl rfl) (by obtain rfl := Option.some.inj h; rfl)
/-! HiddenOrLostModel.parts()I -/
theorem cd265_0 : code9 265 0 = some (0, .aload_n 0, [1], .null, []) := rfl
theorem cd265_1 : code9 265 1 = some (0, .iconst 0, [1], .int 0, []) := rfl
theorem cd265_2 : code9 265 2 = some (0, .putfield 1, [3, 12, 0, 0], .null, []) := rfl
theorem cd265_5 : code9 265 5 = some (0, .aload_n 0, [1], .null, []) := rfl
theorem cd265_6 : code9 265 6 = some (0, .iconst 2, [1], .int 2, []) := rfl
theorem cd265_7 : code9 265 7 = some (0, .invokevirtual 261, [3, 219, 2, 1, 1, 4, 12, 0], .null, []) := rfl
theorem cd265_10 : code9 265 10 = some (0, .istore_n 1, [1], .null, []) := rfl
theorem cd265_11 : code9 265 11 = some (0, .aload_n 0, [1], .null, []) := rfl
theorem cd265_12 : code9 265 12 = some (0, .iload_n 1, [1], .null, []) := rfl
theorem cd265_13 : code9 265 13 = some (0, .invokevirtual 264, [3, 220, 2, 1, 1, 4, 12, 0], .null, []) := rfl
theorem cd265_16 : code9 265 16 = some (0, .istore_n 2, [1], .null, []) := rfl
theorem cd265_17 : code9 265 17 = some (0, .iconst (-1), [1], .int (-1), []) := rfl
theorem cd265_18 : code9 265 18 = some (0, .istore_n 3, [1], .null, []) := rfl
theorem cd265_19 : code9 265 19 = some (0, .iconst 0, [1], .int 0, []) := rfl
theorem cd265_20 : code9 265 20 = some (0, .istore 4, [2], .null, []) := rfl
theorem cd265_22 : code9 265 22 = some (6, .iload 4, [2], .null, []) := rfl
theorem cd265_24 : code9 265 24 = some (0, .iload_n 1, [1], .null, []) := rfl
theorem cd265_25 : code9 265 25 = some (0, .if_icmp .gt 59, [3, 84], .null, []) := rfl
theorem cd265_28 : code9 265 28 = some (0, .iload 4, [2], .null, []) := rfl
theorem cd265_30 : code9 265 30 = some (0, .iload_n 1, [1], .null, []) := rfl
theorem cd265_31 : code9 265 31 = some (0, .iconst (-1), [1], .int (-1), []) := rfl
theorem cd265_32 : code9 265 32 = some (0, .ixor, [1], .null, []) := rfl
theorem cd265_33 : code9 265 33 = some (0, .iand, [1], .null, []) := rfl
theorem cd265_34 : code9 265 34 = some (0, .ifCond .eq 6, [3, 40], .null, []) := rfl
theorem cd265_37 : code9 265 37 = some (0, .goto 41, [3, 78, 5], .null, []) := rfl
theorem cd265_40 : code9 265 40 = some (0, .iload_n 2, [1], .null, []) := rfl
theorem cd265_41 : code9 265 41 = some (0, .iconst 2, [1], .int 2, []) := rfl
theorem cd265_42 : code9 265 42 = some (0, .aload_n 0, [1], .null, []) := rfl
theorem cd265_43 : code9 265 43 = some (0, .iload 4, [2], .null, []) := rfl
theorem cd265_45 : code9 265 45 = some (0, .invokevirtual 264, [3, 220, 2, 1, 1, 4, 12, 0], .null, []) := rfl
theorem cd265_48 : code9 265 48 = some (0, .imul, [1], .null, []) := rfl
theorem cd265_49 : code9 265 49 = some (0, .isub, [1], .null, []) := rfl
theorem cd265_50 : code9 265 50 = some (0, .invokestatic 236, [3, 217, 1, 0, 1, 1, 12, 0], .null, []) := rfl
theorem cd265_53 : code9 265 53 = some (0, .istore 5, [2], .null, []) := rfl
theorem cd265_55 : code9 265 55 = some (0, .iload_n 3, [1], .null, []) := rfl
theorem cd265_56 : code9 265 56 = some (0, .iconst (-1), [1], .int (-1), []) := rfl
theorem cd265_57 : code9 265 57 = some (0, .if_icmp .eq 12, [3, 69], .null, []) := rfl
theorem cd265_60 : code9 265 60 = some (0, .iload 5, [2], .null, []) := rfl
theorem cd265_62 : code9 265 62 = some (0, .iload_n 3, [1], .null, []) := rfl
theorem cd265_63 : code9 265 63 = some (0, .if_icmp .lt 6, [3, 69], .null, []) := rfl
theorem cd265_66 : code9 265 66 = some (0, .goto 12, [3, 78, 5], .null, []) := rfl
theorem cd265_69 : code9 265 69 = some (7, .iload 5, [2], .null, []) := rfl
theorem cd265_71 : code9 265 71 = some (0, .istore_n 3, [1], .null, []) := rfl
theorem cd265_72 : code9 265 72 = some (0, .aload_n 0, [1], .null, []) := rfl
theorem cd265_73 : code9 265 73 = some (0, .iload 4, [2], .null, []) := rfl
theorem cd265_75 : code9 265 75 = some (0, .putfield 148, [3, 12, 34, 0], .null, []) := rfl
theorem cd265_78 : code9 265 78 = some (6, .iinc 4 1, [3], .int 1, []) := rfl
theorem cd265_81 : code9 265 81 = some (0, .goto (-59), [3, 22, 5], .null, []) := rfl
theorem cd265_84 : code9 265 84 = some (0, .iload_n 3, [1], .null, []) := rfl
theorem cd265_85 : code9 265 85 = some (0, .ireturn, [1, 1], .null, []) := rfl
def Mod_parts_22 (N : Nat) : Nat → Int32 → Int32 → Int32 → Int32 → FI → Option (Int32 × FI)
  | 0 => fun _ _ _ _ _ => none
  | n + 1 => fun l1 l2 l3 l4 I => if l1 < l4 then (some (l3, I)) else (if (l4 &&& (l1 ^^^ (-1))) = 0 then (Option.bind (Mod_valueOf N l4 I) fun x4 => (if l3 = (-1) then (Option.bind (some (up2 I 204 34 l4)) fun I5 => (Mod_parts_22 N n l1 l2 (Mod_size (l2 - (2 * x4))) (l4 + 1) I5)) else (if (Mod_size (l2 - (2 * x4))) < l3 then (Option.bind (some (up2 I 204 34 l4)) fun I6 => (Mod_parts_22 N n l1 l2 (Mod_size (l2 - (2 * x4))) (l4 + 1) I6)) else (Mod_parts_22 N n l1 l2 l3 (l4 + 1) I)))) else (Mod_parts_22 N n l1 l2 l3 (l4 + 1) I))
def Mod_parts (N : Nat) (I : FI) : Option (Int32 × FI) := Option.bind (some (up2 I 204 0 (0 : Int32))) fun I1 => (Option.bind (Mod_those N 2 I1) fun x2 => (Option.bind (Mod_valueOf N x2 I1) fun x3 => (Mod_parts_22 N N x2 x3 (-1) 0 I1)))
set_option maxRecDepth 8000 in
theorem t_Mod_parts_22 {d : Nat} {N : Nat} {c : Nat × Nat} {S : Nat → Nat × Nat} {P : Nat → Nat → Option Nat} {r : Int32 × FI} (hd : 2 ≤ (d + 1)) (hw : OM S P) : ∀ (n : Nat) (l1 : Int32) (l2 : Int32) (l3 : Int32) (l4 : Int32) (I : FI) (J : FJ), Mod_parts_22 N n l1 l2 l3 l4 I = some r → Go (d + 1) M_Mod_parts 22 [some (.ref 204), some (.int l1), some (.int l2), some (.int l3), some (.int l4), none] [] (c, S, I, J, P) (some (.int r.1), false, (c, S, r.2, J, P)) := by
  intro n
  induction n with
  | zero =>
    intro l1 l2 l3 l4 I J h
    cases h
  | succ n ih =>
    intro l1 l2 l3 l4 I J h
    unfold Mod_parts_22 at h
    refine g_iload cd265_22 rfl rfl ?_
    refine g_iload_n cd265_24 rfl rfl ?_
    refine g_icmp_gt cd265_25 rfl (fun hb => ?_) (fun hb => ?_)
    · have h := ifpE hb h
      refine g_iload_n cd265_84 rfl rfl ?_
      exact g_iret cd265_85 (Or.inl rfl) (by obtain rfl := Option.some.inj h; rfl)
    · have h := ifnE hb h
      refine g_iload cd265_28 rfl rfl ?_
      refine g_iload_n cd265_30 rfl rfl ?_
      refine g_iconst cd265_31 rfl ?_
      refine g_ixor cd265_32 rfl ?_
      refine g_iand cd265_33 rfl ?_
      refine g_if_eq cd265_34 rfl (fun hb => ?_) (fun hb => ?_)
      · have h := ifpE hb h
        refine g_iload_n cd265_40 rfl rfl ?_
        refine g_iconst cd265_41 rfl ?_
        refine g_aload_n cd265_42 rfl rfl ?_
        refine g_iload cd265_43 rfl rfl ?_
        obtain ⟨x4, hx, h⟩ := bnd h
        refine g_callVI (L := [some (.ref 204), some (.int l4), none, none]) cd265_45 rfl rfl rfl rfl rfl (OM.o hw) (t_Mod_valueOf (by omega) hw hx) ?_
        refine g_imul cd265_48 rfl ?_
        refine g_isub cd265_49 rfl ?_
        refine g_callSI (L := [some (.int (l2 - (2 * x4)))]) cd265_50 rfl rfl rfl rfl rfl (t_Mod_size (by omega)  rfl) ?_
        refine g_istore (ls2 := [some (.ref 204), some (.int l1), some (.int l2), some (.int l3), some (.int l4), some (.int (Mod_size (l2 - (2 * x4))))]) cd265_53 rfl rfl ?_
        refine g_iload_n cd265_55 rfl rfl ?_
        refine g_iconst cd265_56 rfl ?_
        refine g_icmp_eq cd265_57 rfl (fun hb => ?_) (fun hb => ?_)
        · have h := ifpE hb h
          refine g_iload cd265_69 rfl rfl ?_
          refine g_istore_n (ls2 := [some (.ref 204), some (.int l1), some (.int l2), some (.int (Mod_size (l2 - (2 * x4)))), some (.int l4), some (.int (Mod_size (l2 - (2 * x4))))]) cd265_71 rfl rfl ?_
          refine g_aload_n cd265_72 rfl rfl ?_
          refine g_iload cd265_73 rfl rfl ?_
          obtain ⟨I5, e1, h⟩ := bnd h
          refine G_putI cd265_75 rfl (OM.o hw) (Option.some.inj e1) ?_
          refine go_cut (k := 0) (ls' := [some (.ref 204), some (.int l1), some (.int l2), some (.int (Mod_size (l2 - (2 * x4)))), some (.int l4), none]) cd265_78 rfl ?_
          refine g_iinc (ls2 := [some (.ref 204), some (.int l1), some (.int l2), some (.int (Mod_size (l2 - (2 * x4)))), some (.int (l4 + 1)), none]) cd265_78 rfl rfl rfl ?_
          refine g_goto (ls2 := [some (.ref 204), some (.int l1), some (.int l2), some (.int (Mod_size (l2 - (2 * x4)))), some (.int (l4 + 1)), none]) cd265_81 rfl rfl ?_
          exact ih l1 l2 (Mod_size (l2 - (2 * x4))) (l4 + 1) I5 J h
        · have h := ifnE hb h
          refine g_iload cd265_60 rfl rfl ?_
          refine g_iload_n cd265_62 rfl rfl ?_
          refine g_icmp_lt cd265_63 rfl (fun hb => ?_) (fun hb => ?_)
          · have h := ifpE hb h
            refine g_iload cd265_69 rfl rfl ?_
            refine g_istore_n (ls2 := [some (.ref 204), some (.int l1), some (.int l2), some (.int (Mod_size (l2 - (2 * x4)))), some (.int l4), some (.int (Mod_size (l2 - (2 * x4))))]) cd265_71 rfl rfl ?_
            refine g_aload_n cd265_72 rfl rfl ?_
            refine g_iload cd265_73 rfl rfl ?_
            obtain ⟨I6, e1, h⟩ := bnd h
            refine G_putI cd265_75 rfl (OM.o hw) (Option.some.inj e1) ?_
            refine go_cut (k := 0) (ls' := [some (.ref 204), some (.int l1), some (.int l2), some (.int (Mod_size (l2 - (2 * x4)))), some (.int l4), none]) cd265_78 rfl ?_
            refine g_iinc (ls2 := [some (.ref 204), some (.int l1), some (.int l2), some (.int (Mod_size (l2 - (2 * x4)))), some (.int (l4 + 1)), none]) cd265_78 rfl rfl rfl ?_
            refine g_goto (ls2 := [some (.ref 204), some (.int l1), some (.int l2), some (.int (Mod_size (l2 - (2 * x4)))), some (.int (l4 + 1)), none]) cd265_81 rfl rfl ?_
            exact ih l1 l2 (Mod_size (l2 - (2 * x4))) (l4 + 1) I6 J h
          · have h := ifnE hb h
            refine g_goto (ls2 := [some (.ref 204), some (.int l1), some (.int l2), some (.int l3), some (.int l4), none]) cd265_66 rfl rfl ?_
            refine g_iinc (ls2 := [some (.ref 204), some (.int l1), some (.int l2), some (.int l3), some (.int (l4 + 1)), none]) cd265_78 rfl rfl rfl ?_
            refine g_goto (ls2 := [some (.ref 204), some (.int l1), some (.int l2), some (.int l3), some (.int (l4 + 1)), none]) cd265_81 rfl rfl ?_
            exact ih l1 l2 l3 (l4 + 1) I J h
      · have h := ifnE hb h
        refine g_goto (ls2 := [some (.ref 204), some (.int l1), some (.int l2), some (.int l3), some (.int l4), none]) cd265_37 rfl rfl ?_
        refine g_iinc (ls2 := [some (.ref 204), some (.int l1), some (.int l2), some (.int l3), some (.int (l4 + 1)), none]) cd265_78 rfl rfl rfl ?_
        refine g_goto (ls2 := [some (.ref 204), some (.int l1), some (.int l2), some (.int l3), some (.int (l4 + 1)), none]) cd265_81 rfl rfl ?_
        exact ih l1 l2 l3 (l4 + 1) I J h
set_option maxRecDepth 8000 in
theorem t_Mod_parts {d : Nat} {N : Nat} {c : Nat × Nat} {S : Nat → Nat × Nat} {P : Nat → Nat → Option Nat} {I : FI} {J : FJ} {r : Int32 × FI} (hd : 2 ≤ d) (hw : OM S P) (h : Mod_parts N I = some r) : Go d M_Mod_parts 0 [some (.ref 204), none, none, none, none, none] [] (c, S, I, J, P) (some (.int r.1), false, (c, S, r.2, J, P)) := by
  obtain ⟨d, rfl⟩ : ∃ e, d = e + 1 := ⟨d - 1, by omega⟩
  unfold Mod_parts at h
  refine g_aload_n cd265_0 rfl rfl ?_
  refine g_iconst cd265_1 rfl ?_
  obtain ⟨I1, e1, h⟩ := bnd h
  refine G_putI cd265_2 rfl (OM.o hw) (Option.some.inj e1) ?_
  refine g_aload_n cd265_5 rfl rfl ?_
  refine g_iconst cd265_6 rfl ?_
  obtain ⟨x2, hx, h⟩ := bnd h
  refine g_callVI (L := [some (.ref 204), some (.int 2), none, none]) cd265_7 rfl rfl rfl rfl rfl (OM.o hw) (t_Mod_those (by omega) hw hx) ?_
  refine g_istore_n (ls2 := [some (.ref 204), some (.int x2), none, none, none, none]) cd265_10 rfl rfl ?_
  refine g_aload_n cd265_11 rfl rfl ?_
  refine g_iload_n cd265_12 rfl rfl ?_
  obtain ⟨x3, hx, h⟩ := bnd h
  refine g_callVI (L := [some (.ref 204), some (.int x2), none, none]) cd265_13 rfl rfl rfl rfl rfl (OM.o hw) (t_Mod_valueOf (by omega) hw hx) ?_
  refine g_istore_n (ls2 := [some (.ref 204), some (.int x2), some (.int x3), none, none, none]) cd265_16 rfl rfl ?_
  refine g_iconst cd265_17 rfl ?_
  refine g_istore_n (ls2 := [some (.ref 204), some (.int x2), some (.int x3), some (.int (-1)), none, none]) cd265_18 rfl rfl ?_
  refine g_iconst cd265_19 rfl ?_
  refine g_istore (ls2 := [some (.ref 204), some (.int x2), some (.int x3), some (.int (-1)), some (.int 0), none]) cd265_20 rfl rfl ?_
  exact t_Mod_parts_22 hd hw _ x2 x3 (-1) 0 I1 J h
/-! HiddenOrLostModel.parted()I -/
theorem cd266_0 : code9 266 0 = some (0, .aload_n 0, [1], .null, []) := rfl
theorem cd266_1 : code9 266 1 = some (0, .iconst 0, [1], .int 0, []) := rfl
theorem cd266_2 : code9 266 2 = some (0, .putfield 1, [3, 12, 0, 0], .null, []) := rfl
theorem cd266_5 : code9 266 5 = some (0, .aload_n 0, [1], .null, []) := rfl
theorem cd266_6 : code9 266 6 = some (0, .getfield 148, [3, 12, 34, 0], .null, []) := rfl
theorem cd266_9 : code9 266 9 = some (0, .ireturn, [1, 1], .null, []) := rfl
def Mod_parted (I : FI) : Option (Int32 × FI) := Option.bind (some (up2 I 204 0 (0 : Int32))) fun I1 => (some (I1 204 34, I1))
set_option maxRecDepth 8000 in
theorem t_Mod_parted {d : Nat} {c : Nat × Nat} {S : Nat → Nat × Nat} {P : Nat → Nat → Option Nat} {I : FI} {J : FJ} {r : Int32 × FI} (hd : 0 ≤ d) (hw : OM S P) (h : Mod_parted I = some r) : Go d M_Mod_parted 0 [some (.ref 204)] [] (c, S, I, J, P) (some (.int r.1), false, (c, S, r.2, J, P)) := by
  unfold Mod_parted at h
  refine g_aload_n cd266_0 rfl rfl ?_
  refine g_iconst cd266_1 rfl ?_
  obtain ⟨I1, e1, h⟩ := bnd h
  refine G_putI cd266_2 rfl (OM.o hw) (Option.some.inj e1) ?_
  refine g_aload_n cd266_5 rfl rfl ?_
  refine g_getI cd266_6 rfl (OM.o hw) ?_
  exact g_iret cd266_9 (Or.inl rfl) (by obtain rfl := Option.some.inj h; rfl)
/-! HiddenOrLostModel.write(I)V -/
theorem cd269_0 : code9 269 0 = some (0, .aload_n 0, [1], .null, []) := rfl
theorem cd269_1 : code9 269 1 = some (0, .getfield 151, [3, 12, 35, 2], .null, []) := rfl
theorem cd269_4 : code9 269 4 = some (0, .aload_n 0, [1], .null, []) := rfl
theorem cd269_5 : code9 269 5 = some (0, .getfield 351, [3, 12, 36, 0], .null, []) := rfl
theorem cd269_8 : code9 269 8 = some (0, .iload_n 1, [1], .null, []) := rfl
theorem cd269_9 : code9 269 9 = some (0, .iastore, [1], .null, []) := rfl
theorem cd269_10 : code9 269 10 = some (0, .aload_n 0, [1], .null, []) := rfl
theorem cd269_11 : code9 269 11 = some (0, .dup, [1], .null, []) := rfl
theorem cd269_12 : code9 269 12 = some (0, .getfield 351, [3, 12, 36, 0], .null, []) := rfl
theorem cd269_15 : code9 269 15 = some (0, .iconst 1, [1], .int 1, []) := rfl
theorem cd269_16 : code9 269 16 = some (0, .iadd, [1], .null, []) := rfl
theorem cd269_17 : code9 269 17 = some (0, .putfield 351, [3, 12, 36, 0], .null, []) := rfl
theorem cd269_20 : code9 269 20 = some (0, .return_, [1], .null, []) := rfl
def Mod_write (l1 : Int32) (I : FI) : Option (FI) := if in9 (I 204 36) 64 then (Option.bind (some (up2 I 221 ((I 204 36).toNatClampNeg) l1)) fun I2 => (Option.bind (some (up2 I2 204 36 ((I2 204 36) + 1))) fun I3 => (some I3))) else none
set_option maxRecDepth 8000 in
theorem t_Mod_write {d : Nat} {c : Nat × Nat} {S : Nat → Nat × Nat} {P : Nat → Nat → Option Nat} {I : FI} {J : FJ} {l1 : Int32} {r : FI} (hd : 0 ≤ d) (hw : OM S P) (h : Mod_write l1 I = some r) : Go d M_Mod_write 0 [some (.ref 204), some (.int l1)] [] (c, S, I, J, P) (none, false, (c, S, r, J, P)) := by
  unfold Mod_write at h
  refine g_aload_n cd269_0 rfl rfl ?_
  refine g_getP cd269_1 rfl (OM.o hw) (OM.p35 hw) ?_
  refine g_aload_n cd269_4 rfl rfl ?_
  refine g_getI cd269_5 rfl (OM.o hw) ?_
  refine g_iload_n cd269_8 rfl rfl ?_
  obtain ⟨hg1, h⟩ := grd h
  obtain ⟨I2, e1, h⟩ := bnd h
  refine G_iast cd269_9 rfl (OM.s35 hw) hg1 (Option.some.inj e1) ?_
  refine g_aload_n cd269_10 rfl rfl ?_
  refine g_dupR cd269_11 rfl ?_
  refine g_getI cd269_12 rfl (OM.o hw) ?_
  refine g_iconst cd269_15 rfl ?_
  refine g_iadd cd269_16 rfl ?_
  obtain ⟨I3, e1, h⟩ := bnd h
  refine G_putI cd269_17 rfl (OM.o hw) (Option.some.inj e1) ?_
  exact g_vret cd269_20 (by obtain rfl := Option.some.inj h; rfl)
/-! HiddenOrLostModel.writeWord(J)V -/
theorem cd268_0 : code9 268 0 = some (0, .lload_n 1, [1], .null, []) := rfl
theorem cd268_1 : code9 268 1 = some (0, .ldc2_w 54, [3], .long 27, []) := rfl
theorem cd268_4 : code9 268 4 = some (0, .lcmp, [1], .null, []) := rfl
theorem cd268_5 : code9 268 5 = some (0, .ifCond .lt 12, [3, 17], .null, []) := rfl
theorem cd268_8 : code9 268 8 = some (0, .aload_n 0, [1], .null, []) := rfl
theorem cd268_9 : code9 268 9 = some (0, .lload_n 1, [1], .null, []) := rfl
theorem cd268_10 : code9 268 10 = some (0, .ldc2_w 54, [3], .long 27, []) := rfl
theorem cd268_13 : code9 268 13 = some (0, .ldiv, [1], .null, []) := rfl
theorem cd268_14 : code9 268 14 = some (0, .invokevirtual 354, [3, 268, 2, 1, 0, 3, 12, 0], .null, []) := rfl
theorem cd268_17 : code9 268 17 = some (4, .aload_n 0, [1], .null, []) := rfl
theorem cd268_18 : code9 268 18 = some (0, .bipush 96, [2], .int 96, []) := rfl
theorem cd268_20 : code9 268 20 = some (0, .lload_n 1, [1], .null, []) := rfl
theorem cd268_21 : code9 268 21 = some (0, .ldc2_w 54, [3], .long 27, []) := rfl
theorem cd268_24 : code9 268 24 = some (0, .lrem, [1], .null, []) := rfl
theorem cd268_25 : code9 268 25 = some (0, .l2i, [1], .null, []) := rfl
theorem cd268_26 : code9 268 26 = some (0, .iadd, [1], .null, []) := rfl
theorem cd268_27 : code9 268 27 = some (0, .invokevirtual 358, [3, 269, 2, 1, 0, 2, 12, 0], .null, []) := rfl
theorem cd268_30 : code9 268 30 = some (0, .return_, [1], .null, []) := rfl
def Mod_writeWord (R : Int64 → FI → Option (FI)) (N : Nat) (l1 : Int64) (I : FI) : Option (FI) := if l1 < (27 : Int64) then (Option.bind (Mod_write (96 + ((l1 - l1 / 27 * 27).toInt32)) I) fun x1 => (some x1)) else (Option.bind (R (l1 / 27) I) fun x2 => (Option.bind (Mod_write (96 + ((l1 - l1 / 27 * 27).toInt32)) x2) fun x3 => (some x3)))
def Mod_writeWord_R (N : Nat) : Nat → Int64 → FI → Option (FI)
  | 0 => fun _ _ => none
  | k + 1 => fun l1 I => Mod_writeWord (Mod_writeWord_R N k) N l1 I
set_option maxRecDepth 8000 in
theorem t_Mod_writeWord {d : Nat} {D : Nat} {R : Int64 → FI → Option (FI)} {N : Nat} {c : Nat × Nat} {S : Nat → Nat × Nat} {P : Nat → Nat → Option Nat} {I : FI} {J : FJ} {l1 : Int64} {r : FI} (hd : D + 1 ≤ d) (hR : ∀ {d : Nat} {l1 : Int64} {I : FI} {J : FJ} {r : FI}, D ≤ d → OM S P → R l1 I = some r → Go d M_Mod_writeWord 0 [some (.ref 204), some (.long l1), none] [] (c, S, I, J, P) (none, false, (c, S, r, J, P))) (hw : OM S P) (h : Mod_writeWord R N l1 I = some r) : Go d M_Mod_writeWord 0 [some (.ref 204), some (.long l1), none] [] (c, S, I, J, P) (none, false, (c, S, r, J, P)) := by
  obtain ⟨d, rfl⟩ : ∃ e, d = e + 1 := ⟨d - 1, by omega⟩
  unfold Mod_writeWord at h
  refine g_lload_n cd268_0 rfl rfl ?_
  refine g_ldc2_w cd268_1 rfl ?_
  refine g_lcmp cd268_4 rfl ?_
  refine g_if_lt cd268_5 rfl (fun hb => ?_) (fun hb => ?_)
  · have h := ifpE (lgc_lt.mp hb) h
    refine g_aload_n cd268_17 rfl rfl ?_
    refine g_bipush cd268_18 rfl ?_
    refine g_lload_n cd268_20 rfl rfl ?_
    refine g_ldc2_w cd268_21 rfl ?_
    refine g_lrem cd268_24 rfl (by decide) ?_
    refine g_l2i cd268_25 rfl ?_
    refine g_iadd cd268_26 rfl ?_
    obtain ⟨x1, hx, h⟩ := bnd h
    refine g_callVV (L := [some (.ref 204), some (.int (96 + ((l1 - l1 / 27 * 27).toInt32)))]) cd268_27 rfl rfl rfl rfl rfl (OM.o hw) (t_Mod_write (by omega) hw hx) ?_
    exact g_vret cd268_30 (by obtain rfl := Option.some.inj h; rfl)
  · have h := ifnE (fun q => hb (lgc_lt.mpr q)) h
    refine g_aload_n cd268_8 rfl rfl ?_
    refine g_lload_n cd268_9 rfl rfl ?_
    refine g_ldc2_w cd268_10 rfl ?_
    refine g_ldiv cd268_13 rfl (by decide) ?_
    obtain ⟨x2, hx, h⟩ := bnd h
    refine g_callVV (L := [some (.ref 204), some (.long (l1 / 27)), none]) cd268_14 rfl rfl rfl rfl rfl (OM.o hw) (hR (by omega) hw hx) ?_
    refine g_aload_n cd268_17 rfl rfl ?_
    refine g_bipush cd268_18 rfl ?_
    refine g_lload_n cd268_20 rfl rfl ?_
    refine g_ldc2_w cd268_21 rfl ?_
    refine g_lrem cd268_24 rfl (by decide) ?_
    refine g_l2i cd268_25 rfl ?_
    refine g_iadd cd268_26 rfl ?_
    obtain ⟨x3, hx, h⟩ := bnd h
    refine g_callVV (L := [some (.ref 204), some (.int (96 + ((l1 - l1 / 27 * 27).toInt32)))]) cd268_27 rfl rfl rfl rfl rfl (OM.o hw) (t_Mod_write (by omega) hw hx) ?_
    exact g_vret cd268_30 (by obtain rfl := Option.some.inj h; rfl)
set_option maxRecDepth 8000 in
theorem t_Mod_writeWord_R {N : Nat} {c : Nat × Nat} {S : Nat → Nat × Nat} {P : Nat → Nat → Option Nat} : ∀ (k D : Nat), 1 * k ≤ D → ∀ {d : Nat} {l1 : Int64} {I : FI} {J : FJ} {r : FI}, D ≤ d → OM S P → Mod_writeWord_R N k l1 I = some r → Go d M_Mod_writeWord 0 [some (.ref 204), some (.long l1), none] [] (c, S, I, J, P) (none, false, (c, S, r, J, P)) := by
  intro k
  induction k with
  | zero =>
    intro D hD d l1 I J r hd hw h
    cases h
  | succ k ih =>
    intro D hD d l1 I J r hd hw h
    exact t_Mod_writeWord (D := 1 * k) (N := N) (by omega) (ih (1 * k) (Nat.le_refl _)) hw h
/-! HiddenOrLostModel.writeNumber(I)V -/
theorem cd270_0 : code9 270 0 = some (0, .iload_n 1, [1], .null, []) := rfl
theorem cd270_1 : code9 270 1 = some (0, .bipush 9, [2], .int 9, []) := rfl
theorem cd270_3 : code9 270 3 = some (0, .if_icmp .le 11, [3, 14], .null, []) := rfl
theorem cd270_6 : code9 270 6 = some (0, .aload_n 0, [1], .null, []) := rfl
theorem cd270_7 : code9 270 7 = some (0, .iload_n 1, [1], .null, []) := rfl
theorem cd270_8 : code9 270 8 = some (0, .bipush 10, [2], .int 10, []) := rfl
theorem cd270_10 : code9 270 10 = some (0, .idiv, [1], .null, []) := rfl
theorem cd270_11 : code9 270 11 = some (0, .invokevirtual 361, [3, 270, 2, 1, 0, 2, 12, 0], .null, []) := rfl
theorem cd270_14 : code9 270 14 = some (3, .aload_n 0, [1], .null, []) := rfl
theorem cd270_15 : code9 270 15 = some (0, .bipush 48, [2], .int 48, []) := rfl
theorem cd270_17 : code9 270 17 = some (0, .iload_n 1, [1], .null, []) := rfl
theorem cd270_18 : code9 270 18 = some (0, .bipush 10, [2], .int 10, []) := rfl
theorem cd270_20 : code9 270 20 = some (0, .irem, [1], .null, []) := rfl
theorem cd270_21 : code9 270 21 = some (0, .iadd, [1], .null, []) := rfl
theorem cd270_22 : code9 270 22 = some (0, .invokevirtual 358, [3, 269, 2, 1, 0, 2, 12, 0], .null, []) := rfl
theorem cd270_25 : code9 270 25 = some (0, .return_, [1], .null, []) := rfl
def Mod_writeNumber (R : Int32 → FI → Option (FI)) (N : Nat) (l1 : Int32) (I : FI) : Option (FI) := if l1 ≤ 9 then (Option.bind (Mod_write (48 + (l1 - l1 / 10 * 10)) I) fun x1 => (some x1)) else (Option.bind (R (l1 / 10) I) fun x2 => (Option.bind (Mod_write (48 + (l1 - l1 / 10 * 10)) x2) fun x3 => (some x3)))
def Mod_writeNumber_R (N : Nat) : Nat → Int32 → FI → Option (FI)
  | 0 => fun _ _ => none
  | k + 1 => fun l1 I => Mod_writeNumber (Mod_writeNumber_R N k) N l1 I
set_option maxRecDepth 8000 in
theorem t_Mod_writeNumber {d : Nat} {D : Nat} {R : Int32 → FI → Option (FI)} {N : Nat} {c : Nat × Nat} {S : Nat → Nat × Nat} {P : Nat → Nat → Option Nat} {I : FI} {J : FJ} {l1 : Int32} {r : FI} (hd : D + 1 ≤ d) (hR : ∀ {d : Nat} {l1 : Int32} {I : FI} {J : FJ} {r : FI}, D ≤ d → OM S P → R l1 I = some r → Go d M_Mod_writeNumber 0 [some (.ref 204), some (.int l1)] [] (c, S, I, J, P) (none, false, (c, S, r, J, P))) (hw : OM S P) (h : Mod_writeNumber R N l1 I = some r) : Go d M_Mod_writeNumber 0 [some (.ref 204), some (.int l1)] [] (c, S, I, J, P) (none, false, (c, S, r, J, P)) := by
  obtain ⟨d, rfl⟩ : ∃ e, d = e + 1 := ⟨d - 1, by omega⟩
  unfold Mod_writeNumber at h
  refine g_iload_n cd270_0 rfl rfl ?_
  refine g_bipush cd270_1 rfl ?_
  refine g_icmp_le cd270_3 rfl (fun hb => ?_) (fun hb => ?_)
  · have h := ifpE hb h
    refine g_aload_n cd270_14 rfl rfl ?_
    refine g_bipush cd270_15 rfl ?_
    refine g_iload_n cd270_17 rfl rfl ?_
    refine g_bipush cd270_18 rfl ?_
    refine g_irem cd270_20 rfl (by decide) ?_
    refine g_iadd cd270_21 rfl ?_
    obtain ⟨x1, hx, h⟩ := bnd h
    refine g_callVV (L := [some (.ref 204), some (.int (48 + (l1 - l1 / 10 * 10)))]) cd270_22 rfl rfl rfl rfl rfl (OM.o hw) (t_Mod_write (by omega) hw hx) ?_
    exact g_vret cd270_25 (by obtain rfl := Option.some.inj h; rfl)
  · have h := ifnE hb h
    refine g_aload_n cd270_6 rfl rfl ?_
    refine g_iload_n cd270_7 rfl rfl ?_
    refine g_bipush cd270_8 rfl ?_
    refine g_idiv cd270_10 rfl (by decide) ?_
    obtain ⟨x2, hx, h⟩ := bnd h
    refine g_callVV (L := [some (.ref 204), some (.int (l1 / 10))]) cd270_11 rfl rfl rfl rfl rfl (OM.o hw) (hR (by omega) hw hx) ?_
    refine g_aload_n cd270_14 rfl rfl ?_
    refine g_bipush cd270_15 rfl ?_
    refine g_iload_n cd270_17 rfl rfl ?_
    refine g_bipush cd270_18 rfl ?_
    refine g_irem cd270_20 rfl (by decide) ?_
    refine g_iadd cd270_21 rfl ?_
    obtain ⟨x3, hx, h⟩ := bnd h
    refine g_callVV (L := [some (.ref 204), some (.int (48 + (l1 - l1 / 10 * 10)))]) cd270_22 rfl rfl rfl rfl rfl (OM.o hw) (t_Mod_write (by omega) hw hx) ?_
    exact g_vret cd270_25 (by obtain rfl := Option.some.inj h; rfl)
set_option maxRecDepth 8000 in
theorem t_Mod_writeNumber_R {N : Nat} {c : Nat × Nat} {S : Nat → Nat × Nat} {P : Nat → Nat → Option Nat} : ∀ (k D : Nat), 1 * k ≤ D → ∀ {d : Nat} {l1 : Int32} {I : FI} {J : FJ} {r : FI}, D ≤ d → OM S P → Mod_writeNumber_R N k l1 I = some r → Go d M_Mod_writeNumber 0 [some (.ref 204), some (.int l1)] [] (c, S, I, J, P) (none, false, (c, S, r, J, P)) := by
  intro k
  induction k with
  | zero =>
    intro D hD d l1 I J r hd hw h
    cases h
  | succ k ih =>
    intro D hD d l1 I J r hd hw h
    exact t_Mod_writeNumber (D := 1 * k) (N := N) (by omega) (ih (1 * k) (Nat.le_refl _)) hw h
/-! HiddenOrLostModel.writeNext(J)V -/
theorem cd271_0 : code9 271 0 = some (0, .aload_n 0, [1], .null, []) := rfl
theorem cd271_1 : code9 271 1 = some (0, .bipush 32, [2], .int 32, []) := rfl
theorem cd271_3 : code9 271 3 = some (0, .invokevirtual 358, [3, 269, 2, 1, 0, 2, 12, 0], .null, []) := rfl
theorem cd271_6 : code9 271 6 = some (0, .aload_n 0, [1], .null, []) := rfl
theorem cd271_7 : code9 271 7 = some (0, .lload_n 1, [1], .null, []) := rfl
theorem cd271_8 : code9 271 8 = some (0, .invokevirtual 354, [3, 268, 2, 1, 0, 3, 12, 0], .null, []) := rfl
theorem cd271_11 : code9 271 11 = some (0, .return_, [1], .null, []) := rfl
def Mod_writeNext (N : Nat) (l1 : Int64) (I : FI) : Option (FI) := Option.bind (Mod_write 32 I) fun x1 => (Option.bind (Mod_writeWord_R N dK l1 x1) fun x2 => (some x2))
set_option maxRecDepth 8000 in
theorem t_Mod_writeNext {d : Nat} {N : Nat} {c : Nat × Nat} {S : Nat → Nat × Nat} {P : Nat → Nat → Option Nat} {I : FI} {J : FJ} {l1 : Int64} {r : FI} (hd : 66 ≤ d) (hw : OM S P) (h : Mod_writeNext N l1 I = some r) : Go d M_Mod_writeNext 0 [some (.ref 204), some (.long l1), none] [] (c, S, I, J, P) (none, false, (c, S, r, J, P)) := by
  obtain ⟨d, rfl⟩ : ∃ e, d = e + 1 := ⟨d - 1, by omega⟩
  unfold Mod_writeNext at h
  refine g_aload_n cd271_0 rfl rfl ?_
  refine g_bipush cd271_1 rfl ?_
  obtain ⟨x1, hx, h⟩ := bnd h
  refine g_callVV (L := [some (.ref 204), some (.int 32)]) cd271_3 rfl rfl rfl rfl rfl (OM.o hw) (t_Mod_write (by omega) hw hx) ?_
  refine g_aload_n cd271_6 rfl rfl ?_
  refine g_lload_n cd271_7 rfl rfl ?_
  obtain ⟨x2, hx, h⟩ := bnd h
  refine g_callVV (L := [some (.ref 204), some (.long l1), none]) cd271_8 rfl rfl rfl rfl rfl (OM.o hw) (t_Mod_writeWord_R dK (1 * dK) (Nat.le_refl _) (by have := dK_eq; omega) hw hx) ?_
  exact g_vret cd271_11 (by obtain rfl := Option.some.inj h; rfl)
/-! HiddenOrLostModel.label(I)I -/
theorem cd267_0 : code9 267 0 = some (0, .aload_n 0, [1], .null, []) := rfl
theorem cd267_1 : code9 267 1 = some (0, .iconst 0, [1], .int 0, []) := rfl
theorem cd267_2 : code9 267 2 = some (0, .putfield 1, [3, 12, 0, 0], .null, []) := rfl
theorem cd267_5 : code9 267 5 = some (0, .aload_n 0, [1], .null, []) := rfl
theorem cd267_6 : code9 267 6 = some (0, .iload_n 1, [1], .null, []) := rfl
theorem cd267_7 : code9 267 7 = some (0, .invokevirtual 242, [3, 209, 2, 1, 3, 2, 12, 0], .null, []) := rfl
theorem cd267_10 : code9 267 10 = some (0, .ifCond .ne 5, [3, 15], .null, []) := rfl
theorem cd267_13 : code9 267 13 = some (0, .iconst (-1), [1], .int (-1), []) := rfl
theorem cd267_14 : code9 267 14 = some (0, .ireturn, [1, 1], .null, []) := rfl
theorem cd267_15 : code9 267 15 = some (0, .aload_n 0, [1], .null, []) := rfl
theorem cd267_16 : code9 267 16 = some (0, .iconst 0, [1], .int 0, []) := rfl
theorem cd267_17 : code9 267 17 = some (0, .putfield 351, [3, 12, 36, 0], .null, []) := rfl
theorem cd267_20 : code9 267 20 = some (0, .aload_n 0, [1], .null, []) := rfl
theorem cd267_21 : code9 267 21 = some (0, .aload_n 0, [1], .null, []) := rfl
theorem cd267_22 : code9 267 22 = some (0, .getfield 113, [3, 12, 19, 2], .null, []) := rfl
theorem cd267_25 : code9 267 25 = some (0, .bipush 6, [2], .int 6, []) := rfl
theorem cd267_27 : code9 267 27 = some (0, .iload_n 1, [1], .null, []) := rfl
theorem cd267_28 : code9 267 28 = some (0, .iadd, [1], .null, []) := rfl
theorem cd267_29 : code9 267 29 = some (0, .laload, [1], .null, []) := rfl
theorem cd267_30 : code9 267 30 = some (0, .invokevirtual 354, [3, 268, 2, 1, 0, 3, 12, 0], .null, []) := rfl
theorem cd267_33 : code9 267 33 = some (0, .aload_n 0, [1], .null, []) := rfl
theorem cd267_34 : code9 267 34 = some (0, .bipush 32, [2], .int 32, []) := rfl
theorem cd267_36 : code9 267 36 = some (0, .invokevirtual 358, [3, 269, 2, 1, 0, 2, 12, 0], .null, []) := rfl
theorem cd267_39 : code9 267 39 = some (0, .aload_n 0, [1], .null, []) := rfl
theorem cd267_40 : code9 267 40 = some (0, .aload_n 0, [1], .null, []) := rfl
theorem cd267_41 : code9 267 41 = some (0, .getfield 98, [3, 12, 14, 2], .null, []) := rfl
theorem cd267_44 : code9 267 44 = some (0, .bipush 70, [2], .int 70, []) := rfl
theorem cd267_46 : code9 267 46 = some (0, .iload_n 1, [1], .null, []) := rfl
theorem cd267_47 : code9 267 47 = some (0, .iadd, [1], .null, []) := rfl
theorem cd267_48 : code9 267 48 = some (0, .iaload, [1], .null, []) := rfl
theorem cd267_49 : code9 267 49 = some (0, .invokevirtual 361, [3, 270, 2, 1, 0, 2, 12, 0], .null, []) := rfl
theorem cd267_52 : code9 267 52 = some (0, .aload_n 0, [1], .null, []) := rfl
theorem cd267_53 : code9 267 53 = some (0, .getfield 98, [3, 12, 14, 2], .null, []) := rfl
theorem cd267_56 : code9 267 56 = some (0, .sipush 135, [3], .int 135, []) := rfl
theorem cd267_59 : code9 267 59 = some (0, .iload_n 1, [1], .null, []) := rfl
theorem cd267_60 : code9 267 60 = some (0, .iadd, [1], .null, []) := rfl
theorem cd267_61 : code9 267 61 = some (0, .iaload, [1], .null, []) := rfl
theorem cd267_62 : code9 267 62 = some (0, .ifCond .ne 46, [3, 108], .null, []) := rfl
theorem cd267_65 : code9 267 65 = some (0, .aload_n 0, [1], .null, []) := rfl
theorem cd267_66 : code9 267 66 = some (0, .bipush 105, [2], .int 105, []) := rfl
theorem cd267_68 : code9 267 68 = some (0, .bipush 110, [2], .int 110, []) := rfl
theorem cd267_70 : code9 267 70 = some (0, .iconst 0, [1], .int 0, []) := rfl
theorem cd267_71 : code9 267 71 = some (0, .iconst 0, [1], .int 0, []) := rfl
theorem cd267_72 : code9 267 72 = some (0, .iconst 0, [1], .int 0, []) := rfl
theorem cd267_73 : code9 267 73 = some (0, .iconst 0, [1], .int 0, []) := rfl
theorem cd267_74 : code9 267 74 = some (0, .invokestatic 58, [3, 186, 6, 0, 2, 8, 12, 0], .null, []) := rfl
theorem cd267_77 : code9 267 77 = some (0, .invokevirtual 364, [3, 271, 2, 1, 0, 3, 12, 0], .null, []) := rfl
theorem cd267_80 : code9 267 80 = some (0, .aload_n 0, [1], .null, []) := rfl
theorem cd267_81 : code9 267 81 = some (0, .bipush 116, [2], .int 116, []) := rfl
theorem cd267_83 : code9 267 83 = some (0, .bipush 104, [2], .int 104, []) := rfl
theorem cd267_85 : code9 267 85 = some (0, .bipush 101, [2], .int 101, []) := rfl
theorem cd267_87 : code9 267 87 = some (0, .iconst 0, [1], .int 0, []) := rfl
theorem cd267_88 : code9 267 88 = some (0, .iconst 0, [1], .int 0, []) := rfl
theorem cd267_89 : code9 267 89 = some (0, .iconst 0, [1], .int 0, []) := rfl
theorem cd267_90 : code9 267 90 = some (0, .invokestatic 58, [3, 186, 6, 0, 2, 8, 12, 0], .null, []) := rfl
theorem cd267_93 : code9 267 93 = some (0, .invokevirtual 364, [3, 271, 2, 1, 0, 3, 12, 0], .null, []) := rfl
theorem cd267_96 : code9 267 96 = some (0, .aload_n 0, [1], .null, []) := rfl
theorem cd267_97 : code9 267 97 = some (0, .bipush 22, [2], .int 22, []) := rfl
theorem cd267_99 : code9 267 99 = some (0, .invokestatic 62, [3, 185, 1, 0, 2, 1, 12, 0], .null, []) := rfl
theorem cd267_102 : code9 267 102 = some (0, .invokevirtual 364, [3, 271, 2, 1, 0, 3, 12, 0], .null, []) := rfl
theorem cd267_105 : code9 267 105 = some (0, .goto 98, [3, 203, 2], .null, []) := rfl
theorem cd267_108 : code9 267 108 = some (0, .aload_n 0, [1], .null, []) := rfl
theorem cd267_109 : code9 267 109 = some (0, .getfield 98, [3, 12, 14, 2], .null, []) := rfl
theorem cd267_112 : code9 267 112 = some (0, .sipush 135, [3], .int 135, []) := rfl
theorem cd267_115 : code9 267 115 = some (0, .iload_n 1, [1], .null, []) := rfl
theorem cd267_116 : code9 267 116 = some (0, .iadd, [1], .null, []) := rfl
theorem cd267_117 : code9 267 117 = some (0, .iaload, [1], .null, []) := rfl
theorem cd267_118 : code9 267 118 = some (0, .iconst 1, [1], .int 1, []) := rfl
theorem cd267_119 : code9 267 119 = some (0, .if_icmp .ne 56, [3, 175], .null, []) := rfl
theorem cd267_122 : code9 267 122 = some (0, .aload_n 0, [1], .null, []) := rfl
theorem cd267_123 : code9 267 123 = some (0, .bipush 104, [2], .int 104, []) := rfl
theorem cd267_125 : code9 267 125 = some (0, .bipush 97, [2], .int 97, []) := rfl
theorem cd267_127 : code9 267 127 = some (0, .bipush 100, [2], .int 100, []) := rfl
theorem cd267_129 : code9 267 129 = some (0, .iconst 0, [1], .int 0, []) := rfl
theorem cd267_130 : code9 267 130 = some (0, .iconst 0, [1], .int 0, []) := rfl
theorem cd267_131 : code9 267 131 = some (0, .iconst 0, [1], .int 0, []) := rfl
theorem cd267_132 : code9 267 132 = some (0, .invokestatic 58, [3, 186, 6, 0, 2, 8, 12, 0], .null, []) := rfl
theorem cd267_135 : code9 267 135 = some (0, .invokevirtual 364, [3, 271, 2, 1, 0, 3, 12, 0], .null, []) := rfl
theorem cd267_138 : code9 267 138 = some (0, .aload_n 0, [1], .null, []) := rfl
theorem cd267_139 : code9 267 139 = some (0, .bipush 98, [2], .int 98, []) := rfl
theorem cd267_141 : code9 267 141 = some (0, .bipush 121, [2], .int 121, []) := rfl
theorem cd267_143 : code9 267 143 = some (0, .iconst 0, [1], .int 0, []) := rfl
theorem cd267_144 : code9 267 144 = some (0, .iconst 0, [1], .int 0, []) := rfl
theorem cd267_145 : code9 267 145 = some (0, .iconst 0, [1], .int 0, []) := rfl
theorem cd267_146 : code9 267 146 = some (0, .iconst 0, [1], .int 0, []) := rfl
theorem cd267_147 : code9 267 147 = some (0, .invokestatic 58, [3, 186, 6, 0, 2, 8, 12, 0], .null, []) := rfl
theorem cd267_150 : code9 267 150 = some (0, .invokevirtual 364, [3, 271, 2, 1, 0, 3, 12, 0], .null, []) := rfl
theorem cd267_153 : code9 267 153 = some (0, .aload_n 0, [1], .null, []) := rfl
theorem cd267_154 : code9 267 154 = some (0, .aload_n 0, [1], .null, []) := rfl
theorem cd267_155 : code9 267 155 = some (0, .getfield 113, [3, 12, 19, 2], .null, []) := rfl
theorem cd267_158 : code9 267 158 = some (0, .aload_n 0, [1], .null, []) := rfl
theorem cd267_159 : code9 267 159 = some (0, .getfield 98, [3, 12, 14, 2], .null, []) := rfl
theorem cd267_162 : code9 267 162 = some (0, .sipush 145, [3], .int 145, []) := rfl
theorem cd267_165 : code9 267 165 = some (0, .iload_n 1, [1], .null, []) := rfl
theorem cd267_166 : code9 267 166 = some (0, .iadd, [1], .null, []) := rfl
theorem cd267_167 : code9 267 167 = some (0, .iaload, [1], .null, []) := rfl
theorem cd267_168 : code9 267 168 = some (0, .laload, [1], .null, []) := rfl
theorem cd267_169 : code9 267 169 = some (0, .invokevirtual 364, [3, 271, 2, 1, 0, 3, 12, 0], .null, []) := rfl
theorem cd267_172 : code9 267 172 = some (0, .goto 31, [3, 203, 2], .null, []) := rfl
theorem cd267_175 : code9 267 175 = some (0, .aload_n 0, [1], .null, []) := rfl
theorem cd267_176 : code9 267 176 = some (0, .aload_n 0, [1], .null, []) := rfl
theorem cd267_177 : code9 267 177 = some (0, .getfield 98, [3, 12, 14, 2], .null, []) := rfl
theorem cd267_180 : code9 267 180 = some (0, .sipush 135, [3], .int 135, []) := rfl
theorem cd267_183 : code9 267 183 = some (0, .iload_n 1, [1], .null, []) := rfl
theorem cd267_184 : code9 267 184 = some (0, .iadd, [1], .null, []) := rfl
theorem cd267_185 : code9 267 185 = some (0, .iaload, [1], .null, []) := rfl
theorem cd267_186 : code9 267 186 = some (0, .iconst 2, [1], .int 2, []) := rfl
theorem cd267_187 : code9 267 187 = some (0, .if_icmp .ne 8, [3, 195], .null, []) := rfl
theorem cd267_190 : code9 267 190 = some (0, .bipush 24, [2], .int 24, []) := rfl
theorem cd267_192 : code9 267 192 = some (0, .goto 5, [3, 197, 2], .null, []) := rfl
theorem cd267_195 : code9 267 195 = some (0, .bipush 25, [2], .int 25, []) := rfl
theorem cd267_197 : code9 267 197 = some (3, .invokestatic 62, [3, 185, 1, 0, 2, 1, 12, 0], .null, []) := rfl
theorem cd267_200 : code9 267 200 = some (0, .invokevirtual 364, [3, 271, 2, 1, 0, 3, 12, 0], .null, []) := rfl
theorem cd267_203 : code9 267 203 = some (3, .aload_n 0, [1], .null, []) := rfl
theorem cd267_204 : code9 267 204 = some (0, .getfield 351, [3, 12, 36, 0], .null, []) := rfl
theorem cd267_207 : code9 267 207 = some (0, .ireturn, [1, 1], .null, []) := rfl
def Mod_label (N : Nat) (l1 : Int32) (I : FI) (J : FJ) : Option (Int32 × FI) := Option.bind (some (up2 I 204 0 (0 : Int32))) fun I1 => (Option.bind (Mod_isFind l1 I1) fun x2 => (if x2 then (Option.bind (some (up2 I1 204 36 (0 : Int32))) fun I3 => (if in9 (6 + l1) 22 then (Option.bind (Mod_writeWord_R N dK (J 211 ((6 + l1).toNatClampNeg)) I3) fun x5 => (Option.bind (Mod_write 32 x5) fun x6 => (if in9 (70 + l1) 451 then (Option.bind (Mod_writeNumber_R N dK (x6 206 ((70 + l1).toNatClampNeg)) x6) fun x8 => (if in9 (135 + l1) 451 then (if (x8 206 ((135 + l1).toNatClampNeg)) = 0 then (Option.bind (Mod_writeNext N (Mod_spelt 105 110 0 0 0 0) x8) fun x10 => (Option.bind (Mod_writeNext N (Mod_spelt 116 104 101 0 0 0) x10) fun x11 => (Option.bind (Mod_writeNext N (Mod_wordOf 22) x11) fun x12 => (some (x12 204 36, x12))))) else (if (x8 206 ((135 + l1).toNatClampNeg)) = 1 then (Option.bind (Mod_writeNext N (Mod_spelt 104 97 100 0 0 0) x8) fun x13 => (Option.bind (Mod_writeNext N (Mod_spelt 98 121 0 0 0 0) x13) fun x14 => (if in9 (145 + l1) 451 then (if in9 (x14 206 ((145 + l1).toNatClampNeg)) 22 then (Option.bind (Mod_writeNext N (J 211 ((x14 206 ((145 + l1).toNatClampNeg)).toNatClampNeg)) x14) fun x17 => (some (x17 204 36, x17))) else none) else none))) else (if (x8 206 ((135 + l1).toNatClampNeg)) = 2 then (Option.bind (Mod_writeNext N (Mod_wordOf 24) x8) fun x18 => (some (x18 204 36, x18))) else (Option.bind (Mod_writeNext N (Mod_wordOf 25) x8) fun x19 => (some (x19 204 36, x19)))))) else none)) else none))) else none)) else (some ((-1), I1))))
set_option maxRecDepth 8000 in
theorem t_Mod_label {d : Nat} {N : Nat} {c : Nat × Nat} {S : Nat → Nat × Nat} {P : Nat → Nat → Option Nat} {I : FI} {J : FJ} {l1 : Int32} {r : Int32 × FI} (hd : 67 ≤ d) (hw : OM S P) (h : Mod_label N l1 I J = some r) : Go d M_Mod_label 0 [some (.ref 204), some (.int l1)] [] (c, S, I, J, P) (some (.int r.1), false, (c, S, r.2, J, P)) := by
  obtain ⟨d, rfl⟩ : ∃ e, d = e + 1 := ⟨d - 1, by omega⟩
  unfold Mod_label at h
  refine g_aload_n cd267_0 rfl rfl ?_
  refine g_iconst cd267_1 rfl ?_
  obtain ⟨I1, e1, h⟩ := bnd h
  refine G_putI cd267_2 rfl (OM.o hw) (Option.some.inj e1) ?_
  refine g_aload_n cd267_5 rfl rfl ?_
  refine g_iload_n cd267_6 rfl rfl ?_
  obtain ⟨x2, hx, h⟩ := bnd h
  refine g_callVZ (L := [some (.ref 204), some (.int l1)]) cd267_7 rfl rfl rfl rfl rfl (OM.o hw) (t_Mod_isFind (by omega) hw hx) ?_
  refine g_if_ne cd267_10 rfl (fun hb => ?_) (fun hb => ?_)
  · have h := ifnE (b2i_f hb) h
    refine g_iconst cd267_13 rfl ?_
    exact g_iret cd267_14 (Or.inl rfl) (by obtain rfl := Option.some.inj h; rfl)
  · have h := ifpE (b2i_t hb) h
    refine g_aload_n cd267_15 rfl rfl ?_
    refine g_iconst cd267_16 rfl ?_
    obtain ⟨I3, e1, h⟩ := bnd h
    refine G_putI cd267_17 rfl (OM.o hw) (Option.some.inj e1) ?_
    refine g_aload_n cd267_20 rfl rfl ?_
    refine g_aload_n cd267_21 rfl rfl ?_
    refine g_getP cd267_22 rfl (OM.o hw) (OM.p19 hw) ?_
    refine g_bipush cd267_25 rfl ?_
    refine g_iload_n cd267_27 rfl rfl ?_
    refine g_iadd cd267_28 rfl ?_
    obtain ⟨hg4, h⟩ := grd h
    refine G_lald cd267_29 rfl (OM.s19 hw) hg4 ?_
    obtain ⟨x5, hx, h⟩ := bnd h
    refine g_callVV (L := [some (.ref 204), some (.long (J 211 ((6 + l1).toNatClampNeg))), none]) cd267_30 rfl rfl rfl rfl rfl (OM.o hw) (t_Mod_writeWord_R dK (1 * dK) (Nat.le_refl _) (by have := dK_eq; omega) hw hx) ?_
    refine g_aload_n cd267_33 rfl rfl ?_
    refine g_bipush cd267_34 rfl ?_
    obtain ⟨x6, hx, h⟩ := bnd h
    refine g_callVV (L := [some (.ref 204), some (.int 32)]) cd267_36 rfl rfl rfl rfl rfl (OM.o hw) (t_Mod_write (by omega) hw hx) ?_
    refine g_aload_n cd267_39 rfl rfl ?_
    refine g_aload_n cd267_40 rfl rfl ?_
    refine g_getP cd267_41 rfl (OM.o hw) (OM.p14 hw) ?_
    refine g_bipush cd267_44 rfl ?_
    refine g_iload_n cd267_46 rfl rfl ?_
    refine g_iadd cd267_47 rfl ?_
    obtain ⟨hg7, h⟩ := grd h
    refine G_iald cd267_48 rfl (OM.s14 hw) hg7 ?_
    obtain ⟨x8, hx, h⟩ := bnd h
    refine g_callVV (L := [some (.ref 204), some (.int (x6 206 ((70 + l1).toNatClampNeg)))]) cd267_49 rfl rfl rfl rfl rfl (OM.o hw) (t_Mod_writeNumber_R dK (1 * dK) (Nat.le_refl _) (by have := dK_eq; omega) hw hx) ?_
    refine g_aload_n cd267_52 rfl rfl ?_
    refine g_getP cd267_53 rfl (OM.o hw) (OM.p14 hw) ?_
    refine g_sipush cd267_56 rfl ?_
    refine g_iload_n cd267_59 rfl rfl ?_
    refine g_iadd cd267_60 rfl ?_
    obtain ⟨hg9, h⟩ := grd h
    refine G_iald cd267_61 rfl (OM.s14 hw) hg9 ?_
    refine g_if_ne cd267_62 rfl (fun hb => ?_) (fun hb => ?_)
    · have h := ifpE hb h
      refine g_aload_n cd267_65 rfl rfl ?_
      refine g_bipush cd267_66 rfl ?_
      refine g_bipush cd267_68 rfl ?_
      refine g_iconst cd267_70 rfl ?_
      refine g_iconst cd267_71 rfl ?_
      refine g_iconst cd267_72 rfl ?_
      refine g_iconst cd267_73 rfl ?_
      refine g_callSJ (L := [some (.int 105), some (.int 110), some (.int 0), some (.int 0), some (.int 0), some (.int 0), none, none]) cd267_74 rfl rfl rfl rfl rfl (t_Mod_spelt (by omega)  rfl) ?_
      obtain ⟨x10, hx, h⟩ := bnd h
      refine g_callVV (L := [some (.ref 204), some (.long (Mod_spelt 105 110 0 0 0 0)), none]) cd267_77 rfl rfl rfl rfl rfl (OM.o hw) (t_Mod_writeNext (by omega) hw hx) ?_
      refine g_aload_n cd267_80 rfl rfl ?_
      refine g_bipush cd267_81 rfl ?_
      refine g_bipush cd267_83 rfl ?_
      refine g_bipush cd267_85 rfl ?_
      refine g_iconst cd267_87 rfl ?_
      refine g_iconst cd267_88 rfl ?_
      refine g_iconst cd267_89 rfl ?_
      refine g_callSJ (L := [some (.int 116), some (.int 104), some (.int 101), some (.int 0), some (.int 0), some (.int 0), none, none]) cd267_90 rfl rfl rfl rfl rfl (t_Mod_spelt (by omega)  rfl) ?_
      obtain ⟨x11, hx, h⟩ := bnd h
      refine g_callVV (L := [some (.ref 204), some (.long (Mod_spelt 116 104 101 0 0 0)), none]) cd267_93 rfl rfl rfl rfl rfl (OM.o hw) (t_Mod_writeNext (by omega) hw hx) ?_
      refine g_aload_n cd267_96 rfl rfl ?_
      refine g_bipush cd267_97 rfl ?_
      refine g_callSJ (L := [some (.int 22)]) cd267_99 rfl rfl rfl rfl rfl (t_Mod_wordOf (by omega)  rfl) ?_
      obtain ⟨x12, hx, h⟩ := bnd h
      refine g_callVV (L := [some (.ref 204), some (.long (Mod_wordOf 22)), none]) cd267_102 rfl rfl rfl rfl rfl (OM.o hw) (t_Mod_writeNext (by omega) hw hx) ?_
      refine g_goto (ls2 := [some (.ref 204), some (.int l1)]) cd267_105 rfl rfl ?_
      refine g_aload_n cd267_203 rfl rfl ?_
      refine g_getI cd267_204 rfl (OM.o hw) ?_
      exact g_iret cd267_207 (Or.inl rfl) (by obtain rfl := Option.some.inj h; rfl)
    · have h := ifnE hb h
      refine g_aload_n cd267_108 rfl rfl ?_
      refine g_getP cd267_109 rfl (OM.o hw) (OM.p14 hw) ?_
      refine g_sipush cd267_112 rfl ?_
      refine g_iload_n cd267_115 rfl rfl ?_
      refine g_iadd cd267_116 rfl ?_
      refine G_iald cd267_117 rfl (OM.s14 hw) hg9 ?_
      refine g_iconst cd267_118 rfl ?_
      refine g_icmp_ne cd267_119 rfl (fun hb => ?_) (fun hb => ?_)
      · have h := ifpE hb h
        refine g_aload_n cd267_122 rfl rfl ?_
        refine g_bipush cd267_123 rfl ?_
        refine g_bipush cd267_125 rfl ?_
        refine g_bipush cd267_127 rfl ?_
        refine g_iconst cd267_129 rfl ?_
        refine g_iconst cd267_130 rfl ?_
        refine g_iconst cd267_131 rfl ?_
        refine g_callSJ (L := [some (.int 104), some (.int 97), some (.int 100), some (.int 0), some (.int 0), some (.int 0), none, none]) cd267_132 rfl rfl rfl rfl rfl (t_Mod_spelt (by omega)  rfl) ?_
        obtain ⟨x13, hx, h⟩ := bnd h
        refine g_callVV (L := [some (.ref 204), some (.long (Mod_spelt 104 97 100 0 0 0)), none]) cd267_135 rfl rfl rfl rfl rfl (OM.o hw) (t_Mod_writeNext (by omega) hw hx) ?_
        refine g_aload_n cd267_138 rfl rfl ?_
        refine g_bipush cd267_139 rfl ?_
        refine g_bipush cd267_141 rfl ?_
        refine g_iconst cd267_143 rfl ?_
        refine g_iconst cd267_144 rfl ?_
        refine g_iconst cd267_145 rfl ?_
        refine g_iconst cd267_146 rfl ?_
        refine g_callSJ (L := [some (.int 98), some (.int 121), some (.int 0), some (.int 0), some (.int 0), some (.int 0), none, none]) cd267_147 rfl rfl rfl rfl rfl (t_Mod_spelt (by omega)  rfl) ?_
        obtain ⟨x14, hx, h⟩ := bnd h
        refine g_callVV (L := [some (.ref 204), some (.long (Mod_spelt 98 121 0 0 0 0)), none]) cd267_150 rfl rfl rfl rfl rfl (OM.o hw) (t_Mod_writeNext (by omega) hw hx) ?_
        refine g_aload_n cd267_153 rfl rfl ?_
        refine g_aload_n cd267_154 rfl rfl ?_
        refine g_getP cd267_155 rfl (OM.o hw) (OM.p19 hw) ?_
        refine g_aload_n cd267_158 rfl rfl ?_
        refine g_getP cd267_159 rfl (OM.o hw) (OM.p14 hw) ?_
        refine g_sipush cd267_162 rfl ?_
        refine g_iload_n cd267_165 rfl rfl ?_
        refine g_iadd cd267_166 rfl ?_
        obtain ⟨hg15, h⟩ := grd h
        refine G_iald cd267_167 rfl (OM.s14 hw) hg15 ?_
        obtain ⟨hg16, h⟩ := grd h
        refine G_lald cd267_168 rfl (OM.s19 hw) hg16 ?_
        obtain ⟨x17, hx, h⟩ := bnd h
        refine g_callVV (L := [some (.ref 204), some (.long (J 211 ((x14 206 ((145 + l1).toNatClampNeg)).toNatClampNeg))), none]) cd267_169 rfl rfl rfl rfl rfl (OM.o hw) (t_Mod_writeNext (by omega) hw hx) ?_
        refine g_goto (ls2 := [some (.ref 204), some (.int l1)]) cd267_172 rfl rfl ?_
        refine g_aload_n cd267_203 rfl rfl ?_
        refine g_getI cd267_204 rfl (OM.o hw) ?_
        exact g_iret cd267_207 (Or.inl rfl) (by obtain rfl := Option.some.inj h; rfl)
      · have h := ifnE hb h
        refine g_aload_n cd267_175 rfl rfl ?_
        refine g_aload_n cd267_176 rfl rfl ?_
        refine g_getP cd267_177 rfl (OM.o hw) (OM.p14 hw) ?_
        refine g_sipush cd267_180 rfl ?_
        refine g_iload_n cd267_183 rfl rfl ?_
        refine g_iadd cd267_184 rfl ?_
        refine G_iald cd267_185 rfl (OM.s14 hw) hg9 ?_
        refine g_iconst cd267_186 rfl ?_
        refine g_icmp_ne cd267_187 rfl (fun hb => ?_) (fun hb => ?_)
        · have h := ifpE hb h
          refine g_bipush cd267_190 rfl ?_
          refine g_goto (ls2 := [some (.ref 204), some (.int l1)]) cd267_192 rfl rfl ?_
          refine g_callSJ (L := [some (.int 24)]) cd267_197 rfl rfl rfl rfl rfl (t_Mod_wordOf (by omega)  rfl) ?_
          obtain ⟨x18, hx, h⟩ := bnd h
          refine g_callVV (L := [some (.ref 204), some (.long (Mod_wordOf 24)), none]) cd267_200 rfl rfl rfl rfl rfl (OM.o hw) (t_Mod_writeNext (by omega) hw hx) ?_
          refine g_aload_n cd267_203 rfl rfl ?_
          refine g_getI cd267_204 rfl (OM.o hw) ?_
          exact g_iret cd267_207 (Or.inl rfl) (by obtain rfl := Option.some.inj h; rfl)
        · have h := ifnE hb h
          refine g_bipush cd267_195 rfl ?_
          refine g_callSJ (L := [some (.int 25)]) cd267_197 rfl rfl rfl rfl rfl (t_Mod_wordOf (by omega)  rfl) ?_
          obtain ⟨x19, hx, h⟩ := bnd h
          refine g_callVV (L := [some (.ref 204), some (.long (Mod_wordOf 25)), none]) cd267_200 rfl rfl rfl rfl rfl (OM.o hw) (t_Mod_writeNext (by omega) hw hx) ?_
          refine g_aload_n cd267_203 rfl rfl ?_
          refine g_getI cd267_204 rfl (OM.o hw) ?_
          exact g_iret cd267_207 (Or.inl rfl) (by obtain rfl := Option.some.inj h; rfl)
/-! HiddenOrLostModel.byteAt(I)I -/
theorem cd272_0 : code9 272 0 = some (0, .aload_n 0, [1], .null, []) := rfl
theorem cd272_1 : code9 272 1 = some (0, .iconst 0, [1], .int 0, []) := rfl
theorem cd272_2 : code9 272 2 = some (0, .putfield 1, [3, 12, 0, 0], .null, []) := rfl
theorem cd272_5 : code9 272 5 = some (0, .iload_n 1, [1], .null, []) := rfl
theorem cd272_6 : code9 272 6 = some (0, .iconst 0, [1], .int 0, []) := rfl
theorem cd272_7 : code9 272 7 = some (0, .aload_n 0, [1], .null, []) := rfl
theorem cd272_8 : code9 272 8 = some (0, .getfield 351, [3, 12, 36, 0], .null, []) := rfl
theorem cd272_11 : code9 272 11 = some (0, .iconst 1, [1], .int 1, []) := rfl
theorem cd272_12 : code9 272 12 = some (0, .isub, [1], .null, []) := rfl
theorem cd272_13 : code9 272 13 = some (0, .invokestatic 75, [3, 191, 3, 0, 3, 3, 12, 0], .null, []) := rfl
theorem cd272_16 : code9 272 16 = some (0, .ifCond .eq 12, [3, 28], .null, []) := rfl
theorem cd272_19 : code9 272 19 = some (0, .aload_n 0, [1], .null, []) := rfl
theorem cd272_20 : code9 272 20 = some (0, .getfield 151, [3, 12, 35, 2], .null, []) := rfl
theorem cd272_23 : code9 272 23 = some (0, .iload_n 1, [1], .null, []) := rfl
theorem cd272_24 : code9 272 24 = some (0, .iaload, [1], .null, []) := rfl
theorem cd272_25 : code9 272 25 = some (0, .goto 4, [3, 29, 2], .null, []) := rfl
theorem cd272_28 : code9 272 28 = some (0, .iconst (-1), [1], .int (-1), []) := rfl
theorem cd272_29 : code9 272 29 = some (3, .ireturn, [1, 1], .null, []) := rfl
def Mod_byteAt (l1 : Int32) (I : FI) : Option (Int32 × FI) := Option.bind (some (up2 I 204 0 (0 : Int32))) fun I1 => (if (Mod_isIn l1 0 ((I1 204 36) - 1)) then (if in9 l1 64 then (some (I1 221 l1.toNatClampNeg, I1)) else none) else (some ((-1), I1)))
set_option maxRecDepth 8000 in
theorem t_Mod_byteAt {d : Nat} {c : Nat × Nat} {S : Nat → Nat × Nat} {P : Nat → Nat → Option Nat} {I : FI} {J : FJ} {l1 : Int32} {r : Int32 × FI} (hd : 1 ≤ d) (hw : OM S P) (h : Mod_byteAt l1 I = some r) : Go d M_Mod_byteAt 0 [some (.ref 204), some (.int l1)] [] (c, S, I, J, P) (some (.int r.1), false, (c, S, r.2, J, P)) := by
  obtain ⟨d, rfl⟩ : ∃ e, d = e + 1 := ⟨d - 1, by omega⟩
  unfold Mod_byteAt at h
  refine g_aload_n cd272_0 rfl rfl ?_
  refine g_iconst cd272_1 rfl ?_
  obtain ⟨I1, e1, h⟩ := bnd h
  refine G_putI cd272_2 rfl (OM.o hw) (Option.some.inj e1) ?_
  refine g_iload_n cd272_5 rfl rfl ?_
  refine g_iconst cd272_6 rfl ?_
  refine g_aload_n cd272_7 rfl rfl ?_
  refine g_getI cd272_8 rfl (OM.o hw) ?_
  refine g_iconst cd272_11 rfl ?_
  refine g_isub cd272_12 rfl ?_
  refine g_callSZ (L := [some (.int l1), some (.int 0), some (.int ((I1 204 36) - 1))]) cd272_13 rfl rfl rfl rfl rfl (t_Mod_isIn (by omega)  rfl) ?_
  refine g_if_eq cd272_16 rfl (fun hb => ?_) (fun hb => ?_)
  · have h := ifnE (b2i_f hb) h
    refine g_iconst cd272_28 rfl ?_
    exact g_iret cd272_29 (Or.inl rfl) (by obtain rfl := Option.some.inj h; rfl)
  · have h := ifpE (b2i_t hb) h
    refine g_aload_n cd272_19 rfl rfl ?_
    refine g_getP cd272_20 rfl (OM.o hw) (OM.p35 hw) ?_
    refine g_iload_n cd272_23 rfl rfl ?_
    obtain ⟨hg2, h⟩ := grd h
    refine G_iald cd272_24 rfl (OM.s35 hw) hg2 ?_
    refine g_goto (ls2 := [some (.ref 204), some (.int l1)]) cd272_25 rfl rfl ?_
    exact g_iret cd272_29 (Or.inl rfl) (by obtain rfl := Option.some.inj h; rfl)
/-! HiddenOrLostModel.odds(III)I -/
theorem cd273_0 : code9 273 0 = some (0, .aload_n 0, [1], .null, []) := rfl
theorem cd273_1 : code9 273 1 = some (0, .iconst 0, [1], .int 0, []) := rfl
theorem cd273_2 : code9 273 2 = some (0, .putfield 1, [3, 12, 0, 0], .null, []) := rfl
theorem cd273_5 : code9 273 5 = some (0, .aload_n 0, [1], .null, []) := rfl
theorem cd273_6 : code9 273 6 = some (0, .iload_n 1, [1], .null, []) := rfl
theorem cd273_7 : code9 273 7 = some (0, .invokevirtual 242, [3, 209, 2, 1, 3, 2, 12, 0], .null, []) := rfl
theorem cd273_10 : code9 273 10 = some (0, .ifCond .eq 22, [3, 32], .null, []) := rfl
theorem cd273_13 : code9 273 13 = some (0, .iload_n 2, [1], .null, []) := rfl
theorem cd273_14 : code9 273 14 = some (0, .iconst 1, [1], .int 1, []) := rfl
theorem cd273_15 : code9 273 15 = some (0, .bipush 30, [2], .int 30, []) := rfl
theorem cd273_17 : code9 273 17 = some (0, .invokestatic 75, [3, 191, 3, 0, 3, 3, 12, 0], .null, []) := rfl
theorem cd273_20 : code9 273 20 = some (0, .ifCond .eq 12, [3, 32], .null, []) := rfl
theorem cd273_23 : code9 273 23 = some (0, .aload_n 0, [1], .null, []) := rfl
theorem cd273_24 : code9 273 24 = some (0, .getfield 98, [3, 12, 14, 2], .null, []) := rfl
theorem cd273_27 : code9 273 27 = some (0, .iconst 0, [1], .int 0, []) := rfl
theorem cd273_28 : code9 273 28 = some (0, .iaload, [1], .null, []) := rfl
theorem cd273_29 : code9 273 29 = some (0, .ifCond .ne 5, [3, 34], .null, []) := rfl
theorem cd273_32 : code9 273 32 = some (5, .iconst (-1), [1], .int (-1), []) := rfl
theorem cd273_33 : code9 273 33 = some (0, .ireturn, [1, 1], .null, []) := rfl
theorem cd273_34 : code9 273 34 = some (0, .aload_n 0, [1], .null, []) := rfl
theorem cd273_35 : code9 273 35 = some (0, .invokevirtual 345, [3, 259, 1, 1, 0, 2, 12, 0], .null, []) := rfl
theorem cd273_38 : code9 273 38 = some (0, .iconst 0, [1], .int 0, []) := rfl
theorem cd273_39 : code9 273 39 = some (0, .istore 4, [2], .null, []) := rfl
theorem cd273_41 : code9 273 41 = some (0, .iconst 0, [1], .int 0, []) := rfl
theorem cd273_42 : code9 273 42 = some (0, .istore 5, [2], .null, []) := rfl
theorem cd273_44 : code9 273 44 = some (7, .iload 5, [2], .null, []) := rfl
theorem cd273_46 : code9 273 46 = some (0, .iload_n 2, [1], .null, []) := rfl
theorem cd273_47 : code9 273 47 = some (0, .if_icmp .ge 41, [3, 88], .null, []) := rfl
theorem cd273_50 : code9 273 50 = some (0, .aload_n 0, [1], .null, []) := rfl
theorem cd273_51 : code9 273 51 = some (0, .bipush 20, [2], .int 20, []) := rfl
theorem cd273_53 : code9 273 53 = some (0, .iload_n 3, [1], .null, []) := rfl
theorem cd273_54 : code9 273 54 = some (0, .iload 5, [2], .null, []) := rfl
theorem cd273_56 : code9 273 56 = some (0, .iadd, [1], .null, []) := rfl
theorem cd273_57 : code9 273 57 = some (0, .invokevirtual 303, [3, 238, 3, 1, 1, 5, 12, 0], .null, []) := rfl
theorem cd273_60 : code9 273 60 = some (0, .pop, [1], .null, []) := rfl
theorem cd273_61 : code9 273 61 = some (0, .aload_n 0, [1], .null, []) := rfl
theorem cd273_62 : code9 273 62 = some (0, .getfield 98, [3, 12, 14, 2], .null, []) := rfl
theorem cd273_65 : code9 273 65 = some (0, .sipush 135, [3], .int 135, []) := rfl
theorem cd273_68 : code9 273 68 = some (0, .iload_n 1, [1], .null, []) := rfl
theorem cd273_69 : code9 273 69 = some (0, .iadd, [1], .null, []) := rfl
theorem cd273_70 : code9 273 70 = some (0, .iaload, [1], .null, []) := rfl
theorem cd273_71 : code9 273 71 = some (0, .iconst 2, [1], .int 2, []) := rfl
theorem cd273_72 : code9 273 72 = some (0, .if_icmp .ne 6, [3, 78], .null, []) := rfl
theorem cd273_75 : code9 273 75 = some (0, .iinc 4 1, [3], .int 1, []) := rfl
theorem cd273_78 : code9 273 78 = some (7, .aload_n 0, [1], .null, []) := rfl
theorem cd273_79 : code9 273 79 = some (0, .invokevirtual 348, [3, 260, 1, 1, 0, 2, 12, 0], .null, []) := rfl
theorem cd273_82 : code9 273 82 = some (0, .iinc 5 1, [3], .int 1, []) := rfl
theorem cd273_85 : code9 273 85 = some (0, .goto (-41), [3, 44, 6], .null, []) := rfl
theorem cd273_88 : code9 273 88 = some (0, .iload 4, [2], .null, []) := rfl
theorem cd273_90 : code9 273 90 = some (0, .ireturn, [1, 1], .null, []) := rfl
def Mod_odds_44 (N : Nat) : Nat → Int32 → Int32 → Int32 → Int32 → Int32 → FI → Option (Int32 × FI)
  | 0 => fun _ _ _ _ _ _ => none
  | n + 1 => fun l1 l2 l3 l4 l5 I => if l2 ≤ l5 then (some (l4, I)) else (Option.bind (Mod_passNights N 20 (l3 + l5) I) fun x4 => (if in9 (135 + l1) 451 then (if (x4.2 206 ((135 + l1).toNatClampNeg)) = 2 then (Option.bind (Mod_takeBack N x4.2) fun x6 => (Mod_odds_44 N n l1 l2 l3 (l4 + 1) (l5 + 1) x6)) else (Option.bind (Mod_takeBack N x4.2) fun x7 => (Mod_odds_44 N n l1 l2 l3 l4 (l5 + 1) x7))) else none))
def Mod_odds (N : Nat) (l1 : Int32) (l2 : Int32) (l3 : Int32) (I : FI) : Option (Int32 × FI) := Option.bind (some (up2 I 204 0 (0 : Int32))) fun I1 => (Option.bind (Mod_isFind l1 I1) fun x2 => (if x2 then (if (Mod_isIn l2 1 30) then (if (I1 206 ((0 : Int32).toNatClampNeg)) = 0 then (some ((-1), I1)) else (Option.bind (Mod_layAside N I1) fun x3 => (Mod_odds_44 N N l1 l2 l3 0 0 x3))) else (some ((-1), I1))) else (some ((-1), I1))))
set_option maxRecDepth 8000 in
theorem t_Mod_odds_44 {d : Nat} {N : Nat} {c : Nat × Nat} {S : Nat → Nat × Nat} {P : Nat → Nat → Option Nat} {r : Int32 × FI} (hd : 3 ≤ (d + 1)) (hw : OM S P) : ∀ (n : Nat) (l1 : Int32) (l2 : Int32) (l3 : Int32) (l4 : Int32) (l5 : Int32) (I : FI) (J : FJ), Mod_odds_44 N n l1 l2 l3 l4 l5 I = some r → Go (d + 1) M_Mod_odds 44 [some (.ref 204), some (.int l1), some (.int l2), some (.int l3), some (.int l4), some (.int l5)] [] (c, S, I, J, P) (some (.int r.1), false, (c, S, r.2, J, P)) := by
  intro n
  induction n with
  | zero =>
    intro l1 l2 l3 l4 l5 I J h
    cases h
  | succ n ih =>
    intro l1 l2 l3 l4 l5 I J h
    unfold Mod_odds_44 at h
    refine g_iload cd273_44 rfl rfl ?_
    refine g_iload_n cd273_46 rfl rfl ?_
    refine g_icmp_ge cd273_47 rfl (fun hb => ?_) (fun hb => ?_)
    · have h := ifpE hb h
      refine g_iload cd273_88 rfl rfl ?_
      exact g_iret cd273_90 (Or.inl rfl) (by obtain rfl := Option.some.inj h; rfl)
    · have h := ifnE hb h
      refine g_aload_n cd273_50 rfl rfl ?_
      refine g_bipush cd273_51 rfl ?_
      refine g_iload_n cd273_53 rfl rfl ?_
      refine g_iload cd273_54 rfl rfl ?_
      refine g_iadd cd273_56 rfl ?_
      obtain ⟨x4, hx, h⟩ := bnd h
      refine g_callVI (L := [some (.ref 204), some (.int 20), some (.int (l3 + l5)), none, none]) cd273_57 rfl rfl rfl rfl rfl (OM.o hw) (t_Mod_passNights (by omega) hw hx) ?_
      refine g_popI cd273_60 rfl ?_
      refine g_aload_n cd273_61 rfl rfl ?_
      refine g_getP cd273_62 rfl (OM.o hw) (OM.p14 hw) ?_
      refine g_sipush cd273_65 rfl ?_
      refine g_iload_n cd273_68 rfl rfl ?_
      refine g_iadd cd273_69 rfl ?_
      obtain ⟨hg5, h⟩ := grd h
      refine G_iald cd273_70 rfl (OM.s14 hw) hg5 ?_
      refine g_iconst cd273_71 rfl ?_
      refine g_icmp_ne cd273_72 rfl (fun hb => ?_) (fun hb => ?_)
      · have h := ifpE hb h
        refine g_iinc (ls2 := [some (.ref 204), some (.int l1), some (.int l2), some (.int l3), some (.int (l4 + 1)), some (.int l5)]) cd273_75 rfl rfl rfl ?_
        refine g_aload_n cd273_78 rfl rfl ?_
        obtain ⟨x6, hx, h⟩ := bnd h
        refine g_callVV (L := [some (.ref 204), none]) cd273_79 rfl rfl rfl rfl rfl (OM.o hw) (t_Mod_takeBack (by omega) hw hx) ?_
        refine g_iinc (ls2 := [some (.ref 204), some (.int l1), some (.int l2), some (.int l3), some (.int (l4 + 1)), some (.int (l5 + 1))]) cd273_82 rfl rfl rfl ?_
        refine g_goto (ls2 := [some (.ref 204), some (.int l1), some (.int l2), some (.int l3), some (.int (l4 + 1)), some (.int (l5 + 1))]) cd273_85 rfl rfl ?_
        exact ih l1 l2 l3 (l4 + 1) (l5 + 1) x6 J h
      · have h := ifnE hb h
        refine g_aload_n cd273_78 rfl rfl ?_
        obtain ⟨x7, hx, h⟩ := bnd h
        refine g_callVV (L := [some (.ref 204), none]) cd273_79 rfl rfl rfl rfl rfl (OM.o hw) (t_Mod_takeBack (by omega) hw hx) ?_
        refine g_iinc (ls2 := [some (.ref 204), some (.int l1), some (.int l2), some (.int l3), some (.int l4), some (.int (l5 + 1))]) cd273_82 rfl rfl rfl ?_
        refine g_goto (ls2 := [some (.ref 204), some (.int l1), some (.int l2), some (.int l3), some (.int l4), some (.int (l5 + 1))]) cd273_85 rfl rfl ?_
        exact ih l1 l2 l3 l4 (l5 + 1) x7 J h
set_option maxRecDepth 8000 in
theorem t_Mod_odds {d : Nat} {N : Nat} {c : Nat × Nat} {S : Nat → Nat × Nat} {P : Nat → Nat → Option Nat} {I : FI} {J : FJ} {l1 : Int32} {l2 : Int32} {l3 : Int32} {r : Int32 × FI} (hd : 3 ≤ d) (hw : OM S P) (h : Mod_odds N l1 l2 l3 I = some r) : Go d M_Mod_odds 0 [some (.ref 204), some (.int l1), some (.int l2), some (.int l3), none, none] [] (c, S, I, J, P) (some (.int r.1), false, (c, S, r.2, J, P)) := by
  obtain ⟨d, rfl⟩ : ∃ e, d = e + 1 := ⟨d - 1, by omega⟩
  unfold Mod_odds at h
  refine g_aload_n cd273_0 rfl rfl ?_
  refine g_iconst cd273_1 rfl ?_
  obtain ⟨I1, e1, h⟩ := bnd h
  refine G_putI cd273_2 rfl (OM.o hw) (Option.some.inj e1) ?_
  refine g_aload_n cd273_5 rfl rfl ?_
  refine g_iload_n cd273_6 rfl rfl ?_
  obtain ⟨x2, hx, h⟩ := bnd h
  refine g_callVZ (L := [some (.ref 204), some (.int l1)]) cd273_7 rfl rfl rfl rfl rfl (OM.o hw) (t_Mod_isFind (by omega) hw hx) ?_
  refine g_if_eq cd273_10 rfl (fun hb => ?_) (fun hb => ?_)
  · have h := ifnE (b2i_f hb) h
    refine g_iconst cd273_32 rfl ?_
    exact g_iret cd273_33 (Or.inl rfl) (by obtain rfl := Option.some.inj h; rfl)
  · have h := ifpE (b2i_t hb) h
    refine g_iload_n cd273_13 rfl rfl ?_
    refine g_iconst cd273_14 rfl ?_
    refine g_bipush cd273_15 rfl ?_
    refine g_callSZ (L := [some (.int l2), some (.int 1), some (.int 30)]) cd273_17 rfl rfl rfl rfl rfl (t_Mod_isIn (by omega)  rfl) ?_
    refine g_if_eq cd273_20 rfl (fun hb => ?_) (fun hb => ?_)
    · have h := ifnE (b2i_f hb) h
      refine g_iconst cd273_32 rfl ?_
      exact g_iret cd273_33 (Or.inl rfl) (by obtain rfl := Option.some.inj h; rfl)
    · have h := ifpE (b2i_t hb) h
      refine g_aload_n cd273_23 rfl rfl ?_
      refine g_getP cd273_24 rfl (OM.o hw) (OM.p14 hw) ?_
      refine g_iconst cd273_27 rfl ?_
      refine G_iald cd273_28 rfl (OM.s14 hw) (by decide) ?_
      refine g_if_ne cd273_29 rfl (fun hb => ?_) (fun hb => ?_)
      · have h := ifpE hb h
        refine g_iconst cd273_32 rfl ?_
        exact g_iret cd273_33 (Or.inl rfl) (by obtain rfl := Option.some.inj h; rfl)
      · have h := ifnE hb h
        refine g_aload_n cd273_34 rfl rfl ?_
        obtain ⟨x3, hx, h⟩ := bnd h
        refine g_callVV (L := [some (.ref 204), none]) cd273_35 rfl rfl rfl rfl rfl (OM.o hw) (t_Mod_layAside (by omega) hw hx) ?_
        refine g_iconst cd273_38 rfl ?_
        refine g_istore (ls2 := [some (.ref 204), some (.int l1), some (.int l2), some (.int l3), some (.int 0), none]) cd273_39 rfl rfl ?_
        refine g_iconst cd273_41 rfl ?_
        refine g_istore (ls2 := [some (.ref 204), some (.int l1), some (.int l2), some (.int l3), some (.int 0), some (.int 0)]) cd273_42 rfl rfl ?_
        exact t_Mod_odds_44 hd hw _ l1 l2 l3 0 0 x3 J h
/-! HiddenOrLostModel.readMany(IIII)Z -/
theorem cd277_0 : code9 277 0 = some (0, .aload_n 0, [1], .null, []) := rfl
theorem cd277_1 : code9 277 1 = some (0, .getfield 154, [3, 12, 37, 2], .null, []) := rfl
theorem cd277_4 : code9 277 4 = some (0, .iload_n 1, [1], .null, []) := rfl
theorem cd277_5 : code9 277 5 = some (0, .iload_n 2, [1], .null, []) := rfl
theorem cd277_6 : code9 277 6 = some (0, .iastore, [1], .null, []) := rfl
theorem cd277_7 : code9 277 7 = some (0, .aload_n 0, [1], .null, []) := rfl
theorem cd277_8 : code9 277 8 = some (0, .invokevirtual 82, [3, 179, 1, 1, 0, 5, 12, 0], .null, []) := rfl
theorem cd277_11 : code9 277 11 = some (0, .aload_n 0, [1], .null, []) := rfl
theorem cd277_12 : code9 277 12 = some (0, .iload_n 3, [1], .null, []) := rfl
theorem cd277_13 : code9 277 13 = some (0, .iload 4, [2], .null, []) := rfl
theorem cd277_15 : code9 277 15 = some (0, .invokevirtual 183, [3, 190, 3, 1, 3, 3, 12, 0], .null, []) := rfl
theorem cd277_18 : code9 277 18 = some (0, .ifCond .ne 5, [3, 23], .null, []) := rfl
theorem cd277_21 : code9 277 21 = some (0, .iconst 0, [1], .int 0, []) := rfl
theorem cd277_22 : code9 277 22 = some (0, .ireturn, [1, 3], .null, []) := rfl
theorem cd277_23 : code9 277 23 = some (0, .aload_n 0, [1], .null, []) := rfl
theorem cd277_24 : code9 277 24 = some (0, .getfield 154, [3, 12, 37, 2], .null, []) := rfl
theorem cd277_27 : code9 277 27 = some (0, .iload_n 1, [1], .null, []) := rfl
theorem cd277_28 : code9 277 28 = some (0, .iconst 2, [1], .int 2, []) := rfl
theorem cd277_29 : code9 277 29 = some (0, .iadd, [1], .null, []) := rfl
theorem cd277_30 : code9 277 30 = some (0, .aload_n 0, [1], .null, []) := rfl
theorem cd277_31 : code9 277 31 = some (0, .getfield 79, [3, 12, 13, 0], .null, []) := rfl
theorem cd277_34 : code9 277 34 = some (0, .iastore, [1], .null, []) := rfl
theorem cd277_35 : code9 277 35 = some (0, .iconst 1, [1], .int 1, []) := rfl
theorem cd277_36 : code9 277 36 = some (0, .ireturn, [1, 3], .null, []) := rfl
def Mod_readMany (N : Nat) (l1 : Int32) (l2 : Int32) (l3 : Int32) (l4 : Int32) (I : FI) (J : FJ) : Option (Bool × FI × FJ) := if in9 l1 160 then (Option.bind (some (up2 I 222 l1.toNatClampNeg l2)) fun I2 => (Option.bind (Mod_go N I2 J) fun x3 => (Option.bind (Mod_readNumber N l3 l4 x3.1 x3.2) fun x4 => (if x4.1 then (if in9 (l1 + 2) 160 then (Option.bind (some (up2 x4.2.1 222 ((l1 + 2).toNatClampNeg) (x4.2.1 204 13))) fun I6 => (some (true, I6, x4.2.2))) else none) else (some (false, x4.2.1, x4.2.2)))))) else none
set_option maxRecDepth 8000 in
theorem t_Mod_readMany {d : Nat} {N : Nat} {c : Nat × Nat} {S : Nat → Nat × Nat} {P : Nat → Nat → Option Nat} {I : FI} {J : FJ} {l1 : Int32} {l2 : Int32} {l3 : Int32} {l4 : Int32} {r : Bool × FI × FJ} (hd : 3 ≤ d) (hw : OM S P) (h : Mod_readMany N l1 l2 l3 l4 I J = some r) : Go d M_Mod_readMany 0 [some (.ref 204), some (.int l1), some (.int l2), some (.int l3), some (.int l4)] [] (c, S, I, J, P) (some (.int (b2i r.1)), false, (c, S, r.2.1, r.2.2, P)) := by
  obtain ⟨d, rfl⟩ : ∃ e, d = e + 1 := ⟨d - 1, by omega⟩
  unfold Mod_readMany at h
  refine g_aload_n cd277_0 rfl rfl ?_
  refine g_getP cd277_1 rfl (OM.o hw) (OM.p37 hw) ?_
  refine g_iload_n cd277_4 rfl rfl ?_
  refine g_iload_n cd277_5 rfl rfl ?_
  obtain ⟨hg1, h⟩ := grd h
  obtain ⟨I2, e1, h⟩ := bnd h
  refine G_iast cd277_6 rfl (OM.s37 hw) hg1 (Option.some.inj e1) ?_
  refine g_aload_n cd277_7 rfl rfl ?_
  obtain ⟨x3, hx, h⟩ := bnd h
  refine g_callVV (L := [some (.ref 204), none, none, none, none]) cd277_8 rfl rfl rfl rfl rfl (OM.o hw) (t_Mod_go (by omega) hw hx) ?_
  refine g_aload_n cd277_11 rfl rfl ?_
  refine g_iload_n cd277_12 rfl rfl ?_
  refine g_iload cd277_13 rfl rfl ?_
  obtain ⟨x4, hx, h⟩ := bnd h
  refine g_callVZ (L := [some (.ref 204), some (.int l3), some (.int l4)]) cd277_15 rfl rfl rfl rfl rfl (OM.o hw) (t_Mod_readNumber (by omega) hw hx) ?_
  refine g_if_ne cd277_18 rfl (fun hb => ?_) (fun hb => ?_)
  · have h := ifnE (b2i_f hb) h
    refine g_iconst cd277_21 rfl ?_
    exact g_iret cd277_22 (Or.inr ⟨rfl, Or.inl rfl⟩) (by obtain rfl := Option.some.inj h; rfl)
  · have h := ifpE (b2i_t hb) h
    refine g_aload_n cd277_23 rfl rfl ?_
    refine g_getP cd277_24 rfl (OM.o hw) (OM.p37 hw) ?_
    refine g_iload_n cd277_27 rfl rfl ?_
    refine g_iconst cd277_28 rfl ?_
    refine g_iadd cd277_29 rfl ?_
    refine g_aload_n cd277_30 rfl rfl ?_
    refine g_getI cd277_31 rfl (OM.o hw) ?_
    obtain ⟨hg5, h⟩ := grd h
    obtain ⟨I6, e1, h⟩ := bnd h
    refine G_iast cd277_34 rfl (OM.s37 hw) hg5 (Option.some.inj e1) ?_
    refine g_iconst cd277_35 rfl ?_
    exact g_iret cd277_36 (Or.inr ⟨rfl, Or.inr rfl⟩) (by obtain rfl := Option.some.inj h; rfl)
/-! HiddenOrLostModel.readPlace(I)Z -/
theorem cd278_0 : code9 278 0 = some (0, .aload_n 0, [1], .null, []) := rfl
theorem cd278_1 : code9 278 1 = some (0, .iconst 0, [1], .int 0, []) := rfl
theorem cd278_2 : code9 278 2 = some (0, .iconst 5, [1], .int 5, []) := rfl
theorem cd278_3 : code9 278 3 = some (0, .invokevirtual 183, [3, 190, 3, 1, 3, 3, 12, 0], .null, []) := rfl
theorem cd278_6 : code9 278 6 = some (0, .ifCond .ne 5, [3, 11], .null, []) := rfl
theorem cd278_9 : code9 278 9 = some (0, .iconst 0, [1], .int 0, []) := rfl
theorem cd278_10 : code9 278 10 = some (0, .ireturn, [1, 3], .null, []) := rfl
theorem cd278_11 : code9 278 11 = some (0, .aload_n 0, [1], .null, []) := rfl
theorem cd278_12 : code9 278 12 = some (0, .getfield 154, [3, 12, 37, 2], .null, []) := rfl
theorem cd278_15 : code9 278 15 = some (0, .iload_n 1, [1], .null, []) := rfl
theorem cd278_16 : code9 278 16 = some (0, .iconst 2, [1], .int 2, []) := rfl
theorem cd278_17 : code9 278 17 = some (0, .iadd, [1], .null, []) := rfl
theorem cd278_18 : code9 278 18 = some (0, .aload_n 0, [1], .null, []) := rfl
theorem cd278_19 : code9 278 19 = some (0, .getfield 79, [3, 12, 13, 0], .null, []) := rfl
theorem cd278_22 : code9 278 22 = some (0, .iastore, [1], .null, []) := rfl
theorem cd278_23 : code9 278 23 = some (0, .aload_n 0, [1], .null, []) := rfl
theorem cd278_24 : code9 278 24 = some (0, .iconst 0, [1], .int 0, []) := rfl
theorem cd278_25 : code9 278 25 = some (0, .iconst 5, [1], .int 5, []) := rfl
theorem cd278_26 : code9 278 26 = some (0, .invokevirtual 183, [3, 190, 3, 1, 3, 3, 12, 0], .null, []) := rfl
theorem cd278_29 : code9 278 29 = some (0, .ifCond .ne 5, [3, 34], .null, []) := rfl
theorem cd278_32 : code9 278 32 = some (0, .iconst 0, [1], .int 0, []) := rfl
theorem cd278_33 : code9 278 33 = some (0, .ireturn, [1, 3], .null, []) := rfl
theorem cd278_34 : code9 278 34 = some (0, .aload_n 0, [1], .null, []) := rfl
theorem cd278_35 : code9 278 35 = some (0, .getfield 154, [3, 12, 37, 2], .null, []) := rfl
theorem cd278_38 : code9 278 38 = some (0, .iload_n 1, [1], .null, []) := rfl
theorem cd278_39 : code9 278 39 = some (0, .iconst 3, [1], .int 3, []) := rfl
theorem cd278_40 : code9 278 40 = some (0, .iadd, [1], .null, []) := rfl
theorem cd278_41 : code9 278 41 = some (0, .aload_n 0, [1], .null, []) := rfl
theorem cd278_42 : code9 278 42 = some (0, .getfield 79, [3, 12, 13, 0], .null, []) := rfl
theorem cd278_45 : code9 278 45 = some (0, .iastore, [1], .null, []) := rfl
theorem cd278_46 : code9 278 46 = some (0, .iconst 1, [1], .int 1, []) := rfl
theorem cd278_47 : code9 278 47 = some (0, .ireturn, [1, 3], .null, []) := rfl
def Mod_readPlace (N : Nat) (l1 : Int32) (I : FI) (J : FJ) : Option (Bool × FI × FJ) := Option.bind (Mod_readNumber N 0 5 I J) fun x1 => (if x1.1 then (if in9 (l1 + 2) 160 then (Option.bind (some (up2 x1.2.1 222 ((l1 + 2).toNatClampNeg) (x1.2.1 204 13))) fun I3 => (Option.bind (Mod_readNumber N 0 5 I3 x1.2.2) fun x4 => (if x4.1 then (if in9 (l1 + 3) 160 then (Option.bind (some (up2 x4.2.1 222 ((l1 + 3).toNatClampNeg) (x4.2.1 204 13))) fun I6 => (some (true, I6, x4.2.2))) else none) else (some (false, x4.2.1, x4.2.2))))) else none) else (some (false, x1.2.1, x1.2.2)))
set_option maxRecDepth 8000 in
theorem t_Mod_readPlace {d : Nat} {N : Nat} {c : Nat × Nat} {S : Nat → Nat × Nat} {P : Nat → Nat → Option Nat} {I : FI} {J : FJ} {l1 : Int32} {r : Bool × FI × FJ} (hd : 3 ≤ d) (hw : OM S P) (h : Mod_readPlace N l1 I J = some r) : Go d M_Mod_readPlace 0 [some (.ref 204), some (.int l1)] [] (c, S, I, J, P) (some (.int (b2i r.1)), false, (c, S, r.2.1, r.2.2, P)) := by
  obtain ⟨d, rfl⟩ : ∃ e, d = e + 1 := ⟨d - 1, by omega⟩
  unfold Mod_readPlace at h
  refine g_aload_n cd278_0 rfl rfl ?_
  refine g_iconst cd278_1 rfl ?_
  refine g_iconst cd278_2 rfl ?_
  obtain ⟨x1, hx, h⟩ := bnd h
  refine g_callVZ (L := [some (.ref 204), some (.int 0), some (.int 5)]) cd278_3 rfl rfl rfl rfl rfl (OM.o hw) (t_Mod_readNumber (by omega) hw hx) ?_
  refine g_if_ne cd278_6 rfl (fun hb => ?_) (fun hb => ?_)
  · have h := ifnE (b2i_f hb) h
    refine g_iconst cd278_9 rfl ?_
    exact g_iret cd278_10 (Or.inr ⟨rfl, Or.inl rfl⟩) (by obtain rfl := Option.some.inj h; rfl)
  · have h := ifpE (b2i_t hb) h
    refine g_aload_n cd278_11 rfl rfl ?_
    refine g_getP cd278_12 rfl (OM.o hw) (OM.p37 hw) ?_
    refine g_iload_n cd278_15 rfl rfl ?_
    refine g_iconst cd278_16 rfl ?_
    refine g_iadd cd278_17 rfl ?_
    refine g_aload_n cd278_18 rfl rfl ?_
    refine g_getI cd278_19 rfl (OM.o hw) ?_
    obtain ⟨hg2, h⟩ := grd h
    obtain ⟨I3, e1, h⟩ := bnd h
    refine G_iast cd278_22 rfl (OM.s37 hw) hg2 (Option.some.inj e1) ?_
    refine g_aload_n cd278_23 rfl rfl ?_
    refine g_iconst cd278_24 rfl ?_
    refine g_iconst cd278_25 rfl ?_
    obtain ⟨x4, hx, h⟩ := bnd h
    refine g_callVZ (L := [some (.ref 204), some (.int 0), some (.int 5)]) cd278_26 rfl rfl rfl rfl rfl (OM.o hw) (t_Mod_readNumber (by omega) hw hx) ?_
    refine g_if_ne cd278_29 rfl (fun hb => ?_) (fun hb => ?_)
    · have h := ifnE (b2i_f hb) h
      refine g_iconst cd278_32 rfl ?_
      exact g_iret cd278_33 (Or.inr ⟨rfl, Or.inl rfl⟩) (by obtain rfl := Option.some.inj h; rfl)
    · have h := ifpE (b2i_t hb) h
      refine g_aload_n cd278_34 rfl rfl ?_
      refine g_getP cd278_35 rfl (OM.o hw) (OM.p37 hw) ?_
      refine g_iload_n cd278_38 rfl rfl ?_
      refine g_iconst cd278_39 rfl ?_
      refine g_iadd cd278_40 rfl ?_
      refine g_aload_n cd278_41 rfl rfl ?_
      refine g_getI cd278_42 rfl (OM.o hw) ?_
      obtain ⟨hg5, h⟩ := grd h
      obtain ⟨I6, e1, h⟩ := bnd h
      refine G_iast cd278_45 rfl (OM.s37 hw) hg5 (Option.some.inj e1) ?_
      refine g_iconst cd278_46 rfl ?_
      exact g_iret cd278_47 (Or.inr ⟨rfl, Or.inr rfl⟩) (by obtain rfl := Option.some.inj h; rfl)
/-! HiddenOrLostModel.readDoes(I)Z -/
theorem cd276_0 : code9 276 0 = some (0, .aload_n 0, [1], .null, []) := rfl
theorem cd276_1 : code9 276 1 = some (0, .bipush 17, [2], .int 17, []) := rfl
theorem cd276_3 : code9 276 3 = some (0, .invokevirtual 177, [3, 184, 2, 1, 3, 2, 12, 0], .null, []) := rfl
theorem cd276_6 : code9 276 6 = some (0, .ifCond .eq 15, [3, 21], .null, []) := rfl
theorem cd276_9 : code9 276 9 = some (0, .aload_n 0, [1], .null, []) := rfl
theorem cd276_10 : code9 276 10 = some (0, .iload_n 1, [1], .null, []) := rfl
theorem cd276_11 : code9 276 11 = some (0, .bipush 6, [2], .int 6, []) := rfl
theorem cd276_13 : code9 276 13 = some (0, .iconst 0, [1], .int 0, []) := rfl
theorem cd276_14 : code9 276 14 = some (0, .sipush 999, [3], .int 999, []) := rfl
theorem cd276_17 : code9 276 17 = some (0, .invokevirtual 367, [3, 277, 5, 1, 3, 5, 12, 0], .null, []) := rfl
theorem cd276_20 : code9 276 20 = some (0, .ireturn, [1, 3], .null, []) := rfl
theorem cd276_21 : code9 276 21 = some (0, .aload_n 0, [1], .null, []) := rfl
theorem cd276_22 : code9 276 22 = some (0, .bipush 18, [2], .int 18, []) := rfl
theorem cd276_24 : code9 276 24 = some (0, .invokevirtual 177, [3, 184, 2, 1, 3, 2, 12, 0], .null, []) := rfl
theorem cd276_27 : code9 276 27 = some (0, .ifCond .eq 13, [3, 40], .null, []) := rfl
theorem cd276_30 : code9 276 30 = some (0, .aload_n 0, [1], .null, []) := rfl
theorem cd276_31 : code9 276 31 = some (0, .iload_n 1, [1], .null, []) := rfl
theorem cd276_32 : code9 276 32 = some (0, .iconst 5, [1], .int 5, []) := rfl
theorem cd276_33 : code9 276 33 = some (0, .iconst 1, [1], .int 1, []) := rfl
theorem cd276_34 : code9 276 34 = some (0, .bipush 30, [2], .int 30, []) := rfl
theorem cd276_36 : code9 276 36 = some (0, .invokevirtual 367, [3, 277, 5, 1, 3, 5, 12, 0], .null, []) := rfl
theorem cd276_39 : code9 276 39 = some (0, .ireturn, [1, 3], .null, []) := rfl
theorem cd276_40 : code9 276 40 = some (0, .aload_n 0, [1], .null, []) := rfl
theorem cd276_41 : code9 276 41 = some (0, .getfield 113, [3, 12, 19, 2], .null, []) := rfl
theorem cd276_44 : code9 276 44 = some (0, .iconst 0, [1], .int 0, []) := rfl
theorem cd276_45 : code9 276 45 = some (0, .aload_n 0, [1], .null, []) := rfl
theorem cd276_46 : code9 276 46 = some (0, .getfield 98, [3, 12, 14, 2], .null, []) := rfl
theorem cd276_49 : code9 276 49 = some (0, .iconst 0, [1], .int 0, []) := rfl
theorem cd276_50 : code9 276 50 = some (0, .iaload, [1], .null, []) := rfl
theorem cd276_51 : code9 276 51 = some (0, .aload_n 0, [1], .null, []) := rfl
theorem cd276_52 : code9 276 52 = some (0, .getfield 43, [3, 12, 12, 1], .null, []) := rfl
theorem cd276_55 : code9 276 55 = some (0, .invokestatic 173, [3, 197, 4, 0, 1, 6, 12, 0], .null, []) := rfl
theorem cd276_58 : code9 276 58 = some (0, .istore_n 2, [1], .null, []) := rfl
theorem cd276_59 : code9 276 59 = some (0, .aload_n 0, [1], .null, []) := rfl
theorem cd276_60 : code9 276 60 = some (0, .getfield 154, [3, 12, 37, 2], .null, []) := rfl
theorem cd276_63 : code9 276 63 = some (0, .iload_n 1, [1], .null, []) := rfl
theorem cd276_64 : code9 276 64 = some (0, .iconst 1, [1], .int 1, []) := rfl
theorem cd276_65 : code9 276 65 = some (0, .iadd, [1], .null, []) := rfl
theorem cd276_66 : code9 276 66 = some (0, .iload_n 2, [1], .null, []) := rfl
theorem cd276_67 : code9 276 67 = some (0, .iconst (-1), [1], .int (-1), []) := rfl
theorem cd276_68 : code9 276 68 = some (0, .if_icmp .ne 25, [3, 93], .null, []) := rfl
theorem cd276_71 : code9 276 71 = some (0, .aload_n 0, [1], .null, []) := rfl
theorem cd276_72 : code9 276 72 = some (0, .getfield 113, [3, 12, 19, 2], .null, []) := rfl
theorem cd276_75 : code9 276 75 = some (0, .bipush 6, [2], .int 6, []) := rfl
theorem cd276_77 : code9 276 77 = some (0, .aload_n 0, [1], .null, []) := rfl
theorem cd276_78 : code9 276 78 = some (0, .getfield 98, [3, 12, 14, 2], .null, []) := rfl
theorem cd276_81 : code9 276 81 = some (0, .iconst 1, [1], .int 1, []) := rfl
theorem cd276_82 : code9 276 82 = some (0, .iaload, [1], .null, []) := rfl
theorem cd276_83 : code9 276 83 = some (0, .aload_n 0, [1], .null, []) := rfl
theorem cd276_84 : code9 276 84 = some (0, .getfield 43, [3, 12, 12, 1], .null, []) := rfl
theorem cd276_87 : code9 276 87 = some (0, .invokestatic 173, [3, 197, 4, 0, 1, 6, 12, 0], .null, []) := rfl
theorem cd276_90 : code9 276 90 = some (0, .goto 4, [3, 94, 3], .null, []) := rfl
theorem cd276_93 : code9 276 93 = some (0, .iload_n 2, [1], .null, []) := rfl
theorem cd276_94 : code9 276 94 = some (4, .iastore, [1], .null, []) := rfl
theorem cd276_95 : code9 276 95 = some (0, .aload_n 0, [1], .null, []) := rfl
theorem cd276_96 : code9 276 96 = some (0, .invokevirtual 82, [3, 179, 1, 1, 0, 5, 12, 0], .null, []) := rfl
theorem cd276_99 : code9 276 99 = some (0, .iload_n 2, [1], .null, []) := rfl
theorem cd276_100 : code9 276 100 = some (0, .iconst (-1), [1], .int (-1), []) := rfl
theorem cd276_101 : code9 276 101 = some (0, .if_icmp .eq 35, [3, 136], .null, []) := rfl
theorem cd276_104 : code9 276 104 = some (0, .aload_n 0, [1], .null, []) := rfl
theorem cd276_105 : code9 276 105 = some (0, .getfield 154, [3, 12, 37, 2], .null, []) := rfl
theorem cd276_108 : code9 276 108 = some (0, .iload_n 1, [1], .null, []) := rfl
theorem cd276_109 : code9 276 109 = some (0, .iconst 0, [1], .int 0, []) := rfl
theorem cd276_110 : code9 276 110 = some (0, .iastore, [1], .null, []) := rfl
theorem cd276_111 : code9 276 111 = some (0, .aload_n 0, [1], .null, []) := rfl
theorem cd276_112 : code9 276 112 = some (0, .bipush 14, [2], .int 14, []) := rfl
theorem cd276_114 : code9 276 114 = some (0, .invokevirtual 177, [3, 184, 2, 1, 3, 2, 12, 0], .null, []) := rfl
theorem cd276_117 : code9 276 117 = some (0, .ifCond .ne 9, [3, 126], .null, []) := rfl
theorem cd276_120 : code9 276 120 = some (0, .aload_n 0, [1], .null, []) := rfl
theorem cd276_121 : code9 276 121 = some (0, .iconst 1, [1], .int 1, []) := rfl
theorem cd276_122 : code9 276 122 = some (0, .invokevirtual 72, [3, 188, 2, 1, 3, 2, 12, 0], .null, []) := rfl
theorem cd276_125 : code9 276 125 = some (0, .ireturn, [1, 3], .null, []) := rfl
theorem cd276_126 : code9 276 126 = some (0, .aload_n 0, [1], .null, []) := rfl
theorem cd276_127 : code9 276 127 = some (0, .invokevirtual 82, [3, 179, 1, 1, 0, 5, 12, 0], .null, []) := rfl
theorem cd276_130 : code9 276 130 = some (0, .aload_n 0, [1], .null, []) := rfl
theorem cd276_131 : code9 276 131 = some (0, .iload_n 1, [1], .null, []) := rfl
theorem cd276_132 : code9 276 132 = some (0, .invokevirtual 371, [3, 278, 2, 1, 3, 2, 12, 0], .null, []) := rfl
theorem cd276_135 : code9 276 135 = some (0, .ireturn, [1, 3], .null, []) := rfl
theorem cd276_136 : code9 276 136 = some (0, .aload_n 0, [1], .null, []) := rfl
theorem cd276_137 : code9 276 137 = some (0, .bipush 24, [2], .int 24, []) := rfl
theorem cd276_139 : code9 276 139 = some (0, .invokevirtual 177, [3, 184, 2, 1, 3, 2, 12, 0], .null, []) := rfl
theorem cd276_142 : code9 276 142 = some (0, .ifCond .eq 7, [3, 149], .null, []) := rfl
theorem cd276_145 : code9 276 145 = some (0, .iconst 1, [1], .int 1, []) := rfl
theorem cd276_146 : code9 276 146 = some (0, .goto 43, [3, 189, 3], .null, []) := rfl
theorem cd276_149 : code9 276 149 = some (0, .aload_n 0, [1], .null, []) := rfl
theorem cd276_150 : code9 276 150 = some (0, .bipush 25, [2], .int 25, []) := rfl
theorem cd276_152 : code9 276 152 = some (0, .invokevirtual 177, [3, 184, 2, 1, 3, 2, 12, 0], .null, []) := rfl
theorem cd276_155 : code9 276 155 = some (0, .ifCond .eq 7, [3, 162], .null, []) := rfl
theorem cd276_158 : code9 276 158 = some (0, .iconst 2, [1], .int 2, []) := rfl
theorem cd276_159 : code9 276 159 = some (0, .goto 30, [3, 189, 3], .null, []) := rfl
theorem cd276_162 : code9 276 162 = some (0, .aload_n 0, [1], .null, []) := rfl
theorem cd276_163 : code9 276 163 = some (0, .bipush 15, [2], .int 15, []) := rfl
theorem cd276_165 : code9 276 165 = some (0, .invokevirtual 177, [3, 184, 2, 1, 3, 2, 12, 0], .null, []) := rfl
theorem cd276_168 : code9 276 168 = some (0, .ifCond .eq 7, [3, 175], .null, []) := rfl
theorem cd276_171 : code9 276 171 = some (0, .iconst 3, [1], .int 3, []) := rfl
theorem cd276_172 : code9 276 172 = some (0, .goto 17, [3, 189, 3], .null, []) := rfl
theorem cd276_175 : code9 276 175 = some (0, .aload_n 0, [1], .null, []) := rfl
theorem cd276_176 : code9 276 176 = some (0, .bipush 16, [2], .int 16, []) := rfl
theorem cd276_178 : code9 276 178 = some (0, .invokevirtual 177, [3, 184, 2, 1, 3, 2, 12, 0], .null, []) := rfl
theorem cd276_181 : code9 276 181 = some (0, .ifCond .eq 7, [3, 188], .null, []) := rfl
theorem cd276_184 : code9 276 184 = some (0, .iconst 4, [1], .int 4, []) := rfl
theorem cd276_185 : code9 276 185 = some (0, .goto 4, [3, 189, 3], .null, []) := rfl
theorem cd276_188 : code9 276 188 = some (0, .iconst (-1), [1], .int (-1), []) := rfl
theorem cd276_189 : code9 276 189 = some (4, .istore_n 3, [1], .null, []) := rfl
theorem cd276_190 : code9 276 190 = some (0, .iload_n 3, [1], .null, []) := rfl
theorem cd276_191 : code9 276 191 = some (0, .iconst (-1), [1], .int (-1), []) := rfl
theorem cd276_192 : code9 276 192 = some (0, .if_icmp .ne 9, [3, 201], .null, []) := rfl
theorem cd276_195 : code9 276 195 = some (0, .aload_n 0, [1], .null, []) := rfl
theorem cd276_196 : code9 276 196 = some (0, .iconst 1, [1], .int 1, []) := rfl
theorem cd276_197 : code9 276 197 = some (0, .invokevirtual 72, [3, 188, 2, 1, 3, 2, 12, 0], .null, []) := rfl
theorem cd276_200 : code9 276 200 = some (0, .ireturn, [1, 3], .null, []) := rfl
theorem cd276_201 : code9 276 201 = some (0, .aload_n 0, [1], .null, []) := rfl
theorem cd276_202 : code9 276 202 = some (0, .getfield 154, [3, 12, 37, 2], .null, []) := rfl
theorem cd276_205 : code9 276 205 = some (0, .iload_n 1, [1], .null, []) := rfl
theorem cd276_206 : code9 276 206 = some (0, .iload_n 3, [1], .null, []) := rfl
theorem cd276_207 : code9 276 207 = some (0, .iastore, [1], .null, []) := rfl
theorem cd276_208 : code9 276 208 = some (0, .aload_n 0, [1], .null, []) := rfl
theorem cd276_209 : code9 276 209 = some (0, .invokevirtual 82, [3, 179, 1, 1, 0, 5, 12, 0], .null, []) := rfl
theorem cd276_212 : code9 276 212 = some (0, .iload_n 3, [1], .null, []) := rfl
theorem cd276_213 : code9 276 213 = some (0, .iconst 3, [1], .int 3, []) := rfl
theorem cd276_214 : code9 276 214 = some (0, .if_icmp .ne 9, [3, 223], .null, []) := rfl
theorem cd276_217 : code9 276 217 = some (0, .aload_n 0, [1], .null, []) := rfl
theorem cd276_218 : code9 276 218 = some (0, .iload_n 1, [1], .null, []) := rfl
theorem cd276_219 : code9 276 219 = some (0, .invokevirtual 371, [3, 278, 2, 1, 3, 2, 12, 0], .null, []) := rfl
theorem cd276_222 : code9 276 222 = some (0, .ireturn, [1, 3], .null, []) := rfl
theorem cd276_223 : code9 276 223 = some (0, .iload_n 3, [1], .null, []) := rfl
theorem cd276_224 : code9 276 224 = some (0, .iconst 4, [1], .int 4, []) := rfl
theorem cd276_225 : code9 276 225 = some (0, .if_icmp .eq 5, [3, 230], .null, []) := rfl
theorem cd276_228 : code9 276 228 = some (0, .iconst 1, [1], .int 1, []) := rfl
theorem cd276_229 : code9 276 229 = some (0, .ireturn, [1, 3], .null, []) := rfl
theorem cd276_230 : code9 276 230 = some (0, .aload_n 0, [1], .null, []) := rfl
theorem cd276_231 : code9 276 231 = some (0, .invokevirtual 169, [3, 196, 1, 1, 3, 2, 12, 0], .null, []) := rfl
theorem cd276_234 : code9 276 234 = some (0, .ifCond .ne 9, [3, 243], .null, []) := rfl
theorem cd276_237 : code9 276 237 = some (0, .aload_n 0, [1], .null, []) := rfl
theorem cd276_238 : code9 276 238 = some (0, .iconst 1, [1], .int 1, []) := rfl
theorem cd276_239 : code9 276 239 = some (0, .invokevirtual 72, [3, 188, 2, 1, 3, 2, 12, 0], .null, []) := rfl
theorem cd276_242 : code9 276 242 = some (0, .ireturn, [1, 3], .null, []) := rfl
theorem cd276_243 : code9 276 243 = some (0, .aload_n 0, [1], .null, []) := rfl
theorem cd276_244 : code9 276 244 = some (0, .getfield 154, [3, 12, 37, 2], .null, []) := rfl
theorem cd276_247 : code9 276 247 = some (0, .iload_n 1, [1], .null, []) := rfl
theorem cd276_248 : code9 276 248 = some (0, .iconst 2, [1], .int 2, []) := rfl
theorem cd276_249 : code9 276 249 = some (0, .iadd, [1], .null, []) := rfl
theorem cd276_250 : code9 276 250 = some (0, .aload_n 0, [1], .null, []) := rfl
theorem cd276_251 : code9 276 251 = some (0, .getfield 113, [3, 12, 19, 2], .null, []) := rfl
theorem cd276_254 : code9 276 254 = some (0, .iconst 0, [1], .int 0, []) := rfl
theorem cd276_255 : code9 276 255 = some (0, .aload_n 0, [1], .null, []) := rfl
theorem cd276_256 : code9 276 256 = some (0, .getfield 98, [3, 12, 14, 2], .null, []) := rfl
theorem cd276_259 : code9 276 259 = some (0, .iconst 0, [1], .int 0, []) := rfl
theorem cd276_260 : code9 276 260 = some (0, .iaload, [1], .null, []) := rfl
theorem cd276_261 : code9 276 261 = some (0, .aload_n 0, [1], .null, []) := rfl
theorem cd276_262 : code9 276 262 = some (0, .getfield 43, [3, 12, 12, 1], .null, []) := rfl
theorem cd276_265 : code9 276 265 = some (0, .invokestatic 173, [3, 197, 4, 0, 1, 6, 12, 0], .null, []) := rfl
theorem cd276_268 : code9 276 268 = some (0, .iastore, [1], .null, []) := rfl
theorem cd276_269 : code9 276 269 = some (0, .aload_n 0, [1], .null, []) := rfl
theorem cd276_270 : code9 276 270 = some (0, .getfield 154, [3, 12, 37, 2], .null, []) := rfl
theorem cd276_273 : code9 276 273 = some (0, .iload_n 1, [1], .null, []) := rfl
theorem cd276_274 : code9 276 274 = some (0, .iconst 2, [1], .int 2, []) := rfl
theorem cd276_275 : code9 276 275 = some (0, .iadd, [1], .null, []) := rfl
theorem cd276_276 : code9 276 276 = some (0, .iaload, [1], .null, []) := rfl
theorem cd276_277 : code9 276 277 = some (0, .iconst (-1), [1], .int (-1), []) := rfl
theorem cd276_278 : code9 276 278 = some (0, .if_icmp .ne 9, [3, 287], .null, []) := rfl
theorem cd276_281 : code9 276 281 = some (0, .aload_n 0, [1], .null, []) := rfl
theorem cd276_282 : code9 276 282 = some (0, .iconst 3, [1], .int 3, []) := rfl
theorem cd276_283 : code9 276 283 = some (0, .invokevirtual 72, [3, 188, 2, 1, 3, 2, 12, 0], .null, []) := rfl
theorem cd276_286 : code9 276 286 = some (0, .ireturn, [1, 3], .null, []) := rfl
theorem cd276_287 : code9 276 287 = some (0, .aload_n 0, [1], .null, []) := rfl
theorem cd276_288 : code9 276 288 = some (0, .invokevirtual 82, [3, 179, 1, 1, 0, 5, 12, 0], .null, []) := rfl
theorem cd276_291 : code9 276 291 = some (0, .iconst 1, [1], .int 1, []) := rfl
theorem cd276_292 : code9 276 292 = some (0, .ireturn, [1, 3], .null, []) := rfl
def Mod_readDoes (N : Nat) (l1 : Int32) (I : FI) (J : FJ) : Option (Bool × FI × FJ) := if (Mod_isWord 17 I J) then (Option.bind (Mod_readMany N l1 6 0 999 I J) fun x62 => (some (x62.1, x62.2.1, x62.2.2))) else (if (Mod_isWord 18 I J) then (Option.bind (Mod_readMany N l1 5 1 30 I J) fun x61 => (some (x61.1, x61.2.1, x61.2.2))) else (Option.bind (Mod_findIn N 211 22 0 (I 206 ((0 : Int32).toNatClampNeg)) (J 204 12) J) fun x1 => (if x1 = (-1) then (Option.bind (Mod_findIn N 211 22 6 (I 206 ((1 : Int32).toNatClampNeg)) (J 204 12) J) fun x2 => (if in9 (l1 + 1) 160 then (Option.bind (some (up2 I 222 ((l1 + 1).toNatClampNeg) x2)) fun I4 => (Option.bind (Mod_go N I4 J) fun x5 => (if x1 = (-1) then (if (Mod_isWord 24 x5.1 x5.2) then (if in9 l1 160 then (Option.bind (some (up2 x5.1 222 l1.toNatClampNeg (1 : Int32))) fun I25 => (Option.bind (Mod_go N I25 x5.2) fun x26 => (some (true, x26.1, x26.2)))) else none) else (if (Mod_isWord 25 x5.1 x5.2) then (if in9 l1 160 then (Option.bind (some (up2 x5.1 222 l1.toNatClampNeg (2 : Int32))) fun I22 => (Option.bind (Mod_go N I22 x5.2) fun x23 => (some (true, x23.1, x23.2)))) else none) else (if (Mod_isWord 15 x5.1 x5.2) then (if in9 l1 160 then (Option.bind (some (up2 x5.1 222 l1.toNatClampNeg (3 : Int32))) fun I18 => (Option.bind (Mod_go N I18 x5.2) fun x19 => (Option.bind (Mod_readPlace N l1 x19.1 x19.2) fun x20 => (some (x20.1, x20.2.1, x20.2.2))))) else none) else (if (Mod_isWord 16 x5.1 x5.2) then (if in9 l1 160 then (Option.bind (some (up2 x5.1 222 l1.toNatClampNeg (4 : Int32))) fun I8 => (Option.bind (Mod_go N I8 x5.2) fun x9 => (Option.bind (Mod_isName N x9.1 x9.2) fun x10 => (if x10 then (Option.bind (Mod_findIn N 211 22 0 (x9.1 206 ((0 : Int32).toNatClampNeg)) (x9.2 204 12) x9.2) fun x12 => (if in9 (l1 + 2) 160 then (Option.bind (some (up2 x9.1 222 ((l1 + 2).toNatClampNeg) x12)) fun I14 => (if (I14 222 ((l1 + 2).toNatClampNeg)) = (-1) then (Option.bind (Mod_bad 3 I14) fun x15 => (some (x15.1, x15.2, x9.2))) else (Option.bind (Mod_go N I14 x9.2) fun x16 => (some (true, x16.1, x16.2))))) else none)) else (Option.bind (Mod_bad 1 x9.1) fun x11 => (some (x11.1, x11.2, x9.2))))))) else none) else (Option.bind (Mod_bad 1 x5.1) fun x6 => (some (x6.1, x6.2, x5.2))))))) else (if in9 l1 160 then (Option.bind (some (up2 x5.1 222 l1.toNatClampNeg (0 : Int32))) fun I28 => (if (Mod_isWord 14 I28 x5.2) then (Option.bind (Mod_go N I28 x5.2) fun x30 => (Option.bind (Mod_readPlace N l1 x30.1 x30.2) fun x31 => (some (x31.1, x31.2.1, x31.2.2)))) else (Option.bind (Mod_bad 1 I28) fun x29 => (some (x29.1, x29.2, x5.2))))) else none)))) else none)) else (if in9 (l1 + 1) 160 then (Option.bind (some (up2 I 222 ((l1 + 1).toNatClampNeg) x1)) fun I33 => (Option.bind (Mod_go N I33 J) fun x34 => (if x1 = (-1) then (if (Mod_isWord 24 x34.1 x34.2) then (if in9 l1 160 then (Option.bind (some (up2 x34.1 222 l1.toNatClampNeg (1 : Int32))) fun I54 => (Option.bind (Mod_go N I54 x34.2) fun x55 => (some (true, x55.1, x55.2)))) else none) else (if (Mod_isWord 25 x34.1 x34.2) then (if in9 l1 160 then (Option.bind (some (up2 x34.1 222 l1.toNatClampNeg (2 : Int32))) fun I51 => (Option.bind (Mod_go N I51 x34.2) fun x52 => (some (true, x52.1, x52.2)))) else none) else (if (Mod_isWord 15 x34.1 x34.2) then (if in9 l1 160 then (Option.bind (some (up2 x34.1 222 l1.toNatClampNeg (3 : Int32))) fun I47 => (Option.bind (Mod_go N I47 x34.2) fun x48 => (Option.bind (Mod_readPlace N l1 x48.1 x48.2) fun x49 => (some (x49.1, x49.2.1, x49.2.2))))) else none) else (if (Mod_isWord 16 x34.1 x34.2) then (if in9 l1 160 then (Option.bind (some (up2 x34.1 222 l1.toNatClampNeg (4 : Int32))) fun I37 => (Option.bind (Mod_go N I37 x34.2) fun x38 => (Option.bind (Mod_isName N x38.1 x38.2) fun x39 => (if x39 then (Option.bind (Mod_findIn N 211 22 0 (x38.1 206 ((0 : Int32).toNatClampNeg)) (x38.2 204 12) x38.2) fun x41 => (if in9 (l1 + 2) 160 then (Option.bind (some (up2 x38.1 222 ((l1 + 2).toNatClampNeg) x41)) fun I43 => (if (I43 222 ((l1 + 2).toNatClampNeg)) = (-1) then (Option.bind (Mod_bad 3 I43) fun x44 => (some (x44.1, x44.2, x38.2))) else (Option.bind (Mod_go N I43 x38.2) fun x45 => (some (true, x45.1, x45.2))))) else none)) else (Option.bind (Mod_bad 1 x38.1) fun x40 => (some (x40.1, x40.2, x38.2))))))) else none) else (Option.bind (Mod_bad 1 x34.1) fun x35 => (some (x35.1, x35.2, x34.2))))))) else (if in9 l1 160 then (Option.bind (some (up2 x34.1 222 l1.toNatClampNeg (0 : Int32))) fun I57 => (if (Mod_isWord 14 I57 x34.2) then (Option.bind (Mod_go N I57 x34.2) fun x59 => (Option.bind (Mod_readPlace N l1 x59.1 x59.2) fun x60 => (some (x60.1, x60.2.1, x60.2.2)))) else (Option.bind (Mod_bad 1 I57) fun x58 => (some (x58.1, x58.2, x34.2))))) else none)))) else none))))
set_option maxRecDepth 8000 in
theorem t_Mod_readDoes {d : Nat} {N : Nat} {c : Nat × Nat} {S : Nat → Nat × Nat} {P : Nat → Nat → Option Nat} {I : FI} {J : FJ} {l1 : Int32} {r : Bool × FI × FJ} (hd : 4 ≤ d) (hw : OM S P) (h : Mod_readDoes N l1 I J = some r) : Go d M_Mod_readDoes 0 [some (.ref 204), some (.int l1), none, none] [] (c, S, I, J, P) (some (.int (b2i r.1)), false, (c, S, r.2.1, r.2.2, P)) := by
  obtain ⟨d, rfl⟩ : ∃ e, d = e + 1 := ⟨d - 1, by omega⟩
  unfold Mod_readDoes at h
  refine g_aload_n cd276_0 rfl rfl ?_
  refine g_bipush cd276_1 rfl ?_
  refine g_callVZ (L := [some (.ref 204), some (.int 17)]) cd276_3 rfl rfl rfl rfl rfl (OM.o hw) (t_Mod_isWord (by omega) hw rfl) ?_
  refine g_if_eq cd276_6 rfl (fun hb => ?_) (fun hb => ?_)
  · have h := ifnE (b2i_f hb) h
    refine g_aload_n cd276_21 rfl rfl ?_
    refine g_bipush cd276_22 rfl ?_
    refine g_callVZ (L := [some (.ref 204), some (.int 18)]) cd276_24 rfl rfl rfl rfl rfl (OM.o hw) (t_Mod_isWord (by omega) hw rfl) ?_
    refine g_if_eq cd276_27 rfl (fun hb => ?_) (fun hb => ?_)
    · have h := ifnE (b2i_f hb) h
      refine g_aload_n cd276_40 rfl rfl ?_
      refine g_getP cd276_41 rfl (OM.o hw) (OM.p19 hw) ?_
      refine g_iconst cd276_44 rfl ?_
      refine g_aload_n cd276_45 rfl rfl ?_
      refine g_getP cd276_46 rfl (OM.o hw) (OM.p14 hw) ?_
      refine g_iconst cd276_49 rfl ?_
      refine G_iald cd276_50 rfl (OM.s14 hw) (by decide) ?_
      refine g_aload_n cd276_51 rfl rfl ?_
      refine g_getJ cd276_52 rfl (OM.o hw) ?_
      obtain ⟨x1, hx, h⟩ := bnd h
      refine g_callSI (L := [some (.ref 211), some (.int 0), some (.int (I 206 ((0 : Int32).toNatClampNeg))), some (.long (J 204 12)), none, none]) cd276_55 rfl rfl rfl rfl rfl (t_Mod_findIn (by omega) (OM.s19 hw) hx) ?_
      refine g_istore_n (ls2 := [some (.ref 204), some (.int l1), some (.int x1), none]) cd276_58 rfl rfl ?_
      refine g_aload_n cd276_59 rfl rfl ?_
      refine g_getP cd276_60 rfl (OM.o hw) (OM.p37 hw) ?_
      refine g_iload_n cd276_63 rfl rfl ?_
      refine g_iconst cd276_64 rfl ?_
      refine g_iadd cd276_65 rfl ?_
      refine g_iload_n cd276_66 rfl rfl ?_
      refine g_iconst cd276_67 rfl ?_
      refine g_icmp_ne cd276_68 rfl (fun hb => ?_) (fun hb => ?_)
      · have h := ifpE hb h
        refine g_aload_n cd276_71 rfl rfl ?_
        refine g_getP cd276_72 rfl (OM.o hw) (OM.p19 hw) ?_
        refine g_bipush cd276_75 rfl ?_
        refine g_aload_n cd276_77 rfl rfl ?_
        refine g_getP cd276_78 rfl (OM.o hw) (OM.p14 hw) ?_
        refine g_iconst cd276_81 rfl ?_
        refine G_iald cd276_82 rfl (OM.s14 hw) (by decide) ?_
        refine g_aload_n cd276_83 rfl rfl ?_
        refine g_getJ cd276_84 rfl (OM.o hw) ?_
        obtain ⟨x2, hx, h⟩ := bnd h
        refine g_callSI (L := [some (.ref 211), some (.int 6), some (.int (I 206 ((1 : Int32).toNatClampNeg))), some (.long (J 204 12)), none, none]) cd276_87 rfl rfl rfl rfl rfl (t_Mod_findIn (by omega) (OM.s19 hw) hx) ?_
        refine g_goto (ls2 := [some (.ref 204), some (.int l1), some (.int x1), none]) cd276_90 rfl rfl ?_
        obtain ⟨hg3, h⟩ := grd h
        obtain ⟨I4, e1, h⟩ := bnd h
        refine G_iast cd276_94 rfl (OM.s37 hw) hg3 (Option.some.inj e1) ?_
        refine g_aload_n cd276_95 rfl rfl ?_
        obtain ⟨x5, hx, h⟩ := bnd h
        refine g_callVV (L := [some (.ref 204), none, none, none, none]) cd276_96 rfl rfl rfl rfl rfl (OM.o hw) (t_Mod_go (by omega) hw hx) ?_
        refine g_iload_n cd276_99 rfl rfl ?_
        refine g_iconst cd276_100 rfl ?_
        refine g_icmp_eq cd276_101 rfl (fun hb => ?_) (fun hb => ?_)
        · have h := ifpE hb h
          refine g_aload_n cd276_136 rfl rfl ?_
          refine g_bipush cd276_137 rfl ?_
          refine g_callVZ (L := [some (.ref 204), some (.int 24)]) cd276_139 rfl rfl rfl rfl rfl (OM.o hw) (t_Mod_isWord (by omega) hw rfl) ?_
          refine g_if_eq cd276_142 rfl (fun hb => ?_) (fun hb => ?_)
          · have h := ifnE (b2i_f hb) h
            refine g_aload_n cd276_149 rfl rfl ?_
            refine g_bipush cd276_150 rfl ?_
            refine g_callVZ (L := [some (.ref 204), some (.int 25)]) cd276_152 rfl rfl rfl rfl rfl (OM.o hw) (t_Mod_isWord (by omega) hw rfl) ?_
            refine g_if_eq cd276_155 rfl (fun hb => ?_) (fun hb => ?_)
            · have h := ifnE (b2i_f hb) h
              refine g_aload_n cd276_162 rfl rfl ?_
              refine g_bipush cd276_163 rfl ?_
              refine g_callVZ (L := [some (.ref 204), some (.int 15)]) cd276_165 rfl rfl rfl rfl rfl (OM.o hw) (t_Mod_isWord (by omega) hw rfl) ?_
              refine g_if_eq cd276_168 rfl (fun hb => ?_) (fun hb => ?_)
              · have h := ifnE (b2i_f hb) h
                refine g_aload_n cd276_175 rfl rfl ?_
                refine g_bipush cd276_176 rfl ?_
                refine g_callVZ (L := [some (.ref 204), some (.int 16)]) cd276_178 rfl rfl rfl rfl rfl (OM.o hw) (t_Mod_isWord (by omega) hw rfl) ?_
                refine g_if_eq cd276_181 rfl (fun hb => ?_) (fun hb => ?_)
                · have h := ifnE (b2i_f hb) h
                  refine g_iconst cd276_188 rfl ?_
                  refine g_istore_n (ls2 := [some (.ref 204), some (.int l1), some (.int x1), some (.int (-1))]) cd276_189 rfl rfl ?_
                  refine g_iload_n cd276_190 rfl rfl ?_
                  refine g_iconst cd276_191 rfl ?_
                  refine g_icmp_ne cd276_192 rfl (fun hb => ?_) (fun hb => ?_)
                  rotate_left
                  · exact absurd (by decide) hb
                  refine g_aload_n cd276_195 rfl rfl ?_
                  refine g_iconst cd276_196 rfl ?_
                  obtain ⟨x6, hx, h⟩ := bnd h
                  refine g_callVZ (L := [some (.ref 204), some (.int 1)]) cd276_197 rfl rfl rfl rfl rfl (OM.o hw) (t_Mod_bad (by omega) hw hx) ?_
                  exact g_iret cd276_200 (Or.inr ⟨rfl, b2i_or _⟩) (by obtain rfl := Option.some.inj h; rfl)
                · have h := ifpE (b2i_t hb) h
                  refine g_iconst cd276_184 rfl ?_
                  refine g_goto (ls2 := [some (.ref 204), some (.int l1), some (.int x1), none]) cd276_185 rfl rfl ?_
                  refine g_istore_n (ls2 := [some (.ref 204), some (.int l1), some (.int x1), some (.int 4)]) cd276_189 rfl rfl ?_
                  refine g_iload_n cd276_190 rfl rfl ?_
                  refine g_iconst cd276_191 rfl ?_
                  refine g_icmp_ne cd276_192 rfl (fun hb => ?_) (fun hb => ?_)
                  · exact absurd hb (by decide)
                  refine g_aload_n cd276_201 rfl rfl ?_
                  refine g_getP cd276_202 rfl (OM.o hw) (OM.p37 hw) ?_
                  refine g_iload_n cd276_205 rfl rfl ?_
                  refine g_iload_n cd276_206 rfl rfl ?_
                  obtain ⟨hg7, h⟩ := grd h
                  obtain ⟨I8, e1, h⟩ := bnd h
                  refine G_iast cd276_207 rfl (OM.s37 hw) hg7 (Option.some.inj e1) ?_
                  refine g_aload_n cd276_208 rfl rfl ?_
                  obtain ⟨x9, hx, h⟩ := bnd h
                  refine g_callVV (L := [some (.ref 204), none, none, none, none]) cd276_209 rfl rfl rfl rfl rfl (OM.o hw) (t_Mod_go (by omega) hw hx) ?_
                  refine g_iload_n cd276_212 rfl rfl ?_
                  refine g_iconst cd276_213 rfl ?_
                  refine g_icmp_ne cd276_214 rfl (fun hb => ?_) (fun hb => ?_)
                  · exact absurd hb (by decide)
                  refine g_iload_n cd276_223 rfl rfl ?_
                  refine g_iconst cd276_224 rfl ?_
                  refine g_icmp_eq cd276_225 rfl (fun hb => ?_) (fun hb => ?_)
                  rotate_left
                  · exact absurd (by decide) hb
                  refine g_aload_n cd276_230 rfl rfl ?_
                  obtain ⟨x10, hx, h⟩ := bnd h
                  refine g_callVZ (L := [some (.ref 204), none]) cd276_231 rfl rfl rfl rfl rfl (OM.o hw) (t_Mod_isName (by omega) hw hx) ?_
                  refine g_if_ne cd276_234 rfl (fun hb => ?_) (fun hb => ?_)
                  · have h := ifnE (b2i_f hb) h
                    refine g_aload_n cd276_237 rfl rfl ?_
                    refine g_iconst cd276_238 rfl ?_
                    obtain ⟨x11, hx, h⟩ := bnd h
                    refine g_callVZ (L := [some (.ref 204), some (.int 1)]) cd276_239 rfl rfl rfl rfl rfl (OM.o hw) (t_Mod_bad (by omega) hw hx) ?_
                    exact g_iret cd276_242 (Or.inr ⟨rfl, b2i_or _⟩) (by obtain rfl := Option.some.inj h; rfl)
                  · have h := ifpE (b2i_t hb) h
                    refine g_aload_n cd276_243 rfl rfl ?_
                    refine g_getP cd276_244 rfl (OM.o hw) (OM.p37 hw) ?_
                    refine g_iload_n cd276_247 rfl rfl ?_
                    refine g_iconst cd276_248 rfl ?_
                    refine g_iadd cd276_249 rfl ?_
                    refine g_aload_n cd276_250 rfl rfl ?_
                    refine g_getP cd276_251 rfl (OM.o hw) (OM.p19 hw) ?_
                    refine g_iconst cd276_254 rfl ?_
                    refine g_aload_n cd276_255 rfl rfl ?_
                    refine g_getP cd276_256 rfl (OM.o hw) (OM.p14 hw) ?_
                    refine g_iconst cd276_259 rfl ?_
                    refine G_iald cd276_260 rfl (OM.s14 hw) (by decide) ?_
                    refine g_aload_n cd276_261 rfl rfl ?_
                    refine g_getJ cd276_262 rfl (OM.o hw) ?_
                    obtain ⟨x12, hx, h⟩ := bnd h
                    refine g_callSI (L := [some (.ref 211), some (.int 0), some (.int (x9.1 206 ((0 : Int32).toNatClampNeg))), some (.long (x9.2 204 12)), none, none]) cd276_265 rfl rfl rfl rfl rfl (t_Mod_findIn (by omega) (OM.s19 hw) hx) ?_
                    obtain ⟨hg13, h⟩ := grd h
                    obtain ⟨I14, e1, h⟩ := bnd h
                    refine G_iast cd276_268 rfl (OM.s37 hw) hg13 (Option.some.inj e1) ?_
                    refine g_aload_n cd276_269 rfl rfl ?_
                    refine g_getP cd276_270 rfl (OM.o hw) (OM.p37 hw) ?_
                    refine g_iload_n cd276_273 rfl rfl ?_
                    refine g_iconst cd276_274 rfl ?_
                    refine g_iadd cd276_275 rfl ?_
                    refine G_iald cd276_276 rfl (OM.s37 hw) hg13 ?_
                    refine g_iconst cd276_277 rfl ?_
                    refine g_icmp_ne cd276_278 rfl (fun hb => ?_) (fun hb => ?_)
                    · have h := ifpE hb h
                      refine g_aload_n cd276_281 rfl rfl ?_
                      refine g_iconst cd276_282 rfl ?_
                      obtain ⟨x15, hx, h⟩ := bnd h
                      refine g_callVZ (L := [some (.ref 204), some (.int 3)]) cd276_283 rfl rfl rfl rfl rfl (OM.o hw) (t_Mod_bad (by omega) hw hx) ?_
                      exact g_iret cd276_286 (Or.inr ⟨rfl, b2i_or _⟩) (by obtain rfl := Option.some.inj h; rfl)
                    · have h := ifnE hb h
                      refine g_aload_n cd276_287 rfl rfl ?_
                      obtain ⟨x16, hx, h⟩ := bnd h
                      refine g_callVV (L := [some (.ref 204), none, none, none, none]) cd276_288 rfl rfl rfl rfl rfl (OM.o hw) (t_Mod_go (by omega) hw hx) ?_
                      refine g_iconst cd276_291 rfl ?_
                      exact g_iret cd276_292 (Or.inr ⟨rfl, Or.inr rfl⟩) (by obtain rfl := Option.some.inj h; rfl)
              · have h := ifpE (b2i_t hb) h
                refine g_iconst cd276_171 rfl ?_
                refine g_goto (ls2 := [some (.ref 204), some (.int l1), some (.int x1), none]) cd276_172 rfl rfl ?_
                refine g_istore_n (ls2 := [some (.ref 204), some (.int l1), some (.int x1), some (.int 3)]) cd276_189 rfl rfl ?_
                refine g_iload_n cd276_190 rfl rfl ?_
                refine g_iconst cd276_191 rfl ?_
                refine g_icmp_ne cd276_192 rfl (fun hb => ?_) (fun hb => ?_)
                · exact absurd hb (by decide)
                refine g_aload_n cd276_201 rfl rfl ?_
                refine g_getP cd276_202 rfl (OM.o hw) (OM.p37 hw) ?_
                refine g_iload_n cd276_205 rfl rfl ?_
                refine g_iload_n cd276_206 rfl rfl ?_
                obtain ⟨hg17, h⟩ := grd h
                obtain ⟨I18, e1, h⟩ := bnd h
                refine G_iast cd276_207 rfl (OM.s37 hw) hg17 (Option.some.inj e1) ?_
                refine g_aload_n cd276_208 rfl rfl ?_
                obtain ⟨x19, hx, h⟩ := bnd h
                refine g_callVV (L := [some (.ref 204), none, none, none, none]) cd276_209 rfl rfl rfl rfl rfl (OM.o hw) (t_Mod_go (by omega) hw hx) ?_
                refine g_iload_n cd276_212 rfl rfl ?_
                refine g_iconst cd276_213 rfl ?_
                refine g_icmp_ne cd276_214 rfl (fun hb => ?_) (fun hb => ?_)
                rotate_left
                · exact absurd (by decide) hb
                refine g_aload_n cd276_217 rfl rfl ?_
                refine g_iload_n cd276_218 rfl rfl ?_
                obtain ⟨x20, hx, h⟩ := bnd h
                refine g_callVZ (L := [some (.ref 204), some (.int l1)]) cd276_219 rfl rfl rfl rfl rfl (OM.o hw) (t_Mod_readPlace (by omega) hw hx) ?_
                exact g_iret cd276_222 (Or.inr ⟨rfl, b2i_or _⟩) (by obtain rfl := Option.some.inj h; rfl)
            · have h := ifpE (b2i_t hb) h
              refine g_iconst cd276_158 rfl ?_
              refine g_goto (ls2 := [some (.ref 204), some (.int l1), some (.int x1), none]) cd276_159 rfl rfl ?_
              refine g_istore_n (ls2 := [some (.ref 204), some (.int l1), some (.int x1), some (.int 2)]) cd276_189 rfl rfl ?_
              refine g_iload_n cd276_190 rfl rfl ?_
              refine g_iconst cd276_191 rfl ?_
              refine g_icmp_ne cd276_192 rfl (fun hb => ?_) (fun hb => ?_)
              · exact absurd hb (by decide)
              refine g_aload_n cd276_201 rfl rfl ?_
              refine g_getP cd276_202 rfl (OM.o hw) (OM.p37 hw) ?_
              refine g_iload_n cd276_205 rfl rfl ?_
              refine g_iload_n cd276_206 rfl rfl ?_
              obtain ⟨hg21, h⟩ := grd h
              obtain ⟨I22, e1, h⟩ := bnd h
              refine G_iast cd276_207 rfl (OM.s37 hw) hg21 (Option.some.inj e1) ?_
              refine g_aload_n cd276_208 rfl rfl ?_
              obtain ⟨x23, hx, h⟩ := bnd h
              refine g_callVV (L := [some (.ref 204), none, none, none, none]) cd276_209 rfl rfl rfl rfl rfl (OM.o hw) (t_Mod_go (by omega) hw hx) ?_
              refine g_iload_n cd276_212 rfl rfl ?_
              refine g_iconst cd276_213 rfl ?_
              refine g_icmp_ne cd276_214 rfl (fun hb => ?_) (fun hb => ?_)
              · exact absurd hb (by decide)
              refine g_iload_n cd276_223 rfl rfl ?_
              refine g_iconst cd276_224 rfl ?_
              refine g_icmp_eq cd276_225 rfl (fun hb => ?_) (fun hb => ?_)
              · exact absurd hb (by decide)
              refine g_iconst cd276_228 rfl ?_
              exact g_iret cd276_229 (Or.inr ⟨rfl, Or.inr rfl⟩) (by obtain rfl := Option.some.inj h; rfl)
          · have h := ifpE (b2i_t hb) h
            refine g_iconst cd276_145 rfl ?_
            refine g_goto (ls2 := [some (.ref 204), some (.int l1), some (.int x1), none]) cd276_146 rfl rfl ?_
            refine g_istore_n (ls2 := [some (.ref 204), some (.int l1), some (.int x1), some (.int 1)]) cd276_189 rfl rfl ?_
            refine g_iload_n cd276_190 rfl rfl ?_
            refine g_iconst cd276_191 rfl ?_
            refine g_icmp_ne cd276_192 rfl (fun hb => ?_) (fun hb => ?_)
            · exact absurd hb (by decide)
            refine g_aload_n cd276_201 rfl rfl ?_
            refine g_getP cd276_202 rfl (OM.o hw) (OM.p37 hw) ?_
            refine g_iload_n cd276_205 rfl rfl ?_
            refine g_iload_n cd276_206 rfl rfl ?_
            obtain ⟨hg24, h⟩ := grd h
            obtain ⟨I25, e1, h⟩ := bnd h
            refine G_iast cd276_207 rfl (OM.s37 hw) hg24 (Option.some.inj e1) ?_
            refine g_aload_n cd276_208 rfl rfl ?_
            obtain ⟨x26, hx, h⟩ := bnd h
            refine g_callVV (L := [some (.ref 204), none, none, none, none]) cd276_209 rfl rfl rfl rfl rfl (OM.o hw) (t_Mod_go (by omega) hw hx) ?_
            refine g_iload_n cd276_212 rfl rfl ?_
            refine g_iconst cd276_213 rfl ?_
            refine g_icmp_ne cd276_214 rfl (fun hb => ?_) (fun hb => ?_)
            · exact absurd hb (by decide)
            refine g_iload_n cd276_223 rfl rfl ?_
            refine g_iconst cd276_224 rfl ?_
            refine g_icmp_eq cd276_225 rfl (fun hb => ?_) (fun hb => ?_)
            · exact absurd hb (by decide)
            refine g_iconst cd276_228 rfl ?_
            exact g_iret cd276_229 (Or.inr ⟨rfl, Or.inr rfl⟩) (by obtain rfl := Option.some.inj h; rfl)
        · have h := ifnE hb h
          refine g_aload_n cd276_104 rfl rfl ?_
          refine g_getP cd276_105 rfl (OM.o hw) (OM.p37 hw) ?_
          refine g_iload_n cd276_108 rfl rfl ?_
          refine g_iconst cd276_109 rfl ?_
          obtain ⟨hg27, h⟩ := grd h
          obtain ⟨I28, e1, h⟩ := bnd h
          refine G_iast cd276_110 rfl (OM.s37 hw) hg27 (Option.some.inj e1) ?_
          refine g_aload_n cd276_111 rfl rfl ?_
          refine g_bipush cd276_112 rfl ?_
          refine g_callVZ (L := [some (.ref 204), some (.int 14)]) cd276_114 rfl rfl rfl rfl rfl (OM.o hw) (t_Mod_isWord (by omega) hw rfl) ?_
          refine g_if_ne cd276_117 rfl (fun hb => ?_) (fun hb => ?_)
          · have h := ifnE (b2i_f hb) h
            refine g_aload_n cd276_120 rfl rfl ?_
            refine g_iconst cd276_121 rfl ?_
            obtain ⟨x29, hx, h⟩ := bnd h
            refine g_callVZ (L := [some (.ref 204), some (.int 1)]) cd276_122 rfl rfl rfl rfl rfl (OM.o hw) (t_Mod_bad (by omega) hw hx) ?_
            exact g_iret cd276_125 (Or.inr ⟨rfl, b2i_or _⟩) (by obtain rfl := Option.some.inj h; rfl)
          · have h := ifpE (b2i_t hb) h
            refine g_aload_n cd276_126 rfl rfl ?_
            obtain ⟨x30, hx, h⟩ := bnd h
            refine g_callVV (L := [some (.ref 204), none, none, none, none]) cd276_127 rfl rfl rfl rfl rfl (OM.o hw) (t_Mod_go (by omega) hw hx) ?_
            refine g_aload_n cd276_130 rfl rfl ?_
            refine g_iload_n cd276_131 rfl rfl ?_
            obtain ⟨x31, hx, h⟩ := bnd h
            refine g_callVZ (L := [some (.ref 204), some (.int l1)]) cd276_132 rfl rfl rfl rfl rfl (OM.o hw) (t_Mod_readPlace (by omega) hw hx) ?_
            exact g_iret cd276_135 (Or.inr ⟨rfl, b2i_or _⟩) (by obtain rfl := Option.some.inj h; rfl)
      · have h := ifnE hb h
        refine g_iload_n cd276_93 rfl rfl ?_
        obtain ⟨hg32, h⟩ := grd h
        obtain ⟨I33, e1, h⟩ := bnd h
        refine G_iast cd276_94 rfl (OM.s37 hw) hg32 (Option.some.inj e1) ?_
        refine g_aload_n cd276_95 rfl rfl ?_
        obtain ⟨x34, hx, h⟩ := bnd h
        refine g_callVV (L := [some (.ref 204), none, none, none, none]) cd276_96 rfl rfl rfl rfl rfl (OM.o hw) (t_Mod_go (by omega) hw hx) ?_
        refine g_iload_n cd276_99 rfl rfl ?_
        refine g_iconst cd276_100 rfl ?_
        refine g_icmp_eq cd276_101 rfl (fun hb => ?_) (fun hb => ?_)
        · have h := ifpE hb h
          refine g_aload_n cd276_136 rfl rfl ?_
          refine g_bipush cd276_137 rfl ?_
          refine g_callVZ (L := [some (.ref 204), some (.int 24)]) cd276_139 rfl rfl rfl rfl rfl (OM.o hw) (t_Mod_isWord (by omega) hw rfl) ?_
          refine g_if_eq cd276_142 rfl (fun hb => ?_) (fun hb => ?_)
          · have h := ifnE (b2i_f hb) h
            refine g_aload_n cd276_149 rfl rfl ?_
            refine g_bipush cd276_150 rfl ?_
            refine g_callVZ (L := [some (.ref 204), some (.int 25)]) cd276_152 rfl rfl rfl rfl rfl (OM.o hw) (t_Mod_isWord (by omega) hw rfl) ?_
            refine g_if_eq cd276_155 rfl (fun hb => ?_) (fun hb => ?_)
            · have h := ifnE (b2i_f hb) h
              refine g_aload_n cd276_162 rfl rfl ?_
              refine g_bipush cd276_163 rfl ?_
              refine g_callVZ (L := [some (.ref 204), some (.int 15)]) cd276_165 rfl rfl rfl rfl rfl (OM.o hw) (t_Mod_isWord (by omega) hw rfl) ?_
              refine g_if_eq cd276_168 rfl (fun hb => ?_) (fun hb => ?_)
              · have h := ifnE (b2i_f hb) h
                refine g_aload_n cd276_175 rfl rfl ?_
                refine g_bipush cd276_176 rfl ?_
                refine g_callVZ (L := [some (.ref 204), some (.int 16)]) cd276_178 rfl rfl rfl rfl rfl (OM.o hw) (t_Mod_isWord (by omega) hw rfl) ?_
                refine g_if_eq cd276_181 rfl (fun hb => ?_) (fun hb => ?_)
                · have h := ifnE (b2i_f hb) h
                  refine g_iconst cd276_188 rfl ?_
                  refine g_istore_n (ls2 := [some (.ref 204), some (.int l1), some (.int x1), some (.int (-1))]) cd276_189 rfl rfl ?_
                  refine g_iload_n cd276_190 rfl rfl ?_
                  refine g_iconst cd276_191 rfl ?_
                  refine g_icmp_ne cd276_192 rfl (fun hb => ?_) (fun hb => ?_)
                  rotate_left
                  · exact absurd (by decide) hb
                  refine g_aload_n cd276_195 rfl rfl ?_
                  refine g_iconst cd276_196 rfl ?_
                  obtain ⟨x35, hx, h⟩ := bnd h
                  refine g_callVZ (L := [some (.ref 204), some (.int 1)]) cd276_197 rfl rfl rfl rfl rfl (OM.o hw) (t_Mod_bad (by omega) hw hx) ?_
                  exact g_iret cd276_200 (Or.inr ⟨rfl, b2i_or _⟩) (by obtain rfl := Option.some.inj h; rfl)
                · have h := ifpE (b2i_t hb) h
                  refine g_iconst cd276_184 rfl ?_
                  refine g_goto (ls2 := [some (.ref 204), some (.int l1), some (.int x1), none]) cd276_185 rfl rfl ?_
                  refine g_istore_n (ls2 := [some (.ref 204), some (.int l1), some (.int x1), some (.int 4)]) cd276_189 rfl rfl ?_
                  refine g_iload_n cd276_190 rfl rfl ?_
                  refine g_iconst cd276_191 rfl ?_
                  refine g_icmp_ne cd276_192 rfl (fun hb => ?_) (fun hb => ?_)
                  · exact absurd hb (by decide)
                  refine g_aload_n cd276_201 rfl rfl ?_
                  refine g_getP cd276_202 rfl (OM.o hw) (OM.p37 hw) ?_
                  refine g_iload_n cd276_205 rfl rfl ?_
                  refine g_iload_n cd276_206 rfl rfl ?_
                  obtain ⟨hg36, h⟩ := grd h
                  obtain ⟨I37, e1, h⟩ := bnd h
                  refine G_iast cd276_207 rfl (OM.s37 hw) hg36 (Option.some.inj e1) ?_
                  refine g_aload_n cd276_208 rfl rfl ?_
                  obtain ⟨x38, hx, h⟩ := bnd h
                  refine g_callVV (L := [some (.ref 204), none, none, none, none]) cd276_209 rfl rfl rfl rfl rfl (OM.o hw) (t_Mod_go (by omega) hw hx) ?_
                  refine g_iload_n cd276_212 rfl rfl ?_
                  refine g_iconst cd276_213 rfl ?_
                  refine g_icmp_ne cd276_214 rfl (fun hb => ?_) (fun hb => ?_)
                  · exact absurd hb (by decide)
                  refine g_iload_n cd276_223 rfl rfl ?_
                  refine g_iconst cd276_224 rfl ?_
                  refine g_icmp_eq cd276_225 rfl (fun hb => ?_) (fun hb => ?_)
                  rotate_left
                  · exact absurd (by decide) hb
                  refine g_aload_n cd276_230 rfl rfl ?_
                  obtain ⟨x39, hx, h⟩ := bnd h
                  refine g_callVZ (L := [some (.ref 204), none]) cd276_231 rfl rfl rfl rfl rfl (OM.o hw) (t_Mod_isName (by omega) hw hx) ?_
                  refine g_if_ne cd276_234 rfl (fun hb => ?_) (fun hb => ?_)
                  · have h := ifnE (b2i_f hb) h
                    refine g_aload_n cd276_237 rfl rfl ?_
                    refine g_iconst cd276_238 rfl ?_
                    obtain ⟨x40, hx, h⟩ := bnd h
                    refine g_callVZ (L := [some (.ref 204), some (.int 1)]) cd276_239 rfl rfl rfl rfl rfl (OM.o hw) (t_Mod_bad (by omega) hw hx) ?_
                    exact g_iret cd276_242 (Or.inr ⟨rfl, b2i_or _⟩) (by obtain rfl := Option.some.inj h; rfl)
                  · have h := ifpE (b2i_t hb) h
                    refine g_aload_n cd276_243 rfl rfl ?_
                    refine g_getP cd276_244 rfl (OM.o hw) (OM.p37 hw) ?_
                    refine g_iload_n cd276_247 rfl rfl ?_
                    refine g_iconst cd276_248 rfl ?_
                    refine g_iadd cd276_249 rfl ?_
                    refine g_aload_n cd276_250 rfl rfl ?_
                    refine g_getP cd276_251 rfl (OM.o hw) (OM.p19 hw) ?_
                    refine g_iconst cd276_254 rfl ?_
                    refine g_aload_n cd276_255 rfl rfl ?_
                    refine g_getP cd276_256 rfl (OM.o hw) (OM.p14 hw) ?_
                    refine g_iconst cd276_259 rfl ?_
                    refine G_iald cd276_260 rfl (OM.s14 hw) (by decide) ?_
                    refine g_aload_n cd276_261 rfl rfl ?_
                    refine g_getJ cd276_262 rfl (OM.o hw) ?_
                    obtain ⟨x41, hx, h⟩ := bnd h
                    refine g_callSI (L := [some (.ref 211), some (.int 0), some (.int (x38.1 206 ((0 : Int32).toNatClampNeg))), some (.long (x38.2 204 12)), none, none]) cd276_265 rfl rfl rfl rfl rfl (t_Mod_findIn (by omega) (OM.s19 hw) hx) ?_
                    obtain ⟨hg42, h⟩ := grd h
                    obtain ⟨I43, e1, h⟩ := bnd h
                    refine G_iast cd276_268 rfl (OM.s37 hw) hg42 (Option.some.inj e1) ?_
                    refine g_aload_n cd276_269 rfl rfl ?_
                    refine g_getP cd276_270 rfl (OM.o hw) (OM.p37 hw) ?_
                    refine g_iload_n cd276_273 rfl rfl ?_
                    refine g_iconst cd276_274 rfl ?_
                    refine g_iadd cd276_275 rfl ?_
                    refine G_iald cd276_276 rfl (OM.s37 hw) hg42 ?_
                    refine g_iconst cd276_277 rfl ?_
                    refine g_icmp_ne cd276_278 rfl (fun hb => ?_) (fun hb => ?_)
                    · have h := ifpE hb h
                      refine g_aload_n cd276_281 rfl rfl ?_
                      refine g_iconst cd276_282 rfl ?_
                      obtain ⟨x44, hx, h⟩ := bnd h
                      refine g_callVZ (L := [some (.ref 204), some (.int 3)]) cd276_283 rfl rfl rfl rfl rfl (OM.o hw) (t_Mod_bad (by omega) hw hx) ?_
                      exact g_iret cd276_286 (Or.inr ⟨rfl, b2i_or _⟩) (by obtain rfl := Option.some.inj h; rfl)
                    · have h := ifnE hb h
                      refine g_aload_n cd276_287 rfl rfl ?_
                      obtain ⟨x45, hx, h⟩ := bnd h
                      refine g_callVV (L := [some (.ref 204), none, none, none, none]) cd276_288 rfl rfl rfl rfl rfl (OM.o hw) (t_Mod_go (by omega) hw hx) ?_
                      refine g_iconst cd276_291 rfl ?_
                      exact g_iret cd276_292 (Or.inr ⟨rfl, Or.inr rfl⟩) (by obtain rfl := Option.some.inj h; rfl)
              · have h := ifpE (b2i_t hb) h
                refine g_iconst cd276_171 rfl ?_
                refine g_goto (ls2 := [some (.ref 204), some (.int l1), some (.int x1), none]) cd276_172 rfl rfl ?_
                refine g_istore_n (ls2 := [some (.ref 204), some (.int l1), some (.int x1), some (.int 3)]) cd276_189 rfl rfl ?_
                refine g_iload_n cd276_190 rfl rfl ?_
                refine g_iconst cd276_191 rfl ?_
                refine g_icmp_ne cd276_192 rfl (fun hb => ?_) (fun hb => ?_)
                · exact absurd hb (by decide)
                refine g_aload_n cd276_201 rfl rfl ?_
                refine g_getP cd276_202 rfl (OM.o hw) (OM.p37 hw) ?_
                refine g_iload_n cd276_205 rfl rfl ?_
                refine g_iload_n cd276_206 rfl rfl ?_
                obtain ⟨hg46, h⟩ := grd h
                obtain ⟨I47, e1, h⟩ := bnd h
                refine G_iast cd276_207 rfl (OM.s37 hw) hg46 (Option.some.inj e1) ?_
                refine g_aload_n cd276_208 rfl rfl ?_
                obtain ⟨x48, hx, h⟩ := bnd h
                refine g_callVV (L := [some (.ref 204), none, none, none, none]) cd276_209 rfl rfl rfl rfl rfl (OM.o hw) (t_Mod_go (by omega) hw hx) ?_
                refine g_iload_n cd276_212 rfl rfl ?_
                refine g_iconst cd276_213 rfl ?_
                refine g_icmp_ne cd276_214 rfl (fun hb => ?_) (fun hb => ?_)
                rotate_left
                · exact absurd (by decide) hb
                refine g_aload_n cd276_217 rfl rfl ?_
                refine g_iload_n cd276_218 rfl rfl ?_
                obtain ⟨x49, hx, h⟩ := bnd h
                refine g_callVZ (L := [some (.ref 204), some (.int l1)]) cd276_219 rfl rfl rfl rfl rfl (OM.o hw) (t_Mod_readPlace (by omega) hw hx) ?_
                exact g_iret cd276_222 (Or.inr ⟨rfl, b2i_or _⟩) (by obtain rfl := Option.some.inj h; rfl)
            · have h := ifpE (b2i_t hb) h
              refine g_iconst cd276_158 rfl ?_
              refine g_goto (ls2 := [some (.ref 204), some (.int l1), some (.int x1), none]) cd276_159 rfl rfl ?_
              refine g_istore_n (ls2 := [some (.ref 204), some (.int l1), some (.int x1), some (.int 2)]) cd276_189 rfl rfl ?_
              refine g_iload_n cd276_190 rfl rfl ?_
              refine g_iconst cd276_191 rfl ?_
              refine g_icmp_ne cd276_192 rfl (fun hb => ?_) (fun hb => ?_)
              · exact absurd hb (by decide)
              refine g_aload_n cd276_201 rfl rfl ?_
              refine g_getP cd276_202 rfl (OM.o hw) (OM.p37 hw) ?_
              refine g_iload_n cd276_205 rfl rfl ?_
              refine g_iload_n cd276_206 rfl rfl ?_
              obtain ⟨hg50, h⟩ := grd h
              obtain ⟨I51, e1, h⟩ := bnd h
              refine G_iast cd276_207 rfl (OM.s37 hw) hg50 (Option.some.inj e1) ?_
              refine g_aload_n cd276_208 rfl rfl ?_
              obtain ⟨x52, hx, h⟩ := bnd h
              refine g_callVV (L := [some (.ref 204), none, none, none, none]) cd276_209 rfl rfl rfl rfl rfl (OM.o hw) (t_Mod_go (by omega) hw hx) ?_
              refine g_iload_n cd276_212 rfl rfl ?_
              refine g_iconst cd276_213 rfl ?_
              refine g_icmp_ne cd276_214 rfl (fun hb => ?_) (fun hb => ?_)
              · exact absurd hb (by decide)
              refine g_iload_n cd276_223 rfl rfl ?_
              refine g_iconst cd276_224 rfl ?_
              refine g_icmp_eq cd276_225 rfl (fun hb => ?_) (fun hb => ?_)
              · exact absurd hb (by decide)
              refine g_iconst cd276_228 rfl ?_
              exact g_iret cd276_229 (Or.inr ⟨rfl, Or.inr rfl⟩) (by obtain rfl := Option.some.inj h; rfl)
          · have h := ifpE (b2i_t hb) h
            refine g_iconst cd276_145 rfl ?_
            refine g_goto (ls2 := [some (.ref 204), some (.int l1), some (.int x1), none]) cd276_146 rfl rfl ?_
            refine g_istore_n (ls2 := [some (.ref 204), some (.int l1), some (.int x1), some (.int 1)]) cd276_189 rfl rfl ?_
            refine g_iload_n cd276_190 rfl rfl ?_
            refine g_iconst cd276_191 rfl ?_
            refine g_icmp_ne cd276_192 rfl (fun hb => ?_) (fun hb => ?_)
            · exact absurd hb (by decide)
            refine g_aload_n cd276_201 rfl rfl ?_
            refine g_getP cd276_202 rfl (OM.o hw) (OM.p37 hw) ?_
            refine g_iload_n cd276_205 rfl rfl ?_
            refine g_iload_n cd276_206 rfl rfl ?_
            obtain ⟨hg53, h⟩ := grd h
            obtain ⟨I54, e1, h⟩ := bnd h
            refine G_iast cd276_207 rfl (OM.s37 hw) hg53 (Option.some.inj e1) ?_
            refine g_aload_n cd276_208 rfl rfl ?_
            obtain ⟨x55, hx, h⟩ := bnd h
            refine g_callVV (L := [some (.ref 204), none, none, none, none]) cd276_209 rfl rfl rfl rfl rfl (OM.o hw) (t_Mod_go (by omega) hw hx) ?_
            refine g_iload_n cd276_212 rfl rfl ?_
            refine g_iconst cd276_213 rfl ?_
            refine g_icmp_ne cd276_214 rfl (fun hb => ?_) (fun hb => ?_)
            · exact absurd hb (by decide)
            refine g_iload_n cd276_223 rfl rfl ?_
            refine g_iconst cd276_224 rfl ?_
            refine g_icmp_eq cd276_225 rfl (fun hb => ?_) (fun hb => ?_)
            · exact absurd hb (by decide)
            refine g_iconst cd276_228 rfl ?_
            exact g_iret cd276_229 (Or.inr ⟨rfl, Or.inr rfl⟩) (by obtain rfl := Option.some.inj h; rfl)
        · have h := ifnE hb h
          refine g_aload_n cd276_104 rfl rfl ?_
          refine g_getP cd276_105 rfl (OM.o hw) (OM.p37 hw) ?_
          refine g_iload_n cd276_108 rfl rfl ?_
          refine g_iconst cd276_109 rfl ?_
          obtain ⟨hg56, h⟩ := grd h
          obtain ⟨I57, e1, h⟩ := bnd h
          refine G_iast cd276_110 rfl (OM.s37 hw) hg56 (Option.some.inj e1) ?_
          refine g_aload_n cd276_111 rfl rfl ?_
          refine g_bipush cd276_112 rfl ?_
          refine g_callVZ (L := [some (.ref 204), some (.int 14)]) cd276_114 rfl rfl rfl rfl rfl (OM.o hw) (t_Mod_isWord (by omega) hw rfl) ?_
          refine g_if_ne cd276_117 rfl (fun hb => ?_) (fun hb => ?_)
          · have h := ifnE (b2i_f hb) h
            refine g_aload_n cd276_120 rfl rfl ?_
            refine g_iconst cd276_121 rfl ?_
            obtain ⟨x58, hx, h⟩ := bnd h
            refine g_callVZ (L := [some (.ref 204), some (.int 1)]) cd276_122 rfl rfl rfl rfl rfl (OM.o hw) (t_Mod_bad (by omega) hw hx) ?_
            exact g_iret cd276_125 (Or.inr ⟨rfl, b2i_or _⟩) (by obtain rfl := Option.some.inj h; rfl)
          · have h := ifpE (b2i_t hb) h
            refine g_aload_n cd276_126 rfl rfl ?_
            obtain ⟨x59, hx, h⟩ := bnd h
            refine g_callVV (L := [some (.ref 204), none, none, none, none]) cd276_127 rfl rfl rfl rfl rfl (OM.o hw) (t_Mod_go (by omega) hw hx) ?_
            refine g_aload_n cd276_130 rfl rfl ?_
            refine g_iload_n cd276_131 rfl rfl ?_
            obtain ⟨x60, hx, h⟩ := bnd h
            refine g_callVZ (L := [some (.ref 204), some (.int l1)]) cd276_132 rfl rfl rfl rfl rfl (OM.o hw) (t_Mod_readPlace (by omega) hw hx) ?_
            exact g_iret cd276_135 (Or.inr ⟨rfl, b2i_or _⟩) (by obtain rfl := Option.some.inj h; rfl)
    · have h := ifpE (b2i_t hb) h
      refine g_aload_n cd276_30 rfl rfl ?_
      refine g_iload_n cd276_31 rfl rfl ?_
      refine g_iconst cd276_32 rfl ?_
      refine g_iconst cd276_33 rfl ?_
      refine g_bipush cd276_34 rfl ?_
      obtain ⟨x61, hx, h⟩ := bnd h
      refine g_callVZ (L := [some (.ref 204), some (.int l1), some (.int 5), some (.int 1), some (.int 30)]) cd276_36 rfl rfl rfl rfl rfl (OM.o hw) (t_Mod_readMany (by omega) hw hx) ?_
      exact g_iret cd276_39 (Or.inr ⟨rfl, b2i_or _⟩) (by obtain rfl := Option.some.inj h; rfl)
  · have h := ifpE (b2i_t hb) h
    refine g_aload_n cd276_9 rfl rfl ?_
    refine g_iload_n cd276_10 rfl rfl ?_
    refine g_bipush cd276_11 rfl ?_
    refine g_iconst cd276_13 rfl ?_
    refine g_sipush cd276_14 rfl ?_
    obtain ⟨x62, hx, h⟩ := bnd h
    refine g_callVZ (L := [some (.ref 204), some (.int l1), some (.int 6), some (.int 0), some (.int 999)]) cd276_17 rfl rfl rfl rfl rfl (OM.o hw) (t_Mod_readMany (by omega) hw hx) ?_
    exact g_iret cd276_20 (Or.inr ⟨rfl, b2i_or _⟩) (by obtain rfl := Option.some.inj h; rfl)

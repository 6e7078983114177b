/-! HiddenOrLostModel.weightAll()J -/
theorem cd243_0 : code9 243 0 = some (0, .aload_n 0, [1], .null, []) := rfl
theorem cd243_1 : code9 243 1 = some (0, .getfield 130, [3, 12, 26, 2], .null, []) := rfl
theorem cd243_4 : code9 243 4 = some (0, .iconst 0, [1], .int 0, []) := rfl
theorem cd243_5 : code9 243 5 = some (0, .laload, [1], .null, []) := rfl
theorem cd243_6 : code9 243 6 = some (0, .aload_n 0, [1], .null, []) := rfl
theorem cd243_7 : code9 243 7 = some (0, .getfield 130, [3, 12, 26, 2], .null, []) := rfl
theorem cd243_10 : code9 243 10 = some (0, .iconst 1, [1], .int 1, []) := rfl
theorem cd243_11 : code9 243 11 = some (0, .laload, [1], .null, []) := rfl
theorem cd243_12 : code9 243 12 = some (0, .ladd, [1], .null, []) := rfl
theorem cd243_13 : code9 243 13 = some (0, .aload_n 0, [1], .null, []) := rfl
theorem cd243_14 : code9 243 14 = some (0, .getfield 130, [3, 12, 26, 2], .null, []) := rfl
theorem cd243_17 : code9 243 17 = some (0, .iconst 2, [1], .int 2, []) := rfl
theorem cd243_18 : code9 243 18 = some (0, .laload, [1], .null, []) := rfl
theorem cd243_19 : code9 243 19 = some (0, .ladd, [1], .null, []) := rfl
theorem cd243_20 : code9 243 20 = some (0, .lreturn, [1], .null, []) := rfl
def Mod_weightAll (J : FJ) : Option (Int64) := some (((J 216 ((0 : Int32).toNatClampNeg)) + (J 216 ((1 : Int32).toNatClampNeg))) + (J 216 ((2 : Int32).toNatClampNeg)))
set_option maxRecDepth 8000 in
theorem t_Mod_weightAll {d : Nat} {c : Nat × Nat} {S : Nat → Nat × Nat} {P : Nat → Nat → Option Nat} {I : FI} {J : FJ} {r : Int64} (hd : 0 ≤ d) (hw : OM S P) (h : Mod_weightAll J = some r) : Go d M_Mod_weightAll 0 [some (.ref 204)] [] (c, S, I, J, P) (some (.long r), false, (c, S, I, J, P)) := by
  unfold Mod_weightAll at h
  refine g_aload_n cd243_0 rfl rfl ?_
  refine g_getP cd243_1 rfl (OM.o hw) (OM.p26 hw) ?_
  refine g_iconst cd243_4 rfl ?_
  refine G_lald cd243_5 rfl (OM.s26 hw) (by decide) ?_
  refine g_aload_n cd243_6 rfl rfl ?_
  refine g_getP cd243_7 rfl (OM.o hw) (OM.p26 hw) ?_
  refine g_iconst cd243_10 rfl ?_
  refine G_lald cd243_11 rfl (OM.s26 hw) (by decide) ?_
  refine g_ladd cd243_12 rfl ?_
  refine g_aload_n cd243_13 rfl rfl ?_
  refine g_getP cd243_14 rfl (OM.o hw) (OM.p26 hw) ?_
  refine g_iconst cd243_17 rfl ?_
  refine G_lald cd243_18 rfl (OM.s26 hw) (by decide) ?_
  refine g_ladd cd243_19 rfl ?_
  exact g_lret cd243_20 (by obtain rfl := Option.some.inj h; rfl)
/-! HiddenOrLostModel.layWeights(I)V -/
theorem cd242_0 : code9 242 0 = some (0, .iconst 0, [1], .int 0, []) := rfl
theorem cd242_1 : code9 242 1 = some (0, .istore_n 2, [1], .null, []) := rfl
theorem cd242_2 : code9 242 2 = some (4, .iload_n 2, [1], .null, []) := rfl
theorem cd242_3 : code9 242 3 = some (0, .iconst 3, [1], .int 3, []) := rfl
theorem cd242_4 : code9 242 4 = some (0, .if_icmp .ge 78, [3, 82], .null, []) := rfl
theorem cd242_7 : code9 242 7 = some (0, .aload_n 0, [1], .null, []) := rfl
theorem cd242_8 : code9 242 8 = some (0, .getfield 130, [3, 12, 26, 2], .null, []) := rfl
theorem cd242_11 : code9 242 11 = some (0, .iload_n 2, [1], .null, []) := rfl
theorem cd242_12 : code9 242 12 = some (0, .aload_n 0, [1], .null, []) := rfl
theorem cd242_13 : code9 242 13 = some (0, .getfield 98, [3, 12, 14, 2], .null, []) := rfl
theorem cd242_16 : code9 242 16 = some (0, .bipush 18, [2], .int 18, []) := rfl
theorem cd242_18 : code9 242 18 = some (0, .iload_n 2, [1], .null, []) := rfl
theorem cd242_19 : code9 242 19 = some (0, .iadd, [1], .null, []) := rfl
theorem cd242_20 : code9 242 20 = some (0, .iaload, [1], .null, []) := rfl
theorem cd242_21 : code9 242 21 = some (0, .i2l, [1], .null, []) := rfl
theorem cd242_22 : code9 242 22 = some (0, .lastore, [1], .null, []) := rfl
theorem cd242_23 : code9 242 23 = some (0, .iconst 0, [1], .int 0, []) := rfl
theorem cd242_24 : code9 242 24 = some (0, .istore_n 3, [1], .null, []) := rfl
theorem cd242_25 : code9 242 25 = some (5, .iload_n 3, [1], .null, []) := rfl
theorem cd242_26 : code9 242 26 = some (0, .bipush 10, [2], .int 10, []) := rfl
theorem cd242_28 : code9 242 28 = some (0, .if_icmp .ge 48, [3, 76], .null, []) := rfl
theorem cd242_31 : code9 242 31 = some (0, .iload_n 1, [1], .null, []) := rfl
theorem cd242_32 : code9 242 32 = some (0, .iload_n 3, [1], .null, []) := rfl
theorem cd242_33 : code9 242 33 = some (0, .invokestatic 258, [3, 221, 2, 0, 3, 2, 12, 0], .null, []) := rfl
theorem cd242_36 : code9 242 36 = some (0, .ifCond .eq 34, [3, 70], .null, []) := rfl
theorem cd242_39 : code9 242 39 = some (0, .aload_n 0, [1], .null, []) := rfl
theorem cd242_40 : code9 242 40 = some (0, .getfield 130, [3, 12, 26, 2], .null, []) := rfl
theorem cd242_43 : code9 242 43 = some (0, .iload_n 2, [1], .null, []) := rfl
theorem cd242_44 : code9 242 44 = some (0, .dup2, [1], .null, []) := rfl
theorem cd242_45 : code9 242 45 = some (0, .laload, [1], .null, []) := rfl
theorem cd242_46 : code9 242 46 = some (0, .aload_n 0, [1], .null, []) := rfl
theorem cd242_47 : code9 242 47 = some (0, .getfield 98, [3, 12, 14, 2], .null, []) := rfl
theorem cd242_50 : code9 242 50 = some (0, .bipush 6, [2], .int 6, []) := rfl
theorem cd242_52 : code9 242 52 = some (0, .iconst 4, [1], .int 4, []) := rfl
theorem cd242_53 : code9 242 53 = some (0, .iload_n 2, [1], .null, []) := rfl
theorem cd242_54 : code9 242 54 = some (0, .imul, [1], .null, []) := rfl
theorem cd242_55 : code9 242 55 = some (0, .iadd, [1], .null, []) := rfl
theorem cd242_56 : code9 242 56 = some (0, .aload_n 0, [1], .null, []) := rfl
theorem cd242_57 : code9 242 57 = some (0, .getfield 98, [3, 12, 14, 2], .null, []) := rfl
theorem cd242_60 : code9 242 60 = some (0, .bipush 30, [2], .int 30, []) := rfl
theorem cd242_62 : code9 242 62 = some (0, .iload_n 3, [1], .null, []) := rfl
theorem cd242_63 : code9 242 63 = some (0, .iadd, [1], .null, []) := rfl
theorem cd242_64 : code9 242 64 = some (0, .iaload, [1], .null, []) := rfl
theorem cd242_65 : code9 242 65 = some (0, .iadd, [1], .null, []) := rfl
theorem cd242_66 : code9 242 66 = some (0, .iaload, [1], .null, []) := rfl
theorem cd242_67 : code9 242 67 = some (0, .i2l, [1], .null, []) := rfl
theorem cd242_68 : code9 242 68 = some (0, .lmul, [1], .null, []) := rfl
theorem cd242_69 : code9 242 69 = some (0, .lastore, [1], .null, []) := rfl
theorem cd242_70 : code9 242 70 = some (5, .iinc 3 1, [3], .int 1, []) := rfl
theorem cd242_73 : code9 242 73 = some (0, .goto (-48), [3, 25, 4], .null, []) := rfl
theorem cd242_76 : code9 242 76 = some (0, .iinc 2 1, [3], .int 1, []) := rfl
theorem cd242_79 : code9 242 79 = some (0, .goto (-77), [3, 2, 3], .null, []) := rfl
theorem cd242_82 : code9 242 82 = some (0, .aload_n 0, [1], .null, []) := rfl
theorem cd242_83 : code9 242 83 = some (0, .invokevirtual 310, [3, 243, 1, 1, 2, 1, 12, 0], .null, []) := rfl
theorem cd242_86 : code9 242 86 = some (0, .lconst 0, [1], .long 0, []) := rfl
theorem cd242_87 : code9 242 87 = some (0, .lcmp, [1], .null, []) := rfl
theorem cd242_88 : code9 242 88 = some (0, .ifCond .le 4, [3, 92], .null, []) := rfl
theorem cd242_91 : code9 242 91 = some (0, .return_, [1], .null, []) := rfl
theorem cd242_92 : code9 242 92 = some (0, .iconst 0, [1], .int 0, []) := rfl
theorem cd242_93 : code9 242 93 = some (0, .istore_n 2, [1], .null, []) := rfl
theorem cd242_94 : code9 242 94 = some (4, .iload_n 2, [1], .null, []) := rfl
theorem cd242_95 : code9 242 95 = some (0, .iconst 3, [1], .int 3, []) := rfl
theorem cd242_96 : code9 242 96 = some (0, .if_icmp .ge 16, [3, 112], .null, []) := rfl
theorem cd242_99 : code9 242 99 = some (0, .aload_n 0, [1], .null, []) := rfl
theorem cd242_100 : code9 242 100 = some (0, .getfield 130, [3, 12, 26, 2], .null, []) := rfl
theorem cd242_103 : code9 242 103 = some (0, .iload_n 2, [1], .null, []) := rfl
theorem cd242_104 : code9 242 104 = some (0, .lconst 1, [1], .long 1, []) := rfl
theorem cd242_105 : code9 242 105 = some (0, .lastore, [1], .null, []) := rfl
theorem cd242_106 : code9 242 106 = some (0, .iinc 2 1, [3], .int 1, []) := rfl
theorem cd242_109 : code9 242 109 = some (0, .goto (-15), [3, 94, 3], .null, []) := rfl
theorem cd242_112 : code9 242 112 = some (0, .return_, [1], .null, []) := rfl
def Mod_layWeights_94 (N : Nat) : Nat → Int32 → Int32 → FI → FJ → Option (FJ)
  | 0 => fun _ _ _ _ => none
  | n + 1 => fun l1 l2 I J => if 3 ≤ l2 then (some J) else (if in9 l2 3 then (Option.bind (some (up2 J 216 l2.toNatClampNeg (1 : Int64))) fun J3 => (Mod_layWeights_94 N n l1 (l2 + 1) I J3)) else none)
def Mod_layWeights_25 (N : Nat) (K : Int32 → Int32 → FI → FJ → Option (FJ)) : Nat → Int32 → Int32 → Int32 → FI → FJ → Option (FJ)
  | 0 => fun _ _ _ _ _ => none
  | n + 1 => fun l1 l2 l3 I J => if 10 ≤ l3 then (K l1 (l2 + 1) I J) else (if (Mod_has l1 l3) then (if in9 l2 3 then (if in9 (30 + l3) 451 then (if in9 ((6 + (4 * l2)) + (I 206 ((30 + l3).toNatClampNeg))) 451 then (Option.bind (some (up2 J 216 l2.toNatClampNeg ((J 216 l2.toNatClampNeg) * ((I 206 (((6 + (4 * l2)) + (I 206 ((30 + l3).toNatClampNeg))).toNatClampNeg)).toInt64)))) fun J10 => (Mod_layWeights_25 N K n l1 l2 (l3 + 1) I J10)) else none) else none) else none) else (Mod_layWeights_25 N K n l1 l2 (l3 + 1) I J))
def Mod_layWeights_2 (N : Nat) : Nat → Int32 → Int32 → FI → FJ → Option (FJ)
  | 0 => fun _ _ _ _ => none
  | n + 1 => fun l1 l2 I J => if 3 ≤ l2 then (Option.bind (Mod_weightAll J) fun x1 => (if x1 ≤ (0 : Int64) then (Mod_layWeights_94 N N l1 0 I J) else (some J))) else (if in9 (18 + l2) 451 then (if in9 l2 3 then (Option.bind (some (up2 J 216 l2.toNatClampNeg ((I 206 ((18 + l2).toNatClampNeg)).toInt64))) fun J6 => (Mod_layWeights_25 N (fun x1 x2 I J => Mod_layWeights_2 N n x1 x2 I J) N l1 l2 0 I J6)) else none) else none)
def Mod_layWeights (N : Nat) (l1 : Int32) (I : FI) (J : FJ) : Option (FJ) := Mod_layWeights_2 N N l1 0 I J
set_option maxRecDepth 8000 in
theorem t_Mod_layWeights_94 {d : Nat} {N : Nat} {c : Nat × Nat} {S : Nat → Nat × Nat} {P : Nat → Nat → Option Nat} {r : FJ} (hd : 1 ≤ (d + 1)) (hw : OM S P) : ∀ (n : Nat) (l1 : Int32) (l2 : Int32) (I : FI) (J : FJ), Mod_layWeights_94 N n l1 l2 I J = some r → Go (d + 1) M_Mod_layWeights 94 [some (.ref 204), some (.int l1), some (.int l2), none] [] (c, S, I, J, P) (none, false, (c, S, I, r, P)) := by
  intro n
  induction n with
  | zero =>
    intro l1 l2 I J h
    cases h
  | succ n ih =>
    intro l1 l2 I J h
    unfold Mod_layWeights_94 at h
    refine g_iload_n cd242_94 rfl rfl ?_
    refine g_iconst cd242_95 rfl ?_
    refine g_icmp_ge cd242_96 rfl (fun hb => ?_) (fun hb => ?_)
    · have h := ifpE hb h
      exact g_vret cd242_112 (by obtain rfl := Option.some.inj h; rfl)
    · have h := ifnE hb h
      refine g_aload_n cd242_99 rfl rfl ?_
      refine g_getP cd242_100 rfl (OM.o hw) (OM.p26 hw) ?_
      refine g_iload_n cd242_103 rfl rfl ?_
      refine g_lconst cd242_104 rfl ?_
      obtain ⟨hg2, h⟩ := grd h
      obtain ⟨J3, e1, h⟩ := bnd h
      refine G_last cd242_105 rfl (OM.s26 hw) hg2 (Option.some.inj e1) ?_
      refine g_iinc (ls2 := [some (.ref 204), some (.int l1), some (.int (l2 + 1)), none]) cd242_106 rfl rfl rfl ?_
      refine g_goto (ls2 := [some (.ref 204), some (.int l1), some (.int (l2 + 1)), none]) cd242_109 rfl rfl ?_
      exact ih l1 (l2 + 1) I J3 h
set_option maxRecDepth 8000 in
theorem t_Mod_layWeights_25 {d : Nat} {N : Nat} {c : Nat × Nat} {S : Nat → Nat × Nat} {P : Nat → Nat → Option Nat} {K : Int32 → Int32 → FI → FJ → Option (FJ)} {r : FJ} (hd : 1 ≤ (d + 1)) (hw : OM S P) (hK : ∀ (x1 : Int32) (x2 : Int32) (I : FI) (J : FJ), K x1 x2 I J = some r → Go (d + 1) M_Mod_layWeights 2 [some (.ref 204), some (.int x1), some (.int x2), none] [] (c, S, I, J, P) (none, false, (c, S, I, r, P))) : ∀ (n : Nat) (l1 : Int32) (l2 : Int32) (l3 : Int32) (I : FI) (J : FJ), Mod_layWeights_25 N K n l1 l2 l3 I J = some r → Go (d + 1) M_Mod_layWeights 25 [some (.ref 204), some (.int l1), some (.int l2), some (.int l3)] [] (c, S, I, J, P) (none, false, (c, S, I, r, P)) := by
  intro n
  induction n with
  | zero =>
    intro l1 l2 l3 I J h
    cases h
  | succ n ih =>
    intro l1 l2 l3 I J h
    unfold Mod_layWeights_25 at h
    refine g_iload_n cd242_25 rfl rfl ?_
    refine g_bipush cd242_26 rfl ?_
    refine g_icmp_ge cd242_28 rfl (fun hb => ?_) (fun hb => ?_)
    · have h := ifpE hb h
      refine g_iinc (ls2 := [some (.ref 204), some (.int l1), some (.int (l2 + 1)), some (.int l3)]) cd242_76 rfl rfl rfl ?_
      refine g_goto (ls2 := [some (.ref 204), some (.int l1), some (.int (l2 + 1)), none]) cd242_79 rfl rfl ?_
      exact hK l1 (l2 + 1) I J h
    · have h := ifnE hb h
      refine g_iload_n cd242_31 rfl rfl ?_
      refine g_iload_n cd242_32 rfl rfl ?_
      refine g_callSZ (L := [some (.int l1), some (.int l3)]) cd242_33 rfl rfl rfl rfl rfl (t_Mod_has (by omega)  rfl) ?_
      refine g_if_eq cd242_36 rfl (fun hb => ?_) (fun hb => ?_)
      · have h := ifnE (b2i_f hb) h
        refine g_iinc (ls2 := [some (.ref 204), some (.int l1), some (.int l2), some (.int (l3 + 1))]) cd242_70 rfl rfl rfl ?_
        refine g_goto (ls2 := [some (.ref 204), some (.int l1), some (.int l2), some (.int (l3 + 1))]) cd242_73 rfl rfl ?_
        exact ih l1 l2 (l3 + 1) I J h
      · have h := ifpE (b2i_t hb) h
        refine g_aload_n cd242_39 rfl rfl ?_
        refine g_getP cd242_40 rfl (OM.o hw) (OM.p26 hw) ?_
        refine g_iload_n cd242_43 rfl rfl ?_
        refine g_dup2R cd242_44 rfl ?_
        obtain ⟨hg7, h⟩ := grd h
        refine G_lald cd242_45 rfl (OM.s26 hw) hg7 ?_
        refine g_aload_n cd242_46 rfl rfl ?_
        refine g_getP cd242_47 rfl (OM.o hw) (OM.p14 hw) ?_
        refine g_bipush cd242_50 rfl ?_
        refine g_iconst cd242_52 rfl ?_
        refine g_iload_n cd242_53 rfl rfl ?_
        refine g_imul cd242_54 rfl ?_
        refine g_iadd cd242_55 rfl ?_
        refine g_aload_n cd242_56 rfl rfl ?_
        refine g_getP cd242_57 rfl (OM.o hw) (OM.p14 hw) ?_
        refine g_bipush cd242_60 rfl ?_
        refine g_iload_n cd242_62 rfl rfl ?_
        refine g_iadd cd242_63 rfl ?_
        obtain ⟨hg8, h⟩ := grd h
        refine G_iald cd242_64 rfl (OM.s14 hw) hg8 ?_
        refine g_iadd cd242_65 rfl ?_
        obtain ⟨hg9, h⟩ := grd h
        refine G_iald cd242_66 rfl (OM.s14 hw) hg9 ?_
        refine g_i2l cd242_67 rfl ?_
        refine g_lmul cd242_68 rfl ?_
        obtain ⟨J10, e1, h⟩ := bnd h
        refine G_last cd242_69 rfl (OM.s26 hw) hg7 (Option.some.inj e1) ?_
        refine g_iinc (ls2 := [some (.ref 204), some (.int l1), some (.int l2), some (.int (l3 + 1))]) cd242_70 rfl rfl rfl ?_
        refine g_goto (ls2 := [some (.ref 204), some (.int l1), some (.int l2), some (.int (l3 + 1))]) cd242_73 rfl rfl ?_
        exact ih l1 l2 (l3 + 1) I J10 h
set_option maxRecDepth 8000 in
theorem t_Mod_layWeights_2 {d : Nat} {N : Nat} {c : Nat × Nat} {S : Nat → Nat × Nat} {P : Nat → Nat → Option Nat} {r : FJ} (hd : 1 ≤ (d + 1)) (hw : OM S P) : ∀ (n : Nat) (l1 : Int32) (l2 : Int32) (I : FI) (J : FJ), Mod_layWeights_2 N n l1 l2 I J = some r → Go (d + 1) M_Mod_layWeights 2 [some (.ref 204), some (.int l1), some (.int l2), none] [] (c, S, I, J, P) (none, false, (c, S, I, r, P)) := by
  intro n
  induction n with
  | zero =>
    intro l1 l2 I J h
    cases h
  | succ n ih =>
    intro l1 l2 I J h
    unfold Mod_layWeights_2 at h
    refine g_iload_n cd242_2 rfl rfl ?_
    refine g_iconst cd242_3 rfl ?_
    refine g_icmp_ge cd242_4 rfl (fun hb => ?_) (fun hb => ?_)
    · have h := ifpE hb h
      refine g_aload_n cd242_82 rfl rfl ?_
      obtain ⟨x1, hx, h⟩ := bnd h
      refine g_callVJ (L := [some (.ref 204)]) cd242_83 rfl rfl rfl rfl rfl (OM.o hw) (t_Mod_weightAll (by omega) hw hx) ?_
      refine g_lconst cd242_86 rfl ?_
      refine g_lcmp cd242_87 rfl ?_
      refine g_if_le cd242_88 rfl (fun hb => ?_) (fun hb => ?_)
      · have h := ifpE (lgc_le.mp hb) h
        refine g_iconst cd242_92 rfl ?_
        refine g_istore_n (ls2 := [some (.ref 204), some (.int l1), some (.int 0), none]) cd242_93 rfl rfl ?_
        exact t_Mod_layWeights_94 hd hw _ l1 0 I J h
      · have h := ifnE (fun q => hb (lgc_le.mpr q)) h
        exact g_vret cd242_91 (by obtain rfl := Option.some.inj h; rfl)
    · have h := ifnE hb h
      refine g_aload_n cd242_7 rfl rfl ?_
      refine g_getP cd242_8 rfl (OM.o hw) (OM.p26 hw) ?_
      refine g_iload_n cd242_11 rfl rfl ?_
      refine g_aload_n cd242_12 rfl rfl ?_
      refine g_getP cd242_13 rfl (OM.o hw) (OM.p14 hw) ?_
      refine g_bipush cd242_16 rfl ?_
      refine g_iload_n cd242_18 rfl rfl ?_
      refine g_iadd cd242_19 rfl ?_
      obtain ⟨hg4, h⟩ := grd h
      refine G_iald cd242_20 rfl (OM.s14 hw) hg4 ?_
      refine g_i2l cd242_21 rfl ?_
      obtain ⟨hg5, h⟩ := grd h
      obtain ⟨J6, e1, h⟩ := bnd h
      refine G_last cd242_22 rfl (OM.s26 hw) hg5 (Option.some.inj e1) ?_
      refine g_iconst cd242_23 rfl ?_
      refine g_istore_n (ls2 := [some (.ref 204), some (.int l1), some (.int l2), some (.int 0)]) cd242_24 rfl rfl ?_
      exact t_Mod_layWeights_25 hd hw (fun x1 x2 I J h => ih x1 x2 I J h) _ l1 l2 0 I J6 h
set_option maxRecDepth 8000 in
theorem t_Mod_layWeights {d : Nat} {N : Nat} {c : Nat × Nat} {S : Nat → Nat × Nat} {P : Nat → Nat → Option Nat} {I : FI} {J : FJ} {l1 : Int32} {r : FJ} (hd : 1 ≤ d) (hw : OM S P) (h : Mod_layWeights N l1 I J = some r) : Go d M_Mod_layWeights 0 [some (.ref 204), some (.int l1), none, none] [] (c, S, I, J, P) (none, false, (c, S, I, r, P)) := by
  obtain ⟨d, rfl⟩ : ∃ e, d = e + 1 := ⟨d - 1, by omega⟩
  unfold Mod_layWeights at h
  refine g_iconst cd242_0 rfl ?_
  refine g_istore_n (ls2 := [some (.ref 204), some (.int l1), some (.int 0), none]) cd242_1 rfl rfl ?_
  exact t_Mod_layWeights_2 hd hw _ l1 0 I J h
/-! HiddenOrLostModel.commonLong(JJ)J -/
theorem cd245_0 : code9 245 0 = some (0, .lload_n 0, [1], .null, []) := rfl
theorem cd245_1 : code9 245 1 = some (0, .lstore 4, [2], .null, []) := rfl
theorem cd245_3 : code9 245 3 = some (0, .lload_n 2, [1], .null, []) := rfl
theorem cd245_4 : code9 245 4 = some (0, .lstore 6, [2], .null, []) := rfl
theorem cd245_6 : code9 245 6 = some (9, .lload 6, [2], .null, []) := rfl
theorem cd245_8 : code9 245 8 = some (0, .lconst 0, [1], .long 0, []) := rfl
theorem cd245_9 : code9 245 9 = some (0, .lcmp, [1], .null, []) := rfl
theorem cd245_10 : code9 245 10 = some (0, .ifCond .eq 21, [3, 31], .null, []) := rfl
theorem cd245_13 : code9 245 13 = some (0, .lload 4, [2], .null, []) := rfl
theorem cd245_15 : code9 245 15 = some (0, .lload 6, [2], .null, []) := rfl
theorem cd245_17 : code9 245 17 = some (0, .lrem, [1], .null, []) := rfl
theorem cd245_18 : code9 245 18 = some (0, .lstore 8, [2], .null, []) := rfl
theorem cd245_20 : code9 245 20 = some (0, .lload 6, [2], .null, []) := rfl
theorem cd245_22 : code9 245 22 = some (0, .lstore 4, [2], .null, []) := rfl
theorem cd245_24 : code9 245 24 = some (0, .lload 8, [2], .null, []) := rfl
theorem cd245_26 : code9 245 26 = some (0, .lstore 6, [2], .null, []) := rfl
theorem cd245_28 : code9 245 28 = some (0, .goto (-22), [3, 6, 8], .null, []) := rfl
theorem cd245_31 : code9 245 31 = some (0, .lload 4, [2], .null, []) := rfl
theorem cd245_33 : code9 245 33 = some (0, .lreturn, [1], .null, []) := rfl
def Mod_commonLong_6 (N : Nat) : Nat → Int64 → Int64 → Int64 → Int64 → Option (Int64)
  | 0 => fun _ _ _ _ => none
  | n + 1 => fun l0 l2 l4 l6 => if l6 = (0 : Int64) then (some l4) else (if ¬ l6 = 0 then (Mod_commonLong_6 N n l0 l2 l6 (l4 - l4 / l6 * l6)) else none)
def Mod_commonLong (N : Nat) (l0 : Int64) (l2 : Int64) : Option (Int64) := Mod_commonLong_6 N N l0 l2 l0 l2
set_option maxRecDepth 8000 in
theorem t_Mod_commonLong_6 {d : Nat} {N : Nat} {c : Nat × Nat} {S : Nat → Nat × Nat} {P : Nat → Nat → Option Nat} {r : Int64} (hd : 0 ≤ d) : ∀ (n : Nat) (l0 : Int64) (l2 : Int64) (l4 : Int64) (l6 : Int64) (I : FI) (J : FJ), Mod_commonLong_6 N n l0 l2 l4 l6 = some r → Go d M_Mod_commonLong 6 [some (.long l0), none, some (.long l2), none, some (.long l4), none, some (.long l6), none, none, none] [] (c, S, I, J, P) (some (.long r), false, (c, S, I, J, P)) := by
  intro n
  induction n with
  | zero =>
    intro l0 l2 l4 l6 I J h
    cases h
  | succ n ih =>
    intro l0 l2 l4 l6 I J h
    unfold Mod_commonLong_6 at h
    refine g_lload cd245_6 rfl rfl ?_
    refine g_lconst cd245_8 rfl ?_
    refine g_lcmp cd245_9 rfl ?_
    refine g_if_eq cd245_10 rfl (fun hb => ?_) (fun hb => ?_)
    · have h := ifpE (lgc_eq.mp hb) h
      refine g_lload cd245_31 rfl rfl ?_
      exact g_lret cd245_33 (by obtain rfl := Option.some.inj h; rfl)
    · have h := ifnE (fun q => hb (lgc_eq.mpr q)) h
      refine g_lload cd245_13 rfl rfl ?_
      refine g_lload cd245_15 rfl rfl ?_
      obtain ⟨hg1, h⟩ := grd h
      refine g_lrem cd245_17 rfl hg1 ?_
      refine g_lstore (ls2 := [some (.long l0), none, some (.long l2), none, some (.long l4), none, some (.long l6), none, some (.long (l4 - l4 / l6 * l6)), none]) cd245_18 rfl rfl ?_
      refine g_lload cd245_20 rfl rfl ?_
      refine g_lstore (ls2 := [some (.long l0), none, some (.long l2), none, some (.long l6), none, some (.long l6), none, some (.long (l4 - l4 / l6 * l6)), none]) cd245_22 rfl rfl ?_
      refine g_lload cd245_24 rfl rfl ?_
      refine g_lstore (ls2 := [some (.long l0), none, some (.long l2), none, some (.long l6), none, some (.long (l4 - l4 / l6 * l6)), none, some (.long (l4 - l4 / l6 * l6)), none]) cd245_26 rfl rfl ?_
      refine g_goto (ls2 := [some (.long l0), none, some (.long l2), none, some (.long l6), none, some (.long (l4 - l4 / l6 * l6)), none, none, none]) cd245_28 rfl rfl ?_
      exact ih l0 l2 l6 (l4 - l4 / l6 * l6) I J h
set_option maxRecDepth 8000 in
theorem t_Mod_commonLong {d : Nat} {N : Nat} {c : Nat × Nat} {S : Nat → Nat × Nat} {P : Nat → Nat → Option Nat} {I : FI} {J : FJ} {l0 : Int64} {l2 : Int64} {r : Int64} (hd : 0 ≤ d) (h : Mod_commonLong N l0 l2 = some r) : Go d M_Mod_commonLong 0 [some (.long l0), none, some (.long l2), none, none, none, none, none, none, none] [] (c, S, I, J, P) (some (.long r), false, (c, S, I, J, P)) := by
  unfold Mod_commonLong at h
  refine g_lload_n cd245_0 rfl rfl ?_
  refine g_lstore (ls2 := [some (.long l0), none, some (.long l2), none, some (.long l0), none, none, none, none, none]) cd245_1 rfl rfl ?_
  refine g_lload_n cd245_3 rfl rfl ?_
  refine g_lstore (ls2 := [some (.long l0), none, some (.long l2), none, some (.long l0), none, some (.long l2), none, none, none]) cd245_4 rfl rfl ?_
  exact t_Mod_commonLong_6 hd _ l0 l2 l0 l2 I J h
/-! HiddenOrLostModel.part(JJI)J -/
theorem cd244_0 : code9 244 0 = some (0, .lload_n 2, [1], .null, []) := rfl
theorem cd244_1 : code9 244 1 = some (0, .lload_n 0, [1], .null, []) := rfl
theorem cd244_2 : code9 244 2 = some (0, .invokestatic 306, [3, 245, 2, 0, 2, 10, 12, 0], .null, []) := rfl
theorem cd244_5 : code9 244 5 = some (0, .lstore 5, [2], .null, []) := rfl
theorem cd244_7 : code9 244 7 = some (0, .iload 4, [2], .null, []) := rfl
theorem cd244_9 : code9 244 9 = some (0, .ifCond .ne 7, [3, 16], .null, []) := rfl
theorem cd244_12 : code9 244 12 = some (0, .lload_n 0, [1], .null, []) := rfl
theorem cd244_13 : code9 244 13 = some (0, .goto 4, [3, 17, 7], .null, []) := rfl
theorem cd244_16 : code9 244 16 = some (0, .lload_n 2, [1], .null, []) := rfl
theorem cd244_17 : code9 244 17 = some (8, .lload 5, [2], .null, []) := rfl
theorem cd244_19 : code9 244 19 = some (0, .ldiv, [1], .null, []) := rfl
theorem cd244_20 : code9 244 20 = some (0, .lreturn, [1], .null, []) := rfl
def Mod_part (N : Nat) (l0 : Int64) (l2 : Int64) (l4 : Int32) : Option (Int64) := Option.bind (Mod_commonLong N l2 l0) fun x1 => (if l4 = 0 then (if ¬ x1 = 0 then (some (l0 / x1)) else none) else (if ¬ x1 = 0 then (some (l2 / x1)) else none))
set_option maxRecDepth 8000 in
theorem t_Mod_part {d : Nat} {N : Nat} {c : Nat × Nat} {S : Nat → Nat × Nat} {P : Nat → Nat → Option Nat} {I : FI} {J : FJ} {l0 : Int64} {l2 : Int64} {l4 : Int32} {r : Int64} (hd : 1 ≤ d) (h : Mod_part N l0 l2 l4 = some r) : Go d M_Mod_part 0 [some (.long l0), none, some (.long l2), none, some (.int l4), none, none] [] (c, S, I, J, P) (some (.long r), false, (c, S, I, J, P)) := by
  obtain ⟨d, rfl⟩ : ∃ e, d = e + 1 := ⟨d - 1, by omega⟩
  unfold Mod_part at h
  refine g_lload_n cd244_0 rfl rfl ?_
  refine g_lload_n cd244_1 rfl rfl ?_
  obtain ⟨x1, hx, h⟩ := bnd h
  refine g_callSJ (L := [some (.long l2), none, some (.long l0), none, none, none, none, none, none, none]) cd244_2 rfl rfl rfl rfl rfl (t_Mod_commonLong (by omega)  hx) ?_
  refine g_lstore (ls2 := [some (.long l0), none, some (.long l2), none, some (.int l4), some (.long x1), none]) cd244_5 rfl rfl ?_
  refine g_iload cd244_7 rfl rfl ?_
  refine g_if_ne cd244_9 rfl (fun hb => ?_) (fun hb => ?_)
  · have h := ifpE hb h
    refine g_lload_n cd244_12 rfl rfl ?_
    refine g_goto (ls2 := [some (.long l0), none, some (.long l2), none, some (.int l4), some (.long x1), none]) cd244_13 rfl rfl ?_
    refine g_lload cd244_17 rfl rfl ?_
    obtain ⟨hg2, h⟩ := grd h
    refine g_ldiv cd244_19 rfl hg2 ?_
    exact g_lret cd244_20 (by obtain rfl := Option.some.inj h; rfl)
  · have h := ifnE hb h
    refine g_lload_n cd244_16 rfl rfl ?_
    refine g_lload cd244_17 rfl rfl ?_
    obtain ⟨hg3, h⟩ := grd h
    refine g_ldiv cd244_19 rfl hg3 ?_
    exact g_lret cd244_20 (by obtain rfl := Option.some.inj h; rfl)
/-! HiddenOrLostModel.belief(II)J -/
theorem cd241_0 : code9 241 0 = some (0, .aload_n 0, [1], .null, []) := rfl
theorem cd241_1 : code9 241 1 = some (0, .iconst 0, [1], .int 0, []) := rfl
theorem cd241_2 : code9 241 2 = some (0, .putfield 1, [3, 12, 0, 0], .null, []) := rfl
theorem cd241_5 : code9 241 5 = some (0, .iload_n 1, [1], .null, []) := rfl
theorem cd241_6 : code9 241 6 = some (0, .iconst 0, [1], .int 0, []) := rfl
theorem cd241_7 : code9 241 7 = some (0, .iconst 2, [1], .int 2, []) := rfl
theorem cd241_8 : code9 241 8 = some (0, .invokestatic 75, [3, 191, 3, 0, 3, 3, 12, 0], .null, []) := rfl
theorem cd241_11 : code9 241 11 = some (0, .ifCond .eq 12, [3, 23], .null, []) := rfl
theorem cd241_14 : code9 241 14 = some (0, .iload_n 2, [1], .null, []) := rfl
theorem cd241_15 : code9 241 15 = some (0, .iconst 0, [1], .int 0, []) := rfl
theorem cd241_16 : code9 241 16 = some (0, .iconst 1, [1], .int 1, []) := rfl
theorem cd241_17 : code9 241 17 = some (0, .invokestatic 75, [3, 191, 3, 0, 3, 3, 12, 0], .null, []) := rfl
theorem cd241_20 : code9 241 20 = some (0, .ifCond .ne 9, [3, 29], .null, []) := rfl
theorem cd241_23 : code9 241 23 = some (4, .aload_n 0, [1], .null, []) := rfl
theorem cd241_24 : code9 241 24 = some (0, .invokevirtual 245, [3, 210, 1, 1, 1, 1, 12, 0], .null, []) := rfl
theorem cd241_27 : code9 241 27 = some (0, .i2l, [1], .null, []) := rfl
theorem cd241_28 : code9 241 28 = some (0, .lreturn, [1], .null, []) := rfl
theorem cd241_29 : code9 241 29 = some (0, .aload_n 0, [1], .null, []) := rfl
theorem cd241_30 : code9 241 30 = some (0, .aload_n 0, [1], .null, []) := rfl
theorem cd241_31 : code9 241 31 = some (0, .iconst 2, [1], .int 2, []) := rfl
theorem cd241_32 : code9 241 32 = some (0, .invokevirtual 261, [3, 219, 2, 1, 1, 4, 12, 0], .null, []) := rfl
theorem cd241_35 : code9 241 35 = some (0, .invokevirtual 314, [3, 242, 2, 1, 0, 4, 12, 0], .null, []) := rfl
theorem cd241_38 : code9 241 38 = some (0, .aload_n 0, [1], .null, []) := rfl
theorem cd241_39 : code9 241 39 = some (0, .getfield 130, [3, 12, 26, 2], .null, []) := rfl
theorem cd241_42 : code9 241 42 = some (0, .iload_n 1, [1], .null, []) := rfl
theorem cd241_43 : code9 241 43 = some (0, .laload, [1], .null, []) := rfl
theorem cd241_44 : code9 241 44 = some (0, .aload_n 0, [1], .null, []) := rfl
theorem cd241_45 : code9 241 45 = some (0, .invokevirtual 310, [3, 243, 1, 1, 2, 1, 12, 0], .null, []) := rfl
theorem cd241_48 : code9 241 48 = some (0, .iload_n 2, [1], .null, []) := rfl
theorem cd241_49 : code9 241 49 = some (0, .invokestatic 317, [3, 244, 3, 0, 2, 7, 12, 0], .null, []) := rfl
theorem cd241_52 : code9 241 52 = some (0, .lreturn, [1], .null, []) := rfl
def Mod_belief (N : Nat) (l1 : Int32) (l2 : Int32) (I : FI) (J : FJ) : Option (Int64 × FI × FJ) := Option.bind (some (up2 I 204 0 (0 : Int32))) fun I1 => (if (Mod_isIn l1 0 2) then (if (Mod_isIn l2 0 1) then (Option.bind (Mod_those N 2 I1) fun x4 => (Option.bind (Mod_layWeights N x4 I1 J) fun x5 => (if in9 l1 3 then (Option.bind (Mod_weightAll x5) fun x7 => (Option.bind (Mod_part N (x5 216 l1.toNatClampNeg) x7 l2) fun x8 => (some (x8, I1, x5)))) else none))) else (Option.bind (Mod_refuse I1) fun x3 => (some (x3.1.toInt64, x3.2, J)))) else (Option.bind (Mod_refuse I1) fun x2 => (some (x2.1.toInt64, x2.2, J))))
set_option maxRecDepth 8000 in
theorem t_Mod_belief {d : Nat} {N : Nat} {c : Nat × Nat} {S : Nat → Nat × Nat} {P : Nat → Nat → Option Nat} {I : FI} {J : FJ} {l1 : Int32} {l2 : Int32} {r : Int64 × FI × FJ} (hd : 2 ≤ d) (hw : OM S P) (h : Mod_belief N l1 l2 I J = some r) : Go d M_Mod_belief 0 [some (.ref 204), some (.int l1), some (.int l2)] [] (c, S, I, J, P) (some (.long r.1), false, (c, S, r.2.1, r.2.2, P)) := by
  obtain ⟨d, rfl⟩ : ∃ e, d = e + 1 := ⟨d - 1, by omega⟩
  unfold Mod_belief at h
  refine g_aload_n cd241_0 rfl rfl ?_
  refine g_iconst cd241_1 rfl ?_
  obtain ⟨I1, e1, h⟩ := bnd h
  refine G_putI cd241_2 rfl (OM.o hw) (Option.some.inj e1) ?_
  refine g_iload_n cd241_5 rfl rfl ?_
  refine g_iconst cd241_6 rfl ?_
  refine g_iconst cd241_7 rfl ?_
  refine g_callSZ (L := [some (.int l1), some (.int 0), some (.int 2)]) cd241_8 rfl rfl rfl rfl rfl (t_Mod_isIn (by omega)  rfl) ?_
  refine g_if_eq cd241_11 rfl (fun hb => ?_) (fun hb => ?_)
  · have h := ifnE (b2i_f hb) h
    refine g_aload_n cd241_23 rfl rfl ?_
    obtain ⟨x2, hx, h⟩ := bnd h
    refine g_callVI (L := [some (.ref 204)]) cd241_24 rfl rfl rfl rfl rfl (OM.o hw) (t_Mod_refuse (by omega) hw hx) ?_
    refine g_i2l cd241_27 rfl ?_
    exact g_lret cd241_28 (by obtain rfl := Option.some.inj h; rfl)
  · have h := ifpE (b2i_t hb) h
    refine g_iload_n cd241_14 rfl rfl ?_
    refine g_iconst cd241_15 rfl ?_
    refine g_iconst cd241_16 rfl ?_
    refine g_callSZ (L := [some (.int l2), some (.int 0), some (.int 1)]) cd241_17 rfl rfl rfl rfl rfl (t_Mod_isIn (by omega)  rfl) ?_
    refine g_if_ne cd241_20 rfl (fun hb => ?_) (fun hb => ?_)
    · have h := ifnE (b2i_f hb) h
      refine g_aload_n cd241_23 rfl rfl ?_
      obtain ⟨x3, hx, h⟩ := bnd h
      refine g_callVI (L := [some (.ref 204)]) cd241_24 rfl rfl rfl rfl rfl (OM.o hw) (t_Mod_refuse (by omega) hw hx) ?_
      refine g_i2l cd241_27 rfl ?_
      exact g_lret cd241_28 (by obtain rfl := Option.some.inj h; rfl)
    · have h := ifpE (b2i_t hb) h
      refine g_aload_n cd241_29 rfl rfl ?_
      refine g_aload_n cd241_30 rfl rfl ?_
      refine g_iconst cd241_31 rfl ?_
      obtain ⟨x4, hx, h⟩ := bnd h
      refine g_callVI (L := [some (.ref 204), some (.int 2), none, none]) cd241_32 rfl rfl rfl rfl rfl (OM.o hw) (t_Mod_those (by omega) hw hx) ?_
      obtain ⟨x5, hx, h⟩ := bnd h
      refine g_callVV (L := [some (.ref 204), some (.int x4), none, none]) cd241_35 rfl rfl rfl rfl rfl (OM.o hw) (t_Mod_layWeights (by omega) hw hx) ?_
      refine g_aload_n cd241_38 rfl rfl ?_
      refine g_getP cd241_39 rfl (OM.o hw) (OM.p26 hw) ?_
      refine g_iload_n cd241_42 rfl rfl ?_
      obtain ⟨hg6, h⟩ := grd h
      refine G_lald cd241_43 rfl (OM.s26 hw) hg6 ?_
      refine g_aload_n cd241_44 rfl rfl ?_
      obtain ⟨x7, hx, h⟩ := bnd h
      refine g_callVJ (L := [some (.ref 204)]) cd241_45 rfl rfl rfl rfl rfl (OM.o hw) (t_Mod_weightAll (by omega) hw hx) ?_
      refine g_iload_n cd241_48 rfl rfl ?_
      obtain ⟨x8, hx, h⟩ := bnd h
      refine g_callSJ (L := [some (.long (x5 216 l1.toNatClampNeg)), none, some (.long x7), none, some (.int l2), none, none]) cd241_49 rfl rfl rfl rfl rfl (t_Mod_part (by omega)  hx) ?_
      exact g_lret cd241_52 (by obtain rfl := Option.some.inj h; rfl)
/-! HiddenOrLostModel.reading()I -/
theorem cd246_0 : code9 246 0 = some (0, .aload_n 0, [1], .null, []) := rfl
theorem cd246_1 : code9 246 1 = some (0, .iconst 0, [1], .int 0, []) := rfl
theorem cd246_2 : code9 246 2 = some (0, .putfield 1, [3, 12, 0, 0], .null, []) := rfl
theorem cd246_5 : code9 246 5 = some (0, .aload_n 0, [1], .null, []) := rfl
theorem cd246_6 : code9 246 6 = some (0, .aload_n 0, [1], .null, []) := rfl
theorem cd246_7 : code9 246 7 = some (0, .iconst 2, [1], .int 2, []) := rfl
theorem cd246_8 : code9 246 8 = some (0, .invokevirtual 261, [3, 219, 2, 1, 1, 4, 12, 0], .null, []) := rfl
theorem cd246_11 : code9 246 11 = some (0, .invokevirtual 314, [3, 242, 2, 1, 0, 4, 12, 0], .null, []) := rfl
theorem cd246_14 : code9 246 14 = some (0, .iconst 0, [1], .int 0, []) := rfl
theorem cd246_15 : code9 246 15 = some (0, .istore_n 1, [1], .null, []) := rfl
theorem cd246_16 : code9 246 16 = some (0, .iconst 1, [1], .int 1, []) := rfl
theorem cd246_17 : code9 246 17 = some (0, .istore_n 2, [1], .null, []) := rfl
theorem cd246_18 : code9 246 18 = some (4, .iload_n 2, [1], .null, []) := rfl
theorem cd246_19 : code9 246 19 = some (0, .iconst 3, [1], .int 3, []) := rfl
theorem cd246_20 : code9 246 20 = some (0, .if_icmp .ge 27, [3, 47], .null, []) := rfl
theorem cd246_23 : code9 246 23 = some (0, .aload_n 0, [1], .null, []) := rfl
theorem cd246_24 : code9 246 24 = some (0, .getfield 130, [3, 12, 26, 2], .null, []) := rfl
theorem cd246_27 : code9 246 27 = some (0, .iload_n 2, [1], .null, []) := rfl
theorem cd246_28 : code9 246 28 = some (0, .laload, [1], .null, []) := rfl
theorem cd246_29 : code9 246 29 = some (0, .aload_n 0, [1], .null, []) := rfl
theorem cd246_30 : code9 246 30 = some (0, .getfield 130, [3, 12, 26, 2], .null, []) := rfl
theorem cd246_33 : code9 246 33 = some (0, .iload_n 1, [1], .null, []) := rfl
theorem cd246_34 : code9 246 34 = some (0, .laload, [1], .null, []) := rfl
theorem cd246_35 : code9 246 35 = some (0, .lcmp, [1], .null, []) := rfl
theorem cd246_36 : code9 246 36 = some (0, .ifCond .le 5, [3, 41], .null, []) := rfl
theorem cd246_39 : code9 246 39 = some (0, .iload_n 2, [1], .null, []) := rfl
theorem cd246_40 : code9 246 40 = some (0, .istore_n 1, [1], .null, []) := rfl
theorem cd246_41 : code9 246 41 = some (4, .iinc 2 1, [3], .int 1, []) := rfl
theorem cd246_44 : code9 246 44 = some (0, .goto (-26), [3, 18, 3], .null, []) := rfl
theorem cd246_47 : code9 246 47 = some (0, .iload_n 1, [1], .null, []) := rfl
theorem cd246_48 : code9 246 48 = some (0, .ireturn, [1, 1], .null, []) := rfl
def Mod_reading_18 (N : Nat) : Nat → Int32 → Int32 → FI → FJ → Option (Int32 × FI × FJ)
  | 0 => fun _ _ _ _ => none
  | n + 1 => fun l1 l2 I J => if 3 ≤ l2 then (some (l1, I, J)) else (if in9 l2 3 then (if in9 l1 3 then (if (J 216 l2.toNatClampNeg) ≤ (J 216 l1.toNatClampNeg) then (Mod_reading_18 N n l1 (l2 + 1) I J) else (Mod_reading_18 N n l2 (l2 + 1) I J)) else none) else none)
def Mod_reading (N : Nat) (I : FI) (J : FJ) : Option (Int32 × FI × FJ) := Option.bind (some (up2 I 204 0 (0 : Int32))) fun I1 => (Option.bind (Mod_those N 2 I1) fun x2 => (Option.bind (Mod_layWeights N x2 I1 J) fun x3 => (Mod_reading_18 N N 0 1 I1 x3)))
set_option maxRecDepth 8000 in
theorem t_Mod_reading_18 {d : Nat} {N : Nat} {c : Nat × Nat} {S : Nat → Nat × Nat} {P : Nat → Nat → Option Nat} {r : Int32 × FI × FJ} (hd : 2 ≤ (d + 1)) (hw : OM S P) : ∀ (n : Nat) (l1 : Int32) (l2 : Int32) (I : FI) (J : FJ), Mod_reading_18 N n l1 l2 I J = some r → Go (d + 1) M_Mod_reading 18 [some (.ref 204), some (.int l1), some (.int l2)] [] (c, S, I, J, P) (some (.int r.1), false, (c, S, r.2.1, r.2.2, P)) := by
  intro n
  induction n with
  | zero =>
    intro l1 l2 I J h
    cases h
  | succ n ih =>
    intro l1 l2 I J h
    unfold Mod_reading_18 at h
    refine g_iload_n cd246_18 rfl rfl ?_
    refine g_iconst cd246_19 rfl ?_
    refine g_icmp_ge cd246_20 rfl (fun hb => ?_) (fun hb => ?_)
    · have h := ifpE hb h
      refine g_iload_n cd246_47 rfl rfl ?_
      exact g_iret cd246_48 (Or.inl rfl) (by obtain rfl := Option.some.inj h; rfl)
    · have h := ifnE hb h
      refine g_aload_n cd246_23 rfl rfl ?_
      refine g_getP cd246_24 rfl (OM.o hw) (OM.p26 hw) ?_
      refine g_iload_n cd246_27 rfl rfl ?_
      obtain ⟨hg4, h⟩ := grd h
      refine G_lald cd246_28 rfl (OM.s26 hw) hg4 ?_
      refine g_aload_n cd246_29 rfl rfl ?_
      refine g_getP cd246_30 rfl (OM.o hw) (OM.p26 hw) ?_
      refine g_iload_n cd246_33 rfl rfl ?_
      obtain ⟨hg5, h⟩ := grd h
      refine G_lald cd246_34 rfl (OM.s26 hw) hg5 ?_
      refine g_lcmp cd246_35 rfl ?_
      refine g_if_le cd246_36 rfl (fun hb => ?_) (fun hb => ?_)
      · have h := ifpE (lgc_le.mp hb) h
        refine g_iinc (ls2 := [some (.ref 204), some (.int l1), some (.int (l2 + 1))]) cd246_41 rfl rfl rfl ?_
        refine g_goto (ls2 := [some (.ref 204), some (.int l1), some (.int (l2 + 1))]) cd246_44 rfl rfl ?_
        exact ih l1 (l2 + 1) I J h
      · have h := ifnE (fun q => hb (lgc_le.mpr q)) h
        refine g_iload_n cd246_39 rfl rfl ?_
        refine g_istore_n (ls2 := [some (.ref 204), some (.int l2), some (.int l2)]) cd246_40 rfl rfl ?_
        refine g_iinc (ls2 := [some (.ref 204), some (.int l2), some (.int (l2 + 1))]) cd246_41 rfl rfl rfl ?_
        refine g_goto (ls2 := [some (.ref 204), some (.int l2), some (.int (l2 + 1))]) cd246_44 rfl rfl ?_
        exact ih l2 (l2 + 1) I J h
set_option maxRecDepth 8000 in
theorem t_Mod_reading {d : Nat} {N : Nat} {c : Nat × Nat} {S : Nat → Nat × Nat} {P : Nat → Nat → Option Nat} {I : FI} {J : FJ} {r : Int32 × FI × FJ} (hd : 2 ≤ d) (hw : OM S P) (h : Mod_reading N I J = some r) : Go d M_Mod_reading 0 [some (.ref 204), none, none] [] (c, S, I, J, P) (some (.int r.1), false, (c, S, r.2.1, r.2.2, P)) := by
  obtain ⟨d, rfl⟩ : ∃ e, d = e + 1 := ⟨d - 1, by omega⟩
  unfold Mod_reading at h
  refine g_aload_n cd246_0 rfl rfl ?_
  refine g_iconst cd246_1 rfl ?_
  obtain ⟨I1, e1, h⟩ := bnd h
  refine G_putI cd246_2 rfl (OM.o hw) (Option.some.inj e1) ?_
  refine g_aload_n cd246_5 rfl rfl ?_
  refine g_aload_n cd246_6 rfl rfl ?_
  refine g_iconst cd246_7 rfl ?_
  obtain ⟨x2, hx, h⟩ := bnd h
  refine g_callVI (L := [some (.ref 204), some (.int 2), none, none]) cd246_8 rfl rfl rfl rfl rfl (OM.o hw) (t_Mod_those (by omega) hw hx) ?_
  obtain ⟨x3, hx, h⟩ := bnd h
  refine g_callVV (L := [some (.ref 204), some (.int x2), none, none]) cd246_11 rfl rfl rfl rfl rfl (OM.o hw) (t_Mod_layWeights (by omega) hw hx) ?_
  refine g_iconst cd246_14 rfl ?_
  refine g_istore_n (ls2 := [some (.ref 204), some (.int 0), none]) cd246_15 rfl rfl ?_
  refine g_iconst cd246_16 rfl ?_
  refine g_istore_n (ls2 := [some (.ref 204), some (.int 0), some (.int 1)]) cd246_17 rfl rfl ?_
  exact t_Mod_reading_18 hd hw _ 0 1 I1 x3 h
/-! HiddenOrLostModel.sureBy(I)J -/
theorem cd248_0 : code9 248 0 = some (0, .lconst 0, [1], .long 0, []) := rfl
theorem cd248_1 : code9 248 1 = some (0, .lstore_n 2, [1], .null, []) := rfl
theorem cd248_2 : code9 248 2 = some (0, .lconst 0, [1], .long 0, []) := rfl
theorem cd248_3 : code9 248 3 = some (0, .lstore 4, [2], .null, []) := rfl
theorem cd248_5 : code9 248 5 = some (0, .iconst 0, [1], .int 0, []) := rfl
theorem cd248_6 : code9 248 6 = some (0, .istore 6, [2], .null, []) := rfl
theorem cd248_8 : code9 248 8 = some (8, .iload 6, [2], .null, []) := rfl
theorem cd248_10 : code9 248 10 = some (0, .iconst 3, [1], .int 3, []) := rfl
theorem cd248_11 : code9 248 11 = some (0, .if_icmp .ge 89, [3, 100], .null, []) := rfl
theorem cd248_14 : code9 248 14 = some (0, .aload_n 0, [1], .null, []) := rfl
theorem cd248_15 : code9 248 15 = some (0, .getfield 98, [3, 12, 14, 2], .null, []) := rfl
theorem cd248_18 : code9 248 18 = some (0, .bipush 6, [2], .int 6, []) := rfl
theorem cd248_20 : code9 248 20 = some (0, .iconst 4, [1], .int 4, []) := rfl
theorem cd248_21 : code9 248 21 = some (0, .iload 6, [2], .null, []) := rfl
theorem cd248_23 : code9 248 23 = some (0, .imul, [1], .null, []) := rfl
theorem cd248_24 : code9 248 24 = some (0, .iadd, [1], .null, []) := rfl
theorem cd248_25 : code9 248 25 = some (0, .iload_n 1, [1], .null, []) := rfl
theorem cd248_26 : code9 248 26 = some (0, .iadd, [1], .null, []) := rfl
theorem cd248_27 : code9 248 27 = some (0, .iaload, [1], .null, []) := rfl
theorem cd248_28 : code9 248 28 = some (0, .istore 7, [2], .null, []) := rfl
theorem cd248_30 : code9 248 30 = some (0, .aload_n 0, [1], .null, []) := rfl
theorem cd248_31 : code9 248 31 = some (0, .getfield 130, [3, 12, 26, 2], .null, []) := rfl
theorem cd248_34 : code9 248 34 = some (0, .iload 6, [2], .null, []) := rfl
theorem cd248_36 : code9 248 36 = some (0, .laload, [1], .null, []) := rfl
theorem cd248_37 : code9 248 37 = some (0, .iload 7, [2], .null, []) := rfl
theorem cd248_39 : code9 248 39 = some (0, .i2l, [1], .null, []) := rfl
theorem cd248_40 : code9 248 40 = some (0, .lmul, [1], .null, []) := rfl
theorem cd248_41 : code9 248 41 = some (0, .lload_n 2, [1], .null, []) := rfl
theorem cd248_42 : code9 248 42 = some (0, .lcmp, [1], .null, []) := rfl
theorem cd248_43 : code9 248 43 = some (0, .ifCond .le 15, [3, 58], .null, []) := rfl
theorem cd248_46 : code9 248 46 = some (0, .aload_n 0, [1], .null, []) := rfl
theorem cd248_47 : code9 248 47 = some (0, .getfield 130, [3, 12, 26, 2], .null, []) := rfl
theorem cd248_50 : code9 248 50 = some (0, .iload 6, [2], .null, []) := rfl
theorem cd248_52 : code9 248 52 = some (0, .laload, [1], .null, []) := rfl
theorem cd248_53 : code9 248 53 = some (0, .iload 7, [2], .null, []) := rfl
theorem cd248_55 : code9 248 55 = some (0, .i2l, [1], .null, []) := rfl
theorem cd248_56 : code9 248 56 = some (0, .lmul, [1], .null, []) := rfl
theorem cd248_57 : code9 248 57 = some (0, .lstore_n 2, [1], .null, []) := rfl
theorem cd248_58 : code9 248 58 = some (9, .aload_n 0, [1], .null, []) := rfl
theorem cd248_59 : code9 248 59 = some (0, .getfield 130, [3, 12, 26, 2], .null, []) := rfl
theorem cd248_62 : code9 248 62 = some (0, .iload 6, [2], .null, []) := rfl
theorem cd248_64 : code9 248 64 = some (0, .laload, [1], .null, []) := rfl
theorem cd248_65 : code9 248 65 = some (0, .bipush 12, [2], .int 12, []) := rfl
theorem cd248_67 : code9 248 67 = some (0, .iload 7, [2], .null, []) := rfl
theorem cd248_69 : code9 248 69 = some (0, .isub, [1], .null, []) := rfl
theorem cd248_70 : code9 248 70 = some (0, .i2l, [1], .null, []) := rfl
theorem cd248_71 : code9 248 71 = some (0, .lmul, [1], .null, []) := rfl
theorem cd248_72 : code9 248 72 = some (0, .lload 4, [2], .null, []) := rfl
theorem cd248_74 : code9 248 74 = some (0, .lcmp, [1], .null, []) := rfl
theorem cd248_75 : code9 248 75 = some (0, .ifCond .le 19, [3, 94], .null, []) := rfl
theorem cd248_78 : code9 248 78 = some (0, .aload_n 0, [1], .null, []) := rfl
theorem cd248_79 : code9 248 79 = some (0, .getfield 130, [3, 12, 26, 2], .null, []) := rfl
theorem cd248_82 : code9 248 82 = some (0, .iload 6, [2], .null, []) := rfl
theorem cd248_84 : code9 248 84 = some (0, .laload, [1], .null, []) := rfl
theorem cd248_85 : code9 248 85 = some (0, .bipush 12, [2], .int 12, []) := rfl
theorem cd248_87 : code9 248 87 = some (0, .iload 7, [2], .null, []) := rfl
theorem cd248_89 : code9 248 89 = some (0, .isub, [1], .null, []) := rfl
theorem cd248_90 : code9 248 90 = some (0, .i2l, [1], .null, []) := rfl
theorem cd248_91 : code9 248 91 = some (0, .lmul, [1], .null, []) := rfl
theorem cd248_92 : code9 248 92 = some (0, .lstore 4, [2], .null, []) := rfl
theorem cd248_94 : code9 248 94 = some (9, .iinc 6 1, [3], .int 1, []) := rfl
theorem cd248_97 : code9 248 97 = some (0, .goto (-89), [3, 8, 7], .null, []) := rfl
theorem cd248_100 : code9 248 100 = some (0, .lload_n 2, [1], .null, []) := rfl
theorem cd248_101 : code9 248 101 = some (0, .lload 4, [2], .null, []) := rfl
theorem cd248_103 : code9 248 103 = some (0, .ladd, [1], .null, []) := rfl
theorem cd248_104 : code9 248 104 = some (0, .lreturn, [1], .null, []) := rfl
def Mod_sureBy_8 (N : Nat) : Nat → Int32 → Int64 → Int64 → Int32 → FI → FJ → Option (Int64)
  | 0 => fun _ _ _ _ _ _ => none
  | n + 1 => fun l1 l2 l4 l6 I J => if 3 ≤ l6 then (some (l2 + l4)) else (if in9 ((6 + (4 * l6)) + l1) 451 then (if in9 l6 3 then (if ((J 216 l6.toNatClampNeg) * ((I 206 (((6 + (4 * l6)) + l1).toNatClampNeg)).toInt64)) ≤ l2 then (if ((J 216 l6.toNatClampNeg) * ((12 - (I 206 (((6 + (4 * l6)) + l1).toNatClampNeg))).toInt64)) ≤ l4 then (Mod_sureBy_8 N n l1 l2 l4 (l6 + 1) I J) else (Mod_sureBy_8 N n l1 l2 ((J 216 l6.toNatClampNeg) * ((12 - (I 206 (((6 + (4 * l6)) + l1).toNatClampNeg))).toInt64)) (l6 + 1) I J)) else (if ((J 216 l6.toNatClampNeg) * ((12 - (I 206 (((6 + (4 * l6)) + l1).toNatClampNeg))).toInt64)) ≤ l4 then (Mod_sureBy_8 N n l1 ((J 216 l6.toNatClampNeg) * ((I 206 (((6 + (4 * l6)) + l1).toNatClampNeg)).toInt64)) l4 (l6 + 1) I J) else (Mod_sureBy_8 N n l1 ((J 216 l6.toNatClampNeg) * ((I 206 (((6 + (4 * l6)) + l1).toNatClampNeg)).toInt64)) ((J 216 l6.toNatClampNeg) * ((12 - (I 206 (((6 + (4 * l6)) + l1).toNatClampNeg))).toInt64)) (l6 + 1) I J))) else none) else none)
def Mod_sureBy (N : Nat) (l1 : Int32) (I : FI) (J : FJ) : Option (Int64) := Mod_sureBy_8 N N l1 0 0 0 I J
set_option maxRecDepth 8000 in
theorem t_Mod_sureBy_8 {d : Nat} {N : Nat} {c : Nat × Nat} {S : Nat → Nat × Nat} {P : Nat → Nat → Option Nat} {r : Int64} (hd : 0 ≤ d) (hw : OM S P) : ∀ (n : Nat) (l1 : Int32) (l2 : Int64) (l4 : Int64) (l6 : Int32) (I : FI) (J : FJ), Mod_sureBy_8 N n l1 l2 l4 l6 I J = some r → Go d M_Mod_sureBy 8 [some (.ref 204), some (.int l1), some (.long l2), none, some (.long l4), none, some (.int l6), none] [] (c, S, I, J, P) (some (.long r), false, (c, S, I, J, P)) := by
  intro n
  induction n with
  | zero =>
    intro l1 l2 l4 l6 I J h
    cases h
  | succ n ih =>
    intro l1 l2 l4 l6 I J h
    unfold Mod_sureBy_8 at h
    refine g_iload cd248_8 rfl rfl ?_
    refine g_iconst cd248_10 rfl ?_
    refine g_icmp_ge cd248_11 rfl (fun hb => ?_) (fun hb => ?_)
    · have h := ifpE hb h
      refine g_lload_n cd248_100 rfl rfl ?_
      refine g_lload cd248_101 rfl rfl ?_
      refine g_ladd cd248_103 rfl ?_
      exact g_lret cd248_104 (by obtain rfl := Option.some.inj h; rfl)
    · have h := ifnE hb h
      refine g_aload_n cd248_14 rfl rfl ?_
      refine g_getP cd248_15 rfl (OM.o hw) (OM.p14 hw) ?_
      refine g_bipush cd248_18 rfl ?_
      refine g_iconst cd248_20 rfl ?_
      refine g_iload cd248_21 rfl rfl ?_
      refine g_imul cd248_23 rfl ?_
      refine g_iadd cd248_24 rfl ?_
      refine g_iload_n cd248_25 rfl rfl ?_
      refine g_iadd cd248_26 rfl ?_
      obtain ⟨hg1, h⟩ := grd h
      refine G_iald cd248_27 rfl (OM.s14 hw) hg1 ?_
      refine g_istore (ls2 := [some (.ref 204), some (.int l1), some (.long l2), none, some (.long l4), none, some (.int l6), some (.int (I 206 (((6 + (4 * l6)) + l1).toNatClampNeg)))]) cd248_28 rfl rfl ?_
      refine g_aload_n cd248_30 rfl rfl ?_
      refine g_getP cd248_31 rfl (OM.o hw) (OM.p26 hw) ?_
      refine g_iload cd248_34 rfl rfl ?_
      obtain ⟨hg2, h⟩ := grd h
      refine G_lald cd248_36 rfl (OM.s26 hw) hg2 ?_
      refine g_iload cd248_37 rfl rfl ?_
      refine g_i2l cd248_39 rfl ?_
      refine g_lmul cd248_40 rfl ?_
      refine g_lload_n cd248_41 rfl rfl ?_
      refine g_lcmp cd248_42 rfl ?_
      refine g_if_le cd248_43 rfl (fun hb => ?_) (fun hb => ?_)
      · have h := ifpE (lgc_le.mp hb) h
        refine g_aload_n cd248_58 rfl rfl ?_
        refine g_getP cd248_59 rfl (OM.o hw) (OM.p26 hw) ?_
        refine g_iload cd248_62 rfl rfl ?_
        refine G_lald cd248_64 rfl (OM.s26 hw) hg2 ?_
        refine g_bipush cd248_65 rfl ?_
        refine g_iload cd248_67 rfl rfl ?_
        refine g_isub cd248_69 rfl ?_
        refine g_i2l cd248_70 rfl ?_
        refine g_lmul cd248_71 rfl ?_
        refine g_lload cd248_72 rfl rfl ?_
        refine g_lcmp cd248_74 rfl ?_
        refine g_if_le cd248_75 rfl (fun hb => ?_) (fun hb => ?_)
        · have h := ifpE (lgc_le.mp hb) h
          refine g_iinc (ls2 := [some (.ref 204), some (.int l1), some (.long l2), none, some (.long l4), none, some (.int (l6 + 1)), some (.int (I 206 (((6 + (4 * l6)) + l1).toNatClampNeg)))]) cd248_94 rfl rfl rfl ?_
          refine g_goto (ls2 := [some (.ref 204), some (.int l1), some (.long l2), none, some (.long l4), none, some (.int (l6 + 1)), none]) cd248_97 rfl rfl ?_
          exact ih l1 l2 l4 (l6 + 1) I J h
        · have h := ifnE (fun q => hb (lgc_le.mpr q)) h
          refine g_aload_n cd248_78 rfl rfl ?_
          refine g_getP cd248_79 rfl (OM.o hw) (OM.p26 hw) ?_
          refine g_iload cd248_82 rfl rfl ?_
          refine G_lald cd248_84 rfl (OM.s26 hw) hg2 ?_
          refine g_bipush cd248_85 rfl ?_
          refine g_iload cd248_87 rfl rfl ?_
          refine g_isub cd248_89 rfl ?_
          refine g_i2l cd248_90 rfl ?_
          refine g_lmul cd248_91 rfl ?_
          refine g_lstore (ls2 := [some (.ref 204), some (.int l1), some (.long l2), none, some (.long ((J 216 l6.toNatClampNeg) * ((12 - (I 206 (((6 + (4 * l6)) + l1).toNatClampNeg))).toInt64))), none, some (.int l6), some (.int (I 206 (((6 + (4 * l6)) + l1).toNatClampNeg)))]) cd248_92 rfl rfl ?_
          refine g_iinc (ls2 := [some (.ref 204), some (.int l1), some (.long l2), none, some (.long ((J 216 l6.toNatClampNeg) * ((12 - (I 206 (((6 + (4 * l6)) + l1).toNatClampNeg))).toInt64))), none, some (.int (l6 + 1)), some (.int (I 206 (((6 + (4 * l6)) + l1).toNatClampNeg)))]) cd248_94 rfl rfl rfl ?_
          refine g_goto (ls2 := [some (.ref 204), some (.int l1), some (.long l2), none, some (.long ((J 216 l6.toNatClampNeg) * ((12 - (I 206 (((6 + (4 * l6)) + l1).toNatClampNeg))).toInt64))), none, some (.int (l6 + 1)), none]) cd248_97 rfl rfl ?_
          exact ih l1 l2 ((J 216 l6.toNatClampNeg) * ((12 - (I 206 (((6 + (4 * l6)) + l1).toNatClampNeg))).toInt64)) (l6 + 1) I J h
      · have h := ifnE (fun q => hb (lgc_le.mpr q)) h
        refine g_aload_n cd248_46 rfl rfl ?_
        refine g_getP cd248_47 rfl (OM.o hw) (OM.p26 hw) ?_
        refine g_iload cd248_50 rfl rfl ?_
        refine G_lald cd248_52 rfl (OM.s26 hw) hg2 ?_
        refine g_iload cd248_53 rfl rfl ?_
        refine g_i2l cd248_55 rfl ?_
        refine g_lmul cd248_56 rfl ?_
        refine g_lstore_n (ls2 := [some (.ref 204), some (.int l1), some (.long ((J 216 l6.toNatClampNeg) * ((I 206 (((6 + (4 * l6)) + l1).toNatClampNeg)).toInt64))), none, some (.long l4), none, some (.int l6), some (.int (I 206 (((6 + (4 * l6)) + l1).toNatClampNeg)))]) cd248_57 rfl rfl ?_
        refine g_aload_n cd248_58 rfl rfl ?_
        refine g_getP cd248_59 rfl (OM.o hw) (OM.p26 hw) ?_
        refine g_iload cd248_62 rfl rfl ?_
        refine G_lald cd248_64 rfl (OM.s26 hw) hg2 ?_
        refine g_bipush cd248_65 rfl ?_
        refine g_iload cd248_67 rfl rfl ?_
        refine g_isub cd248_69 rfl ?_
        refine g_i2l cd248_70 rfl ?_
        refine g_lmul cd248_71 rfl ?_
        refine g_lload cd248_72 rfl rfl ?_
        refine g_lcmp cd248_74 rfl ?_
        refine g_if_le cd248_75 rfl (fun hb => ?_) (fun hb => ?_)
        · have h := ifpE (lgc_le.mp hb) h
          refine g_iinc (ls2 := [some (.ref 204), some (.int l1), some (.long ((J 216 l6.toNatClampNeg) * ((I 206 (((6 + (4 * l6)) + l1).toNatClampNeg)).toInt64))), none, some (.long l4), none, some (.int (l6 + 1)), some (.int (I 206 (((6 + (4 * l6)) + l1).toNatClampNeg)))]) cd248_94 rfl rfl rfl ?_
          refine g_goto (ls2 := [some (.ref 204), some (.int l1), some (.long ((J 216 l6.toNatClampNeg) * ((I 206 (((6 + (4 * l6)) + l1).toNatClampNeg)).toInt64))), none, some (.long l4), none, some (.int (l6 + 1)), none]) cd248_97 rfl rfl ?_
          exact ih l1 ((J 216 l6.toNatClampNeg) * ((I 206 (((6 + (4 * l6)) + l1).toNatClampNeg)).toInt64)) l4 (l6 + 1) I J h
        · have h := ifnE (fun q => hb (lgc_le.mpr q)) h
          refine g_aload_n cd248_78 rfl rfl ?_
          refine g_getP cd248_79 rfl (OM.o hw) (OM.p26 hw) ?_
          refine g_iload cd248_82 rfl rfl ?_
          refine G_lald cd248_84 rfl (OM.s26 hw) hg2 ?_
          refine g_bipush cd248_85 rfl ?_
          refine g_iload cd248_87 rfl rfl ?_
          refine g_isub cd248_89 rfl ?_
          refine g_i2l cd248_90 rfl ?_
          refine g_lmul cd248_91 rfl ?_
          refine g_lstore (ls2 := [some (.ref 204), some (.int l1), some (.long ((J 216 l6.toNatClampNeg) * ((I 206 (((6 + (4 * l6)) + l1).toNatClampNeg)).toInt64))), none, some (.long ((J 216 l6.toNatClampNeg) * ((12 - (I 206 (((6 + (4 * l6)) + l1).toNatClampNeg))).toInt64))), none, some (.int l6), some (.int (I 206 (((6 + (4 * l6)) + l1).toNatClampNeg)))]) cd248_92 rfl rfl ?_
          refine g_iinc (ls2 := [some (.ref 204), some (.int l1), some (.long ((J 216 l6.toNatClampNeg) * ((I 206 (((6 + (4 * l6)) + l1).toNatClampNeg)).toInt64))), none, some (.long ((J 216 l6.toNatClampNeg) * ((12 - (I 206 (((6 + (4 * l6)) + l1).toNatClampNeg))).toInt64))), none, some (.int (l6 + 1)), some (.int (I 206 (((6 + (4 * l6)) + l1).toNatClampNeg)))]) cd248_94 rfl rfl rfl ?_
          refine g_goto (ls2 := [some (.ref 204), some (.int l1), some (.long ((J 216 l6.toNatClampNeg) * ((I 206 (((6 + (4 * l6)) + l1).toNatClampNeg)).toInt64))), none, some (.long ((J 216 l6.toNatClampNeg) * ((12 - (I 206 (((6 + (4 * l6)) + l1).toNatClampNeg))).toInt64))), none, some (.int (l6 + 1)), none]) cd248_97 rfl rfl ?_
          exact ih l1 ((J 216 l6.toNatClampNeg) * ((I 206 (((6 + (4 * l6)) + l1).toNatClampNeg)).toInt64)) ((J 216 l6.toNatClampNeg) * ((12 - (I 206 (((6 + (4 * l6)) + l1).toNatClampNeg))).toInt64)) (l6 + 1) I J h
set_option maxRecDepth 8000 in
theorem t_Mod_sureBy {d : Nat} {N : Nat} {c : Nat × Nat} {S : Nat → Nat × Nat} {P : Nat → Nat → Option Nat} {I : FI} {J : FJ} {l1 : Int32} {r : Int64} (hd : 0 ≤ d) (hw : OM S P) (h : Mod_sureBy N l1 I J = some r) : Go d M_Mod_sureBy 0 [some (.ref 204), some (.int l1), none, none, none, none, none, none] [] (c, S, I, J, P) (some (.long r), false, (c, S, I, J, P)) := by
  unfold Mod_sureBy at h
  refine g_lconst cd248_0 rfl ?_
  refine g_lstore_n (ls2 := [some (.ref 204), some (.int l1), some (.long 0), none, none, none, none, none]) cd248_1 rfl rfl ?_
  refine g_lconst cd248_2 rfl ?_
  refine g_lstore (ls2 := [some (.ref 204), some (.int l1), some (.long 0), none, some (.long 0), none, none, none]) cd248_3 rfl rfl ?_
  refine g_iconst cd248_5 rfl ?_
  refine g_istore (ls2 := [some (.ref 204), some (.int l1), some (.long 0), none, some (.long 0), none, some (.int 0), none]) cd248_6 rfl rfl ?_
  exact t_Mod_sureBy_8 hd hw _ l1 0 0 0 I J h
/-! HiddenOrLostModel.sure(II)J -/
theorem cd247_0 : code9 247 0 = some (0, .aload_n 0, [1], .null, []) := rfl
theorem cd247_1 : code9 247 1 = some (0, .iconst 0, [1], .int 0, []) := rfl
theorem cd247_2 : code9 247 2 = some (0, .putfield 1, [3, 12, 0, 0], .null, []) := rfl
theorem cd247_5 : code9 247 5 = some (0, .iload_n 1, [1], .null, []) := rfl
theorem cd247_6 : code9 247 6 = some (0, .iconst 0, [1], .int 0, []) := rfl
theorem cd247_7 : code9 247 7 = some (0, .iconst 3, [1], .int 3, []) := rfl
theorem cd247_8 : code9 247 8 = some (0, .invokestatic 75, [3, 191, 3, 0, 3, 3, 12, 0], .null, []) := rfl
theorem cd247_11 : code9 247 11 = some (0, .ifCond .eq 12, [3, 23], .null, []) := rfl
theorem cd247_14 : code9 247 14 = some (0, .iload_n 2, [1], .null, []) := rfl
theorem cd247_15 : code9 247 15 = some (0, .iconst 0, [1], .int 0, []) := rfl
theorem cd247_16 : code9 247 16 = some (0, .iconst 1, [1], .int 1, []) := rfl
theorem cd247_17 : code9 247 17 = some (0, .invokestatic 75, [3, 191, 3, 0, 3, 3, 12, 0], .null, []) := rfl
theorem cd247_20 : code9 247 20 = some (0, .ifCond .ne 9, [3, 29], .null, []) := rfl
theorem cd247_23 : code9 247 23 = some (4, .aload_n 0, [1], .null, []) := rfl
theorem cd247_24 : code9 247 24 = some (0, .invokevirtual 245, [3, 210, 1, 1, 1, 1, 12, 0], .null, []) := rfl
theorem cd247_27 : code9 247 27 = some (0, .i2l, [1], .null, []) := rfl
theorem cd247_28 : code9 247 28 = some (0, .lreturn, [1], .null, []) := rfl
theorem cd247_29 : code9 247 29 = some (0, .aload_n 0, [1], .null, []) := rfl
theorem cd247_30 : code9 247 30 = some (0, .aload_n 0, [1], .null, []) := rfl
theorem cd247_31 : code9 247 31 = some (0, .iconst 2, [1], .int 2, []) := rfl
theorem cd247_32 : code9 247 32 = some (0, .invokevirtual 261, [3, 219, 2, 1, 1, 4, 12, 0], .null, []) := rfl
theorem cd247_35 : code9 247 35 = some (0, .invokevirtual 314, [3, 242, 2, 1, 0, 4, 12, 0], .null, []) := rfl
theorem cd247_38 : code9 247 38 = some (0, .aload_n 0, [1], .null, []) := rfl
theorem cd247_39 : code9 247 39 = some (0, .iload_n 1, [1], .null, []) := rfl
theorem cd247_40 : code9 247 40 = some (0, .invokevirtual 321, [3, 248, 2, 1, 2, 8, 12, 0], .null, []) := rfl
theorem cd247_43 : code9 247 43 = some (0, .ldc2_w 324, [3], .long 12, []) := rfl
theorem cd247_46 : code9 247 46 = some (0, .aload_n 0, [1], .null, []) := rfl
theorem cd247_47 : code9 247 47 = some (0, .invokevirtual 310, [3, 243, 1, 1, 2, 1, 12, 0], .null, []) := rfl
theorem cd247_50 : code9 247 50 = some (0, .lmul, [1], .null, []) := rfl
theorem cd247_51 : code9 247 51 = some (0, .iload_n 2, [1], .null, []) := rfl
theorem cd247_52 : code9 247 52 = some (0, .invokestatic 317, [3, 244, 3, 0, 2, 7, 12, 0], .null, []) := rfl
theorem cd247_55 : code9 247 55 = some (0, .lreturn, [1], .null, []) := rfl
def Mod_sure (N : Nat) (l1 : Int32) (l2 : Int32) (I : FI) (J : FJ) : Option (Int64 × FI × FJ) := Option.bind (some (up2 I 204 0 (0 : Int32))) fun I1 => (if (Mod_isIn l1 0 3) then (if (Mod_isIn l2 0 1) then (Option.bind (Mod_those N 2 I1) fun x4 => (Option.bind (Mod_layWeights N x4 I1 J) fun x5 => (Option.bind (Mod_sureBy N l1 I1 x5) fun x6 => (Option.bind (Mod_weightAll x5) fun x7 => (Option.bind (Mod_part N x6 (12 * x7) l2) fun x8 => (some (x8, I1, x5))))))) else (Option.bind (Mod_refuse I1) fun x3 => (some (x3.1.toInt64, x3.2, J)))) else (Option.bind (Mod_refuse I1) fun x2 => (some (x2.1.toInt64, x2.2, J))))
set_option maxRecDepth 8000 in
theorem t_Mod_sure {d : Nat} {N : Nat} {c : Nat × Nat} {S : Nat → Nat × Nat} {P : Nat → Nat → Option Nat} {I : FI} {J : FJ} {l1 : Int32} {l2 : Int32} {r : Int64 × FI × FJ} (hd : 2 ≤ d) (hw : OM S P) (h : Mod_sure N l1 l2 I J = some r) : Go d M_Mod_sure 0 [some (.ref 204), some (.int l1), some (.int l2)] [] (c, S, I, J, P) (some (.long r.1), false, (c, S, r.2.1, r.2.2, P)) := by
  obtain ⟨d, rfl⟩ : ∃ e, d = e + 1 := ⟨d - 1, by omega⟩
  unfold Mod_sure at h
  refine g_aload_n cd247_0 rfl rfl ?_
  refine g_iconst cd247_1 rfl ?_
  obtain ⟨I1, e1, h⟩ := bnd h
  refine G_putI cd247_2 rfl (OM.o hw) (Option.some.inj e1) ?_
  refine g_iload_n cd247_5 rfl rfl ?_
  refine g_iconst cd247_6 rfl ?_
  refine g_iconst cd247_7 rfl ?_
  refine g_callSZ (L := [some (.int l1), some (.int 0), some (.int 3)]) cd247_8 rfl rfl rfl rfl rfl (t_Mod_isIn (by omega)  rfl) ?_
  refine g_if_eq cd247_11 rfl (fun hb => ?_) (fun hb => ?_)
  · have h := ifnE (b2i_f hb) h
    refine g_aload_n cd247_23 rfl rfl ?_
    obtain ⟨x2, hx, h⟩ := bnd h
    refine g_callVI (L := [some (.ref 204)]) cd247_24 rfl rfl rfl rfl rfl (OM.o hw) (t_Mod_refuse (by omega) hw hx) ?_
    refine g_i2l cd247_27 rfl ?_
    exact g_lret cd247_28 (by obtain rfl := Option.some.inj h; rfl)
  · have h := ifpE (b2i_t hb) h
    refine g_iload_n cd247_14 rfl rfl ?_
    refine g_iconst cd247_15 rfl ?_
    refine g_iconst cd247_16 rfl ?_
    refine g_callSZ (L := [some (.int l2), some (.int 0), some (.int 1)]) cd247_17 rfl rfl rfl rfl rfl (t_Mod_isIn (by omega)  rfl) ?_
    refine g_if_ne cd247_20 rfl (fun hb => ?_) (fun hb => ?_)
    · have h := ifnE (b2i_f hb) h
      refine g_aload_n cd247_23 rfl rfl ?_
      obtain ⟨x3, hx, h⟩ := bnd h
      refine g_callVI (L := [some (.ref 204)]) cd247_24 rfl rfl rfl rfl rfl (OM.o hw) (t_Mod_refuse (by omega) hw hx) ?_
      refine g_i2l cd247_27 rfl ?_
      exact g_lret cd247_28 (by obtain rfl := Option.some.inj h; rfl)
    · have h := ifpE (b2i_t hb) h
      refine g_aload_n cd247_29 rfl rfl ?_
      refine g_aload_n cd247_30 rfl rfl ?_
      refine g_iconst cd247_31 rfl ?_
      obtain ⟨x4, hx, h⟩ := bnd h
      refine g_callVI (L := [some (.ref 204), some (.int 2), none, none]) cd247_32 rfl rfl rfl rfl rfl (OM.o hw) (t_Mod_those (by omega) hw hx) ?_
      obtain ⟨x5, hx, h⟩ := bnd h
      refine g_callVV (L := [some (.ref 204), some (.int x4), none, none]) cd247_35 rfl rfl rfl rfl rfl (OM.o hw) (t_Mod_layWeights (by omega) hw hx) ?_
      refine g_aload_n cd247_38 rfl rfl ?_
      refine g_iload_n cd247_39 rfl rfl ?_
      obtain ⟨x6, hx, h⟩ := bnd h
      refine g_callVJ (L := [some (.ref 204), some (.int l1), none, none, none, none, none, none]) cd247_40 rfl rfl rfl rfl rfl (OM.o hw) (t_Mod_sureBy (by omega) hw hx) ?_
      refine g_ldc2_w cd247_43 rfl ?_
      refine g_aload_n cd247_46 rfl rfl ?_
      obtain ⟨x7, hx, h⟩ := bnd h
      refine g_callVJ (L := [some (.ref 204)]) cd247_47 rfl rfl rfl rfl rfl (OM.o hw) (t_Mod_weightAll (by omega) hw hx) ?_
      refine g_lmul cd247_50 rfl ?_
      refine g_iload_n cd247_51 rfl rfl ?_
      obtain ⟨x8, hx, h⟩ := bnd h
      refine g_callSJ (L := [some (.long x6), none, some (.long (12 * x7)), none, some (.int l2), none, none]) cd247_52 rfl rfl rfl rfl rfl (t_Mod_part (by omega)  hx) ?_
      exact g_lret cd247_55 (by obtain rfl := Option.some.inj h; rfl)
/-! HiddenOrLostModel.asks()I -/
theorem cd249_0 : code9 249 0 = some (0, .aload_n 0, [1], .null, []) := rfl
theorem cd249_1 : code9 249 1 = some (0, .iconst 0, [1], .int 0, []) := rfl
theorem cd249_2 : code9 249 2 = some (0, .putfield 1, [3, 12, 0, 0], .null, []) := rfl
theorem cd249_5 : code9 249 5 = some (0, .aload_n 0, [1], .null, []) := rfl
theorem cd249_6 : code9 249 6 = some (0, .aload_n 0, [1], .null, []) := rfl
theorem cd249_7 : code9 249 7 = some (0, .iconst 2, [1], .int 2, []) := rfl
theorem cd249_8 : code9 249 8 = some (0, .invokevirtual 261, [3, 219, 2, 1, 1, 4, 12, 0], .null, []) := rfl
theorem cd249_11 : code9 249 11 = some (0, .invokevirtual 314, [3, 242, 2, 1, 0, 4, 12, 0], .null, []) := rfl
theorem cd249_14 : code9 249 14 = some (0, .iconst 0, [1], .int 0, []) := rfl
theorem cd249_15 : code9 249 15 = some (0, .istore_n 1, [1], .null, []) := rfl
theorem cd249_16 : code9 249 16 = some (0, .iconst 1, [1], .int 1, []) := rfl
theorem cd249_17 : code9 249 17 = some (0, .istore_n 2, [1], .null, []) := rfl
theorem cd249_18 : code9 249 18 = some (4, .iload_n 2, [1], .null, []) := rfl
theorem cd249_19 : code9 249 19 = some (0, .iconst 4, [1], .int 4, []) := rfl
theorem cd249_20 : code9 249 20 = some (0, .if_icmp .ge 25, [3, 45], .null, []) := rfl
theorem cd249_23 : code9 249 23 = some (0, .aload_n 0, [1], .null, []) := rfl
theorem cd249_24 : code9 249 24 = some (0, .iload_n 2, [1], .null, []) := rfl
theorem cd249_25 : code9 249 25 = some (0, .invokevirtual 321, [3, 248, 2, 1, 2, 8, 12, 0], .null, []) := rfl
theorem cd249_28 : code9 249 28 = some (0, .aload_n 0, [1], .null, []) := rfl
theorem cd249_29 : code9 249 29 = some (0, .iload_n 1, [1], .null, []) := rfl
theorem cd249_30 : code9 249 30 = some (0, .invokevirtual 321, [3, 248, 2, 1, 2, 8, 12, 0], .null, []) := rfl
theorem cd249_33 : code9 249 33 = some (0, .lcmp, [1], .null, []) := rfl
theorem cd249_34 : code9 249 34 = some (0, .ifCond .le 5, [3, 39], .null, []) := rfl
theorem cd249_37 : code9 249 37 = some (0, .iload_n 2, [1], .null, []) := rfl
theorem cd249_38 : code9 249 38 = some (0, .istore_n 1, [1], .null, []) := rfl
theorem cd249_39 : code9 249 39 = some (4, .iinc 2 1, [3], .int 1, []) := rfl
theorem cd249_42 : code9 249 42 = some (0, .goto (-24), [3, 18, 3], .null, []) := rfl
theorem cd249_45 : code9 249 45 = some (0, .iload_n 1, [1], .null, []) := rfl
theorem cd249_46 : code9 249 46 = some (0, .ireturn, [1, 1], .null, []) := rfl
def Mod_asks_18 (N : Nat) : Nat → Int32 → Int32 → FI → FJ → Option (Int32 × FI × FJ)
  | 0 => fun _ _ _ _ => none
  | n + 1 => fun l1 l2 I J => if 4 ≤ l2 then (some (l1, I, J)) else (Option.bind (Mod_sureBy N l2 I J) fun x4 => (Option.bind (Mod_sureBy N l1 I J) fun x5 => (if x4 ≤ x5 then (Mod_asks_18 N n l1 (l2 + 1) I J) else (Mod_asks_18 N n l2 (l2 + 1) I J))))
def Mod_asks (N : Nat) (I : FI) (J : FJ) : Option (Int32 × FI × FJ) := Option.bind (some (up2 I 204 0 (0 : Int32))) fun I1 => (Option.bind (Mod_those N 2 I1) fun x2 => (Option.bind (Mod_layWeights N x2 I1 J) fun x3 => (Mod_asks_18 N N 0 1 I1 x3)))
set_option maxRecDepth 8000 in
theorem t_Mod_asks_18 {d : Nat} {N : Nat} {c : Nat × Nat} {S : Nat → Nat × Nat} {P : Nat → Nat → Option Nat} {r : Int32 × FI × FJ} (hd : 2 ≤ (d + 1)) (hw : OM S P) : ∀ (n : Nat) (l1 : Int32) (l2 : Int32) (I : FI) (J : FJ), Mod_asks_18 N n l1 l2 I J = some r → Go (d + 1) M_Mod_asks 18 [some (.ref 204), some (.int l1), some (.int l2)] [] (c, S, I, J, P) (some (.int r.1), false, (c, S, r.2.1, r.2.2, P)) := by
  intro n
  induction n with
  | zero =>
    intro l1 l2 I J h
    cases h
  | succ n ih =>
    intro l1 l2 I J h
    unfold Mod_asks_18 at h
    refine g_iload_n cd249_18 rfl rfl ?_
    refine g_iconst cd249_19 rfl ?_
    refine g_icmp_ge cd249_20 rfl (fun hb => ?_) (fun hb => ?_)
    · have h := ifpE hb h
      refine g_iload_n cd249_45 rfl rfl ?_
      exact g_iret cd249_46 (Or.inl rfl) (by obtain rfl := Option.some.inj h; rfl)
    · have h := ifnE hb h
      refine g_aload_n cd249_23 rfl rfl ?_
      refine g_iload_n cd249_24 rfl rfl ?_
      obtain ⟨x4, hx, h⟩ := bnd h
      refine g_callVJ (L := [some (.ref 204), some (.int l2), none, none, none, none, none, none]) cd249_25 rfl rfl rfl rfl rfl (OM.o hw) (t_Mod_sureBy (by omega) hw hx) ?_
      refine g_aload_n cd249_28 rfl rfl ?_
      refine g_iload_n cd249_29 rfl rfl ?_
      obtain ⟨x5, hx, h⟩ := bnd h
      refine g_callVJ (L := [some (.ref 204), some (.int l1), none, none, none, none, none, none]) cd249_30 rfl rfl rfl rfl rfl (OM.o hw) (t_Mod_sureBy (by omega) hw hx) ?_
      refine g_lcmp cd249_33 rfl ?_
      refine g_if_le cd249_34 rfl (fun hb => ?_) (fun hb => ?_)
      · have h := ifpE (lgc_le.mp hb) h
        refine g_iinc (ls2 := [some (.ref 204), some (.int l1), some (.int (l2 + 1))]) cd249_39 rfl rfl rfl ?_
        refine g_goto (ls2 := [some (.ref 204), some (.int l1), some (.int (l2 + 1))]) cd249_42 rfl rfl ?_
        exact ih l1 (l2 + 1) I J h
      · have h := ifnE (fun q => hb (lgc_le.mpr q)) h
        refine g_iload_n cd249_37 rfl rfl ?_
        refine g_istore_n (ls2 := [some (.ref 204), some (.int l2), some (.int l2)]) cd249_38 rfl rfl ?_
        refine g_iinc (ls2 := [some (.ref 204), some (.int l2), some (.int (l2 + 1))]) cd249_39 rfl rfl rfl ?_
        refine g_goto (ls2 := [some (.ref 204), some (.int l2), some (.int (l2 + 1))]) cd249_42 rfl rfl ?_
        exact ih l2 (l2 + 1) I J h
set_option maxRecDepth 8000 in
theorem t_Mod_asks {d : Nat} {N : Nat} {c : Nat × Nat} {S : Nat → Nat × Nat} {P : Nat → Nat → Option Nat} {I : FI} {J : FJ} {r : Int32 × FI × FJ} (hd : 2 ≤ d) (hw : OM S P) (h : Mod_asks N I J = some r) : Go d M_Mod_asks 0 [some (.ref 204), none, none] [] (c, S, I, J, P) (some (.int r.1), false, (c, S, r.2.1, r.2.2, P)) := by
  obtain ⟨d, rfl⟩ : ∃ e, d = e + 1 := ⟨d - 1, by omega⟩
  unfold Mod_asks at h
  refine g_aload_n cd249_0 rfl rfl ?_
  refine g_iconst cd249_1 rfl ?_
  obtain ⟨I1, e1, h⟩ := bnd h
  refine G_putI cd249_2 rfl (OM.o hw) (Option.some.inj e1) ?_
  refine g_aload_n cd249_5 rfl rfl ?_
  refine g_aload_n cd249_6 rfl rfl ?_
  refine g_iconst cd249_7 rfl ?_
  obtain ⟨x2, hx, h⟩ := bnd h
  refine g_callVI (L := [some (.ref 204), some (.int 2), none, none]) cd249_8 rfl rfl rfl rfl rfl (OM.o hw) (t_Mod_those (by omega) hw hx) ?_
  obtain ⟨x3, hx, h⟩ := bnd h
  refine g_callVV (L := [some (.ref 204), some (.int x2), none, none]) cd249_11 rfl rfl rfl rfl rfl (OM.o hw) (t_Mod_layWeights (by omega) hw hx) ?_
  refine g_iconst cd249_14 rfl ?_
  refine g_istore_n (ls2 := [some (.ref 204), some (.int 0), none]) cd249_15 rfl rfl ?_
  refine g_iconst cd249_16 rfl ?_
  refine g_istore_n (ls2 := [some (.ref 204), some (.int 0), some (.int 1)]) cd249_17 rfl rfl ?_
  exact t_Mod_asks_18 hd hw _ 0 1 I1 x3 h
/-! HiddenOrLostModel.getsOf(I)J -/
theorem cd251_0 : code9 251 0 = some (0, .lconst 0, [1], .long 0, []) := rfl
theorem cd251_1 : code9 251 1 = some (0, .lstore_n 2, [1], .null, []) := rfl
theorem cd251_2 : code9 251 2 = some (0, .iconst 0, [1], .int 0, []) := rfl
theorem cd251_3 : code9 251 3 = some (0, .istore 4, [2], .null, []) := rfl
theorem cd251_5 : code9 251 5 = some (6, .iload 4, [2], .null, []) := rfl
theorem cd251_7 : code9 251 7 = some (0, .iconst 3, [1], .int 3, []) := rfl
theorem cd251_8 : code9 251 8 = some (0, .if_icmp .ge 35, [3, 43], .null, []) := rfl
theorem cd251_11 : code9 251 11 = some (0, .lload_n 2, [1], .null, []) := rfl
theorem cd251_12 : code9 251 12 = some (0, .aload_n 0, [1], .null, []) := rfl
theorem cd251_13 : code9 251 13 = some (0, .getfield 130, [3, 12, 26, 2], .null, []) := rfl
theorem cd251_16 : code9 251 16 = some (0, .iload 4, [2], .null, []) := rfl
theorem cd251_18 : code9 251 18 = some (0, .laload, [1], .null, []) := rfl
theorem cd251_19 : code9 251 19 = some (0, .aload_n 0, [1], .null, []) := rfl
theorem cd251_20 : code9 251 20 = some (0, .getfield 98, [3, 12, 14, 2], .null, []) := rfl
theorem cd251_23 : code9 251 23 = some (0, .bipush 21, [2], .int 21, []) := rfl
theorem cd251_25 : code9 251 25 = some (0, .iconst 3, [1], .int 3, []) := rfl
theorem cd251_26 : code9 251 26 = some (0, .iload 4, [2], .null, []) := rfl
theorem cd251_28 : code9 251 28 = some (0, .imul, [1], .null, []) := rfl
theorem cd251_29 : code9 251 29 = some (0, .iadd, [1], .null, []) := rfl
theorem cd251_30 : code9 251 30 = some (0, .iload_n 1, [1], .null, []) := rfl
theorem cd251_31 : code9 251 31 = some (0, .iadd, [1], .null, []) := rfl
theorem cd251_32 : code9 251 32 = some (0, .iaload, [1], .null, []) := rfl
theorem cd251_33 : code9 251 33 = some (0, .i2l, [1], .null, []) := rfl
theorem cd251_34 : code9 251 34 = some (0, .lmul, [1], .null, []) := rfl
theorem cd251_35 : code9 251 35 = some (0, .ladd, [1], .null, []) := rfl
theorem cd251_36 : code9 251 36 = some (0, .lstore_n 2, [1], .null, []) := rfl
theorem cd251_37 : code9 251 37 = some (0, .iinc 4 1, [3], .int 1, []) := rfl
theorem cd251_40 : code9 251 40 = some (0, .goto (-35), [3, 5, 5], .null, []) := rfl
theorem cd251_43 : code9 251 43 = some (0, .lload_n 2, [1], .null, []) := rfl
theorem cd251_44 : code9 251 44 = some (0, .lreturn, [1], .null, []) := rfl
def Mod_getsOf_5 (N : Nat) : Nat → Int32 → Int64 → Int32 → FI → FJ → Option (Int64)
  | 0 => fun _ _ _ _ _ => none
  | n + 1 => fun l1 l2 l4 I J => if 3 ≤ l4 then (some l2) else (if in9 l4 3 then (if in9 ((21 + (3 * l4)) + l1) 451 then (Mod_getsOf_5 N n l1 (l2 + ((J 216 l4.toNatClampNeg) * ((I 206 (((21 + (3 * l4)) + l1).toNatClampNeg)).toInt64))) (l4 + 1) I J) else none) else none)
def Mod_getsOf (N : Nat) (l1 : Int32) (I : FI) (J : FJ) : Option (Int64) := Mod_getsOf_5 N N l1 0 0 I J
set_option maxRecDepth 8000 in
theorem t_Mod_getsOf_5 {d : Nat} {N : Nat} {c : Nat × Nat} {S : Nat → Nat × Nat} {P : Nat → Nat → Option Nat} {r : Int64} (hd : 0 ≤ d) (hw : OM S P) : ∀ (n : Nat) (l1 : Int32) (l2 : Int64) (l4 : Int32) (I : FI) (J : FJ), Mod_getsOf_5 N n l1 l2 l4 I J = some r → Go d M_Mod_getsOf 5 [some (.ref 204), some (.int l1), some (.long l2), none, some (.int l4)] [] (c, S, I, J, P) (some (.long r), false, (c, S, I, J, P)) := by
  intro n
  induction n with
  | zero =>
    intro l1 l2 l4 I J h
    cases h
  | succ n ih =>
    intro l1 l2 l4 I J h
    unfold Mod_getsOf_5 at h
    refine g_iload cd251_5 rfl rfl ?_
    refine g_iconst cd251_7 rfl ?_
    refine g_icmp_ge cd251_8 rfl (fun hb => ?_) (fun hb => ?_)
    · have h := ifpE hb h
      refine g_lload_n cd251_43 rfl rfl ?_
      exact g_lret cd251_44 (by obtain rfl := Option.some.inj h; rfl)
    · have h := ifnE hb h
      refine g_lload_n cd251_11 rfl rfl ?_
      refine g_aload_n cd251_12 rfl rfl ?_
      refine g_getP cd251_13 rfl (OM.o hw) (OM.p26 hw) ?_
      refine g_iload cd251_16 rfl rfl ?_
      obtain ⟨hg1, h⟩ := grd h
      refine G_lald cd251_18 rfl (OM.s26 hw) hg1 ?_
      refine g_aload_n cd251_19 rfl rfl ?_
      refine g_getP cd251_20 rfl (OM.o hw) (OM.p14 hw) ?_
      refine g_bipush cd251_23 rfl ?_
      refine g_iconst cd251_25 rfl ?_
      refine g_iload cd251_26 rfl rfl ?_
      refine g_imul cd251_28 rfl ?_
      refine g_iadd cd251_29 rfl ?_
      refine g_iload_n cd251_30 rfl rfl ?_
      refine g_iadd cd251_31 rfl ?_
      obtain ⟨hg2, h⟩ := grd h
      refine G_iald cd251_32 rfl (OM.s14 hw) hg2 ?_
      refine g_i2l cd251_33 rfl ?_
      refine g_lmul cd251_34 rfl ?_
      refine g_ladd cd251_35 rfl ?_
      refine g_lstore_n (ls2 := [some (.ref 204), some (.int l1), some (.long (l2 + ((J 216 l4.toNatClampNeg) * ((I 206 (((21 + (3 * l4)) + l1).toNatClampNeg)).toInt64)))), none, some (.int l4)]) cd251_36 rfl rfl ?_
      refine g_iinc (ls2 := [some (.ref 204), some (.int l1), some (.long (l2 + ((J 216 l4.toNatClampNeg) * ((I 206 (((21 + (3 * l4)) + l1).toNatClampNeg)).toInt64)))), none, some (.int (l4 + 1))]) cd251_37 rfl rfl rfl ?_
      refine g_goto (ls2 := [some (.ref 204), some (.int l1), some (.long (l2 + ((J 216 l4.toNatClampNeg) * ((I 206 (((21 + (3 * l4)) + l1).toNatClampNeg)).toInt64)))), none, some (.int (l4 + 1))]) cd251_40 rfl rfl ?_
      exact ih l1 (l2 + ((J 216 l4.toNatClampNeg) * ((I 206 (((21 + (3 * l4)) + l1).toNatClampNeg)).toInt64))) (l4 + 1) I J h
set_option maxRecDepth 8000 in
theorem t_Mod_getsOf {d : Nat} {N : Nat} {c : Nat × Nat} {S : Nat → Nat × Nat} {P : Nat → Nat → Option Nat} {I : FI} {J : FJ} {l1 : Int32} {r : Int64} (hd : 0 ≤ d) (hw : OM S P) (h : Mod_getsOf N l1 I J = some r) : Go d M_Mod_getsOf 0 [some (.ref 204), some (.int l1), none, none, none] [] (c, S, I, J, P) (some (.long r), false, (c, S, I, J, P)) := by
  unfold Mod_getsOf at h
  refine g_lconst cd251_0 rfl ?_
  refine g_lstore_n (ls2 := [some (.ref 204), some (.int l1), some (.long 0), none, none]) cd251_1 rfl rfl ?_
  refine g_iconst cd251_2 rfl ?_
  refine g_istore (ls2 := [some (.ref 204), some (.int l1), some (.long 0), none, some (.int 0)]) cd251_3 rfl rfl ?_
  exact t_Mod_getsOf_5 hd hw _ l1 0 0 I J h
/-! HiddenOrLostModel.gains(II)J -/
theorem cd250_0 : code9 250 0 = some (0, .aload_n 0, [1], .null, []) := rfl
theorem cd250_1 : code9 250 1 = some (0, .iconst 0, [1], .int 0, []) := rfl
theorem cd250_2 : code9 250 2 = some (0, .putfield 1, [3, 12, 0, 0], .null, []) := rfl
theorem cd250_5 : code9 250 5 = some (0, .iload_n 1, [1], .null, []) := rfl
theorem cd250_6 : code9 250 6 = some (0, .iconst 0, [1], .int 0, []) := rfl
theorem cd250_7 : code9 250 7 = some (0, .iconst 2, [1], .int 2, []) := rfl
theorem cd250_8 : code9 250 8 = some (0, .invokestatic 75, [3, 191, 3, 0, 3, 3, 12, 0], .null, []) := rfl
theorem cd250_11 : code9 250 11 = some (0, .ifCond .eq 12, [3, 23], .null, []) := rfl
theorem cd250_14 : code9 250 14 = some (0, .iload_n 2, [1], .null, []) := rfl
theorem cd250_15 : code9 250 15 = some (0, .iconst 0, [1], .int 0, []) := rfl
theorem cd250_16 : code9 250 16 = some (0, .iconst 1, [1], .int 1, []) := rfl
theorem cd250_17 : code9 250 17 = some (0, .invokestatic 75, [3, 191, 3, 0, 3, 3, 12, 0], .null, []) := rfl
theorem cd250_20 : code9 250 20 = some (0, .ifCond .ne 9, [3, 29], .null, []) := rfl
theorem cd250_23 : code9 250 23 = some (4, .aload_n 0, [1], .null, []) := rfl
theorem cd250_24 : code9 250 24 = some (0, .invokevirtual 245, [3, 210, 1, 1, 1, 1, 12, 0], .null, []) := rfl
theorem cd250_27 : code9 250 27 = some (0, .i2l, [1], .null, []) := rfl
theorem cd250_28 : code9 250 28 = some (0, .lreturn, [1], .null, []) := rfl
theorem cd250_29 : code9 250 29 = some (0, .aload_n 0, [1], .null, []) := rfl
theorem cd250_30 : code9 250 30 = some (0, .aload_n 0, [1], .null, []) := rfl
theorem cd250_31 : code9 250 31 = some (0, .iconst 2, [1], .int 2, []) := rfl
theorem cd250_32 : code9 250 32 = some (0, .invokevirtual 261, [3, 219, 2, 1, 1, 4, 12, 0], .null, []) := rfl
theorem cd250_35 : code9 250 35 = some (0, .invokevirtual 314, [3, 242, 2, 1, 0, 4, 12, 0], .null, []) := rfl
theorem cd250_38 : code9 250 38 = some (0, .aload_n 0, [1], .null, []) := rfl
theorem cd250_39 : code9 250 39 = some (0, .aload_n 0, [1], .null, []) := rfl
theorem cd250_40 : code9 250 40 = some (0, .iconst 2, [1], .int 2, []) := rfl
theorem cd250_41 : code9 250 41 = some (0, .invokevirtual 261, [3, 219, 2, 1, 1, 4, 12, 0], .null, []) := rfl
theorem cd250_44 : code9 250 44 = some (0, .invokevirtual 264, [3, 220, 2, 1, 1, 4, 12, 0], .null, []) := rfl
theorem cd250_47 : code9 250 47 = some (0, .i2l, [1], .null, []) := rfl
theorem cd250_48 : code9 250 48 = some (0, .aload_n 0, [1], .null, []) := rfl
theorem cd250_49 : code9 250 49 = some (0, .iload_n 1, [1], .null, []) := rfl
theorem cd250_50 : code9 250 50 = some (0, .invokevirtual 326, [3, 251, 2, 1, 2, 5, 12, 0], .null, []) := rfl
theorem cd250_53 : code9 250 53 = some (0, .lmul, [1], .null, []) := rfl
theorem cd250_54 : code9 250 54 = some (0, .ldc2_w 324, [3], .long 12, []) := rfl
theorem cd250_57 : code9 250 57 = some (0, .aload_n 0, [1], .null, []) := rfl
theorem cd250_58 : code9 250 58 = some (0, .invokevirtual 310, [3, 243, 1, 1, 2, 1, 12, 0], .null, []) := rfl
theorem cd250_61 : code9 250 61 = some (0, .lmul, [1], .null, []) := rfl
theorem cd250_62 : code9 250 62 = some (0, .iload_n 2, [1], .null, []) := rfl
theorem cd250_63 : code9 250 63 = some (0, .invokestatic 317, [3, 244, 3, 0, 2, 7, 12, 0], .null, []) := rfl
theorem cd250_66 : code9 250 66 = some (0, .lreturn, [1], .null, []) := rfl
def Mod_gains (N : Nat) (l1 : Int32) (l2 : Int32) (I : FI) (J : FJ) : Option (Int64 × FI × FJ) := Option.bind (some (up2 I 204 0 (0 : Int32))) fun I1 => (if (Mod_isIn l1 0 2) then (if (Mod_isIn l2 0 1) then (Option.bind (Mod_those N 2 I1) fun x4 => (Option.bind (Mod_layWeights N x4 I1 J) fun x5 => (Option.bind (Mod_those N 2 I1) fun x6 => (Option.bind (Mod_valueOf N x6 I1) fun x7 => (Option.bind (Mod_getsOf N l1 I1 x5) fun x8 => (Option.bind (Mod_weightAll x5) fun x9 => (Option.bind (Mod_part N (x7.toInt64 * x8) (12 * x9) l2) fun x10 => (some (x10, I1, x5))))))))) else (Option.bind (Mod_refuse I1) fun x3 => (some (x3.1.toInt64, x3.2, J)))) else (Option.bind (Mod_refuse I1) fun x2 => (some (x2.1.toInt64, x2.2, J))))
set_option maxRecDepth 8000 in
theorem t_Mod_gains {d : Nat} {N : Nat} {c : Nat × Nat} {S : Nat → Nat × Nat} {P : Nat → Nat → Option Nat} {I : FI} {J : FJ} {l1 : Int32} {l2 : Int32} {r : Int64 × FI × FJ} (hd : 2 ≤ d) (hw : OM S P) (h : Mod_gains N l1 l2 I J = some r) : Go d M_Mod_gains 0 [some (.ref 204), some (.int l1), some (.int l2)] [] (c, S, I, J, P) (some (.long r.1), false, (c, S, r.2.1, r.2.2, P)) := by
  obtain ⟨d, rfl⟩ : ∃ e, d = e + 1 := ⟨d - 1, by omega⟩
  unfold Mod_gains at h
  refine g_aload_n cd250_0 rfl rfl ?_
  refine g_iconst cd250_1 rfl ?_
  obtain ⟨I1, e1, h⟩ := bnd h
  refine G_putI cd250_2 rfl (OM.o hw) (Option.some.inj e1) ?_
  refine g_iload_n cd250_5 rfl rfl ?_
  refine g_iconst cd250_6 rfl ?_
  refine g_iconst cd250_7 rfl ?_
  refine g_callSZ (L := [some (.int l1), some (.int 0), some (.int 2)]) cd250_8 rfl rfl rfl rfl rfl (t_Mod_isIn (by omega)  rfl) ?_
  refine g_if_eq cd250_11 rfl (fun hb => ?_) (fun hb => ?_)
  · have h := ifnE (b2i_f hb) h
    refine g_aload_n cd250_23 rfl rfl ?_
    obtain ⟨x2, hx, h⟩ := bnd h
    refine g_callVI (L := [some (.ref 204)]) cd250_24 rfl rfl rfl rfl rfl (OM.o hw) (t_Mod_refuse (by omega) hw hx) ?_
    refine g_i2l cd250_27 rfl ?_
    exact g_lret cd250_28 (by obtain rfl := Option.some.inj h; rfl)
  · have h := ifpE (b2i_t hb) h
    refine g_iload_n cd250_14 rfl rfl ?_
    refine g_iconst cd250_15 rfl ?_
    refine g_iconst cd250_16 rfl ?_
    refine g_callSZ (L := [some (.int l2), some (.int 0), some (.int 1)]) cd250_17 rfl rfl rfl rfl rfl (t_Mod_isIn (by omega)  rfl) ?_
    refine g_if_ne cd250_20 rfl (fun hb => ?_) (fun hb => ?_)
    · have h := ifnE (b2i_f hb) h
      refine g_aload_n cd250_23 rfl rfl ?_
      obtain ⟨x3, hx, h⟩ := bnd h
      refine g_callVI (L := [some (.ref 204)]) cd250_24 rfl rfl rfl rfl rfl (OM.o hw) (t_Mod_refuse (by omega) hw hx) ?_
      refine g_i2l cd250_27 rfl ?_
      exact g_lret cd250_28 (by obtain rfl := Option.some.inj h; rfl)
    · have h := ifpE (b2i_t hb) h
      refine g_aload_n cd250_29 rfl rfl ?_
      refine g_aload_n cd250_30 rfl rfl ?_
      refine g_iconst cd250_31 rfl ?_
      obtain ⟨x4, hx, h⟩ := bnd h
      refine g_callVI (L := [some (.ref 204), some (.int 2), none, none]) cd250_32 rfl rfl rfl rfl rfl (OM.o hw) (t_Mod_those (by omega) hw hx) ?_
      obtain ⟨x5, hx, h⟩ := bnd h
      refine g_callVV (L := [some (.ref 204), some (.int x4), none, none]) cd250_35 rfl rfl rfl rfl rfl (OM.o hw) (t_Mod_layWeights (by omega) hw hx) ?_
      refine g_aload_n cd250_38 rfl rfl ?_
      refine g_aload_n cd250_39 rfl rfl ?_
      refine g_iconst cd250_40 rfl ?_
      obtain ⟨x6, hx, h⟩ := bnd h
      refine g_callVI (L := [some (.ref 204), some (.int 2), none, none]) cd250_41 rfl rfl rfl rfl rfl (OM.o hw) (t_Mod_those (by omega) hw hx) ?_
      obtain ⟨x7, hx, h⟩ := bnd h
      refine g_callVI (L := [some (.ref 204), some (.int x6), none, none]) cd250_44 rfl rfl rfl rfl rfl (OM.o hw) (t_Mod_valueOf (by omega) hw hx) ?_
      refine g_i2l cd250_47 rfl ?_
      refine g_aload_n cd250_48 rfl rfl ?_
      refine g_iload_n cd250_49 rfl rfl ?_
      obtain ⟨x8, hx, h⟩ := bnd h
      refine g_callVJ (L := [some (.ref 204), some (.int l1), none, none, none]) cd250_50 rfl rfl rfl rfl rfl (OM.o hw) (t_Mod_getsOf (by omega) hw hx) ?_
      refine g_lmul cd250_53 rfl ?_
      refine g_ldc2_w cd250_54 rfl ?_
      refine g_aload_n cd250_57 rfl rfl ?_
      obtain ⟨x9, hx, h⟩ := bnd h
      refine g_callVJ (L := [some (.ref 204)]) cd250_58 rfl rfl rfl rfl rfl (OM.o hw) (t_Mod_weightAll (by omega) hw hx) ?_
      refine g_lmul cd250_61 rfl ?_
      refine g_iload_n cd250_62 rfl rfl ?_
      obtain ⟨x10, hx, h⟩ := bnd h
      refine g_callSJ (L := [some (.long (x7.toInt64 * x8)), none, some (.long (12 * x9)), none, some (.int l2), none, none]) cd250_63 rfl rfl rfl rfl rfl (t_Mod_part (by omega)  hx) ?_
      exact g_lret cd250_66 (by obtain rfl := Option.some.inj h; rfl)
/-! HiddenOrLostModel.best(I)I -/
theorem cd252_0 : code9 252 0 = some (0, .aload_n 0, [1], .null, []) := rfl
theorem cd252_1 : code9 252 1 = some (0, .iconst 0, [1], .int 0, []) := rfl
theorem cd252_2 : code9 252 2 = some (0, .putfield 1, [3, 12, 0, 0], .null, []) := rfl
theorem cd252_5 : code9 252 5 = some (0, .aload_n 0, [1], .null, []) := rfl
theorem cd252_6 : code9 252 6 = some (0, .iload_n 1, [1], .null, []) := rfl
theorem cd252_7 : code9 252 7 = some (0, .invokevirtual 242, [3, 209, 2, 1, 3, 2, 12, 0], .null, []) := rfl
theorem cd252_10 : code9 252 10 = some (0, .ifCond .eq 11, [3, 21], .null, []) := rfl
theorem cd252_13 : code9 252 13 = some (0, .aload_n 0, [1], .null, []) := rfl
theorem cd252_14 : code9 252 14 = some (0, .iload_n 1, [1], .null, []) := rfl
theorem cd252_15 : code9 252 15 = some (0, .invokevirtual 284, [3, 227, 2, 1, 3, 2, 12, 0], .null, []) := rfl
theorem cd252_18 : code9 252 18 = some (0, .ifCond .ne 5, [3, 23], .null, []) := rfl
theorem cd252_21 : code9 252 21 = some (3, .iconst (-1), [1], .int (-1), []) := rfl
theorem cd252_22 : code9 252 22 = some (0, .ireturn, [1, 1], .null, []) := rfl
theorem cd252_23 : code9 252 23 = some (0, .aload_n 0, [1], .null, []) := rfl
theorem cd252_24 : code9 252 24 = some (0, .aload_n 0, [1], .null, []) := rfl
theorem cd252_25 : code9 252 25 = some (0, .iconst 2, [1], .int 2, []) := rfl
theorem cd252_26 : code9 252 26 = some (0, .invokevirtual 261, [3, 219, 2, 1, 1, 4, 12, 0], .null, []) := rfl
theorem cd252_29 : code9 252 29 = some (0, .iconst 1, [1], .int 1, []) := rfl
theorem cd252_30 : code9 252 30 = some (0, .iload_n 1, [1], .null, []) := rfl
theorem cd252_31 : code9 252 31 = some (0, .ishl, [1], .null, []) := rfl
theorem cd252_32 : code9 252 32 = some (0, .ior, [1], .null, []) := rfl
theorem cd252_33 : code9 252 33 = some (0, .invokevirtual 314, [3, 242, 2, 1, 0, 4, 12, 0], .null, []) := rfl
theorem cd252_36 : code9 252 36 = some (0, .aload_n 0, [1], .null, []) := rfl
theorem cd252_37 : code9 252 37 = some (0, .getfield 98, [3, 12, 14, 2], .null, []) := rfl
theorem cd252_40 : code9 252 40 = some (0, .bipush 80, [2], .int 80, []) := rfl
theorem cd252_42 : code9 252 42 = some (0, .iload_n 1, [1], .null, []) := rfl
theorem cd252_43 : code9 252 43 = some (0, .iadd, [1], .null, []) := rfl
theorem cd252_44 : code9 252 44 = some (0, .iaload, [1], .null, []) := rfl
theorem cd252_45 : code9 252 45 = some (0, .i2l, [1], .null, []) := rfl
theorem cd252_46 : code9 252 46 = some (0, .ldc2_w 329, [3], .long 2, []) := rfl
theorem cd252_49 : code9 252 49 = some (0, .aload_n 0, [1], .null, []) := rfl
theorem cd252_50 : code9 252 50 = some (0, .iconst 1, [1], .int 1, []) := rfl
theorem cd252_51 : code9 252 51 = some (0, .invokevirtual 326, [3, 251, 2, 1, 2, 5, 12, 0], .null, []) := rfl
theorem cd252_54 : code9 252 54 = some (0, .lmul, [1], .null, []) := rfl
theorem cd252_55 : code9 252 55 = some (0, .ldc2_w 324, [3], .long 12, []) := rfl
theorem cd252_58 : code9 252 58 = some (0, .ldc2_w 331, [3], .long 3, []) := rfl
theorem cd252_61 : code9 252 61 = some (0, .aload_n 0, [1], .null, []) := rfl
theorem cd252_62 : code9 252 62 = some (0, .getfield 98, [3, 12, 14, 2], .null, []) := rfl
theorem cd252_65 : code9 252 65 = some (0, .iconst 5, [1], .int 5, []) := rfl
theorem cd252_66 : code9 252 66 = some (0, .iaload, [1], .null, []) := rfl
theorem cd252_67 : code9 252 67 = some (0, .i2l, [1], .null, []) := rfl
theorem cd252_68 : code9 252 68 = some (0, .lmul, [1], .null, []) := rfl
theorem cd252_69 : code9 252 69 = some (0, .lsub, [1], .null, []) := rfl
theorem cd252_70 : code9 252 70 = some (0, .aload_n 0, [1], .null, []) := rfl
theorem cd252_71 : code9 252 71 = some (0, .invokevirtual 310, [3, 243, 1, 1, 2, 1, 12, 0], .null, []) := rfl
theorem cd252_74 : code9 252 74 = some (0, .lmul, [1], .null, []) := rfl
theorem cd252_75 : code9 252 75 = some (0, .lsub, [1], .null, []) := rfl
theorem cd252_76 : code9 252 76 = some (0, .lmul, [1], .null, []) := rfl
theorem cd252_77 : code9 252 77 = some (0, .lconst 0, [1], .long 0, []) := rfl
theorem cd252_78 : code9 252 78 = some (0, .lcmp, [1], .null, []) := rfl
theorem cd252_79 : code9 252 79 = some (0, .ifCond .lt 7, [3, 86], .null, []) := rfl
theorem cd252_82 : code9 252 82 = some (0, .iconst 0, [1], .int 0, []) := rfl
theorem cd252_83 : code9 252 83 = some (0, .goto 4, [3, 87, 2], .null, []) := rfl
theorem cd252_86 : code9 252 86 = some (0, .iconst 1, [1], .int 1, []) := rfl
theorem cd252_87 : code9 252 87 = some (3, .ireturn, [1, 1], .null, []) := rfl
def Mod_best (N : Nat) (l1 : Int32) (I : FI) (J : FJ) : Option (Int32 × FI × FJ) := Option.bind (some (up2 I 204 0 (0 : Int32))) fun I1 => (Option.bind (Mod_isFind l1 I1) fun x2 => (if x2 then (Option.bind (Mod_isHad l1 I1) fun x3 => (if x3 then (Option.bind (Mod_those N 2 I1) fun x4 => (Option.bind (Mod_layWeights N (x4 ||| (1 <<< (l1 &&& 31))) I1 J) fun x5 => (if in9 (80 + l1) 451 then (Option.bind (Mod_getsOf N 1 I1 x5) fun x7 => (Option.bind (Mod_weightAll x5) fun x8 => (if (((I1 206 ((80 + l1).toNatClampNeg)).toInt64) * ((2 * x7) - ((12 - (3 * ((I1 206 ((5 : Int32).toNatClampNeg)).toInt64))) * x8))) < (0 : Int64) then (some (1, I1, x5)) else (some (0, I1, x5))))) else none))) else (some ((-1), I1, J)))) else (some ((-1), I1, J))))
set_option maxRecDepth 8000 in
theorem t_Mod_best {d : Nat} {N : Nat} {c : Nat × Nat} {S : Nat → Nat × Nat} {P : Nat → Nat → Option Nat} {I : FI} {J : FJ} {l1 : Int32} {r : Int32 × FI × FJ} (hd : 2 ≤ d) (hw : OM S P) (h : Mod_best N l1 I J = some r) : Go d M_Mod_best 0 [some (.ref 204), some (.int l1)] [] (c, S, I, J, P) (some (.int r.1), false, (c, S, r.2.1, r.2.2, P)) := by
  obtain ⟨d, rfl⟩ : ∃ e, d = e + 1 := ⟨d - 1, by omega⟩
  unfold Mod_best at h
  refine g_aload_n cd252_0 rfl rfl ?_
  refine g_iconst cd252_1 rfl ?_
  obtain ⟨I1, e1, h⟩ := bnd h
  refine G_putI cd252_2 rfl (OM.o hw) (Option.some.inj e1) ?_
  refine g_aload_n cd252_5 rfl rfl ?_
  refine g_iload_n cd252_6 rfl rfl ?_
  obtain ⟨x2, hx, h⟩ := bnd h
  refine g_callVZ (L := [some (.ref 204), some (.int l1)]) cd252_7 rfl rfl rfl rfl rfl (OM.o hw) (t_Mod_isFind (by omega) hw hx) ?_
  refine g_if_eq cd252_10 rfl (fun hb => ?_) (fun hb => ?_)
  · have h := ifnE (b2i_f hb) h
    refine g_iconst cd252_21 rfl ?_
    exact g_iret cd252_22 (Or.inl rfl) (by obtain rfl := Option.some.inj h; rfl)
  · have h := ifpE (b2i_t hb) h
    refine g_aload_n cd252_13 rfl rfl ?_
    refine g_iload_n cd252_14 rfl rfl ?_
    obtain ⟨x3, hx, h⟩ := bnd h
    refine g_callVZ (L := [some (.ref 204), some (.int l1)]) cd252_15 rfl rfl rfl rfl rfl (OM.o hw) (t_Mod_isHad (by omega) hw hx) ?_
    refine g_if_ne cd252_18 rfl (fun hb => ?_) (fun hb => ?_)
    · have h := ifnE (b2i_f hb) h
      refine g_iconst cd252_21 rfl ?_
      exact g_iret cd252_22 (Or.inl rfl) (by obtain rfl := Option.some.inj h; rfl)
    · have h := ifpE (b2i_t hb) h
      refine g_aload_n cd252_23 rfl rfl ?_
      refine g_aload_n cd252_24 rfl rfl ?_
      refine g_iconst cd252_25 rfl ?_
      obtain ⟨x4, hx, h⟩ := bnd h
      refine g_callVI (L := [some (.ref 204), some (.int 2), none, none]) cd252_26 rfl rfl rfl rfl rfl (OM.o hw) (t_Mod_those (by omega) hw hx) ?_
      refine g_iconst cd252_29 rfl ?_
      refine g_iload_n cd252_30 rfl rfl ?_
      refine g_ishl cd252_31 rfl ?_
      refine g_ior cd252_32 rfl ?_
      obtain ⟨x5, hx, h⟩ := bnd h
      refine g_callVV (L := [some (.ref 204), some (.int (x4 ||| (1 <<< (l1 &&& 31)))), none, none]) cd252_33 rfl rfl rfl rfl rfl (OM.o hw) (t_Mod_layWeights (by omega) hw hx) ?_
      refine g_aload_n cd252_36 rfl rfl ?_
      refine g_getP cd252_37 rfl (OM.o hw) (OM.p14 hw) ?_
      refine g_bipush cd252_40 rfl ?_
      refine g_iload_n cd252_42 rfl rfl ?_
      refine g_iadd cd252_43 rfl ?_
      obtain ⟨hg6, h⟩ := grd h
      refine G_iald cd252_44 rfl (OM.s14 hw) hg6 ?_
      refine g_i2l cd252_45 rfl ?_
      refine g_ldc2_w cd252_46 rfl ?_
      refine g_aload_n cd252_49 rfl rfl ?_
      refine g_iconst cd252_50 rfl ?_
      obtain ⟨x7, hx, h⟩ := bnd h
      refine g_callVJ (L := [some (.ref 204), some (.int 1), none, none, none]) cd252_51 rfl rfl rfl rfl rfl (OM.o hw) (t_Mod_getsOf (by omega) hw hx) ?_
      refine g_lmul cd252_54 rfl ?_
      refine g_ldc2_w cd252_55 rfl ?_
      refine g_ldc2_w cd252_58 rfl ?_
      refine g_aload_n cd252_61 rfl rfl ?_
      refine g_getP cd252_62 rfl (OM.o hw) (OM.p14 hw) ?_
      refine g_iconst cd252_65 rfl ?_
      refine G_iald cd252_66 rfl (OM.s14 hw) (by decide) ?_
      refine g_i2l cd252_67 rfl ?_
      refine g_lmul cd252_68 rfl ?_
      refine g_lsub cd252_69 rfl ?_
      refine g_aload_n cd252_70 rfl rfl ?_
      obtain ⟨x8, hx, h⟩ := bnd h
      refine g_callVJ (L := [some (.ref 204)]) cd252_71 rfl rfl rfl rfl rfl (OM.o hw) (t_Mod_weightAll (by omega) hw hx) ?_
      refine g_lmul cd252_74 rfl ?_
      refine g_lsub cd252_75 rfl ?_
      refine g_lmul cd252_76 rfl ?_
      refine g_lconst cd252_77 rfl ?_
      refine g_lcmp cd252_78 rfl ?_
      refine g_if_lt cd252_79 rfl (fun hb => ?_) (fun hb => ?_)
      · have h := ifpE (lgc_lt.mp hb) h
        refine g_iconst cd252_86 rfl ?_
        exact g_iret cd252_87 (Or.inl rfl) (by obtain rfl := Option.some.inj h; rfl)
      · have h := ifnE (fun q => hb (lgc_lt.mpr q)) h
        refine g_iconst cd252_82 rfl ?_
        refine g_goto (ls2 := [some (.ref 204), some (.int l1)]) cd252_83 rfl rfl ?_
        exact g_iret cd252_87 (Or.inl rfl) (by obtain rfl := Option.some.inj h; rfl)
/-! HiddenOrLostModel.goOn(III)V -/
theorem cd254_0 : code9 254 0 = some (0, .aload_n 0, [1], .null, []) := rfl
theorem cd254_1 : code9 254 1 = some (0, .getfield 133, [3, 12, 27, 2], .null, []) := rfl
theorem cd254_4 : code9 254 4 = some (0, .iload_n 1, [1], .null, []) := rfl
theorem cd254_5 : code9 254 5 = some (0, .iaload, [1], .null, []) := rfl
theorem cd254_6 : code9 254 6 = some (0, .istore 4, [2], .null, []) := rfl
theorem cd254_8 : code9 254 8 = some (0, .aload_n 0, [1], .null, []) := rfl
theorem cd254_9 : code9 254 9 = some (0, .getfield 139, [3, 12, 29, 2], .null, []) := rfl
theorem cd254_12 : code9 254 12 = some (0, .iload 4, [2], .null, []) := rfl
theorem cd254_14 : code9 254 14 = some (0, .iaload, [1], .null, []) := rfl
theorem cd254_15 : code9 254 15 = some (0, .ifCond .ne 22, [3, 37], .null, []) := rfl
theorem cd254_18 : code9 254 18 = some (0, .iload_n 3, [1], .null, []) := rfl
theorem cd254_19 : code9 254 19 = some (0, .aload_n 0, [1], .null, []) := rfl
theorem cd254_20 : code9 254 20 = some (0, .iload 4, [2], .null, []) := rfl
theorem cd254_22 : code9 254 22 = some (0, .bipush 6, [2], .int 6, []) := rfl
theorem cd254_24 : code9 254 24 = some (0, .irem, [1], .null, []) := rfl
theorem cd254_25 : code9 254 25 = some (0, .iload 4, [2], .null, []) := rfl
theorem cd254_27 : code9 254 27 = some (0, .bipush 6, [2], .int 6, []) := rfl
theorem cd254_29 : code9 254 29 = some (0, .idiv, [1], .null, []) := rfl
theorem cd254_30 : code9 254 30 = some (0, .invokevirtual 254, [3, 215, 3, 1, 1, 6, 12, 0], .null, []) := rfl
theorem cd254_33 : code9 254 33 = some (0, .iadd, [1], .null, []) := rfl
theorem cd254_34 : code9 254 34 = some (0, .goto 4, [3, 38, 5], .null, []) := rfl
theorem cd254_37 : code9 254 37 = some (0, .iload_n 3, [1], .null, []) := rfl
theorem cd254_38 : code9 254 38 = some (6, .istore 5, [2], .null, []) := rfl
theorem cd254_40 : code9 254 40 = some (0, .iload_n 1, [1], .null, []) := rfl
theorem cd254_41 : code9 254 41 = some (0, .iconst 1, [1], .int 1, []) := rfl
theorem cd254_42 : code9 254 42 = some (0, .iadd, [1], .null, []) := rfl
theorem cd254_43 : code9 254 43 = some (0, .iload_n 2, [1], .null, []) := rfl
theorem cd254_44 : code9 254 44 = some (0, .if_icmp .ne 49, [3, 93], .null, []) := rfl
theorem cd254_47 : code9 254 47 = some (0, .iload 5, [2], .null, []) := rfl
theorem cd254_49 : code9 254 49 = some (0, .aload_n 0, [1], .null, []) := rfl
theorem cd254_50 : code9 254 50 = some (0, .getfield 333, [3, 12, 31, 0], .null, []) := rfl
theorem cd254_53 : code9 254 53 = some (0, .if_icmp .gt 4, [3, 57], .null, []) := rfl
theorem cd254_56 : code9 254 56 = some (0, .return_, [1], .null, []) := rfl
theorem cd254_57 : code9 254 57 = some (0, .aload_n 0, [1], .null, []) := rfl
theorem cd254_58 : code9 254 58 = some (0, .iload 5, [2], .null, []) := rfl
theorem cd254_60 : code9 254 60 = some (0, .putfield 333, [3, 12, 31, 0], .null, []) := rfl
theorem cd254_63 : code9 254 63 = some (0, .iconst 0, [1], .int 0, []) := rfl
theorem cd254_64 : code9 254 64 = some (0, .istore 6, [2], .null, []) := rfl
theorem cd254_66 : code9 254 66 = some (8, .iload 6, [2], .null, []) := rfl
theorem cd254_68 : code9 254 68 = some (0, .iload_n 2, [1], .null, []) := rfl
theorem cd254_69 : code9 254 69 = some (0, .if_icmp .ge 23, [3, 92], .null, []) := rfl
theorem cd254_72 : code9 254 72 = some (0, .aload_n 0, [1], .null, []) := rfl
theorem cd254_73 : code9 254 73 = some (0, .getfield 136, [3, 12, 28, 2], .null, []) := rfl
theorem cd254_76 : code9 254 76 = some (0, .iload 6, [2], .null, []) := rfl
theorem cd254_78 : code9 254 78 = some (0, .aload_n 0, [1], .null, []) := rfl
theorem cd254_79 : code9 254 79 = some (0, .getfield 133, [3, 12, 27, 2], .null, []) := rfl
theorem cd254_82 : code9 254 82 = some (0, .iload 6, [2], .null, []) := rfl
theorem cd254_84 : code9 254 84 = some (0, .iaload, [1], .null, []) := rfl
theorem cd254_85 : code9 254 85 = some (0, .iastore, [1], .null, []) := rfl
theorem cd254_86 : code9 254 86 = some (0, .iinc 6 1, [3], .int 1, []) := rfl
theorem cd254_89 : code9 254 89 = some (0, .goto (-23), [3, 66, 7], .null, []) := rfl
theorem cd254_92 : code9 254 92 = some (0, .return_, [1], .null, []) := rfl
theorem cd254_93 : code9 254 93 = some (0, .aload_n 0, [1], .null, []) := rfl
theorem cd254_94 : code9 254 94 = some (0, .getfield 139, [3, 12, 29, 2], .null, []) := rfl
theorem cd254_97 : code9 254 97 = some (0, .iload 4, [2], .null, []) := rfl
theorem cd254_99 : code9 254 99 = some (0, .dup2, [1], .null, []) := rfl
theorem cd254_100 : code9 254 100 = some (0, .iaload, [1], .null, []) := rfl
theorem cd254_101 : code9 254 101 = some (0, .iconst 1, [1], .int 1, []) := rfl
theorem cd254_102 : code9 254 102 = some (0, .iadd, [1], .null, []) := rfl
theorem cd254_103 : code9 254 103 = some (0, .iastore, [1], .null, []) := rfl
theorem cd254_104 : code9 254 104 = some (0, .iconst 0, [1], .int 0, []) := rfl
theorem cd254_105 : code9 254 105 = some (0, .istore 6, [2], .null, []) := rfl
theorem cd254_107 : code9 254 107 = some (8, .iload 6, [2], .null, []) := rfl
theorem cd254_109 : code9 254 109 = some (0, .iconst 4, [1], .int 4, []) := rfl
theorem cd254_110 : code9 254 110 = some (0, .if_icmp .ge 106, [3, 216], .null, []) := rfl
theorem cd254_113 : code9 254 113 = some (0, .iload 4, [2], .null, []) := rfl
theorem cd254_115 : code9 254 115 = some (0, .bipush 6, [2], .int 6, []) := rfl
theorem cd254_117 : code9 254 117 = some (0, .irem, [1], .null, []) := rfl
theorem cd254_118 : code9 254 118 = some (0, .iload 6, [2], .null, []) := rfl
theorem cd254_120 : code9 254 120 = some (0, .iconst 1, [1], .int 1, []) := rfl
theorem cd254_121 : code9 254 121 = some (0, .if_icmp .ne 7, [3, 128], .null, []) := rfl
theorem cd254_124 : code9 254 124 = some (0, .iconst (-1), [1], .int (-1), []) := rfl
theorem cd254_125 : code9 254 125 = some (0, .goto 14, [3, 139, 7], .null, []) := rfl
theorem cd254_128 : code9 254 128 = some (0, .iload 6, [2], .null, []) := rfl
theorem cd254_130 : code9 254 130 = some (0, .iconst 2, [1], .int 2, []) := rfl
theorem cd254_131 : code9 254 131 = some (0, .if_icmp .ne 7, [3, 138], .null, []) := rfl
theorem cd254_134 : code9 254 134 = some (0, .iconst 1, [1], .int 1, []) := rfl
theorem cd254_135 : code9 254 135 = some (0, .goto 4, [3, 139, 7], .null, []) := rfl
theorem cd254_138 : code9 254 138 = some (0, .iconst 0, [1], .int 0, []) := rfl
theorem cd254_139 : code9 254 139 = some (8, .iadd, [1], .null, []) := rfl
theorem cd254_140 : code9 254 140 = some (0, .istore 7, [2], .null, []) := rfl
theorem cd254_142 : code9 254 142 = some (0, .iload 4, [2], .null, []) := rfl
theorem cd254_144 : code9 254 144 = some (0, .bipush 6, [2], .int 6, []) := rfl
theorem cd254_146 : code9 254 146 = some (0, .idiv, [1], .null, []) := rfl
theorem cd254_147 : code9 254 147 = some (0, .iload 6, [2], .null, []) := rfl
theorem cd254_149 : code9 254 149 = some (0, .ifCond .ne 7, [3, 156], .null, []) := rfl
theorem cd254_152 : code9 254 152 = some (0, .iconst (-1), [1], .int (-1), []) := rfl
theorem cd254_153 : code9 254 153 = some (0, .goto 14, [3, 167, 8], .null, []) := rfl
theorem cd254_156 : code9 254 156 = some (0, .iload 6, [2], .null, []) := rfl
theorem cd254_158 : code9 254 158 = some (0, .iconst 3, [1], .int 3, []) := rfl
theorem cd254_159 : code9 254 159 = some (0, .if_icmp .ne 7, [3, 166], .null, []) := rfl
theorem cd254_162 : code9 254 162 = some (0, .iconst 1, [1], .int 1, []) := rfl
theorem cd254_163 : code9 254 163 = some (0, .goto 4, [3, 167, 8], .null, []) := rfl
theorem cd254_166 : code9 254 166 = some (0, .iconst 0, [1], .int 0, []) := rfl
theorem cd254_167 : code9 254 167 = some (9, .iadd, [1], .null, []) := rfl
theorem cd254_168 : code9 254 168 = some (0, .istore 8, [2], .null, []) := rfl
theorem cd254_170 : code9 254 170 = some (0, .aload_n 0, [1], .null, []) := rfl
theorem cd254_171 : code9 254 171 = some (0, .iload 7, [2], .null, []) := rfl
theorem cd254_173 : code9 254 173 = some (0, .iload 8, [2], .null, []) := rfl
theorem cd254_175 : code9 254 175 = some (0, .invokevirtual 251, [3, 214, 3, 1, 3, 3, 12, 0], .null, []) := rfl
theorem cd254_178 : code9 254 178 = some (0, .ifCond .ne 6, [3, 184], .null, []) := rfl
theorem cd254_181 : code9 254 181 = some (0, .goto 29, [3, 210, 9], .null, []) := rfl
theorem cd254_184 : code9 254 184 = some (0, .aload_n 0, [1], .null, []) := rfl
theorem cd254_185 : code9 254 185 = some (0, .getfield 133, [3, 12, 27, 2], .null, []) := rfl
theorem cd254_188 : code9 254 188 = some (0, .iload_n 1, [1], .null, []) := rfl
theorem cd254_189 : code9 254 189 = some (0, .iconst 1, [1], .int 1, []) := rfl
theorem cd254_190 : code9 254 190 = some (0, .iadd, [1], .null, []) := rfl
theorem cd254_191 : code9 254 191 = some (0, .bipush 6, [2], .int 6, []) := rfl
theorem cd254_193 : code9 254 193 = some (0, .iload 8, [2], .null, []) := rfl
theorem cd254_195 : code9 254 195 = some (0, .imul, [1], .null, []) := rfl
theorem cd254_196 : code9 254 196 = some (0, .iload 7, [2], .null, []) := rfl
theorem cd254_198 : code9 254 198 = some (0, .iadd, [1], .null, []) := rfl
theorem cd254_199 : code9 254 199 = some (0, .iastore, [1], .null, []) := rfl
theorem cd254_200 : code9 254 200 = some (0, .aload_n 0, [1], .null, []) := rfl
theorem cd254_201 : code9 254 201 = some (0, .iload_n 1, [1], .null, []) := rfl
theorem cd254_202 : code9 254 202 = some (0, .iconst 1, [1], .int 1, []) := rfl
theorem cd254_203 : code9 254 203 = some (0, .iadd, [1], .null, []) := rfl
theorem cd254_204 : code9 254 204 = some (0, .iload_n 2, [1], .null, []) := rfl
theorem cd254_205 : code9 254 205 = some (0, .iload 5, [2], .null, []) := rfl
theorem cd254_207 : code9 254 207 = some (0, .invokevirtual 336, [3, 254, 4, 1, 0, 9, 12, 0], .null, []) := rfl
theorem cd254_210 : code9 254 210 = some (10, .iinc 6 1, [3], .int 1, []) := rfl
theorem cd254_213 : code9 254 213 = some (0, .goto (-106), [3, 107, 7], .null, []) := rfl
theorem cd254_216 : code9 254 216 = some (0, .aload_n 0, [1], .null, []) := rfl
theorem cd254_217 : code9 254 217 = some (0, .getfield 139, [3, 12, 29, 2], .null, []) := rfl
theorem cd254_220 : code9 254 220 = some (0, .iload 4, [2], .null, []) := rfl
theorem cd254_222 : code9 254 222 = some (0, .dup2, [1], .null, []) := rfl
theorem cd254_223 : code9 254 223 = some (0, .iaload, [1], .null, []) := rfl
theorem cd254_224 : code9 254 224 = some (0, .iconst 1, [1], .int 1, []) := rfl
theorem cd254_225 : code9 254 225 = some (0, .isub, [1], .null, []) := rfl
theorem cd254_226 : code9 254 226 = some (0, .iastore, [1], .null, []) := rfl
theorem cd254_227 : code9 254 227 = some (0, .return_, [1], .null, []) := rfl
def Mod_goOn_66 (R : Int32 → Int32 → Int32 → FI → Option (FI)) (N : Nat) : Nat → Int32 → Int32 → Int32 → Int32 → Int32 → Int32 → FI → Option (FI)
  | 0 => fun _ _ _ _ _ _ _ => none
  | n + 1 => fun l1 l2 l3 l4 l5 l6 I => if l2 ≤ l6 then (some I) else (if in9 l6 8 then (Option.bind (some (up2 I 218 l6.toNatClampNeg (I 217 l6.toNatClampNeg))) fun I6 => (Mod_goOn_66 R N n l1 l2 l3 l4 l5 (l6 + 1) I6)) else none)
def Mod_goOn_107 (R : Int32 → Int32 → Int32 → FI → Option (FI)) (N : Nat) : Nat → Int32 → Int32 → Int32 → Int32 → Int32 → Int32 → FI → Option (FI)
  | 0 => fun _ _ _ _ _ _ _ => none
  | n + 1 => fun l1 l2 l3 l4 l5 l6 I => if 4 ≤ l6 then (if in9 l4 36 then (Option.bind (some (up2 I 219 l4.toNatClampNeg ((I 219 l4.toNatClampNeg) - 1))) fun I9 => (some I9)) else none) else (if l6 = 1 then (if l6 = 0 then (Option.bind (Mod_isCell ((l4 - l4 / 6 * 6) + (-1)) ((l4 / 6) + (-1)) I) fun x10 => (if x10 then (if in9 (l1 + 1) 8 then (Option.bind (some (up2 I 217 ((l1 + 1).toNatClampNeg) ((6 * ((l4 / 6) + (-1))) + ((l4 - l4 / 6 * 6) + (-1))))) fun I12 => (Option.bind (R (l1 + 1) l2 l5 I12) fun x13 => (Mod_goOn_107 R N n l1 l2 l3 l4 l5 (l6 + 1) x13))) else none) else (Mod_goOn_107 R N n l1 l2 l3 l4 l5 (l6 + 1) I))) else (if l6 = 3 then (Option.bind (Mod_isCell ((l4 - l4 / 6 * 6) + (-1)) ((l4 / 6) + 1) I) fun x14 => (if x14 then (if in9 (l1 + 1) 8 then (Option.bind (some (up2 I 217 ((l1 + 1).toNatClampNeg) ((6 * ((l4 / 6) + 1)) + ((l4 - l4 / 6 * 6) + (-1))))) fun I16 => (Option.bind (R (l1 + 1) l2 l5 I16) fun x17 => (Mod_goOn_107 R N n l1 l2 l3 l4 l5 (l6 + 1) x17))) else none) else (Mod_goOn_107 R N n l1 l2 l3 l4 l5 (l6 + 1) I))) else (Option.bind (Mod_isCell ((l4 - l4 / 6 * 6) + (-1)) ((l4 / 6) + 0) I) fun x18 => (if x18 then (if in9 (l1 + 1) 8 then (Option.bind (some (up2 I 217 ((l1 + 1).toNatClampNeg) ((6 * ((l4 / 6) + 0)) + ((l4 - l4 / 6 * 6) + (-1))))) fun I20 => (Option.bind (R (l1 + 1) l2 l5 I20) fun x21 => (Mod_goOn_107 R N n l1 l2 l3 l4 l5 (l6 + 1) x21))) else none) else (Mod_goOn_107 R N n l1 l2 l3 l4 l5 (l6 + 1) I))))) else (if l6 = 2 then (if l6 = 0 then (Option.bind (Mod_isCell ((l4 - l4 / 6 * 6) + 1) ((l4 / 6) + (-1)) I) fun x22 => (if x22 then (if in9 (l1 + 1) 8 then (Option.bind (some (up2 I 217 ((l1 + 1).toNatClampNeg) ((6 * ((l4 / 6) + (-1))) + ((l4 - l4 / 6 * 6) + 1)))) fun I24 => (Option.bind (R (l1 + 1) l2 l5 I24) fun x25 => (Mod_goOn_107 R N n l1 l2 l3 l4 l5 (l6 + 1) x25))) else none) else (Mod_goOn_107 R N n l1 l2 l3 l4 l5 (l6 + 1) I))) else (if l6 = 3 then (Option.bind (Mod_isCell ((l4 - l4 / 6 * 6) + 1) ((l4 / 6) + 1) I) fun x26 => (if x26 then (if in9 (l1 + 1) 8 then (Option.bind (some (up2 I 217 ((l1 + 1).toNatClampNeg) ((6 * ((l4 / 6) + 1)) + ((l4 - l4 / 6 * 6) + 1)))) fun I28 => (Option.bind (R (l1 + 1) l2 l5 I28) fun x29 => (Mod_goOn_107 R N n l1 l2 l3 l4 l5 (l6 + 1) x29))) else none) else (Mod_goOn_107 R N n l1 l2 l3 l4 l5 (l6 + 1) I))) else (Option.bind (Mod_isCell ((l4 - l4 / 6 * 6) + 1) ((l4 / 6) + 0) I) fun x30 => (if x30 then (if in9 (l1 + 1) 8 then (Option.bind (some (up2 I 217 ((l1 + 1).toNatClampNeg) ((6 * ((l4 / 6) + 0)) + ((l4 - l4 / 6 * 6) + 1)))) fun I32 => (Option.bind (R (l1 + 1) l2 l5 I32) fun x33 => (Mod_goOn_107 R N n l1 l2 l3 l4 l5 (l6 + 1) x33))) else none) else (Mod_goOn_107 R N n l1 l2 l3 l4 l5 (l6 + 1) I))))) else (if l6 = 0 then (Option.bind (Mod_isCell ((l4 - l4 / 6 * 6) + 0) ((l4 / 6) + (-1)) I) fun x34 => (if x34 then (if in9 (l1 + 1) 8 then (Option.bind (some (up2 I 217 ((l1 + 1).toNatClampNeg) ((6 * ((l4 / 6) + (-1))) + ((l4 - l4 / 6 * 6) + 0)))) fun I36 => (Option.bind (R (l1 + 1) l2 l5 I36) fun x37 => (Mod_goOn_107 R N n l1 l2 l3 l4 l5 (l6 + 1) x37))) else none) else (Mod_goOn_107 R N n l1 l2 l3 l4 l5 (l6 + 1) I))) else (if l6 = 3 then (Option.bind (Mod_isCell ((l4 - l4 / 6 * 6) + 0) ((l4 / 6) + 1) I) fun x38 => (if x38 then (if in9 (l1 + 1) 8 then (Option.bind (some (up2 I 217 ((l1 + 1).toNatClampNeg) ((6 * ((l4 / 6) + 1)) + ((l4 - l4 / 6 * 6) + 0)))) fun I40 => (Option.bind (R (l1 + 1) l2 l5 I40) fun x41 => (Mod_goOn_107 R N n l1 l2 l3 l4 l5 (l6 + 1) x41))) else none) else (Mod_goOn_107 R N n l1 l2 l3 l4 l5 (l6 + 1) I))) else (Option.bind (Mod_isCell ((l4 - l4 / 6 * 6) + 0) ((l4 / 6) + 0) I) fun x42 => (if x42 then (if in9 (l1 + 1) 8 then (Option.bind (some (up2 I 217 ((l1 + 1).toNatClampNeg) ((6 * ((l4 / 6) + 0)) + ((l4 - l4 / 6 * 6) + 0)))) fun I44 => (Option.bind (R (l1 + 1) l2 l5 I44) fun x45 => (Mod_goOn_107 R N n l1 l2 l3 l4 l5 (l6 + 1) x45))) else none) else (Mod_goOn_107 R N n l1 l2 l3 l4 l5 (l6 + 1) I)))))))
def Mod_goOn (R : Int32 → Int32 → Int32 → FI → Option (FI)) (N : Nat) (l1 : Int32) (l2 : Int32) (l3 : Int32) (I : FI) : Option (FI) := if in9 l1 8 then (if in9 (I 217 l1.toNatClampNeg) 36 then (if (I 219 ((I 217 l1.toNatClampNeg).toNatClampNeg)) = 0 then (Option.bind (Mod_worthOf N ((I 217 l1.toNatClampNeg) - (I 217 l1.toNatClampNeg) / 6 * 6) ((I 217 l1.toNatClampNeg) / 6) I) fun x3 => (if (l1 + 1) = l2 then (if (I 204 31) < (l3 + x3) then (Option.bind (some (up2 I 204 31 (l3 + x3))) fun I4 => (Mod_goOn_66 R N N l1 l2 l3 (I 217 l1.toNatClampNeg) (l3 + x3) 0 I4)) else (some I)) else (Option.bind (some (up2 I 219 ((I 217 l1.toNatClampNeg).toNatClampNeg) ((I 219 ((I 217 l1.toNatClampNeg).toNatClampNeg)) + 1))) fun I7 => (Mod_goOn_107 R N N l1 l2 l3 (I 217 l1.toNatClampNeg) (l3 + x3) 0 I7)))) else (if (l1 + 1) = l2 then (if (I 204 31) < l3 then (Option.bind (some (up2 I 204 31 l3)) fun I46 => (Mod_goOn_66 R N N l1 l2 l3 (I 217 l1.toNatClampNeg) l3 0 I46)) else (some I)) else (Option.bind (some (up2 I 219 ((I 217 l1.toNatClampNeg).toNatClampNeg) ((I 219 ((I 217 l1.toNatClampNeg).toNatClampNeg)) + 1))) fun I47 => (Mod_goOn_107 R N N l1 l2 l3 (I 217 l1.toNatClampNeg) l3 0 I47)))) else none) else none
def Mod_goOn_R (N : Nat) : Nat → Int32 → Int32 → Int32 → FI → Option (FI)
  | 0 => fun _ _ _ _ => none
  | k + 1 => fun l1 l2 l3 I => Mod_goOn (Mod_goOn_R N k) N l1 l2 l3 I
set_option maxRecDepth 8000 in
theorem t_Mod_goOn_66 {d : Nat} {D : Nat} {R : Int32 → Int32 → Int32 → FI → Option (FI)} {N : Nat} {c : Nat × Nat} {S : Nat → Nat × Nat} {P : Nat → Nat → Option Nat} {r : FI} (hd : D + 3 ≤ (d + 1)) (hR : ∀ {d : Nat} {l1 : Int32} {l2 : Int32} {l3 : Int32} {I : FI} {J : FJ} {r : FI}, D ≤ d → OM S P → R l1 l2 l3 I = some r → Go d M_Mod_goOn 0 [some (.ref 204), some (.int l1), some (.int l2), some (.int l3), none, none, none, none, none] [] (c, S, I, J, P) (none, false, (c, S, r, J, P))) (hw : OM S P) : ∀ (n : Nat) (l1 : Int32) (l2 : Int32) (l3 : Int32) (l4 : Int32) (l5 : Int32) (l6 : Int32) (I : FI) (J : FJ), Mod_goOn_66 R N n l1 l2 l3 l4 l5 l6 I = some r → Go (d + 1) M_Mod_goOn 66 [some (.ref 204), some (.int l1), some (.int l2), some (.int l3), some (.int l4), some (.int l5), some (.int l6), none, none] [] (c, S, I, J, P) (none, false, (c, S, r, J, P)) := by
  intro n
  induction n with
  | zero =>
    intro l1 l2 l3 l4 l5 l6 I J h
    cases h
  | succ n ih =>
    intro l1 l2 l3 l4 l5 l6 I J h
    unfold Mod_goOn_66 at h
    refine g_iload cd254_66 rfl rfl ?_
    refine g_iload_n cd254_68 rfl rfl ?_
    refine g_icmp_ge cd254_69 rfl (fun hb => ?_) (fun hb => ?_)
    · have h := ifpE hb h
      exact g_vret cd254_92 (by obtain rfl := Option.some.inj h; rfl)
    · have h := ifnE hb h
      refine g_aload_n cd254_72 rfl rfl ?_
      refine g_getP cd254_73 rfl (OM.o hw) (OM.p28 hw) ?_
      refine g_iload cd254_76 rfl rfl ?_
      refine g_aload_n cd254_78 rfl rfl ?_
      refine g_getP cd254_79 rfl (OM.o hw) (OM.p27 hw) ?_
      refine g_iload cd254_82 rfl rfl ?_
      obtain ⟨hg5, h⟩ := grd h
      refine G_iald cd254_84 rfl (OM.s27 hw) hg5 ?_
      obtain ⟨I6, e1, h⟩ := bnd h
      refine G_iast cd254_85 rfl (OM.s28 hw) hg5 (Option.some.inj e1) ?_
      refine g_iinc (ls2 := [some (.ref 204), some (.int l1), some (.int l2), some (.int l3), some (.int l4), some (.int l5), some (.int (l6 + 1)), none, none]) cd254_86 rfl rfl rfl ?_
      refine g_goto (ls2 := [some (.ref 204), some (.int l1), some (.int l2), some (.int l3), some (.int l4), some (.int l5), some (.int (l6 + 1)), none, none]) cd254_89 rfl rfl ?_
      exact ih l1 l2 l3 l4 l5 (l6 + 1) I6 J h
set_option maxRecDepth 8000 in
theorem t_Mod_goOn_107 {d : Nat} {D : Nat} {R : Int32 → Int32 → Int32 → FI → Option (FI)} {N : Nat} {c : Nat × Nat} {S : Nat → Nat × Nat} {P : Nat → Nat → Option Nat} {r : FI} (hd : D + 3 ≤ (d + 1)) (hR : ∀ {d : Nat} {l1 : Int32} {l2 : Int32} {l3 : Int32} {I : FI} {J : FJ} {r : FI}, D ≤ d → OM S P → R l1 l2 l3 I = some r → Go d M_Mod_goOn 0 [some (.ref 204), some (.int l1), some (.int l2), some (.int l3), none, none, none, none, none] [] (c, S, I, J, P) (none, false, (c, S, r, J, P))) (hw : OM S P) : ∀ (n : Nat) (l1 : Int32) (l2 : Int32) (l3 : Int32) (l4 : Int32) (l5 : Int32) (l6 : Int32) (I : FI) (J : FJ), Mod_goOn_107 R N n l1 l2 l3 l4 l5 l6 I = some r → Go (d + 1) M_Mod_goOn 107 [some (.ref 204), some (.int l1), some (.int l2), some (.int l3), some (.int l4), some (.int l5), some (.int l6), none, none] [] (c, S, I, J, P) (none, false, (c, S, r, J, P)) := by
  intro n
  induction n with
  | zero =>
    intro l1 l2 l3 l4 l5 l6 I J h
    cases h
  | succ n ih =>
    intro l1 l2 l3 l4 l5 l6 I J h
    unfold Mod_goOn_107 at h
    refine g_iload cd254_107 rfl rfl ?_
    refine g_iconst cd254_109 rfl ?_
    refine g_icmp_ge cd254_110 rfl (fun hb => ?_) (fun hb => ?_)
    · have h := ifpE hb h
      refine g_aload_n cd254_216 rfl rfl ?_
      refine g_getP cd254_217 rfl (OM.o hw) (OM.p29 hw) ?_
      refine g_iload cd254_220 rfl rfl ?_
      refine g_dup2R cd254_222 rfl ?_
      obtain ⟨hg8, h⟩ := grd h
      refine G_iald cd254_223 rfl (OM.s29 hw) hg8 ?_
      refine g_iconst cd254_224 rfl ?_
      refine g_isub cd254_225 rfl ?_
      obtain ⟨I9, e1, h⟩ := bnd h
      refine G_iast cd254_226 rfl (OM.s29 hw) hg8 (Option.some.inj e1) ?_
      exact g_vret cd254_227 (by obtain rfl := Option.some.inj h; rfl)
    · have h := ifnE hb h
      refine g_iload cd254_113 rfl rfl ?_
      refine g_bipush cd254_115 rfl ?_
      refine g_irem cd254_117 rfl (by decide) ?_
      refine g_iload cd254_118 rfl rfl ?_
      refine g_iconst cd254_120 rfl ?_
      refine g_icmp_ne cd254_121 rfl (fun hb => ?_) (fun hb => ?_)
      · have h := ifpE hb h
        refine g_iconst cd254_124 rfl ?_
        refine g_goto (ls2 := [some (.ref 204), some (.int l1), some (.int l2), some (.int l3), some (.int l4), some (.int l5), some (.int l6), none, none]) cd254_125 rfl rfl ?_
        refine g_iadd cd254_139 rfl ?_
        refine g_istore (ls2 := [some (.ref 204), some (.int l1), some (.int l2), some (.int l3), some (.int l4), some (.int l5), some (.int l6), some (.int ((l4 - l4 / 6 * 6) + (-1))), none]) cd254_140 rfl rfl ?_
        refine g_iload cd254_142 rfl rfl ?_
        refine g_bipush cd254_144 rfl ?_
        refine g_idiv cd254_146 rfl (by decide) ?_
        refine g_iload cd254_147 rfl rfl ?_
        refine g_if_ne cd254_149 rfl (fun hb => ?_) (fun hb => ?_)
        · have h := ifpE hb h
          refine g_iconst cd254_152 rfl ?_
          refine g_goto (ls2 := [some (.ref 204), some (.int l1), some (.int l2), some (.int l3), some (.int l4), some (.int l5), some (.int l6), some (.int ((l4 - l4 / 6 * 6) + (-1))), none]) cd254_153 rfl rfl ?_
          refine g_iadd cd254_167 rfl ?_
          refine g_istore (ls2 := [some (.ref 204), some (.int l1), some (.int l2), some (.int l3), some (.int l4), some (.int l5), some (.int l6), some (.int ((l4 - l4 / 6 * 6) + (-1))), some (.int ((l4 / 6) + (-1)))]) cd254_168 rfl rfl ?_
          refine g_aload_n cd254_170 rfl rfl ?_
          refine g_iload cd254_171 rfl rfl ?_
          refine g_iload cd254_173 rfl rfl ?_
          obtain ⟨x10, hx, h⟩ := bnd h
          refine g_callVZ (L := [some (.ref 204), some (.int ((l4 - l4 / 6 * 6) + (-1))), some (.int ((l4 / 6) + (-1)))]) cd254_175 rfl rfl rfl rfl rfl (OM.o hw) (t_Mod_isCell (by omega) hw hx) ?_
          refine g_if_ne cd254_178 rfl (fun hb => ?_) (fun hb => ?_)
          · have h := ifnE (b2i_f hb) h
            refine g_goto (ls2 := [some (.ref 204), some (.int l1), some (.int l2), some (.int l3), some (.int l4), some (.int l5), some (.int l6), some (.int ((l4 - l4 / 6 * 6) + (-1))), some (.int ((l4 / 6) + (-1)))]) cd254_181 rfl rfl ?_
            refine g_iinc (ls2 := [some (.ref 204), some (.int l1), some (.int l2), some (.int l3), some (.int l4), some (.int l5), some (.int (l6 + 1)), some (.int ((l4 - l4 / 6 * 6) + (-1))), some (.int ((l4 / 6) + (-1)))]) cd254_210 rfl rfl rfl ?_
            refine g_goto (ls2 := [some (.ref 204), some (.int l1), some (.int l2), some (.int l3), some (.int l4), some (.int l5), some (.int (l6 + 1)), none, none]) cd254_213 rfl rfl ?_
            exact ih l1 l2 l3 l4 l5 (l6 + 1) I J h
          · have h := ifpE (b2i_t hb) h
            refine g_aload_n cd254_184 rfl rfl ?_
            refine g_getP cd254_185 rfl (OM.o hw) (OM.p27 hw) ?_
            refine g_iload_n cd254_188 rfl rfl ?_
            refine g_iconst cd254_189 rfl ?_
            refine g_iadd cd254_190 rfl ?_
            refine g_bipush cd254_191 rfl ?_
            refine g_iload cd254_193 rfl rfl ?_
            refine g_imul cd254_195 rfl ?_
            refine g_iload cd254_196 rfl rfl ?_
            refine g_iadd cd254_198 rfl ?_
            obtain ⟨hg11, h⟩ := grd h
            obtain ⟨I12, e1, h⟩ := bnd h
            refine G_iast cd254_199 rfl (OM.s27 hw) hg11 (Option.some.inj e1) ?_
            refine g_aload_n cd254_200 rfl rfl ?_
            refine g_iload_n cd254_201 rfl rfl ?_
            refine g_iconst cd254_202 rfl ?_
            refine g_iadd cd254_203 rfl ?_
            refine g_iload_n cd254_204 rfl rfl ?_
            refine g_iload cd254_205 rfl rfl ?_
            obtain ⟨x13, hx, h⟩ := bnd h
            refine g_callVV (L := [some (.ref 204), some (.int (l1 + 1)), some (.int l2), some (.int l5), none, none, none, none, none]) cd254_207 rfl rfl rfl rfl rfl (OM.o hw) (hR (by omega) hw hx) ?_
            refine g_iinc (ls2 := [some (.ref 204), some (.int l1), some (.int l2), some (.int l3), some (.int l4), some (.int l5), some (.int (l6 + 1)), some (.int ((l4 - l4 / 6 * 6) + (-1))), some (.int ((l4 / 6) + (-1)))]) cd254_210 rfl rfl rfl ?_
            refine g_goto (ls2 := [some (.ref 204), some (.int l1), some (.int l2), some (.int l3), some (.int l4), some (.int l5), some (.int (l6 + 1)), none, none]) cd254_213 rfl rfl ?_
            exact ih l1 l2 l3 l4 l5 (l6 + 1) x13 J h
        · have h := ifnE hb h
          refine g_iload cd254_156 rfl rfl ?_
          refine g_iconst cd254_158 rfl ?_
          refine g_icmp_ne cd254_159 rfl (fun hb => ?_) (fun hb => ?_)
          · have h := ifpE hb h
            refine g_iconst cd254_162 rfl ?_
            refine g_goto (ls2 := [some (.ref 204), some (.int l1), some (.int l2), some (.int l3), some (.int l4), some (.int l5), some (.int l6), some (.int ((l4 - l4 / 6 * 6) + (-1))), none]) cd254_163 rfl rfl ?_
            refine g_iadd cd254_167 rfl ?_
            refine g_istore (ls2 := [some (.ref 204), some (.int l1), some (.int l2), some (.int l3), some (.int l4), some (.int l5), some (.int l6), some (.int ((l4 - l4 / 6 * 6) + (-1))), some (.int ((l4 / 6) + 1))]) cd254_168 rfl rfl ?_
            refine g_aload_n cd254_170 rfl rfl ?_
            refine g_iload cd254_171 rfl rfl ?_
            refine g_iload cd254_173 rfl rfl ?_
            obtain ⟨x14, hx, h⟩ := bnd h
            refine g_callVZ (L := [some (.ref 204), some (.int ((l4 - l4 / 6 * 6) + (-1))), some (.int ((l4 / 6) + 1))]) cd254_175 rfl rfl rfl rfl rfl (OM.o hw) (t_Mod_isCell (by omega) hw hx) ?_
            refine g_if_ne cd254_178 rfl (fun hb => ?_) (fun hb => ?_)
            · have h := ifnE (b2i_f hb) h
              refine g_goto (ls2 := [some (.ref 204), some (.int l1), some (.int l2), some (.int l3), some (.int l4), some (.int l5), some (.int l6), some (.int ((l4 - l4 / 6 * 6) + (-1))), some (.int ((l4 / 6) + 1))]) cd254_181 rfl rfl ?_
              refine g_iinc (ls2 := [some (.ref 204), some (.int l1), some (.int l2), some (.int l3), some (.int l4), some (.int l5), some (.int (l6 + 1)), some (.int ((l4 - l4 / 6 * 6) + (-1))), some (.int ((l4 / 6) + 1))]) cd254_210 rfl rfl rfl ?_
              refine g_goto (ls2 := [some (.ref 204), some (.int l1), some (.int l2), some (.int l3), some (.int l4), some (.int l5), some (.int (l6 + 1)), none, none]) cd254_213 rfl rfl ?_
              exact ih l1 l2 l3 l4 l5 (l6 + 1) I J h
            · have h := ifpE (b2i_t hb) h
              refine g_aload_n cd254_184 rfl rfl ?_
              refine g_getP cd254_185 rfl (OM.o hw) (OM.p27 hw) ?_
              refine g_iload_n cd254_188 rfl rfl ?_
              refine g_iconst cd254_189 rfl ?_
              refine g_iadd cd254_190 rfl ?_
              refine g_bipush cd254_191 rfl ?_
              refine g_iload cd254_193 rfl rfl ?_
              refine g_imul cd254_195 rfl ?_
              refine g_iload cd254_196 rfl rfl ?_
              refine g_iadd cd254_198 rfl ?_
              obtain ⟨hg15, h⟩ := grd h
              obtain ⟨I16, e1, h⟩ := bnd h
              refine G_iast cd254_199 rfl (OM.s27 hw) hg15 (Option.some.inj e1) ?_
              refine g_aload_n cd254_200 rfl rfl ?_
              refine g_iload_n cd254_201 rfl rfl ?_
              refine g_iconst cd254_202 rfl ?_
              refine g_iadd cd254_203 rfl ?_
              refine g_iload_n cd254_204 rfl rfl ?_
              refine g_iload cd254_205 rfl rfl ?_
              obtain ⟨x17, hx, h⟩ := bnd h
              refine g_callVV (L := [some (.ref 204), some (.int (l1 + 1)), some (.int l2), some (.int l5), none, none, none, none, none]) cd254_207 rfl rfl rfl rfl rfl (OM.o hw) (hR (by omega) hw hx) ?_
              refine g_iinc (ls2 := [some (.ref 204), some (.int l1), some (.int l2), some (.int l3), some (.int l4), some (.int l5), some (.int (l6 + 1)), some (.int ((l4 - l4 / 6 * 6) + (-1))), some (.int ((l4 / 6) + 1))]) cd254_210 rfl rfl rfl ?_
              refine g_goto (ls2 := [some (.ref 204), some (.int l1), some (.int l2), some (.int l3), some (.int l4), some (.int l5), some (.int (l6 + 1)), none, none]) cd254_213 rfl rfl ?_
              exact ih l1 l2 l3 l4 l5 (l6 + 1) x17 J h
          · have h := ifnE hb h
            refine g_iconst cd254_166 rfl ?_
            refine g_iadd cd254_167 rfl ?_
            refine g_istore (ls2 := [some (.ref 204), some (.int l1), some (.int l2), some (.int l3), some (.int l4), some (.int l5), some (.int l6), some (.int ((l4 - l4 / 6 * 6) + (-1))), some (.int ((l4 / 6) + 0))]) cd254_168 rfl rfl ?_
            refine g_aload_n cd254_170 rfl rfl ?_
            refine g_iload cd254_171 rfl rfl ?_
            refine g_iload cd254_173 rfl rfl ?_
            obtain ⟨x18, hx, h⟩ := bnd h
            refine g_callVZ (L := [some (.ref 204), some (.int ((l4 - l4 / 6 * 6) + (-1))), some (.int ((l4 / 6) + 0))]) cd254_175 rfl rfl rfl rfl rfl (OM.o hw) (t_Mod_isCell (by omega) hw hx) ?_
            refine g_if_ne cd254_178 rfl (fun hb => ?_) (fun hb => ?_)
            · have h := ifnE (b2i_f hb) h
              refine g_goto (ls2 := [some (.ref 204), some (.int l1), some (.int l2), some (.int l3), some (.int l4), some (.int l5), some (.int l6), some (.int ((l4 - l4 / 6 * 6) + (-1))), some (.int ((l4 / 6) + 0))]) cd254_181 rfl rfl ?_
              refine g_iinc (ls2 := [some (.ref 204), some (.int l1), some (.int l2), some (.int l3), some (.int l4), some (.int l5), some (.int (l6 + 1)), some (.int ((l4 - l4 / 6 * 6) + (-1))), some (.int ((l4 / 6) + 0))]) cd254_210 rfl rfl rfl ?_
              refine g_goto (ls2 := [some (.ref 204), some (.int l1), some (.int l2), some (.int l3), some (.int l4), some (.int l5), some (.int (l6 + 1)), none, none]) cd254_213 rfl rfl ?_
              exact ih l1 l2 l3 l4 l5 (l6 + 1) I J h
            · have h := ifpE (b2i_t hb) h
              refine g_aload_n cd254_184 rfl rfl ?_
              refine g_getP cd254_185 rfl (OM.o hw) (OM.p27 hw) ?_
              refine g_iload_n cd254_188 rfl rfl ?_
              refine g_iconst cd254_189 rfl ?_
              refine g_iadd cd254_190 rfl ?_
              refine g_bipush cd254_191 rfl ?_
              refine g_iload cd254_193 rfl rfl ?_
              refine g_imul cd254_195 rfl ?_
              refine g_iload cd254_196 rfl rfl ?_
              refine g_iadd cd254_198 rfl ?_
              obtain ⟨hg19, h⟩ := grd h
              obtain ⟨I20, e1, h⟩ := bnd h
              refine G_iast cd254_199 rfl (OM.s27 hw) hg19 (Option.some.inj e1) ?_
              refine g_aload_n cd254_200 rfl rfl ?_
              refine g_iload_n cd254_201 rfl rfl ?_
              refine g_iconst cd254_202 rfl ?_
              refine g_iadd cd254_203 rfl ?_
              refine g_iload_n cd254_204 rfl rfl ?_
              refine g_iload cd254_205 rfl rfl ?_
              obtain ⟨x21, hx, h⟩ := bnd h
              refine g_callVV (L := [some (.ref 204), some (.int (l1 + 1)), some (.int l2), some (.int l5), none, none, none, none, none]) cd254_207 rfl rfl rfl rfl rfl (OM.o hw) (hR (by omega) hw hx) ?_
              refine g_iinc (ls2 := [some (.ref 204), some (.int l1), some (.int l2), some (.int l3), some (.int l4), some (.int l5), some (.int (l6 + 1)), some (.int ((l4 - l4 / 6 * 6) + (-1))), some (.int ((l4 / 6) + 0))]) cd254_210 rfl rfl rfl ?_
              refine g_goto (ls2 := [some (.ref 204), some (.int l1), some (.int l2), some (.int l3), some (.int l4), some (.int l5), some (.int (l6 + 1)), none, none]) cd254_213 rfl rfl ?_
              exact ih l1 l2 l3 l4 l5 (l6 + 1) x21 J h
      · have h := ifnE hb h
        refine g_iload cd254_128 rfl rfl ?_
        refine g_iconst cd254_130 rfl ?_
        refine g_icmp_ne cd254_131 rfl (fun hb => ?_) (fun hb => ?_)
        · have h := ifpE hb h
          refine g_iconst cd254_134 rfl ?_
          refine g_goto (ls2 := [some (.ref 204), some (.int l1), some (.int l2), some (.int l3), some (.int l4), some (.int l5), some (.int l6), none, none]) cd254_135 rfl rfl ?_
          refine g_iadd cd254_139 rfl ?_
          refine g_istore (ls2 := [some (.ref 204), some (.int l1), some (.int l2), some (.int l3), some (.int l4), some (.int l5), some (.int l6), some (.int ((l4 - l4 / 6 * 6) + 1)), none]) cd254_140 rfl rfl ?_
          refine g_iload cd254_142 rfl rfl ?_
          refine g_bipush cd254_144 rfl ?_
          refine g_idiv cd254_146 rfl (by decide) ?_
          refine g_iload cd254_147 rfl rfl ?_
          refine g_if_ne cd254_149 rfl (fun hb => ?_) (fun hb => ?_)
          · have h := ifpE hb h
            refine g_iconst cd254_152 rfl ?_
            refine g_goto (ls2 := [some (.ref 204), some (.int l1), some (.int l2), some (.int l3), some (.int l4), some (.int l5), some (.int l6), some (.int ((l4 - l4 / 6 * 6) + 1)), none]) cd254_153 rfl rfl ?_
            refine g_iadd cd254_167 rfl ?_
            refine g_istore (ls2 := [some (.ref 204), some (.int l1), some (.int l2), some (.int l3), some (.int l4), some (.int l5), some (.int l6), some (.int ((l4 - l4 / 6 * 6) + 1)), some (.int ((l4 / 6) + (-1)))]) cd254_168 rfl rfl ?_
            refine g_aload_n cd254_170 rfl rfl ?_
            refine g_iload cd254_171 rfl rfl ?_
            refine g_iload cd254_173 rfl rfl ?_
            obtain ⟨x22, hx, h⟩ := bnd h
            refine g_callVZ (L := [some (.ref 204), some (.int ((l4 - l4 / 6 * 6) + 1)), some (.int ((l4 / 6) + (-1)))]) cd254_175 rfl rfl rfl rfl rfl (OM.o hw) (t_Mod_isCell (by omega) hw hx) ?_
            refine g_if_ne cd254_178 rfl (fun hb => ?_) (fun hb => ?_)
            · have h := ifnE (b2i_f hb) h
              refine g_goto (ls2 := [some (.ref 204), some (.int l1), some (.int l2), some (.int l3), some (.int l4), some (.int l5), some (.int l6), some (.int ((l4 - l4 / 6 * 6) + 1)), some (.int ((l4 / 6) + (-1)))]) cd254_181 rfl rfl ?_
              refine g_iinc (ls2 := [some (.ref 204), some (.int l1), some (.int l2), some (.int l3), some (.int l4), some (.int l5), some (.int (l6 + 1)), some (.int ((l4 - l4 / 6 * 6) + 1)), some (.int ((l4 / 6) + (-1)))]) cd254_210 rfl rfl rfl ?_
              refine g_goto (ls2 := [some (.ref 204), some (.int l1), some (.int l2), some (.int l3), some (.int l4), some (.int l5), some (.int (l6 + 1)), none, none]) cd254_213 rfl rfl ?_
              exact ih l1 l2 l3 l4 l5 (l6 + 1) I J h
            · have h := ifpE (b2i_t hb) h
              refine g_aload_n cd254_184 rfl rfl ?_
              refine g_getP cd254_185 rfl (OM.o hw) (OM.p27 hw) ?_
              refine g_iload_n cd254_188 rfl rfl ?_
              refine g_iconst cd254_189 rfl ?_
              refine g_iadd cd254_190 rfl ?_
              refine g_bipush cd254_191 rfl ?_
              refine g_iload cd254_193 rfl rfl ?_
              refine g_imul cd254_195 rfl ?_
              refine g_iload cd254_196 rfl rfl ?_
              refine g_iadd cd254_198 rfl ?_
              obtain ⟨hg23, h⟩ := grd h
              obtain ⟨I24, e1, h⟩ := bnd h
              refine G_iast cd254_199 rfl (OM.s27 hw) hg23 (Option.some.inj e1) ?_
              refine g_aload_n cd254_200 rfl rfl ?_
              refine g_iload_n cd254_201 rfl rfl ?_
              refine g_iconst cd254_202 rfl ?_
              refine g_iadd cd254_203 rfl ?_
              refine g_iload_n cd254_204 rfl rfl ?_
              refine g_iload cd254_205 rfl rfl ?_
              obtain ⟨x25, hx, h⟩ := bnd h
              refine g_callVV (L := [some (.ref 204), some (.int (l1 + 1)), some (.int l2), some (.int l5), none, none, none, none, none]) cd254_207 rfl rfl rfl rfl rfl (OM.o hw) (hR (by omega) hw hx) ?_
              refine g_iinc (ls2 := [some (.ref 204), some (.int l1), some (.int l2), some (.int l3), some (.int l4), some (.int l5), some (.int (l6 + 1)), some (.int ((l4 - l4 / 6 * 6) + 1)), some (.int ((l4 / 6) + (-1)))]) cd254_210 rfl rfl rfl ?_
              refine g_goto (ls2 := [some (.ref 204), some (.int l1), some (.int l2), some (.int l3), some (.int l4), some (.int l5), some (.int (l6 + 1)), none, none]) cd254_213 rfl rfl ?_
              exact ih l1 l2 l3 l4 l5 (l6 + 1) x25 J h
          · have h := ifnE hb h
            refine g_iload cd254_156 rfl rfl ?_
            refine g_iconst cd254_158 rfl ?_
            refine g_icmp_ne cd254_159 rfl (fun hb => ?_) (fun hb => ?_)
            · have h := ifpE hb h
              refine g_iconst cd254_162 rfl ?_
              refine g_goto (ls2 := [some (.ref 204), some (.int l1), some (.int l2), some (.int l3), some (.int l4), some (.int l5), some (.int l6), some (.int ((l4 - l4 / 6 * 6) + 1)), none]) cd254_163 rfl rfl ?_
              refine g_iadd cd254_167 rfl ?_
              refine g_istore (ls2 := [some (.ref 204), some (.int l1), some (.int l2), some (.int l3), some (.int l4), some (.int l5), some (.int l6), some (.int ((l4 - l4 / 6 * 6) + 1)), some (.int ((l4 / 6) + 1))]) cd254_168 rfl rfl ?_
              refine g_aload_n cd254_170 rfl rfl ?_
              refine g_iload cd254_171 rfl rfl ?_
              refine g_iload cd254_173 rfl rfl ?_
              obtain ⟨x26, hx, h⟩ := bnd h
              refine g_callVZ (L := [some (.ref 204), some (.int ((l4 - l4 / 6 * 6) + 1)), some (.int ((l4 / 6) + 1))]) cd254_175 rfl rfl rfl rfl rfl (OM.o hw) (t_Mod_isCell (by omega) hw hx) ?_
              refine g_if_ne cd254_178 rfl (fun hb => ?_) (fun hb => ?_)
              · have h := ifnE (b2i_f hb) h
                refine g_goto (ls2 := [some (.ref 204), some (.int l1), some (.int l2), some (.int l3), some (.int l4), some (.int l5), some (.int l6), some (.int ((l4 - l4 / 6 * 6) + 1)), some (.int ((l4 / 6) + 1))]) cd254_181 rfl rfl ?_
                refine g_iinc (ls2 := [some (.ref 204), some (.int l1), some (.int l2), some (.int l3), some (.int l4), some (.int l5), some (.int (l6 + 1)), some (.int ((l4 - l4 / 6 * 6) + 1)), some (.int ((l4 / 6) + 1))]) cd254_210 rfl rfl rfl ?_
                refine g_goto (ls2 := [some (.ref 204), some (.int l1), some (.int l2), some (.int l3), some (.int l4), some (.int l5), some (.int (l6 + 1)), none, none]) cd254_213 rfl rfl ?_
                exact ih l1 l2 l3 l4 l5 (l6 + 1) I J h
              · have h := ifpE (b2i_t hb) h
                refine g_aload_n cd254_184 rfl rfl ?_
                refine g_getP cd254_185 rfl (OM.o hw) (OM.p27 hw) ?_
                refine g_iload_n cd254_188 rfl rfl ?_
                refine g_iconst cd254_189 rfl ?_
                refine g_iadd cd254_190 rfl ?_
                refine g_bipush cd254_191 rfl ?_
                refine g_iload cd254_193 rfl rfl ?_
                refine g_imul cd254_195 rfl ?_
                refine g_iload cd254_196 rfl rfl ?_
                refine g_iadd cd254_198 rfl ?_
                obtain ⟨hg27, h⟩ := grd h
                obtain ⟨I28, e1, h⟩ := bnd h
                refine G_iast cd254_199 rfl (OM.s27 hw) hg27 (Option.some.inj e1) ?_
                refine g_aload_n cd254_200 rfl rfl ?_
                refine g_iload_n cd254_201 rfl rfl ?_
                refine g_iconst cd254_202 rfl ?_
                refine g_iadd cd254_203 rfl ?_
                refine g_iload_n cd254_204 rfl rfl ?_
                refine g_iload cd254_205 rfl rfl ?_
                obtain ⟨x29, hx, h⟩ := bnd h
                refine g_callVV (L := [some (.ref 204), some (.int (l1 + 1)), some (.int l2), some (.int l5), none, none, none, none, none]) cd254_207 rfl rfl rfl rfl rfl (OM.o hw) (hR (by omega) hw hx) ?_
                refine g_iinc (ls2 := [some (.ref 204), some (.int l1), some (.int l2), some (.int l3), some (.int l4), some (.int l5), some (.int (l6 + 1)), some (.int ((l4 - l4 / 6 * 6) + 1)), some (.int ((l4 / 6) + 1))]) cd254_210 rfl rfl rfl ?_
                refine g_goto (ls2 := [some (.ref 204), some (.int l1), some (.int l2), some (.int l3), some (.int l4), some (.int l5), some (.int (l6 + 1)), none, none]) cd254_213 rfl rfl ?_
                exact ih l1 l2 l3 l4 l5 (l6 + 1) x29 J h
            · have h := ifnE hb h
              refine g_iconst cd254_166 rfl ?_
              refine g_iadd cd254_167 rfl ?_
              refine g_istore (ls2 := [some (.ref 204), some (.int l1), some (.int l2), some (.int l3), some (.int l4), some (.int l5), some (.int l6), some (.int ((l4 - l4 / 6 * 6) + 1)), some (.int ((l4 / 6) + 0))]) cd254_168 rfl rfl ?_
              refine g_aload_n cd254_170 rfl rfl ?_
              refine g_iload cd254_171 rfl rfl ?_
              refine g_iload cd254_173 rfl rfl ?_
              obtain ⟨x30, hx, h⟩ := bnd h
              refine g_callVZ (L := [some (.ref 204), some (.int ((l4 - l4 / 6 * 6) + 1)), some (.int ((l4 / 6) + 0))]) cd254_175 rfl rfl rfl rfl rfl (OM.o hw) (t_Mod_isCell (by omega) hw hx) ?_
              refine g_if_ne cd254_178 rfl (fun hb => ?_) (fun hb => ?_)
              · have h := ifnE (b2i_f hb) h
                refine g_goto (ls2 := [some (.ref 204), some (.int l1), some (.int l2), some (.int l3), some (.int l4), some (.int l5), some (.int l6), some (.int ((l4 - l4 / 6 * 6) + 1)), some (.int ((l4 / 6) + 0))]) cd254_181 rfl rfl ?_
                refine g_iinc (ls2 := [some (.ref 204), some (.int l1), some (.int l2), some (.int l3), some (.int l4), some (.int l5), some (.int (l6 + 1)), some (.int ((l4 - l4 / 6 * 6) + 1)), some (.int ((l4 / 6) + 0))]) cd254_210 rfl rfl rfl ?_
                refine g_goto (ls2 := [some (.ref 204), some (.int l1), some (.int l2), some (.int l3), some (.int l4), some (.int l5), some (.int (l6 + 1)), none, none]) cd254_213 rfl rfl ?_
                exact ih l1 l2 l3 l4 l5 (l6 + 1) I J h
              · have h := ifpE (b2i_t hb) h
                refine g_aload_n cd254_184 rfl rfl ?_
                refine g_getP cd254_185 rfl (OM.o hw) (OM.p27 hw) ?_
                refine g_iload_n cd254_188 rfl rfl ?_
                refine g_iconst cd254_189 rfl ?_
                refine g_iadd cd254_190 rfl ?_
                refine g_bipush cd254_191 rfl ?_
                refine g_iload cd254_193 rfl rfl ?_
                refine g_imul cd254_195 rfl ?_
                refine g_iload cd254_196 rfl rfl ?_
                refine g_iadd cd254_198 rfl ?_
                obtain ⟨hg31, h⟩ := grd h
                obtain ⟨I32, e1, h⟩ := bnd h
                refine G_iast cd254_199 rfl (OM.s27 hw) hg31 (Option.some.inj e1) ?_
                refine g_aload_n cd254_200 rfl rfl ?_
                refine g_iload_n cd254_201 rfl rfl ?_
                refine g_iconst cd254_202 rfl ?_
                refine g_iadd cd254_203 rfl ?_
                refine g_iload_n cd254_204 rfl rfl ?_
                refine g_iload cd254_205 rfl rfl ?_
                obtain ⟨x33, hx, h⟩ := bnd h
                refine g_callVV (L := [some (.ref 204), some (.int (l1 + 1)), some (.int l2), some (.int l5), none, none, none, none, none]) cd254_207 rfl rfl rfl rfl rfl (OM.o hw) (hR (by omega) hw hx) ?_
                refine g_iinc (ls2 := [some (.ref 204), some (.int l1), some (.int l2), some (.int l3), some (.int l4), some (.int l5), some (.int (l6 + 1)), some (.int ((l4 - l4 / 6 * 6) + 1)), some (.int ((l4 / 6) + 0))]) cd254_210 rfl rfl rfl ?_
                refine g_goto (ls2 := [some (.ref 204), some (.int l1), some (.int l2), some (.int l3), some (.int l4), some (.int l5), some (.int (l6 + 1)), none, none]) cd254_213 rfl rfl ?_
                exact ih l1 l2 l3 l4 l5 (l6 + 1) x33 J h
        · have h := ifnE hb h
          refine g_iconst cd254_138 rfl ?_
          refine g_iadd cd254_139 rfl ?_
          refine g_istore (ls2 := [some (.ref 204), some (.int l1), some (.int l2), some (.int l3), some (.int l4), some (.int l5), some (.int l6), some (.int ((l4 - l4 / 6 * 6) + 0)), none]) cd254_140 rfl rfl ?_
          refine g_iload cd254_142 rfl rfl ?_
          refine g_bipush cd254_144 rfl ?_
          refine g_idiv cd254_146 rfl (by decide) ?_
          refine g_iload cd254_147 rfl rfl ?_
          refine g_if_ne cd254_149 rfl (fun hb => ?_) (fun hb => ?_)
          · have h := ifpE hb h
            refine g_iconst cd254_152 rfl ?_
            refine g_goto (ls2 := [some (.ref 204), some (.int l1), some (.int l2), some (.int l3), some (.int l4), some (.int l5), some (.int l6), some (.int ((l4 - l4 / 6 * 6) + 0)), none]) cd254_153 rfl rfl ?_
            refine g_iadd cd254_167 rfl ?_
            refine g_istore (ls2 := [some (.ref 204), some (.int l1), some (.int l2), some (.int l3), some (.int l4), some (.int l5), some (.int l6), some (.int ((l4 - l4 / 6 * 6) + 0)), some (.int ((l4 / 6) + (-1)))]) cd254_168 rfl rfl ?_
            refine g_aload_n cd254_170 rfl rfl ?_
            refine g_iload cd254_171 rfl rfl ?_
            refine g_iload cd254_173 rfl rfl ?_
            obtain ⟨x34, hx, h⟩ := bnd h
            refine g_callVZ (L := [some (.ref 204), some (.int ((l4 - l4 / 6 * 6) + 0)), some (.int ((l4 / 6) + (-1)))]) cd254_175 rfl rfl rfl rfl rfl (OM.o hw) (t_Mod_isCell (by omega) hw hx) ?_
            refine g_if_ne cd254_178 rfl (fun hb => ?_) (fun hb => ?_)
            · have h := ifnE (b2i_f hb) h
              refine g_goto (ls2 := [some (.ref 204), some (.int l1), some (.int l2), some (.int l3), some (.int l4), some (.int l5), some (.int l6), some (.int ((l4 - l4 / 6 * 6) + 0)), some (.int ((l4 / 6) + (-1)))]) cd254_181 rfl rfl ?_
              refine g_iinc (ls2 := [some (.ref 204), some (.int l1), some (.int l2), some (.int l3), some (.int l4), some (.int l5), some (.int (l6 + 1)), some (.int ((l4 - l4 / 6 * 6) + 0)), some (.int ((l4 / 6) + (-1)))]) cd254_210 rfl rfl rfl ?_
              refine g_goto (ls2 := [some (.ref 204), some (.int l1), some (.int l2), some (.int l3), some (.int l4), some (.int l5), some (.int (l6 + 1)), none, none]) cd254_213 rfl rfl ?_
              exact ih l1 l2 l3 l4 l5 (l6 + 1) I J h
            · have h := ifpE (b2i_t hb) h
              refine g_aload_n cd254_184 rfl rfl ?_
              refine g_getP cd254_185 rfl (OM.o hw) (OM.p27 hw) ?_
              refine g_iload_n cd254_188 rfl rfl ?_
              refine g_iconst cd254_189 rfl ?_
              refine g_iadd cd254_190 rfl ?_
              refine g_bipush cd254_191 rfl ?_
              refine g_iload cd254_193 rfl rfl ?_
              refine g_imul cd254_195 rfl ?_
              refine g_iload cd254_196 rfl rfl ?_
              refine g_iadd cd254_198 rfl ?_
              obtain ⟨hg35, h⟩ := grd h
              obtain ⟨I36, e1, h⟩ := bnd h
              refine G_iast cd254_199 rfl (OM.s27 hw) hg35 (Option.some.inj e1) ?_
              refine g_aload_n cd254_200 rfl rfl ?_
              refine g_iload_n cd254_201 rfl rfl ?_
              refine g_iconst cd254_202 rfl ?_
              refine g_iadd cd254_203 rfl ?_
              refine g_iload_n cd254_204 rfl rfl ?_
              refine g_iload cd254_205 rfl rfl ?_
              obtain ⟨x37, hx, h⟩ := bnd h
              refine g_callVV (L := [some (.ref 204), some (.int (l1 + 1)), some (.int l2), some (.int l5), none, none, none, none, none]) cd254_207 rfl rfl rfl rfl rfl (OM.o hw) (hR (by omega) hw hx) ?_
              refine g_iinc (ls2 := [some (.ref 204), some (.int l1), some (.int l2), some (.int l3), some (.int l4), some (.int l5), some (.int (l6 + 1)), some (.int ((l4 - l4 / 6 * 6) + 0)), some (.int ((l4 / 6) + (-1)))]) cd254_210 rfl rfl rfl ?_
              refine g_goto (ls2 := [some (.ref 204), some (.int l1), some (.int l2), some (.int l3), some (.int l4), some (.int l5), some (.int (l6 + 1)), none, none]) cd254_213 rfl rfl ?_
              exact ih l1 l2 l3 l4 l5 (l6 + 1) x37 J h
          · have h := ifnE hb h
            refine g_iload cd254_156 rfl rfl ?_
            refine g_iconst cd254_158 rfl ?_
            refine g_icmp_ne cd254_159 rfl (fun hb => ?_) (fun hb => ?_)
            · have h := ifpE hb h
              refine g_iconst cd254_162 rfl ?_
              refine g_goto (ls2 := [some (.ref 204), some (.int l1), some (.int l2), some (.int l3), some (.int l4), some (.int l5), some (.int l6), some (.int ((l4 - l4 / 6 * 6) + 0)), none]) cd254_163 rfl rfl ?_
              refine g_iadd cd254_167 rfl ?_
              refine g_istore (ls2 := [some (.ref 204), some (.int l1), some (.int l2), some (.int l3), some (.int l4), some (.int l5), some (.int l6), some (.int ((l4 - l4 / 6 * 6) + 0)), some (.int ((l4 / 6) + 1))]) cd254_168 rfl rfl ?_
              refine g_aload_n cd254_170 rfl rfl ?_
              refine g_iload cd254_171 rfl rfl ?_
              refine g_iload cd254_173 rfl rfl ?_
              obtain ⟨x38, hx, h⟩ := bnd h
              refine g_callVZ (L := [some (.ref 204), some (.int ((l4 - l4 / 6 * 6) + 0)), some (.int ((l4 / 6) + 1))]) cd254_175 rfl rfl rfl rfl rfl (OM.o hw) (t_Mod_isCell (by omega) hw hx) ?_
              refine g_if_ne cd254_178 rfl (fun hb => ?_) (fun hb => ?_)
              · have h := ifnE (b2i_f hb) h
                refine g_goto (ls2 := [some (.ref 204), some (.int l1), some (.int l2), some (.int l3), some (.int l4), some (.int l5), some (.int l6), some (.int ((l4 - l4 / 6 * 6) + 0)), some (.int ((l4 / 6) + 1))]) cd254_181 rfl rfl ?_
                refine g_iinc (ls2 := [some (.ref 204), some (.int l1), some (.int l2), some (.int l3), some (.int l4), some (.int l5), some (.int (l6 + 1)), some (.int ((l4 - l4 / 6 * 6) + 0)), some (.int ((l4 / 6) + 1))]) cd254_210 rfl rfl rfl ?_
                refine g_goto (ls2 := [some (.ref 204), some (.int l1), some (.int l2), some (.int l3), some (.int l4), some (.int l5), some (.int (l6 + 1)), none, none]) cd254_213 rfl rfl ?_
                exact ih l1 l2 l3 l4 l5 (l6 + 1) I J h
              · have h := ifpE (b2i_t hb) h
                refine g_aload_n cd254_184 rfl rfl ?_
                refine g_getP cd254_185 rfl (OM.o hw) (OM.p27 hw) ?_
                refine g_iload_n cd254_188 rfl rfl ?_
                refine g_iconst cd254_189 rfl ?_
                refine g_iadd cd254_190 rfl ?_
                refine g_bipush cd254_191 rfl ?_
                refine g_iload cd254_193 rfl rfl ?_
                refine g_imul cd254_195 rfl ?_
                refine g_iload cd254_196 rfl rfl ?_
                refine g_iadd cd254_198 rfl ?_
                obtain ⟨hg39, h⟩ := grd h
                obtain ⟨I40, e1, h⟩ := bnd h
                refine G_iast cd254_199 rfl (OM.s27 hw) hg39 (Option.some.inj e1) ?_
                refine g_aload_n cd254_200 rfl rfl ?_
                refine g_iload_n cd254_201 rfl rfl ?_
                refine g_iconst cd254_202 rfl ?_
                refine g_iadd cd254_203 rfl ?_
                refine g_iload_n cd254_204 rfl rfl ?_
                refine g_iload cd254_205 rfl rfl ?_
                obtain ⟨x41, hx, h⟩ := bnd h
                refine g_callVV (L := [some (.ref 204), some (.int (l1 + 1)), some (.int l2), some (.int l5), none, none, none, none, none]) cd254_207 rfl rfl rfl rfl rfl (OM.o hw) (hR (by omega) hw hx) ?_
                refine g_iinc (ls2 := [some (.ref 204), some (.int l1), some (.int l2), some (.int l3), some (.int l4), some (.int l5), some (.int (l6 + 1)), some (.int ((l4 - l4 / 6 * 6) + 0)), some (.int ((l4 / 6) + 1))]) cd254_210 rfl rfl rfl ?_
                refine g_goto (ls2 := [some (.ref 204), some (.int l1), some (.int l2), some (.int l3), some (.int l4), some (.int l5), some (.int (l6 + 1)), none, none]) cd254_213 rfl rfl ?_
                exact ih l1 l2 l3 l4 l5 (l6 + 1) x41 J h
            · have h := ifnE hb h
              refine g_iconst cd254_166 rfl ?_
              refine g_iadd cd254_167 rfl ?_
              refine g_istore (ls2 := [some (.ref 204), some (.int l1), some (.int l2), some (.int l3), some (.int l4), some (.int l5), some (.int l6), some (.int ((l4 - l4 / 6 * 6) + 0)), some (.int ((l4 / 6) + 0))]) cd254_168 rfl rfl ?_
              refine g_aload_n cd254_170 rfl rfl ?_
              refine g_iload cd254_171 rfl rfl ?_
              refine g_iload cd254_173 rfl rfl ?_
              obtain ⟨x42, hx, h⟩ := bnd h
              refine g_callVZ (L := [some (.ref 204), some (.int ((l4 - l4 / 6 * 6) + 0)), some (.int ((l4 / 6) + 0))]) cd254_175 rfl rfl rfl rfl rfl (OM.o hw) (t_Mod_isCell (by omega) hw hx) ?_
              refine g_if_ne cd254_178 rfl (fun hb => ?_) (fun hb => ?_)
              · have h := ifnE (b2i_f hb) h
                refine g_goto (ls2 := [some (.ref 204), some (.int l1), some (.int l2), some (.int l3), some (.int l4), some (.int l5), some (.int l6), some (.int ((l4 - l4 / 6 * 6) + 0)), some (.int ((l4 / 6) + 0))]) cd254_181 rfl rfl ?_
                refine g_iinc (ls2 := [some (.ref 204), some (.int l1), some (.int l2), some (.int l3), some (.int l4), some (.int l5), some (.int (l6 + 1)), some (.int ((l4 - l4 / 6 * 6) + 0)), some (.int ((l4 / 6) + 0))]) cd254_210 rfl rfl rfl ?_
                refine g_goto (ls2 := [some (.ref 204), some (.int l1), some (.int l2), some (.int l3), some (.int l4), some (.int l5), some (.int (l6 + 1)), none, none]) cd254_213 rfl rfl ?_
                exact ih l1 l2 l3 l4 l5 (l6 + 1) I J h
              · have h := ifpE (b2i_t hb) h
                refine g_aload_n cd254_184 rfl rfl ?_
                refine g_getP cd254_185 rfl (OM.o hw) (OM.p27 hw) ?_
                refine g_iload_n cd254_188 rfl rfl ?_
                refine g_iconst cd254_189 rfl ?_
                refine g_iadd cd254_190 rfl ?_
                refine g_bipush cd254_191 rfl ?_
                refine g_iload cd254_193 rfl rfl ?_
                refine g_imul cd254_195 rfl ?_
                refine g_iload cd254_196 rfl rfl ?_
                refine g_iadd cd254_198 rfl ?_
                obtain ⟨hg43, h⟩ := grd h
                obtain ⟨I44, e1, h⟩ := bnd h
                refine G_iast cd254_199 rfl (OM.s27 hw) hg43 (Option.some.inj e1) ?_
                refine g_aload_n cd254_200 rfl rfl ?_
                refine g_iload_n cd254_201 rfl rfl ?_
                refine g_iconst cd254_202 rfl ?_
                refine g_iadd cd254_203 rfl ?_
                refine g_iload_n cd254_204 rfl rfl ?_
                refine g_iload cd254_205 rfl rfl ?_
                obtain ⟨x45, hx, h⟩ := bnd h
                refine g_callVV (L := [some (.ref 204), some (.int (l1 + 1)), some (.int l2), some (.int l5), none, none, none, none, none]) cd254_207 rfl rfl rfl rfl rfl (OM.o hw) (hR (by omega) hw hx) ?_
                refine g_iinc (ls2 := [some (.ref 204), some (.int l1), some (.int l2), some (.int l3), some (.int l4), some (.int l5), some (.int (l6 + 1)), some (.int ((l4 - l4 / 6 * 6) + 0)), some (.int ((l4 / 6) + 0))]) cd254_210 rfl rfl rfl ?_
                refine g_goto (ls2 := [some (.ref 204), some (.int l1), some (.int l2), some (.int l3), some (.int l4), some (.int l5), some (.int (l6 + 1)), none, none]) cd254_213 rfl rfl ?_
                exact ih l1 l2 l3 l4 l5 (l6 + 1) x45 J h
set_option maxRecDepth 8000 in
theorem t_Mod_goOn {d : Nat} {D : Nat} {R : Int32 → Int32 → Int32 → FI → Option (FI)} {N : Nat} {c : Nat × Nat} {S : Nat → Nat × Nat} {P : Nat → Nat → Option Nat} {I : FI} {J : FJ} {l1 : Int32} {l2 : Int32} {l3 : Int32} {r : FI} (hd : D + 3 ≤ d) (hR : ∀ {d : Nat} {l1 : Int32} {l2 : Int32} {l3 : Int32} {I : FI} {J : FJ} {r : FI}, D ≤ d → OM S P → R l1 l2 l3 I = some r → Go d M_Mod_goOn 0 [some (.ref 204), some (.int l1), some (.int l2), some (.int l3), none, none, none, none, none] [] (c, S, I, J, P) (none, false, (c, S, r, J, P))) (hw : OM S P) (h : Mod_goOn R N l1 l2 l3 I = some r) : Go d M_Mod_goOn 0 [some (.ref 204), some (.int l1), some (.int l2), some (.int l3), none, none, none, none, none] [] (c, S, I, J, P) (none, false, (c, S, r, J, P)) := by
  obtain ⟨d, rfl⟩ : ∃ e, d = e + 1 := ⟨d - 1, by omega⟩
  unfold Mod_goOn at h
  refine g_aload_n cd254_0 rfl rfl ?_
  refine g_getP cd254_1 rfl (OM.o hw) (OM.p27 hw) ?_
  refine g_iload_n cd254_4 rfl rfl ?_
  obtain ⟨hg1, h⟩ := grd h
  refine G_iald cd254_5 rfl (OM.s27 hw) hg1 ?_
  refine g_istore (ls2 := [some (.ref 204), some (.int l1), some (.int l2), some (.int l3), some (.int (I 217 l1.toNatClampNeg)), none, none, none, none]) cd254_6 rfl rfl ?_
  refine g_aload_n cd254_8 rfl rfl ?_
  refine g_getP cd254_9 rfl (OM.o hw) (OM.p29 hw) ?_
  refine g_iload cd254_12 rfl rfl ?_
  obtain ⟨hg2, h⟩ := grd h
  refine G_iald cd254_14 rfl (OM.s29 hw) hg2 ?_
  refine g_if_ne cd254_15 rfl (fun hb => ?_) (fun hb => ?_)
  · have h := ifpE hb h
    refine g_iload_n cd254_18 rfl rfl ?_
    refine g_aload_n cd254_19 rfl rfl ?_
    refine g_iload cd254_20 rfl rfl ?_
    refine g_bipush cd254_22 rfl ?_
    refine g_irem cd254_24 rfl (by decide) ?_
    refine g_iload cd254_25 rfl rfl ?_
    refine g_bipush cd254_27 rfl ?_
    refine g_idiv cd254_29 rfl (by decide) ?_
    obtain ⟨x3, hx, h⟩ := bnd h
    refine g_callVI (L := [some (.ref 204), some (.int ((I 217 l1.toNatClampNeg) - (I 217 l1.toNatClampNeg) / 6 * 6)), some (.int ((I 217 l1.toNatClampNeg) / 6)), none, none, none]) cd254_30 rfl rfl rfl rfl rfl (OM.o hw) (t_Mod_worthOf (by omega) hw hx) ?_
    refine g_iadd cd254_33 rfl ?_
    refine g_goto (ls2 := [some (.ref 204), some (.int l1), some (.int l2), some (.int l3), some (.int (I 217 l1.toNatClampNeg)), none, none, none, none]) cd254_34 rfl rfl ?_
    refine g_istore (ls2 := [some (.ref 204), some (.int l1), some (.int l2), some (.int l3), some (.int (I 217 l1.toNatClampNeg)), some (.int (l3 + x3)), none, none, none]) cd254_38 rfl rfl ?_
    refine g_iload_n cd254_40 rfl rfl ?_
    refine g_iconst cd254_41 rfl ?_
    refine g_iadd cd254_42 rfl ?_
    refine g_iload_n cd254_43 rfl rfl ?_
    refine g_icmp_ne cd254_44 rfl (fun hb => ?_) (fun hb => ?_)
    · have h := ifpE hb h
      refine g_iload cd254_47 rfl rfl ?_
      refine g_aload_n cd254_49 rfl rfl ?_
      refine g_getI cd254_50 rfl (OM.o hw) ?_
      refine g_icmp_gt cd254_53 rfl (fun hb => ?_) (fun hb => ?_)
      · have h := ifpE hb h
        refine g_aload_n cd254_57 rfl rfl ?_
        refine g_iload cd254_58 rfl rfl ?_
        obtain ⟨I4, e1, h⟩ := bnd h
        refine G_putI cd254_60 rfl (OM.o hw) (Option.some.inj e1) ?_
        refine g_iconst cd254_63 rfl ?_
        refine g_istore (ls2 := [some (.ref 204), some (.int l1), some (.int l2), some (.int l3), some (.int (I 217 l1.toNatClampNeg)), some (.int (l3 + x3)), some (.int 0), none, none]) cd254_64 rfl rfl ?_
        exact t_Mod_goOn_66 hd hR hw _ l1 l2 l3 (I 217 l1.toNatClampNeg) (l3 + x3) 0 I4 J h
      · have h := ifnE hb h
        exact g_vret cd254_56 (by obtain rfl := Option.some.inj h; rfl)
    · have h := ifnE hb h
      refine g_aload_n cd254_93 rfl rfl ?_
      refine g_getP cd254_94 rfl (OM.o hw) (OM.p29 hw) ?_
      refine g_iload cd254_97 rfl rfl ?_
      refine g_dup2R cd254_99 rfl ?_
      refine G_iald cd254_100 rfl (OM.s29 hw) hg2 ?_
      refine g_iconst cd254_101 rfl ?_
      refine g_iadd cd254_102 rfl ?_
      obtain ⟨I7, e1, h⟩ := bnd h
      refine G_iast cd254_103 rfl (OM.s29 hw) hg2 (Option.some.inj e1) ?_
      refine g_iconst cd254_104 rfl ?_
      refine g_istore (ls2 := [some (.ref 204), some (.int l1), some (.int l2), some (.int l3), some (.int (I 217 l1.toNatClampNeg)), some (.int (l3 + x3)), some (.int 0), none, none]) cd254_105 rfl rfl ?_
      exact t_Mod_goOn_107 hd hR hw _ l1 l2 l3 (I 217 l1.toNatClampNeg) (l3 + x3) 0 I7 J h
  · have h := ifnE hb h
    refine g_iload_n cd254_37 rfl rfl ?_
    refine g_istore (ls2 := [some (.ref 204), some (.int l1), some (.int l2), some (.int l3), some (.int (I 217 l1.toNatClampNeg)), some (.int l3), none, none, none]) cd254_38 rfl rfl ?_
    refine g_iload_n cd254_40 rfl rfl ?_
    refine g_iconst cd254_41 rfl ?_
    refine g_iadd cd254_42 rfl ?_
    refine g_iload_n cd254_43 rfl rfl ?_
    refine g_icmp_ne cd254_44 rfl (fun hb => ?_) (fun hb => ?_)
    · have h := ifpE hb h
      refine g_iload cd254_47 rfl rfl ?_
      refine g_aload_n cd254_49 rfl rfl ?_
      refine g_getI cd254_50 rfl (OM.o hw) ?_
      refine g_icmp_gt cd254_53 rfl (fun hb => ?_) (fun hb => ?_)
      · have h := ifpE hb h
        refine g_aload_n cd254_57 rfl rfl ?_
        refine g_iload cd254_58 rfl rfl ?_
        obtain ⟨I46, e1, h⟩ := bnd h
        refine G_putI cd254_60 rfl (OM.o hw) (Option.some.inj e1) ?_
        refine g_iconst cd254_63 rfl ?_
        refine g_istore (ls2 := [some (.ref 204), some (.int l1), some (.int l2), some (.int l3), some (.int (I 217 l1.toNatClampNeg)), some (.int l3), some (.int 0), none, none]) cd254_64 rfl rfl ?_
        exact t_Mod_goOn_66 hd hR hw _ l1 l2 l3 (I 217 l1.toNatClampNeg) l3 0 I46 J h
      · have h := ifnE hb h
        exact g_vret cd254_56 (by obtain rfl := Option.some.inj h; rfl)
    · have h := ifnE hb h
      refine g_aload_n cd254_93 rfl rfl ?_
      refine g_getP cd254_94 rfl (OM.o hw) (OM.p29 hw) ?_
      refine g_iload cd254_97 rfl rfl ?_
      refine g_dup2R cd254_99 rfl ?_
      refine G_iald cd254_100 rfl (OM.s29 hw) hg2 ?_
      refine g_iconst cd254_101 rfl ?_
      refine g_iadd cd254_102 rfl ?_
      obtain ⟨I47, e1, h⟩ := bnd h
      refine G_iast cd254_103 rfl (OM.s29 hw) hg2 (Option.some.inj e1) ?_
      refine g_iconst cd254_104 rfl ?_
      refine g_istore (ls2 := [some (.ref 204), some (.int l1), some (.int l2), some (.int l3), some (.int (I 217 l1.toNatClampNeg)), some (.int l3), some (.int 0), none, none]) cd254_105 rfl rfl ?_
      exact t_Mod_goOn_107 hd hR hw _ l1 l2 l3 (I 217 l1.toNatClampNeg) l3 0 I47 J h
set_option maxRecDepth 8000 in
theorem t_Mod_goOn_R {N : Nat} {c : Nat × Nat} {S : Nat → Nat × Nat} {P : Nat → Nat → Option Nat} : ∀ (k D : Nat), 3 * k ≤ D → ∀ {d : Nat} {l1 : Int32} {l2 : Int32} {l3 : Int32} {I : FI} {J : FJ} {r : FI}, D ≤ d → OM S P → Mod_goOn_R N k l1 l2 l3 I = some r → Go d M_Mod_goOn 0 [some (.ref 204), some (.int l1), some (.int l2), some (.int l3), none, none, none, none, none] [] (c, S, I, J, P) (none, false, (c, S, r, J, P)) := by
  intro k
  induction k with
  | zero =>
    intro D hD d l1 l2 l3 I J r hd hw h
    cases h
  | succ k ih =>
    intro D hD d l1 l2 l3 I J r hd hw h
    exact t_Mod_goOn (D := 3 * k) (N := N) (by omega) (ih (3 * k) (Nat.le_refl _)) hw h
/-! HiddenOrLostModel.route(III)I -/
theorem cd253_0 : code9 253 0 = some (0, .aload_n 0, [1], .null, []) := rfl
theorem cd253_1 : code9 253 1 = some (0, .iconst 0, [1], .int 0, []) := rfl
theorem cd253_2 : code9 253 2 = some (0, .putfield 1, [3, 12, 0, 0], .null, []) := rfl
theorem cd253_5 : code9 253 5 = some (0, .aload_n 0, [1], .null, []) := rfl
theorem cd253_6 : code9 253 6 = some (0, .iload_n 1, [1], .null, []) := rfl
theorem cd253_7 : code9 253 7 = some (0, .iload_n 2, [1], .null, []) := rfl
theorem cd253_8 : code9 253 8 = some (0, .invokevirtual 251, [3, 214, 3, 1, 3, 3, 12, 0], .null, []) := rfl
theorem cd253_11 : code9 253 11 = some (0, .ifCond .eq 13, [3, 24], .null, []) := rfl
theorem cd253_14 : code9 253 14 = some (0, .iload_n 3, [1], .null, []) := rfl
theorem cd253_15 : code9 253 15 = some (0, .iconst 1, [1], .int 1, []) := rfl
theorem cd253_16 : code9 253 16 = some (0, .bipush 8, [2], .int 8, []) := rfl
theorem cd253_18 : code9 253 18 = some (0, .invokestatic 75, [3, 191, 3, 0, 3, 3, 12, 0], .null, []) := rfl
theorem cd253_21 : code9 253 21 = some (0, .ifCond .ne 5, [3, 26], .null, []) := rfl
theorem cd253_24 : code9 253 24 = some (5, .iconst (-1), [1], .int (-1), []) := rfl
theorem cd253_25 : code9 253 25 = some (0, .ireturn, [1, 1], .null, []) := rfl
theorem cd253_26 : code9 253 26 = some (0, .aload_n 0, [1], .null, []) := rfl
theorem cd253_27 : code9 253 27 = some (0, .iconst (-1), [1], .int (-1), []) := rfl
theorem cd253_28 : code9 253 28 = some (0, .putfield 333, [3, 12, 31, 0], .null, []) := rfl
theorem cd253_31 : code9 253 31 = some (0, .aload_n 0, [1], .null, []) := rfl
theorem cd253_32 : code9 253 32 = some (0, .getfield 133, [3, 12, 27, 2], .null, []) := rfl
theorem cd253_35 : code9 253 35 = some (0, .iconst 0, [1], .int 0, []) := rfl
theorem cd253_36 : code9 253 36 = some (0, .bipush 6, [2], .int 6, []) := rfl
theorem cd253_38 : code9 253 38 = some (0, .iload_n 2, [1], .null, []) := rfl
theorem cd253_39 : code9 253 39 = some (0, .imul, [1], .null, []) := rfl
theorem cd253_40 : code9 253 40 = some (0, .iload_n 1, [1], .null, []) := rfl
theorem cd253_41 : code9 253 41 = some (0, .iadd, [1], .null, []) := rfl
theorem cd253_42 : code9 253 42 = some (0, .iastore, [1], .null, []) := rfl
theorem cd253_43 : code9 253 43 = some (0, .aload_n 0, [1], .null, []) := rfl
theorem cd253_44 : code9 253 44 = some (0, .iconst 0, [1], .int 0, []) := rfl
theorem cd253_45 : code9 253 45 = some (0, .iload_n 3, [1], .null, []) := rfl
theorem cd253_46 : code9 253 46 = some (0, .iconst 0, [1], .int 0, []) := rfl
theorem cd253_47 : code9 253 47 = some (0, .invokevirtual 336, [3, 254, 4, 1, 0, 9, 12, 0], .null, []) := rfl
theorem cd253_50 : code9 253 50 = some (0, .aload_n 0, [1], .null, []) := rfl
theorem cd253_51 : code9 253 51 = some (0, .iload_n 3, [1], .null, []) := rfl
theorem cd253_52 : code9 253 52 = some (0, .putfield 339, [3, 12, 30, 0], .null, []) := rfl
theorem cd253_55 : code9 253 55 = some (0, .aload_n 0, [1], .null, []) := rfl
theorem cd253_56 : code9 253 56 = some (0, .getfield 333, [3, 12, 31, 0], .null, []) := rfl
theorem cd253_59 : code9 253 59 = some (0, .ireturn, [1, 1], .null, []) := rfl
def Mod_route (N : Nat) (l1 : Int32) (l2 : Int32) (l3 : Int32) (I : FI) : Option (Int32 × FI) := Option.bind (some (up2 I 204 0 (0 : Int32))) fun I1 => (Option.bind (Mod_isCell l1 l2 I1) fun x2 => (if x2 then (if (Mod_isIn l3 1 8) then (Option.bind (some (up2 I1 204 31 (-1 : Int32))) fun I3 => (Option.bind (some (up2 I3 217 ((0 : Int32).toNatClampNeg) ((6 * l2) + l1))) fun I4 => (Option.bind (Mod_goOn_R N dK 0 l3 0 I4) fun x5 => (Option.bind (some (up2 x5 204 30 l3)) fun I6 => (some (I6 204 31, I6)))))) else (some ((-1), I1))) else (some ((-1), I1))))
set_option maxRecDepth 8000 in
theorem t_Mod_route {d : Nat} {N : Nat} {c : Nat × Nat} {S : Nat → Nat × Nat} {P : Nat → Nat → Option Nat} {I : FI} {J : FJ} {l1 : Int32} {l2 : Int32} {l3 : Int32} {r : Int32 × FI} (hd : 196 ≤ d) (hw : OM S P) (h : Mod_route N l1 l2 l3 I = some r) : Go d M_Mod_route 0 [some (.ref 204), some (.int l1), some (.int l2), some (.int l3)] [] (c, S, I, J, P) (some (.int r.1), false, (c, S, r.2, J, P)) := by
  obtain ⟨d, rfl⟩ : ∃ e, d = e + 1 := ⟨d - 1, by omega⟩
  unfold Mod_route at h
  refine g_aload_n cd253_0 rfl rfl ?_
  refine g_iconst cd253_1 rfl ?_
  obtain ⟨I1, e1, h⟩ := bnd h
  refine G_putI cd253_2 rfl (OM.o hw) (Option.some.inj e1) ?_
  refine g_aload_n cd253_5 rfl rfl ?_
  refine g_iload_n cd253_6 rfl rfl ?_
  refine g_iload_n cd253_7 rfl rfl ?_
  obtain ⟨x2, hx, h⟩ := bnd h
  refine g_callVZ (L := [some (.ref 204), some (.int l1), some (.int l2)]) cd253_8 rfl rfl rfl rfl rfl (OM.o hw) (t_Mod_isCell (by omega) hw hx) ?_
  refine g_if_eq cd253_11 rfl (fun hb => ?_) (fun hb => ?_)
  · have h := ifnE (b2i_f hb) h
    refine g_iconst cd253_24 rfl ?_
    exact g_iret cd253_25 (Or.inl rfl) (by obtain rfl := Option.some.inj h; rfl)
  · have h := ifpE (b2i_t hb) h
    refine g_iload_n cd253_14 rfl rfl ?_
    refine g_iconst cd253_15 rfl ?_
    refine g_bipush cd253_16 rfl ?_
    refine g_callSZ (L := [some (.int l3), some (.int 1), some (.int 8)]) cd253_18 rfl rfl rfl rfl rfl (t_Mod_isIn (by omega)  rfl) ?_
    refine g_if_ne cd253_21 rfl (fun hb => ?_) (fun hb => ?_)
    · have h := ifnE (b2i_f hb) h
      refine g_iconst cd253_24 rfl ?_
      exact g_iret cd253_25 (Or.inl rfl) (by obtain rfl := Option.some.inj h; rfl)
    · have h := ifpE (b2i_t hb) h
      refine g_aload_n cd253_26 rfl rfl ?_
      refine g_iconst cd253_27 rfl ?_
      obtain ⟨I3, e1, h⟩ := bnd h
      refine G_putI cd253_28 rfl (OM.o hw) (Option.some.inj e1) ?_
      refine g_aload_n cd253_31 rfl rfl ?_
      refine g_getP cd253_32 rfl (OM.o hw) (OM.p27 hw) ?_
      refine g_iconst cd253_35 rfl ?_
      refine g_bipush cd253_36 rfl ?_
      refine g_iload_n cd253_38 rfl rfl ?_
      refine g_imul cd253_39 rfl ?_
      refine g_iload_n cd253_40 rfl rfl ?_
      refine g_iadd cd253_41 rfl ?_
      obtain ⟨I4, e1, h⟩ := bnd h
      refine G_iast cd253_42 rfl (OM.s27 hw) (by decide) (Option.some.inj e1) ?_
      refine g_aload_n cd253_43 rfl rfl ?_
      refine g_iconst cd253_44 rfl ?_
      refine g_iload_n cd253_45 rfl rfl ?_
      refine g_iconst cd253_46 rfl ?_
      obtain ⟨x5, hx, h⟩ := bnd h
      refine g_callVV (L := [some (.ref 204), some (.int 0), some (.int l3), some (.int 0), none, none, none, none, none]) cd253_47 rfl rfl rfl rfl rfl (OM.o hw) (t_Mod_goOn_R dK (3 * dK) (Nat.le_refl _) (by have := dK_eq; omega) hw hx) ?_
      refine g_aload_n cd253_50 rfl rfl ?_
      refine g_iload_n cd253_51 rfl rfl ?_
      obtain ⟨I6, e1, h⟩ := bnd h
      refine G_putI cd253_52 rfl (OM.o hw) (Option.some.inj e1) ?_
      refine g_aload_n cd253_55 rfl rfl ?_
      refine g_getI cd253_56 rfl (OM.o hw) ?_
      exact g_iret cd253_59 (Or.inl rfl) (by obtain rfl := Option.some.inj h; rfl)
/-! HiddenOrLostModel.routeAt(I)I -/
theorem cd255_0 : code9 255 0 = some (0, .aload_n 0, [1], .null, []) := rfl
theorem cd255_1 : code9 255 1 = some (0, .iconst 0, [1], .int 0, []) := rfl
theorem cd255_2 : code9 255 2 = some (0, .putfield 1, [3, 12, 0, 0], .null, []) := rfl
theorem cd255_5 : code9 255 5 = some (0, .iload_n 1, [1], .null, []) := rfl
theorem cd255_6 : code9 255 6 = some (0, .iconst 0, [1], .int 0, []) := rfl
theorem cd255_7 : code9 255 7 = some (0, .aload_n 0, [1], .null, []) := rfl
theorem cd255_8 : code9 255 8 = some (0, .getfield 339, [3, 12, 30, 0], .null, []) := rfl
theorem cd255_11 : code9 255 11 = some (0, .iconst 1, [1], .int 1, []) := rfl
theorem cd255_12 : code9 255 12 = some (0, .isub, [1], .null, []) := rfl
theorem cd255_13 : code9 255 13 = some (0, .invokestatic 75, [3, 191, 3, 0, 3, 3, 12, 0], .null, []) := rfl
theorem cd255_16 : code9 255 16 = some (0, .ifCond .eq 12, [3, 28], .null, []) := rfl
theorem cd255_19 : code9 255 19 = some (0, .aload_n 0, [1], .null, []) := rfl
theorem cd255_20 : code9 255 20 = some (0, .getfield 136, [3, 12, 28, 2], .null, []) := rfl
theorem cd255_23 : code9 255 23 = some (0, .iload_n 1, [1], .null, []) := rfl
theorem cd255_24 : code9 255 24 = some (0, .iaload, [1], .null, []) := rfl
theorem cd255_25 : code9 255 25 = some (0, .goto 4, [3, 29, 2], .null, []) := rfl
theorem cd255_28 : code9 255 28 = some (0, .iconst (-1), [1], .int (-1), []) := rfl
theorem cd255_29 : code9 255 29 = some (3, .ireturn, [1, 1], .null, []) := rfl
def Mod_routeAt (l1 : Int32) (I : FI) : Option (Int32 × FI) := Option.bind (some (up2 I 204 0 (0 : Int32))) fun I1 => (if (Mod_isIn l1 0 ((I1 204 30) - 1)) then (if in9 l1 8 then (some (I1 218 l1.toNatClampNeg, I1)) else none) else (some ((-1), I1)))
set_option maxRecDepth 8000 in
theorem t_Mod_routeAt {d : Nat} {c : Nat × Nat} {S : Nat → Nat × Nat} {P : Nat → Nat → Option Nat} {I : FI} {J : FJ} {l1 : Int32} {r : Int32 × FI} (hd : 1 ≤ d) (hw : OM S P) (h : Mod_routeAt l1 I = some r) : Go d M_Mod_routeAt 0 [some (.ref 204), some (.int l1)] [] (c, S, I, J, P) (some (.int r.1), false, (c, S, r.2, J, P)) := by
  obtain ⟨d, rfl⟩ : ∃ e, d = e + 1 := ⟨d - 1, by omega⟩
  unfold Mod_routeAt at h
  refine g_aload_n cd255_0 rfl rfl ?_
  refine g_iconst cd255_1 rfl ?_
  obtain ⟨I1, e1, h⟩ := bnd h
  refine G_putI cd255_2 rfl (OM.o hw) (Option.some.inj e1) ?_
  refine g_iload_n cd255_5 rfl rfl ?_
  refine g_iconst cd255_6 rfl ?_
  refine g_aload_n cd255_7 rfl rfl ?_
  refine g_getI cd255_8 rfl (OM.o hw) ?_
  refine g_iconst cd255_11 rfl ?_
  refine g_isub cd255_12 rfl ?_
  refine g_callSZ (L := [some (.int l1), some (.int 0), some (.int ((I1 204 30) - 1))]) cd255_13 rfl rfl rfl rfl rfl (t_Mod_isIn (by omega)  rfl) ?_
  refine g_if_eq cd255_16 rfl (fun hb => ?_) (fun hb => ?_)
  · have h := ifnE (b2i_f hb) h
    refine g_iconst cd255_28 rfl ?_
    exact g_iret cd255_29 (Or.inl rfl) (by obtain rfl := Option.some.inj h; rfl)
  · have h := ifpE (b2i_t hb) h
    refine g_aload_n cd255_19 rfl rfl ?_
    refine g_getP cd255_20 rfl (OM.o hw) (OM.p28 hw) ?_
    refine g_iload_n cd255_23 rfl rfl ?_
    obtain ⟨hg2, h⟩ := grd h
    refine G_iald cd255_24 rfl (OM.s28 hw) hg2 ?_
    refine g_goto (ls2 := [some (.ref 204), some (.int l1)]) cd255_25 rfl rfl ?_
    exact g_iret cd255_29 (Or.inl rfl) (by obtain rfl := Option.some.inj h; rfl)
/-! HiddenOrLostModel.spreadOf(I)I -/
theorem cd257_0 : code9 257 0 = some (0, .iconst 0, [1], .int 0, []) := rfl
theorem cd257_1 : code9 257 1 = some (0, .istore_n 2, [1], .null, []) := rfl
theorem cd257_2 : code9 257 2 = some (0, .iconst 0, [1], .int 0, []) := rfl
theorem cd257_3 : code9 257 3 = some (0, .istore_n 3, [1], .null, []) := rfl
theorem cd257_4 : code9 257 4 = some (5, .iload_n 3, [1], .null, []) := rfl
theorem cd257_5 : code9 257 5 = some (0, .bipush 10, [2], .int 10, []) := rfl
theorem cd257_7 : code9 257 7 = some (0, .if_icmp .ge 85, [3, 92], .null, []) := rfl
theorem cd257_10 : code9 257 10 = some (0, .iconst 0, [1], .int 0, []) := rfl
theorem cd257_11 : code9 257 11 = some (0, .istore 4, [2], .null, []) := rfl
theorem cd257_13 : code9 257 13 = some (6, .iload 4, [2], .null, []) := rfl
theorem cd257_15 : code9 257 15 = some (0, .iload_n 3, [1], .null, []) := rfl
theorem cd257_16 : code9 257 16 = some (0, .if_icmp .ge 70, [3, 86], .null, []) := rfl
theorem cd257_19 : code9 257 19 = some (0, .iload_n 1, [1], .null, []) := rfl
theorem cd257_20 : code9 257 20 = some (0, .iload_n 3, [1], .null, []) := rfl
theorem cd257_21 : code9 257 21 = some (0, .invokestatic 258, [3, 221, 2, 0, 3, 2, 12, 0], .null, []) := rfl
theorem cd257_24 : code9 257 24 = some (0, .ifCond .eq 56, [3, 80], .null, []) := rfl
theorem cd257_27 : code9 257 27 = some (0, .iload_n 1, [1], .null, []) := rfl
theorem cd257_28 : code9 257 28 = some (0, .iload 4, [2], .null, []) := rfl
theorem cd257_30 : code9 257 30 = some (0, .invokestatic 258, [3, 221, 2, 0, 3, 2, 12, 0], .null, []) := rfl
theorem cd257_33 : code9 257 33 = some (0, .ifCond .eq 47, [3, 80], .null, []) := rfl
theorem cd257_36 : code9 257 36 = some (0, .iload_n 2, [1], .null, []) := rfl
theorem cd257_37 : code9 257 37 = some (0, .aload_n 0, [1], .null, []) := rfl
theorem cd257_38 : code9 257 38 = some (0, .getfield 98, [3, 12, 14, 2], .null, []) := rfl
theorem cd257_41 : code9 257 41 = some (0, .bipush 105, [2], .int 105, []) := rfl
theorem cd257_43 : code9 257 43 = some (0, .iload_n 3, [1], .null, []) := rfl
theorem cd257_44 : code9 257 44 = some (0, .iadd, [1], .null, []) := rfl
theorem cd257_45 : code9 257 45 = some (0, .iaload, [1], .null, []) := rfl
theorem cd257_46 : code9 257 46 = some (0, .aload_n 0, [1], .null, []) := rfl
theorem cd257_47 : code9 257 47 = some (0, .getfield 98, [3, 12, 14, 2], .null, []) := rfl
theorem cd257_50 : code9 257 50 = some (0, .bipush 115, [2], .int 115, []) := rfl
theorem cd257_52 : code9 257 52 = some (0, .iload_n 3, [1], .null, []) := rfl
theorem cd257_53 : code9 257 53 = some (0, .iadd, [1], .null, []) := rfl
theorem cd257_54 : code9 257 54 = some (0, .iaload, [1], .null, []) := rfl
theorem cd257_55 : code9 257 55 = some (0, .aload_n 0, [1], .null, []) := rfl
theorem cd257_56 : code9 257 56 = some (0, .getfield 98, [3, 12, 14, 2], .null, []) := rfl
theorem cd257_59 : code9 257 59 = some (0, .bipush 105, [2], .int 105, []) := rfl
theorem cd257_61 : code9 257 61 = some (0, .iload 4, [2], .null, []) := rfl
theorem cd257_63 : code9 257 63 = some (0, .iadd, [1], .null, []) := rfl
theorem cd257_64 : code9 257 64 = some (0, .iaload, [1], .null, []) := rfl
theorem cd257_65 : code9 257 65 = some (0, .aload_n 0, [1], .null, []) := rfl
theorem cd257_66 : code9 257 66 = some (0, .getfield 98, [3, 12, 14, 2], .null, []) := rfl
theorem cd257_69 : code9 257 69 = some (0, .bipush 115, [2], .int 115, []) := rfl
theorem cd257_71 : code9 257 71 = some (0, .iload 4, [2], .null, []) := rfl
theorem cd257_73 : code9 257 73 = some (0, .iadd, [1], .null, []) := rfl
theorem cd257_74 : code9 257 74 = some (0, .iaload, [1], .null, []) := rfl
theorem cd257_75 : code9 257 75 = some (0, .invokestatic 238, [3, 216, 4, 0, 1, 4, 12, 0], .null, []) := rfl
theorem cd257_78 : code9 257 78 = some (0, .iadd, [1], .null, []) := rfl
theorem cd257_79 : code9 257 79 = some (0, .istore_n 2, [1], .null, []) := rfl
theorem cd257_80 : code9 257 80 = some (6, .iinc 4 1, [3], .int 1, []) := rfl
theorem cd257_83 : code9 257 83 = some (0, .goto (-70), [3, 13, 5], .null, []) := rfl
theorem cd257_86 : code9 257 86 = some (0, .iinc 3 1, [3], .int 1, []) := rfl
theorem cd257_89 : code9 257 89 = some (0, .goto (-85), [3, 4, 4], .null, []) := rfl
theorem cd257_92 : code9 257 92 = some (0, .iload_n 2, [1], .null, []) := rfl
theorem cd257_93 : code9 257 93 = some (0, .ireturn, [1, 1], .null, []) := rfl
def Mod_spreadOf_13 (N : Nat) (K : Int32 → Int32 → Int32 → FI → Option (Int32)) : Nat → Int32 → Int32 → Int32 → Int32 → FI → Option (Int32)
  | 0 => fun _ _ _ _ _ => none
  | n + 1 => fun l1 l2 l3 l4 I => if l3 ≤ l4 then (K l1 l2 (l3 + 1) I) else (if (Mod_has l1 l3) then (if (Mod_has l1 l4) then (if in9 (105 + l3) 451 then (if in9 (115 + l3) 451 then (if in9 (105 + l4) 451 then (if in9 (115 + l4) 451 then (Mod_spreadOf_13 N K n l1 (l2 + (Mod_away (I 206 ((105 + l3).toNatClampNeg)) (I 206 ((115 + l3).toNatClampNeg)) (I 206 ((105 + l4).toNatClampNeg)) (I 206 ((115 + l4).toNatClampNeg)))) l3 (l4 + 1) I) else none) else none) else none) else none) else (Mod_spreadOf_13 N K n l1 l2 l3 (l4 + 1) I)) else (Mod_spreadOf_13 N K n l1 l2 l3 (l4 + 1) I))
def Mod_spreadOf_4 (N : Nat) : Nat → Int32 → Int32 → Int32 → FI → Option (Int32)
  | 0 => fun _ _ _ _ => none
  | n + 1 => fun l1 l2 l3 I => if 10 ≤ l3 then (some l2) else (Mod_spreadOf_13 N (fun x1 x2 x3 I => Mod_spreadOf_4 N n x1 x2 x3 I) N l1 l2 l3 0 I)
def Mod_spreadOf (N : Nat) (l1 : Int32) (I : FI) : Option (Int32) := Mod_spreadOf_4 N N l1 0 0 I
set_option maxRecDepth 8000 in
theorem t_Mod_spreadOf_13 {d : Nat} {N : Nat} {c : Nat × Nat} {S : Nat → Nat × Nat} {P : Nat → Nat → Option Nat} {K : Int32 → Int32 → Int32 → FI → Option (Int32)} {r : Int32} (hd : 2 ≤ (d + 1)) (hw : OM S P) (hK : ∀ (x1 : Int32) (x2 : Int32) (x3 : Int32) (I : FI) (J : FJ), K x1 x2 x3 I = some r → Go (d + 1) M_Mod_spreadOf 4 [some (.ref 204), some (.int x1), some (.int x2), some (.int x3), none] [] (c, S, I, J, P) (some (.int r), false, (c, S, I, J, P))) : ∀ (n : Nat) (l1 : Int32) (l2 : Int32) (l3 : Int32) (l4 : Int32) (I : FI) (J : FJ), Mod_spreadOf_13 N K n l1 l2 l3 l4 I = some r → Go (d + 1) M_Mod_spreadOf 13 [some (.ref 204), some (.int l1), some (.int l2), some (.int l3), some (.int l4)] [] (c, S, I, J, P) (some (.int r), false, (c, S, I, J, P)) := by
  intro n
  induction n with
  | zero =>
    intro l1 l2 l3 l4 I J h
    cases h
  | succ n ih =>
    intro l1 l2 l3 l4 I J h
    unfold Mod_spreadOf_13 at h
    refine g_iload cd257_13 rfl rfl ?_
    refine g_iload_n cd257_15 rfl rfl ?_
    refine g_icmp_ge cd257_16 rfl (fun hb => ?_) (fun hb => ?_)
    · have h := ifpE hb h
      refine g_iinc (ls2 := [some (.ref 204), some (.int l1), some (.int l2), some (.int (l3 + 1)), some (.int l4)]) cd257_86 rfl rfl rfl ?_
      refine g_goto (ls2 := [some (.ref 204), some (.int l1), some (.int l2), some (.int (l3 + 1)), none]) cd257_89 rfl rfl ?_
      exact hK l1 l2 (l3 + 1) I J h
    · have h := ifnE hb h
      refine g_iload_n cd257_19 rfl rfl ?_
      refine g_iload_n cd257_20 rfl rfl ?_
      refine g_callSZ (L := [some (.int l1), some (.int l3)]) cd257_21 rfl rfl rfl rfl rfl (t_Mod_has (by omega)  rfl) ?_
      refine g_if_eq cd257_24 rfl (fun hb => ?_) (fun hb => ?_)
      · have h := ifnE (b2i_f hb) h
        refine g_iinc (ls2 := [some (.ref 204), some (.int l1), some (.int l2), some (.int l3), some (.int (l4 + 1))]) cd257_80 rfl rfl rfl ?_
        refine g_goto (ls2 := [some (.ref 204), some (.int l1), some (.int l2), some (.int l3), some (.int (l4 + 1))]) cd257_83 rfl rfl ?_
        exact ih l1 l2 l3 (l4 + 1) I J h
      · have h := ifpE (b2i_t hb) h
        refine g_iload_n cd257_27 rfl rfl ?_
        refine g_iload cd257_28 rfl rfl ?_
        refine g_callSZ (L := [some (.int l1), some (.int l4)]) cd257_30 rfl rfl rfl rfl rfl (t_Mod_has (by omega)  rfl) ?_
        refine g_if_eq cd257_33 rfl (fun hb => ?_) (fun hb => ?_)
        · have h := ifnE (b2i_f hb) h
          refine g_iinc (ls2 := [some (.ref 204), some (.int l1), some (.int l2), some (.int l3), some (.int (l4 + 1))]) cd257_80 rfl rfl rfl ?_
          refine g_goto (ls2 := [some (.ref 204), some (.int l1), some (.int l2), some (.int l3), some (.int (l4 + 1))]) cd257_83 rfl rfl ?_
          exact ih l1 l2 l3 (l4 + 1) I J h
        · have h := ifpE (b2i_t hb) h
          refine g_iload_n cd257_36 rfl rfl ?_
          refine g_aload_n cd257_37 rfl rfl ?_
          refine g_getP cd257_38 rfl (OM.o hw) (OM.p14 hw) ?_
          refine g_bipush cd257_41 rfl ?_
          refine g_iload_n cd257_43 rfl rfl ?_
          refine g_iadd cd257_44 rfl ?_
          obtain ⟨hg1, h⟩ := grd h
          refine G_iald cd257_45 rfl (OM.s14 hw) hg1 ?_
          refine g_aload_n cd257_46 rfl rfl ?_
          refine g_getP cd257_47 rfl (OM.o hw) (OM.p14 hw) ?_
          refine g_bipush cd257_50 rfl ?_
          refine g_iload_n cd257_52 rfl rfl ?_
          refine g_iadd cd257_53 rfl ?_
          obtain ⟨hg2, h⟩ := grd h
          refine G_iald cd257_54 rfl (OM.s14 hw) hg2 ?_
          refine g_aload_n cd257_55 rfl rfl ?_
          refine g_getP cd257_56 rfl (OM.o hw) (OM.p14 hw) ?_
          refine g_bipush cd257_59 rfl ?_
          refine g_iload cd257_61 rfl rfl ?_
          refine g_iadd cd257_63 rfl ?_
          obtain ⟨hg3, h⟩ := grd h
          refine G_iald cd257_64 rfl (OM.s14 hw) hg3 ?_
          refine g_aload_n cd257_65 rfl rfl ?_
          refine g_getP cd257_66 rfl (OM.o hw) (OM.p14 hw) ?_
          refine g_bipush cd257_69 rfl ?_
          refine g_iload cd257_71 rfl rfl ?_
          refine g_iadd cd257_73 rfl ?_
          obtain ⟨hg4, h⟩ := grd h
          refine G_iald cd257_74 rfl (OM.s14 hw) hg4 ?_
          refine g_callSI (L := [some (.int (I 206 ((105 + l3).toNatClampNeg))), some (.int (I 206 ((115 + l3).toNatClampNeg))), some (.int (I 206 ((105 + l4).toNatClampNeg))), some (.int (I 206 ((115 + l4).toNatClampNeg)))]) cd257_75 rfl rfl rfl rfl rfl (t_Mod_away (by omega)  rfl) ?_
          refine g_iadd cd257_78 rfl ?_
          refine g_istore_n (ls2 := [some (.ref 204), some (.int l1), some (.int (l2 + (Mod_away (I 206 ((105 + l3).toNatClampNeg)) (I 206 ((115 + l3).toNatClampNeg)) (I 206 ((105 + l4).toNatClampNeg)) (I 206 ((115 + l4).toNatClampNeg))))), some (.int l3), some (.int l4)]) cd257_79 rfl rfl ?_
          refine g_iinc (ls2 := [some (.ref 204), some (.int l1), some (.int (l2 + (Mod_away (I 206 ((105 + l3).toNatClampNeg)) (I 206 ((115 + l3).toNatClampNeg)) (I 206 ((105 + l4).toNatClampNeg)) (I 206 ((115 + l4).toNatClampNeg))))), some (.int l3), some (.int (l4 + 1))]) cd257_80 rfl rfl rfl ?_
          refine g_goto (ls2 := [some (.ref 204), some (.int l1), some (.int (l2 + (Mod_away (I 206 ((105 + l3).toNatClampNeg)) (I 206 ((115 + l3).toNatClampNeg)) (I 206 ((105 + l4).toNatClampNeg)) (I 206 ((115 + l4).toNatClampNeg))))), some (.int l3), some (.int (l4 + 1))]) cd257_83 rfl rfl ?_
          exact ih l1 (l2 + (Mod_away (I 206 ((105 + l3).toNatClampNeg)) (I 206 ((115 + l3).toNatClampNeg)) (I 206 ((105 + l4).toNatClampNeg)) (I 206 ((115 + l4).toNatClampNeg)))) l3 (l4 + 1) I J h
set_option maxRecDepth 8000 in
theorem t_Mod_spreadOf_4 {d : Nat} {N : Nat} {c : Nat × Nat} {S : Nat → Nat × Nat} {P : Nat → Nat → Option Nat} {r : Int32} (hd : 2 ≤ (d + 1)) (hw : OM S P) : ∀ (n : Nat) (l1 : Int32) (l2 : Int32) (l3 : Int32) (I : FI) (J : FJ), Mod_spreadOf_4 N n l1 l2 l3 I = some r → Go (d + 1) M_Mod_spreadOf 4 [some (.ref 204), some (.int l1), some (.int l2), some (.int l3), none] [] (c, S, I, J, P) (some (.int r), false, (c, S, I, J, P)) := by
  intro n
  induction n with
  | zero =>
    intro l1 l2 l3 I J h
    cases h
  | succ n ih =>
    intro l1 l2 l3 I J h
    unfold Mod_spreadOf_4 at h
    refine g_iload_n cd257_4 rfl rfl ?_
    refine g_bipush cd257_5 rfl ?_
    refine g_icmp_ge cd257_7 rfl (fun hb => ?_) (fun hb => ?_)
    · have h := ifpE hb h
      refine g_iload_n cd257_92 rfl rfl ?_
      exact g_iret cd257_93 (Or.inl rfl) (by obtain rfl := Option.some.inj h; rfl)
    · have h := ifnE hb h
      refine g_iconst cd257_10 rfl ?_
      refine g_istore (ls2 := [some (.ref 204), some (.int l1), some (.int l2), some (.int l3), some (.int 0)]) cd257_11 rfl rfl ?_
      exact t_Mod_spreadOf_13 hd hw (fun x1 x2 x3 I J h => ih x1 x2 x3 I J h) _ l1 l2 l3 0 I J h
set_option maxRecDepth 8000 in
theorem t_Mod_spreadOf {d : Nat} {N : Nat} {c : Nat × Nat} {S : Nat → Nat × Nat} {P : Nat → Nat → Option Nat} {I : FI} {J : FJ} {l1 : Int32} {r : Int32} (hd : 2 ≤ d) (hw : OM S P) (h : Mod_spreadOf N l1 I = some r) : Go d M_Mod_spreadOf 0 [some (.ref 204), some (.int l1), none, none, none] [] (c, S, I, J, P) (some (.int r), false, (c, S, I, J, P)) := by
  obtain ⟨d, rfl⟩ : ∃ e, d = e + 1 := ⟨d - 1, by omega⟩
  unfold Mod_spreadOf at h
  refine g_iconst cd257_0 rfl ?_
  refine g_istore_n (ls2 := [some (.ref 204), some (.int l1), some (.int 0), none, none]) cd257_1 rfl rfl ?_
  refine g_iconst cd257_2 rfl ?_
  refine g_istore_n (ls2 := [some (.ref 204), some (.int l1), some (.int 0), some (.int 0), none]) cd257_3 rfl rfl ?_
  exact t_Mod_spreadOf_4 hd hw _ l1 0 0 I J h

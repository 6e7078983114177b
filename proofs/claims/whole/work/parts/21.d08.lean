/-! HiddenOrLostModel.begin(I)V -/
theorem cd177_0 : code9 177 0 = some (0, .aload_n 0, [1], .null, []) := rfl
theorem cd177_1 : code9 177 1 = some (0, .iconst 0, [1], .int 0, []) := rfl
theorem cd177_2 : code9 177 2 = some (0, .putfield 1, [3, 12, 0, 0], .null, []) := rfl
theorem cd177_5 : code9 177 5 = some (0, .aload_n 0, [1], .null, []) := rfl
theorem cd177_6 : code9 177 6 = some (0, .aload_n 0, [1], .null, []) := rfl
theorem cd177_7 : code9 177 7 = some (0, .invokevirtual 89, [3, 178, 1, 1, 1, 2, 12, 0], .null, []) := rfl
theorem cd177_10 : code9 177 10 = some (0, .putfield 18, [3, 12, 3, 0], .null, []) := rfl
theorem cd177_13 : code9 177 13 = some (0, .aload_n 0, [1], .null, []) := rfl
theorem cd177_14 : code9 177 14 = some (0, .iload_n 1, [1], .null, []) := rfl
theorem cd177_15 : code9 177 15 = some (0, .putfield 27, [3, 12, 4, 0], .null, []) := rfl
theorem cd177_18 : code9 177 18 = some (0, .aload_n 0, [1], .null, []) := rfl
theorem cd177_19 : code9 177 19 = some (0, .iconst 0, [1], .int 0, []) := rfl
theorem cd177_20 : code9 177 20 = some (0, .putfield 66, [3, 12, 10, 0], .null, []) := rfl
theorem cd177_23 : code9 177 23 = some (0, .aload_n 0, [1], .null, []) := rfl
theorem cd177_24 : code9 177 24 = some (0, .iconst 0, [1], .int 0, []) := rfl
theorem cd177_25 : code9 177 25 = some (0, .putfield 21, [3, 12, 5, 0], .null, []) := rfl
theorem cd177_28 : code9 177 28 = some (0, .aload_n 0, [1], .null, []) := rfl
theorem cd177_29 : code9 177 29 = some (0, .invokevirtual 82, [3, 179, 1, 1, 0, 5, 12, 0], .null, []) := rfl
theorem cd177_32 : code9 177 32 = some (0, .return_, [1], .null, []) := rfl
def Mod_begin (N : Nat) (l1 : Int32) (I : FI) (J : FJ) : Option (FI × FJ) := Option.bind (some (up2 I 204 0 (0 : Int32))) fun I1 => (Option.bind (Mod_take I1) fun x2 => (Option.bind (some (up2 x2.2 204 3 x2.1)) fun I3 => (Option.bind (some (up2 I3 204 4 l1)) fun I4 => (Option.bind (some (up2 I4 204 10 (0 : Int32))) fun I5 => (Option.bind (some (up2 I5 204 5 (0 : Int32))) fun I6 => (Option.bind (Mod_go N I6 J) fun x7 => (some (x7.1, x7.2))))))))
set_option maxRecDepth 8000 in
theorem t_Mod_begin {d : Nat} {N : Nat} {c : Nat × Nat} {S : Nat → Nat × Nat} {P : Nat → Nat → Option Nat} {I : FI} {J : FJ} {l1 : Int32} {r : FI × FJ} (hd : 2 ≤ d) (hw : OM S P) (h : Mod_begin N l1 I J = some r) : Go d M_Mod_begin 0 [some (.ref 204), some (.int l1)] [] (c, S, I, J, P) (none, false, (c, S, r.1, r.2, P)) := by
  obtain ⟨d, rfl⟩ : ∃ e, d = e + 1 := ⟨d - 1, by omega⟩
  unfold Mod_begin at h
  refine g_aload_n cd177_0 rfl rfl ?_
  refine g_iconst cd177_1 rfl ?_
  obtain ⟨I1, e1, h⟩ := bnd h
  refine G_putI cd177_2 rfl (OM.o hw) (Option.some.inj e1) ?_
  refine g_aload_n cd177_5 rfl rfl ?_
  refine g_aload_n cd177_6 rfl rfl ?_
  obtain ⟨x2, hx, h⟩ := bnd h
  refine g_callVI (L := [some (.ref 204), none]) cd177_7 rfl rfl rfl rfl rfl (OM.o hw) (t_Mod_take (by omega) hw hx) ?_
  obtain ⟨I3, e1, h⟩ := bnd h
  refine G_putI cd177_10 rfl (OM.o hw) (Option.some.inj e1) ?_
  refine g_aload_n cd177_13 rfl rfl ?_
  refine g_iload_n cd177_14 rfl rfl ?_
  obtain ⟨I4, e1, h⟩ := bnd h
  refine G_putI cd177_15 rfl (OM.o hw) (Option.some.inj e1) ?_
  refine g_aload_n cd177_18 rfl rfl ?_
  refine g_iconst cd177_19 rfl ?_
  obtain ⟨I5, e1, h⟩ := bnd h
  refine G_putI cd177_20 rfl (OM.o hw) (Option.some.inj e1) ?_
  refine g_aload_n cd177_23 rfl rfl ?_
  refine g_iconst cd177_24 rfl ?_
  obtain ⟨I6, e1, h⟩ := bnd h
  refine G_putI cd177_25 rfl (OM.o hw) (Option.some.inj e1) ?_
  refine g_aload_n cd177_28 rfl rfl ?_
  obtain ⟨x7, hx, h⟩ := bnd h
  refine g_callVV (L := [some (.ref 204), none, none, none, none]) cd177_29 rfl rfl rfl rfl rfl (OM.o hw) (t_Mod_go (by omega) hw hx) ?_
  exact g_vret cd177_32 (by obtain rfl := Option.some.inj h; rfl)
/-! HiddenOrLostModel.spelt(IIIIII)J -/
theorem cd186_0 : code9 186 0 = some (0, .ldc2_w 54, [3], .long 27, []) := rfl
theorem cd186_3 : code9 186 3 = some (0, .iload_n 0, [1], .null, []) := rfl
theorem cd186_4 : code9 186 4 = some (0, .i2l, [1], .null, []) := rfl
theorem cd186_5 : code9 186 5 = some (0, .ldc2_w 56, [3], .long 96, []) := rfl
theorem cd186_8 : code9 186 8 = some (0, .lsub, [1], .null, []) := rfl
theorem cd186_9 : code9 186 9 = some (0, .lmul, [1], .null, []) := rfl
theorem cd186_10 : code9 186 10 = some (0, .iload_n 1, [1], .null, []) := rfl
theorem cd186_11 : code9 186 11 = some (0, .i2l, [1], .null, []) := rfl
theorem cd186_12 : code9 186 12 = some (0, .ladd, [1], .null, []) := rfl
theorem cd186_13 : code9 186 13 = some (0, .ldc2_w 56, [3], .long 96, []) := rfl
theorem cd186_16 : code9 186 16 = some (0, .lsub, [1], .null, []) := rfl
theorem cd186_17 : code9 186 17 = some (0, .lstore 6, [2], .null, []) := rfl
theorem cd186_19 : code9 186 19 = some (0, .iload_n 2, [1], .null, []) := rfl
theorem cd186_20 : code9 186 20 = some (0, .ifCond .le 18, [3, 38], .null, []) := rfl
theorem cd186_23 : code9 186 23 = some (0, .ldc2_w 54, [3], .long 27, []) := rfl
theorem cd186_26 : code9 186 26 = some (0, .lload 6, [2], .null, []) := rfl
theorem cd186_28 : code9 186 28 = some (0, .lmul, [1], .null, []) := rfl
theorem cd186_29 : code9 186 29 = some (0, .iload_n 2, [1], .null, []) := rfl
theorem cd186_30 : code9 186 30 = some (0, .i2l, [1], .null, []) := rfl
theorem cd186_31 : code9 186 31 = some (0, .ladd, [1], .null, []) := rfl
theorem cd186_32 : code9 186 32 = some (0, .ldc2_w 56, [3], .long 96, []) := rfl
theorem cd186_35 : code9 186 35 = some (0, .lsub, [1], .null, []) := rfl
theorem cd186_36 : code9 186 36 = some (0, .lstore 6, [2], .null, []) := rfl
theorem cd186_38 : code9 186 38 = some (9, .iload_n 3, [1], .null, []) := rfl
theorem cd186_39 : code9 186 39 = some (0, .ifCond .le 18, [3, 57], .null, []) := rfl
theorem cd186_42 : code9 186 42 = some (0, .ldc2_w 54, [3], .long 27, []) := rfl
theorem cd186_45 : code9 186 45 = some (0, .lload 6, [2], .null, []) := rfl
theorem cd186_47 : code9 186 47 = some (0, .lmul, [1], .null, []) := rfl
theorem cd186_48 : code9 186 48 = some (0, .iload_n 3, [1], .null, []) := rfl
theorem cd186_49 : code9 186 49 = some (0, .i2l, [1], .null, []) := rfl
theorem cd186_50 : code9 186 50 = some (0, .ladd, [1], .null, []) := rfl
theorem cd186_51 : code9 186 51 = some (0, .ldc2_w 56, [3], .long 96, []) := rfl
theorem cd186_54 : code9 186 54 = some (0, .lsub, [1], .null, []) := rfl
theorem cd186_55 : code9 186 55 = some (0, .lstore 6, [2], .null, []) := rfl
theorem cd186_57 : code9 186 57 = some (9, .iload 4, [2], .null, []) := rfl
theorem cd186_59 : code9 186 59 = some (0, .ifCond .le 19, [3, 78], .null, []) := rfl
theorem cd186_62 : code9 186 62 = some (0, .ldc2_w 54, [3], .long 27, []) := rfl
theorem cd186_65 : code9 186 65 = some (0, .lload 6, [2], .null, []) := rfl
theorem cd186_67 : code9 186 67 = some (0, .lmul, [1], .null, []) := rfl
theorem cd186_68 : code9 186 68 = some (0, .iload 4, [2], .null, []) := rfl
theorem cd186_70 : code9 186 70 = some (0, .i2l, [1], .null, []) := rfl
theorem cd186_71 : code9 186 71 = some (0, .ladd, [1], .null, []) := rfl
theorem cd186_72 : code9 186 72 = some (0, .ldc2_w 56, [3], .long 96, []) := rfl
theorem cd186_75 : code9 186 75 = some (0, .lsub, [1], .null, []) := rfl
theorem cd186_76 : code9 186 76 = some (0, .lstore 6, [2], .null, []) := rfl
theorem cd186_78 : code9 186 78 = some (9, .iload 5, [2], .null, []) := rfl
theorem cd186_80 : code9 186 80 = some (0, .ifCond .le 19, [3, 99], .null, []) := rfl
theorem cd186_83 : code9 186 83 = some (0, .ldc2_w 54, [3], .long 27, []) := rfl
theorem cd186_86 : code9 186 86 = some (0, .lload 6, [2], .null, []) := rfl
theorem cd186_88 : code9 186 88 = some (0, .lmul, [1], .null, []) := rfl
theorem cd186_89 : code9 186 89 = some (0, .iload 5, [2], .null, []) := rfl
theorem cd186_91 : code9 186 91 = some (0, .i2l, [1], .null, []) := rfl
theorem cd186_92 : code9 186 92 = some (0, .ladd, [1], .null, []) := rfl
theorem cd186_93 : code9 186 93 = some (0, .ldc2_w 56, [3], .long 96, []) := rfl
theorem cd186_96 : code9 186 96 = some (0, .lsub, [1], .null, []) := rfl
theorem cd186_97 : code9 186 97 = some (0, .lstore 6, [2], .null, []) := rfl
theorem cd186_99 : code9 186 99 = some (9, .lload 6, [2], .null, []) := rfl
theorem cd186_101 : code9 186 101 = some (0, .lreturn, [1], .null, []) := rfl
def Mod_spelt (l0 : Int32) (l1 : Int32) (l2 : Int32) (l3 : Int32) (l4 : Int32) (l5 : Int32) : Int64 := if l2 ≤ 0 then (if l3 ≤ 0 then (if l4 ≤ 0 then (if l5 ≤ 0 then (((27 * (l0.toInt64 - 96)) + l1.toInt64) - 96) else (((27 * (((27 * (l0.toInt64 - 96)) + l1.toInt64) - 96)) + l5.toInt64) - 96)) else (if l5 ≤ 0 then (((27 * (((27 * (l0.toInt64 - 96)) + l1.toInt64) - 96)) + l4.toInt64) - 96) else (((27 * (((27 * (((27 * (l0.toInt64 - 96)) + l1.toInt64) - 96)) + l4.toInt64) - 96)) + l5.toInt64) - 96))) else (if l4 ≤ 0 then (if l5 ≤ 0 then (((27 * (((27 * (l0.toInt64 - 96)) + l1.toInt64) - 96)) + l3.toInt64) - 96) else (((27 * (((27 * (((27 * (l0.toInt64 - 96)) + l1.toInt64) - 96)) + l3.toInt64) - 96)) + l5.toInt64) - 96)) else (if l5 ≤ 0 then (((27 * (((27 * (((27 * (l0.toInt64 - 96)) + l1.toInt64) - 96)) + l3.toInt64) - 96)) + l4.toInt64) - 96) else (((27 * (((27 * (((27 * (((27 * (l0.toInt64 - 96)) + l1.toInt64) - 96)) + l3.toInt64) - 96)) + l4.toInt64) - 96)) + l5.toInt64) - 96)))) else (if l3 ≤ 0 then (if l4 ≤ 0 then (if l5 ≤ 0 then (((27 * (((27 * (l0.toInt64 - 96)) + l1.toInt64) - 96)) + l2.toInt64) - 96) else (((27 * (((27 * (((27 * (l0.toInt64 - 96)) + l1.toInt64) - 96)) + l2.toInt64) - 96)) + l5.toInt64) - 96)) else (if l5 ≤ 0 then (((27 * (((27 * (((27 * (l0.toInt64 - 96)) + l1.toInt64) - 96)) + l2.toInt64) - 96)) + l4.toInt64) - 96) else (((27 * (((27 * (((27 * (((27 * (l0.toInt64 - 96)) + l1.toInt64) - 96)) + l2.toInt64) - 96)) + l4.toInt64) - 96)) + l5.toInt64) - 96))) else (if l4 ≤ 0 then (if l5 ≤ 0 then (((27 * (((27 * (((27 * (l0.toInt64 - 96)) + l1.toInt64) - 96)) + l2.toInt64) - 96)) + l3.toInt64) - 96) else (((27 * (((27 * (((27 * (((27 * (l0.toInt64 - 96)) + l1.toInt64) - 96)) + l2.toInt64) - 96)) + l3.toInt64) - 96)) + l5.toInt64) - 96)) else (if l5 ≤ 0 then (((27 * (((27 * (((27 * (((27 * (l0.toInt64 - 96)) + l1.toInt64) - 96)) + l2.toInt64) - 96)) + l3.toInt64) - 96)) + l4.toInt64) - 96) else (((27 * (((27 * (((27 * (((27 * (((27 * (l0.toInt64 - 96)) + l1.toInt64) - 96)) + l2.toInt64) - 96)) + l3.toInt64) - 96)) + l4.toInt64) - 96)) + l5.toInt64) - 96))))
set_option maxRecDepth 8000 in
theorem t_Mod_spelt {d : Nat} {c : Nat × Nat} {S : Nat → Nat × Nat} {P : Nat → Nat → Option Nat} {I : FI} {J : FJ} {l0 : Int32} {l1 : Int32} {l2 : Int32} {l3 : Int32} {l4 : Int32} {l5 : Int32} {r : Int64} (hd : 0 ≤ d) (h : Mod_spelt l0 l1 l2 l3 l4 l5 = r) : Go d M_Mod_spelt 0 [some (.int l0), some (.int l1), some (.int l2), some (.int l3), some (.int l4), some (.int l5), none, none] [] (c, S, I, J, P) (some (.long r), false, (c, S, I, J, P)) := by
  unfold Mod_spelt at h
  refine g_ldc2_w cd186_0 rfl ?_
  refine g_iload_n cd186_3 rfl rfl ?_
  refine g_i2l cd186_4 rfl ?_
  refine g_ldc2_w cd186_5 rfl ?_
  refine g_lsub cd186_8 rfl ?_
  refine g_lmul cd186_9 rfl ?_
  refine g_iload_n cd186_10 rfl rfl ?_
  refine g_i2l cd186_11 rfl ?_
  refine g_ladd cd186_12 rfl ?_
  refine g_ldc2_w cd186_13 rfl ?_
  refine g_lsub cd186_16 rfl ?_
  refine g_lstore (ls2 := [some (.int l0), some (.int l1), some (.int l2), some (.int l3), some (.int l4), some (.int l5), some (.long (((27 * (l0.toInt64 - 96)) + l1.toInt64) - 96)), none]) cd186_17 rfl rfl ?_
  refine g_iload_n cd186_19 rfl rfl ?_
  refine g_if_le cd186_20 rfl (fun hb => ?_) (fun hb => ?_)
  · have h := ifpE hb h
    refine g_iload_n cd186_38 rfl rfl ?_
    refine g_if_le cd186_39 rfl (fun hb => ?_) (fun hb => ?_)
    · have h := ifpE hb h
      refine g_iload cd186_57 rfl rfl ?_
      refine g_if_le cd186_59 rfl (fun hb => ?_) (fun hb => ?_)
      · have h := ifpE hb h
        refine g_iload cd186_78 rfl rfl ?_
        refine g_if_le cd186_80 rfl (fun hb => ?_) (fun hb => ?_)
        · have h := ifpE hb h
          refine g_lload cd186_99 rfl rfl ?_
          exact g_lret cd186_101 (by subst h; rfl)
        · have h := ifnE hb h
          refine g_ldc2_w cd186_83 rfl ?_
          refine g_lload cd186_86 rfl rfl ?_
          refine g_lmul cd186_88 rfl ?_
          refine g_iload cd186_89 rfl rfl ?_
          refine g_i2l cd186_91 rfl ?_
          refine g_ladd cd186_92 rfl ?_
          refine g_ldc2_w cd186_93 rfl ?_
          refine g_lsub cd186_96 rfl ?_
          refine g_lstore (ls2 := [some (.int l0), some (.int l1), some (.int l2), some (.int l3), some (.int l4), some (.int l5), some (.long (((27 * (((27 * (l0.toInt64 - 96)) + l1.toInt64) - 96)) + l5.toInt64) - 96)), none]) cd186_97 rfl rfl ?_
          refine g_lload cd186_99 rfl rfl ?_
          exact g_lret cd186_101 (by subst h; rfl)
      · have h := ifnE hb h
        refine g_ldc2_w cd186_62 rfl ?_
        refine g_lload cd186_65 rfl rfl ?_
        refine g_lmul cd186_67 rfl ?_
        refine g_iload cd186_68 rfl rfl ?_
        refine g_i2l cd186_70 rfl ?_
        refine g_ladd cd186_71 rfl ?_
        refine g_ldc2_w cd186_72 rfl ?_
        refine g_lsub cd186_75 rfl ?_
        refine g_lstore (ls2 := [some (.int l0), some (.int l1), some (.int l2), some (.int l3), some (.int l4), some (.int l5), some (.long (((27 * (((27 * (l0.toInt64 - 96)) + l1.toInt64) - 96)) + l4.toInt64) - 96)), none]) cd186_76 rfl rfl ?_
        refine g_iload cd186_78 rfl rfl ?_
        refine g_if_le cd186_80 rfl (fun hb => ?_) (fun hb => ?_)
        · have h := ifpE hb h
          refine g_lload cd186_99 rfl rfl ?_
          exact g_lret cd186_101 (by subst h; rfl)
        · have h := ifnE hb h
          refine g_ldc2_w cd186_83 rfl ?_
          refine g_lload cd186_86 rfl rfl ?_
          refine g_lmul cd186_88 rfl ?_
          refine g_iload cd186_89 rfl rfl ?_
          refine g_i2l cd186_91 rfl ?_
          refine g_ladd cd186_92 rfl ?_
          refine g_ldc2_w cd186_93 rfl ?_
          refine g_lsub cd186_96 rfl ?_
          refine g_lstore (ls2 := [some (.int l0), some (.int l1), some (.int l2), some (.int l3), some (.int l4), some (.int l5), some (.long (((27 * (((27 * (((27 * (l0.toInt64 - 96)) + l1.toInt64) - 96)) + l4.toInt64) - 96)) + l5.toInt64) - 96)), none]) cd186_97 rfl rfl ?_
          refine g_lload cd186_99 rfl rfl ?_
          exact g_lret cd186_101 (by subst h; rfl)
    · have h := ifnE hb h
      refine g_ldc2_w cd186_42 rfl ?_
      refine g_lload cd186_45 rfl rfl ?_
      refine g_lmul cd186_47 rfl ?_
      refine g_iload_n cd186_48 rfl rfl ?_
      refine g_i2l cd186_49 rfl ?_
      refine g_ladd cd186_50 rfl ?_
      refine g_ldc2_w cd186_51 rfl ?_
      refine g_lsub cd186_54 rfl ?_
      refine g_lstore (ls2 := [some (.int l0), some (.int l1), some (.int l2), some (.int l3), some (.int l4), some (.int l5), some (.long (((27 * (((27 * (l0.toInt64 - 96)) + l1.toInt64) - 96)) + l3.toInt64) - 96)), none]) cd186_55 rfl rfl ?_
      refine g_iload cd186_57 rfl rfl ?_
      refine g_if_le cd186_59 rfl (fun hb => ?_) (fun hb => ?_)
      · have h := ifpE hb h
        refine g_iload cd186_78 rfl rfl ?_
        refine g_if_le cd186_80 rfl (fun hb => ?_) (fun hb => ?_)
        · have h := ifpE hb h
          refine g_lload cd186_99 rfl rfl ?_
          exact g_lret cd186_101 (by subst h; rfl)
        · have h := ifnE hb h
          refine g_ldc2_w cd186_83 rfl ?_
          refine g_lload cd186_86 rfl rfl ?_
          refine g_lmul cd186_88 rfl ?_
          refine g_iload cd186_89 rfl rfl ?_
          refine g_i2l cd186_91 rfl ?_
          refine g_ladd cd186_92 rfl ?_
          refine g_ldc2_w cd186_93 rfl ?_
          refine g_lsub cd186_96 rfl ?_
          refine g_lstore (ls2 := [some (.int l0), some (.int l1), some (.int l2), some (.int l3), some (.int l4), some (.int l5), some (.long (((27 * (((27 * (((27 * (l0.toInt64 - 96)) + l1.toInt64) - 96)) + l3.toInt64) - 96)) + l5.toInt64) - 96)), none]) cd186_97 rfl rfl ?_
          refine g_lload cd186_99 rfl rfl ?_
          exact g_lret cd186_101 (by subst h; rfl)
      · have h := ifnE hb h
        refine g_ldc2_w cd186_62 rfl ?_
        refine g_lload cd186_65 rfl rfl ?_
        refine g_lmul cd186_67 rfl ?_
        refine g_iload cd186_68 rfl rfl ?_
        refine g_i2l cd186_70 rfl ?_
        refine g_ladd cd186_71 rfl ?_
        refine g_ldc2_w cd186_72 rfl ?_
        refine g_lsub cd186_75 rfl ?_
        refine g_lstore (ls2 := [some (.int l0), some (.int l1), some (.int l2), some (.int l3), some (.int l4), some (.int l5), some (.long (((27 * (((27 * (((27 * (l0.toInt64 - 96)) + l1.toInt64) - 96)) + l3.toInt64) - 96)) + l4.toInt64) - 96)), none]) cd186_76 rfl rfl ?_
        refine g_iload cd186_78 rfl rfl ?_
        refine g_if_le cd186_80 rfl (fun hb => ?_) (fun hb => ?_)
        · have h := ifpE hb h
          refine g_lload cd186_99 rfl rfl ?_
          exact g_lret cd186_101 (by subst h; rfl)
        · have h := ifnE hb h
          refine g_ldc2_w cd186_83 rfl ?_
          refine g_lload cd186_86 rfl rfl ?_
          refine g_lmul cd186_88 rfl ?_
          refine g_iload cd186_89 rfl rfl ?_
          refine g_i2l cd186_91 rfl ?_
          refine g_ladd cd186_92 rfl ?_
          refine g_ldc2_w cd186_93 rfl ?_
          refine g_lsub cd186_96 rfl ?_
          refine g_lstore (ls2 := [some (.int l0), some (.int l1), some (.int l2), some (.int l3), some (.int l4), some (.int l5), some (.long (((27 * (((27 * (((27 * (((27 * (l0.toInt64 - 96)) + l1.toInt64) - 96)) + l3.toInt64) - 96)) + l4.toInt64) - 96)) + l5.toInt64) - 96)), none]) cd186_97 rfl rfl ?_
          refine g_lload cd186_99 rfl rfl ?_
          exact g_lret cd186_101 (by subst h; rfl)
  · have h := ifnE hb h
    refine g_ldc2_w cd186_23 rfl ?_
    refine g_lload cd186_26 rfl rfl ?_
    refine g_lmul cd186_28 rfl ?_
    refine g_iload_n cd186_29 rfl rfl ?_
    refine g_i2l cd186_30 rfl ?_
    refine g_ladd cd186_31 rfl ?_
    refine g_ldc2_w cd186_32 rfl ?_
    refine g_lsub cd186_35 rfl ?_
    refine g_lstore (ls2 := [some (.int l0), some (.int l1), some (.int l2), some (.int l3), some (.int l4), some (.int l5), some (.long (((27 * (((27 * (l0.toInt64 - 96)) + l1.toInt64) - 96)) + l2.toInt64) - 96)), none]) cd186_36 rfl rfl ?_
    refine g_iload_n cd186_38 rfl rfl ?_
    refine g_if_le cd186_39 rfl (fun hb => ?_) (fun hb => ?_)
    · have h := ifpE hb h
      refine g_iload cd186_57 rfl rfl ?_
      refine g_if_le cd186_59 rfl (fun hb => ?_) (fun hb => ?_)
      · have h := ifpE hb h
        refine g_iload cd186_78 rfl rfl ?_
        refine g_if_le cd186_80 rfl (fun hb => ?_) (fun hb => ?_)
        · have h := ifpE hb h
          refine g_lload cd186_99 rfl rfl ?_
          exact g_lret cd186_101 (by subst h; rfl)
        · have h := ifnE hb h
          refine g_ldc2_w cd186_83 rfl ?_
          refine g_lload cd186_86 rfl rfl ?_
          refine g_lmul cd186_88 rfl ?_
          refine g_iload cd186_89 rfl rfl ?_
          refine g_i2l cd186_91 rfl ?_
          refine g_ladd cd186_92 rfl ?_
          refine g_ldc2_w cd186_93 rfl ?_
          refine g_lsub cd186_96 rfl ?_
          refine g_lstore (ls2 := [some (.int l0), some (.int l1), some (.int l2), some (.int l3), some (.int l4), some (.int l5), some (.long (((27 * (((27 * (((27 * (l0.toInt64 - 96)) + l1.toInt64) - 96)) + l2.toInt64) - 96)) + l5.toInt64) - 96)), none]) cd186_97 rfl rfl ?_
          refine g_lload cd186_99 rfl rfl ?_
          exact g_lret cd186_101 (by subst h; rfl)
      · have h := ifnE hb h
        refine g_ldc2_w cd186_62 rfl ?_
        refine g_lload cd186_65 rfl rfl ?_
        refine g_lmul cd186_67 rfl ?_
        refine g_iload cd186_68 rfl rfl ?_
        refine g_i2l cd186_70 rfl ?_
        refine g_ladd cd186_71 rfl ?_
        refine g_ldc2_w cd186_72 rfl ?_
        refine g_lsub cd186_75 rfl ?_
        refine g_lstore (ls2 := [some (.int l0), some (.int l1), some (.int l2), some (.int l3), some (.int l4), some (.int l5), some (.long (((27 * (((27 * (((27 * (l0.toInt64 - 96)) + l1.toInt64) - 96)) + l2.toInt64) - 96)) + l4.toInt64) - 96)), none]) cd186_76 rfl rfl ?_
        refine g_iload cd186_78 rfl rfl ?_
        refine g_if_le cd186_80 rfl (fun hb => ?_) (fun hb => ?_)
        · have h := ifpE hb h
          refine g_lload cd186_99 rfl rfl ?_
          exact g_lret cd186_101 (by subst h; rfl)
        · have h := ifnE hb h
          refine g_ldc2_w cd186_83 rfl ?_
          refine g_lload cd186_86 rfl rfl ?_
          refine g_lmul cd186_88 rfl ?_
          refine g_iload cd186_89 rfl rfl ?_
          refine g_i2l cd186_91 rfl ?_
          refine g_ladd cd186_92 rfl ?_
          refine g_ldc2_w cd186_93 rfl ?_
          refine g_lsub cd186_96 rfl ?_
          refine g_lstore (ls2 := [some (.int l0), some (.int l1), some (.int l2), some (.int l3), some (.int l4), some (.int l5), some (.long (((27 * (((27 * (((27 * (((27 * (l0.toInt64 - 96)) + l1.toInt64) - 96)) + l2.toInt64) - 96)) + l4.toInt64) - 96)) + l5.toInt64) - 96)), none]) cd186_97 rfl rfl ?_
          refine g_lload cd186_99 rfl rfl ?_
          exact g_lret cd186_101 (by subst h; rfl)
    · have h := ifnE hb h
      refine g_ldc2_w cd186_42 rfl ?_
      refine g_lload cd186_45 rfl rfl ?_
      refine g_lmul cd186_47 rfl ?_
      refine g_iload_n cd186_48 rfl rfl ?_
      refine g_i2l cd186_49 rfl ?_
      refine g_ladd cd186_50 rfl ?_
      refine g_ldc2_w cd186_51 rfl ?_
      refine g_lsub cd186_54 rfl ?_
      refine g_lstore (ls2 := [some (.int l0), some (.int l1), some (.int l2), some (.int l3), some (.int l4), some (.int l5), some (.long (((27 * (((27 * (((27 * (l0.toInt64 - 96)) + l1.toInt64) - 96)) + l2.toInt64) - 96)) + l3.toInt64) - 96)), none]) cd186_55 rfl rfl ?_
      refine g_iload cd186_57 rfl rfl ?_
      refine g_if_le cd186_59 rfl (fun hb => ?_) (fun hb => ?_)
      · have h := ifpE hb h
        refine g_iload cd186_78 rfl rfl ?_
        refine g_if_le cd186_80 rfl (fun hb => ?_) (fun hb => ?_)
        · have h := ifpE hb h
          refine g_lload cd186_99 rfl rfl ?_
          exact g_lret cd186_101 (by subst h; rfl)
        · have h := ifnE hb h
          refine g_ldc2_w cd186_83 rfl ?_
          refine g_lload cd186_86 rfl rfl ?_
          refine g_lmul cd186_88 rfl ?_
          refine g_iload cd186_89 rfl rfl ?_
          refine g_i2l cd186_91 rfl ?_
          refine g_ladd cd186_92 rfl ?_
          refine g_ldc2_w cd186_93 rfl ?_
          refine g_lsub cd186_96 rfl ?_
          refine g_lstore (ls2 := [some (.int l0), some (.int l1), some (.int l2), some (.int l3), some (.int l4), some (.int l5), some (.long (((27 * (((27 * (((27 * (((27 * (l0.toInt64 - 96)) + l1.toInt64) - 96)) + l2.toInt64) - 96)) + l3.toInt64) - 96)) + l5.toInt64) - 96)), none]) cd186_97 rfl rfl ?_
          refine g_lload cd186_99 rfl rfl ?_
          exact g_lret cd186_101 (by subst h; rfl)
      · have h := ifnE hb h
        refine g_ldc2_w cd186_62 rfl ?_
        refine g_lload cd186_65 rfl rfl ?_
        refine g_lmul cd186_67 rfl ?_
        refine g_iload cd186_68 rfl rfl ?_
        refine g_i2l cd186_70 rfl ?_
        refine g_ladd cd186_71 rfl ?_
        refine g_ldc2_w cd186_72 rfl ?_
        refine g_lsub cd186_75 rfl ?_
        refine g_lstore (ls2 := [some (.int l0), some (.int l1), some (.int l2), some (.int l3), some (.int l4), some (.int l5), some (.long (((27 * (((27 * (((27 * (((27 * (l0.toInt64 - 96)) + l1.toInt64) - 96)) + l2.toInt64) - 96)) + l3.toInt64) - 96)) + l4.toInt64) - 96)), none]) cd186_76 rfl rfl ?_
        refine g_iload cd186_78 rfl rfl ?_
        refine g_if_le cd186_80 rfl (fun hb => ?_) (fun hb => ?_)
        · have h := ifpE hb h
          refine g_lload cd186_99 rfl rfl ?_
          exact g_lret cd186_101 (by subst h; rfl)
        · have h := ifnE hb h
          refine g_ldc2_w cd186_83 rfl ?_
          refine g_lload cd186_86 rfl rfl ?_
          refine g_lmul cd186_88 rfl ?_
          refine g_iload cd186_89 rfl rfl ?_
          refine g_i2l cd186_91 rfl ?_
          refine g_ladd cd186_92 rfl ?_
          refine g_ldc2_w cd186_93 rfl ?_
          refine g_lsub cd186_96 rfl ?_
          refine g_lstore (ls2 := [some (.int l0), some (.int l1), some (.int l2), some (.int l3), some (.int l4), some (.int l5), some (.long (((27 * (((27 * (((27 * (((27 * (((27 * (l0.toInt64 - 96)) + l1.toInt64) - 96)) + l2.toInt64) - 96)) + l3.toInt64) - 96)) + l4.toInt64) - 96)) + l5.toInt64) - 96)), none]) cd186_97 rfl rfl ?_
          refine g_lload cd186_99 rfl rfl ?_
          exact g_lret cd186_101 (by subst h; rfl)
/-! HiddenOrLostModel.wordOf(I)J -/
theorem cd185_0 : code9 185 0 = some (0, .iload_n 0, [1], .null, []) := rfl
theorem cd185_1 : code9 185 1 = some (0, .tableswitch 638 0 33 #[151, 166, 182, 196, 210, 224, 240, 254, 270, 285, 299, 313, 329, 344, 358, 372, 386, 401, 417, 432, 444, 457, 470, 486, 501, 515, 529, 543, 556, 569, 583, 595, 609, 624], [151, 639], .null, [(0, 152), (1, 167), (2, 183), (3, 197), (4, 211), (5, 225), (6, 241), (7, 255), (8, 271), (9, 286), (10, 300), (11, 314), (12, 330), (13, 345), (14, 359), (15, 373), (16, 387), (17, 402), (18, 418), (19, 433), (20, 445), (21, 458), (22, 471), (23, 487), (24, 502), (25, 516), (26, 530), (27, 544), (28, 557), (29, 570), (30, 584), (31, 596), (32, 610), (33, 625)]) := rfl
theorem cd185_152 : code9 185 152 = some (0, .bipush 102, [2], .int 102, []) := rfl
theorem cd185_154 : code9 185 154 = some (0, .bipush 105, [2], .int 105, []) := rfl
theorem cd185_156 : code9 185 156 = some (0, .bipush 101, [2], .int 101, []) := rfl
theorem cd185_158 : code9 185 158 = some (0, .bipush 108, [2], .int 108, []) := rfl
theorem cd185_160 : code9 185 160 = some (0, .bipush 100, [2], .int 100, []) := rfl
theorem cd185_162 : code9 185 162 = some (0, .iconst 0, [1], .int 0, []) := rfl
theorem cd185_163 : code9 185 163 = some (0, .invokestatic 58, [3, 186, 6, 0, 2, 8, 12, 0], .null, []) := rfl
theorem cd185_166 : code9 185 166 = some (0, .lreturn, [1], .null, []) := rfl
theorem cd185_167 : code9 185 167 = some (0, .bipush 112, [2], .int 112, []) := rfl
theorem cd185_169 : code9 185 169 = some (0, .bipush 101, [2], .int 101, []) := rfl
theorem cd185_171 : code9 185 171 = some (0, .bipush 114, [2], .int 114, []) := rfl
theorem cd185_173 : code9 185 173 = some (0, .bipush 115, [2], .int 115, []) := rfl
theorem cd185_175 : code9 185 175 = some (0, .bipush 111, [2], .int 111, []) := rfl
theorem cd185_177 : code9 185 177 = some (0, .bipush 110, [2], .int 110, []) := rfl
theorem cd185_179 : code9 185 179 = some (0, .invokestatic 58, [3, 186, 6, 0, 2, 8, 12, 0], .null, []) := rfl
theorem cd185_182 : code9 185 182 = some (0, .lreturn, [1], .null, []) := rfl
theorem cd185_183 : code9 185 183 = some (0, .bipush 102, [2], .int 102, []) := rfl
theorem cd185_185 : code9 185 185 = some (0, .bipush 105, [2], .int 105, []) := rfl
theorem cd185_187 : code9 185 187 = some (0, .bipush 110, [2], .int 110, []) := rfl
theorem cd185_189 : code9 185 189 = some (0, .bipush 100, [2], .int 100, []) := rfl
theorem cd185_191 : code9 185 191 = some (0, .iconst 0, [1], .int 0, []) := rfl
theorem cd185_192 : code9 185 192 = some (0, .iconst 0, [1], .int 0, []) := rfl
theorem cd185_193 : code9 185 193 = some (0, .invokestatic 58, [3, 186, 6, 0, 2, 8, 12, 0], .null, []) := rfl
theorem cd185_196 : code9 185 196 = some (0, .lreturn, [1], .null, []) := rfl
theorem cd185_197 : code9 185 197 = some (0, .bipush 102, [2], .int 102, []) := rfl
theorem cd185_199 : code9 185 199 = some (0, .bipush 101, [2], .int 101, []) := rfl
theorem cd185_201 : code9 185 201 = some (0, .bipush 97, [2], .int 97, []) := rfl
theorem cd185_203 : code9 185 203 = some (0, .bipush 114, [2], .int 114, []) := rfl
theorem cd185_205 : code9 185 205 = some (0, .iconst 0, [1], .int 0, []) := rfl
theorem cd185_206 : code9 185 206 = some (0, .iconst 0, [1], .int 0, []) := rfl
theorem cd185_207 : code9 185 207 = some (0, .invokestatic 58, [3, 186, 6, 0, 2, 8, 12, 0], .null, []) := rfl
theorem cd185_210 : code9 185 210 = some (0, .lreturn, [1], .null, []) := rfl
theorem cd185_211 : code9 185 211 = some (0, .bipush 104, [2], .int 104, []) := rfl
theorem cd185_213 : code9 185 213 = some (0, .bipush 105, [2], .int 105, []) := rfl
theorem cd185_215 : code9 185 215 = some (0, .bipush 110, [2], .int 110, []) := rfl
theorem cd185_217 : code9 185 217 = some (0, .bipush 116, [2], .int 116, []) := rfl
theorem cd185_219 : code9 185 219 = some (0, .iconst 0, [1], .int 0, []) := rfl
theorem cd185_220 : code9 185 220 = some (0, .iconst 0, [1], .int 0, []) := rfl
theorem cd185_221 : code9 185 221 = some (0, .invokestatic 58, [3, 186, 6, 0, 2, 8, 12, 0], .null, []) := rfl
theorem cd185_224 : code9 185 224 = some (0, .lreturn, [1], .null, []) := rfl
theorem cd185_225 : code9 185 225 = some (0, .bipush 104, [2], .int 104, []) := rfl
theorem cd185_227 : code9 185 227 = some (0, .bipush 105, [2], .int 105, []) := rfl
theorem cd185_229 : code9 185 229 = some (0, .bipush 100, [2], .int 100, []) := rfl
theorem cd185_231 : code9 185 231 = some (0, .bipush 100, [2], .int 100, []) := rfl
theorem cd185_233 : code9 185 233 = some (0, .bipush 101, [2], .int 101, []) := rfl
theorem cd185_235 : code9 185 235 = some (0, .bipush 110, [2], .int 110, []) := rfl
theorem cd185_237 : code9 185 237 = some (0, .invokestatic 58, [3, 186, 6, 0, 2, 8, 12, 0], .null, []) := rfl
theorem cd185_240 : code9 185 240 = some (0, .lreturn, [1], .null, []) := rfl
theorem cd185_241 : code9 185 241 = some (0, .bipush 108, [2], .int 108, []) := rfl
theorem cd185_243 : code9 185 243 = some (0, .bipush 111, [2], .int 111, []) := rfl
theorem cd185_245 : code9 185 245 = some (0, .bipush 115, [2], .int 115, []) := rfl
theorem cd185_247 : code9 185 247 = some (0, .bipush 116, [2], .int 116, []) := rfl
theorem cd185_249 : code9 185 249 = some (0, .iconst 0, [1], .int 0, []) := rfl
theorem cd185_250 : code9 185 250 = some (0, .iconst 0, [1], .int 0, []) := rfl
theorem cd185_251 : code9 185 251 = some (0, .invokestatic 58, [3, 186, 6, 0, 2, 8, 12, 0], .null, []) := rfl
theorem cd185_254 : code9 185 254 = some (0, .lreturn, [1], .null, []) := rfl
theorem cd185_255 : code9 185 255 = some (0, .bipush 98, [2], .int 98, []) := rfl
theorem cd185_257 : code9 185 257 = some (0, .bipush 117, [2], .int 117, []) := rfl
theorem cd185_259 : code9 185 259 = some (0, .bipush 114, [2], .int 114, []) := rfl
theorem cd185_261 : code9 185 261 = some (0, .bipush 105, [2], .int 105, []) := rfl
theorem cd185_263 : code9 185 263 = some (0, .bipush 101, [2], .int 101, []) := rfl
theorem cd185_265 : code9 185 265 = some (0, .bipush 100, [2], .int 100, []) := rfl
theorem cd185_267 : code9 185 267 = some (0, .invokestatic 58, [3, 186, 6, 0, 2, 8, 12, 0], .null, []) := rfl
theorem cd185_270 : code9 185 270 = some (0, .lreturn, [1], .null, []) := rfl
theorem cd185_271 : code9 185 271 = some (0, .bipush 112, [2], .int 112, []) := rfl
theorem cd185_273 : code9 185 273 = some (0, .bipush 114, [2], .int 114, []) := rfl
theorem cd185_275 : code9 185 275 = some (0, .bipush 105, [2], .int 105, []) := rfl
theorem cd185_277 : code9 185 277 = some (0, .bipush 111, [2], .int 111, []) := rfl
theorem cd185_279 : code9 185 279 = some (0, .bipush 114, [2], .int 114, []) := rfl
theorem cd185_281 : code9 185 281 = some (0, .iconst 0, [1], .int 0, []) := rfl
theorem cd185_282 : code9 185 282 = some (0, .invokestatic 58, [3, 186, 6, 0, 2, 8, 12, 0], .null, []) := rfl
theorem cd185_285 : code9 185 285 = some (0, .lreturn, [1], .null, []) := rfl
theorem cd185_286 : code9 185 286 = some (0, .bipush 103, [2], .int 103, []) := rfl
theorem cd185_288 : code9 185 288 = some (0, .bipush 101, [2], .int 101, []) := rfl
theorem cd185_290 : code9 185 290 = some (0, .bipush 116, [2], .int 116, []) := rfl
theorem cd185_292 : code9 185 292 = some (0, .bipush 115, [2], .int 115, []) := rfl
theorem cd185_294 : code9 185 294 = some (0, .iconst 0, [1], .int 0, []) := rfl
theorem cd185_295 : code9 185 295 = some (0, .iconst 0, [1], .int 0, []) := rfl
theorem cd185_296 : code9 185 296 = some (0, .invokestatic 58, [3, 186, 6, 0, 2, 8, 12, 0], .null, []) := rfl
theorem cd185_299 : code9 185 299 = some (0, .lreturn, [1], .null, []) := rfl
theorem cd185_300 : code9 185 300 = some (0, .bipush 107, [2], .int 107, []) := rfl
theorem cd185_302 : code9 185 302 = some (0, .bipush 105, [2], .int 105, []) := rfl
theorem cd185_304 : code9 185 304 = some (0, .bipush 110, [2], .int 110, []) := rfl
theorem cd185_306 : code9 185 306 = some (0, .bipush 103, [2], .int 103, []) := rfl
theorem cd185_308 : code9 185 308 = some (0, .iconst 0, [1], .int 0, []) := rfl
theorem cd185_309 : code9 185 309 = some (0, .iconst 0, [1], .int 0, []) := rfl
theorem cd185_310 : code9 185 310 = some (0, .invokestatic 58, [3, 186, 6, 0, 2, 8, 12, 0], .null, []) := rfl
theorem cd185_313 : code9 185 313 = some (0, .lreturn, [1], .null, []) := rfl
theorem cd185_314 : code9 185 314 = some (0, .bipush 102, [2], .int 102, []) := rfl
theorem cd185_316 : code9 185 316 = some (0, .bipush 105, [2], .int 105, []) := rfl
theorem cd185_318 : code9 185 318 = some (0, .bipush 110, [2], .int 110, []) := rfl
theorem cd185_320 : code9 185 320 = some (0, .bipush 100, [2], .int 100, []) := rfl
theorem cd185_322 : code9 185 322 = some (0, .bipush 101, [2], .int 101, []) := rfl
theorem cd185_324 : code9 185 324 = some (0, .bipush 114, [2], .int 114, []) := rfl
theorem cd185_326 : code9 185 326 = some (0, .invokestatic 58, [3, 186, 6, 0, 2, 8, 12, 0], .null, []) := rfl
theorem cd185_329 : code9 185 329 = some (0, .lreturn, [1], .null, []) := rfl
theorem cd185_330 : code9 185 330 = some (0, .bipush 111, [2], .int 111, []) := rfl
theorem cd185_332 : code9 185 332 = some (0, .bipush 119, [2], .int 119, []) := rfl
theorem cd185_334 : code9 185 334 = some (0, .bipush 110, [2], .int 110, []) := rfl
theorem cd185_336 : code9 185 336 = some (0, .bipush 101, [2], .int 101, []) := rfl
theorem cd185_338 : code9 185 338 = some (0, .bipush 114, [2], .int 114, []) := rfl
theorem cd185_340 : code9 185 340 = some (0, .iconst 0, [1], .int 0, []) := rfl
theorem cd185_341 : code9 185 341 = some (0, .invokestatic 58, [3, 186, 6, 0, 2, 8, 12, 0], .null, []) := rfl
theorem cd185_344 : code9 185 344 = some (0, .lreturn, [1], .null, []) := rfl
theorem cd185_345 : code9 185 345 = some (0, .bipush 114, [2], .int 114, []) := rfl
theorem cd185_347 : code9 185 347 = some (0, .bipush 105, [2], .int 105, []) := rfl
theorem cd185_349 : code9 185 349 = some (0, .bipush 115, [2], .int 115, []) := rfl
theorem cd185_351 : code9 185 351 = some (0, .bipush 107, [2], .int 107, []) := rfl
theorem cd185_353 : code9 185 353 = some (0, .iconst 0, [1], .int 0, []) := rfl
theorem cd185_354 : code9 185 354 = some (0, .iconst 0, [1], .int 0, []) := rfl
theorem cd185_355 : code9 185 355 = some (0, .invokestatic 58, [3, 186, 6, 0, 2, 8, 12, 0], .null, []) := rfl
theorem cd185_358 : code9 185 358 = some (0, .lreturn, [1], .null, []) := rfl
theorem cd185_359 : code9 185 359 = some (0, .bipush 100, [2], .int 100, []) := rfl
theorem cd185_361 : code9 185 361 = some (0, .bipush 105, [2], .int 105, []) := rfl
theorem cd185_363 : code9 185 363 = some (0, .bipush 103, [2], .int 103, []) := rfl
theorem cd185_365 : code9 185 365 = some (0, .bipush 115, [2], .int 115, []) := rfl
theorem cd185_367 : code9 185 367 = some (0, .iconst 0, [1], .int 0, []) := rfl
theorem cd185_368 : code9 185 368 = some (0, .iconst 0, [1], .int 0, []) := rfl
theorem cd185_369 : code9 185 369 = some (0, .invokestatic 58, [3, 186, 6, 0, 2, 8, 12, 0], .null, []) := rfl
theorem cd185_372 : code9 185 372 = some (0, .lreturn, [1], .null, []) := rfl
theorem cd185_373 : code9 185 373 = some (0, .bipush 108, [2], .int 108, []) := rfl
theorem cd185_375 : code9 185 375 = some (0, .bipush 97, [2], .int 97, []) := rfl
theorem cd185_377 : code9 185 377 = some (0, .bipush 105, [2], .int 105, []) := rfl
theorem cd185_379 : code9 185 379 = some (0, .bipush 100, [2], .int 100, []) := rfl
theorem cd185_381 : code9 185 381 = some (0, .iconst 0, [1], .int 0, []) := rfl
theorem cd185_382 : code9 185 382 = some (0, .iconst 0, [1], .int 0, []) := rfl
theorem cd185_383 : code9 185 383 = some (0, .invokestatic 58, [3, 186, 6, 0, 2, 8, 12, 0], .null, []) := rfl
theorem cd185_386 : code9 185 386 = some (0, .lreturn, [1], .null, []) := rfl
theorem cd185_387 : code9 185 387 = some (0, .bipush 103, [2], .int 103, []) := rfl
theorem cd185_389 : code9 185 389 = some (0, .bipush 105, [2], .int 105, []) := rfl
theorem cd185_391 : code9 185 391 = some (0, .bipush 118, [2], .int 118, []) := rfl
theorem cd185_393 : code9 185 393 = some (0, .bipush 101, [2], .int 101, []) := rfl
theorem cd185_395 : code9 185 395 = some (0, .bipush 110, [2], .int 110, []) := rfl
theorem cd185_397 : code9 185 397 = some (0, .iconst 0, [1], .int 0, []) := rfl
theorem cd185_398 : code9 185 398 = some (0, .invokestatic 58, [3, 186, 6, 0, 2, 8, 12, 0], .null, []) := rfl
theorem cd185_401 : code9 185 401 = some (0, .lreturn, [1], .null, []) := rfl
theorem cd185_402 : code9 185 402 = some (0, .bipush 112, [2], .int 112, []) := rfl
theorem cd185_404 : code9 185 404 = some (0, .bipush 108, [2], .int 108, []) := rfl
theorem cd185_406 : code9 185 406 = some (0, .bipush 111, [2], .int 111, []) := rfl
theorem cd185_408 : code9 185 408 = some (0, .bipush 117, [2], .int 117, []) := rfl
theorem cd185_410 : code9 185 410 = some (0, .bipush 103, [2], .int 103, []) := rfl
theorem cd185_412 : code9 185 412 = some (0, .bipush 104, [2], .int 104, []) := rfl
theorem cd185_414 : code9 185 414 = some (0, .invokestatic 58, [3, 186, 6, 0, 2, 8, 12, 0], .null, []) := rfl
theorem cd185_417 : code9 185 417 = some (0, .lreturn, [1], .null, []) := rfl
theorem cd185_418 : code9 185 418 = some (0, .bipush 110, [2], .int 110, []) := rfl
theorem cd185_420 : code9 185 420 = some (0, .bipush 105, [2], .int 105, []) := rfl
theorem cd185_422 : code9 185 422 = some (0, .bipush 103, [2], .int 103, []) := rfl
theorem cd185_424 : code9 185 424 = some (0, .bipush 104, [2], .int 104, []) := rfl
theorem cd185_426 : code9 185 426 = some (0, .bipush 116, [2], .int 116, []) := rfl
theorem cd185_428 : code9 185 428 = some (0, .iconst 0, [1], .int 0, []) := rfl
theorem cd185_429 : code9 185 429 = some (0, .invokestatic 58, [3, 186, 6, 0, 2, 8, 12, 0], .null, []) := rfl
theorem cd185_432 : code9 185 432 = some (0, .lreturn, [1], .null, []) := rfl
theorem cd185_433 : code9 185 433 = some (0, .bipush 111, [2], .int 111, []) := rfl
theorem cd185_435 : code9 185 435 = some (0, .bipush 114, [2], .int 114, []) := rfl
theorem cd185_437 : code9 185 437 = some (0, .iconst 0, [1], .int 0, []) := rfl
theorem cd185_438 : code9 185 438 = some (0, .iconst 0, [1], .int 0, []) := rfl
theorem cd185_439 : code9 185 439 = some (0, .iconst 0, [1], .int 0, []) := rfl
theorem cd185_440 : code9 185 440 = some (0, .iconst 0, [1], .int 0, []) := rfl
theorem cd185_441 : code9 185 441 = some (0, .invokestatic 58, [3, 186, 6, 0, 2, 8, 12, 0], .null, []) := rfl
theorem cd185_444 : code9 185 444 = some (0, .lreturn, [1], .null, []) := rfl
theorem cd185_445 : code9 185 445 = some (0, .bipush 97, [2], .int 97, []) := rfl
theorem cd185_447 : code9 185 447 = some (0, .bipush 110, [2], .int 110, []) := rfl
theorem cd185_449 : code9 185 449 = some (0, .bipush 100, [2], .int 100, []) := rfl
theorem cd185_451 : code9 185 451 = some (0, .iconst 0, [1], .int 0, []) := rfl
theorem cd185_452 : code9 185 452 = some (0, .iconst 0, [1], .int 0, []) := rfl
theorem cd185_453 : code9 185 453 = some (0, .iconst 0, [1], .int 0, []) := rfl
theorem cd185_454 : code9 185 454 = some (0, .invokestatic 58, [3, 186, 6, 0, 2, 8, 12, 0], .null, []) := rfl
theorem cd185_457 : code9 185 457 = some (0, .lreturn, [1], .null, []) := rfl
theorem cd185_458 : code9 185 458 = some (0, .bipush 110, [2], .int 110, []) := rfl
theorem cd185_460 : code9 185 460 = some (0, .bipush 111, [2], .int 111, []) := rfl
theorem cd185_462 : code9 185 462 = some (0, .bipush 116, [2], .int 116, []) := rfl
theorem cd185_464 : code9 185 464 = some (0, .iconst 0, [1], .int 0, []) := rfl
theorem cd185_465 : code9 185 465 = some (0, .iconst 0, [1], .int 0, []) := rfl
theorem cd185_466 : code9 185 466 = some (0, .iconst 0, [1], .int 0, []) := rfl
theorem cd185_467 : code9 185 467 = some (0, .invokestatic 58, [3, 186, 6, 0, 2, 8, 12, 0], .null, []) := rfl
theorem cd185_470 : code9 185 470 = some (0, .lreturn, [1], .null, []) := rfl
theorem cd185_471 : code9 185 471 = some (0, .bipush 103, [2], .int 103, []) := rfl
theorem cd185_473 : code9 185 473 = some (0, .bipush 114, [2], .int 114, []) := rfl
theorem cd185_475 : code9 185 475 = some (0, .bipush 111, [2], .int 111, []) := rfl
theorem cd185_477 : code9 185 477 = some (0, .bipush 117, [2], .int 117, []) := rfl
theorem cd185_479 : code9 185 479 = some (0, .bipush 110, [2], .int 110, []) := rfl
theorem cd185_481 : code9 185 481 = some (0, .bipush 100, [2], .int 100, []) := rfl
theorem cd185_483 : code9 185 483 = some (0, .invokestatic 58, [3, 186, 6, 0, 2, 8, 12, 0], .null, []) := rfl
theorem cd185_486 : code9 185 486 = some (0, .lreturn, [1], .null, []) := rfl
theorem cd185_487 : code9 185 487 = some (0, .bipush 102, [2], .int 102, []) := rfl
theorem cd185_489 : code9 185 489 = some (0, .bipush 111, [2], .int 111, []) := rfl
theorem cd185_491 : code9 185 491 = some (0, .bipush 117, [2], .int 117, []) := rfl
theorem cd185_493 : code9 185 493 = some (0, .bipush 110, [2], .int 110, []) := rfl
theorem cd185_495 : code9 185 495 = some (0, .bipush 100, [2], .int 100, []) := rfl
theorem cd185_497 : code9 185 497 = some (0, .iconst 0, [1], .int 0, []) := rfl
theorem cd185_498 : code9 185 498 = some (0, .invokestatic 58, [3, 186, 6, 0, 2, 8, 12, 0], .null, []) := rfl
theorem cd185_501 : code9 185 501 = some (0, .lreturn, [1], .null, []) := rfl
theorem cd185_502 : code9 185 502 = some (0, .bipush 116, [2], .int 116, []) := rfl
theorem cd185_504 : code9 185 504 = some (0, .bipush 111, [2], .int 111, []) := rfl
theorem cd185_506 : code9 185 506 = some (0, .bipush 108, [2], .int 108, []) := rfl
theorem cd185_508 : code9 185 508 = some (0, .bipush 100, [2], .int 100, []) := rfl
theorem cd185_510 : code9 185 510 = some (0, .iconst 0, [1], .int 0, []) := rfl
theorem cd185_511 : code9 185 511 = some (0, .iconst 0, [1], .int 0, []) := rfl
theorem cd185_512 : code9 185 512 = some (0, .invokestatic 58, [3, 186, 6, 0, 2, 8, 12, 0], .null, []) := rfl
theorem cd185_515 : code9 185 515 = some (0, .lreturn, [1], .null, []) := rfl
theorem cd185_516 : code9 185 516 = some (0, .bipush 115, [2], .int 115, []) := rfl
theorem cd185_518 : code9 185 518 = some (0, .bipush 111, [2], .int 111, []) := rfl
theorem cd185_520 : code9 185 520 = some (0, .bipush 108, [2], .int 108, []) := rfl
theorem cd185_522 : code9 185 522 = some (0, .bipush 100, [2], .int 100, []) := rfl
theorem cd185_524 : code9 185 524 = some (0, .iconst 0, [1], .int 0, []) := rfl
theorem cd185_525 : code9 185 525 = some (0, .iconst 0, [1], .int 0, []) := rfl
theorem cd185_526 : code9 185 526 = some (0, .invokestatic 58, [3, 186, 6, 0, 2, 8, 12, 0], .null, []) := rfl
theorem cd185_529 : code9 185 529 = some (0, .lreturn, [1], .null, []) := rfl
theorem cd185_530 : code9 185 530 = some (0, .bipush 99, [2], .int 99, []) := rfl
theorem cd185_532 : code9 185 532 = some (0, .bipush 111, [2], .int 111, []) := rfl
theorem cd185_534 : code9 185 534 = some (0, .bipush 105, [2], .int 105, []) := rfl
theorem cd185_536 : code9 185 536 = some (0, .bipush 110, [2], .int 110, []) := rfl
theorem cd185_538 : code9 185 538 = some (0, .iconst 0, [1], .int 0, []) := rfl
theorem cd185_539 : code9 185 539 = some (0, .iconst 0, [1], .int 0, []) := rfl
theorem cd185_540 : code9 185 540 = some (0, .invokestatic 58, [3, 186, 6, 0, 2, 8, 12, 0], .null, []) := rfl
theorem cd185_543 : code9 185 543 = some (0, .lreturn, [1], .null, []) := rfl
theorem cd185_544 : code9 185 544 = some (0, .bipush 112, [2], .int 112, []) := rfl
theorem cd185_546 : code9 185 546 = some (0, .bipush 111, [2], .int 111, []) := rfl
theorem cd185_548 : code9 185 548 = some (0, .bipush 116, [2], .int 116, []) := rfl
theorem cd185_550 : code9 185 550 = some (0, .iconst 0, [1], .int 0, []) := rfl
theorem cd185_551 : code9 185 551 = some (0, .iconst 0, [1], .int 0, []) := rfl
theorem cd185_552 : code9 185 552 = some (0, .iconst 0, [1], .int 0, []) := rfl
theorem cd185_553 : code9 185 553 = some (0, .invokestatic 58, [3, 186, 6, 0, 2, 8, 12, 0], .null, []) := rfl
theorem cd185_556 : code9 185 556 = some (0, .lreturn, [1], .null, []) := rfl
theorem cd185_557 : code9 185 557 = some (0, .bipush 108, [2], .int 108, []) := rfl
theorem cd185_559 : code9 185 559 = some (0, .bipush 105, [2], .int 105, []) := rfl
theorem cd185_561 : code9 185 561 = some (0, .bipush 100, [2], .int 100, []) := rfl
theorem cd185_563 : code9 185 563 = some (0, .iconst 0, [1], .int 0, []) := rfl
theorem cd185_564 : code9 185 564 = some (0, .iconst 0, [1], .int 0, []) := rfl
theorem cd185_565 : code9 185 565 = some (0, .iconst 0, [1], .int 0, []) := rfl
theorem cd185_566 : code9 185 566 = some (0, .invokestatic 58, [3, 186, 6, 0, 2, 8, 12, 0], .null, []) := rfl
theorem cd185_569 : code9 185 569 = some (0, .lreturn, [1], .null, []) := rfl
theorem cd185_570 : code9 185 570 = some (0, .bipush 98, [2], .int 98, []) := rfl
theorem cd185_572 : code9 185 572 = some (0, .bipush 111, [2], .int 111, []) := rfl
theorem cd185_574 : code9 185 574 = some (0, .bipush 110, [2], .int 110, []) := rfl
theorem cd185_576 : code9 185 576 = some (0, .bipush 101, [2], .int 101, []) := rfl
theorem cd185_578 : code9 185 578 = some (0, .iconst 0, [1], .int 0, []) := rfl
theorem cd185_579 : code9 185 579 = some (0, .iconst 0, [1], .int 0, []) := rfl
theorem cd185_580 : code9 185 580 = some (0, .invokestatic 58, [3, 186, 6, 0, 2, 8, 12, 0], .null, []) := rfl
theorem cd185_583 : code9 185 583 = some (0, .lreturn, [1], .null, []) := rfl
theorem cd185_584 : code9 185 584 = some (0, .bipush 111, [2], .int 111, []) := rfl
theorem cd185_586 : code9 185 586 = some (0, .bipush 102, [2], .int 102, []) := rfl
theorem cd185_588 : code9 185 588 = some (0, .iconst 0, [1], .int 0, []) := rfl
theorem cd185_589 : code9 185 589 = some (0, .iconst 0, [1], .int 0, []) := rfl
theorem cd185_590 : code9 185 590 = some (0, .iconst 0, [1], .int 0, []) := rfl
theorem cd185_591 : code9 185 591 = some (0, .iconst 0, [1], .int 0, []) := rfl
theorem cd185_592 : code9 185 592 = some (0, .invokestatic 58, [3, 186, 6, 0, 2, 8, 12, 0], .null, []) := rfl
theorem cd185_595 : code9 185 595 = some (0, .lreturn, [1], .null, []) := rfl
theorem cd185_596 : code9 185 596 = some (0, .bipush 121, [2], .int 121, []) := rfl
theorem cd185_598 : code9 185 598 = some (0, .bipush 101, [2], .int 101, []) := rfl
theorem cd185_600 : code9 185 600 = some (0, .bipush 97, [2], .int 97, []) := rfl
theorem cd185_602 : code9 185 602 = some (0, .bipush 114, [2], .int 114, []) := rfl
theorem cd185_604 : code9 185 604 = some (0, .iconst 0, [1], .int 0, []) := rfl
theorem cd185_605 : code9 185 605 = some (0, .iconst 0, [1], .int 0, []) := rfl
theorem cd185_606 : code9 185 606 = some (0, .invokestatic 58, [3, 186, 6, 0, 2, 8, 12, 0], .null, []) := rfl
theorem cd185_609 : code9 185 609 = some (0, .lreturn, [1], .null, []) := rfl
theorem cd185_610 : code9 185 610 = some (0, .bipush 118, [2], .int 118, []) := rfl
theorem cd185_612 : code9 185 612 = some (0, .bipush 97, [2], .int 97, []) := rfl
theorem cd185_614 : code9 185 614 = some (0, .bipush 108, [2], .int 108, []) := rfl
theorem cd185_616 : code9 185 616 = some (0, .bipush 117, [2], .int 117, []) := rfl
theorem cd185_618 : code9 185 618 = some (0, .bipush 101, [2], .int 101, []) := rfl
theorem cd185_620 : code9 185 620 = some (0, .iconst 0, [1], .int 0, []) := rfl
theorem cd185_621 : code9 185 621 = some (0, .invokestatic 58, [3, 186, 6, 0, 2, 8, 12, 0], .null, []) := rfl
theorem cd185_624 : code9 185 624 = some (0, .lreturn, [1], .null, []) := rfl
theorem cd185_625 : code9 185 625 = some (0, .bipush 100, [2], .int 100, []) := rfl
theorem cd185_627 : code9 185 627 = some (0, .bipush 101, [2], .int 101, []) := rfl
theorem cd185_629 : code9 185 629 = some (0, .bipush 101, [2], .int 101, []) := rfl
theorem cd185_631 : code9 185 631 = some (0, .bipush 112, [2], .int 112, []) := rfl
theorem cd185_633 : code9 185 633 = some (0, .iconst 0, [1], .int 0, []) := rfl
theorem cd185_634 : code9 185 634 = some (0, .iconst 0, [1], .int 0, []) := rfl
theorem cd185_635 : code9 185 635 = some (0, .invokestatic 58, [3, 186, 6, 0, 2, 8, 12, 0], .null, []) := rfl
theorem cd185_638 : code9 185 638 = some (0, .lreturn, [1], .null, []) := rfl
theorem cd185_639 : code9 185 639 = some (0, .bipush 110, [2], .int 110, []) := rfl
theorem cd185_641 : code9 185 641 = some (0, .bipush 117, [2], .int 117, []) := rfl
theorem cd185_643 : code9 185 643 = some (0, .bipush 109, [2], .int 109, []) := rfl
theorem cd185_645 : code9 185 645 = some (0, .bipush 98, [2], .int 98, []) := rfl
theorem cd185_647 : code9 185 647 = some (0, .bipush 101, [2], .int 101, []) := rfl
theorem cd185_649 : code9 185 649 = some (0, .bipush 114, [2], .int 114, []) := rfl
theorem cd185_651 : code9 185 651 = some (0, .invokestatic 58, [3, 186, 6, 0, 2, 8, 12, 0], .null, []) := rfl
theorem cd185_654 : code9 185 654 = some (0, .lreturn, [1], .null, []) := rfl
def Mod_wordOf (l0 : Int32) : Int64 := if l0 = 0 then ((Mod_spelt 102 105 101 108 100 0)) else (if l0 = 1 then ((Mod_spelt 112 101 114 115 111 110)) else (if l0 = 2 then ((Mod_spelt 102 105 110 100 0 0)) else (if l0 = 3 then ((Mod_spelt 102 101 97 114 0 0)) else (if l0 = 4 then ((Mod_spelt 104 105 110 116 0 0)) else (if l0 = 5 then ((Mod_spelt 104 105 100 100 101 110)) else (if l0 = 6 then ((Mod_spelt 108 111 115 116 0 0)) else (if l0 = 7 then ((Mod_spelt 98 117 114 105 101 100)) else (if l0 = 8 then ((Mod_spelt 112 114 105 111 114 0)) else (if l0 = 9 then ((Mod_spelt 103 101 116 115 0 0)) else (if l0 = 10 then ((Mod_spelt 107 105 110 103 0 0)) else (if l0 = 11 then ((Mod_spelt 102 105 110 100 101 114)) else (if l0 = 12 then ((Mod_spelt 111 119 110 101 114 0)) else (if l0 = 13 then ((Mod_spelt 114 105 115 107 0 0)) else (if l0 = 14 then ((Mod_spelt 100 105 103 115 0 0)) else (if l0 = 15 then ((Mod_spelt 108 97 105 100 0 0)) else (if l0 = 16 then ((Mod_spelt 103 105 118 101 110 0)) else (if l0 = 17 then ((Mod_spelt 112 108 111 117 103 104)) else (if l0 = 18 then ((Mod_spelt 110 105 103 104 116 0)) else (if l0 = 19 then ((Mod_spelt 111 114 0 0 0 0)) else (if l0 = 20 then ((Mod_spelt 97 110 100 0 0 0)) else (if l0 = 21 then ((Mod_spelt 110 111 116 0 0 0)) else (if l0 = 22 then ((Mod_spelt 103 114 111 117 110 100)) else (if l0 = 23 then ((Mod_spelt 102 111 117 110 100 0)) else (if l0 = 24 then ((Mod_spelt 116 111 108 100 0 0)) else (if l0 = 25 then ((Mod_spelt 115 111 108 100 0 0)) else (if l0 = 26 then ((Mod_spelt 99 111 105 110 0 0)) else (if l0 = 27 then ((Mod_spelt 112 111 116 0 0 0)) else (if l0 = 28 then ((Mod_spelt 108 105 100 0 0 0)) else (if l0 = 29 then ((Mod_spelt 98 111 110 101 0 0)) else (if l0 = 30 then ((Mod_spelt 111 102 0 0 0 0)) else (if l0 = 31 then ((Mod_spelt 121 101 97 114 0 0)) else (if l0 = 32 then ((Mod_spelt 118 97 108 117 101 0)) else (if l0 = 33 then ((Mod_spelt 100 101 101 112 0 0)) else ((Mod_spelt 110 117 109 98 101 114)))))))))))))))))))))))))))))))))))
set_option maxRecDepth 8000 in
theorem t_Mod_wordOf {d : Nat} {c : Nat × Nat} {S : Nat → Nat × Nat} {P : Nat → Nat → Option Nat} {I : FI} {J : FJ} {l0 : Int32} {r : Int64} (hd : 1 ≤ d) (h : Mod_wordOf l0 = r) : Go d M_Mod_wordOf 0 [some (.int l0)] [] (c, S, I, J, P) (some (.long r), false, (c, S, I, J, P)) := by
  obtain ⟨d, rfl⟩ : ∃ e, d = e + 1 := ⟨d - 1, by omega⟩
  unfold Mod_wordOf at h
  refine g_iload_n cd185_0 rfl rfl ?_
  refine g_tableswitch cd185_1 rfl ?_
  refine ifi (fun hb => ?_) (fun hb => ?_)
  · have h := ifpE hb h
    show Go _ _ 152 [some (.int l0)] [] _ _
    refine g_bipush cd185_152 rfl ?_
    refine g_bipush cd185_154 rfl ?_
    refine g_bipush cd185_156 rfl ?_
    refine g_bipush cd185_158 rfl ?_
    refine g_bipush cd185_160 rfl ?_
    refine g_iconst cd185_162 rfl ?_
    refine g_callSJ (L := [some (.int 102), some (.int 105), some (.int 101), some (.int 108), some (.int 100), some (.int 0), none, none]) cd185_163 rfl rfl rfl rfl rfl (t_Mod_spelt (by omega)  rfl) ?_
    exact g_lret cd185_166 (by subst h; rfl)
  have h := ifnE hb h
  refine ifi (fun hb => ?_) (fun hb => ?_)
  · have h := ifpE hb h
    show Go _ _ 167 [some (.int l0)] [] _ _
    refine g_bipush cd185_167 rfl ?_
    refine g_bipush cd185_169 rfl ?_
    refine g_bipush cd185_171 rfl ?_
    refine g_bipush cd185_173 rfl ?_
    refine g_bipush cd185_175 rfl ?_
    refine g_bipush cd185_177 rfl ?_
    refine g_callSJ (L := [some (.int 112), some (.int 101), some (.int 114), some (.int 115), some (.int 111), some (.int 110), none, none]) cd185_179 rfl rfl rfl rfl rfl (t_Mod_spelt (by omega)  rfl) ?_
    exact g_lret cd185_182 (by subst h; rfl)
  have h := ifnE hb h
  refine ifi (fun hb => ?_) (fun hb => ?_)
  · have h := ifpE hb h
    show Go _ _ 183 [some (.int l0)] [] _ _
    refine g_bipush cd185_183 rfl ?_
    refine g_bipush cd185_185 rfl ?_
    refine g_bipush cd185_187 rfl ?_
    refine g_bipush cd185_189 rfl ?_
    refine g_iconst cd185_191 rfl ?_
    refine g_iconst cd185_192 rfl ?_
    refine g_callSJ (L := [some (.int 102), some (.int 105), some (.int 110), some (.int 100), some (.int 0), some (.int 0), none, none]) cd185_193 rfl rfl rfl rfl rfl (t_Mod_spelt (by omega)  rfl) ?_
    exact g_lret cd185_196 (by subst h; rfl)
  have h := ifnE hb h
  refine ifi (fun hb => ?_) (fun hb => ?_)
  · have h := ifpE hb h
    show Go _ _ 197 [some (.int l0)] [] _ _
    refine g_bipush cd185_197 rfl ?_
    refine g_bipush cd185_199 rfl ?_
    refine g_bipush cd185_201 rfl ?_
    refine g_bipush cd185_203 rfl ?_
    refine g_iconst cd185_205 rfl ?_
    refine g_iconst cd185_206 rfl ?_
    refine g_callSJ (L := [some (.int 102), some (.int 101), some (.int 97), some (.int 114), some (.int 0), some (.int 0), none, none]) cd185_207 rfl rfl rfl rfl rfl (t_Mod_spelt (by omega)  rfl) ?_
    exact g_lret cd185_210 (by subst h; rfl)
  have h := ifnE hb h
  refine ifi (fun hb => ?_) (fun hb => ?_)
  · have h := ifpE hb h
    show Go _ _ 211 [some (.int l0)] [] _ _
    refine g_bipush cd185_211 rfl ?_
    refine g_bipush cd185_213 rfl ?_
    refine g_bipush cd185_215 rfl ?_
    refine g_bipush cd185_217 rfl ?_
    refine g_iconst cd185_219 rfl ?_
    refine g_iconst cd185_220 rfl ?_
    refine g_callSJ (L := [some (.int 104), some (.int 105), some (.int 110), some (.int 116), some (.int 0), some (.int 0), none, none]) cd185_221 rfl rfl rfl rfl rfl (t_Mod_spelt (by omega)  rfl) ?_
    exact g_lret cd185_224 (by subst h; rfl)
  have h := ifnE hb h
  refine ifi (fun hb => ?_) (fun hb => ?_)
  · have h := ifpE hb h
    show Go _ _ 225 [some (.int l0)] [] _ _
    refine g_bipush cd185_225 rfl ?_
    refine g_bipush cd185_227 rfl ?_
    refine g_bipush cd185_229 rfl ?_
    refine g_bipush cd185_231 rfl ?_
    refine g_bipush cd185_233 rfl ?_
    refine g_bipush cd185_235 rfl ?_
    refine g_callSJ (L := [some (.int 104), some (.int 105), some (.int 100), some (.int 100), some (.int 101), some (.int 110), none, none]) cd185_237 rfl rfl rfl rfl rfl (t_Mod_spelt (by omega)  rfl) ?_
    exact g_lret cd185_240 (by subst h; rfl)
  have h := ifnE hb h
  refine ifi (fun hb => ?_) (fun hb => ?_)
  · have h := ifpE hb h
    show Go _ _ 241 [some (.int l0)] [] _ _
    refine g_bipush cd185_241 rfl ?_
    refine g_bipush cd185_243 rfl ?_
    refine g_bipush cd185_245 rfl ?_
    refine g_bipush cd185_247 rfl ?_
    refine g_iconst cd185_249 rfl ?_
    refine g_iconst cd185_250 rfl ?_
    refine g_callSJ (L := [some (.int 108), some (.int 111), some (.int 115), some (.int 116), some (.int 0), some (.int 0), none, none]) cd185_251 rfl rfl rfl rfl rfl (t_Mod_spelt (by omega)  rfl) ?_
    exact g_lret cd185_254 (by subst h; rfl)
  have h := ifnE hb h
  refine ifi (fun hb => ?_) (fun hb => ?_)
  · have h := ifpE hb h
    show Go _ _ 255 [some (.int l0)] [] _ _
    refine g_bipush cd185_255 rfl ?_
    refine g_bipush cd185_257 rfl ?_
    refine g_bipush cd185_259 rfl ?_
    refine g_bipush cd185_261 rfl ?_
    refine g_bipush cd185_263 rfl ?_
    refine g_bipush cd185_265 rfl ?_
    refine g_callSJ (L := [some (.int 98), some (.int 117), some (.int 114), some (.int 105), some (.int 101), some (.int 100), none, none]) cd185_267 rfl rfl rfl rfl rfl (t_Mod_spelt (by omega)  rfl) ?_
    exact g_lret cd185_270 (by subst h; rfl)
  have h := ifnE hb h
  refine ifi (fun hb => ?_) (fun hb => ?_)
  · have h := ifpE hb h
    show Go _ _ 271 [some (.int l0)] [] _ _
    refine g_bipush cd185_271 rfl ?_
    refine g_bipush cd185_273 rfl ?_
    refine g_bipush cd185_275 rfl ?_
    refine g_bipush cd185_277 rfl ?_
    refine g_bipush cd185_279 rfl ?_
    refine g_iconst cd185_281 rfl ?_
    refine g_callSJ (L := [some (.int 112), some (.int 114), some (.int 105), some (.int 111), some (.int 114), some (.int 0), none, none]) cd185_282 rfl rfl rfl rfl rfl (t_Mod_spelt (by omega)  rfl) ?_
    exact g_lret cd185_285 (by subst h; rfl)
  have h := ifnE hb h
  refine ifi (fun hb => ?_) (fun hb => ?_)
  · have h := ifpE hb h
    show Go _ _ 286 [some (.int l0)] [] _ _
    refine g_bipush cd185_286 rfl ?_
    refine g_bipush cd185_288 rfl ?_
    refine g_bipush cd185_290 rfl ?_
    refine g_bipush cd185_292 rfl ?_
    refine g_iconst cd185_294 rfl ?_
    refine g_iconst cd185_295 rfl ?_
    refine g_callSJ (L := [some (.int 103), some (.int 101), some (.int 116), some (.int 115), some (.int 0), some (.int 0), none, none]) cd185_296 rfl rfl rfl rfl rfl (t_Mod_spelt (by omega)  rfl) ?_
    exact g_lret cd185_299 (by subst h; rfl)
  have h := ifnE hb h
  refine ifi (fun hb => ?_) (fun hb => ?_)
  · have h := ifpE hb h
    show Go _ _ 300 [some (.int l0)] [] _ _
    refine g_bipush cd185_300 rfl ?_
    refine g_bipush cd185_302 rfl ?_
    refine g_bipush cd185_304 rfl ?_
    refine g_bipush cd185_306 rfl ?_
    refine g_iconst cd185_308 rfl ?_
    refine g_iconst cd185_309 rfl ?_
    refine g_callSJ (L := [some (.int 107), some (.int 105), some (.int 110), some (.int 103), some (.int 0), some (.int 0), none, none]) cd185_310 rfl rfl rfl rfl rfl (t_Mod_spelt (by omega)  rfl) ?_
    exact g_lret cd185_313 (by subst h; rfl)
  have h := ifnE hb h
  refine ifi (fun hb => ?_) (fun hb => ?_)
  · have h := ifpE hb h
    show Go _ _ 314 [some (.int l0)] [] _ _
    refine g_bipush cd185_314 rfl ?_
    refine g_bipush cd185_316 rfl ?_
    refine g_bipush cd185_318 rfl ?_
    refine g_bipush cd185_320 rfl ?_
    refine g_bipush cd185_322 rfl ?_
    refine g_bipush cd185_324 rfl ?_
    refine g_callSJ (L := [some (.int 102), some (.int 105), some (.int 110), some (.int 100), some (.int 101), some (.int 114), none, none]) cd185_326 rfl rfl rfl rfl rfl (t_Mod_spelt (by omega)  rfl) ?_
    exact g_lret cd185_329 (by subst h; rfl)
  have h := ifnE hb h
  refine ifi (fun hb => ?_) (fun hb => ?_)
  · have h := ifpE hb h
    show Go _ _ 330 [some (.int l0)] [] _ _
    refine g_bipush cd185_330 rfl ?_
    refine g_bipush cd185_332 rfl ?_
    refine g_bipush cd185_334 rfl ?_
    refine g_bipush cd185_336 rfl ?_
    refine g_bipush cd185_338 rfl ?_
    refine g_iconst cd185_340 rfl ?_
    refine g_callSJ (L := [some (.int 111), some (.int 119), some (.int 110), some (.int 101), some (.int 114), some (.int 0), none, none]) cd185_341 rfl rfl rfl rfl rfl (t_Mod_spelt (by omega)  rfl) ?_
    exact g_lret cd185_344 (by subst h; rfl)
  have h := ifnE hb h
  refine ifi (fun hb => ?_) (fun hb => ?_)
  · have h := ifpE hb h
    show Go _ _ 345 [some (.int l0)] [] _ _
    refine g_bipush cd185_345 rfl ?_
    refine g_bipush cd185_347 rfl ?_
    refine g_bipush cd185_349 rfl ?_
    refine g_bipush cd185_351 rfl ?_
    refine g_iconst cd185_353 rfl ?_
    refine g_iconst cd185_354 rfl ?_
    refine g_callSJ (L := [some (.int 114), some (.int 105), some (.int 115), some (.int 107), some (.int 0), some (.int 0), none, none]) cd185_355 rfl rfl rfl rfl rfl (t_Mod_spelt (by omega)  rfl) ?_
    exact g_lret cd185_358 (by subst h; rfl)
  have h := ifnE hb h
  refine ifi (fun hb => ?_) (fun hb => ?_)
  · have h := ifpE hb h
    show Go _ _ 359 [some (.int l0)] [] _ _
    refine g_bipush cd185_359 rfl ?_
    refine g_bipush cd185_361 rfl ?_
    refine g_bipush cd185_363 rfl ?_
    refine g_bipush cd185_365 rfl ?_
    refine g_iconst cd185_367 rfl ?_
    refine g_iconst cd185_368 rfl ?_
    refine g_callSJ (L := [some (.int 100), some (.int 105), some (.int 103), some (.int 115), some (.int 0), some (.int 0), none, none]) cd185_369 rfl rfl rfl rfl rfl (t_Mod_spelt (by omega)  rfl) ?_
    exact g_lret cd185_372 (by subst h; rfl)
  have h := ifnE hb h
  refine ifi (fun hb => ?_) (fun hb => ?_)
  · have h := ifpE hb h
    show Go _ _ 373 [some (.int l0)] [] _ _
    refine g_bipush cd185_373 rfl ?_
    refine g_bipush cd185_375 rfl ?_
    refine g_bipush cd185_377 rfl ?_
    refine g_bipush cd185_379 rfl ?_
    refine g_iconst cd185_381 rfl ?_
    refine g_iconst cd185_382 rfl ?_
    refine g_callSJ (L := [some (.int 108), some (.int 97), some (.int 105), some (.int 100), some (.int 0), some (.int 0), none, none]) cd185_383 rfl rfl rfl rfl rfl (t_Mod_spelt (by omega)  rfl) ?_
    exact g_lret cd185_386 (by subst h; rfl)
  have h := ifnE hb h
  refine ifi (fun hb => ?_) (fun hb => ?_)
  · have h := ifpE hb h
    show Go _ _ 387 [some (.int l0)] [] _ _
    refine g_bipush cd185_387 rfl ?_
    refine g_bipush cd185_389 rfl ?_
    refine g_bipush cd185_391 rfl ?_
    refine g_bipush cd185_393 rfl ?_
    refine g_bipush cd185_395 rfl ?_
    refine g_iconst cd185_397 rfl ?_
    refine g_callSJ (L := [some (.int 103), some (.int 105), some (.int 118), some (.int 101), some (.int 110), some (.int 0), none, none]) cd185_398 rfl rfl rfl rfl rfl (t_Mod_spelt (by omega)  rfl) ?_
    exact g_lret cd185_401 (by subst h; rfl)
  have h := ifnE hb h
  refine ifi (fun hb => ?_) (fun hb => ?_)
  · have h := ifpE hb h
    show Go _ _ 402 [some (.int l0)] [] _ _
    refine g_bipush cd185_402 rfl ?_
    refine g_bipush cd185_404 rfl ?_
    refine g_bipush cd185_406 rfl ?_
    refine g_bipush cd185_408 rfl ?_
    refine g_bipush cd185_410 rfl ?_
    refine g_bipush cd185_412 rfl ?_
    refine g_callSJ (L := [some (.int 112), some (.int 108), some (.int 111), some (.int 117), some (.int 103), some (.int 104), none, none]) cd185_414 rfl rfl rfl rfl rfl (t_Mod_spelt (by omega)  rfl) ?_
    exact g_lret cd185_417 (by subst h; rfl)
  have h := ifnE hb h
  refine ifi (fun hb => ?_) (fun hb => ?_)
  · have h := ifpE hb h
    show Go _ _ 418 [some (.int l0)] [] _ _
    refine g_bipush cd185_418 rfl ?_
    refine g_bipush cd185_420 rfl ?_
    refine g_bipush cd185_422 rfl ?_
    refine g_bipush cd185_424 rfl ?_
    refine g_bipush cd185_426 rfl ?_
    refine g_iconst cd185_428 rfl ?_
    refine g_callSJ (L := [some (.int 110), some (.int 105), some (.int 103), some (.int 104), some (.int 116), some (.int 0), none, none]) cd185_429 rfl rfl rfl rfl rfl (t_Mod_spelt (by omega)  rfl) ?_
    exact g_lret cd185_432 (by subst h; rfl)
  have h := ifnE hb h
  refine ifi (fun hb => ?_) (fun hb => ?_)
  · have h := ifpE hb h
    show Go _ _ 433 [some (.int l0)] [] _ _
    refine g_bipush cd185_433 rfl ?_
    refine g_bipush cd185_435 rfl ?_
    refine g_iconst cd185_437 rfl ?_
    refine g_iconst cd185_438 rfl ?_
    refine g_iconst cd185_439 rfl ?_
    refine g_iconst cd185_440 rfl ?_
    refine g_callSJ (L := [some (.int 111), some (.int 114), some (.int 0), some (.int 0), some (.int 0), some (.int 0), none, none]) cd185_441 rfl rfl rfl rfl rfl (t_Mod_spelt (by omega)  rfl) ?_
    exact g_lret cd185_444 (by subst h; rfl)
  have h := ifnE hb h
  refine ifi (fun hb => ?_) (fun hb => ?_)
  · have h := ifpE hb h
    show Go _ _ 445 [some (.int l0)] [] _ _
    refine g_bipush cd185_445 rfl ?_
    refine g_bipush cd185_447 rfl ?_
    refine g_bipush cd185_449 rfl ?_
    refine g_iconst cd185_451 rfl ?_
    refine g_iconst cd185_452 rfl ?_
    refine g_iconst cd185_453 rfl ?_
    refine g_callSJ (L := [some (.int 97), some (.int 110), some (.int 100), some (.int 0), some (.int 0), some (.int 0), none, none]) cd185_454 rfl rfl rfl rfl rfl (t_Mod_spelt (by omega)  rfl) ?_
    exact g_lret cd185_457 (by subst h; rfl)
  have h := ifnE hb h
  refine ifi (fun hb => ?_) (fun hb => ?_)
  · have h := ifpE hb h
    show Go _ _ 458 [some (.int l0)] [] _ _
    refine g_bipush cd185_458 rfl ?_
    refine g_bipush cd185_460 rfl ?_
    refine g_bipush cd185_462 rfl ?_
    refine g_iconst cd185_464 rfl ?_
    refine g_iconst cd185_465 rfl ?_
    refine g_iconst cd185_466 rfl ?_
    refine g_callSJ (L := [some (.int 110), some (.int 111), some (.int 116), some (.int 0), some (.int 0), some (.int 0), none, none]) cd185_467 rfl rfl rfl rfl rfl (t_Mod_spelt (by omega)  rfl) ?_
    exact g_lret cd185_470 (by subst h; rfl)
  have h := ifnE hb h
  refine ifi (fun hb => ?_) (fun hb => ?_)
  · have h := ifpE hb h
    show Go _ _ 471 [some (.int l0)] [] _ _
    refine g_bipush cd185_471 rfl ?_
    refine g_bipush cd185_473 rfl ?_
    refine g_bipush cd185_475 rfl ?_
    refine g_bipush cd185_477 rfl ?_
    refine g_bipush cd185_479 rfl ?_
    refine g_bipush cd185_481 rfl ?_
    refine g_callSJ (L := [some (.int 103), some (.int 114), some (.int 111), some (.int 117), some (.int 110), some (.int 100), none, none]) cd185_483 rfl rfl rfl rfl rfl (t_Mod_spelt (by omega)  rfl) ?_
    exact g_lret cd185_486 (by subst h; rfl)
  have h := ifnE hb h
  refine ifi (fun hb => ?_) (fun hb => ?_)
  · have h := ifpE hb h
    show Go _ _ 487 [some (.int l0)] [] _ _
    refine g_bipush cd185_487 rfl ?_
    refine g_bipush cd185_489 rfl ?_
    refine g_bipush cd185_491 rfl ?_
    refine g_bipush cd185_493 rfl ?_
    refine g_bipush cd185_495 rfl ?_
    refine g_iconst cd185_497 rfl ?_
    refine g_callSJ (L := [some (.int 102), some (.int 111), some (.int 117), some (.int 110), some (.int 100), some (.int 0), none, none]) cd185_498 rfl rfl rfl rfl rfl (t_Mod_spelt (by omega)  rfl) ?_
    exact g_lret cd185_501 (by subst h; rfl)
  have h := ifnE hb h
  refine ifi (fun hb => ?_) (fun hb => ?_)
  · have h := ifpE hb h
    show Go _ _ 502 [some (.int l0)] [] _ _
    refine g_bipush cd185_502 rfl ?_
    refine g_bipush cd185_504 rfl ?_
    refine g_bipush cd185_506 rfl ?_
    refine g_bipush cd185_508 rfl ?_
    refine g_iconst cd185_510 rfl ?_
    refine g_iconst cd185_511 rfl ?_
    refine g_callSJ (L := [some (.int 116), some (.int 111), some (.int 108), some (.int 100), some (.int 0), some (.int 0), none, none]) cd185_512 rfl rfl rfl rfl rfl (t_Mod_spelt (by omega)  rfl) ?_
    exact g_lret cd185_515 (by subst h; rfl)
  have h := ifnE hb h
  refine ifi (fun hb => ?_) (fun hb => ?_)
  · have h := ifpE hb h
    show Go _ _ 516 [some (.int l0)] [] _ _
    refine g_bipush cd185_516 rfl ?_
    refine g_bipush cd185_518 rfl ?_
    refine g_bipush cd185_520 rfl ?_
    refine g_bipush cd185_522 rfl ?_
    refine g_iconst cd185_524 rfl ?_
    refine g_iconst cd185_525 rfl ?_
    refine g_callSJ (L := [some (.int 115), some (.int 111), some (.int 108), some (.int 100), some (.int 0), some (.int 0), none, none]) cd185_526 rfl rfl rfl rfl rfl (t_Mod_spelt (by omega)  rfl) ?_
    exact g_lret cd185_529 (by subst h; rfl)
  have h := ifnE hb h
  refine ifi (fun hb => ?_) (fun hb => ?_)
  · have h := ifpE hb h
    show Go _ _ 530 [some (.int l0)] [] _ _
    refine g_bipush cd185_530 rfl ?_
    refine g_bipush cd185_532 rfl ?_
    refine g_bipush cd185_534 rfl ?_
    refine g_bipush cd185_536 rfl ?_
    refine g_iconst cd185_538 rfl ?_
    refine g_iconst cd185_539 rfl ?_
    refine g_callSJ (L := [some (.int 99), some (.int 111), some (.int 105), some (.int 110), some (.int 0), some (.int 0), none, none]) cd185_540 rfl rfl rfl rfl rfl (t_Mod_spelt (by omega)  rfl) ?_
    exact g_lret cd185_543 (by subst h; rfl)
  have h := ifnE hb h
  refine ifi (fun hb => ?_) (fun hb => ?_)
  · have h := ifpE hb h
    show Go _ _ 544 [some (.int l0)] [] _ _
    refine g_bipush cd185_544 rfl ?_
    refine g_bipush cd185_546 rfl ?_
    refine g_bipush cd185_548 rfl ?_
    refine g_iconst cd185_550 rfl ?_
    refine g_iconst cd185_551 rfl ?_
    refine g_iconst cd185_552 rfl ?_
    refine g_callSJ (L := [some (.int 112), some (.int 111), some (.int 116), some (.int 0), some (.int 0), some (.int 0), none, none]) cd185_553 rfl rfl rfl rfl rfl (t_Mod_spelt (by omega)  rfl) ?_
    exact g_lret cd185_556 (by subst h; rfl)
  have h := ifnE hb h
  refine ifi (fun hb => ?_) (fun hb => ?_)
  · have h := ifpE hb h
    show Go _ _ 557 [some (.int l0)] [] _ _
    refine g_bipush cd185_557 rfl ?_
    refine g_bipush cd185_559 rfl ?_
    refine g_bipush cd185_561 rfl ?_
    refine g_iconst cd185_563 rfl ?_
    refine g_iconst cd185_564 rfl ?_
    refine g_iconst cd185_565 rfl ?_
    refine g_callSJ (L := [some (.int 108), some (.int 105), some (.int 100), some (.int 0), some (.int 0), some (.int 0), none, none]) cd185_566 rfl rfl rfl rfl rfl (t_Mod_spelt (by omega)  rfl) ?_
    exact g_lret cd185_569 (by subst h; rfl)
  have h := ifnE hb h
  refine ifi (fun hb => ?_) (fun hb => ?_)
  · have h := ifpE hb h
    show Go _ _ 570 [some (.int l0)] [] _ _
    refine g_bipush cd185_570 rfl ?_
    refine g_bipush cd185_572 rfl ?_
    refine g_bipush cd185_574 rfl ?_
    refine g_bipush cd185_576 rfl ?_
    refine g_iconst cd185_578 rfl ?_
    refine g_iconst cd185_579 rfl ?_
    refine g_callSJ (L := [some (.int 98), some (.int 111), some (.int 110), some (.int 101), some (.int 0), some (.int 0), none, none]) cd185_580 rfl rfl rfl rfl rfl (t_Mod_spelt (by omega)  rfl) ?_
    exact g_lret cd185_583 (by subst h; rfl)
  have h := ifnE hb h
  refine ifi (fun hb => ?_) (fun hb => ?_)
  · have h := ifpE hb h
    show Go _ _ 584 [some (.int l0)] [] _ _
    refine g_bipush cd185_584 rfl ?_
    refine g_bipush cd185_586 rfl ?_
    refine g_iconst cd185_588 rfl ?_
    refine g_iconst cd185_589 rfl ?_
    refine g_iconst cd185_590 rfl ?_
    refine g_iconst cd185_591 rfl ?_
    refine g_callSJ (L := [some (.int 111), some (.int 102), some (.int 0), some (.int 0), some (.int 0), some (.int 0), none, none]) cd185_592 rfl rfl rfl rfl rfl (t_Mod_spelt (by omega)  rfl) ?_
    exact g_lret cd185_595 (by subst h; rfl)
  have h := ifnE hb h
  refine ifi (fun hb => ?_) (fun hb => ?_)
  · have h := ifpE hb h
    show Go _ _ 596 [some (.int l0)] [] _ _
    refine g_bipush cd185_596 rfl ?_
    refine g_bipush cd185_598 rfl ?_
    refine g_bipush cd185_600 rfl ?_
    refine g_bipush cd185_602 rfl ?_
    refine g_iconst cd185_604 rfl ?_
    refine g_iconst cd185_605 rfl ?_
    refine g_callSJ (L := [some (.int 121), some (.int 101), some (.int 97), some (.int 114), some (.int 0), some (.int 0), none, none]) cd185_606 rfl rfl rfl rfl rfl (t_Mod_spelt (by omega)  rfl) ?_
    exact g_lret cd185_609 (by subst h; rfl)
  have h := ifnE hb h
  refine ifi (fun hb => ?_) (fun hb => ?_)
  · have h := ifpE hb h
    show Go _ _ 610 [some (.int l0)] [] _ _
    refine g_bipush cd185_610 rfl ?_
    refine g_bipush cd185_612 rfl ?_
    refine g_bipush cd185_614 rfl ?_
    refine g_bipush cd185_616 rfl ?_
    refine g_bipush cd185_618 rfl ?_
    refine g_iconst cd185_620 rfl ?_
    refine g_callSJ (L := [some (.int 118), some (.int 97), some (.int 108), some (.int 117), some (.int 101), some (.int 0), none, none]) cd185_621 rfl rfl rfl rfl rfl (t_Mod_spelt (by omega)  rfl) ?_
    exact g_lret cd185_624 (by subst h; rfl)
  have h := ifnE hb h
  refine ifi (fun hb => ?_) (fun hb => ?_)
  · have h := ifpE hb h
    show Go _ _ 625 [some (.int l0)] [] _ _
    refine g_bipush cd185_625 rfl ?_
    refine g_bipush cd185_627 rfl ?_
    refine g_bipush cd185_629 rfl ?_
    refine g_bipush cd185_631 rfl ?_
    refine g_iconst cd185_633 rfl ?_
    refine g_iconst cd185_634 rfl ?_
    refine g_callSJ (L := [some (.int 100), some (.int 101), some (.int 101), some (.int 112), some (.int 0), some (.int 0), none, none]) cd185_635 rfl rfl rfl rfl rfl (t_Mod_spelt (by omega)  rfl) ?_
    exact g_lret cd185_638 (by subst h; rfl)
  have h := ifnE hb h
  show Go _ _ 639 [some (.int l0)] [] _ _
  refine g_bipush cd185_639 rfl ?_
  refine g_bipush cd185_641 rfl ?_
  refine g_bipush cd185_643 rfl ?_
  refine g_bipush cd185_645 rfl ?_
  refine g_bipush cd185_647 rfl ?_
  refine g_bipush cd185_649 rfl ?_
  refine g_callSJ (L := [some (.int 110), some (.int 117), some (.int 109), some (.int 98), some (.int 101), some (.int 114), none, none]) cd185_651 rfl rfl rfl rfl rfl (t_Mod_spelt (by omega)  rfl) ?_
  exact g_lret cd185_654 (by subst h; rfl)
/-! HiddenOrLostModel.isWord(I)Z -/
theorem cd184_0 : code9 184 0 = some (0, .aload_n 0, [1], .null, []) := rfl
theorem cd184_1 : code9 184 1 = some (0, .getfield 30, [3, 12, 7, 0], .null, []) := rfl
theorem cd184_4 : code9 184 4 = some (0, .iconst 2, [1], .int 2, []) := rfl
theorem cd184_5 : code9 184 5 = some (0, .if_icmp .ne 19, [3, 24], .null, []) := rfl
theorem cd184_8 : code9 184 8 = some (0, .aload_n 0, [1], .null, []) := rfl
theorem cd184_9 : code9 184 9 = some (0, .getfield 43, [3, 12, 12, 1], .null, []) := rfl
theorem cd184_12 : code9 184 12 = some (0, .iload_n 1, [1], .null, []) := rfl
theorem cd184_13 : code9 184 13 = some (0, .invokestatic 62, [3, 185, 1, 0, 2, 1, 12, 0], .null, []) := rfl
theorem cd184_16 : code9 184 16 = some (0, .lcmp, [1], .null, []) := rfl
theorem cd184_17 : code9 184 17 = some (0, .ifCond .ne 7, [3, 24], .null, []) := rfl
theorem cd184_20 : code9 184 20 = some (0, .iconst 1, [1], .int 1, []) := rfl
theorem cd184_21 : code9 184 21 = some (0, .goto 4, [3, 25, 2], .null, []) := rfl
theorem cd184_24 : code9 184 24 = some (3, .iconst 0, [1], .int 0, []) := rfl
theorem cd184_25 : code9 184 25 = some (3, .ireturn, [1, 3], .null, []) := rfl
def Mod_isWord (l1 : Int32) (I : FI) (J : FJ) : Bool := if (I 204 7) = 2 then (if (J 204 12) = (Mod_wordOf l1) then (true) else (false)) else (false)
set_option maxRecDepth 8000 in
theorem t_Mod_isWord {d : Nat} {c : Nat × Nat} {S : Nat → Nat × Nat} {P : Nat → Nat → Option Nat} {I : FI} {J : FJ} {l1 : Int32} {r : Bool} (hd : 2 ≤ d) (hw : OM S P) (h : Mod_isWord l1 I J = r) : Go d M_Mod_isWord 0 [some (.ref 204), some (.int l1)] [] (c, S, I, J, P) (some (.int (b2i r)), false, (c, S, I, J, P)) := by
  obtain ⟨d, rfl⟩ : ∃ e, d = e + 1 := ⟨d - 1, by omega⟩
  unfold Mod_isWord at h
  refine g_aload_n cd184_0 rfl rfl ?_
  refine g_getI cd184_1 rfl (OM.o hw) ?_
  refine g_iconst cd184_4 rfl ?_
  refine g_icmp_ne cd184_5 rfl (fun hb => ?_) (fun hb => ?_)
  · have h := ifpE hb h
    refine g_aload_n cd184_8 rfl rfl ?_
    refine g_getJ cd184_9 rfl (OM.o hw) ?_
    refine g_iload_n cd184_12 rfl rfl ?_
    refine g_callSJ (L := [some (.int l1)]) cd184_13 rfl rfl rfl rfl rfl (t_Mod_wordOf (by omega)  rfl) ?_
    refine g_lcmp cd184_16 rfl ?_
    refine g_if_ne cd184_17 rfl (fun hb => ?_) (fun hb => ?_)
    · have h := ifpE (lgc_eq.mp hb) h
      refine g_iconst cd184_20 rfl ?_
      refine g_goto (ls2 := [some (.ref 204), some (.int l1)]) cd184_21 rfl rfl ?_
      exact g_iret cd184_25 (Or.inr ⟨rfl, Or.inr rfl⟩) (by subst h; rfl)
    · have h := ifnE (fun q => hb (lgc_eq.mpr q)) h
      refine g_iconst cd184_24 rfl ?_
      exact g_iret cd184_25 (Or.inr ⟨rfl, Or.inl rfl⟩) (by subst h; rfl)
  · have h := ifnE hb h
    refine g_iconst cd184_24 rfl ?_
    exact g_iret cd184_25 (Or.inr ⟨rfl, Or.inl rfl⟩) (by subst h; rfl)
/-! HiddenOrLostModel.bad(I)Z -/
theorem cd188_0 : code9 188 0 = some (0, .aload_n 0, [1], .null, []) := rfl
theorem cd188_1 : code9 188 1 = some (0, .aload_n 0, [1], .null, []) := rfl
theorem cd188_2 : code9 188 2 = some (0, .getfield 30, [3, 12, 7, 0], .null, []) := rfl
theorem cd188_5 : code9 188 5 = some (0, .iconst 1, [1], .int 1, []) := rfl
theorem cd188_6 : code9 188 6 = some (0, .if_icmp .ne 7, [3, 13], .null, []) := rfl
theorem cd188_9 : code9 188 9 = some (0, .iconst 1, [1], .int 1, []) := rfl
theorem cd188_10 : code9 188 10 = some (0, .goto 4, [3, 14, 2], .null, []) := rfl
theorem cd188_13 : code9 188 13 = some (0, .iload_n 1, [1], .null, []) := rfl
theorem cd188_14 : code9 188 14 = some (3, .putfield 66, [3, 12, 10, 0], .null, []) := rfl
theorem cd188_17 : code9 188 17 = some (0, .aload_n 0, [1], .null, []) := rfl
theorem cd188_18 : code9 188 18 = some (0, .aload_n 0, [1], .null, []) := rfl
theorem cd188_19 : code9 188 19 = some (0, .getfield 24, [3, 12, 6, 0], .null, []) := rfl
theorem cd188_22 : code9 188 22 = some (0, .putfield 69, [3, 12, 11, 0], .null, []) := rfl
theorem cd188_25 : code9 188 25 = some (0, .iconst 0, [1], .int 0, []) := rfl
theorem cd188_26 : code9 188 26 = some (0, .ireturn, [1, 3], .null, []) := rfl
def Mod_bad (l1 : Int32) (I : FI) : Option (Bool × FI) := if (I 204 7) = 1 then (Option.bind (some (up2 I 204 10 (1 : Int32))) fun I1 => (Option.bind (some (up2 I1 204 11 (I1 204 6))) fun I2 => (some (false, I2)))) else (Option.bind (some (up2 I 204 10 l1)) fun I3 => (Option.bind (some (up2 I3 204 11 (I3 204 6))) fun I4 => (some (false, I4))))
set_option maxRecDepth 8000 in
theorem t_Mod_bad {d : Nat} {c : Nat × Nat} {S : Nat → Nat × Nat} {P : Nat → Nat → Option Nat} {I : FI} {J : FJ} {l1 : Int32} {r : Bool × FI} (hd : 0 ≤ d) (hw : OM S P) (h : Mod_bad l1 I = some r) : Go d M_Mod_bad 0 [some (.ref 204), some (.int l1)] [] (c, S, I, J, P) (some (.int (b2i r.1)), false, (c, S, r.2, J, P)) := by
  unfold Mod_bad at h
  refine g_aload_n cd188_0 rfl rfl ?_
  refine g_aload_n cd188_1 rfl rfl ?_
  refine g_getI cd188_2 rfl (OM.o hw) ?_
  refine g_iconst cd188_5 rfl ?_
  refine g_icmp_ne cd188_6 rfl (fun hb => ?_) (fun hb => ?_)
  · have h := ifpE hb h
    refine g_iconst cd188_9 rfl ?_
    refine g_goto (ls2 := [some (.ref 204), some (.int l1)]) cd188_10 rfl rfl ?_
    obtain ⟨I1, e1, h⟩ := bnd h
    refine G_putI cd188_14 rfl (OM.o hw) (Option.some.inj e1) ?_
    refine g_aload_n cd188_17 rfl rfl ?_
    refine g_aload_n cd188_18 rfl rfl ?_
    refine g_getI cd188_19 rfl (OM.o hw) ?_
    obtain ⟨I2, e1, h⟩ := bnd h
    refine G_putI cd188_22 rfl (OM.o hw) (Option.some.inj e1) ?_
    refine g_iconst cd188_25 rfl ?_
    exact g_iret cd188_26 (Or.inr ⟨rfl, Or.inl rfl⟩) (by obtain rfl := Option.some.inj h; rfl)
  · have h := ifnE hb h
    refine g_iload_n cd188_13 rfl rfl ?_
    obtain ⟨I3, e1, h⟩ := bnd h
    refine G_putI cd188_14 rfl (OM.o hw) (Option.some.inj e1) ?_
    refine g_aload_n cd188_17 rfl rfl ?_
    refine g_aload_n cd188_18 rfl rfl ?_
    refine g_getI cd188_19 rfl (OM.o hw) ?_
    obtain ⟨I4, e1, h⟩ := bnd h
    refine G_putI cd188_22 rfl (OM.o hw) (Option.some.inj e1) ?_
    refine g_iconst cd188_25 rfl ?_
    exact g_iret cd188_26 (Or.inr ⟨rfl, Or.inl rfl⟩) (by obtain rfl := Option.some.inj h; rfl)
/-! HiddenOrLostModel.isFresh(I)Z -/
theorem cd189_0 : code9 189 0 = some (0, .aload_n 0, [1], .null, []) := rfl
theorem cd189_1 : code9 189 1 = some (0, .getfield 127, [3, 12, 23, 2], .null, []) := rfl
theorem cd189_4 : code9 189 4 = some (0, .iload_n 1, [1], .null, []) := rfl
theorem cd189_5 : code9 189 5 = some (0, .baload, [1], .null, []) := rfl
theorem cd189_6 : code9 189 6 = some (0, .ifCond .eq 9, [3, 15], .null, []) := rfl
theorem cd189_9 : code9 189 9 = some (0, .aload_n 0, [1], .null, []) := rfl
theorem cd189_10 : code9 189 10 = some (0, .iconst 3, [1], .int 3, []) := rfl
theorem cd189_11 : code9 189 11 = some (0, .invokevirtual 72, [3, 188, 2, 1, 3, 2, 12, 0], .null, []) := rfl
theorem cd189_14 : code9 189 14 = some (0, .ireturn, [1, 3], .null, []) := rfl
theorem cd189_15 : code9 189 15 = some (0, .aload_n 0, [1], .null, []) := rfl
theorem cd189_16 : code9 189 16 = some (0, .getfield 127, [3, 12, 23, 2], .null, []) := rfl
theorem cd189_19 : code9 189 19 = some (0, .iload_n 1, [1], .null, []) := rfl
theorem cd189_20 : code9 189 20 = some (0, .iconst 1, [1], .int 1, []) := rfl
theorem cd189_21 : code9 189 21 = some (0, .bastore, [1], .null, []) := rfl
theorem cd189_22 : code9 189 22 = some (0, .aload_n 0, [1], .null, []) := rfl
theorem cd189_23 : code9 189 23 = some (0, .invokevirtual 82, [3, 179, 1, 1, 0, 5, 12, 0], .null, []) := rfl
theorem cd189_26 : code9 189 26 = some (0, .iconst 1, [1], .int 1, []) := rfl
theorem cd189_27 : code9 189 27 = some (0, .ireturn, [1, 3], .null, []) := rfl
def Mod_isFresh (N : Nat) (l1 : Int32) (I : FI) (J : FJ) : Option (Bool × FI × FJ) := if in9 l1 64 then (if (I 215 l1.toNatClampNeg) = 0 then (Option.bind (some (up2 I 215 l1.toNatClampNeg (vp_nar .boolean (1 : Int32)))) fun I2 => (Option.bind (Mod_go N I2 J) fun x3 => (some (true, x3.1, x3.2)))) else (Option.bind (Mod_bad 3 I) fun x4 => (some (x4.1, x4.2, J)))) else none
set_option maxRecDepth 8000 in
theorem t_Mod_isFresh {d : Nat} {N : Nat} {c : Nat × Nat} {S : Nat → Nat × Nat} {P : Nat → Nat → Option Nat} {I : FI} {J : FJ} {l1 : Int32} {r : Bool × FI × FJ} (hd : 2 ≤ d) (hw : OM S P) (h : Mod_isFresh N l1 I J = some r) : Go d M_Mod_isFresh 0 [some (.ref 204), some (.int l1)] [] (c, S, I, J, P) (some (.int (b2i r.1)), false, (c, S, r.2.1, r.2.2, P)) := by
  obtain ⟨d, rfl⟩ : ∃ e, d = e + 1 := ⟨d - 1, by omega⟩
  unfold Mod_isFresh at h
  refine g_aload_n cd189_0 rfl rfl ?_
  refine g_getP cd189_1 rfl (OM.o hw) (OM.p23 hw) ?_
  refine g_iload_n cd189_4 rfl rfl ?_
  obtain ⟨hg1, h⟩ := grd h
  refine G_zald cd189_5 rfl (OM.s23 hw) hg1 ?_
  refine g_if_eq cd189_6 rfl (fun hb => ?_) (fun hb => ?_)
  · have h := ifpE hb h
    refine g_aload_n cd189_15 rfl rfl ?_
    refine g_getP cd189_16 rfl (OM.o hw) (OM.p23 hw) ?_
    refine g_iload_n cd189_19 rfl rfl ?_
    refine g_iconst cd189_20 rfl ?_
    obtain ⟨I2, e1, h⟩ := bnd h
    refine G_bastZ cd189_21 rfl (OM.s23 hw) hg1 (Option.some.inj e1) ?_
    refine g_aload_n cd189_22 rfl rfl ?_
    obtain ⟨x3, hx, h⟩ := bnd h
    refine g_callVV (L := [some (.ref 204), none, none, none, none]) cd189_23 rfl rfl rfl rfl rfl (OM.o hw) (t_Mod_go (by omega) hw hx) ?_
    refine g_iconst cd189_26 rfl ?_
    exact g_iret cd189_27 (Or.inr ⟨rfl, Or.inr rfl⟩) (by obtain rfl := Option.some.inj h; rfl)
  · have h := ifnE hb h
    refine g_aload_n cd189_9 rfl rfl ?_
    refine g_iconst cd189_10 rfl ?_
    obtain ⟨x4, hx, h⟩ := bnd h
    refine g_callVZ (L := [some (.ref 204), some (.int 3)]) cd189_11 rfl rfl rfl rfl rfl (OM.o hw) (t_Mod_bad (by omega) hw hx) ?_
    exact g_iret cd189_14 (Or.inr ⟨rfl, b2i_or _⟩) (by obtain rfl := Option.some.inj h; rfl)
/-! HiddenOrLostModel.isIn(III)Z -/
theorem cd191_0 : code9 191 0 = some (0, .iload_n 0, [1], .null, []) := rfl
theorem cd191_1 : code9 191 1 = some (0, .iload_n 1, [1], .null, []) := rfl
theorem cd191_2 : code9 191 2 = some (0, .if_icmp .lt 12, [3, 14], .null, []) := rfl
theorem cd191_5 : code9 191 5 = some (0, .iload_n 0, [1], .null, []) := rfl
theorem cd191_6 : code9 191 6 = some (0, .iload_n 2, [1], .null, []) := rfl
theorem cd191_7 : code9 191 7 = some (0, .if_icmp .gt 7, [3, 14], .null, []) := rfl
theorem cd191_10 : code9 191 10 = some (0, .iconst 1, [1], .int 1, []) := rfl
theorem cd191_11 : code9 191 11 = some (0, .goto 4, [3, 15, 3], .null, []) := rfl
theorem cd191_14 : code9 191 14 = some (4, .iconst 0, [1], .int 0, []) := rfl
theorem cd191_15 : code9 191 15 = some (4, .ireturn, [1, 3], .null, []) := rfl
def Mod_isIn (l0 : Int32) (l1 : Int32) (l2 : Int32) : Bool := if l0 < l1 then (false) else (if l2 < l0 then (false) else (true))
set_option maxRecDepth 8000 in
theorem t_Mod_isIn {d : Nat} {c : Nat × Nat} {S : Nat → Nat × Nat} {P : Nat → Nat → Option Nat} {I : FI} {J : FJ} {l0 : Int32} {l1 : Int32} {l2 : Int32} {r : Bool} (hd : 0 ≤ d) (h : Mod_isIn l0 l1 l2 = r) : Go d M_Mod_isIn 0 [some (.int l0), some (.int l1), some (.int l2)] [] (c, S, I, J, P) (some (.int (b2i r)), false, (c, S, I, J, P)) := by
  unfold Mod_isIn at h
  refine g_iload_n cd191_0 rfl rfl ?_
  refine g_iload_n cd191_1 rfl rfl ?_
  refine g_icmp_lt cd191_2 rfl (fun hb => ?_) (fun hb => ?_)
  · have h := ifpE hb h
    refine g_iconst cd191_14 rfl ?_
    exact g_iret cd191_15 (Or.inr ⟨rfl, Or.inl rfl⟩) (by subst h; rfl)
  · have h := ifnE hb h
    refine g_iload_n cd191_5 rfl rfl ?_
    refine g_iload_n cd191_6 rfl rfl ?_
    refine g_icmp_gt cd191_7 rfl (fun hb => ?_) (fun hb => ?_)
    · have h := ifpE hb h
      refine g_iconst cd191_14 rfl ?_
      exact g_iret cd191_15 (Or.inr ⟨rfl, Or.inl rfl⟩) (by subst h; rfl)
    · have h := ifnE hb h
      refine g_iconst cd191_10 rfl ?_
      refine g_goto (ls2 := [some (.int l0), some (.int l1), some (.int l2)]) cd191_11 rfl rfl ?_
      exact g_iret cd191_15 (Or.inr ⟨rfl, Or.inr rfl⟩) (by subst h; rfl)
/-! HiddenOrLostModel.readNumber(II)Z -/
theorem cd190_0 : code9 190 0 = some (0, .aload_n 0, [1], .null, []) := rfl
theorem cd190_1 : code9 190 1 = some (0, .getfield 30, [3, 12, 7, 0], .null, []) := rfl
theorem cd190_4 : code9 190 4 = some (0, .iconst 3, [1], .int 3, []) := rfl
theorem cd190_5 : code9 190 5 = some (0, .if_icmp .eq 9, [3, 14], .null, []) := rfl
theorem cd190_8 : code9 190 8 = some (0, .aload_n 0, [1], .null, []) := rfl
theorem cd190_9 : code9 190 9 = some (0, .iconst 1, [1], .int 1, []) := rfl
theorem cd190_10 : code9 190 10 = some (0, .invokevirtual 72, [3, 188, 2, 1, 3, 2, 12, 0], .null, []) := rfl
theorem cd190_13 : code9 190 13 = some (0, .ireturn, [1, 3], .null, []) := rfl
theorem cd190_14 : code9 190 14 = some (0, .aload_n 0, [1], .null, []) := rfl
theorem cd190_15 : code9 190 15 = some (0, .getfield 47, [3, 12, 8, 0], .null, []) := rfl
theorem cd190_18 : code9 190 18 = some (0, .iload_n 1, [1], .null, []) := rfl
theorem cd190_19 : code9 190 19 = some (0, .iload_n 2, [1], .null, []) := rfl
theorem cd190_20 : code9 190 20 = some (0, .invokestatic 75, [3, 191, 3, 0, 3, 3, 12, 0], .null, []) := rfl
theorem cd190_23 : code9 190 23 = some (0, .ifCond .ne 9, [3, 32], .null, []) := rfl
theorem cd190_26 : code9 190 26 = some (0, .aload_n 0, [1], .null, []) := rfl
theorem cd190_27 : code9 190 27 = some (0, .iconst 2, [1], .int 2, []) := rfl
theorem cd190_28 : code9 190 28 = some (0, .invokevirtual 72, [3, 188, 2, 1, 3, 2, 12, 0], .null, []) := rfl
theorem cd190_31 : code9 190 31 = some (0, .ireturn, [1, 3], .null, []) := rfl
theorem cd190_32 : code9 190 32 = some (0, .aload_n 0, [1], .null, []) := rfl
theorem cd190_33 : code9 190 33 = some (0, .aload_n 0, [1], .null, []) := rfl
theorem cd190_34 : code9 190 34 = some (0, .getfield 47, [3, 12, 8, 0], .null, []) := rfl
theorem cd190_37 : code9 190 37 = some (0, .putfield 79, [3, 12, 13, 0], .null, []) := rfl
theorem cd190_40 : code9 190 40 = some (0, .aload_n 0, [1], .null, []) := rfl
theorem cd190_41 : code9 190 41 = some (0, .invokevirtual 82, [3, 179, 1, 1, 0, 5, 12, 0], .null, []) := rfl
theorem cd190_44 : code9 190 44 = some (0, .iconst 1, [1], .int 1, []) := rfl
theorem cd190_45 : code9 190 45 = some (0, .ireturn, [1, 3], .null, []) := rfl
def Mod_readNumber (N : Nat) (l1 : Int32) (l2 : Int32) (I : FI) (J : FJ) : Option (Bool × FI × FJ) := if (I 204 7) = 3 then (if (Mod_isIn (I 204 8) l1 l2) then (Option.bind (some (up2 I 204 13 (I 204 8))) fun I2 => (Option.bind (Mod_go N I2 J) fun x3 => (some (true, x3.1, x3.2)))) else (Option.bind (Mod_bad 2 I) fun x1 => (some (x1.1, x1.2, J)))) else (Option.bind (Mod_bad 1 I) fun x4 => (some (x4.1, x4.2, J)))
set_option maxRecDepth 8000 in
theorem t_Mod_readNumber {d : Nat} {N : Nat} {c : Nat × Nat} {S : Nat → Nat × Nat} {P : Nat → Nat → Option Nat} {I : FI} {J : FJ} {l1 : Int32} {l2 : Int32} {r : Bool × FI × FJ} (hd : 2 ≤ d) (hw : OM S P) (h : Mod_readNumber N l1 l2 I J = some r) : Go d M_Mod_readNumber 0 [some (.ref 204), some (.int l1), some (.int l2)] [] (c, S, I, J, P) (some (.int (b2i r.1)), false, (c, S, r.2.1, r.2.2, P)) := by
  obtain ⟨d, rfl⟩ : ∃ e, d = e + 1 := ⟨d - 1, by omega⟩
  unfold Mod_readNumber at h
  refine g_aload_n cd190_0 rfl rfl ?_
  refine g_getI cd190_1 rfl (OM.o hw) ?_
  refine g_iconst cd190_4 rfl ?_
  refine g_icmp_eq cd190_5 rfl (fun hb => ?_) (fun hb => ?_)
  · have h := ifpE hb h
    refine g_aload_n cd190_14 rfl rfl ?_
    refine g_getI cd190_15 rfl (OM.o hw) ?_
    refine g_iload_n cd190_18 rfl rfl ?_
    refine g_iload_n cd190_19 rfl rfl ?_
    refine g_callSZ (L := [some (.int (I 204 8)), some (.int l1), some (.int l2)]) cd190_20 rfl rfl rfl rfl rfl (t_Mod_isIn (by omega)  rfl) ?_
    refine g_if_ne cd190_23 rfl (fun hb => ?_) (fun hb => ?_)
    · have h := ifnE (b2i_f hb) h
      refine g_aload_n cd190_26 rfl rfl ?_
      refine g_iconst cd190_27 rfl ?_
      obtain ⟨x1, hx, h⟩ := bnd h
      refine g_callVZ (L := [some (.ref 204), some (.int 2)]) cd190_28 rfl rfl rfl rfl rfl (OM.o hw) (t_Mod_bad (by omega) hw hx) ?_
      exact g_iret cd190_31 (Or.inr ⟨rfl, b2i_or _⟩) (by obtain rfl := Option.some.inj h; rfl)
    · have h := ifpE (b2i_t hb) h
      refine g_aload_n cd190_32 rfl rfl ?_
      refine g_aload_n cd190_33 rfl rfl ?_
      refine g_getI cd190_34 rfl (OM.o hw) ?_
      obtain ⟨I2, e1, h⟩ := bnd h
      refine G_putI cd190_37 rfl (OM.o hw) (Option.some.inj e1) ?_
      refine g_aload_n cd190_40 rfl rfl ?_
      obtain ⟨x3, hx, h⟩ := bnd h
      refine g_callVV (L := [some (.ref 204), none, none, none, none]) cd190_41 rfl rfl rfl rfl rfl (OM.o hw) (t_Mod_go (by omega) hw hx) ?_
      refine g_iconst cd190_44 rfl ?_
      exact g_iret cd190_45 (Or.inr ⟨rfl, Or.inr rfl⟩) (by obtain rfl := Option.some.inj h; rfl)
  · have h := ifnE hb h
    refine g_aload_n cd190_8 rfl rfl ?_
    refine g_iconst cd190_9 rfl ?_
    obtain ⟨x4, hx, h⟩ := bnd h
    refine g_callVZ (L := [some (.ref 204), some (.int 1)]) cd190_10 rfl rfl rfl rfl rfl (OM.o hw) (t_Mod_bad (by omega) hw hx) ?_
    exact g_iret cd190_13 (Or.inr ⟨rfl, b2i_or _⟩) (by obtain rfl := Option.some.inj h; rfl)
/-! HiddenOrLostModel.put(IZ)Z -/
theorem cd192_0 : code9 192 0 = some (0, .iload_n 2, [1], .null, []) := rfl
theorem cd192_1 : code9 192 1 = some (0, .ifCond .eq 13, [3, 14], .null, []) := rfl
theorem cd192_4 : code9 192 4 = some (0, .aload_n 0, [1], .null, []) := rfl
theorem cd192_5 : code9 192 5 = some (0, .getfield 101, [3, 12, 15, 2], .null, []) := rfl
theorem cd192_8 : code9 192 8 = some (0, .iload_n 1, [1], .null, []) := rfl
theorem cd192_9 : code9 192 9 = some (0, .aload_n 0, [1], .null, []) := rfl
theorem cd192_10 : code9 192 10 = some (0, .getfield 79, [3, 12, 13, 0], .null, []) := rfl
theorem cd192_13 : code9 192 13 = some (0, .iastore, [1], .null, []) := rfl
theorem cd192_14 : code9 192 14 = some (4, .iload_n 2, [1], .null, []) := rfl
theorem cd192_15 : code9 192 15 = some (0, .ireturn, [1, 3], .null, []) := rfl
def Mod_put (l1 : Int32) (b2 : Bool) (I : FI) : Option (Bool × FI) := if b2 then (if in9 l1 102 then (Option.bind (some (up2 I 207 l1.toNatClampNeg (I 204 13))) fun I2 => (some (b2, I2))) else none) else (some (b2, I))
set_option maxRecDepth 8000 in
theorem t_Mod_put {d : Nat} {c : Nat × Nat} {S : Nat → Nat × Nat} {P : Nat → Nat → Option Nat} {I : FI} {J : FJ} {l1 : Int32} {b2 : Bool} {r : Bool × FI} (hd : 0 ≤ d) (hw : OM S P) (h : Mod_put l1 b2 I = some r) : Go d M_Mod_put 0 [some (.ref 204), some (.int l1), some (.int (b2i b2))] [] (c, S, I, J, P) (some (.int (b2i r.1)), false, (c, S, r.2, J, P)) := by
  unfold Mod_put at h
  refine g_iload_n cd192_0 rfl rfl ?_
  refine g_if_eq cd192_1 rfl (fun hb => ?_) (fun hb => ?_)
  · have h := ifnE (b2i_f hb) h
    refine g_iload_n cd192_14 rfl rfl ?_
    exact g_iret cd192_15 (Or.inr ⟨rfl, b2i_or _⟩) (by obtain rfl := Option.some.inj h; rfl)
  · have h := ifpE (b2i_t hb) h
    refine g_aload_n cd192_4 rfl rfl ?_
    refine g_getP cd192_5 rfl (OM.o hw) (OM.p15 hw) ?_
    refine g_iload_n cd192_8 rfl rfl ?_
    refine g_aload_n cd192_9 rfl rfl ?_
    refine g_getI cd192_10 rfl (OM.o hw) ?_
    obtain ⟨hg1, h⟩ := grd h
    obtain ⟨I2, e1, h⟩ := bnd h
    refine G_iast cd192_13 rfl (OM.s15 hw) hg1 (Option.some.inj e1) ?_
    refine g_iload_n cd192_14 rfl rfl ?_
    exact g_iret cd192_15 (Or.inr ⟨rfl, b2i_or _⟩) (by obtain rfl := Option.some.inj h; rfl)
/-! HiddenOrLostModel.readField()Z -/
theorem cd187_0 : code9 187 0 = some (0, .aload_n 0, [1], .null, []) := rfl
theorem cd187_1 : code9 187 1 = some (0, .getfield 101, [3, 12, 15, 2], .null, []) := rfl
theorem cd187_4 : code9 187 4 = some (0, .iconst 1, [1], .int 1, []) := rfl
theorem cd187_5 : code9 187 5 = some (0, .iaload, [1], .null, []) := rfl
theorem cd187_6 : code9 187 6 = some (0, .ifCond .le 9, [3, 15], .null, []) := rfl
theorem cd187_9 : code9 187 9 = some (0, .aload_n 0, [1], .null, []) := rfl
theorem cd187_10 : code9 187 10 = some (0, .iconst 3, [1], .int 3, []) := rfl
theorem cd187_11 : code9 187 11 = some (0, .invokevirtual 72, [3, 188, 2, 1, 3, 2, 12, 0], .null, []) := rfl
theorem cd187_14 : code9 187 14 = some (0, .ireturn, [1, 3], .null, []) := rfl
theorem cd187_15 : code9 187 15 = some (0, .aload_n 0, [1], .null, []) := rfl
theorem cd187_16 : code9 187 16 = some (0, .iconst 0, [1], .int 0, []) := rfl
theorem cd187_17 : code9 187 17 = some (0, .invokevirtual 180, [3, 189, 2, 1, 3, 2, 12, 0], .null, []) := rfl
theorem cd187_20 : code9 187 20 = some (0, .ifCond .eq 37, [3, 57], .null, []) := rfl
theorem cd187_23 : code9 187 23 = some (0, .aload_n 0, [1], .null, []) := rfl
theorem cd187_24 : code9 187 24 = some (0, .iconst 3, [1], .int 3, []) := rfl
theorem cd187_25 : code9 187 25 = some (0, .aload_n 0, [1], .null, []) := rfl
theorem cd187_26 : code9 187 26 = some (0, .iconst 2, [1], .int 2, []) := rfl
theorem cd187_27 : code9 187 27 = some (0, .bipush 6, [2], .int 6, []) := rfl
theorem cd187_29 : code9 187 29 = some (0, .invokevirtual 183, [3, 190, 3, 1, 3, 3, 12, 0], .null, []) := rfl
theorem cd187_32 : code9 187 32 = some (0, .invokevirtual 187, [3, 192, 3, 1, 3, 3, 12, 0], .null, []) := rfl
theorem cd187_35 : code9 187 35 = some (0, .ifCond .eq 22, [3, 57], .null, []) := rfl
theorem cd187_38 : code9 187 38 = some (0, .aload_n 0, [1], .null, []) := rfl
theorem cd187_39 : code9 187 39 = some (0, .iconst 4, [1], .int 4, []) := rfl
theorem cd187_40 : code9 187 40 = some (0, .aload_n 0, [1], .null, []) := rfl
theorem cd187_41 : code9 187 41 = some (0, .iconst 2, [1], .int 2, []) := rfl
theorem cd187_42 : code9 187 42 = some (0, .bipush 6, [2], .int 6, []) := rfl
theorem cd187_44 : code9 187 44 = some (0, .invokevirtual 183, [3, 190, 3, 1, 3, 3, 12, 0], .null, []) := rfl
theorem cd187_47 : code9 187 47 = some (0, .invokevirtual 187, [3, 192, 3, 1, 3, 3, 12, 0], .null, []) := rfl
theorem cd187_50 : code9 187 50 = some (0, .ifCond .eq 7, [3, 57], .null, []) := rfl
theorem cd187_53 : code9 187 53 = some (0, .iconst 1, [1], .int 1, []) := rfl
theorem cd187_54 : code9 187 54 = some (0, .goto 4, [3, 58, 1], .null, []) := rfl
theorem cd187_57 : code9 187 57 = some (2, .iconst 0, [1], .int 0, []) := rfl
theorem cd187_58 : code9 187 58 = some (2, .ireturn, [1, 3], .null, []) := rfl
def Mod_readField (N : Nat) (I : FI) (J : FJ) : Option (Bool × FI × FJ) := if (I 207 ((1 : Int32).toNatClampNeg)) ≤ 0 then (Option.bind (Mod_isFresh N 0 I J) fun x1 => (if x1.1 then (Option.bind (Mod_readNumber N 2 6 x1.2.1 x1.2.2) fun x2 => (Option.bind (Mod_put 3 x2.1 x2.2.1) fun x3 => (if x3.1 then (Option.bind (Mod_readNumber N 2 6 x3.2 x2.2.2) fun x4 => (Option.bind (Mod_put 4 x4.1 x4.2.1) fun x5 => (if x5.1 then (some (true, x5.2, x4.2.2)) else (some (false, x5.2, x4.2.2))))) else (some (false, x3.2, x2.2.2))))) else (some (false, x1.2.1, x1.2.2)))) else (Option.bind (Mod_bad 3 I) fun x6 => (some (x6.1, x6.2, J)))
set_option maxRecDepth 8000 in
theorem t_Mod_readField {d : Nat} {N : Nat} {c : Nat × Nat} {S : Nat → Nat × Nat} {P : Nat → Nat → Option Nat} {I : FI} {J : FJ} {r : Bool × FI × FJ} (hd : 3 ≤ d) (hw : OM S P) (h : Mod_readField N I J = some r) : Go d M_Mod_readField 0 [some (.ref 204)] [] (c, S, I, J, P) (some (.int (b2i r.1)), false, (c, S, r.2.1, r.2.2, P)) := by
  obtain ⟨d, rfl⟩ : ∃ e, d = e + 1 := ⟨d - 1, by omega⟩
  unfold Mod_readField at h
  refine g_aload_n cd187_0 rfl rfl ?_
  refine g_getP cd187_1 rfl (OM.o hw) (OM.p15 hw) ?_
  refine g_iconst cd187_4 rfl ?_
  refine G_iald cd187_5 rfl (OM.s15 hw) (by decide) ?_
  refine g_if_le cd187_6 rfl (fun hb => ?_) (fun hb => ?_)
  · have h := ifpE hb h
    refine g_aload_n cd187_15 rfl rfl ?_
    refine g_iconst cd187_16 rfl ?_
    obtain ⟨x1, hx, h⟩ := bnd h
    refine g_callVZ (L := [some (.ref 204), some (.int 0)]) cd187_17 rfl rfl rfl rfl rfl (OM.o hw) (t_Mod_isFresh (by omega) hw hx) ?_
    refine g_if_eq cd187_20 rfl (fun hb => ?_) (fun hb => ?_)
    · have h := ifnE (b2i_f hb) h
      refine g_iconst cd187_57 rfl ?_
      exact g_iret cd187_58 (Or.inr ⟨rfl, Or.inl rfl⟩) (by obtain rfl := Option.some.inj h; rfl)
    · have h := ifpE (b2i_t hb) h
      refine g_aload_n cd187_23 rfl rfl ?_
      refine g_iconst cd187_24 rfl ?_
      refine g_aload_n cd187_25 rfl rfl ?_
      refine g_iconst cd187_26 rfl ?_
      refine g_bipush cd187_27 rfl ?_
      obtain ⟨x2, hx, h⟩ := bnd h
      refine g_callVZ (L := [some (.ref 204), some (.int 2), some (.int 6)]) cd187_29 rfl rfl rfl rfl rfl (OM.o hw) (t_Mod_readNumber (by omega) hw hx) ?_
      obtain ⟨x3, hx, h⟩ := bnd h
      refine g_callVZ (L := [some (.ref 204), some (.int 3), some (.int (b2i x2.1))]) cd187_32 rfl rfl rfl rfl rfl (OM.o hw) (t_Mod_put (by omega) hw hx) ?_
      refine g_if_eq cd187_35 rfl (fun hb => ?_) (fun hb => ?_)
      · have h := ifnE (b2i_f hb) h
        refine g_iconst cd187_57 rfl ?_
        exact g_iret cd187_58 (Or.inr ⟨rfl, Or.inl rfl⟩) (by obtain rfl := Option.some.inj h; rfl)
      · have h := ifpE (b2i_t hb) h
        refine g_aload_n cd187_38 rfl rfl ?_
        refine g_iconst cd187_39 rfl ?_
        refine g_aload_n cd187_40 rfl rfl ?_
        refine g_iconst cd187_41 rfl ?_
        refine g_bipush cd187_42 rfl ?_
        obtain ⟨x4, hx, h⟩ := bnd h
        refine g_callVZ (L := [some (.ref 204), some (.int 2), some (.int 6)]) cd187_44 rfl rfl rfl rfl rfl (OM.o hw) (t_Mod_readNumber (by omega) hw hx) ?_
        obtain ⟨x5, hx, h⟩ := bnd h
        refine g_callVZ (L := [some (.ref 204), some (.int 4), some (.int (b2i x4.1))]) cd187_47 rfl rfl rfl rfl rfl (OM.o hw) (t_Mod_put (by omega) hw hx) ?_
        refine g_if_eq cd187_50 rfl (fun hb => ?_) (fun hb => ?_)
        · have h := ifnE (b2i_f hb) h
          refine g_iconst cd187_57 rfl ?_
          exact g_iret cd187_58 (Or.inr ⟨rfl, Or.inl rfl⟩) (by obtain rfl := Option.some.inj h; rfl)
        · have h := ifpE (b2i_t hb) h
          refine g_iconst cd187_53 rfl ?_
          refine g_goto (ls2 := [some (.ref 204)]) cd187_54 rfl rfl ?_
          exact g_iret cd187_58 (Or.inr ⟨rfl, Or.inr rfl⟩) (by obtain rfl := Option.some.inj h; rfl)
  · have h := ifnE hb h
    refine g_aload_n cd187_9 rfl rfl ?_
    refine g_iconst cd187_10 rfl ?_
    obtain ⟨x6, hx, h⟩ := bnd h
    refine g_callVZ (L := [some (.ref 204), some (.int 3)]) cd187_11 rfl rfl rfl rfl rfl (OM.o hw) (t_Mod_bad (by omega) hw hx) ?_
    exact g_iret cd187_14 (Or.inr ⟨rfl, b2i_or _⟩) (by obtain rfl := Option.some.inj h; rfl)
/-! HiddenOrLostModel.readFirst(II)Z -/
theorem cd194_0 : code9 194 0 = some (0, .aload_n 0, [1], .null, []) := rfl
theorem cd194_1 : code9 194 1 = some (0, .getfield 101, [3, 12, 15, 2], .null, []) := rfl
theorem cd194_4 : code9 194 4 = some (0, .iload_n 1, [1], .null, []) := rfl
theorem cd194_5 : code9 194 5 = some (0, .iaload, [1], .null, []) := rfl
theorem cd194_6 : code9 194 6 = some (0, .iload_n 2, [1], .null, []) := rfl
theorem cd194_7 : code9 194 7 = some (0, .if_icmp .ne 9, [3, 16], .null, []) := rfl
theorem cd194_10 : code9 194 10 = some (0, .aload_n 0, [1], .null, []) := rfl
theorem cd194_11 : code9 194 11 = some (0, .iconst 4, [1], .int 4, []) := rfl
theorem cd194_12 : code9 194 12 = some (0, .invokevirtual 72, [3, 188, 2, 1, 3, 2, 12, 0], .null, []) := rfl
theorem cd194_15 : code9 194 15 = some (0, .ireturn, [1, 3], .null, []) := rfl
theorem cd194_16 : code9 194 16 = some (0, .aload_n 0, [1], .null, []) := rfl
theorem cd194_17 : code9 194 17 = some (0, .invokevirtual 82, [3, 179, 1, 1, 0, 5, 12, 0], .null, []) := rfl
theorem cd194_20 : code9 194 20 = some (0, .iconst 1, [1], .int 1, []) := rfl
theorem cd194_21 : code9 194 21 = some (0, .ireturn, [1, 3], .null, []) := rfl
def Mod_readFirst (N : Nat) (l1 : Int32) (l2 : Int32) (I : FI) (J : FJ) : Option (Bool × FI × FJ) := if in9 l1 102 then (if (I 207 l1.toNatClampNeg) = l2 then (Option.bind (Mod_bad 4 I) fun x2 => (some (x2.1, x2.2, J))) else (Option.bind (Mod_go N I J) fun x3 => (some (true, x3.1, x3.2)))) else none
set_option maxRecDepth 8000 in
theorem t_Mod_readFirst {d : Nat} {N : Nat} {c : Nat × Nat} {S : Nat → Nat × Nat} {P : Nat → Nat → Option Nat} {I : FI} {J : FJ} {l1 : Int32} {l2 : Int32} {r : Bool × FI × FJ} (hd : 2 ≤ d) (hw : OM S P) (h : Mod_readFirst N l1 l2 I J = some r) : Go d M_Mod_readFirst 0 [some (.ref 204), some (.int l1), some (.int l2)] [] (c, S, I, J, P) (some (.int (b2i r.1)), false, (c, S, r.2.1, r.2.2, P)) := by
  obtain ⟨d, rfl⟩ : ∃ e, d = e + 1 := ⟨d - 1, by omega⟩
  unfold Mod_readFirst at h
  refine g_aload_n cd194_0 rfl rfl ?_
  refine g_getP cd194_1 rfl (OM.o hw) (OM.p15 hw) ?_
  refine g_iload_n cd194_4 rfl rfl ?_
  obtain ⟨hg1, h⟩ := grd h
  refine G_iald cd194_5 rfl (OM.s15 hw) hg1 ?_
  refine g_iload_n cd194_6 rfl rfl ?_
  refine g_icmp_ne cd194_7 rfl (fun hb => ?_) (fun hb => ?_)
  · have h := ifpE hb h
    refine g_aload_n cd194_10 rfl rfl ?_
    refine g_iconst cd194_11 rfl ?_
    obtain ⟨x2, hx, h⟩ := bnd h
    refine g_callVZ (L := [some (.ref 204), some (.int 4)]) cd194_12 rfl rfl rfl rfl rfl (OM.o hw) (t_Mod_bad (by omega) hw hx) ?_
    exact g_iret cd194_15 (Or.inr ⟨rfl, b2i_or _⟩) (by obtain rfl := Option.some.inj h; rfl)
  · have h := ifnE hb h
    refine g_aload_n cd194_16 rfl rfl ?_
    obtain ⟨x3, hx, h⟩ := bnd h
    refine g_callVV (L := [some (.ref 204), none, none, none, none]) cd194_17 rfl rfl rfl rfl rfl (OM.o hw) (t_Mod_go (by omega) hw hx) ?_
    refine g_iconst cd194_20 rfl ?_
    exact g_iret cd194_21 (Or.inr ⟨rfl, Or.inr rfl⟩) (by obtain rfl := Option.some.inj h; rfl)
/-! HiddenOrLostModel.isName()Z -/
theorem cd196_0 : code9 196 0 = some (0, .aload_n 0, [1], .null, []) := rfl
theorem cd196_1 : code9 196 1 = some (0, .getfield 30, [3, 12, 7, 0], .null, []) := rfl
theorem cd196_4 : code9 196 4 = some (0, .iconst 2, [1], .int 2, []) := rfl
theorem cd196_5 : code9 196 5 = some (0, .if_icmp .eq 5, [3, 10], .null, []) := rfl
theorem cd196_8 : code9 196 8 = some (0, .iconst 0, [1], .int 0, []) := rfl
theorem cd196_9 : code9 196 9 = some (0, .ireturn, [1, 3], .null, []) := rfl
theorem cd196_10 : code9 196 10 = some (0, .iconst 0, [1], .int 0, []) := rfl
theorem cd196_11 : code9 196 11 = some (0, .istore_n 1, [1], .null, []) := rfl
theorem cd196_12 : code9 196 12 = some (3, .iload_n 1, [1], .null, []) := rfl
theorem cd196_13 : code9 196 13 = some (0, .bipush 34, [2], .int 34, []) := rfl
theorem cd196_15 : code9 196 15 = some (0, .if_icmp .gt 23, [3, 38], .null, []) := rfl
theorem cd196_18 : code9 196 18 = some (0, .aload_n 0, [1], .null, []) := rfl
theorem cd196_19 : code9 196 19 = some (0, .getfield 43, [3, 12, 12, 1], .null, []) := rfl
theorem cd196_22 : code9 196 22 = some (0, .iload_n 1, [1], .null, []) := rfl
theorem cd196_23 : code9 196 23 = some (0, .invokestatic 62, [3, 185, 1, 0, 2, 1, 12, 0], .null, []) := rfl
theorem cd196_26 : code9 196 26 = some (0, .lcmp, [1], .null, []) := rfl
theorem cd196_27 : code9 196 27 = some (0, .ifCond .ne 5, [3, 32], .null, []) := rfl
theorem cd196_30 : code9 196 30 = some (0, .iconst 0, [1], .int 0, []) := rfl
theorem cd196_31 : code9 196 31 = some (0, .ireturn, [1, 3], .null, []) := rfl
theorem cd196_32 : code9 196 32 = some (0, .iinc 1 1, [3], .int 1, []) := rfl
theorem cd196_35 : code9 196 35 = some (0, .goto (-23), [3, 12, 2], .null, []) := rfl
theorem cd196_38 : code9 196 38 = some (0, .iconst 1, [1], .int 1, []) := rfl
theorem cd196_39 : code9 196 39 = some (0, .ireturn, [1, 3], .null, []) := rfl
def Mod_isName_12 (N : Nat) : Nat → Int32 → FI → FJ → Option (Bool)
  | 0 => fun _ _ _ => none
  | n + 1 => fun l1 I J => if 34 < l1 then (some true) else (if (J 204 12) = (Mod_wordOf l1) then (some false) else (Mod_isName_12 N n (l1 + 1) I J))
def Mod_isName (N : Nat) (I : FI) (J : FJ) : Option (Bool) := if (I 204 7) = 2 then (Mod_isName_12 N N 0 I J) else (some false)
set_option maxRecDepth 8000 in
theorem t_Mod_isName_12 {d : Nat} {N : Nat} {c : Nat × Nat} {S : Nat → Nat × Nat} {P : Nat → Nat → Option Nat} {r : Bool} (hd : 2 ≤ (d + 1)) (hw : OM S P) : ∀ (n : Nat) (l1 : Int32) (I : FI) (J : FJ), Mod_isName_12 N n l1 I J = some r → Go (d + 1) M_Mod_isName 12 [some (.ref 204), some (.int l1)] [] (c, S, I, J, P) (some (.int (b2i r)), false, (c, S, I, J, P)) := by
  intro n
  induction n with
  | zero =>
    intro l1 I J h
    cases h
  | succ n ih =>
    intro l1 I J h
    unfold Mod_isName_12 at h
    refine g_iload_n cd196_12 rfl rfl ?_
    refine g_bipush cd196_13 rfl ?_
    refine g_icmp_gt cd196_15 rfl (fun hb => ?_) (fun hb => ?_)
    · have h := ifpE hb h
      refine g_iconst cd196_38 rfl ?_
      exact g_iret cd196_39 (Or.inr ⟨rfl, Or.inr rfl⟩) (by obtain rfl := Option.some.inj h; rfl)
    · have h := ifnE hb h
      refine g_aload_n cd196_18 rfl rfl ?_
      refine g_getJ cd196_19 rfl (OM.o hw) ?_
      refine g_iload_n cd196_22 rfl rfl ?_
      refine g_callSJ (L := [some (.int l1)]) cd196_23 rfl rfl rfl rfl rfl (t_Mod_wordOf (by omega)  rfl) ?_
      refine g_lcmp cd196_26 rfl ?_
      refine g_if_ne cd196_27 rfl (fun hb => ?_) (fun hb => ?_)
      · have h := ifpE (lgc_eq.mp hb) h
        refine g_iconst cd196_30 rfl ?_
        exact g_iret cd196_31 (Or.inr ⟨rfl, Or.inl rfl⟩) (by obtain rfl := Option.some.inj h; rfl)
      · have h := ifnE (fun q => hb (lgc_eq.mpr q)) h
        refine g_iinc (ls2 := [some (.ref 204), some (.int (l1 + 1))]) cd196_32 rfl rfl rfl ?_
        refine g_goto (ls2 := [some (.ref 204), some (.int (l1 + 1))]) cd196_35 rfl rfl ?_
        exact ih (l1 + 1) I J h
set_option maxRecDepth 8000 in
theorem t_Mod_isName {d : Nat} {N : Nat} {c : Nat × Nat} {S : Nat → Nat × Nat} {P : Nat → Nat → Option Nat} {I : FI} {J : FJ} {r : Bool} (hd : 2 ≤ d) (hw : OM S P) (h : Mod_isName N I J = some r) : Go d M_Mod_isName 0 [some (.ref 204), none] [] (c, S, I, J, P) (some (.int (b2i r)), false, (c, S, I, J, P)) := by
  obtain ⟨d, rfl⟩ : ∃ e, d = e + 1 := ⟨d - 1, by omega⟩
  unfold Mod_isName at h
  refine g_aload_n cd196_0 rfl rfl ?_
  refine g_getI cd196_1 rfl (OM.o hw) ?_
  refine g_iconst cd196_4 rfl ?_
  refine g_icmp_eq cd196_5 rfl (fun hb => ?_) (fun hb => ?_)
  · have h := ifpE hb h
    refine g_iconst cd196_10 rfl ?_
    refine g_istore_n (ls2 := [some (.ref 204), some (.int 0)]) cd196_11 rfl rfl ?_
    exact t_Mod_isName_12 hd hw _ 0 I J h
  · have h := ifnE hb h
    refine g_iconst cd196_8 rfl ?_
    exact g_iret cd196_9 (Or.inr ⟨rfl, Or.inl rfl⟩) (by obtain rfl := Option.some.inj h; rfl)
/-! HiddenOrLostModel.findIn([JIIJ)I -/
theorem cd197_0 : code9 197 0 = some (0, .iconst 0, [1], .int 0, []) := rfl
theorem cd197_1 : code9 197 1 = some (0, .istore 5, [2], .null, []) := rfl
theorem cd197_3 : code9 197 3 = some (7, .iload 5, [2], .null, []) := rfl
theorem cd197_5 : code9 197 5 = some (0, .iload_n 2, [1], .null, []) := rfl
theorem cd197_6 : code9 197 6 = some (0, .if_icmp .ge 23, [3, 29], .null, []) := rfl
theorem cd197_9 : code9 197 9 = some (0, .aload_n 0, [1], .null, []) := rfl
theorem cd197_10 : code9 197 10 = some (0, .iload_n 1, [1], .null, []) := rfl
theorem cd197_11 : code9 197 11 = some (0, .iload 5, [2], .null, []) := rfl
theorem cd197_13 : code9 197 13 = some (0, .iadd, [1], .null, []) := rfl
theorem cd197_14 : code9 197 14 = some (0, .laload, [1], .null, []) := rfl
theorem cd197_15 : code9 197 15 = some (0, .lload_n 3, [1], .null, []) := rfl
theorem cd197_16 : code9 197 16 = some (0, .lcmp, [1], .null, []) := rfl
theorem cd197_17 : code9 197 17 = some (0, .ifCond .ne 6, [3, 23], .null, []) := rfl
theorem cd197_20 : code9 197 20 = some (0, .iload 5, [2], .null, []) := rfl
theorem cd197_22 : code9 197 22 = some (0, .ireturn, [1, 1], .null, []) := rfl
theorem cd197_23 : code9 197 23 = some (0, .iinc 5 1, [3], .int 1, []) := rfl
theorem cd197_26 : code9 197 26 = some (0, .goto (-23), [3, 3, 6], .null, []) := rfl
theorem cd197_29 : code9 197 29 = some (0, .iconst (-1), [1], .int (-1), []) := rfl
theorem cd197_30 : code9 197 30 = some (0, .ireturn, [1, 1], .null, []) := rfl
def Mod_findIn_3 (N : Nat) (a0 n0 : Nat) : Nat → Int32 → Int32 → Int64 → Int32 → FJ → Option (Int32)
  | 0 => fun _ _ _ _ _ => none
  | n + 1 => fun l1 l2 l3 l5 J => if l2 ≤ l5 then (some (-1)) else (if in9 (l1 + l5) n0 then (if (J a0 ((l1 + l5).toNatClampNeg)) = l3 then (some l5) else (Mod_findIn_3 N a0 n0 n l1 l2 l3 (l5 + 1) J)) else none)
def Mod_findIn (N : Nat) (a0 n0 : Nat) (l1 : Int32) (l2 : Int32) (l3 : Int64) (J : FJ) : Option (Int32) := Mod_findIn_3 N a0 n0 N l1 l2 l3 0 J
set_option maxRecDepth 8000 in
theorem t_Mod_findIn_3 {d : Nat} {N : Nat} {a0 n0 : Nat} {c : Nat × Nat} {S : Nat → Nat × Nat} {P : Nat → Nat → Option Nat} {r : Int32} (hd : 0 ≤ d) (h0 : S a0 = (4, n0)) : ∀ (n : Nat) (l1 : Int32) (l2 : Int32) (l3 : Int64) (l5 : Int32) (I : FI) (J : FJ), Mod_findIn_3 N a0 n0 n l1 l2 l3 l5 J = some r → Go d M_Mod_findIn 3 [some (.ref a0), some (.int l1), some (.int l2), some (.long l3), none, some (.int l5)] [] (c, S, I, J, P) (some (.int r), false, (c, S, I, J, P)) := by
  intro n
  induction n with
  | zero =>
    intro l1 l2 l3 l5 I J h
    cases h
  | succ n ih =>
    intro l1 l2 l3 l5 I J h
    unfold Mod_findIn_3 at h
    refine g_iload cd197_3 rfl rfl ?_
    refine g_iload_n cd197_5 rfl rfl ?_
    refine g_icmp_ge cd197_6 rfl (fun hb => ?_) (fun hb => ?_)
    · have h := ifpE hb h
      refine g_iconst cd197_29 rfl ?_
      exact g_iret cd197_30 (Or.inl rfl) (by obtain rfl := Option.some.inj h; rfl)
    · have h := ifnE hb h
      refine g_aload_n cd197_9 rfl rfl ?_
      refine g_iload_n cd197_10 rfl rfl ?_
      refine g_iload cd197_11 rfl rfl ?_
      refine g_iadd cd197_13 rfl ?_
      obtain ⟨hg1, h⟩ := grd h
      refine G_lald cd197_14 rfl h0 hg1 ?_
      refine g_lload_n cd197_15 rfl rfl ?_
      refine g_lcmp cd197_16 rfl ?_
      refine g_if_ne cd197_17 rfl (fun hb => ?_) (fun hb => ?_)
      · have h := ifpE (lgc_eq.mp hb) h
        refine g_iload cd197_20 rfl rfl ?_
        exact g_iret cd197_22 (Or.inl rfl) (by obtain rfl := Option.some.inj h; rfl)
      · have h := ifnE (fun q => hb (lgc_eq.mpr q)) h
        refine g_iinc (ls2 := [some (.ref a0), some (.int l1), some (.int l2), some (.long l3), none, some (.int (l5 + 1))]) cd197_23 rfl rfl rfl ?_
        refine g_goto (ls2 := [some (.ref a0), some (.int l1), some (.int l2), some (.long l3), none, some (.int (l5 + 1))]) cd197_26 rfl rfl ?_
        exact ih l1 l2 l3 (l5 + 1) I J h
set_option maxRecDepth 8000 in
theorem t_Mod_findIn {d : Nat} {N : Nat} {a0 n0 : Nat} {c : Nat × Nat} {S : Nat → Nat × Nat} {P : Nat → Nat → Option Nat} {I : FI} {J : FJ} {l1 : Int32} {l2 : Int32} {l3 : Int64} {r : Int32} (hd : 0 ≤ d) (h0 : S a0 = (4, n0)) (h : Mod_findIn N a0 n0 l1 l2 l3 J = some r) : Go d M_Mod_findIn 0 [some (.ref a0), some (.int l1), some (.int l2), some (.long l3), none, none] [] (c, S, I, J, P) (some (.int r), false, (c, S, I, J, P)) := by
  unfold Mod_findIn at h
  refine g_iconst cd197_0 rfl ?_
  refine g_istore (ls2 := [some (.ref a0), some (.int l1), some (.int l2), some (.long l3), none, some (.int 0)]) cd197_1 rfl rfl ?_
  exact t_Mod_findIn_3 hd h0 _ l1 l2 l3 0 I J h
/-! HiddenOrLostModel.readNew(I)Z -/
theorem cd195_0 : code9 195 0 = some (0, .aload_n 0, [1], .null, []) := rfl
theorem cd195_1 : code9 195 1 = some (0, .invokevirtual 169, [3, 196, 1, 1, 3, 2, 12, 0], .null, []) := rfl
theorem cd195_4 : code9 195 4 = some (0, .ifCond .ne 9, [3, 13], .null, []) := rfl
theorem cd195_7 : code9 195 7 = some (0, .aload_n 0, [1], .null, []) := rfl
theorem cd195_8 : code9 195 8 = some (0, .iconst 1, [1], .int 1, []) := rfl
theorem cd195_9 : code9 195 9 = some (0, .invokevirtual 72, [3, 188, 2, 1, 3, 2, 12, 0], .null, []) := rfl
theorem cd195_12 : code9 195 12 = some (0, .ireturn, [1, 3], .null, []) := rfl
theorem cd195_13 : code9 195 13 = some (0, .aload_n 0, [1], .null, []) := rfl
theorem cd195_14 : code9 195 14 = some (0, .getfield 117, [3, 12, 20, 2], .null, []) := rfl
theorem cd195_17 : code9 195 17 = some (0, .iconst 0, [1], .int 0, []) := rfl
theorem cd195_18 : code9 195 18 = some (0, .aload_n 0, [1], .null, []) := rfl
theorem cd195_19 : code9 195 19 = some (0, .getfield 101, [3, 12, 15, 2], .null, []) := rfl
theorem cd195_22 : code9 195 22 = some (0, .iconst 0, [1], .int 0, []) := rfl
theorem cd195_23 : code9 195 23 = some (0, .iaload, [1], .null, []) := rfl
theorem cd195_24 : code9 195 24 = some (0, .aload_n 0, [1], .null, []) := rfl
theorem cd195_25 : code9 195 25 = some (0, .getfield 43, [3, 12, 12, 1], .null, []) := rfl
theorem cd195_28 : code9 195 28 = some (0, .invokestatic 173, [3, 197, 4, 0, 1, 6, 12, 0], .null, []) := rfl
theorem cd195_31 : code9 195 31 = some (0, .iconst (-1), [1], .int (-1), []) := rfl
theorem cd195_32 : code9 195 32 = some (0, .if_icmp .ne 49, [3, 81], .null, []) := rfl
theorem cd195_35 : code9 195 35 = some (0, .aload_n 0, [1], .null, []) := rfl
theorem cd195_36 : code9 195 36 = some (0, .getfield 117, [3, 12, 20, 2], .null, []) := rfl
theorem cd195_39 : code9 195 39 = some (0, .bipush 6, [2], .int 6, []) := rfl
theorem cd195_41 : code9 195 41 = some (0, .aload_n 0, [1], .null, []) := rfl
theorem cd195_42 : code9 195 42 = some (0, .getfield 101, [3, 12, 15, 2], .null, []) := rfl
theorem cd195_45 : code9 195 45 = some (0, .iconst 1, [1], .int 1, []) := rfl
theorem cd195_46 : code9 195 46 = some (0, .iaload, [1], .null, []) := rfl
theorem cd195_47 : code9 195 47 = some (0, .aload_n 0, [1], .null, []) := rfl
theorem cd195_48 : code9 195 48 = some (0, .getfield 43, [3, 12, 12, 1], .null, []) := rfl
theorem cd195_51 : code9 195 51 = some (0, .invokestatic 173, [3, 197, 4, 0, 1, 6, 12, 0], .null, []) := rfl
theorem cd195_54 : code9 195 54 = some (0, .iconst (-1), [1], .int (-1), []) := rfl
theorem cd195_55 : code9 195 55 = some (0, .if_icmp .ne 26, [3, 81], .null, []) := rfl
theorem cd195_58 : code9 195 58 = some (0, .aload_n 0, [1], .null, []) := rfl
theorem cd195_59 : code9 195 59 = some (0, .getfield 117, [3, 12, 20, 2], .null, []) := rfl
theorem cd195_62 : code9 195 62 = some (0, .bipush 16, [2], .int 16, []) := rfl
theorem cd195_64 : code9 195 64 = some (0, .aload_n 0, [1], .null, []) := rfl
theorem cd195_65 : code9 195 65 = some (0, .getfield 101, [3, 12, 15, 2], .null, []) := rfl
theorem cd195_68 : code9 195 68 = some (0, .iconst 2, [1], .int 2, []) := rfl
theorem cd195_69 : code9 195 69 = some (0, .iaload, [1], .null, []) := rfl
theorem cd195_70 : code9 195 70 = some (0, .aload_n 0, [1], .null, []) := rfl
theorem cd195_71 : code9 195 71 = some (0, .getfield 43, [3, 12, 12, 1], .null, []) := rfl
theorem cd195_74 : code9 195 74 = some (0, .invokestatic 173, [3, 197, 4, 0, 1, 6, 12, 0], .null, []) := rfl
theorem cd195_77 : code9 195 77 = some (0, .iconst (-1), [1], .int (-1), []) := rfl
theorem cd195_78 : code9 195 78 = some (0, .if_icmp .eq 9, [3, 87], .null, []) := rfl
theorem cd195_81 : code9 195 81 = some (3, .aload_n 0, [1], .null, []) := rfl
theorem cd195_82 : code9 195 82 = some (0, .iconst 3, [1], .int 3, []) := rfl
theorem cd195_83 : code9 195 83 = some (0, .invokevirtual 72, [3, 188, 2, 1, 3, 2, 12, 0], .null, []) := rfl
theorem cd195_86 : code9 195 86 = some (0, .ireturn, [1, 3], .null, []) := rfl
theorem cd195_87 : code9 195 87 = some (0, .aload_n 0, [1], .null, []) := rfl
theorem cd195_88 : code9 195 88 = some (0, .getfield 117, [3, 12, 20, 2], .null, []) := rfl
theorem cd195_91 : code9 195 91 = some (0, .iload_n 1, [1], .null, []) := rfl
theorem cd195_92 : code9 195 92 = some (0, .aload_n 0, [1], .null, []) := rfl
theorem cd195_93 : code9 195 93 = some (0, .getfield 43, [3, 12, 12, 1], .null, []) := rfl
theorem cd195_96 : code9 195 96 = some (0, .lastore, [1], .null, []) := rfl
theorem cd195_97 : code9 195 97 = some (0, .aload_n 0, [1], .null, []) := rfl
theorem cd195_98 : code9 195 98 = some (0, .invokevirtual 82, [3, 179, 1, 1, 0, 5, 12, 0], .null, []) := rfl
theorem cd195_101 : code9 195 101 = some (0, .iconst 1, [1], .int 1, []) := rfl
theorem cd195_102 : code9 195 102 = some (0, .ireturn, [1, 3], .null, []) := rfl
def Mod_readNew (N : Nat) (l1 : Int32) (I : FI) (J : FJ) : Option (Bool × FI × FJ) := Option.bind (Mod_isName N I J) fun x1 => (if x1 then (Option.bind (Mod_findIn N 212 22 0 (I 207 ((0 : Int32).toNatClampNeg)) (J 204 12) J) fun x3 => (if x3 = (-1) then (Option.bind (Mod_findIn N 212 22 6 (I 207 ((1 : Int32).toNatClampNeg)) (J 204 12) J) fun x4 => (if x4 = (-1) then (Option.bind (Mod_findIn N 212 22 16 (I 207 ((2 : Int32).toNatClampNeg)) (J 204 12) J) fun x5 => (if x5 = (-1) then (if in9 l1 22 then (Option.bind (some (up2 J 212 l1.toNatClampNeg (J 204 12))) fun J7 => (Option.bind (Mod_go N I J7) fun x8 => (some (true, x8.1, x8.2)))) else none) else (Option.bind (Mod_bad 3 I) fun x9 => (some (x9.1, x9.2, J))))) else (Option.bind (Mod_bad 3 I) fun x10 => (some (x10.1, x10.2, J))))) else (Option.bind (Mod_bad 3 I) fun x11 => (some (x11.1, x11.2, J))))) else (Option.bind (Mod_bad 1 I) fun x2 => (some (x2.1, x2.2, J))))
set_option maxRecDepth 8000 in
theorem t_Mod_readNew {d : Nat} {N : Nat} {c : Nat × Nat} {S : Nat → Nat × Nat} {P : Nat → Nat → Option Nat} {I : FI} {J : FJ} {l1 : Int32} {r : Bool × FI × FJ} (hd : 3 ≤ d) (hw : OM S P) (h : Mod_readNew N l1 I J = some r) : Go d M_Mod_readNew 0 [some (.ref 204), some (.int l1)] [] (c, S, I, J, P) (some (.int (b2i r.1)), false, (c, S, r.2.1, r.2.2, P)) := by
  obtain ⟨d, rfl⟩ : ∃ e, d = e + 1 := ⟨d - 1, by omega⟩
  unfold Mod_readNew at h
  refine g_aload_n cd195_0 rfl rfl ?_
  obtain ⟨x1, hx, h⟩ := bnd h
  refine g_callVZ (L := [some (.ref 204), none]) cd195_1 rfl rfl rfl rfl rfl (OM.o hw) (t_Mod_isName (by omega) hw hx) ?_
  refine g_if_ne cd195_4 rfl (fun hb => ?_) (fun hb => ?_)
  · have h := ifnE (b2i_f hb) h
    refine g_aload_n cd195_7 rfl rfl ?_
    refine g_iconst cd195_8 rfl ?_
    obtain ⟨x2, hx, h⟩ := bnd h
    refine g_callVZ (L := [some (.ref 204), some (.int 1)]) cd195_9 rfl rfl rfl rfl rfl (OM.o hw) (t_Mod_bad (by omega) hw hx) ?_
    exact g_iret cd195_12 (Or.inr ⟨rfl, b2i_or _⟩) (by obtain rfl := Option.some.inj h; rfl)
  · have h := ifpE (b2i_t hb) h
    refine g_aload_n cd195_13 rfl rfl ?_
    refine g_getP cd195_14 rfl (OM.o hw) (OM.p20 hw) ?_
    refine g_iconst cd195_17 rfl ?_
    refine g_aload_n cd195_18 rfl rfl ?_
    refine g_getP cd195_19 rfl (OM.o hw) (OM.p15 hw) ?_
    refine g_iconst cd195_22 rfl ?_
    refine G_iald cd195_23 rfl (OM.s15 hw) (by decide) ?_
    refine g_aload_n cd195_24 rfl rfl ?_
    refine g_getJ cd195_25 rfl (OM.o hw) ?_
    obtain ⟨x3, hx, h⟩ := bnd h
    refine g_callSI (L := [some (.ref 212), some (.int 0), some (.int (I 207 ((0 : Int32).toNatClampNeg))), some (.long (J 204 12)), none, none]) cd195_28 rfl rfl rfl rfl rfl (t_Mod_findIn (by omega) (OM.s20 hw) hx) ?_
    refine g_iconst cd195_31 rfl ?_
    refine g_icmp_ne cd195_32 rfl (fun hb => ?_) (fun hb => ?_)
    · have h := ifpE hb h
      refine g_aload_n cd195_35 rfl rfl ?_
      refine g_getP cd195_36 rfl (OM.o hw) (OM.p20 hw) ?_
      refine g_bipush cd195_39 rfl ?_
      refine g_aload_n cd195_41 rfl rfl ?_
      refine g_getP cd195_42 rfl (OM.o hw) (OM.p15 hw) ?_
      refine g_iconst cd195_45 rfl ?_
      refine G_iald cd195_46 rfl (OM.s15 hw) (by decide) ?_
      refine g_aload_n cd195_47 rfl rfl ?_
      refine g_getJ cd195_48 rfl (OM.o hw) ?_
      obtain ⟨x4, hx, h⟩ := bnd h
      refine g_callSI (L := [some (.ref 212), some (.int 6), some (.int (I 207 ((1 : Int32).toNatClampNeg))), some (.long (J 204 12)), none, none]) cd195_51 rfl rfl rfl rfl rfl (t_Mod_findIn (by omega) (OM.s20 hw) hx) ?_
      refine g_iconst cd195_54 rfl ?_
      refine g_icmp_ne cd195_55 rfl (fun hb => ?_) (fun hb => ?_)
      · have h := ifpE hb h
        refine g_aload_n cd195_58 rfl rfl ?_
        refine g_getP cd195_59 rfl (OM.o hw) (OM.p20 hw) ?_
        refine g_bipush cd195_62 rfl ?_
        refine g_aload_n cd195_64 rfl rfl ?_
        refine g_getP cd195_65 rfl (OM.o hw) (OM.p15 hw) ?_
        refine g_iconst cd195_68 rfl ?_
        refine G_iald cd195_69 rfl (OM.s15 hw) (by decide) ?_
        refine g_aload_n cd195_70 rfl rfl ?_
        refine g_getJ cd195_71 rfl (OM.o hw) ?_
        obtain ⟨x5, hx, h⟩ := bnd h
        refine g_callSI (L := [some (.ref 212), some (.int 16), some (.int (I 207 ((2 : Int32).toNatClampNeg))), some (.long (J 204 12)), none, none]) cd195_74 rfl rfl rfl rfl rfl (t_Mod_findIn (by omega) (OM.s20 hw) hx) ?_
        refine g_iconst cd195_77 rfl ?_
        refine g_icmp_eq cd195_78 rfl (fun hb => ?_) (fun hb => ?_)
        · have h := ifpE hb h
          refine g_aload_n cd195_87 rfl rfl ?_
          refine g_getP cd195_88 rfl (OM.o hw) (OM.p20 hw) ?_
          refine g_iload_n cd195_91 rfl rfl ?_
          refine g_aload_n cd195_92 rfl rfl ?_
          refine g_getJ cd195_93 rfl (OM.o hw) ?_
          obtain ⟨hg6, h⟩ := grd h
          obtain ⟨J7, e1, h⟩ := bnd h
          refine G_last cd195_96 rfl (OM.s20 hw) hg6 (Option.some.inj e1) ?_
          refine g_aload_n cd195_97 rfl rfl ?_
          obtain ⟨x8, hx, h⟩ := bnd h
          refine g_callVV (L := [some (.ref 204), none, none, none, none]) cd195_98 rfl rfl rfl rfl rfl (OM.o hw) (t_Mod_go (by omega) hw hx) ?_
          refine g_iconst cd195_101 rfl ?_
          exact g_iret cd195_102 (Or.inr ⟨rfl, Or.inr rfl⟩) (by obtain rfl := Option.some.inj h; rfl)
        · have h := ifnE hb h
          refine g_aload_n cd195_81 rfl rfl ?_
          refine g_iconst cd195_82 rfl ?_
          obtain ⟨x9, hx, h⟩ := bnd h
          refine g_callVZ (L := [some (.ref 204), some (.int 3)]) cd195_83 rfl rfl rfl rfl rfl (OM.o hw) (t_Mod_bad (by omega) hw hx) ?_
          exact g_iret cd195_86 (Or.inr ⟨rfl, b2i_or _⟩) (by obtain rfl := Option.some.inj h; rfl)
      · have h := ifnE hb h
        refine g_aload_n cd195_81 rfl rfl ?_
        refine g_iconst cd195_82 rfl ?_
        obtain ⟨x10, hx, h⟩ := bnd h
        refine g_callVZ (L := [some (.ref 204), some (.int 3)]) cd195_83 rfl rfl rfl rfl rfl (OM.o hw) (t_Mod_bad (by omega) hw hx) ?_
        exact g_iret cd195_86 (Or.inr ⟨rfl, b2i_or _⟩) (by obtain rfl := Option.some.inj h; rfl)
    · have h := ifnE hb h
      refine g_aload_n cd195_81 rfl rfl ?_
      refine g_iconst cd195_82 rfl ?_
      obtain ⟨x11, hx, h⟩ := bnd h
      refine g_callVZ (L := [some (.ref 204), some (.int 3)]) cd195_83 rfl rfl rfl rfl rfl (OM.o hw) (t_Mod_bad (by omega) hw hx) ?_
      exact g_iret cd195_86 (Or.inr ⟨rfl, b2i_or _⟩) (by obtain rfl := Option.some.inj h; rfl)
/-! HiddenOrLostModel.readPerson()Z -/
theorem cd193_0 : code9 193 0 = some (0, .aload_n 0, [1], .null, []) := rfl
theorem cd193_1 : code9 193 1 = some (0, .iconst 0, [1], .int 0, []) := rfl
theorem cd193_2 : code9 193 2 = some (0, .bipush 6, [2], .int 6, []) := rfl
theorem cd193_4 : code9 193 4 = some (0, .invokevirtual 191, [3, 194, 3, 1, 3, 3, 12, 0], .null, []) := rfl
theorem cd193_7 : code9 193 7 = some (0, .ifCond .eq 16, [3, 23], .null, []) := rfl
theorem cd193_10 : code9 193 10 = some (0, .aload_n 0, [1], .null, []) := rfl
theorem cd193_11 : code9 193 11 = some (0, .aload_n 0, [1], .null, []) := rfl
theorem cd193_12 : code9 193 12 = some (0, .getfield 101, [3, 12, 15, 2], .null, []) := rfl
theorem cd193_15 : code9 193 15 = some (0, .iconst 0, [1], .int 0, []) := rfl
theorem cd193_16 : code9 193 16 = some (0, .iaload, [1], .null, []) := rfl
theorem cd193_17 : code9 193 17 = some (0, .invokevirtual 194, [3, 195, 2, 1, 3, 2, 12, 0], .null, []) := rfl
theorem cd193_20 : code9 193 20 = some (0, .ifCond .ne 5, [3, 25], .null, []) := rfl
theorem cd193_23 : code9 193 23 = some (2, .iconst 0, [1], .int 0, []) := rfl
theorem cd193_24 : code9 193 24 = some (0, .ireturn, [1, 3], .null, []) := rfl
theorem cd193_25 : code9 193 25 = some (0, .aload_n 0, [1], .null, []) := rfl
theorem cd193_26 : code9 193 26 = some (0, .getfield 101, [3, 12, 15, 2], .null, []) := rfl
theorem cd193_29 : code9 193 29 = some (0, .iconst 0, [1], .int 0, []) := rfl
theorem cd193_30 : code9 193 30 = some (0, .dup2, [1], .null, []) := rfl
theorem cd193_31 : code9 193 31 = some (0, .iaload, [1], .null, []) := rfl
theorem cd193_32 : code9 193 32 = some (0, .iconst 1, [1], .int 1, []) := rfl
theorem cd193_33 : code9 193 33 = some (0, .iadd, [1], .null, []) := rfl
theorem cd193_34 : code9 193 34 = some (0, .iastore, [1], .null, []) := rfl
theorem cd193_35 : code9 193 35 = some (0, .iconst 1, [1], .int 1, []) := rfl
theorem cd193_36 : code9 193 36 = some (0, .ireturn, [1, 3], .null, []) := rfl
def Mod_readPerson (N : Nat) (I : FI) (J : FJ) : Option (Bool × FI × FJ) := Option.bind (Mod_readFirst N 0 6 I J) fun x1 => (if x1.1 then (Option.bind (Mod_readNew N (x1.2.1 207 ((0 : Int32).toNatClampNeg)) x1.2.1 x1.2.2) fun x2 => (if x2.1 then (Option.bind (some (up2 x2.2.1 207 ((0 : Int32).toNatClampNeg) ((x2.2.1 207 ((0 : Int32).toNatClampNeg)) + 1))) fun I3 => (some (true, I3, x2.2.2))) else (some (false, x2.2.1, x2.2.2)))) else (some (false, x1.2.1, x1.2.2)))
set_option maxRecDepth 8000 in
theorem t_Mod_readPerson {d : Nat} {N : Nat} {c : Nat × Nat} {S : Nat → Nat × Nat} {P : Nat → Nat → Option Nat} {I : FI} {J : FJ} {r : Bool × FI × FJ} (hd : 4 ≤ d) (hw : OM S P) (h : Mod_readPerson N I J = some r) : Go d M_Mod_readPerson 0 [some (.ref 204)] [] (c, S, I, J, P) (some (.int (b2i r.1)), false, (c, S, r.2.1, r.2.2, P)) := by
  obtain ⟨d, rfl⟩ : ∃ e, d = e + 1 := ⟨d - 1, by omega⟩
  unfold Mod_readPerson at h
  refine g_aload_n cd193_0 rfl rfl ?_
  refine g_iconst cd193_1 rfl ?_
  refine g_bipush cd193_2 rfl ?_
  obtain ⟨x1, hx, h⟩ := bnd h
  refine g_callVZ (L := [some (.ref 204), some (.int 0), some (.int 6)]) cd193_4 rfl rfl rfl rfl rfl (OM.o hw) (t_Mod_readFirst (by omega) hw hx) ?_
  refine g_if_eq cd193_7 rfl (fun hb => ?_) (fun hb => ?_)
  · have h := ifnE (b2i_f hb) h
    refine g_iconst cd193_23 rfl ?_
    exact g_iret cd193_24 (Or.inr ⟨rfl, Or.inl rfl⟩) (by obtain rfl := Option.some.inj h; rfl)
  · have h := ifpE (b2i_t hb) h
    refine g_aload_n cd193_10 rfl rfl ?_
    refine g_aload_n cd193_11 rfl rfl ?_
    refine g_getP cd193_12 rfl (OM.o hw) (OM.p15 hw) ?_
    refine g_iconst cd193_15 rfl ?_
    refine G_iald cd193_16 rfl (OM.s15 hw) (by decide) ?_
    obtain ⟨x2, hx, h⟩ := bnd h
    refine g_callVZ (L := [some (.ref 204), some (.int (x1.2.1 207 ((0 : Int32).toNatClampNeg)))]) cd193_17 rfl rfl rfl rfl rfl (OM.o hw) (t_Mod_readNew (by omega) hw hx) ?_
    refine g_if_ne cd193_20 rfl (fun hb => ?_) (fun hb => ?_)
    · have h := ifnE (b2i_f hb) h
      refine g_iconst cd193_23 rfl ?_
      exact g_iret cd193_24 (Or.inr ⟨rfl, Or.inl rfl⟩) (by obtain rfl := Option.some.inj h; rfl)
    · have h := ifpE (b2i_t hb) h
      refine g_aload_n cd193_25 rfl rfl ?_
      refine g_getP cd193_26 rfl (OM.o hw) (OM.p15 hw) ?_
      refine g_iconst cd193_29 rfl ?_
      refine g_dup2R cd193_30 rfl ?_
      refine G_iald cd193_31 rfl (OM.s15 hw) (by decide) ?_
      refine g_iconst cd193_32 rfl ?_
      refine g_iadd cd193_33 rfl ?_
      obtain ⟨I3, e1, h⟩ := bnd h
      refine G_iast cd193_34 rfl (OM.s15 hw) (by decide) (Option.some.inj e1) ?_
      refine g_iconst cd193_35 rfl ?_
      exact g_iret cd193_36 (Or.inr ⟨rfl, Or.inr rfl⟩) (by obtain rfl := Option.some.inj h; rfl)
/-! HiddenOrLostModel.isOneOf(II)Z -/
theorem cd199_0 : code9 199 0 = some (0, .iload_n 1, [1], .null, []) := rfl
theorem cd199_1 : code9 199 1 = some (0, .istore_n 3, [1], .null, []) := rfl
theorem cd199_2 : code9 199 2 = some (5, .iload_n 3, [1], .null, []) := rfl
theorem cd199_3 : code9 199 3 = some (0, .iload_n 2, [1], .null, []) := rfl
theorem cd199_4 : code9 199 4 = some (0, .if_icmp .gt 17, [3, 21], .null, []) := rfl
theorem cd199_7 : code9 199 7 = some (0, .aload_n 0, [1], .null, []) := rfl
theorem cd199_8 : code9 199 8 = some (0, .iload_n 3, [1], .null, []) := rfl
theorem cd199_9 : code9 199 9 = some (0, .invokevirtual 177, [3, 184, 2, 1, 3, 2, 12, 0], .null, []) := rfl
theorem cd199_12 : code9 199 12 = some (0, .ifCond .ne 9, [3, 21], .null, []) := rfl
theorem cd199_15 : code9 199 15 = some (0, .iinc 3 1, [3], .int 1, []) := rfl
theorem cd199_18 : code9 199 18 = some (0, .goto (-16), [3, 2, 4], .null, []) := rfl
theorem cd199_21 : code9 199 21 = some (5, .iload_n 3, [1], .null, []) := rfl
theorem cd199_22 : code9 199 22 = some (0, .iload_n 2, [1], .null, []) := rfl
theorem cd199_23 : code9 199 23 = some (0, .if_icmp .le 9, [3, 32], .null, []) := rfl
theorem cd199_26 : code9 199 26 = some (0, .aload_n 0, [1], .null, []) := rfl
theorem cd199_27 : code9 199 27 = some (0, .iconst 1, [1], .int 1, []) := rfl
theorem cd199_28 : code9 199 28 = some (0, .invokevirtual 72, [3, 188, 2, 1, 3, 2, 12, 0], .null, []) := rfl
theorem cd199_31 : code9 199 31 = some (0, .ireturn, [1, 3], .null, []) := rfl
theorem cd199_32 : code9 199 32 = some (0, .aload_n 0, [1], .null, []) := rfl
theorem cd199_33 : code9 199 33 = some (0, .iload_n 3, [1], .null, []) := rfl
theorem cd199_34 : code9 199 34 = some (0, .iload_n 1, [1], .null, []) := rfl
theorem cd199_35 : code9 199 35 = some (0, .isub, [1], .null, []) := rfl
theorem cd199_36 : code9 199 36 = some (0, .putfield 79, [3, 12, 13, 0], .null, []) := rfl
theorem cd199_39 : code9 199 39 = some (0, .iconst 1, [1], .int 1, []) := rfl
theorem cd199_40 : code9 199 40 = some (0, .ireturn, [1, 3], .null, []) := rfl
def Mod_isOneOf_2 (N : Nat) : Nat → Int32 → Int32 → Int32 → FI → FJ → Option (Bool × FI)
  | 0 => fun _ _ _ _ _ => none
  | n + 1 => fun l1 l2 l3 I J => if l2 < l3 then (if l3 ≤ l2 then (Option.bind (some (up2 I 204 13 (l3 - l1))) fun I1 => (some (true, I1))) else (Option.bind (Mod_bad 1 I) fun x2 => (some (x2.1, x2.2)))) else (if (Mod_isWord l3 I J) then (if l3 ≤ l2 then (Option.bind (some (up2 I 204 13 (l3 - l1))) fun I3 => (some (true, I3))) else (Option.bind (Mod_bad 1 I) fun x4 => (some (x4.1, x4.2)))) else (Mod_isOneOf_2 N n l1 l2 (l3 + 1) I J))
def Mod_isOneOf (N : Nat) (l1 : Int32) (l2 : Int32) (I : FI) (J : FJ) : Option (Bool × FI) := Mod_isOneOf_2 N N l1 l2 l1 I J
set_option maxRecDepth 8000 in
theorem t_Mod_isOneOf_2 {d : Nat} {N : Nat} {c : Nat × Nat} {S : Nat → Nat × Nat} {P : Nat → Nat → Option Nat} {r : Bool × FI} (hd : 3 ≤ (d + 1)) (hw : OM S P) : ∀ (n : Nat) (l1 : Int32) (l2 : Int32) (l3 : Int32) (I : FI) (J : FJ), Mod_isOneOf_2 N n l1 l2 l3 I J = some r → Go (d + 1) M_Mod_isOneOf 2 [some (.ref 204), some (.int l1), some (.int l2), some (.int l3)] [] (c, S, I, J, P) (some (.int (b2i r.1)), false, (c, S, r.2, J, P)) := by
  intro n
  induction n with
  | zero =>
    intro l1 l2 l3 I J h
    cases h
  | succ n ih =>
    intro l1 l2 l3 I J h
    unfold Mod_isOneOf_2 at h
    refine g_iload_n cd199_2 rfl rfl ?_
    refine g_iload_n cd199_3 rfl rfl ?_
    refine g_icmp_gt cd199_4 rfl (fun hb => ?_) (fun hb => ?_)
    · have h := ifpE hb h
      refine g_iload_n cd199_21 rfl rfl ?_
      refine g_iload_n cd199_22 rfl rfl ?_
      refine g_icmp_le cd199_23 rfl (fun hb => ?_) (fun hb => ?_)
      · have h := ifpE hb h
        refine g_aload_n cd199_32 rfl rfl ?_
        refine g_iload_n cd199_33 rfl rfl ?_
        refine g_iload_n cd199_34 rfl rfl ?_
        refine g_isub cd199_35 rfl ?_
        obtain ⟨I1, e1, h⟩ := bnd h
        refine G_putI cd199_36 rfl (OM.o hw) (Option.some.inj e1) ?_
        refine g_iconst cd199_39 rfl ?_
        exact g_iret cd199_40 (Or.inr ⟨rfl, Or.inr rfl⟩) (by obtain rfl := Option.some.inj h; rfl)
      · have h := ifnE hb h
        refine g_aload_n cd199_26 rfl rfl ?_
        refine g_iconst cd199_27 rfl ?_
        obtain ⟨x2, hx, h⟩ := bnd h
        refine g_callVZ (L := [some (.ref 204), some (.int 1)]) cd199_28 rfl rfl rfl rfl rfl (OM.o hw) (t_Mod_bad (by omega) hw hx) ?_
        exact g_iret cd199_31 (Or.inr ⟨rfl, b2i_or _⟩) (by obtain rfl := Option.some.inj h; rfl)
    · have h := ifnE hb h
      refine g_aload_n cd199_7 rfl rfl ?_
      refine g_iload_n cd199_8 rfl rfl ?_
      refine g_callVZ (L := [some (.ref 204), some (.int l3)]) cd199_9 rfl rfl rfl rfl rfl (OM.o hw) (t_Mod_isWord (by omega) hw rfl) ?_
      refine g_if_ne cd199_12 rfl (fun hb => ?_) (fun hb => ?_)
      · have h := ifnE (b2i_f hb) h
        refine g_iinc (ls2 := [some (.ref 204), some (.int l1), some (.int l2), some (.int (l3 + 1))]) cd199_15 rfl rfl rfl ?_
        refine g_goto (ls2 := [some (.ref 204), some (.int l1), some (.int l2), some (.int (l3 + 1))]) cd199_18 rfl rfl ?_
        exact ih l1 l2 (l3 + 1) I J h
      · have h := ifpE (b2i_t hb) h
        refine g_iload_n cd199_21 rfl rfl ?_
        refine g_iload_n cd199_22 rfl rfl ?_
        refine g_icmp_le cd199_23 rfl (fun hb => ?_) (fun hb => ?_)
        · have h := ifpE hb h
          refine g_aload_n cd199_32 rfl rfl ?_
          refine g_iload_n cd199_33 rfl rfl ?_
          refine g_iload_n cd199_34 rfl rfl ?_
          refine g_isub cd199_35 rfl ?_
          obtain ⟨I3, e1, h⟩ := bnd h
          refine G_putI cd199_36 rfl (OM.o hw) (Option.some.inj e1) ?_
          refine g_iconst cd199_39 rfl ?_
          exact g_iret cd199_40 (Or.inr ⟨rfl, Or.inr rfl⟩) (by obtain rfl := Option.some.inj h; rfl)
        · have h := ifnE hb h
          refine g_aload_n cd199_26 rfl rfl ?_
          refine g_iconst cd199_27 rfl ?_
          obtain ⟨x4, hx, h⟩ := bnd h
          refine g_callVZ (L := [some (.ref 204), some (.int 1)]) cd199_28 rfl rfl rfl rfl rfl (OM.o hw) (t_Mod_bad (by omega) hw hx) ?_
          exact g_iret cd199_31 (Or.inr ⟨rfl, b2i_or _⟩) (by obtain rfl := Option.some.inj h; rfl)
set_option maxRecDepth 8000 in
theorem t_Mod_isOneOf {d : Nat} {N : Nat} {c : Nat × Nat} {S : Nat → Nat × Nat} {P : Nat → Nat → Option Nat} {I : FI} {J : FJ} {l1 : Int32} {l2 : Int32} {r : Bool × FI} (hd : 3 ≤ d) (hw : OM S P) (h : Mod_isOneOf N l1 l2 I J = some r) : Go d M_Mod_isOneOf 0 [some (.ref 204), some (.int l1), some (.int l2), none] [] (c, S, I, J, P) (some (.int (b2i r.1)), false, (c, S, r.2, J, P)) := by
  obtain ⟨d, rfl⟩ : ∃ e, d = e + 1 := ⟨d - 1, by omega⟩
  unfold Mod_isOneOf at h
  refine g_iload_n cd199_0 rfl rfl ?_
  refine g_istore_n (ls2 := [some (.ref 204), some (.int l1), some (.int l2), some (.int l1)]) cd199_1 rfl rfl ?_
  exact t_Mod_isOneOf_2 hd hw _ l1 l2 l1 I J h
/-! HiddenOrLostModel.readFind()Z -/
theorem cd198_0 : code9 198 0 = some (0, .aload_n 0, [1], .null, []) := rfl
theorem cd198_1 : code9 198 1 = some (0, .iconst 1, [1], .int 1, []) := rfl
theorem cd198_2 : code9 198 2 = some (0, .bipush 10, [2], .int 10, []) := rfl
theorem cd198_4 : code9 198 4 = some (0, .invokevirtual 191, [3, 194, 3, 1, 3, 3, 12, 0], .null, []) := rfl
theorem cd198_7 : code9 198 7 = some (0, .ifCond .ne 5, [3, 12], .null, []) := rfl
theorem cd198_10 : code9 198 10 = some (0, .iconst 0, [1], .int 0, []) := rfl
theorem cd198_11 : code9 198 11 = some (0, .ireturn, [1, 3], .null, []) := rfl
theorem cd198_12 : code9 198 12 = some (0, .aload_n 0, [1], .null, []) := rfl
theorem cd198_13 : code9 198 13 = some (0, .getfield 101, [3, 12, 15, 2], .null, []) := rfl
theorem cd198_16 : code9 198 16 = some (0, .iconst 1, [1], .int 1, []) := rfl
theorem cd198_17 : code9 198 17 = some (0, .iaload, [1], .null, []) := rfl
theorem cd198_18 : code9 198 18 = some (0, .istore_n 1, [1], .null, []) := rfl
theorem cd198_19 : code9 198 19 = some (0, .aload_n 0, [1], .null, []) := rfl
theorem cd198_20 : code9 198 20 = some (0, .bipush 6, [2], .int 6, []) := rfl
theorem cd198_22 : code9 198 22 = some (0, .iload_n 1, [1], .null, []) := rfl
theorem cd198_23 : code9 198 23 = some (0, .iadd, [1], .null, []) := rfl
theorem cd198_24 : code9 198 24 = some (0, .invokevirtual 194, [3, 195, 2, 1, 3, 2, 12, 0], .null, []) := rfl
theorem cd198_27 : code9 198 27 = some (0, .ifCond .eq 22, [3, 49], .null, []) := rfl
theorem cd198_30 : code9 198 30 = some (0, .aload_n 0, [1], .null, []) := rfl
theorem cd198_31 : code9 198 31 = some (0, .bipush 30, [2], .int 30, []) := rfl
theorem cd198_33 : code9 198 33 = some (0, .iload_n 1, [1], .null, []) := rfl
theorem cd198_34 : code9 198 34 = some (0, .iadd, [1], .null, []) := rfl
theorem cd198_35 : code9 198 35 = some (0, .aload_n 0, [1], .null, []) := rfl
theorem cd198_36 : code9 198 36 = some (0, .bipush 26, [2], .int 26, []) := rfl
theorem cd198_38 : code9 198 38 = some (0, .bipush 29, [2], .int 29, []) := rfl
theorem cd198_40 : code9 198 40 = some (0, .invokevirtual 197, [3, 199, 3, 1, 3, 4, 12, 0], .null, []) := rfl
theorem cd198_43 : code9 198 43 = some (0, .invokevirtual 187, [3, 192, 3, 1, 3, 3, 12, 0], .null, []) := rfl
theorem cd198_46 : code9 198 46 = some (0, .ifCond .ne 5, [3, 51], .null, []) := rfl
theorem cd198_49 : code9 198 49 = some (3, .iconst 0, [1], .int 0, []) := rfl
theorem cd198_50 : code9 198 50 = some (0, .ireturn, [1, 3], .null, []) := rfl
theorem cd198_51 : code9 198 51 = some (0, .aload_n 0, [1], .null, []) := rfl
theorem cd198_52 : code9 198 52 = some (0, .invokevirtual 82, [3, 179, 1, 1, 0, 5, 12, 0], .null, []) := rfl
theorem cd198_55 : code9 198 55 = some (0, .aload_n 0, [1], .null, []) := rfl
theorem cd198_56 : code9 198 56 = some (0, .bipush 40, [2], .int 40, []) := rfl
theorem cd198_58 : code9 198 58 = some (0, .iload_n 1, [1], .null, []) := rfl
theorem cd198_59 : code9 198 59 = some (0, .iadd, [1], .null, []) := rfl
theorem cd198_60 : code9 198 60 = some (0, .aload_n 0, [1], .null, []) := rfl
theorem cd198_61 : code9 198 61 = some (0, .iconst 0, [1], .int 0, []) := rfl
theorem cd198_62 : code9 198 62 = some (0, .aload_n 0, [1], .null, []) := rfl
theorem cd198_63 : code9 198 63 = some (0, .getfield 101, [3, 12, 15, 2], .null, []) := rfl
theorem cd198_66 : code9 198 66 = some (0, .iconst 3, [1], .int 3, []) := rfl
theorem cd198_67 : code9 198 67 = some (0, .iaload, [1], .null, []) := rfl
theorem cd198_68 : code9 198 68 = some (0, .iconst 1, [1], .int 1, []) := rfl
theorem cd198_69 : code9 198 69 = some (0, .isub, [1], .null, []) := rfl
theorem cd198_70 : code9 198 70 = some (0, .invokevirtual 183, [3, 190, 3, 1, 3, 3, 12, 0], .null, []) := rfl
theorem cd198_73 : code9 198 73 = some (0, .invokevirtual 187, [3, 192, 3, 1, 3, 3, 12, 0], .null, []) := rfl
theorem cd198_76 : code9 198 76 = some (0, .ifCond .eq 45, [3, 121], .null, []) := rfl
theorem cd198_79 : code9 198 79 = some (0, .aload_n 0, [1], .null, []) := rfl
theorem cd198_80 : code9 198 80 = some (0, .bipush 50, [2], .int 50, []) := rfl
theorem cd198_82 : code9 198 82 = some (0, .iload_n 1, [1], .null, []) := rfl
theorem cd198_83 : code9 198 83 = some (0, .iadd, [1], .null, []) := rfl
theorem cd198_84 : code9 198 84 = some (0, .aload_n 0, [1], .null, []) := rfl
theorem cd198_85 : code9 198 85 = some (0, .iconst 0, [1], .int 0, []) := rfl
theorem cd198_86 : code9 198 86 = some (0, .aload_n 0, [1], .null, []) := rfl
theorem cd198_87 : code9 198 87 = some (0, .getfield 101, [3, 12, 15, 2], .null, []) := rfl
theorem cd198_90 : code9 198 90 = some (0, .iconst 4, [1], .int 4, []) := rfl
theorem cd198_91 : code9 198 91 = some (0, .iaload, [1], .null, []) := rfl
theorem cd198_92 : code9 198 92 = some (0, .iconst 1, [1], .int 1, []) := rfl
theorem cd198_93 : code9 198 93 = some (0, .isub, [1], .null, []) := rfl
theorem cd198_94 : code9 198 94 = some (0, .invokevirtual 183, [3, 190, 3, 1, 3, 3, 12, 0], .null, []) := rfl
theorem cd198_97 : code9 198 97 = some (0, .invokevirtual 187, [3, 192, 3, 1, 3, 3, 12, 0], .null, []) := rfl
theorem cd198_100 : code9 198 100 = some (0, .ifCond .eq 21, [3, 121], .null, []) := rfl
theorem cd198_103 : code9 198 103 = some (0, .aload_n 0, [1], .null, []) := rfl
theorem cd198_104 : code9 198 104 = some (0, .bipush 60, [2], .int 60, []) := rfl
theorem cd198_106 : code9 198 106 = some (0, .iload_n 1, [1], .null, []) := rfl
theorem cd198_107 : code9 198 107 = some (0, .iadd, [1], .null, []) := rfl
theorem cd198_108 : code9 198 108 = some (0, .aload_n 0, [1], .null, []) := rfl
theorem cd198_109 : code9 198 109 = some (0, .iconst 0, [1], .int 0, []) := rfl
theorem cd198_110 : code9 198 110 = some (0, .bipush 9, [2], .int 9, []) := rfl
theorem cd198_112 : code9 198 112 = some (0, .invokevirtual 183, [3, 190, 3, 1, 3, 3, 12, 0], .null, []) := rfl
theorem cd198_115 : code9 198 115 = some (0, .invokevirtual 187, [3, 192, 3, 1, 3, 3, 12, 0], .null, []) := rfl
theorem cd198_118 : code9 198 118 = some (0, .ifCond .ne 5, [3, 123], .null, []) := rfl
theorem cd198_121 : code9 198 121 = some (3, .iconst 0, [1], .int 0, []) := rfl
theorem cd198_122 : code9 198 122 = some (0, .ireturn, [1, 3], .null, []) := rfl
theorem cd198_123 : code9 198 123 = some (0, .aload_n 0, [1], .null, []) := rfl
theorem cd198_124 : code9 198 124 = some (0, .bipush 70, [2], .int 70, []) := rfl
theorem cd198_126 : code9 198 126 = some (0, .iload_n 1, [1], .null, []) := rfl
theorem cd198_127 : code9 198 127 = some (0, .iadd, [1], .null, []) := rfl
theorem cd198_128 : code9 198 128 = some (0, .aload_n 0, [1], .null, []) := rfl
theorem cd198_129 : code9 198 129 = some (0, .iconst 0, [1], .int 0, []) := rfl
theorem cd198_130 : code9 198 130 = some (0, .sipush 999, [3], .int 999, []) := rfl
theorem cd198_133 : code9 198 133 = some (0, .invokevirtual 183, [3, 190, 3, 1, 3, 3, 12, 0], .null, []) := rfl
theorem cd198_136 : code9 198 136 = some (0, .invokevirtual 187, [3, 192, 3, 1, 3, 3, 12, 0], .null, []) := rfl
theorem cd198_139 : code9 198 139 = some (0, .ifCond .eq 21, [3, 160], .null, []) := rfl
theorem cd198_142 : code9 198 142 = some (0, .aload_n 0, [1], .null, []) := rfl
theorem cd198_143 : code9 198 143 = some (0, .bipush 80, [2], .int 80, []) := rfl
theorem cd198_145 : code9 198 145 = some (0, .iload_n 1, [1], .null, []) := rfl
theorem cd198_146 : code9 198 146 = some (0, .iadd, [1], .null, []) := rfl
theorem cd198_147 : code9 198 147 = some (0, .aload_n 0, [1], .null, []) := rfl
theorem cd198_148 : code9 198 148 = some (0, .iconst 0, [1], .int 0, []) := rfl
theorem cd198_149 : code9 198 149 = some (0, .bipush 99, [2], .int 99, []) := rfl
theorem cd198_151 : code9 198 151 = some (0, .invokevirtual 183, [3, 190, 3, 1, 3, 3, 12, 0], .null, []) := rfl
theorem cd198_154 : code9 198 154 = some (0, .invokevirtual 187, [3, 192, 3, 1, 3, 3, 12, 0], .null, []) := rfl
theorem cd198_157 : code9 198 157 = some (0, .ifCond .ne 5, [3, 162], .null, []) := rfl
theorem cd198_160 : code9 198 160 = some (3, .iconst 0, [1], .int 0, []) := rfl
theorem cd198_161 : code9 198 161 = some (0, .ireturn, [1, 3], .null, []) := rfl
theorem cd198_162 : code9 198 162 = some (0, .aload_n 0, [1], .null, []) := rfl
theorem cd198_163 : code9 198 163 = some (0, .getfield 101, [3, 12, 15, 2], .null, []) := rfl
theorem cd198_166 : code9 198 166 = some (0, .iconst 1, [1], .int 1, []) := rfl
theorem cd198_167 : code9 198 167 = some (0, .dup2, [1], .null, []) := rfl
theorem cd198_168 : code9 198 168 = some (0, .iaload, [1], .null, []) := rfl
theorem cd198_169 : code9 198 169 = some (0, .iconst 1, [1], .int 1, []) := rfl
theorem cd198_170 : code9 198 170 = some (0, .iadd, [1], .null, []) := rfl
theorem cd198_171 : code9 198 171 = some (0, .iastore, [1], .null, []) := rfl
theorem cd198_172 : code9 198 172 = some (0, .iconst 1, [1], .int 1, []) := rfl
theorem cd198_173 : code9 198 173 = some (0, .ireturn, [1, 3], .null, []) := rfl
def Mod_readFind (N : Nat) (I : FI) (J : FJ) : Option (Bool × FI × FJ) := Option.bind (Mod_readFirst N 1 10 I J) fun x1 => (if x1.1 then (Option.bind (Mod_readNew N (6 + (x1.2.1 207 ((1 : Int32).toNatClampNeg))) x1.2.1 x1.2.2) fun x2 => (if x2.1 then (Option.bind (Mod_isOneOf N 26 29 x2.2.1 x2.2.2) fun x3 => (Option.bind (Mod_put (30 + (x1.2.1 207 ((1 : Int32).toNatClampNeg))) x3.1 x3.2) fun x4 => (if x4.1 then (Option.bind (Mod_go N x4.2 x2.2.2) fun x5 => (Option.bind (Mod_readNumber N 0 ((x5.1 207 ((3 : Int32).toNatClampNeg)) - 1) x5.1 x5.2) fun x6 => (Option.bind (Mod_put (40 + (x1.2.1 207 ((1 : Int32).toNatClampNeg))) x6.1 x6.2.1) fun x7 => (if x7.1 then (Option.bind (Mod_readNumber N 0 ((x7.2 207 ((4 : Int32).toNatClampNeg)) - 1) x7.2 x6.2.2) fun x8 => (Option.bind (Mod_put (50 + (x1.2.1 207 ((1 : Int32).toNatClampNeg))) x8.1 x8.2.1) fun x9 => (if x9.1 then (Option.bind (Mod_readNumber N 0 9 x9.2 x8.2.2) fun x10 => (Option.bind (Mod_put (60 + (x1.2.1 207 ((1 : Int32).toNatClampNeg))) x10.1 x10.2.1) fun x11 => (if x11.1 then (Option.bind (Mod_readNumber N 0 999 x11.2 x10.2.2) fun x12 => (Option.bind (Mod_put (70 + (x1.2.1 207 ((1 : Int32).toNatClampNeg))) x12.1 x12.2.1) fun x13 => (if x13.1 then (Option.bind (Mod_readNumber N 0 99 x13.2 x12.2.2) fun x14 => (Option.bind (Mod_put (80 + (x1.2.1 207 ((1 : Int32).toNatClampNeg))) x14.1 x14.2.1) fun x15 => (if x15.1 then (Option.bind (some (up2 x15.2 207 ((1 : Int32).toNatClampNeg) ((x15.2 207 ((1 : Int32).toNatClampNeg)) + 1))) fun I16 => (some (true, I16, x14.2.2))) else (some (false, x15.2, x14.2.2))))) else (some (false, x13.2, x12.2.2))))) else (some (false, x11.2, x10.2.2))))) else (some (false, x9.2, x8.2.2))))) else (some (false, x7.2, x6.2.2)))))) else (some (false, x4.2, x2.2.2))))) else (some (false, x2.2.1, x2.2.2)))) else (some (false, x1.2.1, x1.2.2)))
set_option maxRecDepth 8000 in
theorem t_Mod_readFind {d : Nat} {N : Nat} {c : Nat × Nat} {S : Nat → Nat × Nat} {P : Nat → Nat → Option Nat} {I : FI} {J : FJ} {r : Bool × FI × FJ} (hd : 4 ≤ d) (hw : OM S P) (h : Mod_readFind N I J = some r) : Go d M_Mod_readFind 0 [some (.ref 204), none] [] (c, S, I, J, P) (some (.int (b2i r.1)), false, (c, S, r.2.1, r.2.2, P)) := by
  obtain ⟨d, rfl⟩ : ∃ e, d = e + 1 := ⟨d - 1, by omega⟩
  unfold Mod_readFind at h
  refine g_aload_n cd198_0 rfl rfl ?_
  refine g_iconst cd198_1 rfl ?_
  refine g_bipush cd198_2 rfl ?_
  obtain ⟨x1, hx, h⟩ := bnd h
  refine g_callVZ (L := [some (.ref 204), some (.int 1), some (.int 10)]) cd198_4 rfl rfl rfl rfl rfl (OM.o hw) (t_Mod_readFirst (by omega) hw hx) ?_
  refine g_if_ne cd198_7 rfl (fun hb => ?_) (fun hb => ?_)
  · have h := ifnE (b2i_f hb) h
    refine g_iconst cd198_10 rfl ?_
    exact g_iret cd198_11 (Or.inr ⟨rfl, Or.inl rfl⟩) (by obtain rfl := Option.some.inj h; rfl)
  · have h := ifpE (b2i_t hb) h
    refine g_aload_n cd198_12 rfl rfl ?_
    refine g_getP cd198_13 rfl (OM.o hw) (OM.p15 hw) ?_
    refine g_iconst cd198_16 rfl ?_
    refine G_iald cd198_17 rfl (OM.s15 hw) (by decide) ?_
    refine g_istore_n (ls2 := [some (.ref 204), some (.int (x1.2.1 207 ((1 : Int32).toNatClampNeg)))]) cd198_18 rfl rfl ?_
    refine g_aload_n cd198_19 rfl rfl ?_
    refine g_bipush cd198_20 rfl ?_
    refine g_iload_n cd198_22 rfl rfl ?_
    refine g_iadd cd198_23 rfl ?_
    obtain ⟨x2, hx, h⟩ := bnd h
    refine g_callVZ (L := [some (.ref 204), some (.int (6 + (x1.2.1 207 ((1 : Int32).toNatClampNeg))))]) cd198_24 rfl rfl rfl rfl rfl (OM.o hw) (t_Mod_readNew (by omega) hw hx) ?_
    refine g_if_eq cd198_27 rfl (fun hb => ?_) (fun hb => ?_)
    · have h := ifnE (b2i_f hb) h
      refine g_iconst cd198_49 rfl ?_
      exact g_iret cd198_50 (Or.inr ⟨rfl, Or.inl rfl⟩) (by obtain rfl := Option.some.inj h; rfl)
    · have h := ifpE (b2i_t hb) h
      refine g_aload_n cd198_30 rfl rfl ?_
      refine g_bipush cd198_31 rfl ?_
      refine g_iload_n cd198_33 rfl rfl ?_
      refine g_iadd cd198_34 rfl ?_
      refine g_aload_n cd198_35 rfl rfl ?_
      refine g_bipush cd198_36 rfl ?_
      refine g_bipush cd198_38 rfl ?_
      obtain ⟨x3, hx, h⟩ := bnd h
      refine g_callVZ (L := [some (.ref 204), some (.int 26), some (.int 29), none]) cd198_40 rfl rfl rfl rfl rfl (OM.o hw) (t_Mod_isOneOf (by omega) hw hx) ?_
      obtain ⟨x4, hx, h⟩ := bnd h
      refine g_callVZ (L := [some (.ref 204), some (.int (30 + (x1.2.1 207 ((1 : Int32).toNatClampNeg)))), some (.int (b2i x3.1))]) cd198_43 rfl rfl rfl rfl rfl (OM.o hw) (t_Mod_put (by omega) hw hx) ?_
      refine g_if_ne cd198_46 rfl (fun hb => ?_) (fun hb => ?_)
      · have h := ifnE (b2i_f hb) h
        refine g_iconst cd198_49 rfl ?_
        exact g_iret cd198_50 (Or.inr ⟨rfl, Or.inl rfl⟩) (by obtain rfl := Option.some.inj h; rfl)
      · have h := ifpE (b2i_t hb) h
        refine g_aload_n cd198_51 rfl rfl ?_
        obtain ⟨x5, hx, h⟩ := bnd h
        refine g_callVV (L := [some (.ref 204), none, none, none, none]) cd198_52 rfl rfl rfl rfl rfl (OM.o hw) (t_Mod_go (by omega) hw hx) ?_
        refine g_aload_n cd198_55 rfl rfl ?_
        refine g_bipush cd198_56 rfl ?_
        refine g_iload_n cd198_58 rfl rfl ?_
        refine g_iadd cd198_59 rfl ?_
        refine g_aload_n cd198_60 rfl rfl ?_
        refine g_iconst cd198_61 rfl ?_
        refine g_aload_n cd198_62 rfl rfl ?_
        refine g_getP cd198_63 rfl (OM.o hw) (OM.p15 hw) ?_
        refine g_iconst cd198_66 rfl ?_
        refine G_iald cd198_67 rfl (OM.s15 hw) (by decide) ?_
        refine g_iconst cd198_68 rfl ?_
        refine g_isub cd198_69 rfl ?_
        obtain ⟨x6, hx, h⟩ := bnd h
        refine g_callVZ (L := [some (.ref 204), some (.int 0), some (.int ((x5.1 207 ((3 : Int32).toNatClampNeg)) - 1))]) cd198_70 rfl rfl rfl rfl rfl (OM.o hw) (t_Mod_readNumber (by omega) hw hx) ?_
        obtain ⟨x7, hx, h⟩ := bnd h
        refine g_callVZ (L := [some (.ref 204), some (.int (40 + (x1.2.1 207 ((1 : Int32).toNatClampNeg)))), some (.int (b2i x6.1))]) cd198_73 rfl rfl rfl rfl rfl (OM.o hw) (t_Mod_put (by omega) hw hx) ?_
        refine g_if_eq cd198_76 rfl (fun hb => ?_) (fun hb => ?_)
        · have h := ifnE (b2i_f hb) h
          refine g_iconst cd198_121 rfl ?_
          exact g_iret cd198_122 (Or.inr ⟨rfl, Or.inl rfl⟩) (by obtain rfl := Option.some.inj h; rfl)
        · have h := ifpE (b2i_t hb) h
          refine g_aload_n cd198_79 rfl rfl ?_
          refine g_bipush cd198_80 rfl ?_
          refine g_iload_n cd198_82 rfl rfl ?_
          refine g_iadd cd198_83 rfl ?_
          refine g_aload_n cd198_84 rfl rfl ?_
          refine g_iconst cd198_85 rfl ?_
          refine g_aload_n cd198_86 rfl rfl ?_
          refine g_getP cd198_87 rfl (OM.o hw) (OM.p15 hw) ?_
          refine g_iconst cd198_90 rfl ?_
          refine G_iald cd198_91 rfl (OM.s15 hw) (by decide) ?_
          refine g_iconst cd198_92 rfl ?_
          refine g_isub cd198_93 rfl ?_
          obtain ⟨x8, hx, h⟩ := bnd h
          refine g_callVZ (L := [some (.ref 204), some (.int 0), some (.int ((x7.2 207 ((4 : Int32).toNatClampNeg)) - 1))]) cd198_94 rfl rfl rfl rfl rfl (OM.o hw) (t_Mod_readNumber (by omega) hw hx) ?_
          obtain ⟨x9, hx, h⟩ := bnd h
          refine g_callVZ (L := [some (.ref 204), some (.int (50 + (x1.2.1 207 ((1 : Int32).toNatClampNeg)))), some (.int (b2i x8.1))]) cd198_97 rfl rfl rfl rfl rfl (OM.o hw) (t_Mod_put (by omega) hw hx) ?_
          refine g_if_eq cd198_100 rfl (fun hb => ?_) (fun hb => ?_)
          · have h := ifnE (b2i_f hb) h
            refine g_iconst cd198_121 rfl ?_
            exact g_iret cd198_122 (Or.inr ⟨rfl, Or.inl rfl⟩) (by obtain rfl := Option.some.inj h; rfl)
          · have h := ifpE (b2i_t hb) h
            refine g_aload_n cd198_103 rfl rfl ?_
            refine g_bipush cd198_104 rfl ?_
            refine g_iload_n cd198_106 rfl rfl ?_
            refine g_iadd cd198_107 rfl ?_
            refine g_aload_n cd198_108 rfl rfl ?_
            refine g_iconst cd198_109 rfl ?_
            refine g_bipush cd198_110 rfl ?_
            obtain ⟨x10, hx, h⟩ := bnd h
            refine g_callVZ (L := [some (.ref 204), some (.int 0), some (.int 9)]) cd198_112 rfl rfl rfl rfl rfl (OM.o hw) (t_Mod_readNumber (by omega) hw hx) ?_
            obtain ⟨x11, hx, h⟩ := bnd h
            refine g_callVZ (L := [some (.ref 204), some (.int (60 + (x1.2.1 207 ((1 : Int32).toNatClampNeg)))), some (.int (b2i x10.1))]) cd198_115 rfl rfl rfl rfl rfl (OM.o hw) (t_Mod_put (by omega) hw hx) ?_
            refine g_if_ne cd198_118 rfl (fun hb => ?_) (fun hb => ?_)
            · have h := ifnE (b2i_f hb) h
              refine g_iconst cd198_121 rfl ?_
              exact g_iret cd198_122 (Or.inr ⟨rfl, Or.inl rfl⟩) (by obtain rfl := Option.some.inj h; rfl)
            · have h := ifpE (b2i_t hb) h
              refine g_aload_n cd198_123 rfl rfl ?_
              refine g_bipush cd198_124 rfl ?_
              refine g_iload_n cd198_126 rfl rfl ?_
              refine g_iadd cd198_127 rfl ?_
              refine g_aload_n cd198_128 rfl rfl ?_
              refine g_iconst cd198_129 rfl ?_
              refine g_sipush cd198_130 rfl ?_
              obtain ⟨x12, hx, h⟩ := bnd h
              refine g_callVZ (L := [some (.ref 204), some (.int 0), some (.int 999)]) cd198_133 rfl rfl rfl rfl rfl (OM.o hw) (t_Mod_readNumber (by omega) hw hx) ?_
              obtain ⟨x13, hx, h⟩ := bnd h
              refine g_callVZ (L := [some (.ref 204), some (.int (70 + (x1.2.1 207 ((1 : Int32).toNatClampNeg)))), some (.int (b2i x12.1))]) cd198_136 rfl rfl rfl rfl rfl (OM.o hw) (t_Mod_put (by omega) hw hx) ?_
              refine g_if_eq cd198_139 rfl (fun hb => ?_) (fun hb => ?_)
              · have h := ifnE (b2i_f hb) h
                refine g_iconst cd198_160 rfl ?_
                exact g_iret cd198_161 (Or.inr ⟨rfl, Or.inl rfl⟩) (by obtain rfl := Option.some.inj h; rfl)
              · have h := ifpE (b2i_t hb) h
                refine g_aload_n cd198_142 rfl rfl ?_
                refine g_bipush cd198_143 rfl ?_
                refine g_iload_n cd198_145 rfl rfl ?_
                refine g_iadd cd198_146 rfl ?_
                refine g_aload_n cd198_147 rfl rfl ?_
                refine g_iconst cd198_148 rfl ?_
                refine g_bipush cd198_149 rfl ?_
                obtain ⟨x14, hx, h⟩ := bnd h
                refine g_callVZ (L := [some (.ref 204), some (.int 0), some (.int 99)]) cd198_151 rfl rfl rfl rfl rfl (OM.o hw) (t_Mod_readNumber (by omega) hw hx) ?_
                obtain ⟨x15, hx, h⟩ := bnd h
                refine g_callVZ (L := [some (.ref 204), some (.int (80 + (x1.2.1 207 ((1 : Int32).toNatClampNeg)))), some (.int (b2i x14.1))]) cd198_154 rfl rfl rfl rfl rfl (OM.o hw) (t_Mod_put (by omega) hw hx) ?_
                refine g_if_ne cd198_157 rfl (fun hb => ?_) (fun hb => ?_)
                · have h := ifnE (b2i_f hb) h
                  refine g_iconst cd198_160 rfl ?_
                  exact g_iret cd198_161 (Or.inr ⟨rfl, Or.inl rfl⟩) (by obtain rfl := Option.some.inj h; rfl)
                · have h := ifpE (b2i_t hb) h
                  refine g_aload_n cd198_162 rfl rfl ?_
                  refine g_getP cd198_163 rfl (OM.o hw) (OM.p15 hw) ?_
                  refine g_iconst cd198_166 rfl ?_
                  refine g_dup2R cd198_167 rfl ?_
                  refine G_iald cd198_168 rfl (OM.s15 hw) (by decide) ?_
                  refine g_iconst cd198_169 rfl ?_
                  refine g_iadd cd198_170 rfl ?_
                  obtain ⟨I16, e1, h⟩ := bnd h
                  refine G_iast cd198_171 rfl (OM.s15 hw) (by decide) (Option.some.inj e1) ?_
                  refine g_iconst cd198_172 rfl ?_
                  exact g_iret cd198_173 (Or.inr ⟨rfl, Or.inr rfl⟩) (by obtain rfl := Option.some.inj h; rfl)
/-! HiddenOrLostModel.readFear()Z -/
theorem cd200_0 : code9 200 0 = some (0, .aload_n 0, [1], .null, []) := rfl
theorem cd200_1 : code9 200 1 = some (0, .iconst 2, [1], .int 2, []) := rfl
theorem cd200_2 : code9 200 2 = some (0, .bipush 6, [2], .int 6, []) := rfl
theorem cd200_4 : code9 200 4 = some (0, .invokevirtual 191, [3, 194, 3, 1, 3, 3, 12, 0], .null, []) := rfl
theorem cd200_7 : code9 200 7 = some (0, .ifCond .ne 5, [3, 12], .null, []) := rfl
theorem cd200_10 : code9 200 10 = some (0, .iconst 0, [1], .int 0, []) := rfl
theorem cd200_11 : code9 200 11 = some (0, .ireturn, [1, 3], .null, []) := rfl
theorem cd200_12 : code9 200 12 = some (0, .aload_n 0, [1], .null, []) := rfl
theorem cd200_13 : code9 200 13 = some (0, .getfield 101, [3, 12, 15, 2], .null, []) := rfl
theorem cd200_16 : code9 200 16 = some (0, .iconst 2, [1], .int 2, []) := rfl
theorem cd200_17 : code9 200 17 = some (0, .iaload, [1], .null, []) := rfl
theorem cd200_18 : code9 200 18 = some (0, .istore_n 1, [1], .null, []) := rfl
theorem cd200_19 : code9 200 19 = some (0, .aload_n 0, [1], .null, []) := rfl
theorem cd200_20 : code9 200 20 = some (0, .bipush 16, [2], .int 16, []) := rfl
theorem cd200_22 : code9 200 22 = some (0, .iload_n 1, [1], .null, []) := rfl
theorem cd200_23 : code9 200 23 = some (0, .iadd, [1], .null, []) := rfl
theorem cd200_24 : code9 200 24 = some (0, .invokevirtual 194, [3, 195, 2, 1, 3, 2, 12, 0], .null, []) := rfl
theorem cd200_27 : code9 200 27 = some (0, .ifCond .eq 49, [3, 76], .null, []) := rfl
theorem cd200_30 : code9 200 30 = some (0, .aload_n 0, [1], .null, []) := rfl
theorem cd200_31 : code9 200 31 = some (0, .bipush 90, [2], .int 90, []) := rfl
theorem cd200_33 : code9 200 33 = some (0, .iload_n 1, [1], .null, []) := rfl
theorem cd200_34 : code9 200 34 = some (0, .iadd, [1], .null, []) := rfl
theorem cd200_35 : code9 200 35 = some (0, .aload_n 0, [1], .null, []) := rfl
theorem cd200_36 : code9 200 36 = some (0, .iconst 0, [1], .int 0, []) := rfl
theorem cd200_37 : code9 200 37 = some (0, .sipush 999, [3], .int 999, []) := rfl
theorem cd200_40 : code9 200 40 = some (0, .invokevirtual 183, [3, 190, 3, 1, 3, 3, 12, 0], .null, []) := rfl
theorem cd200_43 : code9 200 43 = some (0, .invokevirtual 187, [3, 192, 3, 1, 3, 3, 12, 0], .null, []) := rfl
theorem cd200_46 : code9 200 46 = some (0, .ifCond .eq 30, [3, 76], .null, []) := rfl
theorem cd200_49 : code9 200 49 = some (0, .aload_n 0, [1], .null, []) := rfl
theorem cd200_50 : code9 200 50 = some (0, .bipush 96, [2], .int 96, []) := rfl
theorem cd200_52 : code9 200 52 = some (0, .iload_n 1, [1], .null, []) := rfl
theorem cd200_53 : code9 200 53 = some (0, .iadd, [1], .null, []) := rfl
theorem cd200_54 : code9 200 54 = some (0, .aload_n 0, [1], .null, []) := rfl
theorem cd200_55 : code9 200 55 = some (0, .aload_n 0, [1], .null, []) := rfl
theorem cd200_56 : code9 200 56 = some (0, .getfield 101, [3, 12, 15, 2], .null, []) := rfl
theorem cd200_59 : code9 200 59 = some (0, .bipush 90, [2], .int 90, []) := rfl
theorem cd200_61 : code9 200 61 = some (0, .iload_n 1, [1], .null, []) := rfl
theorem cd200_62 : code9 200 62 = some (0, .iadd, [1], .null, []) := rfl
theorem cd200_63 : code9 200 63 = some (0, .iaload, [1], .null, []) := rfl
theorem cd200_64 : code9 200 64 = some (0, .sipush 999, [3], .int 999, []) := rfl
theorem cd200_67 : code9 200 67 = some (0, .invokevirtual 183, [3, 190, 3, 1, 3, 3, 12, 0], .null, []) := rfl
theorem cd200_70 : code9 200 70 = some (0, .invokevirtual 187, [3, 192, 3, 1, 3, 3, 12, 0], .null, []) := rfl
theorem cd200_73 : code9 200 73 = some (0, .ifCond .ne 5, [3, 78], .null, []) := rfl
theorem cd200_76 : code9 200 76 = some (3, .iconst 0, [1], .int 0, []) := rfl
theorem cd200_77 : code9 200 77 = some (0, .ireturn, [1, 3], .null, []) := rfl
theorem cd200_78 : code9 200 78 = some (0, .aload_n 0, [1], .null, []) := rfl
theorem cd200_79 : code9 200 79 = some (0, .getfield 101, [3, 12, 15, 2], .null, []) := rfl
theorem cd200_82 : code9 200 82 = some (0, .iconst 2, [1], .int 2, []) := rfl
theorem cd200_83 : code9 200 83 = some (0, .dup2, [1], .null, []) := rfl
theorem cd200_84 : code9 200 84 = some (0, .iaload, [1], .null, []) := rfl
theorem cd200_85 : code9 200 85 = some (0, .iconst 1, [1], .int 1, []) := rfl
theorem cd200_86 : code9 200 86 = some (0, .iadd, [1], .null, []) := rfl
theorem cd200_87 : code9 200 87 = some (0, .iastore, [1], .null, []) := rfl
theorem cd200_88 : code9 200 88 = some (0, .iconst 1, [1], .int 1, []) := rfl
theorem cd200_89 : code9 200 89 = some (0, .ireturn, [1, 3], .null, []) := rfl
def Mod_readFear (N : Nat) (I : FI) (J : FJ) : Option (Bool × FI × FJ) := Option.bind (Mod_readFirst N 2 6 I J) fun x1 => (if x1.1 then (Option.bind (Mod_readNew N (16 + (x1.2.1 207 ((2 : Int32).toNatClampNeg))) x1.2.1 x1.2.2) fun x2 => (if x2.1 then (Option.bind (Mod_readNumber N 0 999 x2.2.1 x2.2.2) fun x3 => (Option.bind (Mod_put (90 + (x1.2.1 207 ((2 : Int32).toNatClampNeg))) x3.1 x3.2.1) fun x4 => (if x4.1 then (if in9 (90 + (x1.2.1 207 ((2 : Int32).toNatClampNeg))) 102 then (Option.bind (Mod_readNumber N (x4.2 207 ((90 + (x1.2.1 207 ((2 : Int32).toNatClampNeg))).toNatClampNeg)) 999 x4.2 x3.2.2) fun x6 => (Option.bind (Mod_put (96 + (x1.2.1 207 ((2 : Int32).toNatClampNeg))) x6.1 x6.2.1) fun x7 => (if x7.1 then (Option.bind (some (up2 x7.2 207 ((2 : Int32).toNatClampNeg) ((x7.2 207 ((2 : Int32).toNatClampNeg)) + 1))) fun I8 => (some (true, I8, x6.2.2))) else (some (false, x7.2, x6.2.2))))) else none) else (some (false, x4.2, x3.2.2))))) else (some (false, x2.2.1, x2.2.2)))) else (some (false, x1.2.1, x1.2.2)))
set_option maxRecDepth 8000 in
theorem t_Mod_readFear {d : Nat} {N : Nat} {c : Nat × Nat} {S : Nat → Nat × Nat} {P : Nat → Nat → Option Nat} {I : FI} {J : FJ} {r : Bool × FI × FJ} (hd : 4 ≤ d) (hw : OM S P) (h : Mod_readFear N I J = some r) : Go d M_Mod_readFear 0 [some (.ref 204), none] [] (c, S, I, J, P) (some (.int (b2i r.1)), false, (c, S, r.2.1, r.2.2, P)) := by
  obtain ⟨d, rfl⟩ : ∃ e, d = e + 1 := ⟨d - 1, by omega⟩
  unfold Mod_readFear at h
  refine g_aload_n cd200_0 rfl rfl ?_
  refine g_iconst cd200_1 rfl ?_
  refine g_bipush cd200_2 rfl ?_
  obtain ⟨x1, hx, h⟩ := bnd h
  refine g_callVZ (L := [some (.ref 204), some (.int 2), some (.int 6)]) cd200_4 rfl rfl rfl rfl rfl (OM.o hw) (t_Mod_readFirst (by omega) hw hx) ?_
  refine g_if_ne cd200_7 rfl (fun hb => ?_) (fun hb => ?_)
  · have h := ifnE (b2i_f hb) h
    refine g_iconst cd200_10 rfl ?_
    exact g_iret cd200_11 (Or.inr ⟨rfl, Or.inl rfl⟩) (by obtain rfl := Option.some.inj h; rfl)
  · have h := ifpE (b2i_t hb) h
    refine g_aload_n cd200_12 rfl rfl ?_
    refine g_getP cd200_13 rfl (OM.o hw) (OM.p15 hw) ?_
    refine g_iconst cd200_16 rfl ?_
    refine G_iald cd200_17 rfl (OM.s15 hw) (by decide) ?_
    refine g_istore_n (ls2 := [some (.ref 204), some (.int (x1.2.1 207 ((2 : Int32).toNatClampNeg)))]) cd200_18 rfl rfl ?_
    refine g_aload_n cd200_19 rfl rfl ?_
    refine g_bipush cd200_20 rfl ?_
    refine g_iload_n cd200_22 rfl rfl ?_
    refine g_iadd cd200_23 rfl ?_
    obtain ⟨x2, hx, h⟩ := bnd h
    refine g_callVZ (L := [some (.ref 204), some (.int (16 + (x1.2.1 207 ((2 : Int32).toNatClampNeg))))]) cd200_24 rfl rfl rfl rfl rfl (OM.o hw) (t_Mod_readNew (by omega) hw hx) ?_
    refine g_if_eq cd200_27 rfl (fun hb => ?_) (fun hb => ?_)
    · have h := ifnE (b2i_f hb) h
      refine g_iconst cd200_76 rfl ?_
      exact g_iret cd200_77 (Or.inr ⟨rfl, Or.inl rfl⟩) (by obtain rfl := Option.some.inj h; rfl)
    · have h := ifpE (b2i_t hb) h
      refine g_aload_n cd200_30 rfl rfl ?_
      refine g_bipush cd200_31 rfl ?_
      refine g_iload_n cd200_33 rfl rfl ?_
      refine g_iadd cd200_34 rfl ?_
      refine g_aload_n cd200_35 rfl rfl ?_
      refine g_iconst cd200_36 rfl ?_
      refine g_sipush cd200_37 rfl ?_
      obtain ⟨x3, hx, h⟩ := bnd h
      refine g_callVZ (L := [some (.ref 204), some (.int 0), some (.int 999)]) cd200_40 rfl rfl rfl rfl rfl (OM.o hw) (t_Mod_readNumber (by omega) hw hx) ?_
      obtain ⟨x4, hx, h⟩ := bnd h
      refine g_callVZ (L := [some (.ref 204), some (.int (90 + (x1.2.1 207 ((2 : Int32).toNatClampNeg)))), some (.int (b2i x3.1))]) cd200_43 rfl rfl rfl rfl rfl (OM.o hw) (t_Mod_put (by omega) hw hx) ?_
      refine g_if_eq cd200_46 rfl (fun hb => ?_) (fun hb => ?_)
      · have h := ifnE (b2i_f hb) h
        refine g_iconst cd200_76 rfl ?_
        exact g_iret cd200_77 (Or.inr ⟨rfl, Or.inl rfl⟩) (by obtain rfl := Option.some.inj h; rfl)
      · have h := ifpE (b2i_t hb) h
        refine g_aload_n cd200_49 rfl rfl ?_
        refine g_bipush cd200_50 rfl ?_
        refine g_iload_n cd200_52 rfl rfl ?_
        refine g_iadd cd200_53 rfl ?_
        refine g_aload_n cd200_54 rfl rfl ?_
        refine g_aload_n cd200_55 rfl rfl ?_
        refine g_getP cd200_56 rfl (OM.o hw) (OM.p15 hw) ?_
        refine g_bipush cd200_59 rfl ?_
        refine g_iload_n cd200_61 rfl rfl ?_
        refine g_iadd cd200_62 rfl ?_
        obtain ⟨hg5, h⟩ := grd h
        refine G_iald cd200_63 rfl (OM.s15 hw) hg5 ?_
        refine g_sipush cd200_64 rfl ?_
        obtain ⟨x6, hx, h⟩ := bnd h
        refine g_callVZ (L := [some (.ref 204), some (.int (x4.2 207 ((90 + (x1.2.1 207 ((2 : Int32).toNatClampNeg))).toNatClampNeg))), some (.int 999)]) cd200_67 rfl rfl rfl rfl rfl (OM.o hw) (t_Mod_readNumber (by omega) hw hx) ?_
        obtain ⟨x7, hx, h⟩ := bnd h
        refine g_callVZ (L := [some (.ref 204), some (.int (96 + (x1.2.1 207 ((2 : Int32).toNatClampNeg)))), some (.int (b2i x6.1))]) cd200_70 rfl rfl rfl rfl rfl (OM.o hw) (t_Mod_put (by omega) hw hx) ?_
        refine g_if_ne cd200_73 rfl (fun hb => ?_) (fun hb => ?_)
        · have h := ifnE (b2i_f hb) h
          refine g_iconst cd200_76 rfl ?_
          exact g_iret cd200_77 (Or.inr ⟨rfl, Or.inl rfl⟩) (by obtain rfl := Option.some.inj h; rfl)
        · have h := ifpE (b2i_t hb) h
          refine g_aload_n cd200_78 rfl rfl ?_
          refine g_getP cd200_79 rfl (OM.o hw) (OM.p15 hw) ?_
          refine g_iconst cd200_82 rfl ?_
          refine g_dup2R cd200_83 rfl ?_
          refine G_iald cd200_84 rfl (OM.s15 hw) (by decide) ?_
          refine g_iconst cd200_85 rfl ?_
          refine g_iadd cd200_86 rfl ?_
          obtain ⟨I8, e1, h⟩ := bnd h
          refine G_iast cd200_87 rfl (OM.s15 hw) (by decide) (Option.some.inj e1) ?_
          refine g_iconst cd200_88 rfl ?_
          exact g_iret cd200_89 (Or.inr ⟨rfl, Or.inr rfl⟩) (by obtain rfl := Option.some.inj h; rfl)
/-! HiddenOrLostModel.readReading()Z -/
theorem cd202_0 : code9 202 0 = some (0, .aload_n 0, [1], .null, []) := rfl
theorem cd202_1 : code9 202 1 = some (0, .invokevirtual 82, [3, 179, 1, 1, 0, 5, 12, 0], .null, []) := rfl
theorem cd202_4 : code9 202 4 = some (0, .aload_n 0, [1], .null, []) := rfl
theorem cd202_5 : code9 202 5 = some (0, .iconst 5, [1], .int 5, []) := rfl
theorem cd202_6 : code9 202 6 = some (0, .bipush 7, [2], .int 7, []) := rfl
theorem cd202_8 : code9 202 8 = some (0, .invokevirtual 197, [3, 199, 3, 1, 3, 4, 12, 0], .null, []) := rfl
theorem cd202_11 : code9 202 11 = some (0, .ireturn, [1, 3], .null, []) := rfl
def Mod_readReading (N : Nat) (I : FI) (J : FJ) : Option (Bool × FI × FJ) := Option.bind (Mod_go N I J) fun x1 => (Option.bind (Mod_isOneOf N 5 7 x1.1 x1.2) fun x2 => (some (x2.1, x2.2, x1.2)))
set_option maxRecDepth 8000 in
theorem t_Mod_readReading {d : Nat} {N : Nat} {c : Nat × Nat} {S : Nat → Nat × Nat} {P : Nat → Nat → Option Nat} {I : FI} {J : FJ} {r : Bool × FI × FJ} (hd : 4 ≤ d) (hw : OM S P) (h : Mod_readReading N I J = some r) : Go d M_Mod_readReading 0 [some (.ref 204)] [] (c, S, I, J, P) (some (.int (b2i r.1)), false, (c, S, r.2.1, r.2.2, P)) := by
  obtain ⟨d, rfl⟩ : ∃ e, d = e + 1 := ⟨d - 1, by omega⟩
  unfold Mod_readReading at h
  refine g_aload_n cd202_0 rfl rfl ?_
  obtain ⟨x1, hx, h⟩ := bnd h
  refine g_callVV (L := [some (.ref 204), none, none, none, none]) cd202_1 rfl rfl rfl rfl rfl (OM.o hw) (t_Mod_go (by omega) hw hx) ?_
  refine g_aload_n cd202_4 rfl rfl ?_
  refine g_iconst cd202_5 rfl ?_
  refine g_bipush cd202_6 rfl ?_
  obtain ⟨x2, hx, h⟩ := bnd h
  refine g_callVZ (L := [some (.ref 204), some (.int 5), some (.int 7), none]) cd202_8 rfl rfl rfl rfl rfl (OM.o hw) (t_Mod_isOneOf (by omega) hw hx) ?_
  exact g_iret cd202_11 (Or.inr ⟨rfl, b2i_or _⟩) (by obtain rfl := Option.some.inj h; rfl)
/-! HiddenOrLostModel.readHint()Z -/
theorem cd201_0 : code9 201 0 = some (0, .aload_n 0, [1], .null, []) := rfl
theorem cd201_1 : code9 201 1 = some (0, .invokevirtual 200, [3, 202, 1, 1, 3, 1, 12, 0], .null, []) := rfl
theorem cd201_4 : code9 201 4 = some (0, .ifCond .ne 5, [3, 9], .null, []) := rfl
theorem cd201_7 : code9 201 7 = some (0, .iconst 0, [1], .int 0, []) := rfl
theorem cd201_8 : code9 201 8 = some (0, .ireturn, [1, 3], .null, []) := rfl
theorem cd201_9 : code9 201 9 = some (0, .iconst 4, [1], .int 4, []) := rfl
theorem cd201_10 : code9 201 10 = some (0, .aload_n 0, [1], .null, []) := rfl
theorem cd201_11 : code9 201 11 = some (0, .getfield 79, [3, 12, 13, 0], .null, []) := rfl
theorem cd201_14 : code9 201 14 = some (0, .imul, [1], .null, []) := rfl
theorem cd201_15 : code9 201 15 = some (0, .istore_n 1, [1], .null, []) := rfl
theorem cd201_16 : code9 201 16 = some (0, .aload_n 0, [1], .null, []) := rfl
theorem cd201_17 : code9 201 17 = some (0, .invokevirtual 82, [3, 179, 1, 1, 0, 5, 12, 0], .null, []) := rfl
theorem cd201_20 : code9 201 20 = some (0, .aload_n 0, [1], .null, []) := rfl
theorem cd201_21 : code9 201 21 = some (0, .bipush 26, [2], .int 26, []) := rfl
theorem cd201_23 : code9 201 23 = some (0, .bipush 29, [2], .int 29, []) := rfl
theorem cd201_25 : code9 201 25 = some (0, .invokevirtual 197, [3, 199, 3, 1, 3, 4, 12, 0], .null, []) := rfl
theorem cd201_28 : code9 201 28 = some (0, .ifCond .ne 5, [3, 33], .null, []) := rfl
theorem cd201_31 : code9 201 31 = some (0, .iconst 0, [1], .int 0, []) := rfl
theorem cd201_32 : code9 201 32 = some (0, .ireturn, [1, 3], .null, []) := rfl
theorem cd201_33 : code9 201 33 = some (0, .iload_n 1, [1], .null, []) := rfl
theorem cd201_34 : code9 201 34 = some (0, .aload_n 0, [1], .null, []) := rfl
theorem cd201_35 : code9 201 35 = some (0, .getfield 79, [3, 12, 13, 0], .null, []) := rfl
theorem cd201_38 : code9 201 38 = some (0, .iadd, [1], .null, []) := rfl
theorem cd201_39 : code9 201 39 = some (0, .istore_n 1, [1], .null, []) := rfl
theorem cd201_40 : code9 201 40 = some (0, .aload_n 0, [1], .null, []) := rfl
theorem cd201_41 : code9 201 41 = some (0, .iconst 1, [1], .int 1, []) := rfl
theorem cd201_42 : code9 201 42 = some (0, .iload_n 1, [1], .null, []) := rfl
theorem cd201_43 : code9 201 43 = some (0, .iadd, [1], .null, []) := rfl
theorem cd201_44 : code9 201 44 = some (0, .invokevirtual 180, [3, 189, 2, 1, 3, 2, 12, 0], .null, []) := rfl
theorem cd201_47 : code9 201 47 = some (0, .ifCond .eq 25, [3, 72], .null, []) := rfl
theorem cd201_50 : code9 201 50 = some (0, .aload_n 0, [1], .null, []) := rfl
theorem cd201_51 : code9 201 51 = some (0, .bipush 6, [2], .int 6, []) := rfl
theorem cd201_53 : code9 201 53 = some (0, .iload_n 1, [1], .null, []) := rfl
theorem cd201_54 : code9 201 54 = some (0, .iadd, [1], .null, []) := rfl
theorem cd201_55 : code9 201 55 = some (0, .aload_n 0, [1], .null, []) := rfl
theorem cd201_56 : code9 201 56 = some (0, .iconst 0, [1], .int 0, []) := rfl
theorem cd201_57 : code9 201 57 = some (0, .bipush 12, [2], .int 12, []) := rfl
theorem cd201_59 : code9 201 59 = some (0, .invokevirtual 183, [3, 190, 3, 1, 3, 3, 12, 0], .null, []) := rfl
theorem cd201_62 : code9 201 62 = some (0, .invokevirtual 187, [3, 192, 3, 1, 3, 3, 12, 0], .null, []) := rfl
theorem cd201_65 : code9 201 65 = some (0, .ifCond .eq 7, [3, 72], .null, []) := rfl
theorem cd201_68 : code9 201 68 = some (0, .iconst 1, [1], .int 1, []) := rfl
theorem cd201_69 : code9 201 69 = some (0, .goto 4, [3, 73, 2], .null, []) := rfl
theorem cd201_72 : code9 201 72 = some (3, .iconst 0, [1], .int 0, []) := rfl
theorem cd201_73 : code9 201 73 = some (3, .ireturn, [1, 3], .null, []) := rfl
def Mod_readHint (N : Nat) (I : FI) (J : FJ) : Option (Bool × FI × FJ) := Option.bind (Mod_readReading N I J) fun x1 => (if x1.1 then (Option.bind (Mod_go N x1.2.1 x1.2.2) fun x2 => (Option.bind (Mod_isOneOf N 26 29 x2.1 x2.2) fun x3 => (if x3.1 then (Option.bind (Mod_isFresh N (1 + ((4 * (x1.2.1 204 13)) + (x3.2 204 13))) x3.2 x2.2) fun x4 => (if x4.1 then (Option.bind (Mod_readNumber N 0 12 x4.2.1 x4.2.2) fun x5 => (Option.bind (Mod_put (6 + ((4 * (x1.2.1 204 13)) + (x3.2 204 13))) x5.1 x5.2.1) fun x6 => (if x6.1 then (some (true, x6.2, x5.2.2)) else (some (false, x6.2, x5.2.2))))) else (some (false, x4.2.1, x4.2.2)))) else (some (false, x3.2, x2.2))))) else (some (false, x1.2.1, x1.2.2)))
set_option maxRecDepth 8000 in
theorem t_Mod_readHint {d : Nat} {N : Nat} {c : Nat × Nat} {S : Nat → Nat × Nat} {P : Nat → Nat → Option Nat} {I : FI} {J : FJ} {r : Bool × FI × FJ} (hd : 5 ≤ d) (hw : OM S P) (h : Mod_readHint N I J = some r) : Go d M_Mod_readHint 0 [some (.ref 204), none] [] (c, S, I, J, P) (some (.int (b2i r.1)), false, (c, S, r.2.1, r.2.2, P)) := by
  obtain ⟨d, rfl⟩ : ∃ e, d = e + 1 := ⟨d - 1, by omega⟩
  unfold Mod_readHint at h
  refine g_aload_n cd201_0 rfl rfl ?_
  obtain ⟨x1, hx, h⟩ := bnd h
  refine g_callVZ (L := [some (.ref 204)]) cd201_1 rfl rfl rfl rfl rfl (OM.o hw) (t_Mod_readReading (by omega) hw hx) ?_
  refine g_if_ne cd201_4 rfl (fun hb => ?_) (fun hb => ?_)
  · have h := ifnE (b2i_f hb) h
    refine g_iconst cd201_7 rfl ?_
    exact g_iret cd201_8 (Or.inr ⟨rfl, Or.inl rfl⟩) (by obtain rfl := Option.some.inj h; rfl)
  · have h := ifpE (b2i_t hb) h
    refine g_iconst cd201_9 rfl ?_
    refine g_aload_n cd201_10 rfl rfl ?_
    refine g_getI cd201_11 rfl (OM.o hw) ?_
    refine g_imul cd201_14 rfl ?_
    refine g_istore_n (ls2 := [some (.ref 204), some (.int (4 * (x1.2.1 204 13)))]) cd201_15 rfl rfl ?_
    refine g_aload_n cd201_16 rfl rfl ?_
    obtain ⟨x2, hx, h⟩ := bnd h
    refine g_callVV (L := [some (.ref 204), none, none, none, none]) cd201_17 rfl rfl rfl rfl rfl (OM.o hw) (t_Mod_go (by omega) hw hx) ?_
    refine g_aload_n cd201_20 rfl rfl ?_
    refine g_bipush cd201_21 rfl ?_
    refine g_bipush cd201_23 rfl ?_
    obtain ⟨x3, hx, h⟩ := bnd h
    refine g_callVZ (L := [some (.ref 204), some (.int 26), some (.int 29), none]) cd201_25 rfl rfl rfl rfl rfl (OM.o hw) (t_Mod_isOneOf (by omega) hw hx) ?_
    refine g_if_ne cd201_28 rfl (fun hb => ?_) (fun hb => ?_)
    · have h := ifnE (b2i_f hb) h
      refine g_iconst cd201_31 rfl ?_
      exact g_iret cd201_32 (Or.inr ⟨rfl, Or.inl rfl⟩) (by obtain rfl := Option.some.inj h; rfl)
    · have h := ifpE (b2i_t hb) h
      refine g_iload_n cd201_33 rfl rfl ?_
      refine g_aload_n cd201_34 rfl rfl ?_
      refine g_getI cd201_35 rfl (OM.o hw) ?_
      refine g_iadd cd201_38 rfl ?_
      refine g_istore_n (ls2 := [some (.ref 204), some (.int ((4 * (x1.2.1 204 13)) + (x3.2 204 13)))]) cd201_39 rfl rfl ?_
      refine g_aload_n cd201_40 rfl rfl ?_
      refine g_iconst cd201_41 rfl ?_
      refine g_iload_n cd201_42 rfl rfl ?_
      refine g_iadd cd201_43 rfl ?_
      obtain ⟨x4, hx, h⟩ := bnd h
      refine g_callVZ (L := [some (.ref 204), some (.int (1 + ((4 * (x1.2.1 204 13)) + (x3.2 204 13))))]) cd201_44 rfl rfl rfl rfl rfl (OM.o hw) (t_Mod_isFresh (by omega) hw hx) ?_
      refine g_if_eq cd201_47 rfl (fun hb => ?_) (fun hb => ?_)
      · have h := ifnE (b2i_f hb) h
        refine g_iconst cd201_72 rfl ?_
        exact g_iret cd201_73 (Or.inr ⟨rfl, Or.inl rfl⟩) (by obtain rfl := Option.some.inj h; rfl)
      · have h := ifpE (b2i_t hb) h
        refine g_aload_n cd201_50 rfl rfl ?_
        refine g_bipush cd201_51 rfl ?_
        refine g_iload_n cd201_53 rfl rfl ?_
        refine g_iadd cd201_54 rfl ?_
        refine g_aload_n cd201_55 rfl rfl ?_
        refine g_iconst cd201_56 rfl ?_
        refine g_bipush cd201_57 rfl ?_
        obtain ⟨x5, hx, h⟩ := bnd h
        refine g_callVZ (L := [some (.ref 204), some (.int 0), some (.int 12)]) cd201_59 rfl rfl rfl rfl rfl (OM.o hw) (t_Mod_readNumber (by omega) hw hx) ?_
        obtain ⟨x6, hx, h⟩ := bnd h
        refine g_callVZ (L := [some (.ref 204), some (.int (6 + ((4 * (x1.2.1 204 13)) + (x3.2 204 13)))), some (.int (b2i x5.1))]) cd201_62 rfl rfl rfl rfl rfl (OM.o hw) (t_Mod_put (by omega) hw hx) ?_
        refine g_if_eq cd201_65 rfl (fun hb => ?_) (fun hb => ?_)
        · have h := ifnE (b2i_f hb) h
          refine g_iconst cd201_72 rfl ?_
          exact g_iret cd201_73 (Or.inr ⟨rfl, Or.inl rfl⟩) (by obtain rfl := Option.some.inj h; rfl)
        · have h := ifpE (b2i_t hb) h
          refine g_iconst cd201_68 rfl ?_
          refine g_goto (ls2 := [some (.ref 204), some (.int ((4 * (x1.2.1 204 13)) + (x3.2 204 13)))]) cd201_69 rfl rfl ?_
          exact g_iret cd201_73 (Or.inr ⟨rfl, Or.inr rfl⟩) (by obtain rfl := Option.some.inj h; rfl)

/-! HiddenOrLostModel.sentence()I -/
theorem cd283_0 : code9 283 0 = some (0, .aload_n 0, [1], .null, []) := rfl
theorem cd283_1 : code9 283 1 = some (0, .sipush 200, [3], .int 200, []) := rfl
theorem cd283_4 : code9 283 4 = some (0, .invokevirtual 224, [3, 177, 2, 1, 0, 2, 12, 0], .null, []) := rfl
theorem cd283_7 : code9 283 7 = some (0, .aload_n 0, [1], .null, []) := rfl
theorem cd283_8 : code9 283 8 = some (0, .iconst 0, [1], .int 0, []) := rfl
theorem cd283_9 : code9 283 9 = some (0, .putfield 397, [3, 12, 42, 0], .null, []) := rfl
theorem cd283_12 : code9 283 12 = some (0, .aload_n 0, [1], .null, []) := rfl
theorem cd283_13 : code9 283 13 = some (0, .iconst 0, [1], .int 0, []) := rfl
theorem cd283_14 : code9 283 14 = some (0, .putfield 412, [3, 12, 43, 0], .null, []) := rfl
theorem cd283_17 : code9 283 17 = some (0, .aload_n 0, [1], .null, []) := rfl
theorem cd283_18 : code9 283 18 = some (0, .iconst 0, [1], .int 0, []) := rfl
theorem cd283_19 : code9 283 19 = some (0, .putfield 415, [3, 12, 44, 0], .null, []) := rfl
theorem cd283_22 : code9 283 22 = some (0, .aload_n 0, [1], .null, []) := rfl
theorem cd283_23 : code9 283 23 = some (0, .invokevirtual 430, [3, 284, 1, 1, 3, 2, 12, 0], .null, []) := rfl
theorem cd283_26 : code9 283 26 = some (0, .ifCond .ne 10, [3, 36], .null, []) := rfl
theorem cd283_29 : code9 283 29 = some (0, .iconst (-1), [1], .int (-1), []) := rfl
theorem cd283_30 : code9 283 30 = some (0, .aload_n 0, [1], .null, []) := rfl
theorem cd283_31 : code9 283 31 = some (0, .getfield 69, [3, 12, 11, 0], .null, []) := rfl
theorem cd283_34 : code9 283 34 = some (0, .isub, [1], .null, []) := rfl
theorem cd283_35 : code9 283 35 = some (0, .ireturn, [1, 1], .null, []) := rfl
theorem cd283_36 : code9 283 36 = some (0, .aload_n 0, [1], .null, []) := rfl
theorem cd283_37 : code9 283 37 = some (0, .getfield 30, [3, 12, 7, 0], .null, []) := rfl
theorem cd283_40 : code9 283 40 = some (0, .ifCond .eq 16, [3, 56], .null, []) := rfl
theorem cd283_43 : code9 283 43 = some (0, .aload_n 0, [1], .null, []) := rfl
theorem cd283_44 : code9 283 44 = some (0, .iconst 1, [1], .int 1, []) := rfl
theorem cd283_45 : code9 283 45 = some (0, .invokevirtual 72, [3, 188, 2, 1, 3, 2, 12, 0], .null, []) := rfl
theorem cd283_48 : code9 283 48 = some (0, .pop, [1], .null, []) := rfl
theorem cd283_49 : code9 283 49 = some (0, .iconst (-1), [1], .int (-1), []) := rfl
theorem cd283_50 : code9 283 50 = some (0, .aload_n 0, [1], .null, []) := rfl
theorem cd283_51 : code9 283 51 = some (0, .getfield 69, [3, 12, 11, 0], .null, []) := rfl
theorem cd283_54 : code9 283 54 = some (0, .isub, [1], .null, []) := rfl
theorem cd283_55 : code9 283 55 = some (0, .ireturn, [1, 1], .null, []) := rfl
theorem cd283_56 : code9 283 56 = some (0, .aload_n 0, [1], .null, []) := rfl
theorem cd283_57 : code9 283 57 = some (0, .getfield 98, [3, 12, 14, 2], .null, []) := rfl
theorem cd283_60 : code9 283 60 = some (0, .sipush 209, [3], .int 209, []) := rfl
theorem cd283_63 : code9 283 63 = some (0, .iconst 1, [1], .int 1, []) := rfl
theorem cd283_64 : code9 283 64 = some (0, .iastore, [1], .null, []) := rfl
theorem cd283_65 : code9 283 65 = some (0, .aload_n 0, [1], .null, []) := rfl
theorem cd283_66 : code9 283 66 = some (0, .getfield 98, [3, 12, 14, 2], .null, []) := rfl
theorem cd283_69 : code9 283 69 = some (0, .sipush 210, [3], .int 210, []) := rfl
theorem cd283_72 : code9 283 72 = some (0, .aload_n 0, [1], .null, []) := rfl
theorem cd283_73 : code9 283 73 = some (0, .getfield 403, [3, 12, 45, 0], .null, []) := rfl
theorem cd283_76 : code9 283 76 = some (0, .iastore, [1], .null, []) := rfl
theorem cd283_77 : code9 283 77 = some (0, .iconst 0, [1], .int 0, []) := rfl
theorem cd283_78 : code9 283 78 = some (0, .istore_n 1, [1], .null, []) := rfl
theorem cd283_79 : code9 283 79 = some (3, .iload_n 1, [1], .null, []) := rfl
theorem cd283_80 : code9 283 80 = some (0, .sipush 240, [3], .int 240, []) := rfl
theorem cd283_83 : code9 283 83 = some (0, .if_icmp .ge 25, [3, 108], .null, []) := rfl
theorem cd283_86 : code9 283 86 = some (0, .aload_n 0, [1], .null, []) := rfl
theorem cd283_87 : code9 283 87 = some (0, .getfield 98, [3, 12, 14, 2], .null, []) := rfl
theorem cd283_90 : code9 283 90 = some (0, .sipush 211, [3], .int 211, []) := rfl
theorem cd283_93 : code9 283 93 = some (0, .iload_n 1, [1], .null, []) := rfl
theorem cd283_94 : code9 283 94 = some (0, .iadd, [1], .null, []) := rfl
theorem cd283_95 : code9 283 95 = some (0, .aload_n 0, [1], .null, []) := rfl
theorem cd283_96 : code9 283 96 = some (0, .getfield 160, [3, 12, 41, 2], .null, []) := rfl
theorem cd283_99 : code9 283 99 = some (0, .iload_n 1, [1], .null, []) := rfl
theorem cd283_100 : code9 283 100 = some (0, .iaload, [1], .null, []) := rfl
theorem cd283_101 : code9 283 101 = some (0, .iastore, [1], .null, []) := rfl
theorem cd283_102 : code9 283 102 = some (0, .iinc 1 1, [3], .int 1, []) := rfl
theorem cd283_105 : code9 283 105 = some (0, .goto (-26), [3, 79, 2], .null, []) := rfl
theorem cd283_108 : code9 283 108 = some (0, .aload_n 0, [1], .null, []) := rfl
theorem cd283_109 : code9 283 109 = some (0, .getfield 412, [3, 12, 43, 0], .null, []) := rfl
theorem cd283_112 : code9 283 112 = some (0, .ireturn, [1, 1], .null, []) := rfl
def Mod_sentence_79 (N : Nat) : Nat → Int32 → FI → FJ → Option (Int32 × FI × FJ)
  | 0 => fun _ _ _ => none
  | n + 1 => fun l1 I J => if 240 ≤ l1 then (some (I 204 43, I, J)) else (if in9 l1 240 then (if in9 (211 + l1) 451 then (Option.bind (some (up2 I 206 ((211 + l1).toNatClampNeg) (I 224 l1.toNatClampNeg))) fun I10 => (Mod_sentence_79 N n (l1 + 1) I10 J)) else none) else none)
def Mod_sentence (N : Nat) (I : FI) (J : FJ) : Option (Int32 × FI × FJ) := Option.bind (Mod_begin N 200 I J) fun x1 => (Option.bind (some (up2 x1.1 204 42 (0 : Int32))) fun I2 => (Option.bind (some (up2 I2 204 43 (0 : Int32))) fun I3 => (Option.bind (some (up2 I3 204 44 (0 : Int32))) fun I4 => (Option.bind (Mod_readOr (Mod_readSaid_R N dK) N I4 x1.2) fun x5 => (if x5.1 then (if (x5.2.1 204 7) = 0 then (Option.bind (some (up2 x5.2.1 206 ((209 : Int32).toNatClampNeg) (1 : Int32))) fun I6 => (Option.bind (some (up2 I6 206 ((210 : Int32).toNatClampNeg) (I6 204 45))) fun I7 => (Mod_sentence_79 N N 0 I7 x5.2.2))) else (Option.bind (Mod_bad 1 x5.2.1) fun x11 => (some ((-1) - (x11.2 204 11), x11.2, x5.2.2)))) else (some ((-1) - (x5.2.1 204 11), x5.2.1, x5.2.2)))))))
set_option maxRecDepth 8000 in
theorem t_Mod_sentence_79 {d : Nat} {N : Nat} {c : Nat × Nat} {S : Nat → Nat × Nat} {P : Nat → Nat → Option Nat} {r : Int32 × FI × FJ} (hd : 389 ≤ (d + 1)) (hw : OM S P) : ∀ (n : Nat) (l1 : Int32) (I : FI) (J : FJ), Mod_sentence_79 N n l1 I J = some r → Go (d + 1) M_Mod_sentence 79 [some (.ref 204), some (.int l1)] [] (c, S, I, J, P) (some (.int r.1), false, (c, S, r.2.1, r.2.2, P)) := by
  intro n
  induction n with
  | zero =>
    intro l1 I J h
    cases h
  | succ n ih =>
    intro l1 I J h
    unfold Mod_sentence_79 at h
    refine g_iload_n cd283_79 rfl rfl ?_
    refine g_sipush cd283_80 rfl ?_
    refine g_icmp_ge cd283_83 rfl (fun hb => ?_) (fun hb => ?_)
    · have h := ifpE hb h
      refine g_aload_n cd283_108 rfl rfl ?_
      refine g_getI cd283_109 rfl (OM.o hw) ?_
      exact g_iret cd283_112 (Or.inl rfl) (by obtain rfl := Option.some.inj h; rfl)
    · have h := ifnE hb h
      refine g_aload_n cd283_86 rfl rfl ?_
      refine g_getP cd283_87 rfl (OM.o hw) (OM.p14 hw) ?_
      refine g_sipush cd283_90 rfl ?_
      refine g_iload_n cd283_93 rfl rfl ?_
      refine g_iadd cd283_94 rfl ?_
      refine g_aload_n cd283_95 rfl rfl ?_
      refine g_getP cd283_96 rfl (OM.o hw) (OM.p41 hw) ?_
      refine g_iload_n cd283_99 rfl rfl ?_
      obtain ⟨hg8, h⟩ := grd h
      refine G_iald cd283_100 rfl (OM.s41 hw) hg8 ?_
      obtain ⟨hg9, h⟩ := grd h
      obtain ⟨I10, e1, h⟩ := bnd h
      refine G_iast cd283_101 rfl (OM.s14 hw) hg9 (Option.some.inj e1) ?_
      refine g_iinc (ls2 := [some (.ref 204), some (.int (l1 + 1))]) cd283_102 rfl rfl rfl ?_
      refine g_goto (ls2 := [some (.ref 204), some (.int (l1 + 1))]) cd283_105 rfl rfl ?_
      exact ih (l1 + 1) I10 J h
set_option maxRecDepth 8000 in
theorem t_Mod_sentence {d : Nat} {N : Nat} {c : Nat × Nat} {S : Nat → Nat × Nat} {P : Nat → Nat → Option Nat} {I : FI} {J : FJ} {r : Int32 × FI × FJ} (hd : 389 ≤ d) (hw : OM S P) (h : Mod_sentence N I J = some r) : Go d M_Mod_sentence 0 [some (.ref 204), none] [] (c, S, I, J, P) (some (.int r.1), false, (c, S, r.2.1, r.2.2, P)) := by
  obtain ⟨d, rfl⟩ : ∃ e, d = e + 1 := ⟨d - 1, by omega⟩
  unfold Mod_sentence at h
  refine g_aload_n cd283_0 rfl rfl ?_
  refine g_sipush cd283_1 rfl ?_
  obtain ⟨x1, hx, h⟩ := bnd h
  refine g_callVV (L := [some (.ref 204), some (.int 200)]) cd283_4 rfl rfl rfl rfl rfl (OM.o hw) (t_Mod_begin (by omega) hw hx) ?_
  refine g_aload_n cd283_7 rfl rfl ?_
  refine g_iconst cd283_8 rfl ?_
  obtain ⟨I2, e1, h⟩ := bnd h
  refine G_putI cd283_9 rfl (OM.o hw) (Option.some.inj e1) ?_
  refine g_aload_n cd283_12 rfl rfl ?_
  refine g_iconst cd283_13 rfl ?_
  obtain ⟨I3, e1, h⟩ := bnd h
  refine G_putI cd283_14 rfl (OM.o hw) (Option.some.inj e1) ?_
  refine g_aload_n cd283_17 rfl rfl ?_
  refine g_iconst cd283_18 rfl ?_
  obtain ⟨I4, e1, h⟩ := bnd h
  refine G_putI cd283_19 rfl (OM.o hw) (Option.some.inj e1) ?_
  refine g_aload_n cd283_22 rfl rfl ?_
  obtain ⟨x5, hx, h⟩ := bnd h
  refine g_callVZ (L := [some (.ref 204), none]) cd283_23 rfl rfl rfl rfl rfl (OM.o hw) (t_Mod_readOr (D := 6 * dK) (by have := dK_eq; omega) (t_Mod_readSaid_R dK (6 * dK) (Nat.le_refl _)) hw hx) ?_
  refine g_if_ne cd283_26 rfl (fun hb => ?_) (fun hb => ?_)
  · have h := ifnE (b2i_f hb) h
    refine g_iconst cd283_29 rfl ?_
    refine g_aload_n cd283_30 rfl rfl ?_
    refine g_getI cd283_31 rfl (OM.o hw) ?_
    refine g_isub cd283_34 rfl ?_
    exact g_iret cd283_35 (Or.inl rfl) (by obtain rfl := Option.some.inj h; rfl)
  · have h := ifpE (b2i_t hb) h
    refine g_aload_n cd283_36 rfl rfl ?_
    refine g_getI cd283_37 rfl (OM.o hw) ?_
    refine g_if_eq cd283_40 rfl (fun hb => ?_) (fun hb => ?_)
    · have h := ifpE hb h
      refine g_aload_n cd283_56 rfl rfl ?_
      refine g_getP cd283_57 rfl (OM.o hw) (OM.p14 hw) ?_
      refine g_sipush cd283_60 rfl ?_
      refine g_iconst cd283_63 rfl ?_
      obtain ⟨I6, e1, h⟩ := bnd h
      refine G_iast cd283_64 rfl (OM.s14 hw) (by decide) (Option.some.inj e1) ?_
      refine g_aload_n cd283_65 rfl rfl ?_
      refine g_getP cd283_66 rfl (OM.o hw) (OM.p14 hw) ?_
      refine g_sipush cd283_69 rfl ?_
      refine g_aload_n cd283_72 rfl rfl ?_
      refine g_getI cd283_73 rfl (OM.o hw) ?_
      obtain ⟨I7, e1, h⟩ := bnd h
      refine G_iast cd283_76 rfl (OM.s14 hw) (by decide) (Option.some.inj e1) ?_
      refine g_iconst cd283_77 rfl ?_
      refine g_istore_n (ls2 := [some (.ref 204), some (.int 0)]) cd283_78 rfl rfl ?_
      exact t_Mod_sentence_79 hd hw _ 0 I7 x5.2.2 h
    · have h := ifnE hb h
      refine g_aload_n cd283_43 rfl rfl ?_
      refine g_iconst cd283_44 rfl ?_
      obtain ⟨x11, hx, h⟩ := bnd h
      refine g_callVZ (L := [some (.ref 204), some (.int 1)]) cd283_45 rfl rfl rfl rfl rfl (OM.o hw) (t_Mod_bad (by omega) hw hx) ?_
      refine g_popI cd283_48 rfl ?_
      refine g_iconst cd283_49 rfl ?_
      refine g_aload_n cd283_50 rfl rfl ?_
      refine g_getI cd283_51 rfl (OM.o hw) ?_
      refine g_isub cd283_54 rfl ?_
      exact g_iret cd283_55 (Or.inl rfl) (by obtain rfl := Option.some.inj h; rfl)
/-! HiddenOrLostModel.holds(II)Z -/
theorem cd294_0 : code9 294 0 = some (0, .sipush 211, [3], .int 211, []) := rfl
theorem cd294_3 : code9 294 3 = some (0, .iconst 4, [1], .int 4, []) := rfl
theorem cd294_4 : code9 294 4 = some (0, .iload_n 1, [1], .null, []) := rfl
theorem cd294_5 : code9 294 5 = some (0, .imul, [1], .null, []) := rfl
theorem cd294_6 : code9 294 6 = some (0, .iadd, [1], .null, []) := rfl
theorem cd294_7 : code9 294 7 = some (0, .istore_n 3, [1], .null, []) := rfl
theorem cd294_8 : code9 294 8 = some (0, .aload_n 0, [1], .null, []) := rfl
theorem cd294_9 : code9 294 9 = some (0, .getfield 98, [3, 12, 14, 2], .null, []) := rfl
theorem cd294_12 : code9 294 12 = some (0, .iload_n 3, [1], .null, []) := rfl
theorem cd294_13 : code9 294 13 = some (0, .iconst 1, [1], .int 1, []) := rfl
theorem cd294_14 : code9 294 14 = some (0, .iadd, [1], .null, []) := rfl
theorem cd294_15 : code9 294 15 = some (0, .iaload, [1], .null, []) := rfl
theorem cd294_16 : code9 294 16 = some (0, .istore 4, [2], .null, []) := rfl
theorem cd294_18 : code9 294 18 = some (0, .aload_n 0, [1], .null, []) := rfl
theorem cd294_19 : code9 294 19 = some (0, .getfield 98, [3, 12, 14, 2], .null, []) := rfl
theorem cd294_22 : code9 294 22 = some (0, .iload_n 3, [1], .null, []) := rfl
theorem cd294_23 : code9 294 23 = some (0, .iconst 2, [1], .int 2, []) := rfl
theorem cd294_24 : code9 294 24 = some (0, .iadd, [1], .null, []) := rfl
theorem cd294_25 : code9 294 25 = some (0, .iaload, [1], .null, []) := rfl
theorem cd294_26 : code9 294 26 = some (0, .istore 5, [2], .null, []) := rfl
theorem cd294_28 : code9 294 28 = some (0, .aload_n 0, [1], .null, []) := rfl
theorem cd294_29 : code9 294 29 = some (0, .getfield 98, [3, 12, 14, 2], .null, []) := rfl
theorem cd294_32 : code9 294 32 = some (0, .iload_n 3, [1], .null, []) := rfl
theorem cd294_33 : code9 294 33 = some (0, .iaload, [1], .null, []) := rfl
theorem cd294_34 : code9 294 34 = some (0, .lookupswitch 298 #[(1, 106), (2, 122), (3, 148), (72, 174), (73, 193), (74, 199), (75, 219), (76, 239), (77, 239), (78, 239), (79, 239), (80, 269)], [106, 332], .null, [(1, 140), (2, 156), (3, 182), (72, 208), (73, 227), (74, 233), (75, 253), (76, 273), (77, 273), (78, 273), (79, 273), (80, 303)]) := rfl
theorem cd294_140 : code9 294 140 = some (0, .aload_n 0, [1], .null, []) := rfl
theorem cd294_141 : code9 294 141 = some (0, .iload 4, [2], .null, []) := rfl
theorem cd294_143 : code9 294 143 = some (0, .iload_n 2, [1], .null, []) := rfl
theorem cd294_144 : code9 294 144 = some (0, .invokevirtual 436, [3, 294, 3, 1, 3, 8, 12, 0], .null, []) := rfl
theorem cd294_147 : code9 294 147 = some (0, .ifCond .ne 7, [3, 154], .null, []) := rfl
theorem cd294_150 : code9 294 150 = some (0, .iconst 1, [1], .int 1, []) := rfl
theorem cd294_151 : code9 294 151 = some (0, .goto 4, [3, 155, 6], .null, []) := rfl
theorem cd294_154 : code9 294 154 = some (0, .iconst 0, [1], .int 0, []) := rfl
theorem cd294_155 : code9 294 155 = some (7, .ireturn, [1, 3], .null, []) := rfl
theorem cd294_156 : code9 294 156 = some (0, .aload_n 0, [1], .null, []) := rfl
theorem cd294_157 : code9 294 157 = some (0, .iload 4, [2], .null, []) := rfl
theorem cd294_159 : code9 294 159 = some (0, .iload_n 2, [1], .null, []) := rfl
theorem cd294_160 : code9 294 160 = some (0, .invokevirtual 436, [3, 294, 3, 1, 3, 8, 12, 0], .null, []) := rfl
theorem cd294_163 : code9 294 163 = some (0, .ifCond .eq 17, [3, 180], .null, []) := rfl
theorem cd294_166 : code9 294 166 = some (0, .aload_n 0, [1], .null, []) := rfl
theorem cd294_167 : code9 294 167 = some (0, .iload 5, [2], .null, []) := rfl
theorem cd294_169 : code9 294 169 = some (0, .iload_n 2, [1], .null, []) := rfl
theorem cd294_170 : code9 294 170 = some (0, .invokevirtual 436, [3, 294, 3, 1, 3, 8, 12, 0], .null, []) := rfl
theorem cd294_173 : code9 294 173 = some (0, .ifCond .eq 7, [3, 180], .null, []) := rfl
theorem cd294_176 : code9 294 176 = some (0, .iconst 1, [1], .int 1, []) := rfl
theorem cd294_177 : code9 294 177 = some (0, .goto 4, [3, 181, 6], .null, []) := rfl
theorem cd294_180 : code9 294 180 = some (7, .iconst 0, [1], .int 0, []) := rfl
theorem cd294_181 : code9 294 181 = some (7, .ireturn, [1, 3], .null, []) := rfl
theorem cd294_182 : code9 294 182 = some (0, .aload_n 0, [1], .null, []) := rfl
theorem cd294_183 : code9 294 183 = some (0, .iload 4, [2], .null, []) := rfl
theorem cd294_185 : code9 294 185 = some (0, .iload_n 2, [1], .null, []) := rfl
theorem cd294_186 : code9 294 186 = some (0, .invokevirtual 436, [3, 294, 3, 1, 3, 8, 12, 0], .null, []) := rfl
theorem cd294_189 : code9 294 189 = some (0, .ifCond .ne 13, [3, 202], .null, []) := rfl
theorem cd294_192 : code9 294 192 = some (0, .aload_n 0, [1], .null, []) := rfl
theorem cd294_193 : code9 294 193 = some (0, .iload 5, [2], .null, []) := rfl
theorem cd294_195 : code9 294 195 = some (0, .iload_n 2, [1], .null, []) := rfl
theorem cd294_196 : code9 294 196 = some (0, .invokevirtual 436, [3, 294, 3, 1, 3, 8, 12, 0], .null, []) := rfl
theorem cd294_199 : code9 294 199 = some (0, .ifCond .eq 7, [3, 206], .null, []) := rfl
theorem cd294_202 : code9 294 202 = some (7, .iconst 1, [1], .int 1, []) := rfl
theorem cd294_203 : code9 294 203 = some (0, .goto 4, [3, 207, 6], .null, []) := rfl
theorem cd294_206 : code9 294 206 = some (0, .iconst 0, [1], .int 0, []) := rfl
theorem cd294_207 : code9 294 207 = some (7, .ireturn, [1, 3], .null, []) := rfl
theorem cd294_208 : code9 294 208 = some (0, .aload_n 0, [1], .null, []) := rfl
theorem cd294_209 : code9 294 209 = some (0, .getfield 98, [3, 12, 14, 2], .null, []) := rfl
theorem cd294_212 : code9 294 212 = some (0, .sipush 135, [3], .int 135, []) := rfl
theorem cd294_215 : code9 294 215 = some (0, .iload_n 2, [1], .null, []) := rfl
theorem cd294_216 : code9 294 216 = some (0, .iadd, [1], .null, []) := rfl
theorem cd294_217 : code9 294 217 = some (0, .iaload, [1], .null, []) := rfl
theorem cd294_218 : code9 294 218 = some (0, .ifCond .ne 7, [3, 225], .null, []) := rfl
theorem cd294_221 : code9 294 221 = some (0, .iconst 1, [1], .int 1, []) := rfl
theorem cd294_222 : code9 294 222 = some (0, .goto 4, [3, 226, 6], .null, []) := rfl
theorem cd294_225 : code9 294 225 = some (0, .iconst 0, [1], .int 0, []) := rfl
theorem cd294_226 : code9 294 226 = some (7, .ireturn, [1, 3], .null, []) := rfl
theorem cd294_227 : code9 294 227 = some (0, .aload_n 0, [1], .null, []) := rfl
theorem cd294_228 : code9 294 228 = some (0, .iload_n 2, [1], .null, []) := rfl
theorem cd294_229 : code9 294 229 = some (0, .invokevirtual 284, [3, 227, 2, 1, 3, 2, 12, 0], .null, []) := rfl
theorem cd294_232 : code9 294 232 = some (0, .ireturn, [1, 3], .null, []) := rfl
theorem cd294_233 : code9 294 233 = some (0, .aload_n 0, [1], .null, []) := rfl
theorem cd294_234 : code9 294 234 = some (0, .getfield 98, [3, 12, 14, 2], .null, []) := rfl
theorem cd294_237 : code9 294 237 = some (0, .sipush 135, [3], .int 135, []) := rfl
theorem cd294_240 : code9 294 240 = some (0, .iload_n 2, [1], .null, []) := rfl
theorem cd294_241 : code9 294 241 = some (0, .iadd, [1], .null, []) := rfl
theorem cd294_242 : code9 294 242 = some (0, .iaload, [1], .null, []) := rfl
theorem cd294_243 : code9 294 243 = some (0, .iconst 2, [1], .int 2, []) := rfl
theorem cd294_244 : code9 294 244 = some (0, .if_icmp .ne 7, [3, 251], .null, []) := rfl
theorem cd294_247 : code9 294 247 = some (0, .iconst 1, [1], .int 1, []) := rfl
theorem cd294_248 : code9 294 248 = some (0, .goto 4, [3, 252, 6], .null, []) := rfl
theorem cd294_251 : code9 294 251 = some (0, .iconst 0, [1], .int 0, []) := rfl
theorem cd294_252 : code9 294 252 = some (7, .ireturn, [1, 3], .null, []) := rfl
theorem cd294_253 : code9 294 253 = some (0, .aload_n 0, [1], .null, []) := rfl
theorem cd294_254 : code9 294 254 = some (0, .getfield 98, [3, 12, 14, 2], .null, []) := rfl
theorem cd294_257 : code9 294 257 = some (0, .sipush 135, [3], .int 135, []) := rfl
theorem cd294_260 : code9 294 260 = some (0, .iload_n 2, [1], .null, []) := rfl
theorem cd294_261 : code9 294 261 = some (0, .iadd, [1], .null, []) := rfl
theorem cd294_262 : code9 294 262 = some (0, .iaload, [1], .null, []) := rfl
theorem cd294_263 : code9 294 263 = some (0, .iconst 3, [1], .int 3, []) := rfl
theorem cd294_264 : code9 294 264 = some (0, .if_icmp .ne 7, [3, 271], .null, []) := rfl
theorem cd294_267 : code9 294 267 = some (0, .iconst 1, [1], .int 1, []) := rfl
theorem cd294_268 : code9 294 268 = some (0, .goto 4, [3, 272, 6], .null, []) := rfl
theorem cd294_271 : code9 294 271 = some (0, .iconst 0, [1], .int 0, []) := rfl
theorem cd294_272 : code9 294 272 = some (7, .ireturn, [1, 3], .null, []) := rfl
theorem cd294_273 : code9 294 273 = some (0, .aload_n 0, [1], .null, []) := rfl
theorem cd294_274 : code9 294 274 = some (0, .getfield 98, [3, 12, 14, 2], .null, []) := rfl
theorem cd294_277 : code9 294 277 = some (0, .bipush 30, [2], .int 30, []) := rfl
theorem cd294_279 : code9 294 279 = some (0, .iload_n 2, [1], .null, []) := rfl
theorem cd294_280 : code9 294 280 = some (0, .iadd, [1], .null, []) := rfl
theorem cd294_281 : code9 294 281 = some (0, .iaload, [1], .null, []) := rfl
theorem cd294_282 : code9 294 282 = some (0, .aload_n 0, [1], .null, []) := rfl
theorem cd294_283 : code9 294 283 = some (0, .getfield 98, [3, 12, 14, 2], .null, []) := rfl
theorem cd294_286 : code9 294 286 = some (0, .iload_n 3, [1], .null, []) := rfl
theorem cd294_287 : code9 294 287 = some (0, .iaload, [1], .null, []) := rfl
theorem cd294_288 : code9 294 288 = some (0, .bipush 50, [2], .int 50, []) := rfl
theorem cd294_290 : code9 294 290 = some (0, .isub, [1], .null, []) := rfl
theorem cd294_291 : code9 294 291 = some (0, .bipush 26, [2], .int 26, []) := rfl
theorem cd294_293 : code9 294 293 = some (0, .isub, [1], .null, []) := rfl
theorem cd294_294 : code9 294 294 = some (0, .if_icmp .ne 7, [3, 301], .null, []) := rfl
theorem cd294_297 : code9 294 297 = some (0, .iconst 1, [1], .int 1, []) := rfl
theorem cd294_298 : code9 294 298 = some (0, .goto 4, [3, 302, 6], .null, []) := rfl
theorem cd294_301 : code9 294 301 = some (0, .iconst 0, [1], .int 0, []) := rfl
theorem cd294_302 : code9 294 302 = some (7, .ireturn, [1, 3], .null, []) := rfl
theorem cd294_303 : code9 294 303 = some (0, .aload_n 0, [1], .null, []) := rfl
theorem cd294_304 : code9 294 304 = some (0, .iload_n 2, [1], .null, []) := rfl
theorem cd294_305 : code9 294 305 = some (0, .invokevirtual 284, [3, 227, 2, 1, 3, 2, 12, 0], .null, []) := rfl
theorem cd294_308 : code9 294 308 = some (0, .ifCond .eq 22, [3, 330], .null, []) := rfl
theorem cd294_311 : code9 294 311 = some (0, .aload_n 0, [1], .null, []) := rfl
theorem cd294_312 : code9 294 312 = some (0, .getfield 98, [3, 12, 14, 2], .null, []) := rfl
theorem cd294_315 : code9 294 315 = some (0, .sipush 145, [3], .int 145, []) := rfl
theorem cd294_318 : code9 294 318 = some (0, .iload_n 2, [1], .null, []) := rfl
theorem cd294_319 : code9 294 319 = some (0, .iadd, [1], .null, []) := rfl
theorem cd294_320 : code9 294 320 = some (0, .iaload, [1], .null, []) := rfl
theorem cd294_321 : code9 294 321 = some (0, .iload 4, [2], .null, []) := rfl
theorem cd294_323 : code9 294 323 = some (0, .if_icmp .ne 7, [3, 330], .null, []) := rfl
theorem cd294_326 : code9 294 326 = some (0, .iconst 1, [1], .int 1, []) := rfl
theorem cd294_327 : code9 294 327 = some (0, .goto 4, [3, 331, 6], .null, []) := rfl
theorem cd294_330 : code9 294 330 = some (7, .iconst 0, [1], .int 0, []) := rfl
theorem cd294_331 : code9 294 331 = some (7, .ireturn, [1, 3], .null, []) := rfl
theorem cd294_332 : code9 294 332 = some (0, .aload_n 0, [1], .null, []) := rfl
theorem cd294_333 : code9 294 333 = some (0, .getfield 98, [3, 12, 14, 2], .null, []) := rfl
theorem cd294_336 : code9 294 336 = some (0, .iload_n 3, [1], .null, []) := rfl
theorem cd294_337 : code9 294 337 = some (0, .iaload, [1], .null, []) := rfl
theorem cd294_338 : code9 294 338 = some (0, .bipush 50, [2], .int 50, []) := rfl
theorem cd294_340 : code9 294 340 = some (0, .isub, [1], .null, []) := rfl
theorem cd294_341 : code9 294 341 = some (0, .istore 6, [2], .null, []) := rfl
theorem cd294_343 : code9 294 343 = some (0, .iload 6, [2], .null, []) := rfl
theorem cd294_345 : code9 294 345 = some (0, .bipush 31, [2], .int 31, []) := rfl
theorem cd294_347 : code9 294 347 = some (0, .if_icmp .ne 15, [3, 362], .null, []) := rfl
theorem cd294_350 : code9 294 350 = some (0, .aload_n 0, [1], .null, []) := rfl
theorem cd294_351 : code9 294 351 = some (0, .getfield 98, [3, 12, 14, 2], .null, []) := rfl
theorem cd294_354 : code9 294 354 = some (0, .bipush 70, [2], .int 70, []) := rfl
theorem cd294_356 : code9 294 356 = some (0, .iload_n 2, [1], .null, []) := rfl
theorem cd294_357 : code9 294 357 = some (0, .iadd, [1], .null, []) := rfl
theorem cd294_358 : code9 294 358 = some (0, .iaload, [1], .null, []) := rfl
theorem cd294_359 : code9 294 359 = some (0, .goto 42, [3, 401, 7], .null, []) := rfl
theorem cd294_362 : code9 294 362 = some (0, .iload 6, [2], .null, []) := rfl
theorem cd294_364 : code9 294 364 = some (0, .bipush 32, [2], .int 32, []) := rfl
theorem cd294_366 : code9 294 366 = some (0, .if_icmp .ne 15, [3, 381], .null, []) := rfl
theorem cd294_369 : code9 294 369 = some (0, .aload_n 0, [1], .null, []) := rfl
theorem cd294_370 : code9 294 370 = some (0, .getfield 98, [3, 12, 14, 2], .null, []) := rfl
theorem cd294_373 : code9 294 373 = some (0, .bipush 80, [2], .int 80, []) := rfl
theorem cd294_375 : code9 294 375 = some (0, .iload_n 2, [1], .null, []) := rfl
theorem cd294_376 : code9 294 376 = some (0, .iadd, [1], .null, []) := rfl
theorem cd294_377 : code9 294 377 = some (0, .iaload, [1], .null, []) := rfl
theorem cd294_378 : code9 294 378 = some (0, .goto 23, [3, 401, 7], .null, []) := rfl
theorem cd294_381 : code9 294 381 = some (0, .iload 6, [2], .null, []) := rfl
theorem cd294_383 : code9 294 383 = some (0, .bipush 33, [2], .int 33, []) := rfl
theorem cd294_385 : code9 294 385 = some (0, .if_icmp .ne 15, [3, 400], .null, []) := rfl
theorem cd294_388 : code9 294 388 = some (0, .aload_n 0, [1], .null, []) := rfl
theorem cd294_389 : code9 294 389 = some (0, .getfield 98, [3, 12, 14, 2], .null, []) := rfl
theorem cd294_392 : code9 294 392 = some (0, .bipush 125, [2], .int 125, []) := rfl
theorem cd294_394 : code9 294 394 = some (0, .iload_n 2, [1], .null, []) := rfl
theorem cd294_395 : code9 294 395 = some (0, .iadd, [1], .null, []) := rfl
theorem cd294_396 : code9 294 396 = some (0, .iaload, [1], .null, []) := rfl
theorem cd294_397 : code9 294 397 = some (0, .goto 4, [3, 401, 7], .null, []) := rfl
theorem cd294_400 : code9 294 400 = some (0, .iload_n 2, [1], .null, []) := rfl
theorem cd294_401 : code9 294 401 = some (8, .istore 7, [2], .null, []) := rfl
theorem cd294_403 : code9 294 403 = some (0, .aload_n 0, [1], .null, []) := rfl
theorem cd294_404 : code9 294 404 = some (0, .getfield 98, [3, 12, 14, 2], .null, []) := rfl
theorem cd294_407 : code9 294 407 = some (0, .iload_n 3, [1], .null, []) := rfl
theorem cd294_408 : code9 294 408 = some (0, .iconst 3, [1], .int 3, []) := rfl
theorem cd294_409 : code9 294 409 = some (0, .iadd, [1], .null, []) := rfl
theorem cd294_410 : code9 294 410 = some (0, .iaload, [1], .null, []) := rfl
theorem cd294_411 : code9 294 411 = some (0, .bipush 60, [2], .int 60, []) := rfl
theorem cd294_413 : code9 294 413 = some (0, .if_icmp .ne 18, [3, 431], .null, []) := rfl
theorem cd294_416 : code9 294 416 = some (0, .iload 7, [2], .null, []) := rfl
theorem cd294_418 : code9 294 418 = some (0, .iload 5, [2], .null, []) := rfl
theorem cd294_420 : code9 294 420 = some (0, .if_icmp .ge 7, [3, 427], .null, []) := rfl
theorem cd294_423 : code9 294 423 = some (0, .iconst 1, [1], .int 1, []) := rfl
theorem cd294_424 : code9 294 424 = some (0, .goto 47, [3, 471, 8], .null, []) := rfl
theorem cd294_427 : code9 294 427 = some (0, .iconst 0, [1], .int 0, []) := rfl
theorem cd294_428 : code9 294 428 = some (0, .goto 43, [3, 471, 8], .null, []) := rfl
theorem cd294_431 : code9 294 431 = some (0, .aload_n 0, [1], .null, []) := rfl
theorem cd294_432 : code9 294 432 = some (0, .getfield 98, [3, 12, 14, 2], .null, []) := rfl
theorem cd294_435 : code9 294 435 = some (0, .iload_n 3, [1], .null, []) := rfl
theorem cd294_436 : code9 294 436 = some (0, .iconst 3, [1], .int 3, []) := rfl
theorem cd294_437 : code9 294 437 = some (0, .iadd, [1], .null, []) := rfl
theorem cd294_438 : code9 294 438 = some (0, .iaload, [1], .null, []) := rfl
theorem cd294_439 : code9 294 439 = some (0, .bipush 61, [2], .int 61, []) := rfl
theorem cd294_441 : code9 294 441 = some (0, .if_icmp .ne 18, [3, 459], .null, []) := rfl
theorem cd294_444 : code9 294 444 = some (0, .iload 7, [2], .null, []) := rfl
theorem cd294_446 : code9 294 446 = some (0, .iload 5, [2], .null, []) := rfl
theorem cd294_448 : code9 294 448 = some (0, .if_icmp .ne 7, [3, 455], .null, []) := rfl
theorem cd294_451 : code9 294 451 = some (0, .iconst 1, [1], .int 1, []) := rfl
theorem cd294_452 : code9 294 452 = some (0, .goto 19, [3, 471, 8], .null, []) := rfl
theorem cd294_455 : code9 294 455 = some (0, .iconst 0, [1], .int 0, []) := rfl
theorem cd294_456 : code9 294 456 = some (0, .goto 15, [3, 471, 8], .null, []) := rfl
theorem cd294_459 : code9 294 459 = some (0, .iload 7, [2], .null, []) := rfl
theorem cd294_461 : code9 294 461 = some (0, .iload 5, [2], .null, []) := rfl
theorem cd294_463 : code9 294 463 = some (0, .if_icmp .le 7, [3, 470], .null, []) := rfl
theorem cd294_466 : code9 294 466 = some (0, .iconst 1, [1], .int 1, []) := rfl
theorem cd294_467 : code9 294 467 = some (0, .goto 4, [3, 471, 8], .null, []) := rfl
theorem cd294_470 : code9 294 470 = some (0, .iconst 0, [1], .int 0, []) := rfl
theorem cd294_471 : code9 294 471 = some (9, .ireturn, [1, 3], .null, []) := rfl
def Mod_holds (R : Int32 → Int32 → FI → Option (Bool)) (N : Nat) (l1 : Int32) (l2 : Int32) (I : FI) : Option (Bool) := if in9 ((211 + (4 * l1)) + 1) 451 then (if in9 ((211 + (4 * l1)) + 2) 451 then (if in9 (211 + (4 * l1)) 451 then (if (I 206 ((211 + (4 * l1)).toNatClampNeg)) = 1 then (Option.bind (R (I 206 (((211 + (4 * l1)) + 1).toNatClampNeg)) l2 I) fun x4 => (if x4 then (some false) else (some true))) else (if (I 206 ((211 + (4 * l1)).toNatClampNeg)) = 2 then (Option.bind (R (I 206 (((211 + (4 * l1)) + 1).toNatClampNeg)) l2 I) fun x5 => (if x5 then (Option.bind (R (I 206 (((211 + (4 * l1)) + 2).toNatClampNeg)) l2 I) fun x6 => (if x6 then (some true) else (some false))) else (some false))) else (if (I 206 ((211 + (4 * l1)).toNatClampNeg)) = 3 then (Option.bind (R (I 206 (((211 + (4 * l1)) + 1).toNatClampNeg)) l2 I) fun x7 => (if x7 then (some true) else (Option.bind (R (I 206 (((211 + (4 * l1)) + 2).toNatClampNeg)) l2 I) fun x8 => (if x8 then (some true) else (some false))))) else (if (I 206 ((211 + (4 * l1)).toNatClampNeg)) = 72 then (if in9 (135 + l2) 451 then (if (I 206 ((135 + l2).toNatClampNeg)) = 0 then (some true) else (some false)) else none) else (if (I 206 ((211 + (4 * l1)).toNatClampNeg)) = 73 then (Option.bind (Mod_isHad l2 I) fun x10 => (some x10)) else (if (I 206 ((211 + (4 * l1)).toNatClampNeg)) = 74 then (if in9 (135 + l2) 451 then (if (I 206 ((135 + l2).toNatClampNeg)) = 2 then (some true) else (some false)) else none) else (if (I 206 ((211 + (4 * l1)).toNatClampNeg)) = 75 then (if in9 (135 + l2) 451 then (if (I 206 ((135 + l2).toNatClampNeg)) = 3 then (some true) else (some false)) else none) else (if (I 206 ((211 + (4 * l1)).toNatClampNeg)) = 76 then (if in9 (30 + l2) 451 then (if (I 206 ((30 + l2).toNatClampNeg)) = (((I 206 ((211 + (4 * l1)).toNatClampNeg)) - 50) - 26) then (some true) else (some false)) else none) else (if (I 206 ((211 + (4 * l1)).toNatClampNeg)) = 77 then (if in9 (30 + l2) 451 then (if (I 206 ((30 + l2).toNatClampNeg)) = (((I 206 ((211 + (4 * l1)).toNatClampNeg)) - 50) - 26) then (some true) else (some false)) else none) else (if (I 206 ((211 + (4 * l1)).toNatClampNeg)) = 78 then (if in9 (30 + l2) 451 then (if (I 206 ((30 + l2).toNatClampNeg)) = (((I 206 ((211 + (4 * l1)).toNatClampNeg)) - 50) - 26) then (some true) else (some false)) else none) else (if (I 206 ((211 + (4 * l1)).toNatClampNeg)) = 79 then (if in9 (30 + l2) 451 then (if (I 206 ((30 + l2).toNatClampNeg)) = (((I 206 ((211 + (4 * l1)).toNatClampNeg)) - 50) - 26) then (some true) else (some false)) else none) else (if (I 206 ((211 + (4 * l1)).toNatClampNeg)) = 80 then (Option.bind (Mod_isHad l2 I) fun x17 => (if x17 then (if in9 (145 + l2) 451 then (if (I 206 ((145 + l2).toNatClampNeg)) = (I 206 (((211 + (4 * l1)) + 1).toNatClampNeg)) then (some true) else (some false)) else none) else (some false))) else (if ((I 206 ((211 + (4 * l1)).toNatClampNeg)) - 50) = 31 then (if in9 (70 + l2) 451 then (if in9 ((211 + (4 * l1)) + 3) 451 then (if (I 206 (((211 + (4 * l1)) + 3).toNatClampNeg)) = 60 then (if (I 206 (((211 + (4 * l1)) + 2).toNatClampNeg)) ≤ (I 206 ((70 + l2).toNatClampNeg)) then (some false) else (some true)) else (if (I 206 (((211 + (4 * l1)) + 3).toNatClampNeg)) = 61 then (if (I 206 ((70 + l2).toNatClampNeg)) = (I 206 (((211 + (4 * l1)) + 2).toNatClampNeg)) then (some true) else (some false)) else (if (I 206 ((70 + l2).toNatClampNeg)) ≤ (I 206 (((211 + (4 * l1)) + 2).toNatClampNeg)) then (some false) else (some true)))) else none) else none) else (if ((I 206 ((211 + (4 * l1)).toNatClampNeg)) - 50) = 32 then (if in9 (80 + l2) 451 then (if in9 ((211 + (4 * l1)) + 3) 451 then (if (I 206 (((211 + (4 * l1)) + 3).toNatClampNeg)) = 60 then (if (I 206 (((211 + (4 * l1)) + 2).toNatClampNeg)) ≤ (I 206 ((80 + l2).toNatClampNeg)) then (some false) else (some true)) else (if (I 206 (((211 + (4 * l1)) + 3).toNatClampNeg)) = 61 then (if (I 206 ((80 + l2).toNatClampNeg)) = (I 206 (((211 + (4 * l1)) + 2).toNatClampNeg)) then (some true) else (some false)) else (if (I 206 ((80 + l2).toNatClampNeg)) ≤ (I 206 (((211 + (4 * l1)) + 2).toNatClampNeg)) then (some false) else (some true)))) else none) else none) else (if ((I 206 ((211 + (4 * l1)).toNatClampNeg)) - 50) = 33 then (if in9 (125 + l2) 451 then (if in9 ((211 + (4 * l1)) + 3) 451 then (if (I 206 (((211 + (4 * l1)) + 3).toNatClampNeg)) = 60 then (if (I 206 (((211 + (4 * l1)) + 2).toNatClampNeg)) ≤ (I 206 ((125 + l2).toNatClampNeg)) then (some false) else (some true)) else (if (I 206 (((211 + (4 * l1)) + 3).toNatClampNeg)) = 61 then (if (I 206 ((125 + l2).toNatClampNeg)) = (I 206 (((211 + (4 * l1)) + 2).toNatClampNeg)) then (some true) else (some false)) else (if (I 206 ((125 + l2).toNatClampNeg)) ≤ (I 206 (((211 + (4 * l1)) + 2).toNatClampNeg)) then (some false) else (some true)))) else none) else none) else (if in9 ((211 + (4 * l1)) + 3) 451 then (if (I 206 (((211 + (4 * l1)) + 3).toNatClampNeg)) = 60 then (if (I 206 (((211 + (4 * l1)) + 2).toNatClampNeg)) ≤ l2 then (some false) else (some true)) else (if (I 206 (((211 + (4 * l1)) + 3).toNatClampNeg)) = 61 then (if l2 = (I 206 (((211 + (4 * l1)) + 2).toNatClampNeg)) then (some true) else (some false)) else (if l2 ≤ (I 206 (((211 + (4 * l1)) + 2).toNatClampNeg)) then (some false) else (some true)))) else none)))))))))))))))) else none) else none) else none
def Mod_holds_R (N : Nat) : Nat → Int32 → Int32 → FI → Option (Bool)
  | 0 => fun _ _ _ => none
  | k + 1 => fun l1 l2 I => Mod_holds (Mod_holds_R N k) N l1 l2 I
set_option maxRecDepth 8000 in
theorem t_Mod_holds {d : Nat} {D : Nat} {R : Int32 → Int32 → FI → Option (Bool)} {N : Nat} {c : Nat × Nat} {S : Nat → Nat × Nat} {P : Nat → Nat → Option Nat} {I : FI} {J : FJ} {l1 : Int32} {l2 : Int32} {r : Bool} (hd : D + 1 ≤ d) (hR : ∀ {d : Nat} {l1 : Int32} {l2 : Int32} {I : FI} {J : FJ} {r : Bool}, D ≤ d → OM S P → R l1 l2 I = some r → Go d M_Mod_holds 0 [some (.ref 204), some (.int l1), some (.int l2), none, none, none, none, none] [] (c, S, I, J, P) (some (.int (b2i r)), false, (c, S, I, J, P))) (hw : OM S P) (h : Mod_holds R N l1 l2 I = some r) : Go d M_Mod_holds 0 [some (.ref 204), some (.int l1), some (.int l2), none, none, none, none, none] [] (c, S, I, J, P) (some (.int (b2i r)), false, (c, S, I, J, P)) := by
  obtain ⟨d, rfl⟩ : ∃ e, d = e + 1 := ⟨d - 1, by omega⟩
  unfold Mod_holds at h
  refine g_sipush cd294_0 rfl ?_
  refine g_iconst cd294_3 rfl ?_
  refine g_iload_n cd294_4 rfl rfl ?_
  refine g_imul cd294_5 rfl ?_
  refine g_iadd cd294_6 rfl ?_
  refine g_istore_n (ls2 := [some (.ref 204), some (.int l1), some (.int l2), some (.int (211 + (4 * l1))), none, none, none, none]) cd294_7 rfl rfl ?_
  refine g_aload_n cd294_8 rfl rfl ?_
  refine g_getP cd294_9 rfl (OM.o hw) (OM.p14 hw) ?_
  refine g_iload_n cd294_12 rfl rfl ?_
  refine g_iconst cd294_13 rfl ?_
  refine g_iadd cd294_14 rfl ?_
  obtain ⟨hg1, h⟩ := grd h
  refine G_iald cd294_15 rfl (OM.s14 hw) hg1 ?_
  refine g_istore (ls2 := [some (.ref 204), some (.int l1), some (.int l2), some (.int (211 + (4 * l1))), some (.int (I 206 (((211 + (4 * l1)) + 1).toNatClampNeg))), none, none, none]) cd294_16 rfl rfl ?_
  refine g_aload_n cd294_18 rfl rfl ?_
  refine g_getP cd294_19 rfl (OM.o hw) (OM.p14 hw) ?_
  refine g_iload_n cd294_22 rfl rfl ?_
  refine g_iconst cd294_23 rfl ?_
  refine g_iadd cd294_24 rfl ?_
  obtain ⟨hg2, h⟩ := grd h
  refine G_iald cd294_25 rfl (OM.s14 hw) hg2 ?_
  refine g_istore (ls2 := [some (.ref 204), some (.int l1), some (.int l2), some (.int (211 + (4 * l1))), some (.int (I 206 (((211 + (4 * l1)) + 1).toNatClampNeg))), some (.int (I 206 (((211 + (4 * l1)) + 2).toNatClampNeg))), none, none]) cd294_26 rfl rfl ?_
  refine g_aload_n cd294_28 rfl rfl ?_
  refine g_getP cd294_29 rfl (OM.o hw) (OM.p14 hw) ?_
  refine g_iload_n cd294_32 rfl rfl ?_
  obtain ⟨hg3, h⟩ := grd h
  refine G_iald cd294_33 rfl (OM.s14 hw) hg3 ?_
  refine g_lookupswitch cd294_34 rfl ?_
  refine ifi (fun hb => ?_) (fun hb => ?_)
  · have h := ifpE hb h
    show Go _ _ 140 [some (.ref 204), some (.int l1), some (.int l2), some (.int (211 + (4 * l1))), some (.int (I 206 (((211 + (4 * l1)) + 1).toNatClampNeg))), some (.int (I 206 (((211 + (4 * l1)) + 2).toNatClampNeg))), none, none] [] _ _
    refine g_aload_n cd294_140 rfl rfl ?_
    refine g_iload cd294_141 rfl rfl ?_
    refine g_iload_n cd294_143 rfl rfl ?_
    obtain ⟨x4, hx, h⟩ := bnd h
    refine g_callVZ (L := [some (.ref 204), some (.int (I 206 (((211 + (4 * l1)) + 1).toNatClampNeg))), some (.int l2), none, none, none, none, none]) cd294_144 rfl rfl rfl rfl rfl (OM.o hw) (hR (by omega) hw hx) ?_
    refine g_if_ne cd294_147 rfl (fun hb => ?_) (fun hb => ?_)
    · have h := ifnE (b2i_f hb) h
      refine g_iconst cd294_150 rfl ?_
      refine g_goto (ls2 := [some (.ref 204), some (.int l1), some (.int l2), some (.int (211 + (4 * l1))), some (.int (I 206 (((211 + (4 * l1)) + 1).toNatClampNeg))), some (.int (I 206 (((211 + (4 * l1)) + 2).toNatClampNeg))), none, none]) cd294_151 rfl rfl ?_
      exact g_iret cd294_155 (Or.inr ⟨rfl, Or.inr rfl⟩) (by obtain rfl := Option.some.inj h; rfl)
    · have h := ifpE (b2i_t hb) h
      refine g_iconst cd294_154 rfl ?_
      exact g_iret cd294_155 (Or.inr ⟨rfl, Or.inl rfl⟩) (by obtain rfl := Option.some.inj h; rfl)
  have h := ifnE hb h
  refine ifi (fun hb => ?_) (fun hb => ?_)
  · have h := ifpE hb h
    show Go _ _ 156 [some (.ref 204), some (.int l1), some (.int l2), some (.int (211 + (4 * l1))), some (.int (I 206 (((211 + (4 * l1)) + 1).toNatClampNeg))), some (.int (I 206 (((211 + (4 * l1)) + 2).toNatClampNeg))), none, none] [] _ _
    refine g_aload_n cd294_156 rfl rfl ?_
    refine g_iload cd294_157 rfl rfl ?_
    refine g_iload_n cd294_159 rfl rfl ?_
    obtain ⟨x5, hx, h⟩ := bnd h
    refine g_callVZ (L := [some (.ref 204), some (.int (I 206 (((211 + (4 * l1)) + 1).toNatClampNeg))), some (.int l2), none, none, none, none, none]) cd294_160 rfl rfl rfl rfl rfl (OM.o hw) (hR (by omega) hw hx) ?_
    refine g_if_eq cd294_163 rfl (fun hb => ?_) (fun hb => ?_)
    · have h := ifnE (b2i_f hb) h
      refine g_iconst cd294_180 rfl ?_
      exact g_iret cd294_181 (Or.inr ⟨rfl, Or.inl rfl⟩) (by obtain rfl := Option.some.inj h; rfl)
    · have h := ifpE (b2i_t hb) h
      refine g_aload_n cd294_166 rfl rfl ?_
      refine g_iload cd294_167 rfl rfl ?_
      refine g_iload_n cd294_169 rfl rfl ?_
      obtain ⟨x6, hx, h⟩ := bnd h
      refine g_callVZ (L := [some (.ref 204), some (.int (I 206 (((211 + (4 * l1)) + 2).toNatClampNeg))), some (.int l2), none, none, none, none, none]) cd294_170 rfl rfl rfl rfl rfl (OM.o hw) (hR (by omega) hw hx) ?_
      refine g_if_eq cd294_173 rfl (fun hb => ?_) (fun hb => ?_)
      · have h := ifnE (b2i_f hb) h
        refine g_iconst cd294_180 rfl ?_
        exact g_iret cd294_181 (Or.inr ⟨rfl, Or.inl rfl⟩) (by obtain rfl := Option.some.inj h; rfl)
      · have h := ifpE (b2i_t hb) h
        refine g_iconst cd294_176 rfl ?_
        refine g_goto (ls2 := [some (.ref 204), some (.int l1), some (.int l2), some (.int (211 + (4 * l1))), some (.int (I 206 (((211 + (4 * l1)) + 1).toNatClampNeg))), some (.int (I 206 (((211 + (4 * l1)) + 2).toNatClampNeg))), none, none]) cd294_177 rfl rfl ?_
        exact g_iret cd294_181 (Or.inr ⟨rfl, Or.inr rfl⟩) (by obtain rfl := Option.some.inj h; rfl)
  have h := ifnE hb h
  refine ifi (fun hb => ?_) (fun hb => ?_)
  · have h := ifpE hb h
    show Go _ _ 182 [some (.ref 204), some (.int l1), some (.int l2), some (.int (211 + (4 * l1))), some (.int (I 206 (((211 + (4 * l1)) + 1).toNatClampNeg))), some (.int (I 206 (((211 + (4 * l1)) + 2).toNatClampNeg))), none, none] [] _ _
    refine g_aload_n cd294_182 rfl rfl ?_
    refine g_iload cd294_183 rfl rfl ?_
    refine g_iload_n cd294_185 rfl rfl ?_
    obtain ⟨x7, hx, h⟩ := bnd h
    refine g_callVZ (L := [some (.ref 204), some (.int (I 206 (((211 + (4 * l1)) + 1).toNatClampNeg))), some (.int l2), none, none, none, none, none]) cd294_186 rfl rfl rfl rfl rfl (OM.o hw) (hR (by omega) hw hx) ?_
    refine g_if_ne cd294_189 rfl (fun hb => ?_) (fun hb => ?_)
    · have h := ifnE (b2i_f hb) h
      refine g_aload_n cd294_192 rfl rfl ?_
      refine g_iload cd294_193 rfl rfl ?_
      refine g_iload_n cd294_195 rfl rfl ?_
      obtain ⟨x8, hx, h⟩ := bnd h
      refine g_callVZ (L := [some (.ref 204), some (.int (I 206 (((211 + (4 * l1)) + 2).toNatClampNeg))), some (.int l2), none, none, none, none, none]) cd294_196 rfl rfl rfl rfl rfl (OM.o hw) (hR (by omega) hw hx) ?_
      refine g_if_eq cd294_199 rfl (fun hb => ?_) (fun hb => ?_)
      · have h := ifnE (b2i_f hb) h
        refine g_iconst cd294_206 rfl ?_
        exact g_iret cd294_207 (Or.inr ⟨rfl, Or.inl rfl⟩) (by obtain rfl := Option.some.inj h; rfl)
      · have h := ifpE (b2i_t hb) h
        refine g_iconst cd294_202 rfl ?_
        refine g_goto (ls2 := [some (.ref 204), some (.int l1), some (.int l2), some (.int (211 + (4 * l1))), some (.int (I 206 (((211 + (4 * l1)) + 1).toNatClampNeg))), some (.int (I 206 (((211 + (4 * l1)) + 2).toNatClampNeg))), none, none]) cd294_203 rfl rfl ?_
        exact g_iret cd294_207 (Or.inr ⟨rfl, Or.inr rfl⟩) (by obtain rfl := Option.some.inj h; rfl)
    · have h := ifpE (b2i_t hb) h
      refine g_iconst cd294_202 rfl ?_
      refine g_goto (ls2 := [some (.ref 204), some (.int l1), some (.int l2), some (.int (211 + (4 * l1))), some (.int (I 206 (((211 + (4 * l1)) + 1).toNatClampNeg))), some (.int (I 206 (((211 + (4 * l1)) + 2).toNatClampNeg))), none, none]) cd294_203 rfl rfl ?_
      exact g_iret cd294_207 (Or.inr ⟨rfl, Or.inr rfl⟩) (by obtain rfl := Option.some.inj h; rfl)
  have h := ifnE hb h
  refine ifi (fun hb => ?_) (fun hb => ?_)
  · have h := ifpE hb h
    show Go _ _ 208 [some (.ref 204), some (.int l1), some (.int l2), some (.int (211 + (4 * l1))), some (.int (I 206 (((211 + (4 * l1)) + 1).toNatClampNeg))), some (.int (I 206 (((211 + (4 * l1)) + 2).toNatClampNeg))), none, none] [] _ _
    refine g_aload_n cd294_208 rfl rfl ?_
    refine g_getP cd294_209 rfl (OM.o hw) (OM.p14 hw) ?_
    refine g_sipush cd294_212 rfl ?_
    refine g_iload_n cd294_215 rfl rfl ?_
    refine g_iadd cd294_216 rfl ?_
    obtain ⟨hg9, h⟩ := grd h
    refine G_iald cd294_217 rfl (OM.s14 hw) hg9 ?_
    refine g_if_ne cd294_218 rfl (fun hb => ?_) (fun hb => ?_)
    · have h := ifpE hb h
      refine g_iconst cd294_221 rfl ?_
      refine g_goto (ls2 := [some (.ref 204), some (.int l1), some (.int l2), some (.int (211 + (4 * l1))), some (.int (I 206 (((211 + (4 * l1)) + 1).toNatClampNeg))), some (.int (I 206 (((211 + (4 * l1)) + 2).toNatClampNeg))), none, none]) cd294_222 rfl rfl ?_
      exact g_iret cd294_226 (Or.inr ⟨rfl, Or.inr rfl⟩) (by obtain rfl := Option.some.inj h; rfl)
    · have h := ifnE hb h
      refine g_iconst cd294_225 rfl ?_
      exact g_iret cd294_226 (Or.inr ⟨rfl, Or.inl rfl⟩) (by obtain rfl := Option.some.inj h; rfl)
  have h := ifnE hb h
  refine ifi (fun hb => ?_) (fun hb => ?_)
  · have h := ifpE hb h
    show Go _ _ 227 [some (.ref 204), some (.int l1), some (.int l2), some (.int (211 + (4 * l1))), some (.int (I 206 (((211 + (4 * l1)) + 1).toNatClampNeg))), some (.int (I 206 (((211 + (4 * l1)) + 2).toNatClampNeg))), none, none] [] _ _
    refine g_aload_n cd294_227 rfl rfl ?_
    refine g_iload_n cd294_228 rfl rfl ?_
    obtain ⟨x10, hx, h⟩ := bnd h
    refine g_callVZ (L := [some (.ref 204), some (.int l2)]) cd294_229 rfl rfl rfl rfl rfl (OM.o hw) (t_Mod_isHad (by omega) hw hx) ?_
    exact g_iret cd294_232 (Or.inr ⟨rfl, b2i_or _⟩) (by obtain rfl := Option.some.inj h; rfl)
  have h := ifnE hb h
  refine ifi (fun hb => ?_) (fun hb => ?_)
  · have h := ifpE hb h
    show Go _ _ 233 [some (.ref 204), some (.int l1), some (.int l2), some (.int (211 + (4 * l1))), some (.int (I 206 (((211 + (4 * l1)) + 1).toNatClampNeg))), some (.int (I 206 (((211 + (4 * l1)) + 2).toNatClampNeg))), none, none] [] _ _
    refine g_aload_n cd294_233 rfl rfl ?_
    refine g_getP cd294_234 rfl (OM.o hw) (OM.p14 hw) ?_
    refine g_sipush cd294_237 rfl ?_
    refine g_iload_n cd294_240 rfl rfl ?_
    refine g_iadd cd294_241 rfl ?_
    obtain ⟨hg11, h⟩ := grd h
    refine G_iald cd294_242 rfl (OM.s14 hw) hg11 ?_
    refine g_iconst cd294_243 rfl ?_
    refine g_icmp_ne cd294_244 rfl (fun hb => ?_) (fun hb => ?_)
    · have h := ifpE hb h
      refine g_iconst cd294_247 rfl ?_
      refine g_goto (ls2 := [some (.ref 204), some (.int l1), some (.int l2), some (.int (211 + (4 * l1))), some (.int (I 206 (((211 + (4 * l1)) + 1).toNatClampNeg))), some (.int (I 206 (((211 + (4 * l1)) + 2).toNatClampNeg))), none, none]) cd294_248 rfl rfl ?_
      exact g_iret cd294_252 (Or.inr ⟨rfl, Or.inr rfl⟩) (by obtain rfl := Option.some.inj h; rfl)
    · have h := ifnE hb h
      refine g_iconst cd294_251 rfl ?_
      exact g_iret cd294_252 (Or.inr ⟨rfl, Or.inl rfl⟩) (by obtain rfl := Option.some.inj h; rfl)
  have h := ifnE hb h
  refine ifi (fun hb => ?_) (fun hb => ?_)
  · have h := ifpE hb h
    show Go _ _ 253 [some (.ref 204), some (.int l1), some (.int l2), some (.int (211 + (4 * l1))), some (.int (I 206 (((211 + (4 * l1)) + 1).toNatClampNeg))), some (.int (I 206 (((211 + (4 * l1)) + 2).toNatClampNeg))), none, none] [] _ _
    refine g_aload_n cd294_253 rfl rfl ?_
    refine g_getP cd294_254 rfl (OM.o hw) (OM.p14 hw) ?_
    refine g_sipush cd294_257 rfl ?_
    refine g_iload_n cd294_260 rfl rfl ?_
    refine g_iadd cd294_261 rfl ?_
    obtain ⟨hg12, h⟩ := grd h
    refine G_iald cd294_262 rfl (OM.s14 hw) hg12 ?_
    refine g_iconst cd294_263 rfl ?_
    refine g_icmp_ne cd294_264 rfl (fun hb => ?_) (fun hb => ?_)
    · have h := ifpE hb h
      refine g_iconst cd294_267 rfl ?_
      refine g_goto (ls2 := [some (.ref 204), some (.int l1), some (.int l2), some (.int (211 + (4 * l1))), some (.int (I 206 (((211 + (4 * l1)) + 1).toNatClampNeg))), some (.int (I 206 (((211 + (4 * l1)) + 2).toNatClampNeg))), none, none]) cd294_268 rfl rfl ?_
      exact g_iret cd294_272 (Or.inr ⟨rfl, Or.inr rfl⟩) (by obtain rfl := Option.some.inj h; rfl)
    · have h := ifnE hb h
      refine g_iconst cd294_271 rfl ?_
      exact g_iret cd294_272 (Or.inr ⟨rfl, Or.inl rfl⟩) (by obtain rfl := Option.some.inj h; rfl)
  have h := ifnE hb h
  refine ifi (fun hb => ?_) (fun hb => ?_)
  · have h := ifpE hb h
    show Go _ _ 273 [some (.ref 204), some (.int l1), some (.int l2), some (.int (211 + (4 * l1))), some (.int (I 206 (((211 + (4 * l1)) + 1).toNatClampNeg))), some (.int (I 206 (((211 + (4 * l1)) + 2).toNatClampNeg))), none, none] [] _ _
    refine g_aload_n cd294_273 rfl rfl ?_
    refine g_getP cd294_274 rfl (OM.o hw) (OM.p14 hw) ?_
    refine g_bipush cd294_277 rfl ?_
    refine g_iload_n cd294_279 rfl rfl ?_
    refine g_iadd cd294_280 rfl ?_
    obtain ⟨hg13, h⟩ := grd h
    refine G_iald cd294_281 rfl (OM.s14 hw) hg13 ?_
    refine g_aload_n cd294_282 rfl rfl ?_
    refine g_getP cd294_283 rfl (OM.o hw) (OM.p14 hw) ?_
    refine g_iload_n cd294_286 rfl rfl ?_
    refine G_iald cd294_287 rfl (OM.s14 hw) hg3 ?_
    refine g_bipush cd294_288 rfl ?_
    refine g_isub cd294_290 rfl ?_
    refine g_bipush cd294_291 rfl ?_
    refine g_isub cd294_293 rfl ?_
    refine g_icmp_ne cd294_294 rfl (fun hb => ?_) (fun hb => ?_)
    · have h := ifpE hb h
      refine g_iconst cd294_297 rfl ?_
      refine g_goto (ls2 := [some (.ref 204), some (.int l1), some (.int l2), some (.int (211 + (4 * l1))), some (.int (I 206 (((211 + (4 * l1)) + 1).toNatClampNeg))), some (.int (I 206 (((211 + (4 * l1)) + 2).toNatClampNeg))), none, none]) cd294_298 rfl rfl ?_
      exact g_iret cd294_302 (Or.inr ⟨rfl, Or.inr rfl⟩) (by obtain rfl := Option.some.inj h; rfl)
    · have h := ifnE hb h
      refine g_iconst cd294_301 rfl ?_
      exact g_iret cd294_302 (Or.inr ⟨rfl, Or.inl rfl⟩) (by obtain rfl := Option.some.inj h; rfl)
  have h := ifnE hb h
  refine ifi (fun hb => ?_) (fun hb => ?_)
  · have h := ifpE hb h
    show Go _ _ 273 [some (.ref 204), some (.int l1), some (.int l2), some (.int (211 + (4 * l1))), some (.int (I 206 (((211 + (4 * l1)) + 1).toNatClampNeg))), some (.int (I 206 (((211 + (4 * l1)) + 2).toNatClampNeg))), none, none] [] _ _
    refine g_aload_n cd294_273 rfl rfl ?_
    refine g_getP cd294_274 rfl (OM.o hw) (OM.p14 hw) ?_
    refine g_bipush cd294_277 rfl ?_
    refine g_iload_n cd294_279 rfl rfl ?_
    refine g_iadd cd294_280 rfl ?_
    obtain ⟨hg14, h⟩ := grd h
    refine G_iald cd294_281 rfl (OM.s14 hw) hg14 ?_
    refine g_aload_n cd294_282 rfl rfl ?_
    refine g_getP cd294_283 rfl (OM.o hw) (OM.p14 hw) ?_
    refine g_iload_n cd294_286 rfl rfl ?_
    refine G_iald cd294_287 rfl (OM.s14 hw) hg3 ?_
    refine g_bipush cd294_288 rfl ?_
    refine g_isub cd294_290 rfl ?_
    refine g_bipush cd294_291 rfl ?_
    refine g_isub cd294_293 rfl ?_
    refine g_icmp_ne cd294_294 rfl (fun hb => ?_) (fun hb => ?_)
    · have h := ifpE hb h
      refine g_iconst cd294_297 rfl ?_
      refine g_goto (ls2 := [some (.ref 204), some (.int l1), some (.int l2), some (.int (211 + (4 * l1))), some (.int (I 206 (((211 + (4 * l1)) + 1).toNatClampNeg))), some (.int (I 206 (((211 + (4 * l1)) + 2).toNatClampNeg))), none, none]) cd294_298 rfl rfl ?_
      exact g_iret cd294_302 (Or.inr ⟨rfl, Or.inr rfl⟩) (by obtain rfl := Option.some.inj h; rfl)
    · have h := ifnE hb h
      refine g_iconst cd294_301 rfl ?_
      exact g_iret cd294_302 (Or.inr ⟨rfl, Or.inl rfl⟩) (by obtain rfl := Option.some.inj h; rfl)
  have h := ifnE hb h
  refine ifi (fun hb => ?_) (fun hb => ?_)
  · have h := ifpE hb h
    show Go _ _ 273 [some (.ref 204), some (.int l1), some (.int l2), some (.int (211 + (4 * l1))), some (.int (I 206 (((211 + (4 * l1)) + 1).toNatClampNeg))), some (.int (I 206 (((211 + (4 * l1)) + 2).toNatClampNeg))), none, none] [] _ _
    refine g_aload_n cd294_273 rfl rfl ?_
    refine g_getP cd294_274 rfl (OM.o hw) (OM.p14 hw) ?_
    refine g_bipush cd294_277 rfl ?_
    refine g_iload_n cd294_279 rfl rfl ?_
    refine g_iadd cd294_280 rfl ?_
    obtain ⟨hg15, h⟩ := grd h
    refine G_iald cd294_281 rfl (OM.s14 hw) hg15 ?_
    refine g_aload_n cd294_282 rfl rfl ?_
    refine g_getP cd294_283 rfl (OM.o hw) (OM.p14 hw) ?_
    refine g_iload_n cd294_286 rfl rfl ?_
    refine G_iald cd294_287 rfl (OM.s14 hw) hg3 ?_
    refine g_bipush cd294_288 rfl ?_
    refine g_isub cd294_290 rfl ?_
    refine g_bipush cd294_291 rfl ?_
    refine g_isub cd294_293 rfl ?_
    refine g_icmp_ne cd294_294 rfl (fun hb => ?_) (fun hb => ?_)
    · have h := ifpE hb h
      refine g_iconst cd294_297 rfl ?_
      refine g_goto (ls2 := [some (.ref 204), some (.int l1), some (.int l2), some (.int (211 + (4 * l1))), some (.int (I 206 (((211 + (4 * l1)) + 1).toNatClampNeg))), some (.int (I 206 (((211 + (4 * l1)) + 2).toNatClampNeg))), none, none]) cd294_298 rfl rfl ?_
      exact g_iret cd294_302 (Or.inr ⟨rfl, Or.inr rfl⟩) (by obtain rfl := Option.some.inj h; rfl)
    · have h := ifnE hb h
      refine g_iconst cd294_301 rfl ?_
      exact g_iret cd294_302 (Or.inr ⟨rfl, Or.inl rfl⟩) (by obtain rfl := Option.some.inj h; rfl)
  have h := ifnE hb h
  refine ifi (fun hb => ?_) (fun hb => ?_)
  · have h := ifpE hb h
    show Go _ _ 273 [some (.ref 204), some (.int l1), some (.int l2), some (.int (211 + (4 * l1))), some (.int (I 206 (((211 + (4 * l1)) + 1).toNatClampNeg))), some (.int (I 206 (((211 + (4 * l1)) + 2).toNatClampNeg))), none, none] [] _ _
    refine g_aload_n cd294_273 rfl rfl ?_
    refine g_getP cd294_274 rfl (OM.o hw) (OM.p14 hw) ?_
    refine g_bipush cd294_277 rfl ?_
    refine g_iload_n cd294_279 rfl rfl ?_
    refine g_iadd cd294_280 rfl ?_
    obtain ⟨hg16, h⟩ := grd h
    refine G_iald cd294_281 rfl (OM.s14 hw) hg16 ?_
    refine g_aload_n cd294_282 rfl rfl ?_
    refine g_getP cd294_283 rfl (OM.o hw) (OM.p14 hw) ?_
    refine g_iload_n cd294_286 rfl rfl ?_
    refine G_iald cd294_287 rfl (OM.s14 hw) hg3 ?_
    refine g_bipush cd294_288 rfl ?_
    refine g_isub cd294_290 rfl ?_
    refine g_bipush cd294_291 rfl ?_
    refine g_isub cd294_293 rfl ?_
    refine g_icmp_ne cd294_294 rfl (fun hb => ?_) (fun hb => ?_)
    · have h := ifpE hb h
      refine g_iconst cd294_297 rfl ?_
      refine g_goto (ls2 := [some (.ref 204), some (.int l1), some (.int l2), some (.int (211 + (4 * l1))), some (.int (I 206 (((211 + (4 * l1)) + 1).toNatClampNeg))), some (.int (I 206 (((211 + (4 * l1)) + 2).toNatClampNeg))), none, none]) cd294_298 rfl rfl ?_
      exact g_iret cd294_302 (Or.inr ⟨rfl, Or.inr rfl⟩) (by obtain rfl := Option.some.inj h; rfl)
    · have h := ifnE hb h
      refine g_iconst cd294_301 rfl ?_
      exact g_iret cd294_302 (Or.inr ⟨rfl, Or.inl rfl⟩) (by obtain rfl := Option.some.inj h; rfl)
  have h := ifnE hb h
  refine ifi (fun hb => ?_) (fun hb => ?_)
  · have h := ifpE hb h
    show Go _ _ 303 [some (.ref 204), some (.int l1), some (.int l2), some (.int (211 + (4 * l1))), some (.int (I 206 (((211 + (4 * l1)) + 1).toNatClampNeg))), some (.int (I 206 (((211 + (4 * l1)) + 2).toNatClampNeg))), none, none] [] _ _
    refine g_aload_n cd294_303 rfl rfl ?_
    refine g_iload_n cd294_304 rfl rfl ?_
    obtain ⟨x17, hx, h⟩ := bnd h
    refine g_callVZ (L := [some (.ref 204), some (.int l2)]) cd294_305 rfl rfl rfl rfl rfl (OM.o hw) (t_Mod_isHad (by omega) hw hx) ?_
    refine g_if_eq cd294_308 rfl (fun hb => ?_) (fun hb => ?_)
    · have h := ifnE (b2i_f hb) h
      refine g_iconst cd294_330 rfl ?_
      exact g_iret cd294_331 (Or.inr ⟨rfl, Or.inl rfl⟩) (by obtain rfl := Option.some.inj h; rfl)
    · have h := ifpE (b2i_t hb) h
      refine g_aload_n cd294_311 rfl rfl ?_
      refine g_getP cd294_312 rfl (OM.o hw) (OM.p14 hw) ?_
      refine g_sipush cd294_315 rfl ?_
      refine g_iload_n cd294_318 rfl rfl ?_
      refine g_iadd cd294_319 rfl ?_
      obtain ⟨hg18, h⟩ := grd h
      refine G_iald cd294_320 rfl (OM.s14 hw) hg18 ?_
      refine g_iload cd294_321 rfl rfl ?_
      refine g_icmp_ne cd294_323 rfl (fun hb => ?_) (fun hb => ?_)
      · have h := ifpE hb h
        refine g_iconst cd294_326 rfl ?_
        refine g_goto (ls2 := [some (.ref 204), some (.int l1), some (.int l2), some (.int (211 + (4 * l1))), some (.int (I 206 (((211 + (4 * l1)) + 1).toNatClampNeg))), some (.int (I 206 (((211 + (4 * l1)) + 2).toNatClampNeg))), none, none]) cd294_327 rfl rfl ?_
        exact g_iret cd294_331 (Or.inr ⟨rfl, Or.inr rfl⟩) (by obtain rfl := Option.some.inj h; rfl)
      · have h := ifnE hb h
        refine g_iconst cd294_330 rfl ?_
        exact g_iret cd294_331 (Or.inr ⟨rfl, Or.inl rfl⟩) (by obtain rfl := Option.some.inj h; rfl)
  have h := ifnE hb h
  show Go _ _ 332 [some (.ref 204), some (.int l1), some (.int l2), some (.int (211 + (4 * l1))), some (.int (I 206 (((211 + (4 * l1)) + 1).toNatClampNeg))), some (.int (I 206 (((211 + (4 * l1)) + 2).toNatClampNeg))), none, none] [] _ _
  refine g_aload_n cd294_332 rfl rfl ?_
  refine g_getP cd294_333 rfl (OM.o hw) (OM.p14 hw) ?_
  refine g_iload_n cd294_336 rfl rfl ?_
  refine G_iald cd294_337 rfl (OM.s14 hw) hg3 ?_
  refine g_bipush cd294_338 rfl ?_
  refine g_isub cd294_340 rfl ?_
  refine g_istore (ls2 := [some (.ref 204), some (.int l1), some (.int l2), some (.int (211 + (4 * l1))), some (.int (I 206 (((211 + (4 * l1)) + 1).toNatClampNeg))), some (.int (I 206 (((211 + (4 * l1)) + 2).toNatClampNeg))), some (.int ((I 206 ((211 + (4 * l1)).toNatClampNeg)) - 50)), none]) cd294_341 rfl rfl ?_
  refine g_iload cd294_343 rfl rfl ?_
  refine g_bipush cd294_345 rfl ?_
  refine g_icmp_ne cd294_347 rfl (fun hb => ?_) (fun hb => ?_)
  · have h := ifpE hb h
    refine g_aload_n cd294_350 rfl rfl ?_
    refine g_getP cd294_351 rfl (OM.o hw) (OM.p14 hw) ?_
    refine g_bipush cd294_354 rfl ?_
    refine g_iload_n cd294_356 rfl rfl ?_
    refine g_iadd cd294_357 rfl ?_
    obtain ⟨hg19, h⟩ := grd h
    refine G_iald cd294_358 rfl (OM.s14 hw) hg19 ?_
    refine g_goto (ls2 := [some (.ref 204), some (.int l1), some (.int l2), some (.int (211 + (4 * l1))), some (.int (I 206 (((211 + (4 * l1)) + 1).toNatClampNeg))), some (.int (I 206 (((211 + (4 * l1)) + 2).toNatClampNeg))), some (.int ((I 206 ((211 + (4 * l1)).toNatClampNeg)) - 50)), none]) cd294_359 rfl rfl ?_
    refine g_istore (ls2 := [some (.ref 204), some (.int l1), some (.int l2), some (.int (211 + (4 * l1))), some (.int (I 206 (((211 + (4 * l1)) + 1).toNatClampNeg))), some (.int (I 206 (((211 + (4 * l1)) + 2).toNatClampNeg))), some (.int ((I 206 ((211 + (4 * l1)).toNatClampNeg)) - 50)), some (.int (I 206 ((70 + l2).toNatClampNeg)))]) cd294_401 rfl rfl ?_
    refine g_aload_n cd294_403 rfl rfl ?_
    refine g_getP cd294_404 rfl (OM.o hw) (OM.p14 hw) ?_
    refine g_iload_n cd294_407 rfl rfl ?_
    refine g_iconst cd294_408 rfl ?_
    refine g_iadd cd294_409 rfl ?_
    obtain ⟨hg20, h⟩ := grd h
    refine G_iald cd294_410 rfl (OM.s14 hw) hg20 ?_
    refine g_bipush cd294_411 rfl ?_
    refine g_icmp_ne cd294_413 rfl (fun hb => ?_) (fun hb => ?_)
    · have h := ifpE hb h
      refine g_iload cd294_416 rfl rfl ?_
      refine g_iload cd294_418 rfl rfl ?_
      refine g_icmp_ge cd294_420 rfl (fun hb => ?_) (fun hb => ?_)
      · have h := ifpE hb h
        refine g_iconst cd294_427 rfl ?_
        refine g_goto (ls2 := [some (.ref 204), some (.int l1), some (.int l2), some (.int (211 + (4 * l1))), some (.int (I 206 (((211 + (4 * l1)) + 1).toNatClampNeg))), some (.int (I 206 (((211 + (4 * l1)) + 2).toNatClampNeg))), some (.int ((I 206 ((211 + (4 * l1)).toNatClampNeg)) - 50)), some (.int (I 206 ((70 + l2).toNatClampNeg)))]) cd294_428 rfl rfl ?_
        exact g_iret cd294_471 (Or.inr ⟨rfl, Or.inl rfl⟩) (by obtain rfl := Option.some.inj h; rfl)
      · have h := ifnE hb h
        refine g_iconst cd294_423 rfl ?_
        refine g_goto (ls2 := [some (.ref 204), some (.int l1), some (.int l2), some (.int (211 + (4 * l1))), some (.int (I 206 (((211 + (4 * l1)) + 1).toNatClampNeg))), some (.int (I 206 (((211 + (4 * l1)) + 2).toNatClampNeg))), some (.int ((I 206 ((211 + (4 * l1)).toNatClampNeg)) - 50)), some (.int (I 206 ((70 + l2).toNatClampNeg)))]) cd294_424 rfl rfl ?_
        exact g_iret cd294_471 (Or.inr ⟨rfl, Or.inr rfl⟩) (by obtain rfl := Option.some.inj h; rfl)
    · have h := ifnE hb h
      refine g_aload_n cd294_431 rfl rfl ?_
      refine g_getP cd294_432 rfl (OM.o hw) (OM.p14 hw) ?_
      refine g_iload_n cd294_435 rfl rfl ?_
      refine g_iconst cd294_436 rfl ?_
      refine g_iadd cd294_437 rfl ?_
      refine G_iald cd294_438 rfl (OM.s14 hw) hg20 ?_
      refine g_bipush cd294_439 rfl ?_
      refine g_icmp_ne cd294_441 rfl (fun hb => ?_) (fun hb => ?_)
      · have h := ifpE hb h
        refine g_iload cd294_444 rfl rfl ?_
        refine g_iload cd294_446 rfl rfl ?_
        refine g_icmp_ne cd294_448 rfl (fun hb => ?_) (fun hb => ?_)
        · have h := ifpE hb h
          refine g_iconst cd294_451 rfl ?_
          refine g_goto (ls2 := [some (.ref 204), some (.int l1), some (.int l2), some (.int (211 + (4 * l1))), some (.int (I 206 (((211 + (4 * l1)) + 1).toNatClampNeg))), some (.int (I 206 (((211 + (4 * l1)) + 2).toNatClampNeg))), some (.int ((I 206 ((211 + (4 * l1)).toNatClampNeg)) - 50)), some (.int (I 206 ((70 + l2).toNatClampNeg)))]) cd294_452 rfl rfl ?_
          exact g_iret cd294_471 (Or.inr ⟨rfl, Or.inr rfl⟩) (by obtain rfl := Option.some.inj h; rfl)
        · have h := ifnE hb h
          refine g_iconst cd294_455 rfl ?_
          refine g_goto (ls2 := [some (.ref 204), some (.int l1), some (.int l2), some (.int (211 + (4 * l1))), some (.int (I 206 (((211 + (4 * l1)) + 1).toNatClampNeg))), some (.int (I 206 (((211 + (4 * l1)) + 2).toNatClampNeg))), some (.int ((I 206 ((211 + (4 * l1)).toNatClampNeg)) - 50)), some (.int (I 206 ((70 + l2).toNatClampNeg)))]) cd294_456 rfl rfl ?_
          exact g_iret cd294_471 (Or.inr ⟨rfl, Or.inl rfl⟩) (by obtain rfl := Option.some.inj h; rfl)
      · have h := ifnE hb h
        refine g_iload cd294_459 rfl rfl ?_
        refine g_iload cd294_461 rfl rfl ?_
        refine g_icmp_le cd294_463 rfl (fun hb => ?_) (fun hb => ?_)
        · have h := ifpE hb h
          refine g_iconst cd294_470 rfl ?_
          exact g_iret cd294_471 (Or.inr ⟨rfl, Or.inl rfl⟩) (by obtain rfl := Option.some.inj h; rfl)
        · have h := ifnE hb h
          refine g_iconst cd294_466 rfl ?_
          refine g_goto (ls2 := [some (.ref 204), some (.int l1), some (.int l2), some (.int (211 + (4 * l1))), some (.int (I 206 (((211 + (4 * l1)) + 1).toNatClampNeg))), some (.int (I 206 (((211 + (4 * l1)) + 2).toNatClampNeg))), some (.int ((I 206 ((211 + (4 * l1)).toNatClampNeg)) - 50)), some (.int (I 206 ((70 + l2).toNatClampNeg)))]) cd294_467 rfl rfl ?_
          exact g_iret cd294_471 (Or.inr ⟨rfl, Or.inr rfl⟩) (by obtain rfl := Option.some.inj h; rfl)
  · have h := ifnE hb h
    refine g_iload cd294_362 rfl rfl ?_
    refine g_bipush cd294_364 rfl ?_
    refine g_icmp_ne cd294_366 rfl (fun hb => ?_) (fun hb => ?_)
    · have h := ifpE hb h
      refine g_aload_n cd294_369 rfl rfl ?_
      refine g_getP cd294_370 rfl (OM.o hw) (OM.p14 hw) ?_
      refine g_bipush cd294_373 rfl ?_
      refine g_iload_n cd294_375 rfl rfl ?_
      refine g_iadd cd294_376 rfl ?_
      obtain ⟨hg21, h⟩ := grd h
      refine G_iald cd294_377 rfl (OM.s14 hw) hg21 ?_
      refine g_goto (ls2 := [some (.ref 204), some (.int l1), some (.int l2), some (.int (211 + (4 * l1))), some (.int (I 206 (((211 + (4 * l1)) + 1).toNatClampNeg))), some (.int (I 206 (((211 + (4 * l1)) + 2).toNatClampNeg))), some (.int ((I 206 ((211 + (4 * l1)).toNatClampNeg)) - 50)), none]) cd294_378 rfl rfl ?_
      refine g_istore (ls2 := [some (.ref 204), some (.int l1), some (.int l2), some (.int (211 + (4 * l1))), some (.int (I 206 (((211 + (4 * l1)) + 1).toNatClampNeg))), some (.int (I 206 (((211 + (4 * l1)) + 2).toNatClampNeg))), some (.int ((I 206 ((211 + (4 * l1)).toNatClampNeg)) - 50)), some (.int (I 206 ((80 + l2).toNatClampNeg)))]) cd294_401 rfl rfl ?_
      refine g_aload_n cd294_403 rfl rfl ?_
      refine g_getP cd294_404 rfl (OM.o hw) (OM.p14 hw) ?_
      refine g_iload_n cd294_407 rfl rfl ?_
      refine g_iconst cd294_408 rfl ?_
      refine g_iadd cd294_409 rfl ?_
      obtain ⟨hg22, h⟩ := grd h
      refine G_iald cd294_410 rfl (OM.s14 hw) hg22 ?_
      refine g_bipush cd294_411 rfl ?_
      refine g_icmp_ne cd294_413 rfl (fun hb => ?_) (fun hb => ?_)
      · have h := ifpE hb h
        refine g_iload cd294_416 rfl rfl ?_
        refine g_iload cd294_418 rfl rfl ?_
        refine g_icmp_ge cd294_420 rfl (fun hb => ?_) (fun hb => ?_)
        · have h := ifpE hb h
          refine g_iconst cd294_427 rfl ?_
          refine g_goto (ls2 := [some (.ref 204), some (.int l1), some (.int l2), some (.int (211 + (4 * l1))), some (.int (I 206 (((211 + (4 * l1)) + 1).toNatClampNeg))), some (.int (I 206 (((211 + (4 * l1)) + 2).toNatClampNeg))), some (.int ((I 206 ((211 + (4 * l1)).toNatClampNeg)) - 50)), some (.int (I 206 ((80 + l2).toNatClampNeg)))]) cd294_428 rfl rfl ?_
          exact g_iret cd294_471 (Or.inr ⟨rfl, Or.inl rfl⟩) (by obtain rfl := Option.some.inj h; rfl)
        · have h := ifnE hb h
          refine g_iconst cd294_423 rfl ?_
          refine g_goto (ls2 := [some (.ref 204), some (.int l1), some (.int l2), some (.int (211 + (4 * l1))), some (.int (I 206 (((211 + (4 * l1)) + 1).toNatClampNeg))), some (.int (I 206 (((211 + (4 * l1)) + 2).toNatClampNeg))), some (.int ((I 206 ((211 + (4 * l1)).toNatClampNeg)) - 50)), some (.int (I 206 ((80 + l2).toNatClampNeg)))]) cd294_424 rfl rfl ?_
          exact g_iret cd294_471 (Or.inr ⟨rfl, Or.inr rfl⟩) (by obtain rfl := Option.some.inj h; rfl)
      · have h := ifnE hb h
        refine g_aload_n cd294_431 rfl rfl ?_
        refine g_getP cd294_432 rfl (OM.o hw) (OM.p14 hw) ?_
        refine g_iload_n cd294_435 rfl rfl ?_
        refine g_iconst cd294_436 rfl ?_
        refine g_iadd cd294_437 rfl ?_
        refine G_iald cd294_438 rfl (OM.s14 hw) hg22 ?_
        refine g_bipush cd294_439 rfl ?_
        refine g_icmp_ne cd294_441 rfl (fun hb => ?_) (fun hb => ?_)
        · have h := ifpE hb h
          refine g_iload cd294_444 rfl rfl ?_
          refine g_iload cd294_446 rfl rfl ?_
          refine g_icmp_ne cd294_448 rfl (fun hb => ?_) (fun hb => ?_)
          · have h := ifpE hb h
            refine g_iconst cd294_451 rfl ?_
            refine g_goto (ls2 := [some (.ref 204), some (.int l1), some (.int l2), some (.int (211 + (4 * l1))), some (.int (I 206 (((211 + (4 * l1)) + 1).toNatClampNeg))), some (.int (I 206 (((211 + (4 * l1)) + 2).toNatClampNeg))), some (.int ((I 206 ((211 + (4 * l1)).toNatClampNeg)) - 50)), some (.int (I 206 ((80 + l2).toNatClampNeg)))]) cd294_452 rfl rfl ?_
            exact g_iret cd294_471 (Or.inr ⟨rfl, Or.inr rfl⟩) (by obtain rfl := Option.some.inj h; rfl)
          · have h := ifnE hb h
            refine g_iconst cd294_455 rfl ?_
            refine g_goto (ls2 := [some (.ref 204), some (.int l1), some (.int l2), some (.int (211 + (4 * l1))), some (.int (I 206 (((211 + (4 * l1)) + 1).toNatClampNeg))), some (.int (I 206 (((211 + (4 * l1)) + 2).toNatClampNeg))), some (.int ((I 206 ((211 + (4 * l1)).toNatClampNeg)) - 50)), some (.int (I 206 ((80 + l2).toNatClampNeg)))]) cd294_456 rfl rfl ?_
            exact g_iret cd294_471 (Or.inr ⟨rfl, Or.inl rfl⟩) (by obtain rfl := Option.some.inj h; rfl)
        · have h := ifnE hb h
          refine g_iload cd294_459 rfl rfl ?_
          refine g_iload cd294_461 rfl rfl ?_
          refine g_icmp_le cd294_463 rfl (fun hb => ?_) (fun hb => ?_)
          · have h := ifpE hb h
            refine g_iconst cd294_470 rfl ?_
            exact g_iret cd294_471 (Or.inr ⟨rfl, Or.inl rfl⟩) (by obtain rfl := Option.some.inj h; rfl)
          · have h := ifnE hb h
            refine g_iconst cd294_466 rfl ?_
            refine g_goto (ls2 := [some (.ref 204), some (.int l1), some (.int l2), some (.int (211 + (4 * l1))), some (.int (I 206 (((211 + (4 * l1)) + 1).toNatClampNeg))), some (.int (I 206 (((211 + (4 * l1)) + 2).toNatClampNeg))), some (.int ((I 206 ((211 + (4 * l1)).toNatClampNeg)) - 50)), some (.int (I 206 ((80 + l2).toNatClampNeg)))]) cd294_467 rfl rfl ?_
            exact g_iret cd294_471 (Or.inr ⟨rfl, Or.inr rfl⟩) (by obtain rfl := Option.some.inj h; rfl)
    · have h := ifnE hb h
      refine g_iload cd294_381 rfl rfl ?_
      refine g_bipush cd294_383 rfl ?_
      refine g_icmp_ne cd294_385 rfl (fun hb => ?_) (fun hb => ?_)
      · have h := ifpE hb h
        refine g_aload_n cd294_388 rfl rfl ?_
        refine g_getP cd294_389 rfl (OM.o hw) (OM.p14 hw) ?_
        refine g_bipush cd294_392 rfl ?_
        refine g_iload_n cd294_394 rfl rfl ?_
        refine g_iadd cd294_395 rfl ?_
        obtain ⟨hg23, h⟩ := grd h
        refine G_iald cd294_396 rfl (OM.s14 hw) hg23 ?_
        refine g_goto (ls2 := [some (.ref 204), some (.int l1), some (.int l2), some (.int (211 + (4 * l1))), some (.int (I 206 (((211 + (4 * l1)) + 1).toNatClampNeg))), some (.int (I 206 (((211 + (4 * l1)) + 2).toNatClampNeg))), some (.int ((I 206 ((211 + (4 * l1)).toNatClampNeg)) - 50)), none]) cd294_397 rfl rfl ?_
        refine g_istore (ls2 := [some (.ref 204), some (.int l1), some (.int l2), some (.int (211 + (4 * l1))), some (.int (I 206 (((211 + (4 * l1)) + 1).toNatClampNeg))), some (.int (I 206 (((211 + (4 * l1)) + 2).toNatClampNeg))), some (.int ((I 206 ((211 + (4 * l1)).toNatClampNeg)) - 50)), some (.int (I 206 ((125 + l2).toNatClampNeg)))]) cd294_401 rfl rfl ?_
        refine g_aload_n cd294_403 rfl rfl ?_
        refine g_getP cd294_404 rfl (OM.o hw) (OM.p14 hw) ?_
        refine g_iload_n cd294_407 rfl rfl ?_
        refine g_iconst cd294_408 rfl ?_
        refine g_iadd cd294_409 rfl ?_
        obtain ⟨hg24, h⟩ := grd h
        refine G_iald cd294_410 rfl (OM.s14 hw) hg24 ?_
        refine g_bipush cd294_411 rfl ?_
        refine g_icmp_ne cd294_413 rfl (fun hb => ?_) (fun hb => ?_)
        · have h := ifpE hb h
          refine g_iload cd294_416 rfl rfl ?_
          refine g_iload cd294_418 rfl rfl ?_
          refine g_icmp_ge cd294_420 rfl (fun hb => ?_) (fun hb => ?_)
          · have h := ifpE hb h
            refine g_iconst cd294_427 rfl ?_
            refine g_goto (ls2 := [some (.ref 204), some (.int l1), some (.int l2), some (.int (211 + (4 * l1))), some (.int (I 206 (((211 + (4 * l1)) + 1).toNatClampNeg))), some (.int (I 206 (((211 + (4 * l1)) + 2).toNatClampNeg))), some (.int ((I 206 ((211 + (4 * l1)).toNatClampNeg)) - 50)), some (.int (I 206 ((125 + l2).toNatClampNeg)))]) cd294_428 rfl rfl ?_
            exact g_iret cd294_471 (Or.inr ⟨rfl, Or.inl rfl⟩) (by obtain rfl := Option.some.inj h; rfl)
          · have h := ifnE hb h
            refine g_iconst cd294_423 rfl ?_
            refine g_goto (ls2 := [some (.ref 204), some (.int l1), some (.int l2), some (.int (211 + (4 * l1))), some (.int (I 206 (((211 + (4 * l1)) + 1).toNatClampNeg))), some (.int (I 206 (((211 + (4 * l1)) + 2).toNatClampNeg))), some (.int ((I 206 ((211 + (4 * l1)).toNatClampNeg)) - 50)), some (.int (I 206 ((125 + l2).toNatClampNeg)))]) cd294_424 rfl rfl ?_
            exact g_iret cd294_471 (Or.inr ⟨rfl, Or.inr rfl⟩) (by obtain rfl := Option.some.inj h; rfl)
        · have h := ifnE hb h
          refine g_aload_n cd294_431 rfl rfl ?_
          refine g_getP cd294_432 rfl (OM.o hw) (OM.p14 hw) ?_
          refine g_iload_n cd294_435 rfl rfl ?_
          refine g_iconst cd294_436 rfl ?_
          refine g_iadd cd294_437 rfl ?_
          refine G_iald cd294_438 rfl (OM.s14 hw) hg24 ?_
          refine g_bipush cd294_439 rfl ?_
          refine g_icmp_ne cd294_441 rfl (fun hb => ?_) (fun hb => ?_)
          · have h := ifpE hb h
            refine g_iload cd294_444 rfl rfl ?_
            refine g_iload cd294_446 rfl rfl ?_
            refine g_icmp_ne cd294_448 rfl (fun hb => ?_) (fun hb => ?_)
            · have h := ifpE hb h
              refine g_iconst cd294_451 rfl ?_
              refine g_goto (ls2 := [some (.ref 204), some (.int l1), some (.int l2), some (.int (211 + (4 * l1))), some (.int (I 206 (((211 + (4 * l1)) + 1).toNatClampNeg))), some (.int (I 206 (((211 + (4 * l1)) + 2).toNatClampNeg))), some (.int ((I 206 ((211 + (4 * l1)).toNatClampNeg)) - 50)), some (.int (I 206 ((125 + l2).toNatClampNeg)))]) cd294_452 rfl rfl ?_
              exact g_iret cd294_471 (Or.inr ⟨rfl, Or.inr rfl⟩) (by obtain rfl := Option.some.inj h; rfl)
            · have h := ifnE hb h
              refine g_iconst cd294_455 rfl ?_
              refine g_goto (ls2 := [some (.ref 204), some (.int l1), some (.int l2), some (.int (211 + (4 * l1))), some (.int (I 206 (((211 + (4 * l1)) + 1).toNatClampNeg))), some (.int (I 206 (((211 + (4 * l1)) + 2).toNatClampNeg))), some (.int ((I 206 ((211 + (4 * l1)).toNatClampNeg)) - 50)), some (.int (I 206 ((125 + l2).toNatClampNeg)))]) cd294_456 rfl rfl ?_
              exact g_iret cd294_471 (Or.inr ⟨rfl, Or.inl rfl⟩) (by obtain rfl := Option.some.inj h; rfl)
          · have h := ifnE hb h
            refine g_iload cd294_459 rfl rfl ?_
            refine g_iload cd294_461 rfl rfl ?_
            refine g_icmp_le cd294_463 rfl (fun hb => ?_) (fun hb => ?_)
            · have h := ifpE hb h
              refine g_iconst cd294_470 rfl ?_
              exact g_iret cd294_471 (Or.inr ⟨rfl, Or.inl rfl⟩) (by obtain rfl := Option.some.inj h; rfl)
            · have h := ifnE hb h
              refine g_iconst cd294_466 rfl ?_
              refine g_goto (ls2 := [some (.ref 204), some (.int l1), some (.int l2), some (.int (211 + (4 * l1))), some (.int (I 206 (((211 + (4 * l1)) + 1).toNatClampNeg))), some (.int (I 206 (((211 + (4 * l1)) + 2).toNatClampNeg))), some (.int ((I 206 ((211 + (4 * l1)).toNatClampNeg)) - 50)), some (.int (I 206 ((125 + l2).toNatClampNeg)))]) cd294_467 rfl rfl ?_
              exact g_iret cd294_471 (Or.inr ⟨rfl, Or.inr rfl⟩) (by obtain rfl := Option.some.inj h; rfl)
      · have h := ifnE hb h
        refine g_iload_n cd294_400 rfl rfl ?_
        refine g_istore (ls2 := [some (.ref 204), some (.int l1), some (.int l2), some (.int (211 + (4 * l1))), some (.int (I 206 (((211 + (4 * l1)) + 1).toNatClampNeg))), some (.int (I 206 (((211 + (4 * l1)) + 2).toNatClampNeg))), some (.int ((I 206 ((211 + (4 * l1)).toNatClampNeg)) - 50)), some (.int l2)]) cd294_401 rfl rfl ?_
        refine g_aload_n cd294_403 rfl rfl ?_
        refine g_getP cd294_404 rfl (OM.o hw) (OM.p14 hw) ?_
        refine g_iload_n cd294_407 rfl rfl ?_
        refine g_iconst cd294_408 rfl ?_
        refine g_iadd cd294_409 rfl ?_
        obtain ⟨hg25, h⟩ := grd h
        refine G_iald cd294_410 rfl (OM.s14 hw) hg25 ?_
        refine g_bipush cd294_411 rfl ?_
        refine g_icmp_ne cd294_413 rfl (fun hb => ?_) (fun hb => ?_)
        · have h := ifpE hb h
          refine g_iload cd294_416 rfl rfl ?_
          refine g_iload cd294_418 rfl rfl ?_
          refine g_icmp_ge cd294_420 rfl (fun hb => ?_) (fun hb => ?_)
          · have h := ifpE hb h
            refine g_iconst cd294_427 rfl ?_
            refine g_goto (ls2 := [some (.ref 204), some (.int l1), some (.int l2), some (.int (211 + (4 * l1))), some (.int (I 206 (((211 + (4 * l1)) + 1).toNatClampNeg))), some (.int (I 206 (((211 + (4 * l1)) + 2).toNatClampNeg))), some (.int ((I 206 ((211 + (4 * l1)).toNatClampNeg)) - 50)), some (.int l2)]) cd294_428 rfl rfl ?_
            exact g_iret cd294_471 (Or.inr ⟨rfl, Or.inl rfl⟩) (by obtain rfl := Option.some.inj h; rfl)
          · have h := ifnE hb h
            refine g_iconst cd294_423 rfl ?_
            refine g_goto (ls2 := [some (.ref 204), some (.int l1), some (.int l2), some (.int (211 + (4 * l1))), some (.int (I 206 (((211 + (4 * l1)) + 1).toNatClampNeg))), some (.int (I 206 (((211 + (4 * l1)) + 2).toNatClampNeg))), some (.int ((I 206 ((211 + (4 * l1)).toNatClampNeg)) - 50)), some (.int l2)]) cd294_424 rfl rfl ?_
            exact g_iret cd294_471 (Or.inr ⟨rfl, Or.inr rfl⟩) (by obtain rfl := Option.some.inj h; rfl)
        · have h := ifnE hb h
          refine g_aload_n cd294_431 rfl rfl ?_
          refine g_getP cd294_432 rfl (OM.o hw) (OM.p14 hw) ?_
          refine g_iload_n cd294_435 rfl rfl ?_
          refine g_iconst cd294_436 rfl ?_
          refine g_iadd cd294_437 rfl ?_
          refine G_iald cd294_438 rfl (OM.s14 hw) hg25 ?_
          refine g_bipush cd294_439 rfl ?_
          refine g_icmp_ne cd294_441 rfl (fun hb => ?_) (fun hb => ?_)
          · have h := ifpE hb h
            refine g_iload cd294_444 rfl rfl ?_
            refine g_iload cd294_446 rfl rfl ?_
            refine g_icmp_ne cd294_448 rfl (fun hb => ?_) (fun hb => ?_)
            · have h := ifpE hb h
              refine g_iconst cd294_451 rfl ?_
              refine g_goto (ls2 := [some (.ref 204), some (.int l1), some (.int l2), some (.int (211 + (4 * l1))), some (.int (I 206 (((211 + (4 * l1)) + 1).toNatClampNeg))), some (.int (I 206 (((211 + (4 * l1)) + 2).toNatClampNeg))), some (.int ((I 206 ((211 + (4 * l1)).toNatClampNeg)) - 50)), some (.int l2)]) cd294_452 rfl rfl ?_
              exact g_iret cd294_471 (Or.inr ⟨rfl, Or.inr rfl⟩) (by obtain rfl := Option.some.inj h; rfl)
            · have h := ifnE hb h
              refine g_iconst cd294_455 rfl ?_
              refine g_goto (ls2 := [some (.ref 204), some (.int l1), some (.int l2), some (.int (211 + (4 * l1))), some (.int (I 206 (((211 + (4 * l1)) + 1).toNatClampNeg))), some (.int (I 206 (((211 + (4 * l1)) + 2).toNatClampNeg))), some (.int ((I 206 ((211 + (4 * l1)).toNatClampNeg)) - 50)), some (.int l2)]) cd294_456 rfl rfl ?_
              exact g_iret cd294_471 (Or.inr ⟨rfl, Or.inl rfl⟩) (by obtain rfl := Option.some.inj h; rfl)
          · have h := ifnE hb h
            refine g_iload cd294_459 rfl rfl ?_
            refine g_iload cd294_461 rfl rfl ?_
            refine g_icmp_le cd294_463 rfl (fun hb => ?_) (fun hb => ?_)
            · have h := ifpE hb h
              refine g_iconst cd294_470 rfl ?_
              exact g_iret cd294_471 (Or.inr ⟨rfl, Or.inl rfl⟩) (by obtain rfl := Option.some.inj h; rfl)
            · have h := ifnE hb h
              refine g_iconst cd294_466 rfl ?_
              refine g_goto (ls2 := [some (.ref 204), some (.int l1), some (.int l2), some (.int (211 + (4 * l1))), some (.int (I 206 (((211 + (4 * l1)) + 1).toNatClampNeg))), some (.int (I 206 (((211 + (4 * l1)) + 2).toNatClampNeg))), some (.int ((I 206 ((211 + (4 * l1)).toNatClampNeg)) - 50)), some (.int l2)]) cd294_467 rfl rfl ?_
              exact g_iret cd294_471 (Or.inr ⟨rfl, Or.inr rfl⟩) (by obtain rfl := Option.some.inj h; rfl)
set_option maxRecDepth 8000 in
theorem t_Mod_holds_R {N : Nat} {c : Nat × Nat} {S : Nat → Nat × Nat} {P : Nat → Nat → Option Nat} : ∀ (k D : Nat), 1 * k ≤ D → ∀ {d : Nat} {l1 : Int32} {l2 : Int32} {I : FI} {J : FJ} {r : Bool}, D ≤ d → OM S P → Mod_holds_R N k l1 l2 I = some r → Go d M_Mod_holds 0 [some (.ref 204), some (.int l1), some (.int l2), none, none, none, none, none] [] (c, S, I, J, P) (some (.int (b2i r)), false, (c, S, I, J, P)) := by
  intro k
  induction k with
  | zero =>
    intro D hD d l1 l2 I J r hd hw h
    cases h
  | succ k ih =>
    intro D hD d l1 l2 I J r hd hw h
    exact t_Mod_holds (D := 1 * k) (N := N) (by omega) (ih (1 * k) (Nat.le_refl _)) hw h
/-! HiddenOrLostModel.said(I)I -/
theorem cd293_0 : code9 293 0 = some (0, .aload_n 0, [1], .null, []) := rfl
theorem cd293_1 : code9 293 1 = some (0, .iconst 0, [1], .int 0, []) := rfl
theorem cd293_2 : code9 293 2 = some (0, .putfield 1, [3, 12, 0, 0], .null, []) := rfl
theorem cd293_5 : code9 293 5 = some (0, .aload_n 0, [1], .null, []) := rfl
theorem cd293_6 : code9 293 6 = some (0, .getfield 98, [3, 12, 14, 2], .null, []) := rfl
theorem cd293_9 : code9 293 9 = some (0, .sipush 209, [3], .int 209, []) := rfl
theorem cd293_12 : code9 293 12 = some (0, .iaload, [1], .null, []) := rfl
theorem cd293_13 : code9 293 13 = some (0, .ifCond .ne 5, [3, 18], .null, []) := rfl
theorem cd293_16 : code9 293 16 = some (0, .iconst (-1), [1], .int (-1), []) := rfl
theorem cd293_17 : code9 293 17 = some (0, .ireturn, [1, 1], .null, []) := rfl
theorem cd293_18 : code9 293 18 = some (0, .iconst 0, [1], .int 0, []) := rfl
theorem cd293_19 : code9 293 19 = some (0, .istore_n 2, [1], .null, []) := rfl
theorem cd293_20 : code9 293 20 = some (0, .iconst 0, [1], .int 0, []) := rfl
theorem cd293_21 : code9 293 21 = some (0, .istore_n 3, [1], .null, []) := rfl
theorem cd293_22 : code9 293 22 = some (5, .iload_n 3, [1], .null, []) := rfl
theorem cd293_23 : code9 293 23 = some (0, .aload_n 0, [1], .null, []) := rfl
theorem cd293_24 : code9 293 24 = some (0, .getfield 98, [3, 12, 14, 2], .null, []) := rfl
theorem cd293_27 : code9 293 27 = some (0, .iconst 1, [1], .int 1, []) := rfl
theorem cd293_28 : code9 293 28 = some (0, .iaload, [1], .null, []) := rfl
theorem cd293_29 : code9 293 29 = some (0, .if_icmp .ge 38, [3, 67], .null, []) := rfl
theorem cd293_32 : code9 293 32 = some (0, .aload_n 0, [1], .null, []) := rfl
theorem cd293_33 : code9 293 33 = some (0, .aload_n 0, [1], .null, []) := rfl
theorem cd293_34 : code9 293 34 = some (0, .getfield 98, [3, 12, 14, 2], .null, []) := rfl
theorem cd293_37 : code9 293 37 = some (0, .sipush 210, [3], .int 210, []) := rfl
theorem cd293_40 : code9 293 40 = some (0, .iaload, [1], .null, []) := rfl
theorem cd293_41 : code9 293 41 = some (0, .iload_n 3, [1], .null, []) := rfl
theorem cd293_42 : code9 293 42 = some (0, .invokevirtual 436, [3, 294, 3, 1, 3, 8, 12, 0], .null, []) := rfl
theorem cd293_45 : code9 293 45 = some (0, .ifCond .ne 6, [3, 51], .null, []) := rfl
theorem cd293_48 : code9 293 48 = some (0, .goto 13, [3, 61, 4], .null, []) := rfl
theorem cd293_51 : code9 293 51 = some (0, .iload_n 2, [1], .null, []) := rfl
theorem cd293_52 : code9 293 52 = some (0, .iload_n 1, [1], .null, []) := rfl
theorem cd293_53 : code9 293 53 = some (0, .if_icmp .ne 5, [3, 58], .null, []) := rfl
theorem cd293_56 : code9 293 56 = some (0, .iload_n 3, [1], .null, []) := rfl
theorem cd293_57 : code9 293 57 = some (0, .ireturn, [1, 1], .null, []) := rfl
theorem cd293_58 : code9 293 58 = some (0, .iinc 2 1, [3], .int 1, []) := rfl
theorem cd293_61 : code9 293 61 = some (5, .iinc 3 1, [3], .int 1, []) := rfl
theorem cd293_64 : code9 293 64 = some (0, .goto (-42), [3, 22, 4], .null, []) := rfl
theorem cd293_67 : code9 293 67 = some (0, .iload_n 1, [1], .null, []) := rfl
theorem cd293_68 : code9 293 68 = some (0, .iconst (-1), [1], .int (-1), []) := rfl
theorem cd293_69 : code9 293 69 = some (0, .if_icmp .ne 7, [3, 76], .null, []) := rfl
theorem cd293_72 : code9 293 72 = some (0, .iload_n 2, [1], .null, []) := rfl
theorem cd293_73 : code9 293 73 = some (0, .goto 4, [3, 77, 4], .null, []) := rfl
theorem cd293_76 : code9 293 76 = some (0, .iconst (-1), [1], .int (-1), []) := rfl
theorem cd293_77 : code9 293 77 = some (5, .ireturn, [1, 1], .null, []) := rfl
def Mod_said_22 (N : Nat) : Nat → Int32 → Int32 → Int32 → FI → Option (Int32 × FI)
  | 0 => fun _ _ _ _ => none
  | n + 1 => fun l1 l2 l3 I => if (I 206 ((1 : Int32).toNatClampNeg)) ≤ l3 then (if l1 = (-1) then (some (l2, I)) else (some ((-1), I))) else (Option.bind (Mod_holds_R N dK (I 206 ((210 : Int32).toNatClampNeg)) l3 I) fun x2 => (if x2 then (if l2 = l1 then (some (l3, I)) else (Mod_said_22 N n l1 (l2 + 1) (l3 + 1) I)) else (Mod_said_22 N n l1 l2 (l3 + 1) I)))
def Mod_said (N : Nat) (l1 : Int32) (I : FI) : Option (Int32 × FI) := Option.bind (some (up2 I 204 0 (0 : Int32))) fun I1 => (if (I1 206 ((209 : Int32).toNatClampNeg)) = 0 then (some ((-1), I1)) else (Mod_said_22 N N l1 0 0 I1))
set_option maxRecDepth 8000 in
theorem t_Mod_said_22 {d : Nat} {N : Nat} {c : Nat × Nat} {S : Nat → Nat × Nat} {P : Nat → Nat → Option Nat} {r : Int32 × FI} (hd : 66 ≤ (d + 1)) (hw : OM S P) : ∀ (n : Nat) (l1 : Int32) (l2 : Int32) (l3 : Int32) (I : FI) (J : FJ), Mod_said_22 N n l1 l2 l3 I = some r → Go (d + 1) M_Mod_said 22 [some (.ref 204), some (.int l1), some (.int l2), some (.int l3)] [] (c, S, I, J, P) (some (.int r.1), false, (c, S, r.2, J, P)) := by
  intro n
  induction n with
  | zero =>
    intro l1 l2 l3 I J h
    cases h
  | succ n ih =>
    intro l1 l2 l3 I J h
    unfold Mod_said_22 at h
    refine g_iload_n cd293_22 rfl rfl ?_
    refine g_aload_n cd293_23 rfl rfl ?_
    refine g_getP cd293_24 rfl (OM.o hw) (OM.p14 hw) ?_
    refine g_iconst cd293_27 rfl ?_
    refine G_iald cd293_28 rfl (OM.s14 hw) (by decide) ?_
    refine g_icmp_ge cd293_29 rfl (fun hb => ?_) (fun hb => ?_)
    · have h := ifpE hb h
      refine g_iload_n cd293_67 rfl rfl ?_
      refine g_iconst cd293_68 rfl ?_
      refine g_icmp_ne cd293_69 rfl (fun hb => ?_) (fun hb => ?_)
      · have h := ifpE hb h
        refine g_iload_n cd293_72 rfl rfl ?_
        refine g_goto (ls2 := [some (.ref 204), some (.int l1), some (.int l2), some (.int l3)]) cd293_73 rfl rfl ?_
        exact g_iret cd293_77 (Or.inl rfl) (by obtain rfl := Option.some.inj h; rfl)
      · have h := ifnE hb h
        refine g_iconst cd293_76 rfl ?_
        exact g_iret cd293_77 (Or.inl rfl) (by obtain rfl := Option.some.inj h; rfl)
    · have h := ifnE hb h
      refine g_aload_n cd293_32 rfl rfl ?_
      refine g_aload_n cd293_33 rfl rfl ?_
      refine g_getP cd293_34 rfl (OM.o hw) (OM.p14 hw) ?_
      refine g_sipush cd293_37 rfl ?_
      refine G_iald cd293_40 rfl (OM.s14 hw) (by decide) ?_
      refine g_iload_n cd293_41 rfl rfl ?_
      obtain ⟨x2, hx, h⟩ := bnd h
      refine g_callVZ (L := [some (.ref 204), some (.int (I 206 ((210 : Int32).toNatClampNeg))), some (.int l3), none, none, none, none, none]) cd293_42 rfl rfl rfl rfl rfl (OM.o hw) (t_Mod_holds_R dK (1 * dK) (Nat.le_refl _) (by have := dK_eq; omega) hw hx) ?_
      refine g_if_ne cd293_45 rfl (fun hb => ?_) (fun hb => ?_)
      · have h := ifnE (b2i_f hb) h
        refine g_goto (ls2 := [some (.ref 204), some (.int l1), some (.int l2), some (.int l3)]) cd293_48 rfl rfl ?_
        refine g_iinc (ls2 := [some (.ref 204), some (.int l1), some (.int l2), some (.int (l3 + 1))]) cd293_61 rfl rfl rfl ?_
        refine g_goto (ls2 := [some (.ref 204), some (.int l1), some (.int l2), some (.int (l3 + 1))]) cd293_64 rfl rfl ?_
        exact ih l1 l2 (l3 + 1) I J h
      · have h := ifpE (b2i_t hb) h
        refine g_iload_n cd293_51 rfl rfl ?_
        refine g_iload_n cd293_52 rfl rfl ?_
        refine g_icmp_ne cd293_53 rfl (fun hb => ?_) (fun hb => ?_)
        · have h := ifpE hb h
          refine g_iload_n cd293_56 rfl rfl ?_
          exact g_iret cd293_57 (Or.inl rfl) (by obtain rfl := Option.some.inj h; rfl)
        · have h := ifnE hb h
          refine g_iinc (ls2 := [some (.ref 204), some (.int l1), some (.int (l2 + 1)), some (.int l3)]) cd293_58 rfl rfl rfl ?_
          refine g_iinc (ls2 := [some (.ref 204), some (.int l1), some (.int (l2 + 1)), some (.int (l3 + 1))]) cd293_61 rfl rfl rfl ?_
          refine g_goto (ls2 := [some (.ref 204), some (.int l1), some (.int (l2 + 1)), some (.int (l3 + 1))]) cd293_64 rfl rfl ?_
          exact ih l1 (l2 + 1) (l3 + 1) I J h
set_option maxRecDepth 8000 in
theorem t_Mod_said {d : Nat} {N : Nat} {c : Nat × Nat} {S : Nat → Nat × Nat} {P : Nat → Nat → Option Nat} {I : FI} {J : FJ} {l1 : Int32} {r : Int32 × FI} (hd : 66 ≤ d) (hw : OM S P) (h : Mod_said N l1 I = some r) : Go d M_Mod_said 0 [some (.ref 204), some (.int l1), none, none] [] (c, S, I, J, P) (some (.int r.1), false, (c, S, r.2, J, P)) := by
  obtain ⟨d, rfl⟩ : ∃ e, d = e + 1 := ⟨d - 1, by omega⟩
  unfold Mod_said at h
  refine g_aload_n cd293_0 rfl rfl ?_
  refine g_iconst cd293_1 rfl ?_
  obtain ⟨I1, e1, h⟩ := bnd h
  refine G_putI cd293_2 rfl (OM.o hw) (Option.some.inj e1) ?_
  refine g_aload_n cd293_5 rfl rfl ?_
  refine g_getP cd293_6 rfl (OM.o hw) (OM.p14 hw) ?_
  refine g_sipush cd293_9 rfl ?_
  refine G_iald cd293_12 rfl (OM.s14 hw) (by decide) ?_
  refine g_if_ne cd293_13 rfl (fun hb => ?_) (fun hb => ?_)
  · have h := ifpE hb h
    refine g_iconst cd293_16 rfl ?_
    exact g_iret cd293_17 (Or.inl rfl) (by obtain rfl := Option.some.inj h; rfl)
  · have h := ifnE hb h
    refine g_iconst cd293_18 rfl ?_
    refine g_istore_n (ls2 := [some (.ref 204), some (.int l1), some (.int 0), none]) cd293_19 rfl rfl ?_
    refine g_iconst cd293_20 rfl ?_
    refine g_istore_n (ls2 := [some (.ref 204), some (.int l1), some (.int 0), some (.int 0)]) cd293_21 rfl rfl ?_
    exact t_Mod_said_22 hd hw _ l1 0 0 I1 J h
/-! HiddenOrLostModel.image(I)Z -/
theorem cd295_0 : code9 295 0 = some (0, .aload_n 0, [1], .null, []) := rfl
theorem cd295_1 : code9 295 1 = some (0, .iconst 0, [1], .int 0, []) := rfl
theorem cd295_2 : code9 295 2 = some (0, .putfield 1, [3, 12, 0, 0], .null, []) := rfl
theorem cd295_5 : code9 295 5 = some (0, .iload_n 1, [1], .null, []) := rfl
theorem cd295_6 : code9 295 6 = some (0, .iconst 0, [1], .int 0, []) := rfl
theorem cd295_7 : code9 295 7 = some (0, .iconst 1, [1], .int 1, []) := rfl
theorem cd295_8 : code9 295 8 = some (0, .invokestatic 75, [3, 191, 3, 0, 3, 3, 12, 0], .null, []) := rfl
theorem cd295_11 : code9 295 11 = some (0, .ifCond .ne 5, [3, 16], .null, []) := rfl
theorem cd295_14 : code9 295 14 = some (0, .iconst 0, [1], .int 0, []) := rfl
theorem cd295_15 : code9 295 15 = some (0, .ireturn, [1, 3], .null, []) := rfl
theorem cd295_16 : code9 295 16 = some (0, .iconst 0, [1], .int 0, []) := rfl
theorem cd295_17 : code9 295 17 = some (0, .istore_n 2, [1], .null, []) := rfl
theorem cd295_18 : code9 295 18 = some (4, .iload_n 2, [1], .null, []) := rfl
theorem cd295_19 : code9 295 19 = some (0, .sipush 451, [3], .int 451, []) := rfl
theorem cd295_22 : code9 295 22 = some (0, .if_icmp .ge 27, [3, 49], .null, []) := rfl
theorem cd295_25 : code9 295 25 = some (0, .aload_n 0, [1], .null, []) := rfl
theorem cd295_26 : code9 295 26 = some (0, .getfield 104, [3, 12, 16, 2], .null, []) := rfl
theorem cd295_29 : code9 295 29 = some (0, .sipush 451, [3], .int 451, []) := rfl
theorem cd295_32 : code9 295 32 = some (0, .iload_n 1, [1], .null, []) := rfl
theorem cd295_33 : code9 295 33 = some (0, .imul, [1], .null, []) := rfl
theorem cd295_34 : code9 295 34 = some (0, .iload_n 2, [1], .null, []) := rfl
theorem cd295_35 : code9 295 35 = some (0, .iadd, [1], .null, []) := rfl
theorem cd295_36 : code9 295 36 = some (0, .aload_n 0, [1], .null, []) := rfl
theorem cd295_37 : code9 295 37 = some (0, .getfield 98, [3, 12, 14, 2], .null, []) := rfl
theorem cd295_40 : code9 295 40 = some (0, .iload_n 2, [1], .null, []) := rfl
theorem cd295_41 : code9 295 41 = some (0, .iaload, [1], .null, []) := rfl
theorem cd295_42 : code9 295 42 = some (0, .iastore, [1], .null, []) := rfl
theorem cd295_43 : code9 295 43 = some (0, .iinc 2 1, [3], .int 1, []) := rfl
theorem cd295_46 : code9 295 46 = some (0, .goto (-28), [3, 18, 3], .null, []) := rfl
theorem cd295_49 : code9 295 49 = some (0, .iconst 0, [1], .int 0, []) := rfl
theorem cd295_50 : code9 295 50 = some (0, .istore_n 2, [1], .null, []) := rfl
theorem cd295_51 : code9 295 51 = some (4, .iload_n 2, [1], .null, []) := rfl
theorem cd295_52 : code9 295 52 = some (0, .bipush 22, [2], .int 22, []) := rfl
theorem cd295_54 : code9 295 54 = some (0, .if_icmp .ge 26, [3, 80], .null, []) := rfl
theorem cd295_57 : code9 295 57 = some (0, .aload_n 0, [1], .null, []) := rfl
theorem cd295_58 : code9 295 58 = some (0, .getfield 120, [3, 12, 21, 2], .null, []) := rfl
theorem cd295_61 : code9 295 61 = some (0, .bipush 22, [2], .int 22, []) := rfl
theorem cd295_63 : code9 295 63 = some (0, .iload_n 1, [1], .null, []) := rfl
theorem cd295_64 : code9 295 64 = some (0, .imul, [1], .null, []) := rfl
theorem cd295_65 : code9 295 65 = some (0, .iload_n 2, [1], .null, []) := rfl
theorem cd295_66 : code9 295 66 = some (0, .iadd, [1], .null, []) := rfl
theorem cd295_67 : code9 295 67 = some (0, .aload_n 0, [1], .null, []) := rfl
theorem cd295_68 : code9 295 68 = some (0, .getfield 113, [3, 12, 19, 2], .null, []) := rfl
theorem cd295_71 : code9 295 71 = some (0, .iload_n 2, [1], .null, []) := rfl
theorem cd295_72 : code9 295 72 = some (0, .laload, [1], .null, []) := rfl
theorem cd295_73 : code9 295 73 = some (0, .lastore, [1], .null, []) := rfl
theorem cd295_74 : code9 295 74 = some (0, .iinc 2 1, [3], .int 1, []) := rfl
theorem cd295_77 : code9 295 77 = some (0, .goto (-26), [3, 51, 3], .null, []) := rfl
theorem cd295_80 : code9 295 80 = some (0, .aload_n 0, [1], .null, []) := rfl
theorem cd295_81 : code9 295 81 = some (0, .getfield 123, [3, 12, 22, 2], .null, []) := rfl
theorem cd295_84 : code9 295 84 = some (0, .iload_n 1, [1], .null, []) := rfl
theorem cd295_85 : code9 295 85 = some (0, .iconst 1, [1], .int 1, []) := rfl
theorem cd295_86 : code9 295 86 = some (0, .bastore, [1], .null, []) := rfl
theorem cd295_87 : code9 295 87 = some (0, .iconst 1, [1], .int 1, []) := rfl
theorem cd295_88 : code9 295 88 = some (0, .ireturn, [1, 3], .null, []) := rfl
def Mod_image_51 (N : Nat) : Nat → Int32 → Int32 → FI → FJ → Option (Bool × FI × FJ)
  | 0 => fun _ _ _ _ => none
  | n + 1 => fun l1 l2 I J => if 22 ≤ l2 then (if in9 l1 2 then (Option.bind (some (up2 I 214 l1.toNatClampNeg (vp_nar .boolean (1 : Int32)))) fun I3 => (some (true, I3, J))) else none) else (if in9 l2 22 then (if in9 ((22 * l1) + l2) 44 then (Option.bind (some (up2 J 213 (((22 * l1) + l2).toNatClampNeg) (J 211 l2.toNatClampNeg))) fun J6 => (Mod_image_51 N n l1 (l2 + 1) I J6)) else none) else none)
def Mod_image_18 (N : Nat) : Nat → Int32 → Int32 → FI → FJ → Option (Bool × FI × FJ)
  | 0 => fun _ _ _ _ => none
  | n + 1 => fun l1 l2 I J => if 451 ≤ l2 then (Mod_image_51 N N l1 0 I J) else (if in9 l2 451 then (if in9 ((451 * l1) + l2) 902 then (Option.bind (some (up2 I 208 (((451 * l1) + l2).toNatClampNeg) (I 206 l2.toNatClampNeg))) fun I9 => (Mod_image_18 N n l1 (l2 + 1) I9 J)) else none) else none)
def Mod_image (N : Nat) (l1 : Int32) (I : FI) (J : FJ) : Option (Bool × FI × FJ) := Option.bind (some (up2 I 204 0 (0 : Int32))) fun I1 => (if (Mod_isIn l1 0 1) then (Mod_image_18 N N l1 0 I1 J) else (some (false, I1, J)))
set_option maxRecDepth 8000 in
theorem t_Mod_image_51 {d : Nat} {N : Nat} {c : Nat × Nat} {S : Nat → Nat × Nat} {P : Nat → Nat → Option Nat} {r : Bool × FI × FJ} (hd : 1 ≤ (d + 1)) (hw : OM S P) : ∀ (n : Nat) (l1 : Int32) (l2 : Int32) (I : FI) (J : FJ), Mod_image_51 N n l1 l2 I J = some r → Go (d + 1) M_Mod_image 51 [some (.ref 204), some (.int l1), some (.int l2)] [] (c, S, I, J, P) (some (.int (b2i r.1)), false, (c, S, r.2.1, r.2.2, P)) := by
  intro n
  induction n with
  | zero =>
    intro l1 l2 I J h
    cases h
  | succ n ih =>
    intro l1 l2 I J h
    unfold Mod_image_51 at h
    refine g_iload_n cd295_51 rfl rfl ?_
    refine g_bipush cd295_52 rfl ?_
    refine g_icmp_ge cd295_54 rfl (fun hb => ?_) (fun hb => ?_)
    · have h := ifpE hb h
      refine g_aload_n cd295_80 rfl rfl ?_
      refine g_getP cd295_81 rfl (OM.o hw) (OM.p22 hw) ?_
      refine g_iload_n cd295_84 rfl rfl ?_
      refine g_iconst cd295_85 rfl ?_
      obtain ⟨hg2, h⟩ := grd h
      obtain ⟨I3, e1, h⟩ := bnd h
      refine G_bastZ cd295_86 rfl (OM.s22 hw) hg2 (Option.some.inj e1) ?_
      refine g_iconst cd295_87 rfl ?_
      exact g_iret cd295_88 (Or.inr ⟨rfl, Or.inr rfl⟩) (by obtain rfl := Option.some.inj h; rfl)
    · have h := ifnE hb h
      refine g_aload_n cd295_57 rfl rfl ?_
      refine g_getP cd295_58 rfl (OM.o hw) (OM.p21 hw) ?_
      refine g_bipush cd295_61 rfl ?_
      refine g_iload_n cd295_63 rfl rfl ?_
      refine g_imul cd295_64 rfl ?_
      refine g_iload_n cd295_65 rfl rfl ?_
      refine g_iadd cd295_66 rfl ?_
      refine g_aload_n cd295_67 rfl rfl ?_
      refine g_getP cd295_68 rfl (OM.o hw) (OM.p19 hw) ?_
      refine g_iload_n cd295_71 rfl rfl ?_
      obtain ⟨hg4, h⟩ := grd h
      refine G_lald cd295_72 rfl (OM.s19 hw) hg4 ?_
      obtain ⟨hg5, h⟩ := grd h
      obtain ⟨J6, e1, h⟩ := bnd h
      refine G_last cd295_73 rfl (OM.s21 hw) hg5 (Option.some.inj e1) ?_
      refine g_iinc (ls2 := [some (.ref 204), some (.int l1), some (.int (l2 + 1))]) cd295_74 rfl rfl rfl ?_
      refine g_goto (ls2 := [some (.ref 204), some (.int l1), some (.int (l2 + 1))]) cd295_77 rfl rfl ?_
      exact ih l1 (l2 + 1) I J6 h
set_option maxRecDepth 8000 in
theorem t_Mod_image_18 {d : Nat} {N : Nat} {c : Nat × Nat} {S : Nat → Nat × Nat} {P : Nat → Nat → Option Nat} {r : Bool × FI × FJ} (hd : 1 ≤ (d + 1)) (hw : OM S P) : ∀ (n : Nat) (l1 : Int32) (l2 : Int32) (I : FI) (J : FJ), Mod_image_18 N n l1 l2 I J = some r → Go (d + 1) M_Mod_image 18 [some (.ref 204), some (.int l1), some (.int l2)] [] (c, S, I, J, P) (some (.int (b2i r.1)), false, (c, S, r.2.1, r.2.2, P)) := by
  intro n
  induction n with
  | zero =>
    intro l1 l2 I J h
    cases h
  | succ n ih =>
    intro l1 l2 I J h
    unfold Mod_image_18 at h
    refine g_iload_n cd295_18 rfl rfl ?_
    refine g_sipush cd295_19 rfl ?_
    refine g_icmp_ge cd295_22 rfl (fun hb => ?_) (fun hb => ?_)
    · have h := ifpE hb h
      refine g_iconst cd295_49 rfl ?_
      refine g_istore_n (ls2 := [some (.ref 204), some (.int l1), some (.int 0)]) cd295_50 rfl rfl ?_
      exact t_Mod_image_51 hd hw _ l1 0 I J h
    · have h := ifnE hb h
      refine g_aload_n cd295_25 rfl rfl ?_
      refine g_getP cd295_26 rfl (OM.o hw) (OM.p16 hw) ?_
      refine g_sipush cd295_29 rfl ?_
      refine g_iload_n cd295_32 rfl rfl ?_
      refine g_imul cd295_33 rfl ?_
      refine g_iload_n cd295_34 rfl rfl ?_
      refine g_iadd cd295_35 rfl ?_
      refine g_aload_n cd295_36 rfl rfl ?_
      refine g_getP cd295_37 rfl (OM.o hw) (OM.p14 hw) ?_
      refine g_iload_n cd295_40 rfl rfl ?_
      obtain ⟨hg7, h⟩ := grd h
      refine G_iald cd295_41 rfl (OM.s14 hw) hg7 ?_
      obtain ⟨hg8, h⟩ := grd h
      obtain ⟨I9, e1, h⟩ := bnd h
      refine G_iast cd295_42 rfl (OM.s16 hw) hg8 (Option.some.inj e1) ?_
      refine g_iinc (ls2 := [some (.ref 204), some (.int l1), some (.int (l2 + 1))]) cd295_43 rfl rfl rfl ?_
      refine g_goto (ls2 := [some (.ref 204), some (.int l1), some (.int (l2 + 1))]) cd295_46 rfl rfl ?_
      exact ih l1 (l2 + 1) I9 J h
set_option maxRecDepth 8000 in
theorem t_Mod_image {d : Nat} {N : Nat} {c : Nat × Nat} {S : Nat → Nat × Nat} {P : Nat → Nat → Option Nat} {I : FI} {J : FJ} {l1 : Int32} {r : Bool × FI × FJ} (hd : 1 ≤ d) (hw : OM S P) (h : Mod_image N l1 I J = some r) : Go d M_Mod_image 0 [some (.ref 204), some (.int l1), none] [] (c, S, I, J, P) (some (.int (b2i r.1)), false, (c, S, r.2.1, r.2.2, P)) := by
  obtain ⟨d, rfl⟩ : ∃ e, d = e + 1 := ⟨d - 1, by omega⟩
  unfold Mod_image at h
  refine g_aload_n cd295_0 rfl rfl ?_
  refine g_iconst cd295_1 rfl ?_
  obtain ⟨I1, e1, h⟩ := bnd h
  refine G_putI cd295_2 rfl (OM.o hw) (Option.some.inj e1) ?_
  refine g_iload_n cd295_5 rfl rfl ?_
  refine g_iconst cd295_6 rfl ?_
  refine g_iconst cd295_7 rfl ?_
  refine g_callSZ (L := [some (.int l1), some (.int 0), some (.int 1)]) cd295_8 rfl rfl rfl rfl rfl (t_Mod_isIn (by omega)  rfl) ?_
  refine g_if_ne cd295_11 rfl (fun hb => ?_) (fun hb => ?_)
  · have h := ifnE (b2i_f hb) h
    refine g_iconst cd295_14 rfl ?_
    exact g_iret cd295_15 (Or.inr ⟨rfl, Or.inl rfl⟩) (by obtain rfl := Option.some.inj h; rfl)
  · have h := ifpE (b2i_t hb) h
    refine g_iconst cd295_16 rfl ?_
    refine g_istore_n (ls2 := [some (.ref 204), some (.int l1), some (.int 0)]) cd295_17 rfl rfl ?_
    exact t_Mod_image_18 hd hw _ l1 0 I1 J h
/-! HiddenOrLostModel.restore(I)Z -/
theorem cd296_0 : code9 296 0 = some (0, .aload_n 0, [1], .null, []) := rfl
theorem cd296_1 : code9 296 1 = some (0, .iconst 0, [1], .int 0, []) := rfl
theorem cd296_2 : code9 296 2 = some (0, .putfield 1, [3, 12, 0, 0], .null, []) := rfl
theorem cd296_5 : code9 296 5 = some (0, .iload_n 1, [1], .null, []) := rfl
theorem cd296_6 : code9 296 6 = some (0, .iconst 0, [1], .int 0, []) := rfl
theorem cd296_7 : code9 296 7 = some (0, .iconst 1, [1], .int 1, []) := rfl
theorem cd296_8 : code9 296 8 = some (0, .invokestatic 75, [3, 191, 3, 0, 3, 3, 12, 0], .null, []) := rfl
theorem cd296_11 : code9 296 11 = some (0, .ifCond .eq 12, [3, 23], .null, []) := rfl
theorem cd296_14 : code9 296 14 = some (0, .aload_n 0, [1], .null, []) := rfl
theorem cd296_15 : code9 296 15 = some (0, .getfield 123, [3, 12, 22, 2], .null, []) := rfl
theorem cd296_18 : code9 296 18 = some (0, .iload_n 1, [1], .null, []) := rfl
theorem cd296_19 : code9 296 19 = some (0, .baload, [1], .null, []) := rfl
theorem cd296_20 : code9 296 20 = some (0, .ifCond .ne 5, [3, 25], .null, []) := rfl
theorem cd296_23 : code9 296 23 = some (3, .iconst 0, [1], .int 0, []) := rfl
theorem cd296_24 : code9 296 24 = some (0, .ireturn, [1, 3], .null, []) := rfl
theorem cd296_25 : code9 296 25 = some (0, .iconst 0, [1], .int 0, []) := rfl
theorem cd296_26 : code9 296 26 = some (0, .istore_n 2, [1], .null, []) := rfl
theorem cd296_27 : code9 296 27 = some (4, .iload_n 2, [1], .null, []) := rfl
theorem cd296_28 : code9 296 28 = some (0, .sipush 451, [3], .int 451, []) := rfl
theorem cd296_31 : code9 296 31 = some (0, .if_icmp .ge 27, [3, 58], .null, []) := rfl
theorem cd296_34 : code9 296 34 = some (0, .aload_n 0, [1], .null, []) := rfl
theorem cd296_35 : code9 296 35 = some (0, .getfield 98, [3, 12, 14, 2], .null, []) := rfl
theorem cd296_38 : code9 296 38 = some (0, .iload_n 2, [1], .null, []) := rfl
theorem cd296_39 : code9 296 39 = some (0, .aload_n 0, [1], .null, []) := rfl
theorem cd296_40 : code9 296 40 = some (0, .getfield 104, [3, 12, 16, 2], .null, []) := rfl
theorem cd296_43 : code9 296 43 = some (0, .sipush 451, [3], .int 451, []) := rfl
theorem cd296_46 : code9 296 46 = some (0, .iload_n 1, [1], .null, []) := rfl
theorem cd296_47 : code9 296 47 = some (0, .imul, [1], .null, []) := rfl
theorem cd296_48 : code9 296 48 = some (0, .iload_n 2, [1], .null, []) := rfl
theorem cd296_49 : code9 296 49 = some (0, .iadd, [1], .null, []) := rfl
theorem cd296_50 : code9 296 50 = some (0, .iaload, [1], .null, []) := rfl
theorem cd296_51 : code9 296 51 = some (0, .iastore, [1], .null, []) := rfl
theorem cd296_52 : code9 296 52 = some (0, .iinc 2 1, [3], .int 1, []) := rfl
theorem cd296_55 : code9 296 55 = some (0, .goto (-28), [3, 27, 3], .null, []) := rfl
theorem cd296_58 : code9 296 58 = some (0, .iconst 0, [1], .int 0, []) := rfl
theorem cd296_59 : code9 296 59 = some (0, .istore_n 2, [1], .null, []) := rfl
theorem cd296_60 : code9 296 60 = some (4, .iload_n 2, [1], .null, []) := rfl
theorem cd296_61 : code9 296 61 = some (0, .bipush 22, [2], .int 22, []) := rfl
theorem cd296_63 : code9 296 63 = some (0, .if_icmp .ge 26, [3, 89], .null, []) := rfl
theorem cd296_66 : code9 296 66 = some (0, .aload_n 0, [1], .null, []) := rfl
theorem cd296_67 : code9 296 67 = some (0, .getfield 113, [3, 12, 19, 2], .null, []) := rfl
theorem cd296_70 : code9 296 70 = some (0, .iload_n 2, [1], .null, []) := rfl
theorem cd296_71 : code9 296 71 = some (0, .aload_n 0, [1], .null, []) := rfl
theorem cd296_72 : code9 296 72 = some (0, .getfield 120, [3, 12, 21, 2], .null, []) := rfl
theorem cd296_75 : code9 296 75 = some (0, .bipush 22, [2], .int 22, []) := rfl
theorem cd296_77 : code9 296 77 = some (0, .iload_n 1, [1], .null, []) := rfl
theorem cd296_78 : code9 296 78 = some (0, .imul, [1], .null, []) := rfl
theorem cd296_79 : code9 296 79 = some (0, .iload_n 2, [1], .null, []) := rfl
theorem cd296_80 : code9 296 80 = some (0, .iadd, [1], .null, []) := rfl
theorem cd296_81 : code9 296 81 = some (0, .laload, [1], .null, []) := rfl
theorem cd296_82 : code9 296 82 = some (0, .lastore, [1], .null, []) := rfl
theorem cd296_83 : code9 296 83 = some (0, .iinc 2 1, [3], .int 1, []) := rfl
theorem cd296_86 : code9 296 86 = some (0, .goto (-26), [3, 60, 3], .null, []) := rfl
theorem cd296_89 : code9 296 89 = some (0, .aload_n 0, [1], .null, []) := rfl
theorem cd296_90 : code9 296 90 = some (0, .iconst 0, [1], .int 0, []) := rfl
theorem cd296_91 : code9 296 91 = some (0, .putfield 233, [3, 12, 24, 0], .null, []) := rfl
theorem cd296_94 : code9 296 94 = some (0, .iconst 1, [1], .int 1, []) := rfl
theorem cd296_95 : code9 296 95 = some (0, .ireturn, [1, 3], .null, []) := rfl
def Mod_restore_60 (N : Nat) : Nat → Int32 → Int32 → FI → FJ → Option (Bool × FI × FJ)
  | 0 => fun _ _ _ _ => none
  | n + 1 => fun l1 l2 I J => if 22 ≤ l2 then (Option.bind (some (up2 I 204 24 (0 : Int32))) fun I3 => (some (true, I3, J))) else (if in9 ((22 * l1) + l2) 44 then (if in9 l2 22 then (Option.bind (some (up2 J 211 l2.toNatClampNeg (J 213 (((22 * l1) + l2).toNatClampNeg)))) fun J6 => (Mod_restore_60 N n l1 (l2 + 1) I J6)) else none) else none)
def Mod_restore_27 (N : Nat) : Nat → Int32 → Int32 → FI → FJ → Option (Bool × FI × FJ)
  | 0 => fun _ _ _ _ => none
  | n + 1 => fun l1 l2 I J => if 451 ≤ l2 then (Mod_restore_60 N N l1 0 I J) else (if in9 ((451 * l1) + l2) 902 then (if in9 l2 451 then (Option.bind (some (up2 I 206 l2.toNatClampNeg (I 208 (((451 * l1) + l2).toNatClampNeg)))) fun I9 => (Mod_restore_27 N n l1 (l2 + 1) I9 J)) else none) else none)
def Mod_restore (N : Nat) (l1 : Int32) (I : FI) (J : FJ) : Option (Bool × FI × FJ) := Option.bind (some (up2 I 204 0 (0 : Int32))) fun I1 => (if (Mod_isIn l1 0 1) then (if in9 l1 2 then (if (I1 214 l1.toNatClampNeg) = 0 then (some (false, I1, J)) else (Mod_restore_27 N N l1 0 I1 J)) else none) else (some (false, I1, J)))
set_option maxRecDepth 8000 in
theorem t_Mod_restore_60 {d : Nat} {N : Nat} {c : Nat × Nat} {S : Nat → Nat × Nat} {P : Nat → Nat → Option Nat} {r : Bool × FI × FJ} (hd : 1 ≤ (d + 1)) (hw : OM S P) : ∀ (n : Nat) (l1 : Int32) (l2 : Int32) (I : FI) (J : FJ), Mod_restore_60 N n l1 l2 I J = some r → Go (d + 1) M_Mod_restore 60 [some (.ref 204), some (.int l1), some (.int l2)] [] (c, S, I, J, P) (some (.int (b2i r.1)), false, (c, S, r.2.1, r.2.2, P)) := by
  intro n
  induction n with
  | zero =>
    intro l1 l2 I J h
    cases h
  | succ n ih =>
    intro l1 l2 I J h
    unfold Mod_restore_60 at h
    refine g_iload_n cd296_60 rfl rfl ?_
    refine g_bipush cd296_61 rfl ?_
    refine g_icmp_ge cd296_63 rfl (fun hb => ?_) (fun hb => ?_)
    · have h := ifpE hb h
      refine g_aload_n cd296_89 rfl rfl ?_
      refine g_iconst cd296_90 rfl ?_
      obtain ⟨I3, e1, h⟩ := bnd h
      refine G_putI cd296_91 rfl (OM.o hw) (Option.some.inj e1) ?_
      refine g_iconst cd296_94 rfl ?_
      exact g_iret cd296_95 (Or.inr ⟨rfl, Or.inr rfl⟩) (by obtain rfl := Option.some.inj h; rfl)
    · have h := ifnE hb h
      refine g_aload_n cd296_66 rfl rfl ?_
      refine g_getP cd296_67 rfl (OM.o hw) (OM.p19 hw) ?_
      refine g_iload_n cd296_70 rfl rfl ?_
      refine g_aload_n cd296_71 rfl rfl ?_
      refine g_getP cd296_72 rfl (OM.o hw) (OM.p21 hw) ?_
      refine g_bipush cd296_75 rfl ?_
      refine g_iload_n cd296_77 rfl rfl ?_
      refine g_imul cd296_78 rfl ?_
      refine g_iload_n cd296_79 rfl rfl ?_
      refine g_iadd cd296_80 rfl ?_
      obtain ⟨hg4, h⟩ := grd h
      refine G_lald cd296_81 rfl (OM.s21 hw) hg4 ?_
      obtain ⟨hg5, h⟩ := grd h
      obtain ⟨J6, e1, h⟩ := bnd h
      refine G_last cd296_82 rfl (OM.s19 hw) hg5 (Option.some.inj e1) ?_
      refine g_iinc (ls2 := [some (.ref 204), some (.int l1), some (.int (l2 + 1))]) cd296_83 rfl rfl rfl ?_
      refine g_goto (ls2 := [some (.ref 204), some (.int l1), some (.int (l2 + 1))]) cd296_86 rfl rfl ?_
      exact ih l1 (l2 + 1) I J6 h
set_option maxRecDepth 8000 in
theorem t_Mod_restore_27 {d : Nat} {N : Nat} {c : Nat × Nat} {S : Nat → Nat × Nat} {P : Nat → Nat → Option Nat} {r : Bool × FI × FJ} (hd : 1 ≤ (d + 1)) (hw : OM S P) : ∀ (n : Nat) (l1 : Int32) (l2 : Int32) (I : FI) (J : FJ), Mod_restore_27 N n l1 l2 I J = some r → Go (d + 1) M_Mod_restore 27 [some (.ref 204), some (.int l1), some (.int l2)] [] (c, S, I, J, P) (some (.int (b2i r.1)), false, (c, S, r.2.1, r.2.2, P)) := by
  intro n
  induction n with
  | zero =>
    intro l1 l2 I J h
    cases h
  | succ n ih =>
    intro l1 l2 I J h
    unfold Mod_restore_27 at h
    refine g_iload_n cd296_27 rfl rfl ?_
    refine g_sipush cd296_28 rfl ?_
    refine g_icmp_ge cd296_31 rfl (fun hb => ?_) (fun hb => ?_)
    · have h := ifpE hb h
      refine g_iconst cd296_58 rfl ?_
      refine g_istore_n (ls2 := [some (.ref 204), some (.int l1), some (.int 0)]) cd296_59 rfl rfl ?_
      exact t_Mod_restore_60 hd hw _ l1 0 I J h
    · have h := ifnE hb h
      refine g_aload_n cd296_34 rfl rfl ?_
      refine g_getP cd296_35 rfl (OM.o hw) (OM.p14 hw) ?_
      refine g_iload_n cd296_38 rfl rfl ?_
      refine g_aload_n cd296_39 rfl rfl ?_
      refine g_getP cd296_40 rfl (OM.o hw) (OM.p16 hw) ?_
      refine g_sipush cd296_43 rfl ?_
      refine g_iload_n cd296_46 rfl rfl ?_
      refine g_imul cd296_47 rfl ?_
      refine g_iload_n cd296_48 rfl rfl ?_
      refine g_iadd cd296_49 rfl ?_
      obtain ⟨hg7, h⟩ := grd h
      refine G_iald cd296_50 rfl (OM.s16 hw) hg7 ?_
      obtain ⟨hg8, h⟩ := grd h
      obtain ⟨I9, e1, h⟩ := bnd h
      refine G_iast cd296_51 rfl (OM.s14 hw) hg8 (Option.some.inj e1) ?_
      refine g_iinc (ls2 := [some (.ref 204), some (.int l1), some (.int (l2 + 1))]) cd296_52 rfl rfl rfl ?_
      refine g_goto (ls2 := [some (.ref 204), some (.int l1), some (.int (l2 + 1))]) cd296_55 rfl rfl ?_
      exact ih l1 (l2 + 1) I9 J h
set_option maxRecDepth 8000 in
theorem t_Mod_restore {d : Nat} {N : Nat} {c : Nat × Nat} {S : Nat → Nat × Nat} {P : Nat → Nat → Option Nat} {I : FI} {J : FJ} {l1 : Int32} {r : Bool × FI × FJ} (hd : 1 ≤ d) (hw : OM S P) (h : Mod_restore N l1 I J = some r) : Go d M_Mod_restore 0 [some (.ref 204), some (.int l1), none] [] (c, S, I, J, P) (some (.int (b2i r.1)), false, (c, S, r.2.1, r.2.2, P)) := by
  obtain ⟨d, rfl⟩ : ∃ e, d = e + 1 := ⟨d - 1, by omega⟩
  unfold Mod_restore at h
  refine g_aload_n cd296_0 rfl rfl ?_
  refine g_iconst cd296_1 rfl ?_
  obtain ⟨I1, e1, h⟩ := bnd h
  refine G_putI cd296_2 rfl (OM.o hw) (Option.some.inj e1) ?_
  refine g_iload_n cd296_5 rfl rfl ?_
  refine g_iconst cd296_6 rfl ?_
  refine g_iconst cd296_7 rfl ?_
  refine g_callSZ (L := [some (.int l1), some (.int 0), some (.int 1)]) cd296_8 rfl rfl rfl rfl rfl (t_Mod_isIn (by omega)  rfl) ?_
  refine g_if_eq cd296_11 rfl (fun hb => ?_) (fun hb => ?_)
  · have h := ifnE (b2i_f hb) h
    refine g_iconst cd296_23 rfl ?_
    exact g_iret cd296_24 (Or.inr ⟨rfl, Or.inl rfl⟩) (by obtain rfl := Option.some.inj h; rfl)
  · have h := ifpE (b2i_t hb) h
    refine g_aload_n cd296_14 rfl rfl ?_
    refine g_getP cd296_15 rfl (OM.o hw) (OM.p22 hw) ?_
    refine g_iload_n cd296_18 rfl rfl ?_
    obtain ⟨hg2, h⟩ := grd h
    refine G_zald cd296_19 rfl (OM.s22 hw) hg2 ?_
    refine g_if_ne cd296_20 rfl (fun hb => ?_) (fun hb => ?_)
    · have h := ifpE hb h
      refine g_iconst cd296_23 rfl ?_
      exact g_iret cd296_24 (Or.inr ⟨rfl, Or.inl rfl⟩) (by obtain rfl := Option.some.inj h; rfl)
    · have h := ifnE hb h
      refine g_iconst cd296_25 rfl ?_
      refine g_istore_n (ls2 := [some (.ref 204), some (.int l1), some (.int 0)]) cd296_26 rfl rfl ?_
      exact t_Mod_restore_27 hd hw _ l1 0 I1 J h
/-! HiddenOrLostModel.count(I)I -/
theorem cd297_0 : code9 297 0 = some (0, .aload_n 0, [1], .null, []) := rfl
theorem cd297_1 : code9 297 1 = some (0, .iconst 0, [1], .int 0, []) := rfl
theorem cd297_2 : code9 297 2 = some (0, .putfield 1, [3, 12, 0, 0], .null, []) := rfl
theorem cd297_5 : code9 297 5 = some (0, .iload_n 1, [1], .null, []) := rfl
theorem cd297_6 : code9 297 6 = some (0, .tableswitch 89 0 6 #[42, 49, 56, 63, 70, 77, 84], [42, 95], .null, [(0, 48), (1, 55), (2, 62), (3, 69), (4, 76), (5, 83), (6, 90)]) := rfl
theorem cd297_48 : code9 297 48 = some (0, .aload_n 0, [1], .null, []) := rfl
theorem cd297_49 : code9 297 49 = some (0, .getfield 98, [3, 12, 14, 2], .null, []) := rfl
theorem cd297_52 : code9 297 52 = some (0, .iconst 0, [1], .int 0, []) := rfl
theorem cd297_53 : code9 297 53 = some (0, .iaload, [1], .null, []) := rfl
theorem cd297_54 : code9 297 54 = some (0, .ireturn, [1, 1], .null, []) := rfl
theorem cd297_55 : code9 297 55 = some (0, .aload_n 0, [1], .null, []) := rfl
theorem cd297_56 : code9 297 56 = some (0, .getfield 98, [3, 12, 14, 2], .null, []) := rfl
theorem cd297_59 : code9 297 59 = some (0, .iconst 1, [1], .int 1, []) := rfl
theorem cd297_60 : code9 297 60 = some (0, .iaload, [1], .null, []) := rfl
theorem cd297_61 : code9 297 61 = some (0, .ireturn, [1, 1], .null, []) := rfl
theorem cd297_62 : code9 297 62 = some (0, .aload_n 0, [1], .null, []) := rfl
theorem cd297_63 : code9 297 63 = some (0, .getfield 98, [3, 12, 14, 2], .null, []) := rfl
theorem cd297_66 : code9 297 66 = some (0, .iconst 2, [1], .int 2, []) := rfl
theorem cd297_67 : code9 297 67 = some (0, .iaload, [1], .null, []) := rfl
theorem cd297_68 : code9 297 68 = some (0, .ireturn, [1, 1], .null, []) := rfl
theorem cd297_69 : code9 297 69 = some (0, .aload_n 0, [1], .null, []) := rfl
theorem cd297_70 : code9 297 70 = some (0, .getfield 98, [3, 12, 14, 2], .null, []) := rfl
theorem cd297_73 : code9 297 73 = some (0, .iconst 3, [1], .int 3, []) := rfl
theorem cd297_74 : code9 297 74 = some (0, .iaload, [1], .null, []) := rfl
theorem cd297_75 : code9 297 75 = some (0, .ireturn, [1, 1], .null, []) := rfl
theorem cd297_76 : code9 297 76 = some (0, .aload_n 0, [1], .null, []) := rfl
theorem cd297_77 : code9 297 77 = some (0, .getfield 98, [3, 12, 14, 2], .null, []) := rfl
theorem cd297_80 : code9 297 80 = some (0, .iconst 4, [1], .int 4, []) := rfl
theorem cd297_81 : code9 297 81 = some (0, .iaload, [1], .null, []) := rfl
theorem cd297_82 : code9 297 82 = some (0, .ireturn, [1, 1], .null, []) := rfl
theorem cd297_83 : code9 297 83 = some (0, .aload_n 0, [1], .null, []) := rfl
theorem cd297_84 : code9 297 84 = some (0, .getfield 98, [3, 12, 14, 2], .null, []) := rfl
theorem cd297_87 : code9 297 87 = some (0, .iconst 5, [1], .int 5, []) := rfl
theorem cd297_88 : code9 297 88 = some (0, .iaload, [1], .null, []) := rfl
theorem cd297_89 : code9 297 89 = some (0, .ireturn, [1, 1], .null, []) := rfl
theorem cd297_90 : code9 297 90 = some (0, .aload_n 0, [1], .null, []) := rfl
theorem cd297_91 : code9 297 91 = some (0, .getfield 11, [3, 12, 2, 0], .null, []) := rfl
theorem cd297_94 : code9 297 94 = some (0, .ireturn, [1, 1], .null, []) := rfl
theorem cd297_95 : code9 297 95 = some (0, .iconst (-1), [1], .int (-1), []) := rfl
theorem cd297_96 : code9 297 96 = some (0, .ireturn, [1, 1], .null, []) := rfl
def Mod_count (l1 : Int32) (I : FI) : Option (Int32 × FI) := Option.bind (some (up2 I 204 0 (0 : Int32))) fun I1 => (if l1 = 0 then (some (I1 206 ((0 : Int32).toNatClampNeg), I1)) else (if l1 = 1 then (some (I1 206 ((1 : Int32).toNatClampNeg), I1)) else (if l1 = 2 then (some (I1 206 ((2 : Int32).toNatClampNeg), I1)) else (if l1 = 3 then (some (I1 206 ((3 : Int32).toNatClampNeg), I1)) else (if l1 = 4 then (some (I1 206 ((4 : Int32).toNatClampNeg), I1)) else (if l1 = 5 then (some (I1 206 ((5 : Int32).toNatClampNeg), I1)) else (if l1 = 6 then (some (I1 204 2, I1)) else (some ((-1), I1)))))))))
set_option maxRecDepth 8000 in
theorem t_Mod_count {d : Nat} {c : Nat × Nat} {S : Nat → Nat × Nat} {P : Nat → Nat → Option Nat} {I : FI} {J : FJ} {l1 : Int32} {r : Int32 × FI} (hd : 0 ≤ d) (hw : OM S P) (h : Mod_count l1 I = some r) : Go d M_Mod_count 0 [some (.ref 204), some (.int l1)] [] (c, S, I, J, P) (some (.int r.1), false, (c, S, r.2, J, P)) := by
  unfold Mod_count at h
  refine g_aload_n cd297_0 rfl rfl ?_
  refine g_iconst cd297_1 rfl ?_
  obtain ⟨I1, e1, h⟩ := bnd h
  refine G_putI cd297_2 rfl (OM.o hw) (Option.some.inj e1) ?_
  refine g_iload_n cd297_5 rfl rfl ?_
  refine g_tableswitch cd297_6 rfl ?_
  refine ifi (fun hb => ?_) (fun hb => ?_)
  · have h := ifpE hb h
    show Go _ _ 48 [some (.ref 204), some (.int l1)] [] _ _
    refine g_aload_n cd297_48 rfl rfl ?_
    refine g_getP cd297_49 rfl (OM.o hw) (OM.p14 hw) ?_
    refine g_iconst cd297_52 rfl ?_
    refine G_iald cd297_53 rfl (OM.s14 hw) (by decide) ?_
    exact g_iret cd297_54 (Or.inl rfl) (by obtain rfl := Option.some.inj h; rfl)
  have h := ifnE hb h
  refine ifi (fun hb => ?_) (fun hb => ?_)
  · have h := ifpE hb h
    show Go _ _ 55 [some (.ref 204), some (.int l1)] [] _ _
    refine g_aload_n cd297_55 rfl rfl ?_
    refine g_getP cd297_56 rfl (OM.o hw) (OM.p14 hw) ?_
    refine g_iconst cd297_59 rfl ?_
    refine G_iald cd297_60 rfl (OM.s14 hw) (by decide) ?_
    exact g_iret cd297_61 (Or.inl rfl) (by obtain rfl := Option.some.inj h; rfl)
  have h := ifnE hb h
  refine ifi (fun hb => ?_) (fun hb => ?_)
  · have h := ifpE hb h
    show Go _ _ 62 [some (.ref 204), some (.int l1)] [] _ _
    refine g_aload_n cd297_62 rfl rfl ?_
    refine g_getP cd297_63 rfl (OM.o hw) (OM.p14 hw) ?_
    refine g_iconst cd297_66 rfl ?_
    refine G_iald cd297_67 rfl (OM.s14 hw) (by decide) ?_
    exact g_iret cd297_68 (Or.inl rfl) (by obtain rfl := Option.some.inj h; rfl)
  have h := ifnE hb h
  refine ifi (fun hb => ?_) (fun hb => ?_)
  · have h := ifpE hb h
    show Go _ _ 69 [some (.ref 204), some (.int l1)] [] _ _
    refine g_aload_n cd297_69 rfl rfl ?_
    refine g_getP cd297_70 rfl (OM.o hw) (OM.p14 hw) ?_
    refine g_iconst cd297_73 rfl ?_
    refine G_iald cd297_74 rfl (OM.s14 hw) (by decide) ?_
    exact g_iret cd297_75 (Or.inl rfl) (by obtain rfl := Option.some.inj h; rfl)
  have h := ifnE hb h
  refine ifi (fun hb => ?_) (fun hb => ?_)
  · have h := ifpE hb h
    show Go _ _ 76 [some (.ref 204), some (.int l1)] [] _ _
    refine g_aload_n cd297_76 rfl rfl ?_
    refine g_getP cd297_77 rfl (OM.o hw) (OM.p14 hw) ?_
    refine g_iconst cd297_80 rfl ?_
    refine G_iald cd297_81 rfl (OM.s14 hw) (by decide) ?_
    exact g_iret cd297_82 (Or.inl rfl) (by obtain rfl := Option.some.inj h; rfl)
  have h := ifnE hb h
  refine ifi (fun hb => ?_) (fun hb => ?_)
  · have h := ifpE hb h
    show Go _ _ 83 [some (.ref 204), some (.int l1)] [] _ _
    refine g_aload_n cd297_83 rfl rfl ?_
    refine g_getP cd297_84 rfl (OM.o hw) (OM.p14 hw) ?_
    refine g_iconst cd297_87 rfl ?_
    refine G_iald cd297_88 rfl (OM.s14 hw) (by decide) ?_
    exact g_iret cd297_89 (Or.inl rfl) (by obtain rfl := Option.some.inj h; rfl)
  have h := ifnE hb h
  refine ifi (fun hb => ?_) (fun hb => ?_)
  · have h := ifpE hb h
    show Go _ _ 90 [some (.ref 204), some (.int l1)] [] _ _
    refine g_aload_n cd297_90 rfl rfl ?_
    refine g_getI cd297_91 rfl (OM.o hw) ?_
    exact g_iret cd297_94 (Or.inl rfl) (by obtain rfl := Option.some.inj h; rfl)
  have h := ifnE hb h
  show Go _ _ 95 [some (.ref 204), some (.int l1)] [] _ _
  refine g_iconst cd297_95 rfl ?_
  exact g_iret cd297_96 (Or.inl rfl) (by obtain rfl := Option.some.inj h; rfl)

/-! HiddenOrLostModel.dig(III)I -/
theorem cd222_0 : code9 222 0 = some (0, .aload_n 0, [1], .null, []) := rfl
theorem cd222_1 : code9 222 1 = some (0, .iconst 0, [1], .int 0, []) := rfl
theorem cd222_2 : code9 222 2 = some (0, .putfield 1, [3, 12, 0, 0], .null, []) := rfl
theorem cd222_5 : code9 222 5 = some (0, .aload_n 0, [1], .null, []) := rfl
theorem cd222_6 : code9 222 6 = some (0, .iload_n 1, [1], .null, []) := rfl
theorem cd222_7 : code9 222 7 = some (0, .invokevirtual 248, [3, 212, 2, 1, 3, 2, 12, 0], .null, []) := rfl
theorem cd222_10 : code9 222 10 = some (0, .ifCond .eq 12, [3, 22], .null, []) := rfl
theorem cd222_13 : code9 222 13 = some (0, .aload_n 0, [1], .null, []) := rfl
theorem cd222_14 : code9 222 14 = some (0, .iload_n 2, [1], .null, []) := rfl
theorem cd222_15 : code9 222 15 = some (0, .iload_n 3, [1], .null, []) := rfl
theorem cd222_16 : code9 222 16 = some (0, .invokevirtual 251, [3, 214, 3, 1, 3, 3, 12, 0], .null, []) := rfl
theorem cd222_19 : code9 222 19 = some (0, .ifCond .ne 5, [3, 24], .null, []) := rfl
theorem cd222_22 : code9 222 22 = some (5, .iconst (-1), [1], .int (-1), []) := rfl
theorem cd222_23 : code9 222 23 = some (0, .ireturn, [1, 1], .null, []) := rfl
theorem cd222_24 : code9 222 24 = some (0, .aload_n 0, [1], .null, []) := rfl
theorem cd222_25 : code9 222 25 = some (0, .iload_n 2, [1], .null, []) := rfl
theorem cd222_26 : code9 222 26 = some (0, .iload_n 3, [1], .null, []) := rfl
theorem cd222_27 : code9 222 27 = some (0, .invokevirtual 274, [3, 223, 3, 1, 3, 3, 12, 0], .null, []) := rfl
theorem cd222_30 : code9 222 30 = some (0, .ifCond .ne 6, [3, 36], .null, []) := rfl
theorem cd222_33 : code9 222 33 = some (0, .bipush (-2), [2], .int (-2), []) := rfl
theorem cd222_35 : code9 222 35 = some (0, .ireturn, [1, 1], .null, []) := rfl
theorem cd222_36 : code9 222 36 = some (0, .aload_n 0, [1], .null, []) := rfl
theorem cd222_37 : code9 222 37 = some (0, .invokevirtual 277, [3, 224, 1, 1, 0, 2, 12, 0], .null, []) := rfl
theorem cd222_40 : code9 222 40 = some (0, .aload_n 0, [1], .null, []) := rfl
theorem cd222_41 : code9 222 41 = some (0, .iload_n 1, [1], .null, []) := rfl
theorem cd222_42 : code9 222 42 = some (0, .iload_n 2, [1], .null, []) := rfl
theorem cd222_43 : code9 222 43 = some (0, .iload_n 3, [1], .null, []) := rfl
theorem cd222_44 : code9 222 44 = some (0, .invokevirtual 280, [3, 225, 4, 1, 1, 7, 12, 0], .null, []) := rfl
theorem cd222_47 : code9 222 47 = some (0, .ireturn, [1, 1], .null, []) := rfl
def Mod_dig (N : Nat) (l1 : Int32) (l2 : Int32) (l3 : Int32) (I : FI) : Option (Int32 × FI) := Option.bind (some (up2 I 204 0 (0 : Int32))) fun I1 => (Option.bind (Mod_isPerson l1 I1) fun x2 => (if x2 then (Option.bind (Mod_isCell l2 l3 I1) fun x3 => (if x3 then (Option.bind (Mod_canDig l2 l3 I1) fun x4 => (if x4 then (Option.bind (Mod_snap N I1) fun x5 => (Option.bind (Mod_doDig N l1 l2 l3 x5) fun x6 => (some (x6.1, x6.2)))) else (some ((-2), I1)))) else (some ((-1), I1)))) else (some ((-1), I1))))
set_option maxRecDepth 8000 in
theorem t_Mod_dig {d : Nat} {N : Nat} {c : Nat × Nat} {S : Nat → Nat × Nat} {P : Nat → Nat → Option Nat} {I : FI} {J : FJ} {l1 : Int32} {l2 : Int32} {l3 : Int32} {r : Int32 × FI} (hd : 2 ≤ d) (hw : OM S P) (h : Mod_dig N l1 l2 l3 I = some r) : Go d M_Mod_dig 0 [some (.ref 204), some (.int l1), some (.int l2), some (.int l3)] [] (c, S, I, J, P) (some (.int r.1), false, (c, S, r.2, J, P)) := by
  obtain ⟨d, rfl⟩ : ∃ e, d = e + 1 := ⟨d - 1, by omega⟩
  unfold Mod_dig at h
  refine g_aload_n cd222_0 rfl rfl ?_
  refine g_iconst cd222_1 rfl ?_
  obtain ⟨I1, e1, h⟩ := bnd h
  refine G_putI cd222_2 rfl (OM.o hw) (Option.some.inj e1) ?_
  refine g_aload_n cd222_5 rfl rfl ?_
  refine g_iload_n cd222_6 rfl rfl ?_
  obtain ⟨x2, hx, h⟩ := bnd h
  refine g_callVZ (L := [some (.ref 204), some (.int l1)]) cd222_7 rfl rfl rfl rfl rfl (OM.o hw) (t_Mod_isPerson (by omega) hw hx) ?_
  refine g_if_eq cd222_10 rfl (fun hb => ?_) (fun hb => ?_)
  · have h := ifnE (b2i_f hb) h
    refine g_iconst cd222_22 rfl ?_
    exact g_iret cd222_23 (Or.inl rfl) (by obtain rfl := Option.some.inj h; rfl)
  · have h := ifpE (b2i_t hb) h
    refine g_aload_n cd222_13 rfl rfl ?_
    refine g_iload_n cd222_14 rfl rfl ?_
    refine g_iload_n cd222_15 rfl rfl ?_
    obtain ⟨x3, hx, h⟩ := bnd h
    refine g_callVZ (L := [some (.ref 204), some (.int l2), some (.int l3)]) cd222_16 rfl rfl rfl rfl rfl (OM.o hw) (t_Mod_isCell (by omega) hw hx) ?_
    refine g_if_ne cd222_19 rfl (fun hb => ?_) (fun hb => ?_)
    · have h := ifnE (b2i_f hb) h
      refine g_iconst cd222_22 rfl ?_
      exact g_iret cd222_23 (Or.inl rfl) (by obtain rfl := Option.some.inj h; rfl)
    · have h := ifpE (b2i_t hb) h
      refine g_aload_n cd222_24 rfl rfl ?_
      refine g_iload_n cd222_25 rfl rfl ?_
      refine g_iload_n cd222_26 rfl rfl ?_
      obtain ⟨x4, hx, h⟩ := bnd h
      refine g_callVZ (L := [some (.ref 204), some (.int l2), some (.int l3)]) cd222_27 rfl rfl rfl rfl rfl (OM.o hw) (t_Mod_canDig (by omega) hw hx) ?_
      refine g_if_ne cd222_30 rfl (fun hb => ?_) (fun hb => ?_)
      · have h := ifnE (b2i_f hb) h
        refine g_bipush cd222_33 rfl ?_
        exact g_iret cd222_35 (Or.inl rfl) (by obtain rfl := Option.some.inj h; rfl)
      · have h := ifpE (b2i_t hb) h
        refine g_aload_n cd222_36 rfl rfl ?_
        obtain ⟨x5, hx, h⟩ := bnd h
        refine g_callVV (L := [some (.ref 204), none]) cd222_37 rfl rfl rfl rfl rfl (OM.o hw) (t_Mod_snap (by omega) hw hx) ?_
        refine g_aload_n cd222_40 rfl rfl ?_
        refine g_iload_n cd222_41 rfl rfl ?_
        refine g_iload_n cd222_42 rfl rfl ?_
        refine g_iload_n cd222_43 rfl rfl ?_
        obtain ⟨x6, hx, h⟩ := bnd h
        refine g_callVI (L := [some (.ref 204), some (.int l1), some (.int l2), some (.int l3), none, none, none]) cd222_44 rfl rfl rfl rfl rfl (OM.o hw) (t_Mod_doDig (by omega) hw hx) ?_
        exact g_iret cd222_47 (Or.inl rfl) (by obtain rfl := Option.some.inj h; rfl)
/-! HiddenOrLostModel.isHad(I)Z -/
theorem cd227_0 : code9 227 0 = some (0, .aload_n 0, [1], .null, []) := rfl
theorem cd227_1 : code9 227 1 = some (0, .getfield 98, [3, 12, 14, 2], .null, []) := rfl
theorem cd227_4 : code9 227 4 = some (0, .sipush 135, [3], .int 135, []) := rfl
theorem cd227_7 : code9 227 7 = some (0, .iload_n 1, [1], .null, []) := rfl
theorem cd227_8 : code9 227 8 = some (0, .iadd, [1], .null, []) := rfl
theorem cd227_9 : code9 227 9 = some (0, .iaload, [1], .null, []) := rfl
theorem cd227_10 : code9 227 10 = some (0, .iconst 1, [1], .int 1, []) := rfl
theorem cd227_11 : code9 227 11 = some (0, .if_icmp .ne 7, [3, 18], .null, []) := rfl
theorem cd227_14 : code9 227 14 = some (0, .iconst 1, [1], .int 1, []) := rfl
theorem cd227_15 : code9 227 15 = some (0, .goto 4, [3, 19, 2], .null, []) := rfl
theorem cd227_18 : code9 227 18 = some (0, .iconst 0, [1], .int 0, []) := rfl
theorem cd227_19 : code9 227 19 = some (3, .ireturn, [1, 3], .null, []) := rfl
def Mod_isHad (l1 : Int32) (I : FI) : Option (Bool) := if in9 (135 + l1) 451 then (if (I 206 ((135 + l1).toNatClampNeg)) = 1 then (some true) else (some false)) else none
set_option maxRecDepth 8000 in
theorem t_Mod_isHad {d : Nat} {c : Nat × Nat} {S : Nat → Nat × Nat} {P : Nat → Nat → Option Nat} {I : FI} {J : FJ} {l1 : Int32} {r : Bool} (hd : 0 ≤ d) (hw : OM S P) (h : Mod_isHad l1 I = some r) : Go d M_Mod_isHad 0 [some (.ref 204), some (.int l1)] [] (c, S, I, J, P) (some (.int (b2i r)), false, (c, S, I, J, P)) := by
  unfold Mod_isHad at h
  refine g_aload_n cd227_0 rfl rfl ?_
  refine g_getP cd227_1 rfl (OM.o hw) (OM.p14 hw) ?_
  refine g_sipush cd227_4 rfl ?_
  refine g_iload_n cd227_7 rfl rfl ?_
  refine g_iadd cd227_8 rfl ?_
  obtain ⟨hg1, h⟩ := grd h
  refine G_iald cd227_9 rfl (OM.s14 hw) hg1 ?_
  refine g_iconst cd227_10 rfl ?_
  refine g_icmp_ne cd227_11 rfl (fun hb => ?_) (fun hb => ?_)
  · have h := ifpE hb h
    refine g_iconst cd227_14 rfl ?_
    refine g_goto (ls2 := [some (.ref 204), some (.int l1)]) cd227_15 rfl rfl ?_
    exact g_iret cd227_19 (Or.inr ⟨rfl, Or.inr rfl⟩) (by obtain rfl := Option.some.inj h; rfl)
  · have h := ifnE hb h
    refine g_iconst cd227_18 rfl ?_
    exact g_iret cd227_19 (Or.inr ⟨rfl, Or.inl rfl⟩) (by obtain rfl := Option.some.inj h; rfl)
/-! HiddenOrLostModel.tell(I)I -/
theorem cd226_0 : code9 226 0 = some (0, .aload_n 0, [1], .null, []) := rfl
theorem cd226_1 : code9 226 1 = some (0, .iconst 0, [1], .int 0, []) := rfl
theorem cd226_2 : code9 226 2 = some (0, .putfield 1, [3, 12, 0, 0], .null, []) := rfl
theorem cd226_5 : code9 226 5 = some (0, .aload_n 0, [1], .null, []) := rfl
theorem cd226_6 : code9 226 6 = some (0, .iload_n 1, [1], .null, []) := rfl
theorem cd226_7 : code9 226 7 = some (0, .invokevirtual 242, [3, 209, 2, 1, 3, 2, 12, 0], .null, []) := rfl
theorem cd226_10 : code9 226 10 = some (0, .ifCond .ne 5, [3, 15], .null, []) := rfl
theorem cd226_13 : code9 226 13 = some (0, .iconst (-1), [1], .int (-1), []) := rfl
theorem cd226_14 : code9 226 14 = some (0, .ireturn, [1, 1], .null, []) := rfl
theorem cd226_15 : code9 226 15 = some (0, .aload_n 0, [1], .null, []) := rfl
theorem cd226_16 : code9 226 16 = some (0, .iload_n 1, [1], .null, []) := rfl
theorem cd226_17 : code9 226 17 = some (0, .invokevirtual 284, [3, 227, 2, 1, 3, 2, 12, 0], .null, []) := rfl
theorem cd226_20 : code9 226 20 = some (0, .ifCond .ne 5, [3, 25], .null, []) := rfl
theorem cd226_23 : code9 226 23 = some (0, .iconst 1, [1], .int 1, []) := rfl
theorem cd226_24 : code9 226 24 = some (0, .ireturn, [1, 1], .null, []) := rfl
theorem cd226_25 : code9 226 25 = some (0, .aload_n 0, [1], .null, []) := rfl
theorem cd226_26 : code9 226 26 = some (0, .invokevirtual 277, [3, 224, 1, 1, 0, 2, 12, 0], .null, []) := rfl
theorem cd226_29 : code9 226 29 = some (0, .aload_n 0, [1], .null, []) := rfl
theorem cd226_30 : code9 226 30 = some (0, .getfield 98, [3, 12, 14, 2], .null, []) := rfl
theorem cd226_33 : code9 226 33 = some (0, .sipush 135, [3], .int 135, []) := rfl
theorem cd226_36 : code9 226 36 = some (0, .iload_n 1, [1], .null, []) := rfl
theorem cd226_37 : code9 226 37 = some (0, .iadd, [1], .null, []) := rfl
theorem cd226_38 : code9 226 38 = some (0, .iconst 2, [1], .int 2, []) := rfl
theorem cd226_39 : code9 226 39 = some (0, .iastore, [1], .null, []) := rfl
theorem cd226_40 : code9 226 40 = some (0, .iconst 0, [1], .int 0, []) := rfl
theorem cd226_41 : code9 226 41 = some (0, .ireturn, [1, 1], .null, []) := rfl
def Mod_tell (N : Nat) (l1 : Int32) (I : FI) : Option (Int32 × FI) := Option.bind (some (up2 I 204 0 (0 : Int32))) fun I1 => (Option.bind (Mod_isFind l1 I1) fun x2 => (if x2 then (Option.bind (Mod_isHad l1 I1) fun x3 => (if x3 then (Option.bind (Mod_snap N I1) fun x4 => (if in9 (135 + l1) 451 then (Option.bind (some (up2 x4 206 ((135 + l1).toNatClampNeg) (2 : Int32))) fun I6 => (some (0, I6))) else none)) else (some (1, I1)))) else (some ((-1), I1))))
set_option maxRecDepth 8000 in
theorem t_Mod_tell {d : Nat} {N : Nat} {c : Nat × Nat} {S : Nat → Nat × Nat} {P : Nat → Nat → Option Nat} {I : FI} {J : FJ} {l1 : Int32} {r : Int32 × FI} (hd : 2 ≤ d) (hw : OM S P) (h : Mod_tell N l1 I = some r) : Go d M_Mod_tell 0 [some (.ref 204), some (.int l1)] [] (c, S, I, J, P) (some (.int r.1), false, (c, S, r.2, J, P)) := by
  obtain ⟨d, rfl⟩ : ∃ e, d = e + 1 := ⟨d - 1, by omega⟩
  unfold Mod_tell at h
  refine g_aload_n cd226_0 rfl rfl ?_
  refine g_iconst cd226_1 rfl ?_
  obtain ⟨I1, e1, h⟩ := bnd h
  refine G_putI cd226_2 rfl (OM.o hw) (Option.some.inj e1) ?_
  refine g_aload_n cd226_5 rfl rfl ?_
  refine g_iload_n cd226_6 rfl rfl ?_
  obtain ⟨x2, hx, h⟩ := bnd h
  refine g_callVZ (L := [some (.ref 204), some (.int l1)]) cd226_7 rfl rfl rfl rfl rfl (OM.o hw) (t_Mod_isFind (by omega) hw hx) ?_
  refine g_if_ne cd226_10 rfl (fun hb => ?_) (fun hb => ?_)
  · have h := ifnE (b2i_f hb) h
    refine g_iconst cd226_13 rfl ?_
    exact g_iret cd226_14 (Or.inl rfl) (by obtain rfl := Option.some.inj h; rfl)
  · have h := ifpE (b2i_t hb) h
    refine g_aload_n cd226_15 rfl rfl ?_
    refine g_iload_n cd226_16 rfl rfl ?_
    obtain ⟨x3, hx, h⟩ := bnd h
    refine g_callVZ (L := [some (.ref 204), some (.int l1)]) cd226_17 rfl rfl rfl rfl rfl (OM.o hw) (t_Mod_isHad (by omega) hw hx) ?_
    refine g_if_ne cd226_20 rfl (fun hb => ?_) (fun hb => ?_)
    · have h := ifnE (b2i_f hb) h
      refine g_iconst cd226_23 rfl ?_
      exact g_iret cd226_24 (Or.inl rfl) (by obtain rfl := Option.some.inj h; rfl)
    · have h := ifpE (b2i_t hb) h
      refine g_aload_n cd226_25 rfl rfl ?_
      obtain ⟨x4, hx, h⟩ := bnd h
      refine g_callVV (L := [some (.ref 204), none]) cd226_26 rfl rfl rfl rfl rfl (OM.o hw) (t_Mod_snap (by omega) hw hx) ?_
      refine g_aload_n cd226_29 rfl rfl ?_
      refine g_getP cd226_30 rfl (OM.o hw) (OM.p14 hw) ?_
      refine g_sipush cd226_33 rfl ?_
      refine g_iload_n cd226_36 rfl rfl ?_
      refine g_iadd cd226_37 rfl ?_
      refine g_iconst cd226_38 rfl ?_
      obtain ⟨hg5, h⟩ := grd h
      obtain ⟨I6, e1, h⟩ := bnd h
      refine G_iast cd226_39 rfl (OM.s14 hw) hg5 (Option.some.inj e1) ?_
      refine g_iconst cd226_40 rfl ?_
      exact g_iret cd226_41 (Or.inl rfl) (by obtain rfl := Option.some.inj h; rfl)
/-! HiddenOrLostModel.doSell(I)V -/
theorem cd229_0 : code9 229 0 = some (0, .aload_n 0, [1], .null, []) := rfl
theorem cd229_1 : code9 229 1 = some (0, .getfield 98, [3, 12, 14, 2], .null, []) := rfl
theorem cd229_4 : code9 229 4 = some (0, .sipush 155, [3], .int 155, []) := rfl
theorem cd229_7 : code9 229 7 = some (0, .aload_n 0, [1], .null, []) := rfl
theorem cd229_8 : code9 229 8 = some (0, .getfield 98, [3, 12, 14, 2], .null, []) := rfl
theorem cd229_11 : code9 229 11 = some (0, .sipush 145, [3], .int 145, []) := rfl
theorem cd229_14 : code9 229 14 = some (0, .iload_n 1, [1], .null, []) := rfl
theorem cd229_15 : code9 229 15 = some (0, .iadd, [1], .null, []) := rfl
theorem cd229_16 : code9 229 16 = some (0, .iaload, [1], .null, []) := rfl
theorem cd229_17 : code9 229 17 = some (0, .iadd, [1], .null, []) := rfl
theorem cd229_18 : code9 229 18 = some (0, .dup2, [1], .null, []) := rfl
theorem cd229_19 : code9 229 19 = some (0, .iaload, [1], .null, []) := rfl
theorem cd229_20 : code9 229 20 = some (0, .aload_n 0, [1], .null, []) := rfl
theorem cd229_21 : code9 229 21 = some (0, .getfield 98, [3, 12, 14, 2], .null, []) := rfl
theorem cd229_24 : code9 229 24 = some (0, .bipush 80, [2], .int 80, []) := rfl
theorem cd229_26 : code9 229 26 = some (0, .iload_n 1, [1], .null, []) := rfl
theorem cd229_27 : code9 229 27 = some (0, .iadd, [1], .null, []) := rfl
theorem cd229_28 : code9 229 28 = some (0, .iaload, [1], .null, []) := rfl
theorem cd229_29 : code9 229 29 = some (0, .iconst 2, [1], .int 2, []) := rfl
theorem cd229_30 : code9 229 30 = some (0, .idiv, [1], .null, []) := rfl
theorem cd229_31 : code9 229 31 = some (0, .iadd, [1], .null, []) := rfl
theorem cd229_32 : code9 229 32 = some (0, .iastore, [1], .null, []) := rfl
theorem cd229_33 : code9 229 33 = some (0, .aload_n 0, [1], .null, []) := rfl
theorem cd229_34 : code9 229 34 = some (0, .getfield 98, [3, 12, 14, 2], .null, []) := rfl
theorem cd229_37 : code9 229 37 = some (0, .sipush 135, [3], .int 135, []) := rfl
theorem cd229_40 : code9 229 40 = some (0, .iload_n 1, [1], .null, []) := rfl
theorem cd229_41 : code9 229 41 = some (0, .iadd, [1], .null, []) := rfl
theorem cd229_42 : code9 229 42 = some (0, .iconst 3, [1], .int 3, []) := rfl
theorem cd229_43 : code9 229 43 = some (0, .iastore, [1], .null, []) := rfl
theorem cd229_44 : code9 229 44 = some (0, .return_, [1], .null, []) := rfl
def Mod_doSell (l1 : Int32) (I : FI) : Option (FI) := if in9 (145 + l1) 451 then (if in9 (155 + (I 206 ((145 + l1).toNatClampNeg))) 451 then (if in9 (80 + l1) 451 then (Option.bind (some (up2 I 206 ((155 + (I 206 ((145 + l1).toNatClampNeg))).toNatClampNeg) ((I 206 ((155 + (I 206 ((145 + l1).toNatClampNeg))).toNatClampNeg)) + ((I 206 ((80 + l1).toNatClampNeg)) / 2)))) fun I4 => (if in9 (135 + l1) 451 then (Option.bind (some (up2 I4 206 ((135 + l1).toNatClampNeg) (3 : Int32))) fun I6 => (some I6)) else none)) else none) else none) else none
set_option maxRecDepth 8000 in
theorem t_Mod_doSell {d : Nat} {c : Nat × Nat} {S : Nat → Nat × Nat} {P : Nat → Nat → Option Nat} {I : FI} {J : FJ} {l1 : Int32} {r : FI} (hd : 0 ≤ d) (hw : OM S P) (h : Mod_doSell l1 I = some r) : Go d M_Mod_doSell 0 [some (.ref 204), some (.int l1)] [] (c, S, I, J, P) (none, false, (c, S, r, J, P)) := by
  unfold Mod_doSell at h
  refine g_aload_n cd229_0 rfl rfl ?_
  refine g_getP cd229_1 rfl (OM.o hw) (OM.p14 hw) ?_
  refine g_sipush cd229_4 rfl ?_
  refine g_aload_n cd229_7 rfl rfl ?_
  refine g_getP cd229_8 rfl (OM.o hw) (OM.p14 hw) ?_
  refine g_sipush cd229_11 rfl ?_
  refine g_iload_n cd229_14 rfl rfl ?_
  refine g_iadd cd229_15 rfl ?_
  obtain ⟨hg1, h⟩ := grd h
  refine G_iald cd229_16 rfl (OM.s14 hw) hg1 ?_
  refine g_iadd cd229_17 rfl ?_
  refine g_dup2R cd229_18 rfl ?_
  obtain ⟨hg2, h⟩ := grd h
  refine G_iald cd229_19 rfl (OM.s14 hw) hg2 ?_
  refine g_aload_n cd229_20 rfl rfl ?_
  refine g_getP cd229_21 rfl (OM.o hw) (OM.p14 hw) ?_
  refine g_bipush cd229_24 rfl ?_
  refine g_iload_n cd229_26 rfl rfl ?_
  refine g_iadd cd229_27 rfl ?_
  obtain ⟨hg3, h⟩ := grd h
  refine G_iald cd229_28 rfl (OM.s14 hw) hg3 ?_
  refine g_iconst cd229_29 rfl ?_
  refine g_idiv cd229_30 rfl (by decide) ?_
  refine g_iadd cd229_31 rfl ?_
  obtain ⟨I4, e1, h⟩ := bnd h
  refine G_iast cd229_32 rfl (OM.s14 hw) hg2 (Option.some.inj e1) ?_
  refine g_aload_n cd229_33 rfl rfl ?_
  refine g_getP cd229_34 rfl (OM.o hw) (OM.p14 hw) ?_
  refine g_sipush cd229_37 rfl ?_
  refine g_iload_n cd229_40 rfl rfl ?_
  refine g_iadd cd229_41 rfl ?_
  refine g_iconst cd229_42 rfl ?_
  obtain ⟨hg5, h⟩ := grd h
  obtain ⟨I6, e1, h⟩ := bnd h
  refine G_iast cd229_43 rfl (OM.s14 hw) hg5 (Option.some.inj e1) ?_
  exact g_vret cd229_44 (by obtain rfl := Option.some.inj h; rfl)
/-! HiddenOrLostModel.sell(I)I -/
theorem cd228_0 : code9 228 0 = some (0, .aload_n 0, [1], .null, []) := rfl
theorem cd228_1 : code9 228 1 = some (0, .iconst 0, [1], .int 0, []) := rfl
theorem cd228_2 : code9 228 2 = some (0, .putfield 1, [3, 12, 0, 0], .null, []) := rfl
theorem cd228_5 : code9 228 5 = some (0, .aload_n 0, [1], .null, []) := rfl
theorem cd228_6 : code9 228 6 = some (0, .iload_n 1, [1], .null, []) := rfl
theorem cd228_7 : code9 228 7 = some (0, .invokevirtual 242, [3, 209, 2, 1, 3, 2, 12, 0], .null, []) := rfl
theorem cd228_10 : code9 228 10 = some (0, .ifCond .ne 5, [3, 15], .null, []) := rfl
theorem cd228_13 : code9 228 13 = some (0, .iconst (-1), [1], .int (-1), []) := rfl
theorem cd228_14 : code9 228 14 = some (0, .ireturn, [1, 1], .null, []) := rfl
theorem cd228_15 : code9 228 15 = some (0, .aload_n 0, [1], .null, []) := rfl
theorem cd228_16 : code9 228 16 = some (0, .iload_n 1, [1], .null, []) := rfl
theorem cd228_17 : code9 228 17 = some (0, .invokevirtual 284, [3, 227, 2, 1, 3, 2, 12, 0], .null, []) := rfl
theorem cd228_20 : code9 228 20 = some (0, .ifCond .ne 5, [3, 25], .null, []) := rfl
theorem cd228_23 : code9 228 23 = some (0, .iconst 1, [1], .int 1, []) := rfl
theorem cd228_24 : code9 228 24 = some (0, .ireturn, [1, 1], .null, []) := rfl
theorem cd228_25 : code9 228 25 = some (0, .aload_n 0, [1], .null, []) := rfl
theorem cd228_26 : code9 228 26 = some (0, .invokevirtual 277, [3, 224, 1, 1, 0, 2, 12, 0], .null, []) := rfl
theorem cd228_29 : code9 228 29 = some (0, .aload_n 0, [1], .null, []) := rfl
theorem cd228_30 : code9 228 30 = some (0, .iload_n 1, [1], .null, []) := rfl
theorem cd228_31 : code9 228 31 = some (0, .invokevirtual 287, [3, 229, 2, 1, 0, 2, 12, 0], .null, []) := rfl
theorem cd228_34 : code9 228 34 = some (0, .iconst 0, [1], .int 0, []) := rfl
theorem cd228_35 : code9 228 35 = some (0, .ireturn, [1, 1], .null, []) := rfl
def Mod_sell (N : Nat) (l1 : Int32) (I : FI) : Option (Int32 × FI) := Option.bind (some (up2 I 204 0 (0 : Int32))) fun I1 => (Option.bind (Mod_isFind l1 I1) fun x2 => (if x2 then (Option.bind (Mod_isHad l1 I1) fun x3 => (if x3 then (Option.bind (Mod_snap N I1) fun x4 => (Option.bind (Mod_doSell l1 x4) fun x5 => (some (0, x5)))) else (some (1, I1)))) else (some ((-1), I1))))
set_option maxRecDepth 8000 in
theorem t_Mod_sell {d : Nat} {N : Nat} {c : Nat × Nat} {S : Nat → Nat × Nat} {P : Nat → Nat → Option Nat} {I : FI} {J : FJ} {l1 : Int32} {r : Int32 × FI} (hd : 2 ≤ d) (hw : OM S P) (h : Mod_sell N l1 I = some r) : Go d M_Mod_sell 0 [some (.ref 204), some (.int l1)] [] (c, S, I, J, P) (some (.int r.1), false, (c, S, r.2, J, P)) := by
  obtain ⟨d, rfl⟩ : ∃ e, d = e + 1 := ⟨d - 1, by omega⟩
  unfold Mod_sell at h
  refine g_aload_n cd228_0 rfl rfl ?_
  refine g_iconst cd228_1 rfl ?_
  obtain ⟨I1, e1, h⟩ := bnd h
  refine G_putI cd228_2 rfl (OM.o hw) (Option.some.inj e1) ?_
  refine g_aload_n cd228_5 rfl rfl ?_
  refine g_iload_n cd228_6 rfl rfl ?_
  obtain ⟨x2, hx, h⟩ := bnd h
  refine g_callVZ (L := [some (.ref 204), some (.int l1)]) cd228_7 rfl rfl rfl rfl rfl (OM.o hw) (t_Mod_isFind (by omega) hw hx) ?_
  refine g_if_ne cd228_10 rfl (fun hb => ?_) (fun hb => ?_)
  · have h := ifnE (b2i_f hb) h
    refine g_iconst cd228_13 rfl ?_
    exact g_iret cd228_14 (Or.inl rfl) (by obtain rfl := Option.some.inj h; rfl)
  · have h := ifpE (b2i_t hb) h
    refine g_aload_n cd228_15 rfl rfl ?_
    refine g_iload_n cd228_16 rfl rfl ?_
    obtain ⟨x3, hx, h⟩ := bnd h
    refine g_callVZ (L := [some (.ref 204), some (.int l1)]) cd228_17 rfl rfl rfl rfl rfl (OM.o hw) (t_Mod_isHad (by omega) hw hx) ?_
    refine g_if_ne cd228_20 rfl (fun hb => ?_) (fun hb => ?_)
    · have h := ifnE (b2i_f hb) h
      refine g_iconst cd228_23 rfl ?_
      exact g_iret cd228_24 (Or.inl rfl) (by obtain rfl := Option.some.inj h; rfl)
    · have h := ifpE (b2i_t hb) h
      refine g_aload_n cd228_25 rfl rfl ?_
      obtain ⟨x4, hx, h⟩ := bnd h
      refine g_callVV (L := [some (.ref 204), none]) cd228_26 rfl rfl rfl rfl rfl (OM.o hw) (t_Mod_snap (by omega) hw hx) ?_
      refine g_aload_n cd228_29 rfl rfl ?_
      refine g_iload_n cd228_30 rfl rfl ?_
      obtain ⟨x5, hx, h⟩ := bnd h
      refine g_callVV (L := [some (.ref 204), some (.int l1)]) cd228_31 rfl rfl rfl rfl rfl (OM.o hw) (t_Mod_doSell (by omega) hw hx) ?_
      refine g_iconst cd228_34 rfl ?_
      exact g_iret cd228_35 (Or.inl rfl) (by obtain rfl := Option.some.inj h; rfl)
/-! HiddenOrLostModel.doLay(III)V -/
theorem cd231_0 : code9 231 0 = some (0, .aload_n 0, [1], .null, []) := rfl
theorem cd231_1 : code9 231 1 = some (0, .getfield 98, [3, 12, 14, 2], .null, []) := rfl
theorem cd231_4 : code9 231 4 = some (0, .sipush 135, [3], .int 135, []) := rfl
theorem cd231_7 : code9 231 7 = some (0, .iload_n 1, [1], .null, []) := rfl
theorem cd231_8 : code9 231 8 = some (0, .iadd, [1], .null, []) := rfl
theorem cd231_9 : code9 231 9 = some (0, .iconst 0, [1], .int 0, []) := rfl
theorem cd231_10 : code9 231 10 = some (0, .iastore, [1], .null, []) := rfl
theorem cd231_11 : code9 231 11 = some (0, .aload_n 0, [1], .null, []) := rfl
theorem cd231_12 : code9 231 12 = some (0, .getfield 98, [3, 12, 14, 2], .null, []) := rfl
theorem cd231_15 : code9 231 15 = some (0, .bipush 105, [2], .int 105, []) := rfl
theorem cd231_17 : code9 231 17 = some (0, .iload_n 1, [1], .null, []) := rfl
theorem cd231_18 : code9 231 18 = some (0, .iadd, [1], .null, []) := rfl
theorem cd231_19 : code9 231 19 = some (0, .iload_n 2, [1], .null, []) := rfl
theorem cd231_20 : code9 231 20 = some (0, .iastore, [1], .null, []) := rfl
theorem cd231_21 : code9 231 21 = some (0, .aload_n 0, [1], .null, []) := rfl
theorem cd231_22 : code9 231 22 = some (0, .getfield 98, [3, 12, 14, 2], .null, []) := rfl
theorem cd231_25 : code9 231 25 = some (0, .bipush 115, [2], .int 115, []) := rfl
theorem cd231_27 : code9 231 27 = some (0, .iload_n 1, [1], .null, []) := rfl
theorem cd231_28 : code9 231 28 = some (0, .iadd, [1], .null, []) := rfl
theorem cd231_29 : code9 231 29 = some (0, .iload_n 3, [1], .null, []) := rfl
theorem cd231_30 : code9 231 30 = some (0, .iastore, [1], .null, []) := rfl
theorem cd231_31 : code9 231 31 = some (0, .aload_n 0, [1], .null, []) := rfl
theorem cd231_32 : code9 231 32 = some (0, .getfield 98, [3, 12, 14, 2], .null, []) := rfl
theorem cd231_35 : code9 231 35 = some (0, .bipush 125, [2], .int 125, []) := rfl
theorem cd231_37 : code9 231 37 = some (0, .iload_n 1, [1], .null, []) := rfl
theorem cd231_38 : code9 231 38 = some (0, .iadd, [1], .null, []) := rfl
theorem cd231_39 : code9 231 39 = some (0, .iconst 0, [1], .int 0, []) := rfl
theorem cd231_40 : code9 231 40 = some (0, .iastore, [1], .null, []) := rfl
theorem cd231_41 : code9 231 41 = some (0, .return_, [1], .null, []) := rfl
def Mod_doLay (l1 : Int32) (l2 : Int32) (l3 : Int32) (I : FI) : Option (FI) := if in9 (135 + l1) 451 then (Option.bind (some (up2 I 206 ((135 + l1).toNatClampNeg) (0 : Int32))) fun I2 => (if in9 (105 + l1) 451 then (Option.bind (some (up2 I2 206 ((105 + l1).toNatClampNeg) l2)) fun I4 => (if in9 (115 + l1) 451 then (Option.bind (some (up2 I4 206 ((115 + l1).toNatClampNeg) l3)) fun I6 => (if in9 (125 + l1) 451 then (Option.bind (some (up2 I6 206 ((125 + l1).toNatClampNeg) (0 : Int32))) fun I8 => (some I8)) else none)) else none)) else none)) else none
set_option maxRecDepth 8000 in
theorem t_Mod_doLay {d : Nat} {c : Nat × Nat} {S : Nat → Nat × Nat} {P : Nat → Nat → Option Nat} {I : FI} {J : FJ} {l1 : Int32} {l2 : Int32} {l3 : Int32} {r : FI} (hd : 0 ≤ d) (hw : OM S P) (h : Mod_doLay l1 l2 l3 I = some r) : Go d M_Mod_doLay 0 [some (.ref 204), some (.int l1), some (.int l2), some (.int l3)] [] (c, S, I, J, P) (none, false, (c, S, r, J, P)) := by
  unfold Mod_doLay at h
  refine g_aload_n cd231_0 rfl rfl ?_
  refine g_getP cd231_1 rfl (OM.o hw) (OM.p14 hw) ?_
  refine g_sipush cd231_4 rfl ?_
  refine g_iload_n cd231_7 rfl rfl ?_
  refine g_iadd cd231_8 rfl ?_
  refine g_iconst cd231_9 rfl ?_
  obtain ⟨hg1, h⟩ := grd h
  obtain ⟨I2, e1, h⟩ := bnd h
  refine G_iast cd231_10 rfl (OM.s14 hw) hg1 (Option.some.inj e1) ?_
  refine g_aload_n cd231_11 rfl rfl ?_
  refine g_getP cd231_12 rfl (OM.o hw) (OM.p14 hw) ?_
  refine g_bipush cd231_15 rfl ?_
  refine g_iload_n cd231_17 rfl rfl ?_
  refine g_iadd cd231_18 rfl ?_
  refine g_iload_n cd231_19 rfl rfl ?_
  obtain ⟨hg3, h⟩ := grd h
  obtain ⟨I4, e1, h⟩ := bnd h
  refine G_iast cd231_20 rfl (OM.s14 hw) hg3 (Option.some.inj e1) ?_
  refine g_aload_n cd231_21 rfl rfl ?_
  refine g_getP cd231_22 rfl (OM.o hw) (OM.p14 hw) ?_
  refine g_bipush cd231_25 rfl ?_
  refine g_iload_n cd231_27 rfl rfl ?_
  refine g_iadd cd231_28 rfl ?_
  refine g_iload_n cd231_29 rfl rfl ?_
  obtain ⟨hg5, h⟩ := grd h
  obtain ⟨I6, e1, h⟩ := bnd h
  refine G_iast cd231_30 rfl (OM.s14 hw) hg5 (Option.some.inj e1) ?_
  refine g_aload_n cd231_31 rfl rfl ?_
  refine g_getP cd231_32 rfl (OM.o hw) (OM.p14 hw) ?_
  refine g_bipush cd231_35 rfl ?_
  refine g_iload_n cd231_37 rfl rfl ?_
  refine g_iadd cd231_38 rfl ?_
  refine g_iconst cd231_39 rfl ?_
  obtain ⟨hg7, h⟩ := grd h
  obtain ⟨I8, e1, h⟩ := bnd h
  refine G_iast cd231_40 rfl (OM.s14 hw) hg7 (Option.some.inj e1) ?_
  exact g_vret cd231_41 (by obtain rfl := Option.some.inj h; rfl)
/-! HiddenOrLostModel.lay(III)I -/
theorem cd230_0 : code9 230 0 = some (0, .aload_n 0, [1], .null, []) := rfl
theorem cd230_1 : code9 230 1 = some (0, .iconst 0, [1], .int 0, []) := rfl
theorem cd230_2 : code9 230 2 = some (0, .putfield 1, [3, 12, 0, 0], .null, []) := rfl
theorem cd230_5 : code9 230 5 = some (0, .aload_n 0, [1], .null, []) := rfl
theorem cd230_6 : code9 230 6 = some (0, .iload_n 1, [1], .null, []) := rfl
theorem cd230_7 : code9 230 7 = some (0, .invokevirtual 242, [3, 209, 2, 1, 3, 2, 12, 0], .null, []) := rfl
theorem cd230_10 : code9 230 10 = some (0, .ifCond .eq 12, [3, 22], .null, []) := rfl
theorem cd230_13 : code9 230 13 = some (0, .aload_n 0, [1], .null, []) := rfl
theorem cd230_14 : code9 230 14 = some (0, .iload_n 2, [1], .null, []) := rfl
theorem cd230_15 : code9 230 15 = some (0, .iload_n 3, [1], .null, []) := rfl
theorem cd230_16 : code9 230 16 = some (0, .invokevirtual 251, [3, 214, 3, 1, 3, 3, 12, 0], .null, []) := rfl
theorem cd230_19 : code9 230 19 = some (0, .ifCond .ne 5, [3, 24], .null, []) := rfl
theorem cd230_22 : code9 230 22 = some (5, .iconst (-1), [1], .int (-1), []) := rfl
theorem cd230_23 : code9 230 23 = some (0, .ireturn, [1, 1], .null, []) := rfl
theorem cd230_24 : code9 230 24 = some (0, .aload_n 0, [1], .null, []) := rfl
theorem cd230_25 : code9 230 25 = some (0, .iload_n 1, [1], .null, []) := rfl
theorem cd230_26 : code9 230 26 = some (0, .invokevirtual 284, [3, 227, 2, 1, 3, 2, 12, 0], .null, []) := rfl
theorem cd230_29 : code9 230 29 = some (0, .ifCond .ne 5, [3, 34], .null, []) := rfl
theorem cd230_32 : code9 230 32 = some (0, .iconst 1, [1], .int 1, []) := rfl
theorem cd230_33 : code9 230 33 = some (0, .ireturn, [1, 1], .null, []) := rfl
theorem cd230_34 : code9 230 34 = some (0, .aload_n 0, [1], .null, []) := rfl
theorem cd230_35 : code9 230 35 = some (0, .invokevirtual 277, [3, 224, 1, 1, 0, 2, 12, 0], .null, []) := rfl
theorem cd230_38 : code9 230 38 = some (0, .aload_n 0, [1], .null, []) := rfl
theorem cd230_39 : code9 230 39 = some (0, .iload_n 1, [1], .null, []) := rfl
theorem cd230_40 : code9 230 40 = some (0, .iload_n 2, [1], .null, []) := rfl
theorem cd230_41 : code9 230 41 = some (0, .iload_n 3, [1], .null, []) := rfl
theorem cd230_42 : code9 230 42 = some (0, .invokevirtual 290, [3, 231, 4, 1, 0, 4, 12, 0], .null, []) := rfl
theorem cd230_45 : code9 230 45 = some (0, .iconst 0, [1], .int 0, []) := rfl
theorem cd230_46 : code9 230 46 = some (0, .ireturn, [1, 1], .null, []) := rfl
def Mod_lay (N : Nat) (l1 : Int32) (l2 : Int32) (l3 : Int32) (I : FI) : Option (Int32 × FI) := Option.bind (some (up2 I 204 0 (0 : Int32))) fun I1 => (Option.bind (Mod_isFind l1 I1) fun x2 => (if x2 then (Option.bind (Mod_isCell l2 l3 I1) fun x3 => (if x3 then (Option.bind (Mod_isHad l1 I1) fun x4 => (if x4 then (Option.bind (Mod_snap N I1) fun x5 => (Option.bind (Mod_doLay l1 l2 l3 x5) fun x6 => (some (0, x6)))) else (some (1, I1)))) else (some ((-1), I1)))) else (some ((-1), I1))))
set_option maxRecDepth 8000 in
theorem t_Mod_lay {d : Nat} {N : Nat} {c : Nat × Nat} {S : Nat → Nat × Nat} {P : Nat → Nat → Option Nat} {I : FI} {J : FJ} {l1 : Int32} {l2 : Int32} {l3 : Int32} {r : Int32 × FI} (hd : 2 ≤ d) (hw : OM S P) (h : Mod_lay N l1 l2 l3 I = some r) : Go d M_Mod_lay 0 [some (.ref 204), some (.int l1), some (.int l2), some (.int l3)] [] (c, S, I, J, P) (some (.int r.1), false, (c, S, r.2, J, P)) := by
  obtain ⟨d, rfl⟩ : ∃ e, d = e + 1 := ⟨d - 1, by omega⟩
  unfold Mod_lay at h
  refine g_aload_n cd230_0 rfl rfl ?_
  refine g_iconst cd230_1 rfl ?_
  obtain ⟨I1, e1, h⟩ := bnd h
  refine G_putI cd230_2 rfl (OM.o hw) (Option.some.inj e1) ?_
  refine g_aload_n cd230_5 rfl rfl ?_
  refine g_iload_n cd230_6 rfl rfl ?_
  obtain ⟨x2, hx, h⟩ := bnd h
  refine g_callVZ (L := [some (.ref 204), some (.int l1)]) cd230_7 rfl rfl rfl rfl rfl (OM.o hw) (t_Mod_isFind (by omega) hw hx) ?_
  refine g_if_eq cd230_10 rfl (fun hb => ?_) (fun hb => ?_)
  · have h := ifnE (b2i_f hb) h
    refine g_iconst cd230_22 rfl ?_
    exact g_iret cd230_23 (Or.inl rfl) (by obtain rfl := Option.some.inj h; rfl)
  · have h := ifpE (b2i_t hb) h
    refine g_aload_n cd230_13 rfl rfl ?_
    refine g_iload_n cd230_14 rfl rfl ?_
    refine g_iload_n cd230_15 rfl rfl ?_
    obtain ⟨x3, hx, h⟩ := bnd h
    refine g_callVZ (L := [some (.ref 204), some (.int l2), some (.int l3)]) cd230_16 rfl rfl rfl rfl rfl (OM.o hw) (t_Mod_isCell (by omega) hw hx) ?_
    refine g_if_ne cd230_19 rfl (fun hb => ?_) (fun hb => ?_)
    · have h := ifnE (b2i_f hb) h
      refine g_iconst cd230_22 rfl ?_
      exact g_iret cd230_23 (Or.inl rfl) (by obtain rfl := Option.some.inj h; rfl)
    · have h := ifpE (b2i_t hb) h
      refine g_aload_n cd230_24 rfl rfl ?_
      refine g_iload_n cd230_25 rfl rfl ?_
      obtain ⟨x4, hx, h⟩ := bnd h
      refine g_callVZ (L := [some (.ref 204), some (.int l1)]) cd230_26 rfl rfl rfl rfl rfl (OM.o hw) (t_Mod_isHad (by omega) hw hx) ?_
      refine g_if_ne cd230_29 rfl (fun hb => ?_) (fun hb => ?_)
      · have h := ifnE (b2i_f hb) h
        refine g_iconst cd230_32 rfl ?_
        exact g_iret cd230_33 (Or.inl rfl) (by obtain rfl := Option.some.inj h; rfl)
      · have h := ifpE (b2i_t hb) h
        refine g_aload_n cd230_34 rfl rfl ?_
        obtain ⟨x5, hx, h⟩ := bnd h
        refine g_callVV (L := [some (.ref 204), none]) cd230_35 rfl rfl rfl rfl rfl (OM.o hw) (t_Mod_snap (by omega) hw hx) ?_
        refine g_aload_n cd230_38 rfl rfl ?_
        refine g_iload_n cd230_39 rfl rfl ?_
        refine g_iload_n cd230_40 rfl rfl ?_
        refine g_iload_n cd230_41 rfl rfl ?_
        obtain ⟨x6, hx, h⟩ := bnd h
        refine g_callVV (L := [some (.ref 204), some (.int l1), some (.int l2), some (.int l3)]) cd230_42 rfl rfl rfl rfl rfl (OM.o hw) (t_Mod_doLay (by omega) hw hx) ?_
        refine g_iconst cd230_45 rfl ?_
        exact g_iret cd230_46 (Or.inl rfl) (by obtain rfl := Option.some.inj h; rfl)
/-! HiddenOrLostModel.give(II)I -/
theorem cd232_0 : code9 232 0 = some (0, .aload_n 0, [1], .null, []) := rfl
theorem cd232_1 : code9 232 1 = some (0, .iconst 0, [1], .int 0, []) := rfl
theorem cd232_2 : code9 232 2 = some (0, .putfield 1, [3, 12, 0, 0], .null, []) := rfl
theorem cd232_5 : code9 232 5 = some (0, .aload_n 0, [1], .null, []) := rfl
theorem cd232_6 : code9 232 6 = some (0, .iload_n 1, [1], .null, []) := rfl
theorem cd232_7 : code9 232 7 = some (0, .invokevirtual 242, [3, 209, 2, 1, 3, 2, 12, 0], .null, []) := rfl
theorem cd232_10 : code9 232 10 = some (0, .ifCond .eq 11, [3, 21], .null, []) := rfl
theorem cd232_13 : code9 232 13 = some (0, .aload_n 0, [1], .null, []) := rfl
theorem cd232_14 : code9 232 14 = some (0, .iload_n 2, [1], .null, []) := rfl
theorem cd232_15 : code9 232 15 = some (0, .invokevirtual 248, [3, 212, 2, 1, 3, 2, 12, 0], .null, []) := rfl
theorem cd232_18 : code9 232 18 = some (0, .ifCond .ne 5, [3, 23], .null, []) := rfl
theorem cd232_21 : code9 232 21 = some (4, .iconst (-1), [1], .int (-1), []) := rfl
theorem cd232_22 : code9 232 22 = some (0, .ireturn, [1, 1], .null, []) := rfl
theorem cd232_23 : code9 232 23 = some (0, .aload_n 0, [1], .null, []) := rfl
theorem cd232_24 : code9 232 24 = some (0, .iload_n 1, [1], .null, []) := rfl
theorem cd232_25 : code9 232 25 = some (0, .invokevirtual 284, [3, 227, 2, 1, 3, 2, 12, 0], .null, []) := rfl
theorem cd232_28 : code9 232 28 = some (0, .ifCond .ne 5, [3, 33], .null, []) := rfl
theorem cd232_31 : code9 232 31 = some (0, .iconst 1, [1], .int 1, []) := rfl
theorem cd232_32 : code9 232 32 = some (0, .ireturn, [1, 1], .null, []) := rfl
theorem cd232_33 : code9 232 33 = some (0, .aload_n 0, [1], .null, []) := rfl
theorem cd232_34 : code9 232 34 = some (0, .getfield 98, [3, 12, 14, 2], .null, []) := rfl
theorem cd232_37 : code9 232 37 = some (0, .sipush 145, [3], .int 145, []) := rfl
theorem cd232_40 : code9 232 40 = some (0, .iload_n 1, [1], .null, []) := rfl
theorem cd232_41 : code9 232 41 = some (0, .iadd, [1], .null, []) := rfl
theorem cd232_42 : code9 232 42 = some (0, .iaload, [1], .null, []) := rfl
theorem cd232_43 : code9 232 43 = some (0, .iload_n 2, [1], .null, []) := rfl
theorem cd232_44 : code9 232 44 = some (0, .if_icmp .ne 5, [3, 49], .null, []) := rfl
theorem cd232_47 : code9 232 47 = some (0, .iconst 2, [1], .int 2, []) := rfl
theorem cd232_48 : code9 232 48 = some (0, .ireturn, [1, 1], .null, []) := rfl
theorem cd232_49 : code9 232 49 = some (0, .aload_n 0, [1], .null, []) := rfl
theorem cd232_50 : code9 232 50 = some (0, .invokevirtual 277, [3, 224, 1, 1, 0, 2, 12, 0], .null, []) := rfl
theorem cd232_53 : code9 232 53 = some (0, .aload_n 0, [1], .null, []) := rfl
theorem cd232_54 : code9 232 54 = some (0, .getfield 98, [3, 12, 14, 2], .null, []) := rfl
theorem cd232_57 : code9 232 57 = some (0, .sipush 145, [3], .int 145, []) := rfl
theorem cd232_60 : code9 232 60 = some (0, .iload_n 1, [1], .null, []) := rfl
theorem cd232_61 : code9 232 61 = some (0, .iadd, [1], .null, []) := rfl
theorem cd232_62 : code9 232 62 = some (0, .iload_n 2, [1], .null, []) := rfl
theorem cd232_63 : code9 232 63 = some (0, .iastore, [1], .null, []) := rfl
theorem cd232_64 : code9 232 64 = some (0, .iconst 0, [1], .int 0, []) := rfl
theorem cd232_65 : code9 232 65 = some (0, .ireturn, [1, 1], .null, []) := rfl
def Mod_give (N : Nat) (l1 : Int32) (l2 : Int32) (I : FI) : Option (Int32 × FI) := Option.bind (some (up2 I 204 0 (0 : Int32))) fun I1 => (Option.bind (Mod_isFind l1 I1) fun x2 => (if x2 then (Option.bind (Mod_isPerson l2 I1) fun x3 => (if x3 then (Option.bind (Mod_isHad l1 I1) fun x4 => (if x4 then (if in9 (145 + l1) 451 then (if (I1 206 ((145 + l1).toNatClampNeg)) = l2 then (some (2, I1)) else (Option.bind (Mod_snap N I1) fun x6 => (Option.bind (some (up2 x6 206 ((145 + l1).toNatClampNeg) l2)) fun I7 => (some (0, I7))))) else none) else (some (1, I1)))) else (some ((-1), I1)))) else (some ((-1), I1))))
set_option maxRecDepth 8000 in
theorem t_Mod_give {d : Nat} {N : Nat} {c : Nat × Nat} {S : Nat → Nat × Nat} {P : Nat → Nat → Option Nat} {I : FI} {J : FJ} {l1 : Int32} {l2 : Int32} {r : Int32 × FI} (hd : 2 ≤ d) (hw : OM S P) (h : Mod_give N l1 l2 I = some r) : Go d M_Mod_give 0 [some (.ref 204), some (.int l1), some (.int l2)] [] (c, S, I, J, P) (some (.int r.1), false, (c, S, r.2, J, P)) := by
  obtain ⟨d, rfl⟩ : ∃ e, d = e + 1 := ⟨d - 1, by omega⟩
  unfold Mod_give at h
  refine g_aload_n cd232_0 rfl rfl ?_
  refine g_iconst cd232_1 rfl ?_
  obtain ⟨I1, e1, h⟩ := bnd h
  refine G_putI cd232_2 rfl (OM.o hw) (Option.some.inj e1) ?_
  refine g_aload_n cd232_5 rfl rfl ?_
  refine g_iload_n cd232_6 rfl rfl ?_
  obtain ⟨x2, hx, h⟩ := bnd h
  refine g_callVZ (L := [some (.ref 204), some (.int l1)]) cd232_7 rfl rfl rfl rfl rfl (OM.o hw) (t_Mod_isFind (by omega) hw hx) ?_
  refine g_if_eq cd232_10 rfl (fun hb => ?_) (fun hb => ?_)
  · have h := ifnE (b2i_f hb) h
    refine g_iconst cd232_21 rfl ?_
    exact g_iret cd232_22 (Or.inl rfl) (by obtain rfl := Option.some.inj h; rfl)
  · have h := ifpE (b2i_t hb) h
    refine g_aload_n cd232_13 rfl rfl ?_
    refine g_iload_n cd232_14 rfl rfl ?_
    obtain ⟨x3, hx, h⟩ := bnd h
    refine g_callVZ (L := [some (.ref 204), some (.int l2)]) cd232_15 rfl rfl rfl rfl rfl (OM.o hw) (t_Mod_isPerson (by omega) hw hx) ?_
    refine g_if_ne cd232_18 rfl (fun hb => ?_) (fun hb => ?_)
    · have h := ifnE (b2i_f hb) h
      refine g_iconst cd232_21 rfl ?_
      exact g_iret cd232_22 (Or.inl rfl) (by obtain rfl := Option.some.inj h; rfl)
    · have h := ifpE (b2i_t hb) h
      refine g_aload_n cd232_23 rfl rfl ?_
      refine g_iload_n cd232_24 rfl rfl ?_
      obtain ⟨x4, hx, h⟩ := bnd h
      refine g_callVZ (L := [some (.ref 204), some (.int l1)]) cd232_25 rfl rfl rfl rfl rfl (OM.o hw) (t_Mod_isHad (by omega) hw hx) ?_
      refine g_if_ne cd232_28 rfl (fun hb => ?_) (fun hb => ?_)
      · have h := ifnE (b2i_f hb) h
        refine g_iconst cd232_31 rfl ?_
        exact g_iret cd232_32 (Or.inl rfl) (by obtain rfl := Option.some.inj h; rfl)
      · have h := ifpE (b2i_t hb) h
        refine g_aload_n cd232_33 rfl rfl ?_
        refine g_getP cd232_34 rfl (OM.o hw) (OM.p14 hw) ?_
        refine g_sipush cd232_37 rfl ?_
        refine g_iload_n cd232_40 rfl rfl ?_
        refine g_iadd cd232_41 rfl ?_
        obtain ⟨hg5, h⟩ := grd h
        refine G_iald cd232_42 rfl (OM.s14 hw) hg5 ?_
        refine g_iload_n cd232_43 rfl rfl ?_
        refine g_icmp_ne cd232_44 rfl (fun hb => ?_) (fun hb => ?_)
        · have h := ifpE hb h
          refine g_iconst cd232_47 rfl ?_
          exact g_iret cd232_48 (Or.inl rfl) (by obtain rfl := Option.some.inj h; rfl)
        · have h := ifnE hb h
          refine g_aload_n cd232_49 rfl rfl ?_
          obtain ⟨x6, hx, h⟩ := bnd h
          refine g_callVV (L := [some (.ref 204), none]) cd232_50 rfl rfl rfl rfl rfl (OM.o hw) (t_Mod_snap (by omega) hw hx) ?_
          refine g_aload_n cd232_53 rfl rfl ?_
          refine g_getP cd232_54 rfl (OM.o hw) (OM.p14 hw) ?_
          refine g_sipush cd232_57 rfl ?_
          refine g_iload_n cd232_60 rfl rfl ?_
          refine g_iadd cd232_61 rfl ?_
          refine g_iload_n cd232_62 rfl rfl ?_
          obtain ⟨I7, e1, h⟩ := bnd h
          refine G_iast cd232_63 rfl (OM.s14 hw) hg5 (Option.some.inj e1) ?_
          refine g_iconst cd232_64 rfl ?_
          exact g_iret cd232_65 (Or.inl rfl) (by obtain rfl := Option.some.inj h; rfl)
/-! HiddenOrLostModel.draw(I)I -/
theorem cd235_0 : code9 235 0 = some (0, .aload_n 0, [1], .null, []) := rfl
theorem cd235_1 : code9 235 1 = some (0, .aload_n 0, [1], .null, []) := rfl
theorem cd235_2 : code9 235 2 = some (0, .getfield 267, [3, 12, 25, 0], .null, []) := rfl
theorem cd235_5 : code9 235 5 = some (0, .ldc_w 270, [3], .int 1103515245, []) := rfl
theorem cd235_8 : code9 235 8 = some (0, .imul, [1], .null, []) := rfl
theorem cd235_9 : code9 235 9 = some (0, .sipush 12345, [3], .int 12345, []) := rfl
theorem cd235_12 : code9 235 12 = some (0, .iadd, [1], .null, []) := rfl
theorem cd235_13 : code9 235 13 = some (0, .putfield 267, [3, 12, 25, 0], .null, []) := rfl
theorem cd235_16 : code9 235 16 = some (0, .aload_n 0, [1], .null, []) := rfl
theorem cd235_17 : code9 235 17 = some (0, .getfield 267, [3, 12, 25, 0], .null, []) := rfl
theorem cd235_20 : code9 235 20 = some (0, .bipush 8, [2], .int 8, []) := rfl
theorem cd235_22 : code9 235 22 = some (0, .iushr, [1], .null, []) := rfl
theorem cd235_23 : code9 235 23 = some (0, .iload_n 1, [1], .null, []) := rfl
theorem cd235_24 : code9 235 24 = some (0, .irem, [1], .null, []) := rfl
theorem cd235_25 : code9 235 25 = some (0, .ireturn, [1, 1], .null, []) := rfl
def Mod_draw (l1 : Int32) (I : FI) : Option (Int32 × FI) := Option.bind (some (up2 I 204 25 (((I 204 25) * 1103515245) + 12345))) fun I1 => (if ¬ l1 = 0 then (some ((((I1 204 25).toUInt32 >>> ((8 : Int32).toUInt32 &&& Int32.toUInt32 31)).toInt32) - (((I1 204 25).toUInt32 >>> ((8 : Int32).toUInt32 &&& Int32.toUInt32 31)).toInt32) / l1 * l1, I1)) else none)
set_option maxRecDepth 8000 in
theorem t_Mod_draw {d : Nat} {c : Nat × Nat} {S : Nat → Nat × Nat} {P : Nat → Nat → Option Nat} {I : FI} {J : FJ} {l1 : Int32} {r : Int32 × FI} (hd : 0 ≤ d) (hw : OM S P) (h : Mod_draw l1 I = some r) : Go d M_Mod_draw 0 [some (.ref 204), some (.int l1)] [] (c, S, I, J, P) (some (.int r.1), false, (c, S, r.2, J, P)) := by
  unfold Mod_draw at h
  refine g_aload_n cd235_0 rfl rfl ?_
  refine g_aload_n cd235_1 rfl rfl ?_
  refine g_getI cd235_2 rfl (OM.o hw) ?_
  refine g_ldc_w cd235_5 rfl ?_
  refine g_imul cd235_8 rfl ?_
  refine g_sipush cd235_9 rfl ?_
  refine g_iadd cd235_12 rfl ?_
  obtain ⟨I1, e1, h⟩ := bnd h
  refine G_putI cd235_13 rfl (OM.o hw) (Option.some.inj e1) ?_
  refine g_aload_n cd235_16 rfl rfl ?_
  refine g_getI cd235_17 rfl (OM.o hw) ?_
  refine g_bipush cd235_20 rfl ?_
  refine g_iushr cd235_22 rfl ?_
  refine g_iload_n cd235_23 rfl rfl ?_
  obtain ⟨hg2, h⟩ := grd h
  refine g_irem cd235_24 rfl hg2 ?_
  exact g_iret cd235_25 (Or.inl rfl) (by obtain rfl := Option.some.inj h; rfl)
/-! HiddenOrLostModel.doPlough()I -/
theorem cd234_0 : code9 234 0 = some (0, .iconst 0, [1], .int 0, []) := rfl
theorem cd234_1 : code9 234 1 = some (0, .istore_n 1, [1], .null, []) := rfl
theorem cd234_2 : code9 234 2 = some (0, .iconst 0, [1], .int 0, []) := rfl
theorem cd234_3 : code9 234 3 = some (0, .istore_n 2, [1], .null, []) := rfl
theorem cd234_4 : code9 234 4 = some (4, .iload_n 2, [1], .null, []) := rfl
theorem cd234_5 : code9 234 5 = some (0, .aload_n 0, [1], .null, []) := rfl
theorem cd234_6 : code9 234 6 = some (0, .getfield 98, [3, 12, 14, 2], .null, []) := rfl
theorem cd234_9 : code9 234 9 = some (0, .iconst 1, [1], .int 1, []) := rfl
theorem cd234_10 : code9 234 10 = some (0, .iaload, [1], .null, []) := rfl
theorem cd234_11 : code9 234 11 = some (0, .if_icmp .ge 160, [3, 171], .null, []) := rfl
theorem cd234_14 : code9 234 14 = some (0, .aload_n 0, [1], .null, []) := rfl
theorem cd234_15 : code9 234 15 = some (0, .getfield 98, [3, 12, 14, 2], .null, []) := rfl
theorem cd234_18 : code9 234 18 = some (0, .sipush 135, [3], .int 135, []) := rfl
theorem cd234_21 : code9 234 21 = some (0, .iload_n 2, [1], .null, []) := rfl
theorem cd234_22 : code9 234 22 = some (0, .iadd, [1], .null, []) := rfl
theorem cd234_23 : code9 234 23 = some (0, .iaload, [1], .null, []) := rfl
theorem cd234_24 : code9 234 24 = some (0, .ifCond .ne 141, [3, 165], .null, []) := rfl
theorem cd234_27 : code9 234 27 = some (0, .aload_n 0, [1], .null, []) := rfl
theorem cd234_28 : code9 234 28 = some (0, .getfield 98, [3, 12, 14, 2], .null, []) := rfl
theorem cd234_31 : code9 234 31 = some (0, .bipush 125, [2], .int 125, []) := rfl
theorem cd234_33 : code9 234 33 = some (0, .iload_n 2, [1], .null, []) := rfl
theorem cd234_34 : code9 234 34 = some (0, .iadd, [1], .null, []) := rfl
theorem cd234_35 : code9 234 35 = some (0, .iaload, [1], .null, []) := rfl
theorem cd234_36 : code9 234 36 = some (0, .iconst 2, [1], .int 2, []) := rfl
theorem cd234_37 : code9 234 37 = some (0, .if_icmp .le 6, [3, 43], .null, []) := rfl
theorem cd234_40 : code9 234 40 = some (0, .goto 125, [3, 165, 3], .null, []) := rfl
theorem cd234_43 : code9 234 43 = some (0, .aload_n 0, [1], .null, []) := rfl
theorem cd234_44 : code9 234 44 = some (0, .iconst 5, [1], .int 5, []) := rfl
theorem cd234_45 : code9 234 45 = some (0, .invokevirtual 271, [3, 235, 2, 1, 1, 2, 12, 0], .null, []) := rfl
theorem cd234_48 : code9 234 48 = some (0, .istore_n 3, [1], .null, []) := rfl
theorem cd234_49 : code9 234 49 = some (0, .aload_n 0, [1], .null, []) := rfl
theorem cd234_50 : code9 234 50 = some (0, .getfield 98, [3, 12, 14, 2], .null, []) := rfl
theorem cd234_53 : code9 234 53 = some (0, .bipush 105, [2], .int 105, []) := rfl
theorem cd234_55 : code9 234 55 = some (0, .iload_n 2, [1], .null, []) := rfl
theorem cd234_56 : code9 234 56 = some (0, .iadd, [1], .null, []) := rfl
theorem cd234_57 : code9 234 57 = some (0, .iaload, [1], .null, []) := rfl
theorem cd234_58 : code9 234 58 = some (0, .iload_n 3, [1], .null, []) := rfl
theorem cd234_59 : code9 234 59 = some (0, .iconst 1, [1], .int 1, []) := rfl
theorem cd234_60 : code9 234 60 = some (0, .if_icmp .ne 7, [3, 67], .null, []) := rfl
theorem cd234_63 : code9 234 63 = some (0, .iconst 1, [1], .int 1, []) := rfl
theorem cd234_64 : code9 234 64 = some (0, .goto 13, [3, 77, 4], .null, []) := rfl
theorem cd234_67 : code9 234 67 = some (0, .iload_n 3, [1], .null, []) := rfl
theorem cd234_68 : code9 234 68 = some (0, .iconst 2, [1], .int 2, []) := rfl
theorem cd234_69 : code9 234 69 = some (0, .if_icmp .ne 7, [3, 76], .null, []) := rfl
theorem cd234_72 : code9 234 72 = some (0, .iconst (-1), [1], .int (-1), []) := rfl
theorem cd234_73 : code9 234 73 = some (0, .goto 4, [3, 77, 4], .null, []) := rfl
theorem cd234_76 : code9 234 76 = some (0, .iconst 0, [1], .int 0, []) := rfl
theorem cd234_77 : code9 234 77 = some (5, .iadd, [1], .null, []) := rfl
theorem cd234_78 : code9 234 78 = some (0, .istore 4, [2], .null, []) := rfl
theorem cd234_80 : code9 234 80 = some (0, .aload_n 0, [1], .null, []) := rfl
theorem cd234_81 : code9 234 81 = some (0, .getfield 98, [3, 12, 14, 2], .null, []) := rfl
theorem cd234_84 : code9 234 84 = some (0, .bipush 115, [2], .int 115, []) := rfl
theorem cd234_86 : code9 234 86 = some (0, .iload_n 2, [1], .null, []) := rfl
theorem cd234_87 : code9 234 87 = some (0, .iadd, [1], .null, []) := rfl
theorem cd234_88 : code9 234 88 = some (0, .iaload, [1], .null, []) := rfl
theorem cd234_89 : code9 234 89 = some (0, .iload_n 3, [1], .null, []) := rfl
theorem cd234_90 : code9 234 90 = some (0, .iconst 3, [1], .int 3, []) := rfl
theorem cd234_91 : code9 234 91 = some (0, .if_icmp .ne 7, [3, 98], .null, []) := rfl
theorem cd234_94 : code9 234 94 = some (0, .iconst 1, [1], .int 1, []) := rfl
theorem cd234_95 : code9 234 95 = some (0, .goto 13, [3, 108, 5], .null, []) := rfl
theorem cd234_98 : code9 234 98 = some (0, .iload_n 3, [1], .null, []) := rfl
theorem cd234_99 : code9 234 99 = some (0, .iconst 4, [1], .int 4, []) := rfl
theorem cd234_100 : code9 234 100 = some (0, .if_icmp .ne 7, [3, 107], .null, []) := rfl
theorem cd234_103 : code9 234 103 = some (0, .iconst (-1), [1], .int (-1), []) := rfl
theorem cd234_104 : code9 234 104 = some (0, .goto 4, [3, 108, 5], .null, []) := rfl
theorem cd234_107 : code9 234 107 = some (0, .iconst 0, [1], .int 0, []) := rfl
theorem cd234_108 : code9 234 108 = some (6, .iadd, [1], .null, []) := rfl
theorem cd234_109 : code9 234 109 = some (0, .istore 5, [2], .null, []) := rfl
theorem cd234_111 : code9 234 111 = some (0, .iload_n 3, [1], .null, []) := rfl
theorem cd234_112 : code9 234 112 = some (0, .ifCond .le 39, [3, 151], .null, []) := rfl
theorem cd234_115 : code9 234 115 = some (0, .aload_n 0, [1], .null, []) := rfl
theorem cd234_116 : code9 234 116 = some (0, .iload 4, [2], .null, []) := rfl
theorem cd234_118 : code9 234 118 = some (0, .iload 5, [2], .null, []) := rfl
theorem cd234_120 : code9 234 120 = some (0, .invokevirtual 251, [3, 214, 3, 1, 3, 3, 12, 0], .null, []) := rfl
theorem cd234_123 : code9 234 123 = some (0, .ifCond .eq 28, [3, 151], .null, []) := rfl
theorem cd234_126 : code9 234 126 = some (0, .aload_n 0, [1], .null, []) := rfl
theorem cd234_127 : code9 234 127 = some (0, .getfield 98, [3, 12, 14, 2], .null, []) := rfl
theorem cd234_130 : code9 234 130 = some (0, .bipush 105, [2], .int 105, []) := rfl
theorem cd234_132 : code9 234 132 = some (0, .iload_n 2, [1], .null, []) := rfl
theorem cd234_133 : code9 234 133 = some (0, .iadd, [1], .null, []) := rfl
theorem cd234_134 : code9 234 134 = some (0, .iload 4, [2], .null, []) := rfl
theorem cd234_136 : code9 234 136 = some (0, .iastore, [1], .null, []) := rfl
theorem cd234_137 : code9 234 137 = some (0, .aload_n 0, [1], .null, []) := rfl
theorem cd234_138 : code9 234 138 = some (0, .getfield 98, [3, 12, 14, 2], .null, []) := rfl
theorem cd234_141 : code9 234 141 = some (0, .bipush 115, [2], .int 115, []) := rfl
theorem cd234_143 : code9 234 143 = some (0, .iload_n 2, [1], .null, []) := rfl
theorem cd234_144 : code9 234 144 = some (0, .iadd, [1], .null, []) := rfl
theorem cd234_145 : code9 234 145 = some (0, .iload 5, [2], .null, []) := rfl
theorem cd234_147 : code9 234 147 = some (0, .iastore, [1], .null, []) := rfl
theorem cd234_148 : code9 234 148 = some (0, .iinc 1 1, [3], .int 1, []) := rfl
theorem cd234_151 : code9 234 151 = some (7, .aload_n 0, [1], .null, []) := rfl
theorem cd234_152 : code9 234 152 = some (0, .getfield 98, [3, 12, 14, 2], .null, []) := rfl
theorem cd234_155 : code9 234 155 = some (0, .bipush 125, [2], .int 125, []) := rfl
theorem cd234_157 : code9 234 157 = some (0, .iload_n 2, [1], .null, []) := rfl
theorem cd234_158 : code9 234 158 = some (0, .iadd, [1], .null, []) := rfl
theorem cd234_159 : code9 234 159 = some (0, .aload_n 0, [1], .null, []) := rfl
theorem cd234_160 : code9 234 160 = some (0, .iconst 3, [1], .int 3, []) := rfl
theorem cd234_161 : code9 234 161 = some (0, .invokevirtual 271, [3, 235, 2, 1, 1, 2, 12, 0], .null, []) := rfl
theorem cd234_164 : code9 234 164 = some (0, .iastore, [1], .null, []) := rfl
theorem cd234_165 : code9 234 165 = some (4, .iinc 2 1, [3], .int 1, []) := rfl
theorem cd234_168 : code9 234 168 = some (0, .goto (-164), [3, 4, 3], .null, []) := rfl
theorem cd234_171 : code9 234 171 = some (0, .iconst 0, [1], .int 0, []) := rfl
theorem cd234_172 : code9 234 172 = some (0, .istore_n 2, [1], .null, []) := rfl
theorem cd234_173 : code9 234 173 = some (4, .iload_n 2, [1], .null, []) := rfl
theorem cd234_174 : code9 234 174 = some (0, .bipush 36, [2], .int 36, []) := rfl
theorem cd234_176 : code9 234 176 = some (0, .if_icmp .ge 20, [3, 196], .null, []) := rfl
theorem cd234_179 : code9 234 179 = some (0, .aload_n 0, [1], .null, []) := rfl
theorem cd234_180 : code9 234 180 = some (0, .getfield 98, [3, 12, 14, 2], .null, []) := rfl
theorem cd234_183 : code9 234 183 = some (0, .sipush 173, [3], .int 173, []) := rfl
theorem cd234_186 : code9 234 186 = some (0, .iload_n 2, [1], .null, []) := rfl
theorem cd234_187 : code9 234 187 = some (0, .iadd, [1], .null, []) := rfl
theorem cd234_188 : code9 234 188 = some (0, .iconst 0, [1], .int 0, []) := rfl
theorem cd234_189 : code9 234 189 = some (0, .iastore, [1], .null, []) := rfl
theorem cd234_190 : code9 234 190 = some (0, .iinc 2 1, [3], .int 1, []) := rfl
theorem cd234_193 : code9 234 193 = some (0, .goto (-20), [3, 173, 3], .null, []) := rfl
theorem cd234_196 : code9 234 196 = some (0, .aload_n 0, [1], .null, []) := rfl
theorem cd234_197 : code9 234 197 = some (0, .getfield 98, [3, 12, 14, 2], .null, []) := rfl
theorem cd234_200 : code9 234 200 = some (0, .bipush 104, [2], .int 104, []) := rfl
theorem cd234_202 : code9 234 202 = some (0, .dup2, [1], .null, []) := rfl
theorem cd234_203 : code9 234 203 = some (0, .iaload, [1], .null, []) := rfl
theorem cd234_204 : code9 234 204 = some (0, .iconst 1, [1], .int 1, []) := rfl
theorem cd234_205 : code9 234 205 = some (0, .iadd, [1], .null, []) := rfl
theorem cd234_206 : code9 234 206 = some (0, .iastore, [1], .null, []) := rfl
theorem cd234_207 : code9 234 207 = some (0, .iload_n 1, [1], .null, []) := rfl
theorem cd234_208 : code9 234 208 = some (0, .ireturn, [1, 1], .null, []) := rfl
def Mod_doPlough_173 (N : Nat) : Nat → Int32 → Int32 → FI → Option (Int32 × FI)
  | 0 => fun _ _ _ => none
  | n + 1 => fun l1 l2 I => if 36 ≤ l2 then (Option.bind (some (up2 I 206 ((104 : Int32).toNatClampNeg) ((I 206 ((104 : Int32).toNatClampNeg)) + 1))) fun I1 => (some (l1, I1))) else (if in9 (173 + l2) 451 then (Option.bind (some (up2 I 206 ((173 + l2).toNatClampNeg) (0 : Int32))) fun I3 => (Mod_doPlough_173 N n l1 (l2 + 1) I3)) else none)
def Mod_doPlough_4 (N : Nat) : Nat → Int32 → Int32 → FI → Option (Int32 × FI)
  | 0 => fun _ _ _ => none
  | n + 1 => fun l1 l2 I => if (I 206 ((1 : Int32).toNatClampNeg)) ≤ l2 then (Mod_doPlough_173 N N l1 0 I) else (if in9 (135 + l2) 451 then (if (I 206 ((135 + l2).toNatClampNeg)) = 0 then (if in9 (125 + l2) 451 then (if (I 206 ((125 + l2).toNatClampNeg)) ≤ 2 then (Option.bind (Mod_draw 5 I) fun x6 => (if in9 (105 + l2) 451 then (if x6.1 = 1 then (if in9 (115 + l2) 451 then (if x6.1 = 3 then (if x6.1 ≤ 0 then (Option.bind (Mod_draw 3 x6.2) fun x9 => (Option.bind (some (up2 x9.2 206 ((125 + l2).toNatClampNeg) x9.1)) fun I10 => (Mod_doPlough_4 N n l1 (l2 + 1) I10))) else (Option.bind (Mod_isCell ((x6.2 206 ((105 + l2).toNatClampNeg)) + 1) ((x6.2 206 ((115 + l2).toNatClampNeg)) + 1) x6.2) fun x11 => (if x11 then (Option.bind (some (up2 x6.2 206 ((105 + l2).toNatClampNeg) ((x6.2 206 ((105 + l2).toNatClampNeg)) + 1))) fun I14 => (Option.bind (some (up2 I14 206 ((115 + l2).toNatClampNeg) ((x6.2 206 ((115 + l2).toNatClampNeg)) + 1))) fun I15 => (Option.bind (Mod_draw 3 I15) fun x16 => (Option.bind (some (up2 x16.2 206 ((125 + l2).toNatClampNeg) x16.1)) fun I17 => (Mod_doPlough_4 N n (l1 + 1) (l2 + 1) I17))))) else (Option.bind (Mod_draw 3 x6.2) fun x12 => (Option.bind (some (up2 x12.2 206 ((125 + l2).toNatClampNeg) x12.1)) fun I13 => (Mod_doPlough_4 N n l1 (l2 + 1) I13)))))) else (if x6.1 = 4 then (if x6.1 ≤ 0 then (Option.bind (Mod_draw 3 x6.2) fun x18 => (Option.bind (some (up2 x18.2 206 ((125 + l2).toNatClampNeg) x18.1)) fun I19 => (Mod_doPlough_4 N n l1 (l2 + 1) I19))) else (Option.bind (Mod_isCell ((x6.2 206 ((105 + l2).toNatClampNeg)) + 1) ((x6.2 206 ((115 + l2).toNatClampNeg)) + (-1)) x6.2) fun x20 => (if x20 then (Option.bind (some (up2 x6.2 206 ((105 + l2).toNatClampNeg) ((x6.2 206 ((105 + l2).toNatClampNeg)) + 1))) fun I23 => (Option.bind (some (up2 I23 206 ((115 + l2).toNatClampNeg) ((x6.2 206 ((115 + l2).toNatClampNeg)) + (-1)))) fun I24 => (Option.bind (Mod_draw 3 I24) fun x25 => (Option.bind (some (up2 x25.2 206 ((125 + l2).toNatClampNeg) x25.1)) fun I26 => (Mod_doPlough_4 N n (l1 + 1) (l2 + 1) I26))))) else (Option.bind (Mod_draw 3 x6.2) fun x21 => (Option.bind (some (up2 x21.2 206 ((125 + l2).toNatClampNeg) x21.1)) fun I22 => (Mod_doPlough_4 N n l1 (l2 + 1) I22)))))) else (if x6.1 ≤ 0 then (Option.bind (Mod_draw 3 x6.2) fun x27 => (Option.bind (some (up2 x27.2 206 ((125 + l2).toNatClampNeg) x27.1)) fun I28 => (Mod_doPlough_4 N n l1 (l2 + 1) I28))) else (Option.bind (Mod_isCell ((x6.2 206 ((105 + l2).toNatClampNeg)) + 1) ((x6.2 206 ((115 + l2).toNatClampNeg)) + 0) x6.2) fun x29 => (if x29 then (Option.bind (some (up2 x6.2 206 ((105 + l2).toNatClampNeg) ((x6.2 206 ((105 + l2).toNatClampNeg)) + 1))) fun I32 => (Option.bind (some (up2 I32 206 ((115 + l2).toNatClampNeg) ((x6.2 206 ((115 + l2).toNatClampNeg)) + 0))) fun I33 => (Option.bind (Mod_draw 3 I33) fun x34 => (Option.bind (some (up2 x34.2 206 ((125 + l2).toNatClampNeg) x34.1)) fun I35 => (Mod_doPlough_4 N n (l1 + 1) (l2 + 1) I35))))) else (Option.bind (Mod_draw 3 x6.2) fun x30 => (Option.bind (some (up2 x30.2 206 ((125 + l2).toNatClampNeg) x30.1)) fun I31 => (Mod_doPlough_4 N n l1 (l2 + 1) I31)))))))) else none) else (if x6.1 = 2 then (if in9 (115 + l2) 451 then (if x6.1 = 3 then (if x6.1 ≤ 0 then (Option.bind (Mod_draw 3 x6.2) fun x37 => (Option.bind (some (up2 x37.2 206 ((125 + l2).toNatClampNeg) x37.1)) fun I38 => (Mod_doPlough_4 N n l1 (l2 + 1) I38))) else (Option.bind (Mod_isCell ((x6.2 206 ((105 + l2).toNatClampNeg)) + (-1)) ((x6.2 206 ((115 + l2).toNatClampNeg)) + 1) x6.2) fun x39 => (if x39 then (Option.bind (some (up2 x6.2 206 ((105 + l2).toNatClampNeg) ((x6.2 206 ((105 + l2).toNatClampNeg)) + (-1)))) fun I42 => (Option.bind (some (up2 I42 206 ((115 + l2).toNatClampNeg) ((x6.2 206 ((115 + l2).toNatClampNeg)) + 1))) fun I43 => (Option.bind (Mod_draw 3 I43) fun x44 => (Option.bind (some (up2 x44.2 206 ((125 + l2).toNatClampNeg) x44.1)) fun I45 => (Mod_doPlough_4 N n (l1 + 1) (l2 + 1) I45))))) else (Option.bind (Mod_draw 3 x6.2) fun x40 => (Option.bind (some (up2 x40.2 206 ((125 + l2).toNatClampNeg) x40.1)) fun I41 => (Mod_doPlough_4 N n l1 (l2 + 1) I41)))))) else (if x6.1 = 4 then (if x6.1 ≤ 0 then (Option.bind (Mod_draw 3 x6.2) fun x46 => (Option.bind (some (up2 x46.2 206 ((125 + l2).toNatClampNeg) x46.1)) fun I47 => (Mod_doPlough_4 N n l1 (l2 + 1) I47))) else (Option.bind (Mod_isCell ((x6.2 206 ((105 + l2).toNatClampNeg)) + (-1)) ((x6.2 206 ((115 + l2).toNatClampNeg)) + (-1)) x6.2) fun x48 => (if x48 then (Option.bind (some (up2 x6.2 206 ((105 + l2).toNatClampNeg) ((x6.2 206 ((105 + l2).toNatClampNeg)) + (-1)))) fun I51 => (Option.bind (some (up2 I51 206 ((115 + l2).toNatClampNeg) ((x6.2 206 ((115 + l2).toNatClampNeg)) + (-1)))) fun I52 => (Option.bind (Mod_draw 3 I52) fun x53 => (Option.bind (some (up2 x53.2 206 ((125 + l2).toNatClampNeg) x53.1)) fun I54 => (Mod_doPlough_4 N n (l1 + 1) (l2 + 1) I54))))) else (Option.bind (Mod_draw 3 x6.2) fun x49 => (Option.bind (some (up2 x49.2 206 ((125 + l2).toNatClampNeg) x49.1)) fun I50 => (Mod_doPlough_4 N n l1 (l2 + 1) I50)))))) else (if x6.1 ≤ 0 then (Option.bind (Mod_draw 3 x6.2) fun x55 => (Option.bind (some (up2 x55.2 206 ((125 + l2).toNatClampNeg) x55.1)) fun I56 => (Mod_doPlough_4 N n l1 (l2 + 1) I56))) else (Option.bind (Mod_isCell ((x6.2 206 ((105 + l2).toNatClampNeg)) + (-1)) ((x6.2 206 ((115 + l2).toNatClampNeg)) + 0) x6.2) fun x57 => (if x57 then (Option.bind (some (up2 x6.2 206 ((105 + l2).toNatClampNeg) ((x6.2 206 ((105 + l2).toNatClampNeg)) + (-1)))) fun I60 => (Option.bind (some (up2 I60 206 ((115 + l2).toNatClampNeg) ((x6.2 206 ((115 + l2).toNatClampNeg)) + 0))) fun I61 => (Option.bind (Mod_draw 3 I61) fun x62 => (Option.bind (some (up2 x62.2 206 ((125 + l2).toNatClampNeg) x62.1)) fun I63 => (Mod_doPlough_4 N n (l1 + 1) (l2 + 1) I63))))) else (Option.bind (Mod_draw 3 x6.2) fun x58 => (Option.bind (some (up2 x58.2 206 ((125 + l2).toNatClampNeg) x58.1)) fun I59 => (Mod_doPlough_4 N n l1 (l2 + 1) I59)))))))) else none) else (if in9 (115 + l2) 451 then (if x6.1 = 3 then (if x6.1 ≤ 0 then (Option.bind (Mod_draw 3 x6.2) fun x65 => (Option.bind (some (up2 x65.2 206 ((125 + l2).toNatClampNeg) x65.1)) fun I66 => (Mod_doPlough_4 N n l1 (l2 + 1) I66))) else (Option.bind (Mod_isCell ((x6.2 206 ((105 + l2).toNatClampNeg)) + 0) ((x6.2 206 ((115 + l2).toNatClampNeg)) + 1) x6.2) fun x67 => (if x67 then (Option.bind (some (up2 x6.2 206 ((105 + l2).toNatClampNeg) ((x6.2 206 ((105 + l2).toNatClampNeg)) + 0))) fun I70 => (Option.bind (some (up2 I70 206 ((115 + l2).toNatClampNeg) ((x6.2 206 ((115 + l2).toNatClampNeg)) + 1))) fun I71 => (Option.bind (Mod_draw 3 I71) fun x72 => (Option.bind (some (up2 x72.2 206 ((125 + l2).toNatClampNeg) x72.1)) fun I73 => (Mod_doPlough_4 N n (l1 + 1) (l2 + 1) I73))))) else (Option.bind (Mod_draw 3 x6.2) fun x68 => (Option.bind (some (up2 x68.2 206 ((125 + l2).toNatClampNeg) x68.1)) fun I69 => (Mod_doPlough_4 N n l1 (l2 + 1) I69)))))) else (if x6.1 = 4 then (if x6.1 ≤ 0 then (Option.bind (Mod_draw 3 x6.2) fun x74 => (Option.bind (some (up2 x74.2 206 ((125 + l2).toNatClampNeg) x74.1)) fun I75 => (Mod_doPlough_4 N n l1 (l2 + 1) I75))) else (Option.bind (Mod_isCell ((x6.2 206 ((105 + l2).toNatClampNeg)) + 0) ((x6.2 206 ((115 + l2).toNatClampNeg)) + (-1)) x6.2) fun x76 => (if x76 then (Option.bind (some (up2 x6.2 206 ((105 + l2).toNatClampNeg) ((x6.2 206 ((105 + l2).toNatClampNeg)) + 0))) fun I79 => (Option.bind (some (up2 I79 206 ((115 + l2).toNatClampNeg) ((x6.2 206 ((115 + l2).toNatClampNeg)) + (-1)))) fun I80 => (Option.bind (Mod_draw 3 I80) fun x81 => (Option.bind (some (up2 x81.2 206 ((125 + l2).toNatClampNeg) x81.1)) fun I82 => (Mod_doPlough_4 N n (l1 + 1) (l2 + 1) I82))))) else (Option.bind (Mod_draw 3 x6.2) fun x77 => (Option.bind (some (up2 x77.2 206 ((125 + l2).toNatClampNeg) x77.1)) fun I78 => (Mod_doPlough_4 N n l1 (l2 + 1) I78)))))) else (if x6.1 ≤ 0 then (Option.bind (Mod_draw 3 x6.2) fun x83 => (Option.bind (some (up2 x83.2 206 ((125 + l2).toNatClampNeg) x83.1)) fun I84 => (Mod_doPlough_4 N n l1 (l2 + 1) I84))) else (Option.bind (Mod_isCell ((x6.2 206 ((105 + l2).toNatClampNeg)) + 0) ((x6.2 206 ((115 + l2).toNatClampNeg)) + 0) x6.2) fun x85 => (if x85 then (Option.bind (some (up2 x6.2 206 ((105 + l2).toNatClampNeg) ((x6.2 206 ((105 + l2).toNatClampNeg)) + 0))) fun I88 => (Option.bind (some (up2 I88 206 ((115 + l2).toNatClampNeg) ((x6.2 206 ((115 + l2).toNatClampNeg)) + 0))) fun I89 => (Option.bind (Mod_draw 3 I89) fun x90 => (Option.bind (some (up2 x90.2 206 ((125 + l2).toNatClampNeg) x90.1)) fun I91 => (Mod_doPlough_4 N n (l1 + 1) (l2 + 1) I91))))) else (Option.bind (Mod_draw 3 x6.2) fun x86 => (Option.bind (some (up2 x86.2 206 ((125 + l2).toNatClampNeg) x86.1)) fun I87 => (Mod_doPlough_4 N n l1 (l2 + 1) I87)))))))) else none))) else none)) else (Mod_doPlough_4 N n l1 (l2 + 1) I)) else none) else (Mod_doPlough_4 N n l1 (l2 + 1) I)) else none)
def Mod_doPlough (N : Nat) (I : FI) : Option (Int32 × FI) := Mod_doPlough_4 N N 0 0 I
set_option maxRecDepth 8000 in
theorem t_Mod_doPlough_173 {d : Nat} {N : Nat} {c : Nat × Nat} {S : Nat → Nat × Nat} {P : Nat → Nat → Option Nat} {r : Int32 × FI} (hd : 2 ≤ (d + 1)) (hw : OM S P) : ∀ (n : Nat) (l1 : Int32) (l2 : Int32) (I : FI) (J : FJ), Mod_doPlough_173 N n l1 l2 I = some r → Go (d + 1) M_Mod_doPlough 173 [some (.ref 204), some (.int l1), some (.int l2), none, none, none] [] (c, S, I, J, P) (some (.int r.1), false, (c, S, r.2, J, P)) := by
  intro n
  induction n with
  | zero =>
    intro l1 l2 I J h
    cases h
  | succ n ih =>
    intro l1 l2 I J h
    unfold Mod_doPlough_173 at h
    refine g_iload_n cd234_173 rfl rfl ?_
    refine g_bipush cd234_174 rfl ?_
    refine g_icmp_ge cd234_176 rfl (fun hb => ?_) (fun hb => ?_)
    · have h := ifpE hb h
      refine g_aload_n cd234_196 rfl rfl ?_
      refine g_getP cd234_197 rfl (OM.o hw) (OM.p14 hw) ?_
      refine g_bipush cd234_200 rfl ?_
      refine g_dup2R cd234_202 rfl ?_
      refine G_iald cd234_203 rfl (OM.s14 hw) (by decide) ?_
      refine g_iconst cd234_204 rfl ?_
      refine g_iadd cd234_205 rfl ?_
      obtain ⟨I1, e1, h⟩ := bnd h
      refine G_iast cd234_206 rfl (OM.s14 hw) (by decide) (Option.some.inj e1) ?_
      refine g_iload_n cd234_207 rfl rfl ?_
      exact g_iret cd234_208 (Or.inl rfl) (by obtain rfl := Option.some.inj h; rfl)
    · have h := ifnE hb h
      refine g_aload_n cd234_179 rfl rfl ?_
      refine g_getP cd234_180 rfl (OM.o hw) (OM.p14 hw) ?_
      refine g_sipush cd234_183 rfl ?_
      refine g_iload_n cd234_186 rfl rfl ?_
      refine g_iadd cd234_187 rfl ?_
      refine g_iconst cd234_188 rfl ?_
      obtain ⟨hg2, h⟩ := grd h
      obtain ⟨I3, e1, h⟩ := bnd h
      refine G_iast cd234_189 rfl (OM.s14 hw) hg2 (Option.some.inj e1) ?_
      refine g_iinc (ls2 := [some (.ref 204), some (.int l1), some (.int (l2 + 1)), none, none, none]) cd234_190 rfl rfl rfl ?_
      refine g_goto (ls2 := [some (.ref 204), some (.int l1), some (.int (l2 + 1)), none, none, none]) cd234_193 rfl rfl ?_
      exact ih l1 (l2 + 1) I3 J h
set_option maxRecDepth 8000 in
theorem t_Mod_doPlough_4 {d : Nat} {N : Nat} {c : Nat × Nat} {S : Nat → Nat × Nat} {P : Nat → Nat → Option Nat} {r : Int32 × FI} (hd : 2 ≤ (d + 1)) (hw : OM S P) : ∀ (n : Nat) (l1 : Int32) (l2 : Int32) (I : FI) (J : FJ), Mod_doPlough_4 N n l1 l2 I = some r → Go (d + 1) M_Mod_doPlough 4 [some (.ref 204), some (.int l1), some (.int l2), none, none, none] [] (c, S, I, J, P) (some (.int r.1), false, (c, S, r.2, J, P)) := by
  intro n
  induction n with
  | zero =>
    intro l1 l2 I J h
    cases h
  | succ n ih =>
    intro l1 l2 I J h
    unfold Mod_doPlough_4 at h
    refine g_iload_n cd234_4 rfl rfl ?_
    refine g_aload_n cd234_5 rfl rfl ?_
    refine g_getP cd234_6 rfl (OM.o hw) (OM.p14 hw) ?_
    refine g_iconst cd234_9 rfl ?_
    refine G_iald cd234_10 rfl (OM.s14 hw) (by decide) ?_
    refine g_icmp_ge cd234_11 rfl (fun hb => ?_) (fun hb => ?_)
    · have h := ifpE hb h
      refine g_iconst cd234_171 rfl ?_
      refine g_istore_n (ls2 := [some (.ref 204), some (.int l1), some (.int 0), none, none, none]) cd234_172 rfl rfl ?_
      exact t_Mod_doPlough_173 hd hw _ l1 0 I J h
    · have h := ifnE hb h
      refine g_aload_n cd234_14 rfl rfl ?_
      refine g_getP cd234_15 rfl (OM.o hw) (OM.p14 hw) ?_
      refine g_sipush cd234_18 rfl ?_
      refine g_iload_n cd234_21 rfl rfl ?_
      refine g_iadd cd234_22 rfl ?_
      obtain ⟨hg4, h⟩ := grd h
      refine G_iald cd234_23 rfl (OM.s14 hw) hg4 ?_
      refine g_if_ne cd234_24 rfl (fun hb => ?_) (fun hb => ?_)
      · have h := ifpE hb h
        refine g_aload_n cd234_27 rfl rfl ?_
        refine g_getP cd234_28 rfl (OM.o hw) (OM.p14 hw) ?_
        refine g_bipush cd234_31 rfl ?_
        refine g_iload_n cd234_33 rfl rfl ?_
        refine g_iadd cd234_34 rfl ?_
        obtain ⟨hg5, h⟩ := grd h
        refine G_iald cd234_35 rfl (OM.s14 hw) hg5 ?_
        refine g_iconst cd234_36 rfl ?_
        refine g_icmp_le cd234_37 rfl (fun hb => ?_) (fun hb => ?_)
        · have h := ifpE hb h
          refine g_aload_n cd234_43 rfl rfl ?_
          refine g_iconst cd234_44 rfl ?_
          obtain ⟨x6, hx, h⟩ := bnd h
          refine g_callVI (L := [some (.ref 204), some (.int 5)]) cd234_45 rfl rfl rfl rfl rfl (OM.o hw) (t_Mod_draw (by omega) hw hx) ?_
          refine g_istore_n (ls2 := [some (.ref 204), some (.int l1), some (.int l2), some (.int x6.1), none, none]) cd234_48 rfl rfl ?_
          refine g_aload_n cd234_49 rfl rfl ?_
          refine g_getP cd234_50 rfl (OM.o hw) (OM.p14 hw) ?_
          refine g_bipush cd234_53 rfl ?_
          refine g_iload_n cd234_55 rfl rfl ?_
          refine g_iadd cd234_56 rfl ?_
          obtain ⟨hg7, h⟩ := grd h
          refine G_iald cd234_57 rfl (OM.s14 hw) hg7 ?_
          refine g_iload_n cd234_58 rfl rfl ?_
          refine g_iconst cd234_59 rfl ?_
          refine g_icmp_ne cd234_60 rfl (fun hb => ?_) (fun hb => ?_)
          · have h := ifpE hb h
            refine g_iconst cd234_63 rfl ?_
            refine g_goto (ls2 := [some (.ref 204), some (.int l1), some (.int l2), some (.int x6.1), none, none]) cd234_64 rfl rfl ?_
            refine g_iadd cd234_77 rfl ?_
            refine g_istore (ls2 := [some (.ref 204), some (.int l1), some (.int l2), some (.int x6.1), some (.int ((x6.2 206 ((105 + l2).toNatClampNeg)) + 1)), none]) cd234_78 rfl rfl ?_
            refine g_aload_n cd234_80 rfl rfl ?_
            refine g_getP cd234_81 rfl (OM.o hw) (OM.p14 hw) ?_
            refine g_bipush cd234_84 rfl ?_
            refine g_iload_n cd234_86 rfl rfl ?_
            refine g_iadd cd234_87 rfl ?_
            obtain ⟨hg8, h⟩ := grd h
            refine G_iald cd234_88 rfl (OM.s14 hw) hg8 ?_
            refine g_iload_n cd234_89 rfl rfl ?_
            refine g_iconst cd234_90 rfl ?_
            refine g_icmp_ne cd234_91 rfl (fun hb => ?_) (fun hb => ?_)
            · have h := ifpE hb h
              refine g_iconst cd234_94 rfl ?_
              refine g_goto (ls2 := [some (.ref 204), some (.int l1), some (.int l2), some (.int x6.1), some (.int ((x6.2 206 ((105 + l2).toNatClampNeg)) + 1)), none]) cd234_95 rfl rfl ?_
              refine g_iadd cd234_108 rfl ?_
              refine g_istore (ls2 := [some (.ref 204), some (.int l1), some (.int l2), some (.int x6.1), some (.int ((x6.2 206 ((105 + l2).toNatClampNeg)) + 1)), some (.int ((x6.2 206 ((115 + l2).toNatClampNeg)) + 1))]) cd234_109 rfl rfl ?_
              refine g_iload_n cd234_111 rfl rfl ?_
              refine g_if_le cd234_112 rfl (fun hb => ?_) (fun hb => ?_)
              · have h := ifpE hb h
                refine g_aload_n cd234_151 rfl rfl ?_
                refine g_getP cd234_152 rfl (OM.o hw) (OM.p14 hw) ?_
                refine g_bipush cd234_155 rfl ?_
                refine g_iload_n cd234_157 rfl rfl ?_
                refine g_iadd cd234_158 rfl ?_
                refine g_aload_n cd234_159 rfl rfl ?_
                refine g_iconst cd234_160 rfl ?_
                obtain ⟨x9, hx, h⟩ := bnd h
                refine g_callVI (L := [some (.ref 204), some (.int 3)]) cd234_161 rfl rfl rfl rfl rfl (OM.o hw) (t_Mod_draw (by omega) hw hx) ?_
                obtain ⟨I10, e1, h⟩ := bnd h
                refine G_iast cd234_164 rfl (OM.s14 hw) hg5 (Option.some.inj e1) ?_
                refine go_cut (k := 0) (ls' := [some (.ref 204), some (.int l1), some (.int l2), none, none, none]) cd234_165 rfl ?_
                refine g_iinc (ls2 := [some (.ref 204), some (.int l1), some (.int (l2 + 1)), none, none, none]) cd234_165 rfl rfl rfl ?_
                refine g_goto (ls2 := [some (.ref 204), some (.int l1), some (.int (l2 + 1)), none, none, none]) cd234_168 rfl rfl ?_
                exact ih l1 (l2 + 1) I10 J h
              · have h := ifnE hb h
                refine g_aload_n cd234_115 rfl rfl ?_
                refine g_iload cd234_116 rfl rfl ?_
                refine g_iload cd234_118 rfl rfl ?_
                obtain ⟨x11, hx, h⟩ := bnd h
                refine g_callVZ (L := [some (.ref 204), some (.int ((x6.2 206 ((105 + l2).toNatClampNeg)) + 1)), some (.int ((x6.2 206 ((115 + l2).toNatClampNeg)) + 1))]) cd234_120 rfl rfl rfl rfl rfl (OM.o hw) (t_Mod_isCell (by omega) hw hx) ?_
                refine g_if_eq cd234_123 rfl (fun hb => ?_) (fun hb => ?_)
                · have h := ifnE (b2i_f hb) h
                  refine g_aload_n cd234_151 rfl rfl ?_
                  refine g_getP cd234_152 rfl (OM.o hw) (OM.p14 hw) ?_
                  refine g_bipush cd234_155 rfl ?_
                  refine g_iload_n cd234_157 rfl rfl ?_
                  refine g_iadd cd234_158 rfl ?_
                  refine g_aload_n cd234_159 rfl rfl ?_
                  refine g_iconst cd234_160 rfl ?_
                  obtain ⟨x12, hx, h⟩ := bnd h
                  refine g_callVI (L := [some (.ref 204), some (.int 3)]) cd234_161 rfl rfl rfl rfl rfl (OM.o hw) (t_Mod_draw (by omega) hw hx) ?_
                  obtain ⟨I13, e1, h⟩ := bnd h
                  refine G_iast cd234_164 rfl (OM.s14 hw) hg5 (Option.some.inj e1) ?_
                  refine go_cut (k := 0) (ls' := [some (.ref 204), some (.int l1), some (.int l2), none, none, none]) cd234_165 rfl ?_
                  refine g_iinc (ls2 := [some (.ref 204), some (.int l1), some (.int (l2 + 1)), none, none, none]) cd234_165 rfl rfl rfl ?_
                  refine g_goto (ls2 := [some (.ref 204), some (.int l1), some (.int (l2 + 1)), none, none, none]) cd234_168 rfl rfl ?_
                  exact ih l1 (l2 + 1) I13 J h
                · have h := ifpE (b2i_t hb) h
                  refine g_aload_n cd234_126 rfl rfl ?_
                  refine g_getP cd234_127 rfl (OM.o hw) (OM.p14 hw) ?_
                  refine g_bipush cd234_130 rfl ?_
                  refine g_iload_n cd234_132 rfl rfl ?_
                  refine g_iadd cd234_133 rfl ?_
                  refine g_iload cd234_134 rfl rfl ?_
                  obtain ⟨I14, e1, h⟩ := bnd h
                  refine G_iast cd234_136 rfl (OM.s14 hw) hg7 (Option.some.inj e1) ?_
                  refine g_aload_n cd234_137 rfl rfl ?_
                  refine g_getP cd234_138 rfl (OM.o hw) (OM.p14 hw) ?_
                  refine g_bipush cd234_141 rfl ?_
                  refine g_iload_n cd234_143 rfl rfl ?_
                  refine g_iadd cd234_144 rfl ?_
                  refine g_iload cd234_145 rfl rfl ?_
                  obtain ⟨I15, e1, h⟩ := bnd h
                  refine G_iast cd234_147 rfl (OM.s14 hw) hg8 (Option.some.inj e1) ?_
                  refine g_iinc (ls2 := [some (.ref 204), some (.int (l1 + 1)), some (.int l2), some (.int x6.1), some (.int ((x6.2 206 ((105 + l2).toNatClampNeg)) + 1)), some (.int ((x6.2 206 ((115 + l2).toNatClampNeg)) + 1))]) cd234_148 rfl rfl rfl ?_
                  refine g_aload_n cd234_151 rfl rfl ?_
                  refine g_getP cd234_152 rfl (OM.o hw) (OM.p14 hw) ?_
                  refine g_bipush cd234_155 rfl ?_
                  refine g_iload_n cd234_157 rfl rfl ?_
                  refine g_iadd cd234_158 rfl ?_
                  refine g_aload_n cd234_159 rfl rfl ?_
                  refine g_iconst cd234_160 rfl ?_
                  obtain ⟨x16, hx, h⟩ := bnd h
                  refine g_callVI (L := [some (.ref 204), some (.int 3)]) cd234_161 rfl rfl rfl rfl rfl (OM.o hw) (t_Mod_draw (by omega) hw hx) ?_
                  obtain ⟨I17, e1, h⟩ := bnd h
                  refine G_iast cd234_164 rfl (OM.s14 hw) hg5 (Option.some.inj e1) ?_
                  refine go_cut (k := 0) (ls' := [some (.ref 204), some (.int (l1 + 1)), some (.int l2), none, none, none]) cd234_165 rfl ?_
                  refine g_iinc (ls2 := [some (.ref 204), some (.int (l1 + 1)), some (.int (l2 + 1)), none, none, none]) cd234_165 rfl rfl rfl ?_
                  refine g_goto (ls2 := [some (.ref 204), some (.int (l1 + 1)), some (.int (l2 + 1)), none, none, none]) cd234_168 rfl rfl ?_
                  exact ih (l1 + 1) (l2 + 1) I17 J h
            · have h := ifnE hb h
              refine g_iload_n cd234_98 rfl rfl ?_
              refine g_iconst cd234_99 rfl ?_
              refine g_icmp_ne cd234_100 rfl (fun hb => ?_) (fun hb => ?_)
              · have h := ifpE hb h
                refine g_iconst cd234_103 rfl ?_
                refine g_goto (ls2 := [some (.ref 204), some (.int l1), some (.int l2), some (.int x6.1), some (.int ((x6.2 206 ((105 + l2).toNatClampNeg)) + 1)), none]) cd234_104 rfl rfl ?_
                refine g_iadd cd234_108 rfl ?_
                refine g_istore (ls2 := [some (.ref 204), some (.int l1), some (.int l2), some (.int x6.1), some (.int ((x6.2 206 ((105 + l2).toNatClampNeg)) + 1)), some (.int ((x6.2 206 ((115 + l2).toNatClampNeg)) + (-1)))]) cd234_109 rfl rfl ?_
                refine g_iload_n cd234_111 rfl rfl ?_
                refine g_if_le cd234_112 rfl (fun hb => ?_) (fun hb => ?_)
                · have h := ifpE hb h
                  refine g_aload_n cd234_151 rfl rfl ?_
                  refine g_getP cd234_152 rfl (OM.o hw) (OM.p14 hw) ?_
                  refine g_bipush cd234_155 rfl ?_
                  refine g_iload_n cd234_157 rfl rfl ?_
                  refine g_iadd cd234_158 rfl ?_
                  refine g_aload_n cd234_159 rfl rfl ?_
                  refine g_iconst cd234_160 rfl ?_
                  obtain ⟨x18, hx, h⟩ := bnd h
                  refine g_callVI (L := [some (.ref 204), some (.int 3)]) cd234_161 rfl rfl rfl rfl rfl (OM.o hw) (t_Mod_draw (by omega) hw hx) ?_
                  obtain ⟨I19, e1, h⟩ := bnd h
                  refine G_iast cd234_164 rfl (OM.s14 hw) hg5 (Option.some.inj e1) ?_
                  refine go_cut (k := 0) (ls' := [some (.ref 204), some (.int l1), some (.int l2), none, none, none]) cd234_165 rfl ?_
                  refine g_iinc (ls2 := [some (.ref 204), some (.int l1), some (.int (l2 + 1)), none, none, none]) cd234_165 rfl rfl rfl ?_
                  refine g_goto (ls2 := [some (.ref 204), some (.int l1), some (.int (l2 + 1)), none, none, none]) cd234_168 rfl rfl ?_
                  exact ih l1 (l2 + 1) I19 J h
                · have h := ifnE hb h
                  refine g_aload_n cd234_115 rfl rfl ?_
                  refine g_iload cd234_116 rfl rfl ?_
                  refine g_iload cd234_118 rfl rfl ?_
                  obtain ⟨x20, hx, h⟩ := bnd h
                  refine g_callVZ (L := [some (.ref 204), some (.int ((x6.2 206 ((105 + l2).toNatClampNeg)) + 1)), some (.int ((x6.2 206 ((115 + l2).toNatClampNeg)) + (-1)))]) cd234_120 rfl rfl rfl rfl rfl (OM.o hw) (t_Mod_isCell (by omega) hw hx) ?_
                  refine g_if_eq cd234_123 rfl (fun hb => ?_) (fun hb => ?_)
                  · have h := ifnE (b2i_f hb) h
                    refine g_aload_n cd234_151 rfl rfl ?_
                    refine g_getP cd234_152 rfl (OM.o hw) (OM.p14 hw) ?_
                    refine g_bipush cd234_155 rfl ?_
                    refine g_iload_n cd234_157 rfl rfl ?_
                    refine g_iadd cd234_158 rfl ?_
                    refine g_aload_n cd234_159 rfl rfl ?_
                    refine g_iconst cd234_160 rfl ?_
                    obtain ⟨x21, hx, h⟩ := bnd h
                    refine g_callVI (L := [some (.ref 204), some (.int 3)]) cd234_161 rfl rfl rfl rfl rfl (OM.o hw) (t_Mod_draw (by omega) hw hx) ?_
                    obtain ⟨I22, e1, h⟩ := bnd h
                    refine G_iast cd234_164 rfl (OM.s14 hw) hg5 (Option.some.inj e1) ?_
                    refine go_cut (k := 0) (ls' := [some (.ref 204), some (.int l1), some (.int l2), none, none, none]) cd234_165 rfl ?_
                    refine g_iinc (ls2 := [some (.ref 204), some (.int l1), some (.int (l2 + 1)), none, none, none]) cd234_165 rfl rfl rfl ?_
                    refine g_goto (ls2 := [some (.ref 204), some (.int l1), some (.int (l2 + 1)), none, none, none]) cd234_168 rfl rfl ?_
                    exact ih l1 (l2 + 1) I22 J h
                  · have h := ifpE (b2i_t hb) h
                    refine g_aload_n cd234_126 rfl rfl ?_
                    refine g_getP cd234_127 rfl (OM.o hw) (OM.p14 hw) ?_
                    refine g_bipush cd234_130 rfl ?_
                    refine g_iload_n cd234_132 rfl rfl ?_
                    refine g_iadd cd234_133 rfl ?_
                    refine g_iload cd234_134 rfl rfl ?_
                    obtain ⟨I23, e1, h⟩ := bnd h
                    refine G_iast cd234_136 rfl (OM.s14 hw) hg7 (Option.some.inj e1) ?_
                    refine g_aload_n cd234_137 rfl rfl ?_
                    refine g_getP cd234_138 rfl (OM.o hw) (OM.p14 hw) ?_
                    refine g_bipush cd234_141 rfl ?_
                    refine g_iload_n cd234_143 rfl rfl ?_
                    refine g_iadd cd234_144 rfl ?_
                    refine g_iload cd234_145 rfl rfl ?_
                    obtain ⟨I24, e1, h⟩ := bnd h
                    refine G_iast cd234_147 rfl (OM.s14 hw) hg8 (Option.some.inj e1) ?_
                    refine g_iinc (ls2 := [some (.ref 204), some (.int (l1 + 1)), some (.int l2), some (.int x6.1), some (.int ((x6.2 206 ((105 + l2).toNatClampNeg)) + 1)), some (.int ((x6.2 206 ((115 + l2).toNatClampNeg)) + (-1)))]) cd234_148 rfl rfl rfl ?_
                    refine g_aload_n cd234_151 rfl rfl ?_
                    refine g_getP cd234_152 rfl (OM.o hw) (OM.p14 hw) ?_
                    refine g_bipush cd234_155 rfl ?_
                    refine g_iload_n cd234_157 rfl rfl ?_
                    refine g_iadd cd234_158 rfl ?_
                    refine g_aload_n cd234_159 rfl rfl ?_
                    refine g_iconst cd234_160 rfl ?_
                    obtain ⟨x25, hx, h⟩ := bnd h
                    refine g_callVI (L := [some (.ref 204), some (.int 3)]) cd234_161 rfl rfl rfl rfl rfl (OM.o hw) (t_Mod_draw (by omega) hw hx) ?_
                    obtain ⟨I26, e1, h⟩ := bnd h
                    refine G_iast cd234_164 rfl (OM.s14 hw) hg5 (Option.some.inj e1) ?_
                    refine go_cut (k := 0) (ls' := [some (.ref 204), some (.int (l1 + 1)), some (.int l2), none, none, none]) cd234_165 rfl ?_
                    refine g_iinc (ls2 := [some (.ref 204), some (.int (l1 + 1)), some (.int (l2 + 1)), none, none, none]) cd234_165 rfl rfl rfl ?_
                    refine g_goto (ls2 := [some (.ref 204), some (.int (l1 + 1)), some (.int (l2 + 1)), none, none, none]) cd234_168 rfl rfl ?_
                    exact ih (l1 + 1) (l2 + 1) I26 J h
              · have h := ifnE hb h
                refine g_iconst cd234_107 rfl ?_
                refine g_iadd cd234_108 rfl ?_
                refine g_istore (ls2 := [some (.ref 204), some (.int l1), some (.int l2), some (.int x6.1), some (.int ((x6.2 206 ((105 + l2).toNatClampNeg)) + 1)), some (.int ((x6.2 206 ((115 + l2).toNatClampNeg)) + 0))]) cd234_109 rfl rfl ?_
                refine g_iload_n cd234_111 rfl rfl ?_
                refine g_if_le cd234_112 rfl (fun hb => ?_) (fun hb => ?_)
                · have h := ifpE hb h
                  refine g_aload_n cd234_151 rfl rfl ?_
                  refine g_getP cd234_152 rfl (OM.o hw) (OM.p14 hw) ?_
                  refine g_bipush cd234_155 rfl ?_
                  refine g_iload_n cd234_157 rfl rfl ?_
                  refine g_iadd cd234_158 rfl ?_
                  refine g_aload_n cd234_159 rfl rfl ?_
                  refine g_iconst cd234_160 rfl ?_
                  obtain ⟨x27, hx, h⟩ := bnd h
                  refine g_callVI (L := [some (.ref 204), some (.int 3)]) cd234_161 rfl rfl rfl rfl rfl (OM.o hw) (t_Mod_draw (by omega) hw hx) ?_
                  obtain ⟨I28, e1, h⟩ := bnd h
                  refine G_iast cd234_164 rfl (OM.s14 hw) hg5 (Option.some.inj e1) ?_
                  refine go_cut (k := 0) (ls' := [some (.ref 204), some (.int l1), some (.int l2), none, none, none]) cd234_165 rfl ?_
                  refine g_iinc (ls2 := [some (.ref 204), some (.int l1), some (.int (l2 + 1)), none, none, none]) cd234_165 rfl rfl rfl ?_
                  refine g_goto (ls2 := [some (.ref 204), some (.int l1), some (.int (l2 + 1)), none, none, none]) cd234_168 rfl rfl ?_
                  exact ih l1 (l2 + 1) I28 J h
                · have h := ifnE hb h
                  refine g_aload_n cd234_115 rfl rfl ?_
                  refine g_iload cd234_116 rfl rfl ?_
                  refine g_iload cd234_118 rfl rfl ?_
                  obtain ⟨x29, hx, h⟩ := bnd h
                  refine g_callVZ (L := [some (.ref 204), some (.int ((x6.2 206 ((105 + l2).toNatClampNeg)) + 1)), some (.int ((x6.2 206 ((115 + l2).toNatClampNeg)) + 0))]) cd234_120 rfl rfl rfl rfl rfl (OM.o hw) (t_Mod_isCell (by omega) hw hx) ?_
                  refine g_if_eq cd234_123 rfl (fun hb => ?_) (fun hb => ?_)
                  · have h := ifnE (b2i_f hb) h
                    refine g_aload_n cd234_151 rfl rfl ?_
                    refine g_getP cd234_152 rfl (OM.o hw) (OM.p14 hw) ?_
                    refine g_bipush cd234_155 rfl ?_
                    refine g_iload_n cd234_157 rfl rfl ?_
                    refine g_iadd cd234_158 rfl ?_
                    refine g_aload_n cd234_159 rfl rfl ?_
                    refine g_iconst cd234_160 rfl ?_
                    obtain ⟨x30, hx, h⟩ := bnd h
                    refine g_callVI (L := [some (.ref 204), some (.int 3)]) cd234_161 rfl rfl rfl rfl rfl (OM.o hw) (t_Mod_draw (by omega) hw hx) ?_
                    obtain ⟨I31, e1, h⟩ := bnd h
                    refine G_iast cd234_164 rfl (OM.s14 hw) hg5 (Option.some.inj e1) ?_
                    refine go_cut (k := 0) (ls' := [some (.ref 204), some (.int l1), some (.int l2), none, none, none]) cd234_165 rfl ?_
                    refine g_iinc (ls2 := [some (.ref 204), some (.int l1), some (.int (l2 + 1)), none, none, none]) cd234_165 rfl rfl rfl ?_
                    refine g_goto (ls2 := [some (.ref 204), some (.int l1), some (.int (l2 + 1)), none, none, none]) cd234_168 rfl rfl ?_
                    exact ih l1 (l2 + 1) I31 J h
                  · have h := ifpE (b2i_t hb) h
                    refine g_aload_n cd234_126 rfl rfl ?_
                    refine g_getP cd234_127 rfl (OM.o hw) (OM.p14 hw) ?_
                    refine g_bipush cd234_130 rfl ?_
                    refine g_iload_n cd234_132 rfl rfl ?_
                    refine g_iadd cd234_133 rfl ?_
                    refine g_iload cd234_134 rfl rfl ?_
                    obtain ⟨I32, e1, h⟩ := bnd h
                    refine G_iast cd234_136 rfl (OM.s14 hw) hg7 (Option.some.inj e1) ?_
                    refine g_aload_n cd234_137 rfl rfl ?_
                    refine g_getP cd234_138 rfl (OM.o hw) (OM.p14 hw) ?_
                    refine g_bipush cd234_141 rfl ?_
                    refine g_iload_n cd234_143 rfl rfl ?_
                    refine g_iadd cd234_144 rfl ?_
                    refine g_iload cd234_145 rfl rfl ?_
                    obtain ⟨I33, e1, h⟩ := bnd h
                    refine G_iast cd234_147 rfl (OM.s14 hw) hg8 (Option.some.inj e1) ?_
                    refine g_iinc (ls2 := [some (.ref 204), some (.int (l1 + 1)), some (.int l2), some (.int x6.1), some (.int ((x6.2 206 ((105 + l2).toNatClampNeg)) + 1)), some (.int ((x6.2 206 ((115 + l2).toNatClampNeg)) + 0))]) cd234_148 rfl rfl rfl ?_
                    refine g_aload_n cd234_151 rfl rfl ?_
                    refine g_getP cd234_152 rfl (OM.o hw) (OM.p14 hw) ?_
                    refine g_bipush cd234_155 rfl ?_
                    refine g_iload_n cd234_157 rfl rfl ?_
                    refine g_iadd cd234_158 rfl ?_
                    refine g_aload_n cd234_159 rfl rfl ?_
                    refine g_iconst cd234_160 rfl ?_
                    obtain ⟨x34, hx, h⟩ := bnd h
                    refine g_callVI (L := [some (.ref 204), some (.int 3)]) cd234_161 rfl rfl rfl rfl rfl (OM.o hw) (t_Mod_draw (by omega) hw hx) ?_
                    obtain ⟨I35, e1, h⟩ := bnd h
                    refine G_iast cd234_164 rfl (OM.s14 hw) hg5 (Option.some.inj e1) ?_
                    refine go_cut (k := 0) (ls' := [some (.ref 204), some (.int (l1 + 1)), some (.int l2), none, none, none]) cd234_165 rfl ?_
                    refine g_iinc (ls2 := [some (.ref 204), some (.int (l1 + 1)), some (.int (l2 + 1)), none, none, none]) cd234_165 rfl rfl rfl ?_
                    refine g_goto (ls2 := [some (.ref 204), some (.int (l1 + 1)), some (.int (l2 + 1)), none, none, none]) cd234_168 rfl rfl ?_
                    exact ih (l1 + 1) (l2 + 1) I35 J h
          · have h := ifnE hb h
            refine g_iload_n cd234_67 rfl rfl ?_
            refine g_iconst cd234_68 rfl ?_
            refine g_icmp_ne cd234_69 rfl (fun hb => ?_) (fun hb => ?_)
            · have h := ifpE hb h
              refine g_iconst cd234_72 rfl ?_
              refine g_goto (ls2 := [some (.ref 204), some (.int l1), some (.int l2), some (.int x6.1), none, none]) cd234_73 rfl rfl ?_
              refine g_iadd cd234_77 rfl ?_
              refine g_istore (ls2 := [some (.ref 204), some (.int l1), some (.int l2), some (.int x6.1), some (.int ((x6.2 206 ((105 + l2).toNatClampNeg)) + (-1))), none]) cd234_78 rfl rfl ?_
              refine g_aload_n cd234_80 rfl rfl ?_
              refine g_getP cd234_81 rfl (OM.o hw) (OM.p14 hw) ?_
              refine g_bipush cd234_84 rfl ?_
              refine g_iload_n cd234_86 rfl rfl ?_
              refine g_iadd cd234_87 rfl ?_
              obtain ⟨hg36, h⟩ := grd h
              refine G_iald cd234_88 rfl (OM.s14 hw) hg36 ?_
              refine g_iload_n cd234_89 rfl rfl ?_
              refine g_iconst cd234_90 rfl ?_
              refine g_icmp_ne cd234_91 rfl (fun hb => ?_) (fun hb => ?_)
              · have h := ifpE hb h
                refine g_iconst cd234_94 rfl ?_
                refine g_goto (ls2 := [some (.ref 204), some (.int l1), some (.int l2), some (.int x6.1), some (.int ((x6.2 206 ((105 + l2).toNatClampNeg)) + (-1))), none]) cd234_95 rfl rfl ?_
                refine g_iadd cd234_108 rfl ?_
                refine g_istore (ls2 := [some (.ref 204), some (.int l1), some (.int l2), some (.int x6.1), some (.int ((x6.2 206 ((105 + l2).toNatClampNeg)) + (-1))), some (.int ((x6.2 206 ((115 + l2).toNatClampNeg)) + 1))]) cd234_109 rfl rfl ?_
                refine g_iload_n cd234_111 rfl rfl ?_
                refine g_if_le cd234_112 rfl (fun hb => ?_) (fun hb => ?_)
                · have h := ifpE hb h
                  refine g_aload_n cd234_151 rfl rfl ?_
                  refine g_getP cd234_152 rfl (OM.o hw) (OM.p14 hw) ?_
                  refine g_bipush cd234_155 rfl ?_
                  refine g_iload_n cd234_157 rfl rfl ?_
                  refine g_iadd cd234_158 rfl ?_
                  refine g_aload_n cd234_159 rfl rfl ?_
                  refine g_iconst cd234_160 rfl ?_
                  obtain ⟨x37, hx, h⟩ := bnd h
                  refine g_callVI (L := [some (.ref 204), some (.int 3)]) cd234_161 rfl rfl rfl rfl rfl (OM.o hw) (t_Mod_draw (by omega) hw hx) ?_
                  obtain ⟨I38, e1, h⟩ := bnd h
                  refine G_iast cd234_164 rfl (OM.s14 hw) hg5 (Option.some.inj e1) ?_
                  refine go_cut (k := 0) (ls' := [some (.ref 204), some (.int l1), some (.int l2), none, none, none]) cd234_165 rfl ?_
                  refine g_iinc (ls2 := [some (.ref 204), some (.int l1), some (.int (l2 + 1)), none, none, none]) cd234_165 rfl rfl rfl ?_
                  refine g_goto (ls2 := [some (.ref 204), some (.int l1), some (.int (l2 + 1)), none, none, none]) cd234_168 rfl rfl ?_
                  exact ih l1 (l2 + 1) I38 J h
                · have h := ifnE hb h
                  refine g_aload_n cd234_115 rfl rfl ?_
                  refine g_iload cd234_116 rfl rfl ?_
                  refine g_iload cd234_118 rfl rfl ?_
                  obtain ⟨x39, hx, h⟩ := bnd h
                  refine g_callVZ (L := [some (.ref 204), some (.int ((x6.2 206 ((105 + l2).toNatClampNeg)) + (-1))), some (.int ((x6.2 206 ((115 + l2).toNatClampNeg)) + 1))]) cd234_120 rfl rfl rfl rfl rfl (OM.o hw) (t_Mod_isCell (by omega) hw hx) ?_
                  refine g_if_eq cd234_123 rfl (fun hb => ?_) (fun hb => ?_)
                  · have h := ifnE (b2i_f hb) h
                    refine g_aload_n cd234_151 rfl rfl ?_
                    refine g_getP cd234_152 rfl (OM.o hw) (OM.p14 hw) ?_
                    refine g_bipush cd234_155 rfl ?_
                    refine g_iload_n cd234_157 rfl rfl ?_
                    refine g_iadd cd234_158 rfl ?_
                    refine g_aload_n cd234_159 rfl rfl ?_
                    refine g_iconst cd234_160 rfl ?_
                    obtain ⟨x40, hx, h⟩ := bnd h
                    refine g_callVI (L := [some (.ref 204), some (.int 3)]) cd234_161 rfl rfl rfl rfl rfl (OM.o hw) (t_Mod_draw (by omega) hw hx) ?_
                    obtain ⟨I41, e1, h⟩ := bnd h
                    refine G_iast cd234_164 rfl (OM.s14 hw) hg5 (Option.some.inj e1) ?_
                    refine go_cut (k := 0) (ls' := [some (.ref 204), some (.int l1), some (.int l2), none, none, none]) cd234_165 rfl ?_
                    refine g_iinc (ls2 := [some (.ref 204), some (.int l1), some (.int (l2 + 1)), none, none, none]) cd234_165 rfl rfl rfl ?_
                    refine g_goto (ls2 := [some (.ref 204), some (.int l1), some (.int (l2 + 1)), none, none, none]) cd234_168 rfl rfl ?_
                    exact ih l1 (l2 + 1) I41 J h
                  · have h := ifpE (b2i_t hb) h
                    refine g_aload_n cd234_126 rfl rfl ?_
                    refine g_getP cd234_127 rfl (OM.o hw) (OM.p14 hw) ?_
                    refine g_bipush cd234_130 rfl ?_
                    refine g_iload_n cd234_132 rfl rfl ?_
                    refine g_iadd cd234_133 rfl ?_
                    refine g_iload cd234_134 rfl rfl ?_
                    obtain ⟨I42, e1, h⟩ := bnd h
                    refine G_iast cd234_136 rfl (OM.s14 hw) hg7 (Option.some.inj e1) ?_
                    refine g_aload_n cd234_137 rfl rfl ?_
                    refine g_getP cd234_138 rfl (OM.o hw) (OM.p14 hw) ?_
                    refine g_bipush cd234_141 rfl ?_
                    refine g_iload_n cd234_143 rfl rfl ?_
                    refine g_iadd cd234_144 rfl ?_
                    refine g_iload cd234_145 rfl rfl ?_
                    obtain ⟨I43, e1, h⟩ := bnd h
                    refine G_iast cd234_147 rfl (OM.s14 hw) hg36 (Option.some.inj e1) ?_
                    refine g_iinc (ls2 := [some (.ref 204), some (.int (l1 + 1)), some (.int l2), some (.int x6.1), some (.int ((x6.2 206 ((105 + l2).toNatClampNeg)) + (-1))), some (.int ((x6.2 206 ((115 + l2).toNatClampNeg)) + 1))]) cd234_148 rfl rfl rfl ?_
                    refine g_aload_n cd234_151 rfl rfl ?_
                    refine g_getP cd234_152 rfl (OM.o hw) (OM.p14 hw) ?_
                    refine g_bipush cd234_155 rfl ?_
                    refine g_iload_n cd234_157 rfl rfl ?_
                    refine g_iadd cd234_158 rfl ?_
                    refine g_aload_n cd234_159 rfl rfl ?_
                    refine g_iconst cd234_160 rfl ?_
                    obtain ⟨x44, hx, h⟩ := bnd h
                    refine g_callVI (L := [some (.ref 204), some (.int 3)]) cd234_161 rfl rfl rfl rfl rfl (OM.o hw) (t_Mod_draw (by omega) hw hx) ?_
                    obtain ⟨I45, e1, h⟩ := bnd h
                    refine G_iast cd234_164 rfl (OM.s14 hw) hg5 (Option.some.inj e1) ?_
                    refine go_cut (k := 0) (ls' := [some (.ref 204), some (.int (l1 + 1)), some (.int l2), none, none, none]) cd234_165 rfl ?_
                    refine g_iinc (ls2 := [some (.ref 204), some (.int (l1 + 1)), some (.int (l2 + 1)), none, none, none]) cd234_165 rfl rfl rfl ?_
                    refine g_goto (ls2 := [some (.ref 204), some (.int (l1 + 1)), some (.int (l2 + 1)), none, none, none]) cd234_168 rfl rfl ?_
                    exact ih (l1 + 1) (l2 + 1) I45 J h
              · have h := ifnE hb h
                refine g_iload_n cd234_98 rfl rfl ?_
                refine g_iconst cd234_99 rfl ?_
                refine g_icmp_ne cd234_100 rfl (fun hb => ?_) (fun hb => ?_)
                · have h := ifpE hb h
                  refine g_iconst cd234_103 rfl ?_
                  refine g_goto (ls2 := [some (.ref 204), some (.int l1), some (.int l2), some (.int x6.1), some (.int ((x6.2 206 ((105 + l2).toNatClampNeg)) + (-1))), none]) cd234_104 rfl rfl ?_
                  refine g_iadd cd234_108 rfl ?_
                  refine g_istore (ls2 := [some (.ref 204), some (.int l1), some (.int l2), some (.int x6.1), some (.int ((x6.2 206 ((105 + l2).toNatClampNeg)) + (-1))), some (.int ((x6.2 206 ((115 + l2).toNatClampNeg)) + (-1)))]) cd234_109 rfl rfl ?_
                  refine g_iload_n cd234_111 rfl rfl ?_
                  refine g_if_le cd234_112 rfl (fun hb => ?_) (fun hb => ?_)
                  · have h := ifpE hb h
                    refine g_aload_n cd234_151 rfl rfl ?_
                    refine g_getP cd234_152 rfl (OM.o hw) (OM.p14 hw) ?_
                    refine g_bipush cd234_155 rfl ?_
                    refine g_iload_n cd234_157 rfl rfl ?_
                    refine g_iadd cd234_158 rfl ?_
                    refine g_aload_n cd234_159 rfl rfl ?_
                    refine g_iconst cd234_160 rfl ?_
                    obtain ⟨x46, hx, h⟩ := bnd h
                    refine g_callVI (L := [some (.ref 204), some (.int 3)]) cd234_161 rfl rfl rfl rfl rfl (OM.o hw) (t_Mod_draw (by omega) hw hx) ?_
                    obtain ⟨I47, e1, h⟩ := bnd h
                    refine G_iast cd234_164 rfl (OM.s14 hw) hg5 (Option.some.inj e1) ?_
                    refine go_cut (k := 0) (ls' := [some (.ref 204), some (.int l1), some (.int l2), none, none, none]) cd234_165 rfl ?_
                    refine g_iinc (ls2 := [some (.ref 204), some (.int l1), some (.int (l2 + 1)), none, none, none]) cd234_165 rfl rfl rfl ?_
                    refine g_goto (ls2 := [some (.ref 204), some (.int l1), some (.int (l2 + 1)), none, none, none]) cd234_168 rfl rfl ?_
                    exact ih l1 (l2 + 1) I47 J h
                  · have h := ifnE hb h
                    refine g_aload_n cd234_115 rfl rfl ?_
                    refine g_iload cd234_116 rfl rfl ?_
                    refine g_iload cd234_118 rfl rfl ?_
                    obtain ⟨x48, hx, h⟩ := bnd h
                    refine g_callVZ (L := [some (.ref 204), some (.int ((x6.2 206 ((105 + l2).toNatClampNeg)) + (-1))), some (.int ((x6.2 206 ((115 + l2).toNatClampNeg)) + (-1)))]) cd234_120 rfl rfl rfl rfl rfl (OM.o hw) (t_Mod_isCell (by omega) hw hx) ?_
                    refine g_if_eq cd234_123 rfl (fun hb => ?_) (fun hb => ?_)
                    · have h := ifnE (b2i_f hb) h
                      refine g_aload_n cd234_151 rfl rfl ?_
                      refine g_getP cd234_152 rfl (OM.o hw) (OM.p14 hw) ?_
                      refine g_bipush cd234_155 rfl ?_
                      refine g_iload_n cd234_157 rfl rfl ?_
                      refine g_iadd cd234_158 rfl ?_
                      refine g_aload_n cd234_159 rfl rfl ?_
                      refine g_iconst cd234_160 rfl ?_
                      obtain ⟨x49, hx, h⟩ := bnd h
                      refine g_callVI (L := [some (.ref 204), some (.int 3)]) cd234_161 rfl rfl rfl rfl rfl (OM.o hw) (t_Mod_draw (by omega) hw hx) ?_
                      obtain ⟨I50, e1, h⟩ := bnd h
                      refine G_iast cd234_164 rfl (OM.s14 hw) hg5 (Option.some.inj e1) ?_
                      refine go_cut (k := 0) (ls' := [some (.ref 204), some (.int l1), some (.int l2), none, none, none]) cd234_165 rfl ?_
                      refine g_iinc (ls2 := [some (.ref 204), some (.int l1), some (.int (l2 + 1)), none, none, none]) cd234_165 rfl rfl rfl ?_
                      refine g_goto (ls2 := [some (.ref 204), some (.int l1), some (.int (l2 + 1)), none, none, none]) cd234_168 rfl rfl ?_
                      exact ih l1 (l2 + 1) I50 J h
                    · have h := ifpE (b2i_t hb) h
                      refine g_aload_n cd234_126 rfl rfl ?_
                      refine g_getP cd234_127 rfl (OM.o hw) (OM.p14 hw) ?_
                      refine g_bipush cd234_130 rfl ?_
                      refine g_iload_n cd234_132 rfl rfl ?_
                      refine g_iadd cd234_133 rfl ?_
                      refine g_iload cd234_134 rfl rfl ?_
                      obtain ⟨I51, e1, h⟩ := bnd h
                      refine G_iast cd234_136 rfl (OM.s14 hw) hg7 (Option.some.inj e1) ?_
                      refine g_aload_n cd234_137 rfl rfl ?_
                      refine g_getP cd234_138 rfl (OM.o hw) (OM.p14 hw) ?_
                      refine g_bipush cd234_141 rfl ?_
                      refine g_iload_n cd234_143 rfl rfl ?_
                      refine g_iadd cd234_144 rfl ?_
                      refine g_iload cd234_145 rfl rfl ?_
                      obtain ⟨I52, e1, h⟩ := bnd h
                      refine G_iast cd234_147 rfl (OM.s14 hw) hg36 (Option.some.inj e1) ?_
                      refine g_iinc (ls2 := [some (.ref 204), some (.int (l1 + 1)), some (.int l2), some (.int x6.1), some (.int ((x6.2 206 ((105 + l2).toNatClampNeg)) + (-1))), some (.int ((x6.2 206 ((115 + l2).toNatClampNeg)) + (-1)))]) cd234_148 rfl rfl rfl ?_
                      refine g_aload_n cd234_151 rfl rfl ?_
                      refine g_getP cd234_152 rfl (OM.o hw) (OM.p14 hw) ?_
                      refine g_bipush cd234_155 rfl ?_
                      refine g_iload_n cd234_157 rfl rfl ?_
                      refine g_iadd cd234_158 rfl ?_
                      refine g_aload_n cd234_159 rfl rfl ?_
                      refine g_iconst cd234_160 rfl ?_
                      obtain ⟨x53, hx, h⟩ := bnd h
                      refine g_callVI (L := [some (.ref 204), some (.int 3)]) cd234_161 rfl rfl rfl rfl rfl (OM.o hw) (t_Mod_draw (by omega) hw hx) ?_
                      obtain ⟨I54, e1, h⟩ := bnd h
                      refine G_iast cd234_164 rfl (OM.s14 hw) hg5 (Option.some.inj e1) ?_
                      refine go_cut (k := 0) (ls' := [some (.ref 204), some (.int (l1 + 1)), some (.int l2), none, none, none]) cd234_165 rfl ?_
                      refine g_iinc (ls2 := [some (.ref 204), some (.int (l1 + 1)), some (.int (l2 + 1)), none, none, none]) cd234_165 rfl rfl rfl ?_
                      refine g_goto (ls2 := [some (.ref 204), some (.int (l1 + 1)), some (.int (l2 + 1)), none, none, none]) cd234_168 rfl rfl ?_
                      exact ih (l1 + 1) (l2 + 1) I54 J h
                · have h := ifnE hb h
                  refine g_iconst cd234_107 rfl ?_
                  refine g_iadd cd234_108 rfl ?_
                  refine g_istore (ls2 := [some (.ref 204), some (.int l1), some (.int l2), some (.int x6.1), some (.int ((x6.2 206 ((105 + l2).toNatClampNeg)) + (-1))), some (.int ((x6.2 206 ((115 + l2).toNatClampNeg)) + 0))]) cd234_109 rfl rfl ?_
                  refine g_iload_n cd234_111 rfl rfl ?_
                  refine g_if_le cd234_112 rfl (fun hb => ?_) (fun hb => ?_)
                  · have h := ifpE hb h
                    refine g_aload_n cd234_151 rfl rfl ?_
                    refine g_getP cd234_152 rfl (OM.o hw) (OM.p14 hw) ?_
                    refine g_bipush cd234_155 rfl ?_
                    refine g_iload_n cd234_157 rfl rfl ?_
                    refine g_iadd cd234_158 rfl ?_
                    refine g_aload_n cd234_159 rfl rfl ?_
                    refine g_iconst cd234_160 rfl ?_
                    obtain ⟨x55, hx, h⟩ := bnd h
                    refine g_callVI (L := [some (.ref 204), some (.int 3)]) cd234_161 rfl rfl rfl rfl rfl (OM.o hw) (t_Mod_draw (by omega) hw hx) ?_
                    obtain ⟨I56, e1, h⟩ := bnd h
                    refine G_iast cd234_164 rfl (OM.s14 hw) hg5 (Option.some.inj e1) ?_
                    refine go_cut (k := 0) (ls' := [some (.ref 204), some (.int l1), some (.int l2), none, none, none]) cd234_165 rfl ?_
                    refine g_iinc (ls2 := [some (.ref 204), some (.int l1), some (.int (l2 + 1)), none, none, none]) cd234_165 rfl rfl rfl ?_
                    refine g_goto (ls2 := [some (.ref 204), some (.int l1), some (.int (l2 + 1)), none, none, none]) cd234_168 rfl rfl ?_
                    exact ih l1 (l2 + 1) I56 J h
                  · have h := ifnE hb h
                    refine g_aload_n cd234_115 rfl rfl ?_
                    refine g_iload cd234_116 rfl rfl ?_
                    refine g_iload cd234_118 rfl rfl ?_
                    obtain ⟨x57, hx, h⟩ := bnd h
                    refine g_callVZ (L := [some (.ref 204), some (.int ((x6.2 206 ((105 + l2).toNatClampNeg)) + (-1))), some (.int ((x6.2 206 ((115 + l2).toNatClampNeg)) + 0))]) cd234_120 rfl rfl rfl rfl rfl (OM.o hw) (t_Mod_isCell (by omega) hw hx) ?_
                    refine g_if_eq cd234_123 rfl (fun hb => ?_) (fun hb => ?_)
                    · have h := ifnE (b2i_f hb) h
                      refine g_aload_n cd234_151 rfl rfl ?_
                      refine g_getP cd234_152 rfl (OM.o hw) (OM.p14 hw) ?_
                      refine g_bipush cd234_155 rfl ?_
                      refine g_iload_n cd234_157 rfl rfl ?_
                      refine g_iadd cd234_158 rfl ?_
                      refine g_aload_n cd234_159 rfl rfl ?_
                      refine g_iconst cd234_160 rfl ?_
                      obtain ⟨x58, hx, h⟩ := bnd h
                      refine g_callVI (L := [some (.ref 204), some (.int 3)]) cd234_161 rfl rfl rfl rfl rfl (OM.o hw) (t_Mod_draw (by omega) hw hx) ?_
                      obtain ⟨I59, e1, h⟩ := bnd h
                      refine G_iast cd234_164 rfl (OM.s14 hw) hg5 (Option.some.inj e1) ?_
                      refine go_cut (k := 0) (ls' := [some (.ref 204), some (.int l1), some (.int l2), none, none, none]) cd234_165 rfl ?_
                      refine g_iinc (ls2 := [some (.ref 204), some (.int l1), some (.int (l2 + 1)), none, none, none]) cd234_165 rfl rfl rfl ?_
                      refine g_goto (ls2 := [some (.ref 204), some (.int l1), some (.int (l2 + 1)), none, none, none]) cd234_168 rfl rfl ?_
                      exact ih l1 (l2 + 1) I59 J h
                    · have h := ifpE (b2i_t hb) h
                      refine g_aload_n cd234_126 rfl rfl ?_
                      refine g_getP cd234_127 rfl (OM.o hw) (OM.p14 hw) ?_
                      refine g_bipush cd234_130 rfl ?_
                      refine g_iload_n cd234_132 rfl rfl ?_
                      refine g_iadd cd234_133 rfl ?_
                      refine g_iload cd234_134 rfl rfl ?_
                      obtain ⟨I60, e1, h⟩ := bnd h
                      refine G_iast cd234_136 rfl (OM.s14 hw) hg7 (Option.some.inj e1) ?_
                      refine g_aload_n cd234_137 rfl rfl ?_
                      refine g_getP cd234_138 rfl (OM.o hw) (OM.p14 hw) ?_
                      refine g_bipush cd234_141 rfl ?_
                      refine g_iload_n cd234_143 rfl rfl ?_
                      refine g_iadd cd234_144 rfl ?_
                      refine g_iload cd234_145 rfl rfl ?_
                      obtain ⟨I61, e1, h⟩ := bnd h
                      refine G_iast cd234_147 rfl (OM.s14 hw) hg36 (Option.some.inj e1) ?_
                      refine g_iinc (ls2 := [some (.ref 204), some (.int (l1 + 1)), some (.int l2), some (.int x6.1), some (.int ((x6.2 206 ((105 + l2).toNatClampNeg)) + (-1))), some (.int ((x6.2 206 ((115 + l2).toNatClampNeg)) + 0))]) cd234_148 rfl rfl rfl ?_
                      refine g_aload_n cd234_151 rfl rfl ?_
                      refine g_getP cd234_152 rfl (OM.o hw) (OM.p14 hw) ?_
                      refine g_bipush cd234_155 rfl ?_
                      refine g_iload_n cd234_157 rfl rfl ?_
                      refine g_iadd cd234_158 rfl ?_
                      refine g_aload_n cd234_159 rfl rfl ?_
                      refine g_iconst cd234_160 rfl ?_
                      obtain ⟨x62, hx, h⟩ := bnd h
                      refine g_callVI (L := [some (.ref 204), some (.int 3)]) cd234_161 rfl rfl rfl rfl rfl (OM.o hw) (t_Mod_draw (by omega) hw hx) ?_
                      obtain ⟨I63, e1, h⟩ := bnd h
                      refine G_iast cd234_164 rfl (OM.s14 hw) hg5 (Option.some.inj e1) ?_
                      refine go_cut (k := 0) (ls' := [some (.ref 204), some (.int (l1 + 1)), some (.int l2), none, none, none]) cd234_165 rfl ?_
                      refine g_iinc (ls2 := [some (.ref 204), some (.int (l1 + 1)), some (.int (l2 + 1)), none, none, none]) cd234_165 rfl rfl rfl ?_
                      refine g_goto (ls2 := [some (.ref 204), some (.int (l1 + 1)), some (.int (l2 + 1)), none, none, none]) cd234_168 rfl rfl ?_
                      exact ih (l1 + 1) (l2 + 1) I63 J h
            · have h := ifnE hb h
              refine g_iconst cd234_76 rfl ?_
              refine g_iadd cd234_77 rfl ?_
              refine g_istore (ls2 := [some (.ref 204), some (.int l1), some (.int l2), some (.int x6.1), some (.int ((x6.2 206 ((105 + l2).toNatClampNeg)) + 0)), none]) cd234_78 rfl rfl ?_
              refine g_aload_n cd234_80 rfl rfl ?_
              refine g_getP cd234_81 rfl (OM.o hw) (OM.p14 hw) ?_
              refine g_bipush cd234_84 rfl ?_
              refine g_iload_n cd234_86 rfl rfl ?_
              refine g_iadd cd234_87 rfl ?_
              obtain ⟨hg64, h⟩ := grd h
              refine G_iald cd234_88 rfl (OM.s14 hw) hg64 ?_
              refine g_iload_n cd234_89 rfl rfl ?_
              refine g_iconst cd234_90 rfl ?_
              refine g_icmp_ne cd234_91 rfl (fun hb => ?_) (fun hb => ?_)
              · have h := ifpE hb h
                refine g_iconst cd234_94 rfl ?_
                refine g_goto (ls2 := [some (.ref 204), some (.int l1), some (.int l2), some (.int x6.1), some (.int ((x6.2 206 ((105 + l2).toNatClampNeg)) + 0)), none]) cd234_95 rfl rfl ?_
                refine g_iadd cd234_108 rfl ?_
                refine g_istore (ls2 := [some (.ref 204), some (.int l1), some (.int l2), some (.int x6.1), some (.int ((x6.2 206 ((105 + l2).toNatClampNeg)) + 0)), some (.int ((x6.2 206 ((115 + l2).toNatClampNeg)) + 1))]) cd234_109 rfl rfl ?_
                refine g_iload_n cd234_111 rfl rfl ?_
                refine g_if_le cd234_112 rfl (fun hb => ?_) (fun hb => ?_)
                · have h := ifpE hb h
                  refine g_aload_n cd234_151 rfl rfl ?_
                  refine g_getP cd234_152 rfl (OM.o hw) (OM.p14 hw) ?_
                  refine g_bipush cd234_155 rfl ?_
                  refine g_iload_n cd234_157 rfl rfl ?_
                  refine g_iadd cd234_158 rfl ?_
                  refine g_aload_n cd234_159 rfl rfl ?_
                  refine g_iconst cd234_160 rfl ?_
                  obtain ⟨x65, hx, h⟩ := bnd h
                  refine g_callVI (L := [some (.ref 204), some (.int 3)]) cd234_161 rfl rfl rfl rfl rfl (OM.o hw) (t_Mod_draw (by omega) hw hx) ?_
                  obtain ⟨I66, e1, h⟩ := bnd h
                  refine G_iast cd234_164 rfl (OM.s14 hw) hg5 (Option.some.inj e1) ?_
                  refine go_cut (k := 0) (ls' := [some (.ref 204), some (.int l1), some (.int l2), none, none, none]) cd234_165 rfl ?_
                  refine g_iinc (ls2 := [some (.ref 204), some (.int l1), some (.int (l2 + 1)), none, none, none]) cd234_165 rfl rfl rfl ?_
                  refine g_goto (ls2 := [some (.ref 204), some (.int l1), some (.int (l2 + 1)), none, none, none]) cd234_168 rfl rfl ?_
                  exact ih l1 (l2 + 1) I66 J h
                · have h := ifnE hb h
                  refine g_aload_n cd234_115 rfl rfl ?_
                  refine g_iload cd234_116 rfl rfl ?_
                  refine g_iload cd234_118 rfl rfl ?_
                  obtain ⟨x67, hx, h⟩ := bnd h
                  refine g_callVZ (L := [some (.ref 204), some (.int ((x6.2 206 ((105 + l2).toNatClampNeg)) + 0)), some (.int ((x6.2 206 ((115 + l2).toNatClampNeg)) + 1))]) cd234_120 rfl rfl rfl rfl rfl (OM.o hw) (t_Mod_isCell (by omega) hw hx) ?_
                  refine g_if_eq cd234_123 rfl (fun hb => ?_) (fun hb => ?_)
                  · have h := ifnE (b2i_f hb) h
                    refine g_aload_n cd234_151 rfl rfl ?_
                    refine g_getP cd234_152 rfl (OM.o hw) (OM.p14 hw) ?_
                    refine g_bipush cd234_155 rfl ?_
                    refine g_iload_n cd234_157 rfl rfl ?_
                    refine g_iadd cd234_158 rfl ?_
                    refine g_aload_n cd234_159 rfl rfl ?_
                    refine g_iconst cd234_160 rfl ?_
                    obtain ⟨x68, hx, h⟩ := bnd h
                    refine g_callVI (L := [some (.ref 204), some (.int 3)]) cd234_161 rfl rfl rfl rfl rfl (OM.o hw) (t_Mod_draw (by omega) hw hx) ?_
                    obtain ⟨I69, e1, h⟩ := bnd h
                    refine G_iast cd234_164 rfl (OM.s14 hw) hg5 (Option.some.inj e1) ?_
                    refine go_cut (k := 0) (ls' := [some (.ref 204), some (.int l1), some (.int l2), none, none, none]) cd234_165 rfl ?_
                    refine g_iinc (ls2 := [some (.ref 204), some (.int l1), some (.int (l2 + 1)), none, none, none]) cd234_165 rfl rfl rfl ?_
                    refine g_goto (ls2 := [some (.ref 204), some (.int l1), some (.int (l2 + 1)), none, none, none]) cd234_168 rfl rfl ?_
                    exact ih l1 (l2 + 1) I69 J h
                  · have h := ifpE (b2i_t hb) h
                    refine g_aload_n cd234_126 rfl rfl ?_
                    refine g_getP cd234_127 rfl (OM.o hw) (OM.p14 hw) ?_
                    refine g_bipush cd234_130 rfl ?_
                    refine g_iload_n cd234_132 rfl rfl ?_
                    refine g_iadd cd234_133 rfl ?_
                    refine g_iload cd234_134 rfl rfl ?_
                    obtain ⟨I70, e1, h⟩ := bnd h
                    refine G_iast cd234_136 rfl (OM.s14 hw) hg7 (Option.some.inj e1) ?_
                    refine g_aload_n cd234_137 rfl rfl ?_
                    refine g_getP cd234_138 rfl (OM.o hw) (OM.p14 hw) ?_
                    refine g_bipush cd234_141 rfl ?_
                    refine g_iload_n cd234_143 rfl rfl ?_
                    refine g_iadd cd234_144 rfl ?_
                    refine g_iload cd234_145 rfl rfl ?_
                    obtain ⟨I71, e1, h⟩ := bnd h
                    refine G_iast cd234_147 rfl (OM.s14 hw) hg64 (Option.some.inj e1) ?_
                    refine g_iinc (ls2 := [some (.ref 204), some (.int (l1 + 1)), some (.int l2), some (.int x6.1), some (.int ((x6.2 206 ((105 + l2).toNatClampNeg)) + 0)), some (.int ((x6.2 206 ((115 + l2).toNatClampNeg)) + 1))]) cd234_148 rfl rfl rfl ?_
                    refine g_aload_n cd234_151 rfl rfl ?_
                    refine g_getP cd234_152 rfl (OM.o hw) (OM.p14 hw) ?_
                    refine g_bipush cd234_155 rfl ?_
                    refine g_iload_n cd234_157 rfl rfl ?_
                    refine g_iadd cd234_158 rfl ?_
                    refine g_aload_n cd234_159 rfl rfl ?_
                    refine g_iconst cd234_160 rfl ?_
                    obtain ⟨x72, hx, h⟩ := bnd h
                    refine g_callVI (L := [some (.ref 204), some (.int 3)]) cd234_161 rfl rfl rfl rfl rfl (OM.o hw) (t_Mod_draw (by omega) hw hx) ?_
                    obtain ⟨I73, e1, h⟩ := bnd h
                    refine G_iast cd234_164 rfl (OM.s14 hw) hg5 (Option.some.inj e1) ?_
                    refine go_cut (k := 0) (ls' := [some (.ref 204), some (.int (l1 + 1)), some (.int l2), none, none, none]) cd234_165 rfl ?_
                    refine g_iinc (ls2 := [some (.ref 204), some (.int (l1 + 1)), some (.int (l2 + 1)), none, none, none]) cd234_165 rfl rfl rfl ?_
                    refine g_goto (ls2 := [some (.ref 204), some (.int (l1 + 1)), some (.int (l2 + 1)), none, none, none]) cd234_168 rfl rfl ?_
                    exact ih (l1 + 1) (l2 + 1) I73 J h
              · have h := ifnE hb h
                refine g_iload_n cd234_98 rfl rfl ?_
                refine g_iconst cd234_99 rfl ?_
                refine g_icmp_ne cd234_100 rfl (fun hb => ?_) (fun hb => ?_)
                · have h := ifpE hb h
                  refine g_iconst cd234_103 rfl ?_
                  refine g_goto (ls2 := [some (.ref 204), some (.int l1), some (.int l2), some (.int x6.1), some (.int ((x6.2 206 ((105 + l2).toNatClampNeg)) + 0)), none]) cd234_104 rfl rfl ?_
                  refine g_iadd cd234_108 rfl ?_
                  refine g_istore (ls2 := [some (.ref 204), some (.int l1), some (.int l2), some (.int x6.1), some (.int ((x6.2 206 ((105 + l2).toNatClampNeg)) + 0)), some (.int ((x6.2 206 ((115 + l2).toNatClampNeg)) + (-1)))]) cd234_109 rfl rfl ?_
                  refine g_iload_n cd234_111 rfl rfl ?_
                  refine g_if_le cd234_112 rfl (fun hb => ?_) (fun hb => ?_)
                  · have h := ifpE hb h
                    refine g_aload_n cd234_151 rfl rfl ?_
                    refine g_getP cd234_152 rfl (OM.o hw) (OM.p14 hw) ?_
                    refine g_bipush cd234_155 rfl ?_
                    refine g_iload_n cd234_157 rfl rfl ?_
                    refine g_iadd cd234_158 rfl ?_
                    refine g_aload_n cd234_159 rfl rfl ?_
                    refine g_iconst cd234_160 rfl ?_
                    obtain ⟨x74, hx, h⟩ := bnd h
                    refine g_callVI (L := [some (.ref 204), some (.int 3)]) cd234_161 rfl rfl rfl rfl rfl (OM.o hw) (t_Mod_draw (by omega) hw hx) ?_
                    obtain ⟨I75, e1, h⟩ := bnd h
                    refine G_iast cd234_164 rfl (OM.s14 hw) hg5 (Option.some.inj e1) ?_
                    refine go_cut (k := 0) (ls' := [some (.ref 204), some (.int l1), some (.int l2), none, none, none]) cd234_165 rfl ?_
                    refine g_iinc (ls2 := [some (.ref 204), some (.int l1), some (.int (l2 + 1)), none, none, none]) cd234_165 rfl rfl rfl ?_
                    refine g_goto (ls2 := [some (.ref 204), some (.int l1), some (.int (l2 + 1)), none, none, none]) cd234_168 rfl rfl ?_
                    exact ih l1 (l2 + 1) I75 J h
                  · have h := ifnE hb h
                    refine g_aload_n cd234_115 rfl rfl ?_
                    refine g_iload cd234_116 rfl rfl ?_
                    refine g_iload cd234_118 rfl rfl ?_
                    obtain ⟨x76, hx, h⟩ := bnd h
                    refine g_callVZ (L := [some (.ref 204), some (.int ((x6.2 206 ((105 + l2).toNatClampNeg)) + 0)), some (.int ((x6.2 206 ((115 + l2).toNatClampNeg)) + (-1)))]) cd234_120 rfl rfl rfl rfl rfl (OM.o hw) (t_Mod_isCell (by omega) hw hx) ?_
                    refine g_if_eq cd234_123 rfl (fun hb => ?_) (fun hb => ?_)
                    · have h := ifnE (b2i_f hb) h
                      refine g_aload_n cd234_151 rfl rfl ?_
                      refine g_getP cd234_152 rfl (OM.o hw) (OM.p14 hw) ?_
                      refine g_bipush cd234_155 rfl ?_
                      refine g_iload_n cd234_157 rfl rfl ?_
                      refine g_iadd cd234_158 rfl ?_
                      refine g_aload_n cd234_159 rfl rfl ?_
                      refine g_iconst cd234_160 rfl ?_
                      obtain ⟨x77, hx, h⟩ := bnd h
                      refine g_callVI (L := [some (.ref 204), some (.int 3)]) cd234_161 rfl rfl rfl rfl rfl (OM.o hw) (t_Mod_draw (by omega) hw hx) ?_
                      obtain ⟨I78, e1, h⟩ := bnd h
                      refine G_iast cd234_164 rfl (OM.s14 hw) hg5 (Option.some.inj e1) ?_
                      refine go_cut (k := 0) (ls' := [some (.ref 204), some (.int l1), some (.int l2), none, none, none]) cd234_165 rfl ?_
                      refine g_iinc (ls2 := [some (.ref 204), some (.int l1), some (.int (l2 + 1)), none, none, none]) cd234_165 rfl rfl rfl ?_
                      refine g_goto (ls2 := [some (.ref 204), some (.int l1), some (.int (l2 + 1)), none, none, none]) cd234_168 rfl rfl ?_
                      exact ih l1 (l2 + 1) I78 J h
                    · have h := ifpE (b2i_t hb) h
                      refine g_aload_n cd234_126 rfl rfl ?_
                      refine g_getP cd234_127 rfl (OM.o hw) (OM.p14 hw) ?_
                      refine g_bipush cd234_130 rfl ?_
                      refine g_iload_n cd234_132 rfl rfl ?_
                      refine g_iadd cd234_133 rfl ?_
                      refine g_iload cd234_134 rfl rfl ?_
                      obtain ⟨I79, e1, h⟩ := bnd h
                      refine G_iast cd234_136 rfl (OM.s14 hw) hg7 (Option.some.inj e1) ?_
                      refine g_aload_n cd234_137 rfl rfl ?_
                      refine g_getP cd234_138 rfl (OM.o hw) (OM.p14 hw) ?_
                      refine g_bipush cd234_141 rfl ?_
                      refine g_iload_n cd234_143 rfl rfl ?_
                      refine g_iadd cd234_144 rfl ?_
                      refine g_iload cd234_145 rfl rfl ?_
                      obtain ⟨I80, e1, h⟩ := bnd h
                      refine G_iast cd234_147 rfl (OM.s14 hw) hg64 (Option.some.inj e1) ?_
                      refine g_iinc (ls2 := [some (.ref 204), some (.int (l1 + 1)), some (.int l2), some (.int x6.1), some (.int ((x6.2 206 ((105 + l2).toNatClampNeg)) + 0)), some (.int ((x6.2 206 ((115 + l2).toNatClampNeg)) + (-1)))]) cd234_148 rfl rfl rfl ?_
                      refine g_aload_n cd234_151 rfl rfl ?_
                      refine g_getP cd234_152 rfl (OM.o hw) (OM.p14 hw) ?_
                      refine g_bipush cd234_155 rfl ?_
                      refine g_iload_n cd234_157 rfl rfl ?_
                      refine g_iadd cd234_158 rfl ?_
                      refine g_aload_n cd234_159 rfl rfl ?_
                      refine g_iconst cd234_160 rfl ?_
                      obtain ⟨x81, hx, h⟩ := bnd h
                      refine g_callVI (L := [some (.ref 204), some (.int 3)]) cd234_161 rfl rfl rfl rfl rfl (OM.o hw) (t_Mod_draw (by omega) hw hx) ?_
                      obtain ⟨I82, e1, h⟩ := bnd h
                      refine G_iast cd234_164 rfl (OM.s14 hw) hg5 (Option.some.inj e1) ?_
                      refine go_cut (k := 0) (ls' := [some (.ref 204), some (.int (l1 + 1)), some (.int l2), none, none, none]) cd234_165 rfl ?_
                      refine g_iinc (ls2 := [some (.ref 204), some (.int (l1 + 1)), some (.int (l2 + 1)), none, none, none]) cd234_165 rfl rfl rfl ?_
                      refine g_goto (ls2 := [some (.ref 204), some (.int (l1 + 1)), some (.int (l2 + 1)), none, none, none]) cd234_168 rfl rfl ?_
                      exact ih (l1 + 1) (l2 + 1) I82 J h
                · have h := ifnE hb h
                  refine g_iconst cd234_107 rfl ?_
                  refine g_iadd cd234_108 rfl ?_
                  refine g_istore (ls2 := [some (.ref 204), some (.int l1), some (.int l2), some (.int x6.1), some (.int ((x6.2 206 ((105 + l2).toNatClampNeg)) + 0)), some (.int ((x6.2 206 ((115 + l2).toNatClampNeg)) + 0))]) cd234_109 rfl rfl ?_
                  refine g_iload_n cd234_111 rfl rfl ?_
                  refine g_if_le cd234_112 rfl (fun hb => ?_) (fun hb => ?_)
                  · have h := ifpE hb h
                    refine g_aload_n cd234_151 rfl rfl ?_
                    refine g_getP cd234_152 rfl (OM.o hw) (OM.p14 hw) ?_
                    refine g_bipush cd234_155 rfl ?_
                    refine g_iload_n cd234_157 rfl rfl ?_
                    refine g_iadd cd234_158 rfl ?_
                    refine g_aload_n cd234_159 rfl rfl ?_
                    refine g_iconst cd234_160 rfl ?_
                    obtain ⟨x83, hx, h⟩ := bnd h
                    refine g_callVI (L := [some (.ref 204), some (.int 3)]) cd234_161 rfl rfl rfl rfl rfl (OM.o hw) (t_Mod_draw (by omega) hw hx) ?_
                    obtain ⟨I84, e1, h⟩ := bnd h
                    refine G_iast cd234_164 rfl (OM.s14 hw) hg5 (Option.some.inj e1) ?_
                    refine go_cut (k := 0) (ls' := [some (.ref 204), some (.int l1), some (.int l2), none, none, none]) cd234_165 rfl ?_
                    refine g_iinc (ls2 := [some (.ref 204), some (.int l1), some (.int (l2 + 1)), none, none, none]) cd234_165 rfl rfl rfl ?_
                    refine g_goto (ls2 := [some (.ref 204), some (.int l1), some (.int (l2 + 1)), none, none, none]) cd234_168 rfl rfl ?_
                    exact ih l1 (l2 + 1) I84 J h
                  · have h := ifnE hb h
                    refine g_aload_n cd234_115 rfl rfl ?_
                    refine g_iload cd234_116 rfl rfl ?_
                    refine g_iload cd234_118 rfl rfl ?_
                    obtain ⟨x85, hx, h⟩ := bnd h
                    refine g_callVZ (L := [some (.ref 204), some (.int ((x6.2 206 ((105 + l2).toNatClampNeg)) + 0)), some (.int ((x6.2 206 ((115 + l2).toNatClampNeg)) + 0))]) cd234_120 rfl rfl rfl rfl rfl (OM.o hw) (t_Mod_isCell (by omega) hw hx) ?_
                    refine g_if_eq cd234_123 rfl (fun hb => ?_) (fun hb => ?_)
                    · have h := ifnE (b2i_f hb) h
                      refine g_aload_n cd234_151 rfl rfl ?_
                      refine g_getP cd234_152 rfl (OM.o hw) (OM.p14 hw) ?_
                      refine g_bipush cd234_155 rfl ?_
                      refine g_iload_n cd234_157 rfl rfl ?_
                      refine g_iadd cd234_158 rfl ?_
                      refine g_aload_n cd234_159 rfl rfl ?_
                      refine g_iconst cd234_160 rfl ?_
                      obtain ⟨x86, hx, h⟩ := bnd h
                      refine g_callVI (L := [some (.ref 204), some (.int 3)]) cd234_161 rfl rfl rfl rfl rfl (OM.o hw) (t_Mod_draw (by omega) hw hx) ?_
                      obtain ⟨I87, e1, h⟩ := bnd h
                      refine G_iast cd234_164 rfl (OM.s14 hw) hg5 (Option.some.inj e1) ?_
                      refine go_cut (k := 0) (ls' := [some (.ref 204), some (.int l1), some (.int l2), none, none, none]) cd234_165 rfl ?_
                      refine g_iinc (ls2 := [some (.ref 204), some (.int l1), some (.int (l2 + 1)), none, none, none]) cd234_165 rfl rfl rfl ?_
                      refine g_goto (ls2 := [some (.ref 204), some (.int l1), some (.int (l2 + 1)), none, none, none]) cd234_168 rfl rfl ?_
                      exact ih l1 (l2 + 1) I87 J h
                    · have h := ifpE (b2i_t hb) h
                      refine g_aload_n cd234_126 rfl rfl ?_
                      refine g_getP cd234_127 rfl (OM.o hw) (OM.p14 hw) ?_
                      refine g_bipush cd234_130 rfl ?_
                      refine g_iload_n cd234_132 rfl rfl ?_
                      refine g_iadd cd234_133 rfl ?_
                      refine g_iload cd234_134 rfl rfl ?_
                      obtain ⟨I88, e1, h⟩ := bnd h
                      refine G_iast cd234_136 rfl (OM.s14 hw) hg7 (Option.some.inj e1) ?_
                      refine g_aload_n cd234_137 rfl rfl ?_
                      refine g_getP cd234_138 rfl (OM.o hw) (OM.p14 hw) ?_
                      refine g_bipush cd234_141 rfl ?_
                      refine g_iload_n cd234_143 rfl rfl ?_
                      refine g_iadd cd234_144 rfl ?_
                      refine g_iload cd234_145 rfl rfl ?_
                      obtain ⟨I89, e1, h⟩ := bnd h
                      refine G_iast cd234_147 rfl (OM.s14 hw) hg64 (Option.some.inj e1) ?_
                      refine g_iinc (ls2 := [some (.ref 204), some (.int (l1 + 1)), some (.int l2), some (.int x6.1), some (.int ((x6.2 206 ((105 + l2).toNatClampNeg)) + 0)), some (.int ((x6.2 206 ((115 + l2).toNatClampNeg)) + 0))]) cd234_148 rfl rfl rfl ?_
                      refine g_aload_n cd234_151 rfl rfl ?_
                      refine g_getP cd234_152 rfl (OM.o hw) (OM.p14 hw) ?_
                      refine g_bipush cd234_155 rfl ?_
                      refine g_iload_n cd234_157 rfl rfl ?_
                      refine g_iadd cd234_158 rfl ?_
                      refine g_aload_n cd234_159 rfl rfl ?_
                      refine g_iconst cd234_160 rfl ?_
                      obtain ⟨x90, hx, h⟩ := bnd h
                      refine g_callVI (L := [some (.ref 204), some (.int 3)]) cd234_161 rfl rfl rfl rfl rfl (OM.o hw) (t_Mod_draw (by omega) hw hx) ?_
                      obtain ⟨I91, e1, h⟩ := bnd h
                      refine G_iast cd234_164 rfl (OM.s14 hw) hg5 (Option.some.inj e1) ?_
                      refine go_cut (k := 0) (ls' := [some (.ref 204), some (.int (l1 + 1)), some (.int l2), none, none, none]) cd234_165 rfl ?_
                      refine g_iinc (ls2 := [some (.ref 204), some (.int (l1 + 1)), some (.int (l2 + 1)), none, none, none]) cd234_165 rfl rfl rfl ?_
                      refine g_goto (ls2 := [some (.ref 204), some (.int (l1 + 1)), some (.int (l2 + 1)), none, none, none]) cd234_168 rfl rfl ?_
                      exact ih (l1 + 1) (l2 + 1) I91 J h
        · have h := ifnE hb h
          refine g_goto (ls2 := [some (.ref 204), some (.int l1), some (.int l2), none, none, none]) cd234_40 rfl rfl ?_
          refine g_iinc (ls2 := [some (.ref 204), some (.int l1), some (.int (l2 + 1)), none, none, none]) cd234_165 rfl rfl rfl ?_
          refine g_goto (ls2 := [some (.ref 204), some (.int l1), some (.int (l2 + 1)), none, none, none]) cd234_168 rfl rfl ?_
          exact ih l1 (l2 + 1) I J h
      · have h := ifnE hb h
        refine g_iinc (ls2 := [some (.ref 204), some (.int l1), some (.int (l2 + 1)), none, none, none]) cd234_165 rfl rfl rfl ?_
        refine g_goto (ls2 := [some (.ref 204), some (.int l1), some (.int (l2 + 1)), none, none, none]) cd234_168 rfl rfl ?_
        exact ih l1 (l2 + 1) I J h
set_option maxRecDepth 8000 in
theorem t_Mod_doPlough {d : Nat} {N : Nat} {c : Nat × Nat} {S : Nat → Nat × Nat} {P : Nat → Nat → Option Nat} {I : FI} {J : FJ} {r : Int32 × FI} (hd : 2 ≤ d) (hw : OM S P) (h : Mod_doPlough N I = some r) : Go d M_Mod_doPlough 0 [some (.ref 204), none, none, none, none, none] [] (c, S, I, J, P) (some (.int r.1), false, (c, S, r.2, J, P)) := by
  obtain ⟨d, rfl⟩ : ∃ e, d = e + 1 := ⟨d - 1, by omega⟩
  unfold Mod_doPlough at h
  refine g_iconst cd234_0 rfl ?_
  refine g_istore_n (ls2 := [some (.ref 204), some (.int 0), none, none, none, none]) cd234_1 rfl rfl ?_
  refine g_iconst cd234_2 rfl ?_
  refine g_istore_n (ls2 := [some (.ref 204), some (.int 0), some (.int 0), none, none, none]) cd234_3 rfl rfl ?_
  exact t_Mod_doPlough_4 hd hw _ 0 0 I J h
/-! HiddenOrLostModel.plough(I)I -/
theorem cd233_0 : code9 233 0 = some (0, .aload_n 0, [1], .null, []) := rfl
theorem cd233_1 : code9 233 1 = some (0, .iconst 0, [1], .int 0, []) := rfl
theorem cd233_2 : code9 233 2 = some (0, .putfield 1, [3, 12, 0, 0], .null, []) := rfl
theorem cd233_5 : code9 233 5 = some (0, .aload_n 0, [1], .null, []) := rfl
theorem cd233_6 : code9 233 6 = some (0, .invokevirtual 277, [3, 224, 1, 1, 0, 2, 12, 0], .null, []) := rfl
theorem cd233_9 : code9 233 9 = some (0, .aload_n 0, [1], .null, []) := rfl
theorem cd233_10 : code9 233 10 = some (0, .iload_n 1, [1], .null, []) := rfl
theorem cd233_11 : code9 233 11 = some (0, .putfield 267, [3, 12, 25, 0], .null, []) := rfl
theorem cd233_14 : code9 233 14 = some (0, .aload_n 0, [1], .null, []) := rfl
theorem cd233_15 : code9 233 15 = some (0, .invokevirtual 294, [3, 234, 1, 1, 1, 6, 12, 0], .null, []) := rfl
theorem cd233_18 : code9 233 18 = some (0, .ireturn, [1, 1], .null, []) := rfl
def Mod_plough (N : Nat) (l1 : Int32) (I : FI) : Option (Int32 × FI) := Option.bind (some (up2 I 204 0 (0 : Int32))) fun I1 => (Option.bind (Mod_snap N I1) fun x2 => (Option.bind (some (up2 x2 204 25 l1)) fun I3 => (Option.bind (Mod_doPlough N I3) fun x4 => (some (x4.1, x4.2)))))
set_option maxRecDepth 8000 in
theorem t_Mod_plough {d : Nat} {N : Nat} {c : Nat × Nat} {S : Nat → Nat × Nat} {P : Nat → Nat → Option Nat} {I : FI} {J : FJ} {l1 : Int32} {r : Int32 × FI} (hd : 3 ≤ d) (hw : OM S P) (h : Mod_plough N l1 I = some r) : Go d M_Mod_plough 0 [some (.ref 204), some (.int l1)] [] (c, S, I, J, P) (some (.int r.1), false, (c, S, r.2, J, P)) := by
  obtain ⟨d, rfl⟩ : ∃ e, d = e + 1 := ⟨d - 1, by omega⟩
  unfold Mod_plough at h
  refine g_aload_n cd233_0 rfl rfl ?_
  refine g_iconst cd233_1 rfl ?_
  obtain ⟨I1, e1, h⟩ := bnd h
  refine G_putI cd233_2 rfl (OM.o hw) (Option.some.inj e1) ?_
  refine g_aload_n cd233_5 rfl rfl ?_
  obtain ⟨x2, hx, h⟩ := bnd h
  refine g_callVV (L := [some (.ref 204), none]) cd233_6 rfl rfl rfl rfl rfl (OM.o hw) (t_Mod_snap (by omega) hw hx) ?_
  refine g_aload_n cd233_9 rfl rfl ?_
  refine g_iload_n cd233_10 rfl rfl ?_
  obtain ⟨I3, e1, h⟩ := bnd h
  refine G_putI cd233_11 rfl (OM.o hw) (Option.some.inj e1) ?_
  refine g_aload_n cd233_14 rfl rfl ?_
  obtain ⟨x4, hx, h⟩ := bnd h
  refine g_callVI (L := [some (.ref 204), none, none, none, none, none]) cd233_15 rfl rfl rfl rfl rfl (OM.o hw) (t_Mod_doPlough (by omega) hw hx) ?_
  exact g_iret cd233_18 (Or.inl rfl) (by obtain rfl := Option.some.inj h; rfl)
/-! HiddenOrLostModel.undo()I -/
theorem cd236_0 : code9 236 0 = some (0, .aload_n 0, [1], .null, []) := rfl
theorem cd236_1 : code9 236 1 = some (0, .iconst 0, [1], .int 0, []) := rfl
theorem cd236_2 : code9 236 2 = some (0, .putfield 1, [3, 12, 0, 0], .null, []) := rfl
theorem cd236_5 : code9 236 5 = some (0, .aload_n 0, [1], .null, []) := rfl
theorem cd236_6 : code9 236 6 = some (0, .getfield 233, [3, 12, 24, 0], .null, []) := rfl
theorem cd236_9 : code9 236 9 = some (0, .ifCond .ne 5, [3, 14], .null, []) := rfl
theorem cd236_12 : code9 236 12 = some (0, .iconst (-1), [1], .int (-1), []) := rfl
theorem cd236_13 : code9 236 13 = some (0, .ireturn, [1, 1], .null, []) := rfl
theorem cd236_14 : code9 236 14 = some (0, .aload_n 0, [1], .null, []) := rfl
theorem cd236_15 : code9 236 15 = some (0, .dup, [1], .null, []) := rfl
theorem cd236_16 : code9 236 16 = some (0, .getfield 233, [3, 12, 24, 0], .null, []) := rfl
theorem cd236_19 : code9 236 19 = some (0, .iconst 1, [1], .int 1, []) := rfl
theorem cd236_20 : code9 236 20 = some (0, .isub, [1], .null, []) := rfl
theorem cd236_21 : code9 236 21 = some (0, .putfield 233, [3, 12, 24, 0], .null, []) := rfl
theorem cd236_24 : code9 236 24 = some (0, .iconst 0, [1], .int 0, []) := rfl
theorem cd236_25 : code9 236 25 = some (0, .istore_n 1, [1], .null, []) := rfl
theorem cd236_26 : code9 236 26 = some (3, .iload_n 1, [1], .null, []) := rfl
theorem cd236_27 : code9 236 27 = some (0, .bipush 107, [2], .int 107, []) := rfl
theorem cd236_29 : code9 236 29 = some (0, .if_icmp .ge 32, [3, 61], .null, []) := rfl
theorem cd236_32 : code9 236 32 = some (0, .aload_n 0, [1], .null, []) := rfl
theorem cd236_33 : code9 236 33 = some (0, .getfield 98, [3, 12, 14, 2], .null, []) := rfl
theorem cd236_36 : code9 236 36 = some (0, .bipush 102, [2], .int 102, []) := rfl
theorem cd236_38 : code9 236 38 = some (0, .iload_n 1, [1], .null, []) := rfl
theorem cd236_39 : code9 236 39 = some (0, .iadd, [1], .null, []) := rfl
theorem cd236_40 : code9 236 40 = some (0, .aload_n 0, [1], .null, []) := rfl
theorem cd236_41 : code9 236 41 = some (0, .getfield 107, [3, 12, 17, 2], .null, []) := rfl
theorem cd236_44 : code9 236 44 = some (0, .bipush 107, [2], .int 107, []) := rfl
theorem cd236_46 : code9 236 46 = some (0, .aload_n 0, [1], .null, []) := rfl
theorem cd236_47 : code9 236 47 = some (0, .getfield 233, [3, 12, 24, 0], .null, []) := rfl
theorem cd236_50 : code9 236 50 = some (0, .imul, [1], .null, []) := rfl
theorem cd236_51 : code9 236 51 = some (0, .iload_n 1, [1], .null, []) := rfl
theorem cd236_52 : code9 236 52 = some (0, .iadd, [1], .null, []) := rfl
theorem cd236_53 : code9 236 53 = some (0, .iaload, [1], .null, []) := rfl
theorem cd236_54 : code9 236 54 = some (0, .iastore, [1], .null, []) := rfl
theorem cd236_55 : code9 236 55 = some (0, .iinc 1 1, [3], .int 1, []) := rfl
theorem cd236_58 : code9 236 58 = some (0, .goto (-32), [3, 26, 2], .null, []) := rfl
theorem cd236_61 : code9 236 61 = some (0, .aload_n 0, [1], .null, []) := rfl
theorem cd236_62 : code9 236 62 = some (0, .getfield 233, [3, 12, 24, 0], .null, []) := rfl
theorem cd236_65 : code9 236 65 = some (0, .ireturn, [1, 1], .null, []) := rfl
def Mod_undo_26 (N : Nat) : Nat → Int32 → FI → Option (Int32 × FI)
  | 0 => fun _ _ => none
  | n + 1 => fun l1 I => if 107 ≤ l1 then (some (I 204 24, I)) else (if in9 ((107 * (I 204 24)) + l1) 856 then (if in9 (102 + l1) 451 then (Option.bind (some (up2 I 206 ((102 + l1).toNatClampNeg) (I 209 (((107 * (I 204 24)) + l1).toNatClampNeg)))) fun I5 => (Mod_undo_26 N n (l1 + 1) I5)) else none) else none)
def Mod_undo (N : Nat) (I : FI) : Option (Int32 × FI) := Option.bind (some (up2 I 204 0 (0 : Int32))) fun I1 => (if (I1 204 24) = 0 then (some ((-1), I1)) else (Option.bind (some (up2 I1 204 24 ((I1 204 24) - 1))) fun I2 => (Mod_undo_26 N N 0 I2)))
set_option maxRecDepth 8000 in
theorem t_Mod_undo_26 {d : Nat} {N : Nat} {c : Nat × Nat} {S : Nat → Nat × Nat} {P : Nat → Nat → Option Nat} {r : Int32 × FI} (hd : 0 ≤ d) (hw : OM S P) : ∀ (n : Nat) (l1 : Int32) (I : FI) (J : FJ), Mod_undo_26 N n l1 I = some r → Go d M_Mod_undo 26 [some (.ref 204), some (.int l1)] [] (c, S, I, J, P) (some (.int r.1), false, (c, S, r.2, J, P)) := by
  intro n
  induction n with
  | zero =>
    intro l1 I J h
    cases h
  | succ n ih =>
    intro l1 I J h
    unfold Mod_undo_26 at h
    refine g_iload_n cd236_26 rfl rfl ?_
    refine g_bipush cd236_27 rfl ?_
    refine g_icmp_ge cd236_29 rfl (fun hb => ?_) (fun hb => ?_)
    · have h := ifpE hb h
      refine g_aload_n cd236_61 rfl rfl ?_
      refine g_getI cd236_62 rfl (OM.o hw) ?_
      exact g_iret cd236_65 (Or.inl rfl) (by obtain rfl := Option.some.inj h; rfl)
    · have h := ifnE hb h
      refine g_aload_n cd236_32 rfl rfl ?_
      refine g_getP cd236_33 rfl (OM.o hw) (OM.p14 hw) ?_
      refine g_bipush cd236_36 rfl ?_
      refine g_iload_n cd236_38 rfl rfl ?_
      refine g_iadd cd236_39 rfl ?_
      refine g_aload_n cd236_40 rfl rfl ?_
      refine g_getP cd236_41 rfl (OM.o hw) (OM.p17 hw) ?_
      refine g_bipush cd236_44 rfl ?_
      refine g_aload_n cd236_46 rfl rfl ?_
      refine g_getI cd236_47 rfl (OM.o hw) ?_
      refine g_imul cd236_50 rfl ?_
      refine g_iload_n cd236_51 rfl rfl ?_
      refine g_iadd cd236_52 rfl ?_
      obtain ⟨hg3, h⟩ := grd h
      refine G_iald cd236_53 rfl (OM.s17 hw) hg3 ?_
      obtain ⟨hg4, h⟩ := grd h
      obtain ⟨I5, e1, h⟩ := bnd h
      refine G_iast cd236_54 rfl (OM.s14 hw) hg4 (Option.some.inj e1) ?_
      refine g_iinc (ls2 := [some (.ref 204), some (.int (l1 + 1))]) cd236_55 rfl rfl rfl ?_
      refine g_goto (ls2 := [some (.ref 204), some (.int (l1 + 1))]) cd236_58 rfl rfl ?_
      exact ih (l1 + 1) I5 J h
set_option maxRecDepth 8000 in
theorem t_Mod_undo {d : Nat} {N : Nat} {c : Nat × Nat} {S : Nat → Nat × Nat} {P : Nat → Nat → Option Nat} {I : FI} {J : FJ} {r : Int32 × FI} (hd : 0 ≤ d) (hw : OM S P) (h : Mod_undo N I = some r) : Go d M_Mod_undo 0 [some (.ref 204), none] [] (c, S, I, J, P) (some (.int r.1), false, (c, S, r.2, J, P)) := by
  unfold Mod_undo at h
  refine g_aload_n cd236_0 rfl rfl ?_
  refine g_iconst cd236_1 rfl ?_
  obtain ⟨I1, e1, h⟩ := bnd h
  refine G_putI cd236_2 rfl (OM.o hw) (Option.some.inj e1) ?_
  refine g_aload_n cd236_5 rfl rfl ?_
  refine g_getI cd236_6 rfl (OM.o hw) ?_
  refine g_if_ne cd236_9 rfl (fun hb => ?_) (fun hb => ?_)
  · have h := ifpE hb h
    refine g_iconst cd236_12 rfl ?_
    exact g_iret cd236_13 (Or.inl rfl) (by obtain rfl := Option.some.inj h; rfl)
  · have h := ifnE hb h
    refine g_aload_n cd236_14 rfl rfl ?_
    refine g_dupR cd236_15 rfl ?_
    refine g_getI cd236_16 rfl (OM.o hw) ?_
    refine g_iconst cd236_19 rfl ?_
    refine g_isub cd236_20 rfl ?_
    obtain ⟨I2, e1, h⟩ := bnd h
    refine G_putI cd236_21 rfl (OM.o hw) (Option.some.inj e1) ?_
    refine g_iconst cd236_24 rfl ?_
    refine g_istore_n (ls2 := [some (.ref 204), some (.int 0)]) cd236_25 rfl rfl ?_
    exact t_Mod_undo_26 hd hw _ 0 I2 J h
/-! HiddenOrLostModel.least(II)I -/
theorem cd239_0 : code9 239 0 = some (0, .iload_n 0, [1], .null, []) := rfl
theorem cd239_1 : code9 239 1 = some (0, .iload_n 1, [1], .null, []) := rfl
theorem cd239_2 : code9 239 2 = some (0, .if_icmp .ge 7, [3, 9], .null, []) := rfl
theorem cd239_5 : code9 239 5 = some (0, .iload_n 0, [1], .null, []) := rfl
theorem cd239_6 : code9 239 6 = some (0, .goto 4, [3, 10, 2], .null, []) := rfl
theorem cd239_9 : code9 239 9 = some (0, .iload_n 1, [1], .null, []) := rfl
theorem cd239_10 : code9 239 10 = some (3, .ireturn, [1, 1], .null, []) := rfl
def Mod_least (l0 : Int32) (l1 : Int32) : Int32 := if l1 ≤ l0 then (l1) else (l0)
set_option maxRecDepth 8000 in
theorem t_Mod_least {d : Nat} {c : Nat × Nat} {S : Nat → Nat × Nat} {P : Nat → Nat → Option Nat} {I : FI} {J : FJ} {l0 : Int32} {l1 : Int32} {r : Int32} (hd : 0 ≤ d) (h : Mod_least l0 l1 = r) : Go d M_Mod_least 0 [some (.int l0), some (.int l1)] [] (c, S, I, J, P) (some (.int r), false, (c, S, I, J, P)) := by
  unfold Mod_least at h
  refine g_iload_n cd239_0 rfl rfl ?_
  refine g_iload_n cd239_1 rfl rfl ?_
  refine g_icmp_ge cd239_2 rfl (fun hb => ?_) (fun hb => ?_)
  · have h := ifpE hb h
    refine g_iload_n cd239_9 rfl rfl ?_
    exact g_iret cd239_10 (Or.inl rfl) (by subst h; rfl)
  · have h := ifnE hb h
    refine g_iload_n cd239_5 rfl rfl ?_
    refine g_goto (ls2 := [some (.int l0), some (.int l1)]) cd239_6 rfl rfl ?_
    exact g_iret cd239_10 (Or.inl rfl) (by subst h; rfl)
/-! HiddenOrLostModel.oneNight()V -/
theorem cd240_0 : code9 240 0 = some (0, .aload_n 0, [1], .null, []) := rfl
theorem cd240_1 : code9 240 1 = some (0, .aload_n 0, [1], .null, []) := rfl
theorem cd240_2 : code9 240 2 = some (0, .getfield 98, [3, 12, 14, 2], .null, []) := rfl
theorem cd240_5 : code9 240 5 = some (0, .iconst 0, [1], .int 0, []) := rfl
theorem cd240_6 : code9 240 6 = some (0, .iaload, [1], .null, []) := rfl
theorem cd240_7 : code9 240 7 = some (0, .invokevirtual 271, [3, 235, 2, 1, 1, 2, 12, 0], .null, []) := rfl
theorem cd240_10 : code9 240 10 = some (0, .istore_n 1, [1], .null, []) := rfl
theorem cd240_11 : code9 240 11 = some (0, .aload_n 0, [1], .null, []) := rfl
theorem cd240_12 : code9 240 12 = some (0, .aload_n 0, [1], .null, []) := rfl
theorem cd240_13 : code9 240 13 = some (0, .getfield 98, [3, 12, 14, 2], .null, []) := rfl
theorem cd240_16 : code9 240 16 = some (0, .iconst 3, [1], .int 3, []) := rfl
theorem cd240_17 : code9 240 17 = some (0, .iaload, [1], .null, []) := rfl
theorem cd240_18 : code9 240 18 = some (0, .aload_n 0, [1], .null, []) := rfl
theorem cd240_19 : code9 240 19 = some (0, .getfield 98, [3, 12, 14, 2], .null, []) := rfl
theorem cd240_22 : code9 240 22 = some (0, .iconst 4, [1], .int 4, []) := rfl
theorem cd240_23 : code9 240 23 = some (0, .iaload, [1], .null, []) := rfl
theorem cd240_24 : code9 240 24 = some (0, .imul, [1], .null, []) := rfl
theorem cd240_25 : code9 240 25 = some (0, .invokevirtual 271, [3, 235, 2, 1, 1, 2, 12, 0], .null, []) := rfl
theorem cd240_28 : code9 240 28 = some (0, .istore_n 2, [1], .null, []) := rfl
theorem cd240_29 : code9 240 29 = some (0, .iload_n 2, [1], .null, []) := rfl
theorem cd240_30 : code9 240 30 = some (0, .aload_n 0, [1], .null, []) := rfl
theorem cd240_31 : code9 240 31 = some (0, .getfield 98, [3, 12, 14, 2], .null, []) := rfl
theorem cd240_34 : code9 240 34 = some (0, .iconst 3, [1], .int 3, []) := rfl
theorem cd240_35 : code9 240 35 = some (0, .iaload, [1], .null, []) := rfl
theorem cd240_36 : code9 240 36 = some (0, .irem, [1], .null, []) := rfl
theorem cd240_37 : code9 240 37 = some (0, .istore_n 3, [1], .null, []) := rfl
theorem cd240_38 : code9 240 38 = some (0, .iload_n 2, [1], .null, []) := rfl
theorem cd240_39 : code9 240 39 = some (0, .aload_n 0, [1], .null, []) := rfl
theorem cd240_40 : code9 240 40 = some (0, .getfield 98, [3, 12, 14, 2], .null, []) := rfl
theorem cd240_43 : code9 240 43 = some (0, .iconst 3, [1], .int 3, []) := rfl
theorem cd240_44 : code9 240 44 = some (0, .iaload, [1], .null, []) := rfl
theorem cd240_45 : code9 240 45 = some (0, .idiv, [1], .null, []) := rfl
theorem cd240_46 : code9 240 46 = some (0, .istore 4, [2], .null, []) := rfl
theorem cd240_48 : code9 240 48 = some (0, .aload_n 0, [1], .null, []) := rfl
theorem cd240_49 : code9 240 49 = some (0, .iload_n 3, [1], .null, []) := rfl
theorem cd240_50 : code9 240 50 = some (0, .iload 4, [2], .null, []) := rfl
theorem cd240_52 : code9 240 52 = some (0, .invokevirtual 274, [3, 223, 3, 1, 3, 3, 12, 0], .null, []) := rfl
theorem cd240_55 : code9 240 55 = some (0, .ifCond .eq 12, [3, 67], .null, []) := rfl
theorem cd240_58 : code9 240 58 = some (0, .aload_n 0, [1], .null, []) := rfl
theorem cd240_59 : code9 240 59 = some (0, .iload_n 1, [1], .null, []) := rfl
theorem cd240_60 : code9 240 60 = some (0, .iload_n 3, [1], .null, []) := rfl
theorem cd240_61 : code9 240 61 = some (0, .iload 4, [2], .null, []) := rfl
theorem cd240_63 : code9 240 63 = some (0, .invokevirtual 280, [3, 225, 4, 1, 1, 7, 12, 0], .null, []) := rfl
theorem cd240_66 : code9 240 66 = some (0, .pop, [1], .null, []) := rfl
theorem cd240_67 : code9 240 67 = some (6, .iconst 0, [1], .int 0, []) := rfl
theorem cd240_68 : code9 240 68 = some (0, .istore 5, [2], .null, []) := rfl
theorem cd240_70 : code9 240 70 = some (7, .iload 5, [2], .null, []) := rfl
theorem cd240_72 : code9 240 72 = some (0, .aload_n 0, [1], .null, []) := rfl
theorem cd240_73 : code9 240 73 = some (0, .getfield 98, [3, 12, 14, 2], .null, []) := rfl
theorem cd240_76 : code9 240 76 = some (0, .iconst 1, [1], .int 1, []) := rfl
theorem cd240_77 : code9 240 77 = some (0, .iaload, [1], .null, []) := rfl
theorem cd240_78 : code9 240 78 = some (0, .if_icmp .ge 60, [3, 138], .null, []) := rfl
theorem cd240_81 : code9 240 81 = some (0, .aload_n 0, [1], .null, []) := rfl
theorem cd240_82 : code9 240 82 = some (0, .iload 5, [2], .null, []) := rfl
theorem cd240_84 : code9 240 84 = some (0, .invokevirtual 284, [3, 227, 2, 1, 3, 2, 12, 0], .null, []) := rfl
theorem cd240_87 : code9 240 87 = some (0, .ifCond .ne 6, [3, 93], .null, []) := rfl
theorem cd240_90 : code9 240 90 = some (0, .goto 42, [3, 132, 6], .null, []) := rfl
theorem cd240_93 : code9 240 93 = some (0, .aload_n 0, [1], .null, []) := rfl
theorem cd240_94 : code9 240 94 = some (0, .iconst 4, [1], .int 4, []) := rfl
theorem cd240_95 : code9 240 95 = some (0, .invokevirtual 271, [3, 235, 2, 1, 1, 2, 12, 0], .null, []) := rfl
theorem cd240_98 : code9 240 98 = some (0, .istore 6, [2], .null, []) := rfl
theorem cd240_100 : code9 240 100 = some (0, .iload 6, [2], .null, []) := rfl
theorem cd240_102 : code9 240 102 = some (0, .ifCond .ne 18, [3, 120], .null, []) := rfl
theorem cd240_105 : code9 240 105 = some (0, .aload_n 0, [1], .null, []) := rfl
theorem cd240_106 : code9 240 106 = some (0, .getfield 98, [3, 12, 14, 2], .null, []) := rfl
theorem cd240_109 : code9 240 109 = some (0, .sipush 135, [3], .int 135, []) := rfl
theorem cd240_112 : code9 240 112 = some (0, .iload 5, [2], .null, []) := rfl
theorem cd240_114 : code9 240 114 = some (0, .iadd, [1], .null, []) := rfl
theorem cd240_115 : code9 240 115 = some (0, .iconst 2, [1], .int 2, []) := rfl
theorem cd240_116 : code9 240 116 = some (0, .iastore, [1], .null, []) := rfl
theorem cd240_117 : code9 240 117 = some (0, .goto 15, [3, 132, 6], .null, []) := rfl
theorem cd240_120 : code9 240 120 = some (0, .iload 6, [2], .null, []) := rfl
theorem cd240_122 : code9 240 122 = some (0, .iconst 1, [1], .int 1, []) := rfl
theorem cd240_123 : code9 240 123 = some (0, .if_icmp .ne 9, [3, 132], .null, []) := rfl
theorem cd240_126 : code9 240 126 = some (0, .aload_n 0, [1], .null, []) := rfl
theorem cd240_127 : code9 240 127 = some (0, .iload 5, [2], .null, []) := rfl
theorem cd240_129 : code9 240 129 = some (0, .invokevirtual 287, [3, 229, 2, 1, 0, 2, 12, 0], .null, []) := rfl
theorem cd240_132 : code9 240 132 = some (7, .iinc 5 1, [3], .int 1, []) := rfl
theorem cd240_135 : code9 240 135 = some (0, .goto (-65), [3, 70, 6], .null, []) := rfl
theorem cd240_138 : code9 240 138 = some (0, .aload_n 0, [1], .null, []) := rfl
theorem cd240_139 : code9 240 139 = some (0, .getfield 98, [3, 12, 14, 2], .null, []) := rfl
theorem cd240_142 : code9 240 142 = some (0, .bipush 102, [2], .int 102, []) := rfl
theorem cd240_144 : code9 240 144 = some (0, .dup2, [1], .null, []) := rfl
theorem cd240_145 : code9 240 145 = some (0, .iaload, [1], .null, []) := rfl
theorem cd240_146 : code9 240 146 = some (0, .iconst 1, [1], .int 1, []) := rfl
theorem cd240_147 : code9 240 147 = some (0, .iadd, [1], .null, []) := rfl
theorem cd240_148 : code9 240 148 = some (0, .iastore, [1], .null, []) := rfl
theorem cd240_149 : code9 240 149 = some (0, .return_, [1], .null, []) := rfl
def Mod_oneNight_70 (N : Nat) : Nat → Int32 → Int32 → Int32 → Int32 → Int32 → FI → Option (FI)
  | 0 => fun _ _ _ _ _ _ => none
  | n + 1 => fun l1 l2 l3 l4 l5 I => if (I 206 ((1 : Int32).toNatClampNeg)) ≤ l5 then (Option.bind (some (up2 I 206 ((102 : Int32).toNatClampNeg) ((I 206 ((102 : Int32).toNatClampNeg)) + 1))) fun I5 => (some I5)) else (Option.bind (Mod_isHad l5 I) fun x6 => (if x6 then (Option.bind (Mod_draw 4 I) fun x7 => (if x7.1 = 0 then (if in9 (135 + l5) 451 then (Option.bind (some (up2 x7.2 206 ((135 + l5).toNatClampNeg) (2 : Int32))) fun I9 => (Mod_oneNight_70 N n l1 l2 l3 l4 (l5 + 1) I9)) else none) else (if x7.1 = 1 then (Option.bind (Mod_doSell l5 x7.2) fun x10 => (Mod_oneNight_70 N n l1 l2 l3 l4 (l5 + 1) x10)) else (Mod_oneNight_70 N n l1 l2 l3 l4 (l5 + 1) x7.2)))) else (Mod_oneNight_70 N n l1 l2 l3 l4 (l5 + 1) I)))
def Mod_oneNight (N : Nat) (I : FI) : Option (FI) := Option.bind (Mod_draw (I 206 ((0 : Int32).toNatClampNeg)) I) fun x1 => (Option.bind (Mod_draw ((x1.2 206 ((3 : Int32).toNatClampNeg)) * (x1.2 206 ((4 : Int32).toNatClampNeg))) x1.2) fun x2 => (if ¬ (x2.2 206 ((3 : Int32).toNatClampNeg)) = 0 then (Option.bind (Mod_canDig (x2.1 - x2.1 / (x2.2 206 ((3 : Int32).toNatClampNeg)) * (x2.2 206 ((3 : Int32).toNatClampNeg))) (x2.1 / (x2.2 206 ((3 : Int32).toNatClampNeg))) x2.2) fun x4 => (if x4 then (Option.bind (Mod_doDig N x1.1 (x2.1 - x2.1 / (x2.2 206 ((3 : Int32).toNatClampNeg)) * (x2.2 206 ((3 : Int32).toNatClampNeg))) (x2.1 / (x2.2 206 ((3 : Int32).toNatClampNeg))) x2.2) fun x11 => (Mod_oneNight_70 N N x1.1 x2.1 (x2.1 - x2.1 / (x2.2 206 ((3 : Int32).toNatClampNeg)) * (x2.2 206 ((3 : Int32).toNatClampNeg))) (x2.1 / (x2.2 206 ((3 : Int32).toNatClampNeg))) 0 x11.2)) else (Mod_oneNight_70 N N x1.1 x2.1 (x2.1 - x2.1 / (x2.2 206 ((3 : Int32).toNatClampNeg)) * (x2.2 206 ((3 : Int32).toNatClampNeg))) (x2.1 / (x2.2 206 ((3 : Int32).toNatClampNeg))) 0 x2.2))) else none))
set_option maxRecDepth 8000 in
theorem t_Mod_oneNight_70 {d : Nat} {N : Nat} {c : Nat × Nat} {S : Nat → Nat × Nat} {P : Nat → Nat → Option Nat} {r : FI} (hd : 1 ≤ (d + 1)) (hw : OM S P) : ∀ (n : Nat) (l1 : Int32) (l2 : Int32) (l3 : Int32) (l4 : Int32) (l5 : Int32) (I : FI) (J : FJ), Mod_oneNight_70 N n l1 l2 l3 l4 l5 I = some r → Go (d + 1) M_Mod_oneNight 70 [some (.ref 204), some (.int l1), some (.int l2), some (.int l3), some (.int l4), some (.int l5), none] [] (c, S, I, J, P) (none, false, (c, S, r, J, P)) := by
  intro n
  induction n with
  | zero =>
    intro l1 l2 l3 l4 l5 I J h
    cases h
  | succ n ih =>
    intro l1 l2 l3 l4 l5 I J h
    unfold Mod_oneNight_70 at h
    refine g_iload cd240_70 rfl rfl ?_
    refine g_aload_n cd240_72 rfl rfl ?_
    refine g_getP cd240_73 rfl (OM.o hw) (OM.p14 hw) ?_
    refine g_iconst cd240_76 rfl ?_
    refine G_iald cd240_77 rfl (OM.s14 hw) (by decide) ?_
    refine g_icmp_ge cd240_78 rfl (fun hb => ?_) (fun hb => ?_)
    · have h := ifpE hb h
      refine g_aload_n cd240_138 rfl rfl ?_
      refine g_getP cd240_139 rfl (OM.o hw) (OM.p14 hw) ?_
      refine g_bipush cd240_142 rfl ?_
      refine g_dup2R cd240_144 rfl ?_
      refine G_iald cd240_145 rfl (OM.s14 hw) (by decide) ?_
      refine g_iconst cd240_146 rfl ?_
      refine g_iadd cd240_147 rfl ?_
      obtain ⟨I5, e1, h⟩ := bnd h
      refine G_iast cd240_148 rfl (OM.s14 hw) (by decide) (Option.some.inj e1) ?_
      exact g_vret cd240_149 (by obtain rfl := Option.some.inj h; rfl)
    · have h := ifnE hb h
      refine g_aload_n cd240_81 rfl rfl ?_
      refine g_iload cd240_82 rfl rfl ?_
      obtain ⟨x6, hx, h⟩ := bnd h
      refine g_callVZ (L := [some (.ref 204), some (.int l5)]) cd240_84 rfl rfl rfl rfl rfl (OM.o hw) (t_Mod_isHad (by omega) hw hx) ?_
      refine g_if_ne cd240_87 rfl (fun hb => ?_) (fun hb => ?_)
      · have h := ifnE (b2i_f hb) h
        refine g_goto (ls2 := [some (.ref 204), some (.int l1), some (.int l2), some (.int l3), some (.int l4), some (.int l5), none]) cd240_90 rfl rfl ?_
        refine g_iinc (ls2 := [some (.ref 204), some (.int l1), some (.int l2), some (.int l3), some (.int l4), some (.int (l5 + 1)), none]) cd240_132 rfl rfl rfl ?_
        refine g_goto (ls2 := [some (.ref 204), some (.int l1), some (.int l2), some (.int l3), some (.int l4), some (.int (l5 + 1)), none]) cd240_135 rfl rfl ?_
        exact ih l1 l2 l3 l4 (l5 + 1) I J h
      · have h := ifpE (b2i_t hb) h
        refine g_aload_n cd240_93 rfl rfl ?_
        refine g_iconst cd240_94 rfl ?_
        obtain ⟨x7, hx, h⟩ := bnd h
        refine g_callVI (L := [some (.ref 204), some (.int 4)]) cd240_95 rfl rfl rfl rfl rfl (OM.o hw) (t_Mod_draw (by omega) hw hx) ?_
        refine g_istore (ls2 := [some (.ref 204), some (.int l1), some (.int l2), some (.int l3), some (.int l4), some (.int l5), some (.int x7.1)]) cd240_98 rfl rfl ?_
        refine g_iload cd240_100 rfl rfl ?_
        refine g_if_ne cd240_102 rfl (fun hb => ?_) (fun hb => ?_)
        · have h := ifpE hb h
          refine g_aload_n cd240_105 rfl rfl ?_
          refine g_getP cd240_106 rfl (OM.o hw) (OM.p14 hw) ?_
          refine g_sipush cd240_109 rfl ?_
          refine g_iload cd240_112 rfl rfl ?_
          refine g_iadd cd240_114 rfl ?_
          refine g_iconst cd240_115 rfl ?_
          obtain ⟨hg8, h⟩ := grd h
          obtain ⟨I9, e1, h⟩ := bnd h
          refine G_iast cd240_116 rfl (OM.s14 hw) hg8 (Option.some.inj e1) ?_
          refine g_goto (ls2 := [some (.ref 204), some (.int l1), some (.int l2), some (.int l3), some (.int l4), some (.int l5), none]) cd240_117 rfl rfl ?_
          refine g_iinc (ls2 := [some (.ref 204), some (.int l1), some (.int l2), some (.int l3), some (.int l4), some (.int (l5 + 1)), none]) cd240_132 rfl rfl rfl ?_
          refine g_goto (ls2 := [some (.ref 204), some (.int l1), some (.int l2), some (.int l3), some (.int l4), some (.int (l5 + 1)), none]) cd240_135 rfl rfl ?_
          exact ih l1 l2 l3 l4 (l5 + 1) I9 J h
        · have h := ifnE hb h
          refine g_iload cd240_120 rfl rfl ?_
          refine g_iconst cd240_122 rfl ?_
          refine g_icmp_ne cd240_123 rfl (fun hb => ?_) (fun hb => ?_)
          · have h := ifpE hb h
            refine g_aload_n cd240_126 rfl rfl ?_
            refine g_iload cd240_127 rfl rfl ?_
            obtain ⟨x10, hx, h⟩ := bnd h
            refine g_callVV (L := [some (.ref 204), some (.int l5)]) cd240_129 rfl rfl rfl rfl rfl (OM.o hw) (t_Mod_doSell (by omega) hw hx) ?_
            refine go_cut (k := 0) (ls' := [some (.ref 204), some (.int l1), some (.int l2), some (.int l3), some (.int l4), some (.int l5), none]) cd240_132 rfl ?_
            refine g_iinc (ls2 := [some (.ref 204), some (.int l1), some (.int l2), some (.int l3), some (.int l4), some (.int (l5 + 1)), none]) cd240_132 rfl rfl rfl ?_
            refine g_goto (ls2 := [some (.ref 204), some (.int l1), some (.int l2), some (.int l3), some (.int l4), some (.int (l5 + 1)), none]) cd240_135 rfl rfl ?_
            exact ih l1 l2 l3 l4 (l5 + 1) x10 J h
          · have h := ifnE hb h
            refine go_cut (k := 0) (ls' := [some (.ref 204), some (.int l1), some (.int l2), some (.int l3), some (.int l4), some (.int l5), none]) cd240_132 rfl ?_
            refine g_iinc (ls2 := [some (.ref 204), some (.int l1), some (.int l2), some (.int l3), some (.int l4), some (.int (l5 + 1)), none]) cd240_132 rfl rfl rfl ?_
            refine g_goto (ls2 := [some (.ref 204), some (.int l1), some (.int l2), some (.int l3), some (.int l4), some (.int (l5 + 1)), none]) cd240_135 rfl rfl ?_
            exact ih l1 l2 l3 l4 (l5 + 1) x7.2 J h
set_option maxRecDepth 8000 in
theorem t_Mod_oneNight {d : Nat} {N : Nat} {c : Nat × Nat} {S : Nat → Nat × Nat} {P : Nat → Nat → Option Nat} {I : FI} {J : FJ} {r : FI} (hd : 1 ≤ d) (hw : OM S P) (h : Mod_oneNight N I = some r) : Go d M_Mod_oneNight 0 [some (.ref 204), none, none, none, none, none, none] [] (c, S, I, J, P) (none, false, (c, S, r, J, P)) := by
  obtain ⟨d, rfl⟩ : ∃ e, d = e + 1 := ⟨d - 1, by omega⟩
  unfold Mod_oneNight at h
  refine g_aload_n cd240_0 rfl rfl ?_
  refine g_aload_n cd240_1 rfl rfl ?_
  refine g_getP cd240_2 rfl (OM.o hw) (OM.p14 hw) ?_
  refine g_iconst cd240_5 rfl ?_
  refine G_iald cd240_6 rfl (OM.s14 hw) (by decide) ?_
  obtain ⟨x1, hx, h⟩ := bnd h
  refine g_callVI (L := [some (.ref 204), some (.int (I 206 ((0 : Int32).toNatClampNeg)))]) cd240_7 rfl rfl rfl rfl rfl (OM.o hw) (t_Mod_draw (by omega) hw hx) ?_
  refine g_istore_n (ls2 := [some (.ref 204), some (.int x1.1), none, none, none, none, none]) cd240_10 rfl rfl ?_
  refine g_aload_n cd240_11 rfl rfl ?_
  refine g_aload_n cd240_12 rfl rfl ?_
  refine g_getP cd240_13 rfl (OM.o hw) (OM.p14 hw) ?_
  refine g_iconst cd240_16 rfl ?_
  refine G_iald cd240_17 rfl (OM.s14 hw) (by decide) ?_
  refine g_aload_n cd240_18 rfl rfl ?_
  refine g_getP cd240_19 rfl (OM.o hw) (OM.p14 hw) ?_
  refine g_iconst cd240_22 rfl ?_
  refine G_iald cd240_23 rfl (OM.s14 hw) (by decide) ?_
  refine g_imul cd240_24 rfl ?_
  obtain ⟨x2, hx, h⟩ := bnd h
  refine g_callVI (L := [some (.ref 204), some (.int ((x1.2 206 ((3 : Int32).toNatClampNeg)) * (x1.2 206 ((4 : Int32).toNatClampNeg))))]) cd240_25 rfl rfl rfl rfl rfl (OM.o hw) (t_Mod_draw (by omega) hw hx) ?_
  refine g_istore_n (ls2 := [some (.ref 204), some (.int x1.1), some (.int x2.1), none, none, none, none]) cd240_28 rfl rfl ?_
  refine g_iload_n cd240_29 rfl rfl ?_
  refine g_aload_n cd240_30 rfl rfl ?_
  refine g_getP cd240_31 rfl (OM.o hw) (OM.p14 hw) ?_
  refine g_iconst cd240_34 rfl ?_
  refine G_iald cd240_35 rfl (OM.s14 hw) (by decide) ?_
  obtain ⟨hg3, h⟩ := grd h
  refine g_irem cd240_36 rfl hg3 ?_
  refine g_istore_n (ls2 := [some (.ref 204), some (.int x1.1), some (.int x2.1), some (.int (x2.1 - x2.1 / (x2.2 206 ((3 : Int32).toNatClampNeg)) * (x2.2 206 ((3 : Int32).toNatClampNeg)))), none, none, none]) cd240_37 rfl rfl ?_
  refine g_iload_n cd240_38 rfl rfl ?_
  refine g_aload_n cd240_39 rfl rfl ?_
  refine g_getP cd240_40 rfl (OM.o hw) (OM.p14 hw) ?_
  refine g_iconst cd240_43 rfl ?_
  refine G_iald cd240_44 rfl (OM.s14 hw) (by decide) ?_
  refine g_idiv cd240_45 rfl hg3 ?_
  refine g_istore (ls2 := [some (.ref 204), some (.int x1.1), some (.int x2.1), some (.int (x2.1 - x2.1 / (x2.2 206 ((3 : Int32).toNatClampNeg)) * (x2.2 206 ((3 : Int32).toNatClampNeg)))), some (.int (x2.1 / (x2.2 206 ((3 : Int32).toNatClampNeg)))), none, none]) cd240_46 rfl rfl ?_
  refine g_aload_n cd240_48 rfl rfl ?_
  refine g_iload_n cd240_49 rfl rfl ?_
  refine g_iload cd240_50 rfl rfl ?_
  obtain ⟨x4, hx, h⟩ := bnd h
  refine g_callVZ (L := [some (.ref 204), some (.int (x2.1 - x2.1 / (x2.2 206 ((3 : Int32).toNatClampNeg)) * (x2.2 206 ((3 : Int32).toNatClampNeg)))), some (.int (x2.1 / (x2.2 206 ((3 : Int32).toNatClampNeg))))]) cd240_52 rfl rfl rfl rfl rfl (OM.o hw) (t_Mod_canDig (by omega) hw hx) ?_
  refine g_if_eq cd240_55 rfl (fun hb => ?_) (fun hb => ?_)
  · have h := ifnE (b2i_f hb) h
    refine g_iconst cd240_67 rfl ?_
    refine g_istore (ls2 := [some (.ref 204), some (.int x1.1), some (.int x2.1), some (.int (x2.1 - x2.1 / (x2.2 206 ((3 : Int32).toNatClampNeg)) * (x2.2 206 ((3 : Int32).toNatClampNeg)))), some (.int (x2.1 / (x2.2 206 ((3 : Int32).toNatClampNeg)))), some (.int 0), none]) cd240_68 rfl rfl ?_
    exact t_Mod_oneNight_70 hd hw _ x1.1 x2.1 (x2.1 - x2.1 / (x2.2 206 ((3 : Int32).toNatClampNeg)) * (x2.2 206 ((3 : Int32).toNatClampNeg))) (x2.1 / (x2.2 206 ((3 : Int32).toNatClampNeg))) 0 x2.2 J h
  · have h := ifpE (b2i_t hb) h
    refine g_aload_n cd240_58 rfl rfl ?_
    refine g_iload_n cd240_59 rfl rfl ?_
    refine g_iload_n cd240_60 rfl rfl ?_
    refine g_iload cd240_61 rfl rfl ?_
    obtain ⟨x11, hx, h⟩ := bnd h
    refine g_callVI (L := [some (.ref 204), some (.int x1.1), some (.int (x2.1 - x2.1 / (x2.2 206 ((3 : Int32).toNatClampNeg)) * (x2.2 206 ((3 : Int32).toNatClampNeg)))), some (.int (x2.1 / (x2.2 206 ((3 : Int32).toNatClampNeg)))), none, none, none]) cd240_63 rfl rfl rfl rfl rfl (OM.o hw) (t_Mod_doDig (by omega) hw hx) ?_
    refine g_popI cd240_66 rfl ?_
    refine g_iconst cd240_67 rfl ?_
    refine g_istore (ls2 := [some (.ref 204), some (.int x1.1), some (.int x2.1), some (.int (x2.1 - x2.1 / (x2.2 206 ((3 : Int32).toNatClampNeg)) * (x2.2 206 ((3 : Int32).toNatClampNeg)))), some (.int (x2.1 / (x2.2 206 ((3 : Int32).toNatClampNeg)))), some (.int 0), none]) cd240_68 rfl rfl ?_
    exact t_Mod_oneNight_70 hd hw _ x1.1 x2.1 (x2.1 - x2.1 / (x2.2 206 ((3 : Int32).toNatClampNeg)) * (x2.2 206 ((3 : Int32).toNatClampNeg))) (x2.1 / (x2.2 206 ((3 : Int32).toNatClampNeg))) 0 x11.2 J h
/-! HiddenOrLostModel.passNights(II)I -/
theorem cd238_0 : code9 238 0 = some (0, .aload_n 0, [1], .null, []) := rfl
theorem cd238_1 : code9 238 1 = some (0, .iload_n 2, [1], .null, []) := rfl
theorem cd238_2 : code9 238 2 = some (0, .putfield 267, [3, 12, 25, 0], .null, []) := rfl
theorem cd238_5 : code9 238 5 = some (0, .iload_n 1, [1], .null, []) := rfl
theorem cd238_6 : code9 238 6 = some (0, .sipush 400, [3], .int 400, []) := rfl
theorem cd238_9 : code9 238 9 = some (0, .aload_n 0, [1], .null, []) := rfl
theorem cd238_10 : code9 238 10 = some (0, .getfield 98, [3, 12, 14, 2], .null, []) := rfl
theorem cd238_13 : code9 238 13 = some (0, .bipush 102, [2], .int 102, []) := rfl
theorem cd238_15 : code9 238 15 = some (0, .iaload, [1], .null, []) := rfl
theorem cd238_16 : code9 238 16 = some (0, .isub, [1], .null, []) := rfl
theorem cd238_17 : code9 238 17 = some (0, .invokestatic 297, [3, 239, 2, 0, 1, 2, 12, 0], .null, []) := rfl
theorem cd238_20 : code9 238 20 = some (0, .istore_n 3, [1], .null, []) := rfl
theorem cd238_21 : code9 238 21 = some (0, .iconst 0, [1], .int 0, []) := rfl
theorem cd238_22 : code9 238 22 = some (0, .istore 4, [2], .null, []) := rfl
theorem cd238_24 : code9 238 24 = some (6, .iload 4, [2], .null, []) := rfl
theorem cd238_26 : code9 238 26 = some (0, .iload_n 3, [1], .null, []) := rfl
theorem cd238_27 : code9 238 27 = some (0, .if_icmp .ge 13, [3, 40], .null, []) := rfl
theorem cd238_30 : code9 238 30 = some (0, .aload_n 0, [1], .null, []) := rfl
theorem cd238_31 : code9 238 31 = some (0, .invokevirtual 300, [3, 240, 1, 1, 0, 7, 12, 0], .null, []) := rfl
theorem cd238_34 : code9 238 34 = some (0, .iinc 4 1, [3], .int 1, []) := rfl
theorem cd238_37 : code9 238 37 = some (0, .goto (-13), [3, 24, 5], .null, []) := rfl
theorem cd238_40 : code9 238 40 = some (0, .iload_n 3, [1], .null, []) := rfl
theorem cd238_41 : code9 238 41 = some (0, .ireturn, [1, 1], .null, []) := rfl
def Mod_passNights_24 (N : Nat) : Nat → Int32 → Int32 → Int32 → Int32 → FI → Option (Int32 × FI)
  | 0 => fun _ _ _ _ _ => none
  | n + 1 => fun l1 l2 l3 l4 I => if l3 ≤ l4 then (some (l3, I)) else (Option.bind (Mod_oneNight N I) fun x2 => (Mod_passNights_24 N n l1 l2 l3 (l4 + 1) x2))
def Mod_passNights (N : Nat) (l1 : Int32) (l2 : Int32) (I : FI) : Option (Int32 × FI) := Option.bind (some (up2 I 204 25 l2)) fun I1 => (Mod_passNights_24 N N l1 l2 (Mod_least l1 (400 - (I1 206 ((102 : Int32).toNatClampNeg)))) 0 I1)
set_option maxRecDepth 8000 in
theorem t_Mod_passNights_24 {d : Nat} {N : Nat} {c : Nat × Nat} {S : Nat → Nat × Nat} {P : Nat → Nat → Option Nat} {r : Int32 × FI} (hd : 2 ≤ (d + 1)) (hw : OM S P) : ∀ (n : Nat) (l1 : Int32) (l2 : Int32) (l3 : Int32) (l4 : Int32) (I : FI) (J : FJ), Mod_passNights_24 N n l1 l2 l3 l4 I = some r → Go (d + 1) M_Mod_passNights 24 [some (.ref 204), some (.int l1), some (.int l2), some (.int l3), some (.int l4)] [] (c, S, I, J, P) (some (.int r.1), false, (c, S, r.2, J, P)) := by
  intro n
  induction n with
  | zero =>
    intro l1 l2 l3 l4 I J h
    cases h
  | succ n ih =>
    intro l1 l2 l3 l4 I J h
    unfold Mod_passNights_24 at h
    refine g_iload cd238_24 rfl rfl ?_
    refine g_iload_n cd238_26 rfl rfl ?_
    refine g_icmp_ge cd238_27 rfl (fun hb => ?_) (fun hb => ?_)
    · have h := ifpE hb h
      refine g_iload_n cd238_40 rfl rfl ?_
      exact g_iret cd238_41 (Or.inl rfl) (by obtain rfl := Option.some.inj h; rfl)
    · have h := ifnE hb h
      refine g_aload_n cd238_30 rfl rfl ?_
      obtain ⟨x2, hx, h⟩ := bnd h
      refine g_callVV (L := [some (.ref 204), none, none, none, none, none, none]) cd238_31 rfl rfl rfl rfl rfl (OM.o hw) (t_Mod_oneNight (by omega) hw hx) ?_
      refine g_iinc (ls2 := [some (.ref 204), some (.int l1), some (.int l2), some (.int l3), some (.int (l4 + 1))]) cd238_34 rfl rfl rfl ?_
      refine g_goto (ls2 := [some (.ref 204), some (.int l1), some (.int l2), some (.int l3), some (.int (l4 + 1))]) cd238_37 rfl rfl ?_
      exact ih l1 l2 l3 (l4 + 1) x2 J h
set_option maxRecDepth 8000 in
theorem t_Mod_passNights {d : Nat} {N : Nat} {c : Nat × Nat} {S : Nat → Nat × Nat} {P : Nat → Nat → Option Nat} {I : FI} {J : FJ} {l1 : Int32} {l2 : Int32} {r : Int32 × FI} (hd : 2 ≤ d) (hw : OM S P) (h : Mod_passNights N l1 l2 I = some r) : Go d M_Mod_passNights 0 [some (.ref 204), some (.int l1), some (.int l2), none, none] [] (c, S, I, J, P) (some (.int r.1), false, (c, S, r.2, J, P)) := by
  obtain ⟨d, rfl⟩ : ∃ e, d = e + 1 := ⟨d - 1, by omega⟩
  unfold Mod_passNights at h
  refine g_aload_n cd238_0 rfl rfl ?_
  refine g_iload_n cd238_1 rfl rfl ?_
  obtain ⟨I1, e1, h⟩ := bnd h
  refine G_putI cd238_2 rfl (OM.o hw) (Option.some.inj e1) ?_
  refine g_iload_n cd238_5 rfl rfl ?_
  refine g_sipush cd238_6 rfl ?_
  refine g_aload_n cd238_9 rfl rfl ?_
  refine g_getP cd238_10 rfl (OM.o hw) (OM.p14 hw) ?_
  refine g_bipush cd238_13 rfl ?_
  refine G_iald cd238_15 rfl (OM.s14 hw) (by decide) ?_
  refine g_isub cd238_16 rfl ?_
  refine g_callSI (L := [some (.int l1), some (.int (400 - (I1 206 ((102 : Int32).toNatClampNeg))))]) cd238_17 rfl rfl rfl rfl rfl (t_Mod_least (by omega)  rfl) ?_
  refine g_istore_n (ls2 := [some (.ref 204), some (.int l1), some (.int l2), some (.int (Mod_least l1 (400 - (I1 206 ((102 : Int32).toNatClampNeg))))), none]) cd238_20 rfl rfl ?_
  refine g_iconst cd238_21 rfl ?_
  refine g_istore (ls2 := [some (.ref 204), some (.int l1), some (.int l2), some (.int (Mod_least l1 (400 - (I1 206 ((102 : Int32).toNatClampNeg))))), some (.int 0)]) cd238_22 rfl rfl ?_
  exact t_Mod_passNights_24 hd hw _ l1 l2 (Mod_least l1 (400 - (I1 206 ((102 : Int32).toNatClampNeg)))) 0 I1 J h
/-! HiddenOrLostModel.nights(II)I -/
theorem cd237_0 : code9 237 0 = some (0, .aload_n 0, [1], .null, []) := rfl
theorem cd237_1 : code9 237 1 = some (0, .iconst 0, [1], .int 0, []) := rfl
theorem cd237_2 : code9 237 2 = some (0, .putfield 1, [3, 12, 0, 0], .null, []) := rfl
theorem cd237_5 : code9 237 5 = some (0, .iload_n 1, [1], .null, []) := rfl
theorem cd237_6 : code9 237 6 = some (0, .iconst 1, [1], .int 1, []) := rfl
theorem cd237_7 : code9 237 7 = some (0, .bipush 30, [2], .int 30, []) := rfl
theorem cd237_9 : code9 237 9 = some (0, .invokestatic 75, [3, 191, 3, 0, 3, 3, 12, 0], .null, []) := rfl
theorem cd237_12 : code9 237 12 = some (0, .ifCond .eq 12, [3, 24], .null, []) := rfl
theorem cd237_15 : code9 237 15 = some (0, .aload_n 0, [1], .null, []) := rfl
theorem cd237_16 : code9 237 16 = some (0, .getfield 98, [3, 12, 14, 2], .null, []) := rfl
theorem cd237_19 : code9 237 19 = some (0, .iconst 0, [1], .int 0, []) := rfl
theorem cd237_20 : code9 237 20 = some (0, .iaload, [1], .null, []) := rfl
theorem cd237_21 : code9 237 21 = some (0, .ifCond .ne 5, [3, 26], .null, []) := rfl
theorem cd237_24 : code9 237 24 = some (4, .iconst (-1), [1], .int (-1), []) := rfl
theorem cd237_25 : code9 237 25 = some (0, .ireturn, [1, 1], .null, []) := rfl
theorem cd237_26 : code9 237 26 = some (0, .aload_n 0, [1], .null, []) := rfl
theorem cd237_27 : code9 237 27 = some (0, .getfield 98, [3, 12, 14, 2], .null, []) := rfl
theorem cd237_30 : code9 237 30 = some (0, .bipush 102, [2], .int 102, []) := rfl
theorem cd237_32 : code9 237 32 = some (0, .iaload, [1], .null, []) := rfl
theorem cd237_33 : code9 237 33 = some (0, .sipush 400, [3], .int 400, []) := rfl
theorem cd237_36 : code9 237 36 = some (0, .if_icmp .ne 5, [3, 41], .null, []) := rfl
theorem cd237_39 : code9 237 39 = some (0, .iconst 0, [1], .int 0, []) := rfl
theorem cd237_40 : code9 237 40 = some (0, .ireturn, [1, 1], .null, []) := rfl
theorem cd237_41 : code9 237 41 = some (0, .aload_n 0, [1], .null, []) := rfl
theorem cd237_42 : code9 237 42 = some (0, .invokevirtual 277, [3, 224, 1, 1, 0, 2, 12, 0], .null, []) := rfl
theorem cd237_45 : code9 237 45 = some (0, .aload_n 0, [1], .null, []) := rfl
theorem cd237_46 : code9 237 46 = some (0, .iload_n 1, [1], .null, []) := rfl
theorem cd237_47 : code9 237 47 = some (0, .iload_n 2, [1], .null, []) := rfl
theorem cd237_48 : code9 237 48 = some (0, .invokevirtual 303, [3, 238, 3, 1, 1, 5, 12, 0], .null, []) := rfl
theorem cd237_51 : code9 237 51 = some (0, .ireturn, [1, 1], .null, []) := rfl
def Mod_nights (N : Nat) (l1 : Int32) (l2 : Int32) (I : FI) : Option (Int32 × FI) := Option.bind (some (up2 I 204 0 (0 : Int32))) fun I1 => (if (Mod_isIn l1 1 30) then (if (I1 206 ((0 : Int32).toNatClampNeg)) = 0 then (some ((-1), I1)) else (if (I1 206 ((102 : Int32).toNatClampNeg)) = 400 then (some (0, I1)) else (Option.bind (Mod_snap N I1) fun x2 => (Option.bind (Mod_passNights N l1 l2 x2) fun x3 => (some (x3.1, x3.2)))))) else (some ((-1), I1)))
set_option maxRecDepth 8000 in
theorem t_Mod_nights {d : Nat} {N : Nat} {c : Nat × Nat} {S : Nat → Nat × Nat} {P : Nat → Nat → Option Nat} {I : FI} {J : FJ} {l1 : Int32} {l2 : Int32} {r : Int32 × FI} (hd : 3 ≤ d) (hw : OM S P) (h : Mod_nights N l1 l2 I = some r) : Go d M_Mod_nights 0 [some (.ref 204), some (.int l1), some (.int l2)] [] (c, S, I, J, P) (some (.int r.1), false, (c, S, r.2, J, P)) := by
  obtain ⟨d, rfl⟩ : ∃ e, d = e + 1 := ⟨d - 1, by omega⟩
  unfold Mod_nights at h
  refine g_aload_n cd237_0 rfl rfl ?_
  refine g_iconst cd237_1 rfl ?_
  obtain ⟨I1, e1, h⟩ := bnd h
  refine G_putI cd237_2 rfl (OM.o hw) (Option.some.inj e1) ?_
  refine g_iload_n cd237_5 rfl rfl ?_
  refine g_iconst cd237_6 rfl ?_
  refine g_bipush cd237_7 rfl ?_
  refine g_callSZ (L := [some (.int l1), some (.int 1), some (.int 30)]) cd237_9 rfl rfl rfl rfl rfl (t_Mod_isIn (by omega)  rfl) ?_
  refine g_if_eq cd237_12 rfl (fun hb => ?_) (fun hb => ?_)
  · have h := ifnE (b2i_f hb) h
    refine g_iconst cd237_24 rfl ?_
    exact g_iret cd237_25 (Or.inl rfl) (by obtain rfl := Option.some.inj h; rfl)
  · have h := ifpE (b2i_t hb) h
    refine g_aload_n cd237_15 rfl rfl ?_
    refine g_getP cd237_16 rfl (OM.o hw) (OM.p14 hw) ?_
    refine g_iconst cd237_19 rfl ?_
    refine G_iald cd237_20 rfl (OM.s14 hw) (by decide) ?_
    refine g_if_ne cd237_21 rfl (fun hb => ?_) (fun hb => ?_)
    · have h := ifpE hb h
      refine g_iconst cd237_24 rfl ?_
      exact g_iret cd237_25 (Or.inl rfl) (by obtain rfl := Option.some.inj h; rfl)
    · have h := ifnE hb h
      refine g_aload_n cd237_26 rfl rfl ?_
      refine g_getP cd237_27 rfl (OM.o hw) (OM.p14 hw) ?_
      refine g_bipush cd237_30 rfl ?_
      refine G_iald cd237_32 rfl (OM.s14 hw) (by decide) ?_
      refine g_sipush cd237_33 rfl ?_
      refine g_icmp_ne cd237_36 rfl (fun hb => ?_) (fun hb => ?_)
      · have h := ifpE hb h
        refine g_iconst cd237_39 rfl ?_
        exact g_iret cd237_40 (Or.inl rfl) (by obtain rfl := Option.some.inj h; rfl)
      · have h := ifnE hb h
        refine g_aload_n cd237_41 rfl rfl ?_
        obtain ⟨x2, hx, h⟩ := bnd h
        refine g_callVV (L := [some (.ref 204), none]) cd237_42 rfl rfl rfl rfl rfl (OM.o hw) (t_Mod_snap (by omega) hw hx) ?_
        refine g_aload_n cd237_45 rfl rfl ?_
        refine g_iload_n cd237_46 rfl rfl ?_
        refine g_iload_n cd237_47 rfl rfl ?_
        obtain ⟨x3, hx, h⟩ := bnd h
        refine g_callVI (L := [some (.ref 204), some (.int l1), some (.int l2), none, none]) cd237_48 rfl rfl rfl rfl rfl (OM.o hw) (t_Mod_passNights (by omega) hw hx) ?_
        exact g_iret cd237_51 (Or.inl rfl) (by obtain rfl := Option.some.inj h; rfl)

/-! HiddenOrLost$Land.readFear(LHiddenOrLost$Tape;)Z -/
theorem cd47_0 : code9 47 0 = some (0, .aload_n 0, [1], .null, []) := rfl
theorem cd47_1 : code9 47 1 = some (0, .aload_n 1, [1], .null, []) := rfl
theorem cd47_2 : code9 47 2 = some (0, .aload_n 0, [1], .null, []) := rfl
theorem cd47_3 : code9 47 3 = some (0, .getfield 53, [3, 6, 13, 0], .null, []) := rfl
theorem cd47_6 : code9 47 6 = some (0, .bipush 6, [2], .int 6, []) := rfl
theorem cd47_8 : code9 47 8 = some (0, .if_icmp .ge 7, [3, 15], .null, []) := rfl
theorem cd47_11 : code9 47 11 = some (0, .iconst 1, [1], .int 1, []) := rfl
theorem cd47_12 : code9 47 12 = some (0, .goto 4, [3, 16, 2], .null, []) := rfl
theorem cd47_15 : code9 47 15 = some (0, .iconst 0, [1], .int 0, []) := rfl
theorem cd47_16 : code9 47 16 = some (3, .invokevirtual 162, [3, 41, 3, 1, 3, 4, 6, 0], .null, []) := rfl
theorem cd47_19 : code9 47 19 = some (0, .ifCond .ne 5, [3, 24], .null, []) := rfl
theorem cd47_22 : code9 47 22 = some (0, .iconst 0, [1], .int 0, []) := rfl
theorem cd47_23 : code9 47 23 = some (0, .ireturn, [1, 3], .null, []) := rfl
theorem cd47_24 : code9 47 24 = some (0, .aload_n 0, [1], .null, []) := rfl
theorem cd47_25 : code9 47 25 = some (0, .getfield 18, [3, 6, 2, 2], .null, []) := rfl
theorem cd47_28 : code9 47 28 = some (0, .aload_n 0, [1], .null, []) := rfl
theorem cd47_29 : code9 47 29 = some (0, .getfield 53, [3, 6, 13, 0], .null, []) := rfl
theorem cd47_32 : code9 47 32 = some (0, .aload_n 1, [1], .null, []) := rfl
theorem cd47_33 : code9 47 33 = some (0, .getfield 151, [3, 10, 10, 1], .null, []) := rfl
theorem cd47_36 : code9 47 36 = some (0, .lastore, [1], .null, []) := rfl
theorem cd47_37 : code9 47 37 = some (0, .aload_n 1, [1], .null, []) := rfl
theorem cd47_38 : code9 47 38 = some (0, .invokevirtual 134, [3, 114, 1, 1, 0, 1, 10, 0], .null, []) := rfl
theorem cd47_41 : code9 47 41 = some (0, .aload_n 1, [1], .null, []) := rfl
theorem cd47_42 : code9 47 42 = some (0, .iconst 0, [1], .int 0, []) := rfl
theorem cd47_43 : code9 47 43 = some (0, .sipush 999, [3], .int 999, []) := rfl
theorem cd47_46 : code9 47 46 = some (0, .invokevirtual 141, [3, 117, 3, 1, 3, 3, 10, 0], .null, []) := rfl
theorem cd47_49 : code9 47 49 = some (0, .ifCond .ne 5, [3, 54], .null, []) := rfl
theorem cd47_52 : code9 47 52 = some (0, .iconst 0, [1], .int 0, []) := rfl
theorem cd47_53 : code9 47 53 = some (0, .ireturn, [1, 3], .null, []) := rfl
theorem cd47_54 : code9 47 54 = some (0, .aload_n 1, [1], .null, []) := rfl
theorem cd47_55 : code9 47 55 = some (0, .getfield 144, [3, 10, 12, 0], .null, []) := rfl
theorem cd47_58 : code9 47 58 = some (0, .istore_n 2, [1], .null, []) := rfl
theorem cd47_59 : code9 47 59 = some (0, .aload_n 1, [1], .null, []) := rfl
theorem cd47_60 : code9 47 60 = some (0, .iload_n 2, [1], .null, []) := rfl
theorem cd47_61 : code9 47 61 = some (0, .sipush 999, [3], .int 999, []) := rfl
theorem cd47_64 : code9 47 64 = some (0, .invokevirtual 141, [3, 117, 3, 1, 3, 3, 10, 0], .null, []) := rfl
theorem cd47_67 : code9 47 67 = some (0, .ifCond .ne 5, [3, 72], .null, []) := rfl
theorem cd47_70 : code9 47 70 = some (0, .iconst 0, [1], .int 0, []) := rfl
theorem cd47_71 : code9 47 71 = some (0, .ireturn, [1, 3], .null, []) := rfl
theorem cd47_72 : code9 47 72 = some (0, .aload_n 0, [1], .null, []) := rfl
theorem cd47_73 : code9 47 73 = some (0, .getfield 25, [3, 6, 4, 2], .null, []) := rfl
theorem cd47_76 : code9 47 76 = some (0, .iconst 2, [1], .int 2, []) := rfl
theorem cd47_77 : code9 47 77 = some (0, .aload_n 0, [1], .null, []) := rfl
theorem cd47_78 : code9 47 78 = some (0, .getfield 53, [3, 6, 13, 0], .null, []) := rfl
theorem cd47_81 : code9 47 81 = some (0, .imul, [1], .null, []) := rfl
theorem cd47_82 : code9 47 82 = some (0, .iload_n 2, [1], .null, []) := rfl
theorem cd47_83 : code9 47 83 = some (0, .iastore, [1], .null, []) := rfl
theorem cd47_84 : code9 47 84 = some (0, .aload_n 0, [1], .null, []) := rfl
theorem cd47_85 : code9 47 85 = some (0, .getfield 25, [3, 6, 4, 2], .null, []) := rfl
theorem cd47_88 : code9 47 88 = some (0, .iconst 2, [1], .int 2, []) := rfl
theorem cd47_89 : code9 47 89 = some (0, .aload_n 0, [1], .null, []) := rfl
theorem cd47_90 : code9 47 90 = some (0, .getfield 53, [3, 6, 13, 0], .null, []) := rfl
theorem cd47_93 : code9 47 93 = some (0, .imul, [1], .null, []) := rfl
theorem cd47_94 : code9 47 94 = some (0, .iconst 1, [1], .int 1, []) := rfl
theorem cd47_95 : code9 47 95 = some (0, .iadd, [1], .null, []) := rfl
theorem cd47_96 : code9 47 96 = some (0, .aload_n 1, [1], .null, []) := rfl
theorem cd47_97 : code9 47 97 = some (0, .getfield 144, [3, 10, 12, 0], .null, []) := rfl
theorem cd47_100 : code9 47 100 = some (0, .iastore, [1], .null, []) := rfl
theorem cd47_101 : code9 47 101 = some (0, .aload_n 0, [1], .null, []) := rfl
theorem cd47_102 : code9 47 102 = some (0, .dup, [1], .null, []) := rfl
theorem cd47_103 : code9 47 103 = some (0, .getfield 53, [3, 6, 13, 0], .null, []) := rfl
theorem cd47_106 : code9 47 106 = some (0, .iconst 1, [1], .int 1, []) := rfl
theorem cd47_107 : code9 47 107 = some (0, .iadd, [1], .null, []) := rfl
theorem cd47_108 : code9 47 108 = some (0, .putfield 53, [3, 6, 13, 0], .null, []) := rfl
theorem cd47_111 : code9 47 111 = some (0, .iconst 1, [1], .int 1, []) := rfl
theorem cd47_112 : code9 47 112 = some (0, .ireturn, [1, 3], .null, []) := rfl
def Land_readFear (N : Nat) (a0 a1 : Nat) (I : FI) (J : FJ) : Option (Bool × FI × FJ) := if 6 ≤ (I a0 13) then (Option.bind (Land_reachNewName N a0 a1 false I J) fun x1 => (if x1.1 then (if in9 (x1.2.1 a0 13) 6 then (Option.bind (some (up2 x1.2.2 (a0 + 3) ((x1.2.1 a0 13).toNatClampNeg) (x1.2.2 a1 10))) fun J3 => (Option.bind (Tape_step a1 x1.2.1 J3) fun x4 => (Option.bind (Tape_takeNumber a1 0 999 x4.1 x4.2) fun x5 => (if x5.1 then (Option.bind (Tape_takeNumber a1 (x5.2.1 a1 12) 999 x5.2.1 x5.2.2) fun x6 => (if x6.1 then (if in9 (2 * (x6.2.1 a0 13)) 12 then (Option.bind (some (up2 x6.2.1 (a0 + 5) ((2 * (x6.2.1 a0 13)).toNatClampNeg) (x5.2.1 a1 12))) fun I8 => (if in9 ((2 * (I8 a0 13)) + 1) 12 then (Option.bind (some (up2 I8 (a0 + 5) (((2 * (I8 a0 13)) + 1).toNatClampNeg) (I8 a1 12))) fun I10 => (Option.bind (some (up2 I10 a0 13 ((I10 a0 13) + 1))) fun I11 => (some (true, I11, x6.2.2)))) else none)) else none) else (some (false, x6.2.1, x6.2.2)))) else (some (false, x5.2.1, x5.2.2)))))) else none) else (some (false, x1.2.1, x1.2.2)))) else (Option.bind (Land_reachNewName N a0 a1 true I J) fun x12 => (if x12.1 then (if in9 (x12.2.1 a0 13) 6 then (Option.bind (some (up2 x12.2.2 (a0 + 3) ((x12.2.1 a0 13).toNatClampNeg) (x12.2.2 a1 10))) fun J14 => (Option.bind (Tape_step a1 x12.2.1 J14) fun x15 => (Option.bind (Tape_takeNumber a1 0 999 x15.1 x15.2) fun x16 => (if x16.1 then (Option.bind (Tape_takeNumber a1 (x16.2.1 a1 12) 999 x16.2.1 x16.2.2) fun x17 => (if x17.1 then (if in9 (2 * (x17.2.1 a0 13)) 12 then (Option.bind (some (up2 x17.2.1 (a0 + 5) ((2 * (x17.2.1 a0 13)).toNatClampNeg) (x16.2.1 a1 12))) fun I19 => (if in9 ((2 * (I19 a0 13)) + 1) 12 then (Option.bind (some (up2 I19 (a0 + 5) (((2 * (I19 a0 13)) + 1).toNatClampNeg) (I19 a1 12))) fun I21 => (Option.bind (some (up2 I21 a0 13 ((I21 a0 13) + 1))) fun I22 => (some (true, I22, x17.2.2)))) else none)) else none) else (some (false, x17.2.1, x17.2.2)))) else (some (false, x16.2.1, x16.2.2)))))) else none) else (some (false, x12.2.1, x12.2.2))))
set_option maxRecDepth 8000 in
theorem t_Land_readFear {d : Nat} {N : Nat} {a0 a1 : Nat} {c : Nat × Nat} {S : Nat → Nat × Nat} {P : Nat → Nat → Option Nat} {I : FI} {J : FJ} {r : Bool × FI × FJ} (hd : 3 ≤ d) (h0 : O6 S P a0) (h1 : O10 S P a1) (h : Land_readFear N a0 a1 I J = some r) : Go d M_Land_readFear 0 [some (.ref a0), some (.ref a1), none] [] (c, S, I, J, P) (some (.int (b2i r.1)), false, (c, S, r.2.1, r.2.2, P)) := by
  obtain ⟨d, rfl⟩ : ∃ e, d = e + 1 := ⟨d - 1, by omega⟩
  unfold Land_readFear at h
  refine g_aload_n cd47_0 rfl rfl ?_
  refine g_aload_n cd47_1 rfl rfl ?_
  refine g_aload_n cd47_2 rfl rfl ?_
  refine g_getI cd47_3 rfl (O6.o h0) ?_
  refine g_bipush cd47_6 rfl ?_
  refine g_icmp_ge cd47_8 rfl (fun hb => ?_) (fun hb => ?_)
  · have h := ifpE hb h
    refine g_iconst cd47_15 rfl ?_
    obtain ⟨x1, hx, h⟩ := bnd h
    refine g_callVZ (L := [some (.ref a0), some (.ref a1), some (.int 0), none]) cd47_16 rfl rfl rfl rfl rfl (O6.o h0) (t_Land_reachNewName (by omega) h0 h1 hx) ?_
    refine g_if_ne cd47_19 rfl (fun hb => ?_) (fun hb => ?_)
    · have h := ifnE (b2i_f hb) h
      refine g_iconst cd47_22 rfl ?_
      exact g_iret cd47_23 (Or.inr ⟨rfl, Or.inl rfl⟩) (by obtain rfl := Option.some.inj h; rfl)
    · have h := ifpE (b2i_t hb) h
      refine g_aload_n cd47_24 rfl rfl ?_
      refine g_getP cd47_25 rfl (O6.o h0) (show P a0 2 = some (a0 + 3) from O6.p2 h0) ?_
      refine g_aload_n cd47_28 rfl rfl ?_
      refine g_getI cd47_29 rfl (O6.o h0) ?_
      refine g_aload_n cd47_32 rfl rfl ?_
      refine g_getJ cd47_33 rfl (O10.o h1) ?_
      obtain ⟨hg2, h⟩ := grd h
      obtain ⟨J3, e1, h⟩ := bnd h
      refine G_last cd47_36 rfl (show S (a0 + 3) = (4, 6) from O6.s2 h0) hg2 (Option.some.inj e1) ?_
      refine g_aload_n cd47_37 rfl rfl ?_
      obtain ⟨x4, hx, h⟩ := bnd h
      refine g_callVV (L := [some (.ref a1)]) cd47_38 rfl rfl rfl rfl rfl (O10.o h1) (t_Tape_step (by omega) h1 hx) ?_
      refine g_aload_n cd47_41 rfl rfl ?_
      refine g_iconst cd47_42 rfl ?_
      refine g_sipush cd47_43 rfl ?_
      obtain ⟨x5, hx, h⟩ := bnd h
      refine g_callVZ (L := [some (.ref a1), some (.int 0), some (.int 999)]) cd47_46 rfl rfl rfl rfl rfl (O10.o h1) (t_Tape_takeNumber (by omega) h1 hx) ?_
      refine g_if_ne cd47_49 rfl (fun hb => ?_) (fun hb => ?_)
      · have h := ifnE (b2i_f hb) h
        refine g_iconst cd47_52 rfl ?_
        exact g_iret cd47_53 (Or.inr ⟨rfl, Or.inl rfl⟩) (by obtain rfl := Option.some.inj h; rfl)
      · have h := ifpE (b2i_t hb) h
        refine g_aload_n cd47_54 rfl rfl ?_
        refine g_getI cd47_55 rfl (O10.o h1) ?_
        refine g_istore_n (ls2 := [some (.ref a0), some (.ref a1), some (.int (x5.2.1 a1 12))]) cd47_58 rfl rfl ?_
        refine g_aload_n cd47_59 rfl rfl ?_
        refine g_iload_n cd47_60 rfl rfl ?_
        refine g_sipush cd47_61 rfl ?_
        obtain ⟨x6, hx, h⟩ := bnd h
        refine g_callVZ (L := [some (.ref a1), some (.int (x5.2.1 a1 12)), some (.int 999)]) cd47_64 rfl rfl rfl rfl rfl (O10.o h1) (t_Tape_takeNumber (by omega) h1 hx) ?_
        refine g_if_ne cd47_67 rfl (fun hb => ?_) (fun hb => ?_)
        · have h := ifnE (b2i_f hb) h
          refine g_iconst cd47_70 rfl ?_
          exact g_iret cd47_71 (Or.inr ⟨rfl, Or.inl rfl⟩) (by obtain rfl := Option.some.inj h; rfl)
        · have h := ifpE (b2i_t hb) h
          refine g_aload_n cd47_72 rfl rfl ?_
          refine g_getP cd47_73 rfl (O6.o h0) (show P a0 4 = some (a0 + 5) from O6.p4 h0) ?_
          refine g_iconst cd47_76 rfl ?_
          refine g_aload_n cd47_77 rfl rfl ?_
          refine g_getI cd47_78 rfl (O6.o h0) ?_
          refine g_imul cd47_81 rfl ?_
          refine g_iload_n cd47_82 rfl rfl ?_
          obtain ⟨hg7, h⟩ := grd h
          obtain ⟨I8, e1, h⟩ := bnd h
          refine G_iast cd47_83 rfl (show S (a0 + 5) = (1, 12) from O6.s4 h0) hg7 (Option.some.inj e1) ?_
          refine g_aload_n cd47_84 rfl rfl ?_
          refine g_getP cd47_85 rfl (O6.o h0) (show P a0 4 = some (a0 + 5) from O6.p4 h0) ?_
          refine g_iconst cd47_88 rfl ?_
          refine g_aload_n cd47_89 rfl rfl ?_
          refine g_getI cd47_90 rfl (O6.o h0) ?_
          refine g_imul cd47_93 rfl ?_
          refine g_iconst cd47_94 rfl ?_
          refine g_iadd cd47_95 rfl ?_
          refine g_aload_n cd47_96 rfl rfl ?_
          refine g_getI cd47_97 rfl (O10.o h1) ?_
          obtain ⟨hg9, h⟩ := grd h
          obtain ⟨I10, e1, h⟩ := bnd h
          refine G_iast cd47_100 rfl (show S (a0 + 5) = (1, 12) from O6.s4 h0) hg9 (Option.some.inj e1) ?_
          refine g_aload_n cd47_101 rfl rfl ?_
          refine g_dupR cd47_102 rfl ?_
          refine g_getI cd47_103 rfl (O6.o h0) ?_
          refine g_iconst cd47_106 rfl ?_
          refine g_iadd cd47_107 rfl ?_
          obtain ⟨I11, e1, h⟩ := bnd h
          refine G_putI cd47_108 rfl (O6.o h0) (Option.some.inj e1) ?_
          refine g_iconst cd47_111 rfl ?_
          exact g_iret cd47_112 (Or.inr ⟨rfl, Or.inr rfl⟩) (by obtain rfl := Option.some.inj h; rfl)
  · have h := ifnE hb h
    refine g_iconst cd47_11 rfl ?_
    refine g_goto (ls2 := [some (.ref a0), some (.ref a1), none]) cd47_12 rfl rfl ?_
    obtain ⟨x12, hx, h⟩ := bnd h
    refine g_callVZ (L := [some (.ref a0), some (.ref a1), some (.int 1), none]) cd47_16 rfl rfl rfl rfl rfl (O6.o h0) (t_Land_reachNewName (by omega) h0 h1 hx) ?_
    refine g_if_ne cd47_19 rfl (fun hb => ?_) (fun hb => ?_)
    · have h := ifnE (b2i_f hb) h
      refine g_iconst cd47_22 rfl ?_
      exact g_iret cd47_23 (Or.inr ⟨rfl, Or.inl rfl⟩) (by obtain rfl := Option.some.inj h; rfl)
    · have h := ifpE (b2i_t hb) h
      refine g_aload_n cd47_24 rfl rfl ?_
      refine g_getP cd47_25 rfl (O6.o h0) (show P a0 2 = some (a0 + 3) from O6.p2 h0) ?_
      refine g_aload_n cd47_28 rfl rfl ?_
      refine g_getI cd47_29 rfl (O6.o h0) ?_
      refine g_aload_n cd47_32 rfl rfl ?_
      refine g_getJ cd47_33 rfl (O10.o h1) ?_
      obtain ⟨hg13, h⟩ := grd h
      obtain ⟨J14, e1, h⟩ := bnd h
      refine G_last cd47_36 rfl (show S (a0 + 3) = (4, 6) from O6.s2 h0) hg13 (Option.some.inj e1) ?_
      refine g_aload_n cd47_37 rfl rfl ?_
      obtain ⟨x15, hx, h⟩ := bnd h
      refine g_callVV (L := [some (.ref a1)]) cd47_38 rfl rfl rfl rfl rfl (O10.o h1) (t_Tape_step (by omega) h1 hx) ?_
      refine g_aload_n cd47_41 rfl rfl ?_
      refine g_iconst cd47_42 rfl ?_
      refine g_sipush cd47_43 rfl ?_
      obtain ⟨x16, hx, h⟩ := bnd h
      refine g_callVZ (L := [some (.ref a1), some (.int 0), some (.int 999)]) cd47_46 rfl rfl rfl rfl rfl (O10.o h1) (t_Tape_takeNumber (by omega) h1 hx) ?_
      refine g_if_ne cd47_49 rfl (fun hb => ?_) (fun hb => ?_)
      · have h := ifnE (b2i_f hb) h
        refine g_iconst cd47_52 rfl ?_
        exact g_iret cd47_53 (Or.inr ⟨rfl, Or.inl rfl⟩) (by obtain rfl := Option.some.inj h; rfl)
      · have h := ifpE (b2i_t hb) h
        refine g_aload_n cd47_54 rfl rfl ?_
        refine g_getI cd47_55 rfl (O10.o h1) ?_
        refine g_istore_n (ls2 := [some (.ref a0), some (.ref a1), some (.int (x16.2.1 a1 12))]) cd47_58 rfl rfl ?_
        refine g_aload_n cd47_59 rfl rfl ?_
        refine g_iload_n cd47_60 rfl rfl ?_
        refine g_sipush cd47_61 rfl ?_
        obtain ⟨x17, hx, h⟩ := bnd h
        refine g_callVZ (L := [some (.ref a1), some (.int (x16.2.1 a1 12)), some (.int 999)]) cd47_64 rfl rfl rfl rfl rfl (O10.o h1) (t_Tape_takeNumber (by omega) h1 hx) ?_
        refine g_if_ne cd47_67 rfl (fun hb => ?_) (fun hb => ?_)
        · have h := ifnE (b2i_f hb) h
          refine g_iconst cd47_70 rfl ?_
          exact g_iret cd47_71 (Or.inr ⟨rfl, Or.inl rfl⟩) (by obtain rfl := Option.some.inj h; rfl)
        · have h := ifpE (b2i_t hb) h
          refine g_aload_n cd47_72 rfl rfl ?_
          refine g_getP cd47_73 rfl (O6.o h0) (show P a0 4 = some (a0 + 5) from O6.p4 h0) ?_
          refine g_iconst cd47_76 rfl ?_
          refine g_aload_n cd47_77 rfl rfl ?_
          refine g_getI cd47_78 rfl (O6.o h0) ?_
          refine g_imul cd47_81 rfl ?_
          refine g_iload_n cd47_82 rfl rfl ?_
          obtain ⟨hg18, h⟩ := grd h
          obtain ⟨I19, e1, h⟩ := bnd h
          refine G_iast cd47_83 rfl (show S (a0 + 5) = (1, 12) from O6.s4 h0) hg18 (Option.some.inj e1) ?_
          refine g_aload_n cd47_84 rfl rfl ?_
          refine g_getP cd47_85 rfl (O6.o h0) (show P a0 4 = some (a0 + 5) from O6.p4 h0) ?_
          refine g_iconst cd47_88 rfl ?_
          refine g_aload_n cd47_89 rfl rfl ?_
          refine g_getI cd47_90 rfl (O6.o h0) ?_
          refine g_imul cd47_93 rfl ?_
          refine g_iconst cd47_94 rfl ?_
          refine g_iadd cd47_95 rfl ?_
          refine g_aload_n cd47_96 rfl rfl ?_
          refine g_getI cd47_97 rfl (O10.o h1) ?_
          obtain ⟨hg20, h⟩ := grd h
          obtain ⟨I21, e1, h⟩ := bnd h
          refine G_iast cd47_100 rfl (show S (a0 + 5) = (1, 12) from O6.s4 h0) hg20 (Option.some.inj e1) ?_
          refine g_aload_n cd47_101 rfl rfl ?_
          refine g_dupR cd47_102 rfl ?_
          refine g_getI cd47_103 rfl (O6.o h0) ?_
          refine g_iconst cd47_106 rfl ?_
          refine g_iadd cd47_107 rfl ?_
          obtain ⟨I22, e1, h⟩ := bnd h
          refine G_putI cd47_108 rfl (O6.o h0) (Option.some.inj e1) ?_
          refine g_iconst cd47_111 rfl ?_
          exact g_iret cd47_112 (Or.inr ⟨rfl, Or.inr rfl⟩) (by obtain rfl := Option.some.inj h; rfl)
/-! HiddenOrLost$Land.readPair(LHiddenOrLost$Tape;III[I)Z -/
theorem cd48_0 : code9 48 0 = some (0, .aload_n 1, [1], .null, []) := rfl
theorem cd48_1 : code9 48 1 = some (0, .invokevirtual 134, [3, 114, 1, 1, 0, 1, 10, 0], .null, []) := rfl
theorem cd48_4 : code9 48 4 = some (0, .aload_n 1, [1], .null, []) := rfl
theorem cd48_5 : code9 48 5 = some (0, .bipush 12, [2], .int 12, []) := rfl
theorem cd48_7 : code9 48 7 = some (0, .iconst 3, [1], .int 3, []) := rfl
theorem cd48_8 : code9 48 8 = some (0, .invokevirtual 166, [3, 119, 3, 1, 3, 3, 10, 0], .null, []) := rfl
theorem cd48_11 : code9 48 11 = some (0, .ifCond .ne 5, [3, 16], .null, []) := rfl
theorem cd48_14 : code9 48 14 = some (0, .iconst 0, [1], .int 0, []) := rfl
theorem cd48_15 : code9 48 15 = some (0, .ireturn, [1, 3], .null, []) := rfl
theorem cd48_16 : code9 48 16 = some (0, .aload_n 1, [1], .null, []) := rfl
theorem cd48_17 : code9 48 17 = some (0, .getfield 144, [3, 10, 12, 0], .null, []) := rfl
theorem cd48_20 : code9 48 20 = some (0, .istore 6, [2], .null, []) := rfl
theorem cd48_22 : code9 48 22 = some (0, .aload_n 1, [1], .null, []) := rfl
theorem cd48_23 : code9 48 23 = some (0, .iload_n 2, [1], .null, []) := rfl
theorem cd48_24 : code9 48 24 = some (0, .iload_n 3, [1], .null, []) := rfl
theorem cd48_25 : code9 48 25 = some (0, .invokevirtual 102, [3, 115, 3, 1, 3, 3, 10, 0], .null, []) := rfl
theorem cd48_28 : code9 48 28 = some (0, .ifCond .ne 9, [3, 37], .null, []) := rfl
theorem cd48_31 : code9 48 31 = some (0, .aload_n 1, [1], .null, []) := rfl
theorem cd48_32 : code9 48 32 = some (0, .iconst 1, [1], .int 1, []) := rfl
theorem cd48_33 : code9 48 33 = some (0, .invokevirtual 106, [3, 116, 2, 1, 3, 2, 10, 0], .null, []) := rfl
theorem cd48_36 : code9 48 36 = some (0, .ireturn, [1, 3], .null, []) := rfl
theorem cd48_37 : code9 48 37 = some (0, .iload 6, [2], .null, []) := rfl
theorem cd48_39 : code9 48 39 = some (0, .iload_n 3, [1], .null, []) := rfl
theorem cd48_40 : code9 48 40 = some (0, .imul, [1], .null, []) := rfl
theorem cd48_41 : code9 48 41 = some (0, .aload_n 1, [1], .null, []) := rfl
theorem cd48_42 : code9 48 42 = some (0, .getfield 109, [3, 10, 11, 0], .null, []) := rfl
theorem cd48_45 : code9 48 45 = some (0, .iadd, [1], .null, []) := rfl
theorem cd48_46 : code9 48 46 = some (0, .iload_n 2, [1], .null, []) := rfl
theorem cd48_47 : code9 48 47 = some (0, .isub, [1], .null, []) := rfl
theorem cd48_48 : code9 48 48 = some (0, .istore 7, [2], .null, []) := rfl
theorem cd48_50 : code9 48 50 = some (0, .aload_n 0, [1], .null, []) := rfl
theorem cd48_51 : code9 48 51 = some (0, .aload_n 1, [1], .null, []) := rfl
theorem cd48_52 : code9 48 52 = some (0, .iload 4, [2], .null, []) := rfl
theorem cd48_54 : code9 48 54 = some (0, .iload 7, [2], .null, []) := rfl
theorem cd48_56 : code9 48 56 = some (0, .iadd, [1], .null, []) := rfl
theorem cd48_57 : code9 48 57 = some (0, .invokevirtual 137, [3, 39, 3, 1, 3, 3, 6, 0], .null, []) := rfl
theorem cd48_60 : code9 48 60 = some (0, .ifCond .eq 13, [3, 73], .null, []) := rfl
theorem cd48_63 : code9 48 63 = some (0, .aload_n 1, [1], .null, []) := rfl
theorem cd48_64 : code9 48 64 = some (0, .iconst 0, [1], .int 0, []) := rfl
theorem cd48_65 : code9 48 65 = some (0, .bipush 12, [2], .int 12, []) := rfl
theorem cd48_67 : code9 48 67 = some (0, .invokevirtual 141, [3, 117, 3, 1, 3, 3, 10, 0], .null, []) := rfl
theorem cd48_70 : code9 48 70 = some (0, .ifCond .ne 5, [3, 75], .null, []) := rfl
theorem cd48_73 : code9 48 73 = some (9, .iconst 0, [1], .int 0, []) := rfl
theorem cd48_74 : code9 48 74 = some (0, .ireturn, [1, 3], .null, []) := rfl
theorem cd48_75 : code9 48 75 = some (0, .iload 7, [2], .null, []) := rfl
theorem cd48_77 : code9 48 77 = some (0, .ifCond .lt 20, [3, 97], .null, []) := rfl
theorem cd48_80 : code9 48 80 = some (0, .iload 7, [2], .null, []) := rfl
theorem cd48_82 : code9 48 82 = some (0, .aload 5, [2], .null, []) := rfl
theorem cd48_84 : code9 48 84 = some (0, .arraylength, [1], .null, []) := rfl
theorem cd48_85 : code9 48 85 = some (0, .if_icmp .ge 12, [3, 97], .null, []) := rfl
theorem cd48_88 : code9 48 88 = some (0, .aload 5, [2], .null, []) := rfl
theorem cd48_90 : code9 48 90 = some (0, .iload 7, [2], .null, []) := rfl
theorem cd48_92 : code9 48 92 = some (0, .aload_n 1, [1], .null, []) := rfl
theorem cd48_93 : code9 48 93 = some (0, .getfield 144, [3, 10, 12, 0], .null, []) := rfl
theorem cd48_96 : code9 48 96 = some (0, .iastore, [1], .null, []) := rfl
theorem cd48_97 : code9 48 97 = some (9, .iconst 1, [1], .int 1, []) := rfl
theorem cd48_98 : code9 48 98 = some (0, .ireturn, [1, 3], .null, []) := rfl
def Land_readPair (a0 a1 a5 n5 : Nat) (l2 : Int32) (l3 : Int32) (l4 : Int32) (I : FI) (J : FJ) : Option (Bool × FI × FJ) := Option.bind (Tape_step a1 I J) fun x1 => (Option.bind (Tape_takeAmong a1 12 3 x1.1 x1.2) fun x2 => (if x2.1 then (if (Tape_isAmong a1 l2 l3 x2.2.1) then (Option.bind (Land_takeOnce a0 a1 (l4 + ((((x2.2.1 a1 12) * l3) + (x2.2.1 a1 11)) - l2)) x2.2.1 x2.2.2) fun x4 => (if x4.1 then (Option.bind (Tape_takeNumber a1 0 12 x4.2.1 x4.2.2) fun x5 => (if x5.1 then (if ((((x2.2.1 a1 12) * l3) + (x2.2.1 a1 11)) - l2) < 0 then (some (true, x5.2.1, x5.2.2)) else (if (Int32.ofNat n5) ≤ ((((x2.2.1 a1 12) * l3) + (x2.2.1 a1 11)) - l2) then (some (true, x5.2.1, x5.2.2)) else (if in9 ((((x2.2.1 a1 12) * l3) + (x2.2.1 a1 11)) - l2) n5 then (Option.bind (some (up2 x5.2.1 a5 (((((x2.2.1 a1 12) * l3) + (x2.2.1 a1 11)) - l2).toNatClampNeg) (x5.2.1 a1 12))) fun I7 => (some (true, I7, x5.2.2))) else none))) else (some (false, x5.2.1, x5.2.2)))) else (some (false, x4.2.1, x4.2.2)))) else (Option.bind (Tape_fail a1 1 x2.2.1) fun x3 => (some (x3.1, x3.2, x2.2.2)))) else (some (false, x2.2.1, x2.2.2))))
set_option maxRecDepth 8000 in
theorem t_Land_readPair {d : Nat} {a0 a1 a5 n5 : Nat} {c : Nat × Nat} {S : Nat → Nat × Nat} {P : Nat → Nat → Option Nat} {I : FI} {J : FJ} {l2 : Int32} {l3 : Int32} {l4 : Int32} {r : Bool × FI × FJ} (hd : 2 ≤ d) (h0 : O6 S P a0) (h1 : O10 S P a1) (h5 : S a5 = (1, n5)) (h : Land_readPair a0 a1 a5 n5 l2 l3 l4 I J = some r) : Go d M_Land_readPair 0 [some (.ref a0), some (.ref a1), some (.int l2), some (.int l3), some (.int l4), some (.ref a5), none, none] [] (c, S, I, J, P) (some (.int (b2i r.1)), false, (c, S, r.2.1, r.2.2, P)) := by
  obtain ⟨d, rfl⟩ : ∃ e, d = e + 1 := ⟨d - 1, by omega⟩
  unfold Land_readPair at h
  refine g_aload_n cd48_0 rfl rfl ?_
  obtain ⟨x1, hx, h⟩ := bnd h
  refine g_callVV (L := [some (.ref a1)]) cd48_1 rfl rfl rfl rfl rfl (O10.o h1) (t_Tape_step (by omega) h1 hx) ?_
  refine g_aload_n cd48_4 rfl rfl ?_
  refine g_bipush cd48_5 rfl ?_
  refine g_iconst cd48_7 rfl ?_
  obtain ⟨x2, hx, h⟩ := bnd h
  refine g_callVZ (L := [some (.ref a1), some (.int 12), some (.int 3)]) cd48_8 rfl rfl rfl rfl rfl (O10.o h1) (t_Tape_takeAmong (by omega) h1 hx) ?_
  refine g_if_ne cd48_11 rfl (fun hb => ?_) (fun hb => ?_)
  · have h := ifnE (b2i_f hb) h
    refine g_iconst cd48_14 rfl ?_
    exact g_iret cd48_15 (Or.inr ⟨rfl, Or.inl rfl⟩) (by obtain rfl := Option.some.inj h; rfl)
  · have h := ifpE (b2i_t hb) h
    refine g_aload_n cd48_16 rfl rfl ?_
    refine g_getI cd48_17 rfl (O10.o h1) ?_
    refine g_istore (ls2 := [some (.ref a0), some (.ref a1), some (.int l2), some (.int l3), some (.int l4), some (.ref a5), some (.int (x2.2.1 a1 12)), none]) cd48_20 rfl rfl ?_
    refine g_aload_n cd48_22 rfl rfl ?_
    refine g_iload_n cd48_23 rfl rfl ?_
    refine g_iload_n cd48_24 rfl rfl ?_
    refine g_callVZ (L := [some (.ref a1), some (.int l2), some (.int l3)]) cd48_25 rfl rfl rfl rfl rfl (O10.o h1) (t_Tape_isAmong (by omega) h1 rfl) ?_
    refine g_if_ne cd48_28 rfl (fun hb => ?_) (fun hb => ?_)
    · have h := ifnE (b2i_f hb) h
      refine g_aload_n cd48_31 rfl rfl ?_
      refine g_iconst cd48_32 rfl ?_
      obtain ⟨x3, hx, h⟩ := bnd h
      refine g_callVZ (L := [some (.ref a1), some (.int 1)]) cd48_33 rfl rfl rfl rfl rfl (O10.o h1) (t_Tape_fail (by omega) h1 hx) ?_
      exact g_iret cd48_36 (Or.inr ⟨rfl, b2i_or _⟩) (by obtain rfl := Option.some.inj h; rfl)
    · have h := ifpE (b2i_t hb) h
      refine g_iload cd48_37 rfl rfl ?_
      refine g_iload_n cd48_39 rfl rfl ?_
      refine g_imul cd48_40 rfl ?_
      refine g_aload_n cd48_41 rfl rfl ?_
      refine g_getI cd48_42 rfl (O10.o h1) ?_
      refine g_iadd cd48_45 rfl ?_
      refine g_iload_n cd48_46 rfl rfl ?_
      refine g_isub cd48_47 rfl ?_
      refine g_istore (ls2 := [some (.ref a0), some (.ref a1), some (.int l2), some (.int l3), some (.int l4), some (.ref a5), some (.int (x2.2.1 a1 12)), some (.int ((((x2.2.1 a1 12) * l3) + (x2.2.1 a1 11)) - l2))]) cd48_48 rfl rfl ?_
      refine g_aload_n cd48_50 rfl rfl ?_
      refine g_aload_n cd48_51 rfl rfl ?_
      refine g_iload cd48_52 rfl rfl ?_
      refine g_iload cd48_54 rfl rfl ?_
      refine g_iadd cd48_56 rfl ?_
      obtain ⟨x4, hx, h⟩ := bnd h
      refine g_callVZ (L := [some (.ref a0), some (.ref a1), some (.int (l4 + ((((x2.2.1 a1 12) * l3) + (x2.2.1 a1 11)) - l2)))]) cd48_57 rfl rfl rfl rfl rfl (O6.o h0) (t_Land_takeOnce (by omega) h0 h1 hx) ?_
      refine g_if_eq cd48_60 rfl (fun hb => ?_) (fun hb => ?_)
      · have h := ifnE (b2i_f hb) h
        refine g_iconst cd48_73 rfl ?_
        exact g_iret cd48_74 (Or.inr ⟨rfl, Or.inl rfl⟩) (by obtain rfl := Option.some.inj h; rfl)
      · have h := ifpE (b2i_t hb) h
        refine g_aload_n cd48_63 rfl rfl ?_
        refine g_iconst cd48_64 rfl ?_
        refine g_bipush cd48_65 rfl ?_
        obtain ⟨x5, hx, h⟩ := bnd h
        refine g_callVZ (L := [some (.ref a1), some (.int 0), some (.int 12)]) cd48_67 rfl rfl rfl rfl rfl (O10.o h1) (t_Tape_takeNumber (by omega) h1 hx) ?_
        refine g_if_ne cd48_70 rfl (fun hb => ?_) (fun hb => ?_)
        · have h := ifnE (b2i_f hb) h
          refine g_iconst cd48_73 rfl ?_
          exact g_iret cd48_74 (Or.inr ⟨rfl, Or.inl rfl⟩) (by obtain rfl := Option.some.inj h; rfl)
        · have h := ifpE (b2i_t hb) h
          refine g_iload cd48_75 rfl rfl ?_
          refine g_if_lt cd48_77 rfl (fun hb => ?_) (fun hb => ?_)
          · have h := ifpE hb h
            refine g_iconst cd48_97 rfl ?_
            exact g_iret cd48_98 (Or.inr ⟨rfl, Or.inr rfl⟩) (by obtain rfl := Option.some.inj h; rfl)
          · have h := ifnE hb h
            refine g_iload cd48_80 rfl rfl ?_
            refine g_aload cd48_82 rfl rfl ?_
            refine G_alen cd48_84 rfl h5 (by decide) ?_
            refine g_icmp_ge cd48_85 rfl (fun hb => ?_) (fun hb => ?_)
            · have h := ifpE hb h
              refine g_iconst cd48_97 rfl ?_
              exact g_iret cd48_98 (Or.inr ⟨rfl, Or.inr rfl⟩) (by obtain rfl := Option.some.inj h; rfl)
            · have h := ifnE hb h
              refine g_aload cd48_88 rfl rfl ?_
              refine g_iload cd48_90 rfl rfl ?_
              refine g_aload_n cd48_92 rfl rfl ?_
              refine g_getI cd48_93 rfl (O10.o h1) ?_
              obtain ⟨hg6, h⟩ := grd h
              obtain ⟨I7, e1, h⟩ := bnd h
              refine G_iast cd48_96 rfl h5 hg6 (Option.some.inj e1) ?_
              refine g_iconst cd48_97 rfl ?_
              exact g_iret cd48_98 (Or.inr ⟨rfl, Or.inr rfl⟩) (by obtain rfl := Option.some.inj h; rfl)
/-! HiddenOrLost$Land.readPrior(LHiddenOrLost$Tape;)Z -/
theorem cd49_0 : code9 49 0 = some (0, .aload_n 1, [1], .null, []) := rfl
theorem cd49_1 : code9 49 1 = some (0, .invokevirtual 134, [3, 114, 1, 1, 0, 1, 10, 0], .null, []) := rfl
theorem cd49_4 : code9 49 4 = some (0, .aload_n 1, [1], .null, []) := rfl
theorem cd49_5 : code9 49 5 = some (0, .bipush 12, [2], .int 12, []) := rfl
theorem cd49_7 : code9 49 7 = some (0, .iconst 3, [1], .int 3, []) := rfl
theorem cd49_8 : code9 49 8 = some (0, .invokevirtual 102, [3, 115, 3, 1, 3, 3, 10, 0], .null, []) := rfl
theorem cd49_11 : code9 49 11 = some (0, .ifCond .ne 9, [3, 20], .null, []) := rfl
theorem cd49_14 : code9 49 14 = some (0, .aload_n 1, [1], .null, []) := rfl
theorem cd49_15 : code9 49 15 = some (0, .iconst 1, [1], .int 1, []) := rfl
theorem cd49_16 : code9 49 16 = some (0, .invokevirtual 106, [3, 116, 2, 1, 3, 2, 10, 0], .null, []) := rfl
theorem cd49_19 : code9 49 19 = some (0, .ireturn, [1, 3], .null, []) := rfl
theorem cd49_20 : code9 49 20 = some (0, .aload_n 1, [1], .null, []) := rfl
theorem cd49_21 : code9 49 21 = some (0, .getfield 109, [3, 10, 11, 0], .null, []) := rfl
theorem cd49_24 : code9 49 24 = some (0, .bipush 12, [2], .int 12, []) := rfl
theorem cd49_26 : code9 49 26 = some (0, .isub, [1], .null, []) := rfl
theorem cd49_27 : code9 49 27 = some (0, .istore_n 2, [1], .null, []) := rfl
theorem cd49_28 : code9 49 28 = some (0, .aload_n 0, [1], .null, []) := rfl
theorem cd49_29 : code9 49 29 = some (0, .aload_n 1, [1], .null, []) := rfl
theorem cd49_30 : code9 49 30 = some (0, .iconst 2, [1], .int 2, []) := rfl
theorem cd49_31 : code9 49 31 = some (0, .iload_n 2, [1], .null, []) := rfl
theorem cd49_32 : code9 49 32 = some (0, .iadd, [1], .null, []) := rfl
theorem cd49_33 : code9 49 33 = some (0, .invokevirtual 137, [3, 39, 3, 1, 3, 3, 6, 0], .null, []) := rfl
theorem cd49_36 : code9 49 36 = some (0, .ifCond .eq 13, [3, 49], .null, []) := rfl
theorem cd49_39 : code9 49 39 = some (0, .aload_n 1, [1], .null, []) := rfl
theorem cd49_40 : code9 49 40 = some (0, .iconst 1, [1], .int 1, []) := rfl
theorem cd49_41 : code9 49 41 = some (0, .bipush 99, [2], .int 99, []) := rfl
theorem cd49_43 : code9 49 43 = some (0, .invokevirtual 141, [3, 117, 3, 1, 3, 3, 10, 0], .null, []) := rfl
theorem cd49_46 : code9 49 46 = some (0, .ifCond .ne 5, [3, 51], .null, []) := rfl
theorem cd49_49 : code9 49 49 = some (4, .iconst 0, [1], .int 0, []) := rfl
theorem cd49_50 : code9 49 50 = some (0, .ireturn, [1, 3], .null, []) := rfl
theorem cd49_51 : code9 49 51 = some (0, .aload_n 0, [1], .null, []) := rfl
theorem cd49_52 : code9 49 52 = some (0, .getfield 31, [3, 6, 6, 2], .null, []) := rfl
theorem cd49_55 : code9 49 55 = some (0, .iload_n 2, [1], .null, []) := rfl
theorem cd49_56 : code9 49 56 = some (0, .aload_n 1, [1], .null, []) := rfl
theorem cd49_57 : code9 49 57 = some (0, .getfield 144, [3, 10, 12, 0], .null, []) := rfl
theorem cd49_60 : code9 49 60 = some (0, .iastore, [1], .null, []) := rfl
theorem cd49_61 : code9 49 61 = some (0, .iconst 1, [1], .int 1, []) := rfl
theorem cd49_62 : code9 49 62 = some (0, .ireturn, [1, 3], .null, []) := rfl
def Land_readPrior (a0 a1 : Nat) (I : FI) (J : FJ) : Option (Bool × FI × FJ) := Option.bind (Tape_step a1 I J) fun x1 => (if (Tape_isAmong a1 12 3 x1.1) then (Option.bind (Land_takeOnce a0 a1 (2 + ((x1.1 a1 11) - 12)) x1.1 x1.2) fun x3 => (if x3.1 then (Option.bind (Tape_takeNumber a1 1 99 x3.2.1 x3.2.2) fun x4 => (if x4.1 then (if in9 ((x1.1 a1 11) - 12) 3 then (Option.bind (some (up2 x4.2.1 (a0 + 7) (((x1.1 a1 11) - 12).toNatClampNeg) (x4.2.1 a1 12))) fun I6 => (some (true, I6, x4.2.2))) else none) else (some (false, x4.2.1, x4.2.2)))) else (some (false, x3.2.1, x3.2.2)))) else (Option.bind (Tape_fail a1 1 x1.1) fun x2 => (some (x2.1, x2.2, x1.2))))
set_option maxRecDepth 8000 in
theorem t_Land_readPrior {d : Nat} {a0 a1 : Nat} {c : Nat × Nat} {S : Nat → Nat × Nat} {P : Nat → Nat → Option Nat} {I : FI} {J : FJ} {r : Bool × FI × FJ} (hd : 2 ≤ d) (h0 : O6 S P a0) (h1 : O10 S P a1) (h : Land_readPrior a0 a1 I J = some r) : Go d M_Land_readPrior 0 [some (.ref a0), some (.ref a1), none] [] (c, S, I, J, P) (some (.int (b2i r.1)), false, (c, S, r.2.1, r.2.2, P)) := by
  obtain ⟨d, rfl⟩ : ∃ e, d = e + 1 := ⟨d - 1, by omega⟩
  unfold Land_readPrior at h
  refine g_aload_n cd49_0 rfl rfl ?_
  obtain ⟨x1, hx, h⟩ := bnd h
  refine g_callVV (L := [some (.ref a1)]) cd49_1 rfl rfl rfl rfl rfl (O10.o h1) (t_Tape_step (by omega) h1 hx) ?_
  refine g_aload_n cd49_4 rfl rfl ?_
  refine g_bipush cd49_5 rfl ?_
  refine g_iconst cd49_7 rfl ?_
  refine g_callVZ (L := [some (.ref a1), some (.int 12), some (.int 3)]) cd49_8 rfl rfl rfl rfl rfl (O10.o h1) (t_Tape_isAmong (by omega) h1 rfl) ?_
  refine g_if_ne cd49_11 rfl (fun hb => ?_) (fun hb => ?_)
  · have h := ifnE (b2i_f hb) h
    refine g_aload_n cd49_14 rfl rfl ?_
    refine g_iconst cd49_15 rfl ?_
    obtain ⟨x2, hx, h⟩ := bnd h
    refine g_callVZ (L := [some (.ref a1), some (.int 1)]) cd49_16 rfl rfl rfl rfl rfl (O10.o h1) (t_Tape_fail (by omega) h1 hx) ?_
    exact g_iret cd49_19 (Or.inr ⟨rfl, b2i_or _⟩) (by obtain rfl := Option.some.inj h; rfl)
  · have h := ifpE (b2i_t hb) h
    refine g_aload_n cd49_20 rfl rfl ?_
    refine g_getI cd49_21 rfl (O10.o h1) ?_
    refine g_bipush cd49_24 rfl ?_
    refine g_isub cd49_26 rfl ?_
    refine g_istore_n (ls2 := [some (.ref a0), some (.ref a1), some (.int ((x1.1 a1 11) - 12))]) cd49_27 rfl rfl ?_
    refine g_aload_n cd49_28 rfl rfl ?_
    refine g_aload_n cd49_29 rfl rfl ?_
    refine g_iconst cd49_30 rfl ?_
    refine g_iload_n cd49_31 rfl rfl ?_
    refine g_iadd cd49_32 rfl ?_
    obtain ⟨x3, hx, h⟩ := bnd h
    refine g_callVZ (L := [some (.ref a0), some (.ref a1), some (.int (2 + ((x1.1 a1 11) - 12)))]) cd49_33 rfl rfl rfl rfl rfl (O6.o h0) (t_Land_takeOnce (by omega) h0 h1 hx) ?_
    refine g_if_eq cd49_36 rfl (fun hb => ?_) (fun hb => ?_)
    · have h := ifnE (b2i_f hb) h
      refine g_iconst cd49_49 rfl ?_
      exact g_iret cd49_50 (Or.inr ⟨rfl, Or.inl rfl⟩) (by obtain rfl := Option.some.inj h; rfl)
    · have h := ifpE (b2i_t hb) h
      refine g_aload_n cd49_39 rfl rfl ?_
      refine g_iconst cd49_40 rfl ?_
      refine g_bipush cd49_41 rfl ?_
      obtain ⟨x4, hx, h⟩ := bnd h
      refine g_callVZ (L := [some (.ref a1), some (.int 1), some (.int 99)]) cd49_43 rfl rfl rfl rfl rfl (O10.o h1) (t_Tape_takeNumber (by omega) h1 hx) ?_
      refine g_if_ne cd49_46 rfl (fun hb => ?_) (fun hb => ?_)
      · have h := ifnE (b2i_f hb) h
        refine g_iconst cd49_49 rfl ?_
        exact g_iret cd49_50 (Or.inr ⟨rfl, Or.inl rfl⟩) (by obtain rfl := Option.some.inj h; rfl)
      · have h := ifpE (b2i_t hb) h
        refine g_aload_n cd49_51 rfl rfl ?_
        refine g_getP cd49_52 rfl (O6.o h0) (show P a0 6 = some (a0 + 7) from O6.p6 h0) ?_
        refine g_iload_n cd49_55 rfl rfl ?_
        refine g_aload_n cd49_56 rfl rfl ?_
        refine g_getI cd49_57 rfl (O10.o h1) ?_
        obtain ⟨hg5, h⟩ := grd h
        obtain ⟨I6, e1, h⟩ := bnd h
        refine G_iast cd49_60 rfl (show S (a0 + 7) = (1, 3) from O6.s6 h0) hg5 (Option.some.inj e1) ?_
        refine g_iconst cd49_61 rfl ?_
        exact g_iret cd49_62 (Or.inr ⟨rfl, Or.inr rfl⟩) (by obtain rfl := Option.some.inj h; rfl)
/-! HiddenOrLost$Land.readRisk(LHiddenOrLost$Tape;)Z -/
theorem cd50_0 : code9 50 0 = some (0, .aload_n 0, [1], .null, []) := rfl
theorem cd50_1 : code9 50 1 = some (0, .aload_n 1, [1], .null, []) := rfl
theorem cd50_2 : code9 50 2 = some (0, .iconst 1, [1], .int 1, []) := rfl
theorem cd50_3 : code9 50 3 = some (0, .invokevirtual 137, [3, 39, 3, 1, 3, 3, 6, 0], .null, []) := rfl
theorem cd50_6 : code9 50 6 = some (0, .ifCond .eq 13, [3, 19], .null, []) := rfl
theorem cd50_9 : code9 50 9 = some (0, .aload_n 1, [1], .null, []) := rfl
theorem cd50_10 : code9 50 10 = some (0, .iconst 0, [1], .int 0, []) := rfl
theorem cd50_11 : code9 50 11 = some (0, .bipush 12, [2], .int 12, []) := rfl
theorem cd50_13 : code9 50 13 = some (0, .invokevirtual 141, [3, 117, 3, 1, 3, 3, 10, 0], .null, []) := rfl
theorem cd50_16 : code9 50 16 = some (0, .ifCond .ne 5, [3, 21], .null, []) := rfl
theorem cd50_19 : code9 50 19 = some (3, .iconst 0, [1], .int 0, []) := rfl
theorem cd50_20 : code9 50 20 = some (0, .ireturn, [1, 3], .null, []) := rfl
theorem cd50_21 : code9 50 21 = some (0, .aload_n 0, [1], .null, []) := rfl
theorem cd50_22 : code9 50 22 = some (0, .aload_n 1, [1], .null, []) := rfl
theorem cd50_23 : code9 50 23 = some (0, .getfield 144, [3, 10, 12, 0], .null, []) := rfl
theorem cd50_26 : code9 50 26 = some (0, .putfield 44, [3, 6, 10, 0], .null, []) := rfl
theorem cd50_29 : code9 50 29 = some (0, .iconst 1, [1], .int 1, []) := rfl
theorem cd50_30 : code9 50 30 = some (0, .ireturn, [1, 3], .null, []) := rfl
def Land_readRisk (a0 a1 : Nat) (I : FI) (J : FJ) : Option (Bool × FI × FJ) := Option.bind (Land_takeOnce a0 a1 1 I J) fun x1 => (if x1.1 then (Option.bind (Tape_takeNumber a1 0 12 x1.2.1 x1.2.2) fun x2 => (if x2.1 then (Option.bind (some (up2 x2.2.1 a0 10 (x2.2.1 a1 12))) fun I3 => (some (true, I3, x2.2.2))) else (some (false, x2.2.1, x2.2.2)))) else (some (false, x1.2.1, x1.2.2)))
set_option maxRecDepth 8000 in
theorem t_Land_readRisk {d : Nat} {a0 a1 : Nat} {c : Nat × Nat} {S : Nat → Nat × Nat} {P : Nat → Nat → Option Nat} {I : FI} {J : FJ} {r : Bool × FI × FJ} (hd : 2 ≤ d) (h0 : O6 S P a0) (h1 : O10 S P a1) (h : Land_readRisk a0 a1 I J = some r) : Go d M_Land_readRisk 0 [some (.ref a0), some (.ref a1)] [] (c, S, I, J, P) (some (.int (b2i r.1)), false, (c, S, r.2.1, r.2.2, P)) := by
  obtain ⟨d, rfl⟩ : ∃ e, d = e + 1 := ⟨d - 1, by omega⟩
  unfold Land_readRisk at h
  refine g_aload_n cd50_0 rfl rfl ?_
  refine g_aload_n cd50_1 rfl rfl ?_
  refine g_iconst cd50_2 rfl ?_
  obtain ⟨x1, hx, h⟩ := bnd h
  refine g_callVZ (L := [some (.ref a0), some (.ref a1), some (.int 1)]) cd50_3 rfl rfl rfl rfl rfl (O6.o h0) (t_Land_takeOnce (by omega) h0 h1 hx) ?_
  refine g_if_eq cd50_6 rfl (fun hb => ?_) (fun hb => ?_)
  · have h := ifnE (b2i_f hb) h
    refine g_iconst cd50_19 rfl ?_
    exact g_iret cd50_20 (Or.inr ⟨rfl, Or.inl rfl⟩) (by obtain rfl := Option.some.inj h; rfl)
  · have h := ifpE (b2i_t hb) h
    refine g_aload_n cd50_9 rfl rfl ?_
    refine g_iconst cd50_10 rfl ?_
    refine g_bipush cd50_11 rfl ?_
    obtain ⟨x2, hx, h⟩ := bnd h
    refine g_callVZ (L := [some (.ref a1), some (.int 0), some (.int 12)]) cd50_13 rfl rfl rfl rfl rfl (O10.o h1) (t_Tape_takeNumber (by omega) h1 hx) ?_
    refine g_if_ne cd50_16 rfl (fun hb => ?_) (fun hb => ?_)
    · have h := ifnE (b2i_f hb) h
      refine g_iconst cd50_19 rfl ?_
      exact g_iret cd50_20 (Or.inr ⟨rfl, Or.inl rfl⟩) (by obtain rfl := Option.some.inj h; rfl)
    · have h := ifpE (b2i_t hb) h
      refine g_aload_n cd50_21 rfl rfl ?_
      refine g_aload_n cd50_22 rfl rfl ?_
      refine g_getI cd50_23 rfl (O10.o h1) ?_
      obtain ⟨I3, e1, h⟩ := bnd h
      refine G_putI cd50_26 rfl (O6.o h0) (Option.some.inj e1) ?_
      refine g_iconst cd50_29 rfl ?_
      exact g_iret cd50_30 (Or.inr ⟨rfl, Or.inr rfl⟩) (by obtain rfl := Option.some.inj h; rfl)
/-! HiddenOrLost$Land.readLine(LHiddenOrLost$Tape;)Z -/
theorem cd37_0 : code9 37 0 = some (0, .aload_n 1, [1], .null, []) := rfl
theorem cd37_1 : code9 37 1 = some (0, .iconst 0, [1], .int 0, []) := rfl
theorem cd37_2 : code9 37 2 = some (0, .bipush 8, [2], .int 8, []) := rfl
theorem cd37_4 : code9 37 4 = some (0, .invokevirtual 102, [3, 115, 3, 1, 3, 3, 10, 0], .null, []) := rfl
theorem cd37_7 : code9 37 7 = some (0, .ifCond .ne 9, [3, 16], .null, []) := rfl
theorem cd37_10 : code9 37 10 = some (0, .aload_n 1, [1], .null, []) := rfl
theorem cd37_11 : code9 37 11 = some (0, .iconst 1, [1], .int 1, []) := rfl
theorem cd37_12 : code9 37 12 = some (0, .invokevirtual 106, [3, 116, 2, 1, 3, 2, 10, 0], .null, []) := rfl
theorem cd37_15 : code9 37 15 = some (0, .ireturn, [1, 3], .null, []) := rfl
theorem cd37_16 : code9 37 16 = some (0, .aload_n 1, [1], .null, []) := rfl
theorem cd37_17 : code9 37 17 = some (0, .getfield 109, [3, 10, 11, 0], .null, []) := rfl
theorem cd37_20 : code9 37 20 = some (0, .tableswitch 103 0 6 #[44, 50, 56, 62, 68, 82, 88], [44, 123], .null, [(0, 64), (1, 70), (2, 76), (3, 82), (4, 88), (5, 102), (6, 108)]) := rfl
theorem cd37_64 : code9 37 64 = some (0, .aload_n 0, [1], .null, []) := rfl
theorem cd37_65 : code9 37 65 = some (0, .aload_n 1, [1], .null, []) := rfl
theorem cd37_66 : code9 37 66 = some (0, .invokevirtual 112, [3, 38, 2, 1, 3, 2, 6, 0], .null, []) := rfl
theorem cd37_69 : code9 37 69 = some (0, .ireturn, [1, 3], .null, []) := rfl
theorem cd37_70 : code9 37 70 = some (0, .aload_n 0, [1], .null, []) := rfl
theorem cd37_71 : code9 37 71 = some (0, .aload_n 1, [1], .null, []) := rfl
theorem cd37_72 : code9 37 72 = some (0, .invokevirtual 115, [3, 40, 2, 1, 3, 2, 6, 0], .null, []) := rfl
theorem cd37_75 : code9 37 75 = some (0, .ireturn, [1, 3], .null, []) := rfl
theorem cd37_76 : code9 37 76 = some (0, .aload_n 0, [1], .null, []) := rfl
theorem cd37_77 : code9 37 77 = some (0, .aload_n 1, [1], .null, []) := rfl
theorem cd37_78 : code9 37 78 = some (0, .invokevirtual 118, [3, 45, 2, 1, 3, 4, 6, 0], .null, []) := rfl
theorem cd37_81 : code9 37 81 = some (0, .ireturn, [1, 3], .null, []) := rfl
theorem cd37_82 : code9 37 82 = some (0, .aload_n 0, [1], .null, []) := rfl
theorem cd37_83 : code9 37 83 = some (0, .aload_n 1, [1], .null, []) := rfl
theorem cd37_84 : code9 37 84 = some (0, .invokevirtual 121, [3, 47, 2, 1, 3, 3, 6, 0], .null, []) := rfl
theorem cd37_87 : code9 37 87 = some (0, .ireturn, [1, 3], .null, []) := rfl
theorem cd37_88 : code9 37 88 = some (0, .aload_n 0, [1], .null, []) := rfl
theorem cd37_89 : code9 37 89 = some (0, .aload_n 1, [1], .null, []) := rfl
theorem cd37_90 : code9 37 90 = some (0, .bipush 8, [2], .int 8, []) := rfl
theorem cd37_92 : code9 37 92 = some (0, .iconst 4, [1], .int 4, []) := rfl
theorem cd37_93 : code9 37 93 = some (0, .iconst 5, [1], .int 5, []) := rfl
theorem cd37_94 : code9 37 94 = some (0, .aload_n 0, [1], .null, []) := rfl
theorem cd37_95 : code9 37 95 = some (0, .getfield 28, [3, 6, 5, 2], .null, []) := rfl
theorem cd37_98 : code9 37 98 = some (0, .invokevirtual 124, [3, 48, 6, 1, 3, 8, 6, 0], .null, []) := rfl
theorem cd37_101 : code9 37 101 = some (0, .ireturn, [1, 3], .null, []) := rfl
theorem cd37_102 : code9 37 102 = some (0, .aload_n 0, [1], .null, []) := rfl
theorem cd37_103 : code9 37 103 = some (0, .aload_n 1, [1], .null, []) := rfl
theorem cd37_104 : code9 37 104 = some (0, .invokevirtual 128, [3, 49, 2, 1, 3, 3, 6, 0], .null, []) := rfl
theorem cd37_107 : code9 37 107 = some (0, .ireturn, [1, 3], .null, []) := rfl
theorem cd37_108 : code9 37 108 = some (0, .aload_n 0, [1], .null, []) := rfl
theorem cd37_109 : code9 37 109 = some (0, .aload_n 1, [1], .null, []) := rfl
theorem cd37_110 : code9 37 110 = some (0, .bipush 15, [2], .int 15, []) := rfl
theorem cd37_112 : code9 37 112 = some (0, .iconst 3, [1], .int 3, []) := rfl
theorem cd37_113 : code9 37 113 = some (0, .bipush 17, [2], .int 17, []) := rfl
theorem cd37_115 : code9 37 115 = some (0, .aload_n 0, [1], .null, []) := rfl
theorem cd37_116 : code9 37 116 = some (0, .getfield 34, [3, 6, 7, 2], .null, []) := rfl
theorem cd37_119 : code9 37 119 = some (0, .invokevirtual 124, [3, 48, 6, 1, 3, 8, 6, 0], .null, []) := rfl
theorem cd37_122 : code9 37 122 = some (0, .ireturn, [1, 3], .null, []) := rfl
theorem cd37_123 : code9 37 123 = some (0, .aload_n 0, [1], .null, []) := rfl
theorem cd37_124 : code9 37 124 = some (0, .aload_n 1, [1], .null, []) := rfl
theorem cd37_125 : code9 37 125 = some (0, .invokevirtual 131, [3, 50, 2, 1, 3, 2, 6, 0], .null, []) := rfl
theorem cd37_128 : code9 37 128 = some (0, .ireturn, [1, 3], .null, []) := rfl
def Land_readLine (N : Nat) (a0 a1 : Nat) (I : FI) (J : FJ) : Option (Bool × FI × FJ) := if (Tape_isAmong a1 0 8 I) then (if (I a1 11) = 0 then (Option.bind (Land_readSize a0 a1 I J) fun x2 => (some (x2.1, x2.2.1, x2.2.2))) else (if (I a1 11) = 1 then (Option.bind (Land_readPerson N a0 a1 I J) fun x3 => (some (x3.1, x3.2.1, x3.2.2))) else (if (I a1 11) = 2 then (Option.bind (Land_readFind N a0 a1 I J) fun x4 => (some (x4.1, x4.2.1, x4.2.2))) else (if (I a1 11) = 3 then (Option.bind (Land_readFear N a0 a1 I J) fun x5 => (some (x5.1, x5.2.1, x5.2.2))) else (if (I a1 11) = 4 then (Option.bind (Land_readPair a0 a1 (a0 + 6) 12 8 4 5 I J) fun x6 => (some (x6.1, x6.2.1, x6.2.2))) else (if (I a1 11) = 5 then (Option.bind (Land_readPrior a0 a1 I J) fun x7 => (some (x7.1, x7.2.1, x7.2.2))) else (if (I a1 11) = 6 then (Option.bind (Land_readPair a0 a1 (a0 + 8) 9 15 3 17 I J) fun x8 => (some (x8.1, x8.2.1, x8.2.2))) else (Option.bind (Land_readRisk a0 a1 I J) fun x9 => (some (x9.1, x9.2.1, x9.2.2)))))))))) else (Option.bind (Tape_fail a1 1 I) fun x1 => (some (x1.1, x1.2, J)))
set_option maxRecDepth 8000 in
theorem t_Land_readLine {d : Nat} {N : Nat} {a0 a1 : Nat} {c : Nat × Nat} {S : Nat → Nat × Nat} {P : Nat → Nat → Option Nat} {I : FI} {J : FJ} {r : Bool × FI × FJ} (hd : 4 ≤ d) (h0 : O6 S P a0) (h1 : O10 S P a1) (h : Land_readLine N a0 a1 I J = some r) : Go d M_Land_readLine 0 [some (.ref a0), some (.ref a1)] [] (c, S, I, J, P) (some (.int (b2i r.1)), false, (c, S, r.2.1, r.2.2, P)) := by
  obtain ⟨d, rfl⟩ : ∃ e, d = e + 1 := ⟨d - 1, by omega⟩
  unfold Land_readLine at h
  refine g_aload_n cd37_0 rfl rfl ?_
  refine g_iconst cd37_1 rfl ?_
  refine g_bipush cd37_2 rfl ?_
  refine g_callVZ (L := [some (.ref a1), some (.int 0), some (.int 8)]) cd37_4 rfl rfl rfl rfl rfl (O10.o h1) (t_Tape_isAmong (by omega) h1 rfl) ?_
  refine g_if_ne cd37_7 rfl (fun hb => ?_) (fun hb => ?_)
  · have h := ifnE (b2i_f hb) h
    refine g_aload_n cd37_10 rfl rfl ?_
    refine g_iconst cd37_11 rfl ?_
    obtain ⟨x1, hx, h⟩ := bnd h
    refine g_callVZ (L := [some (.ref a1), some (.int 1)]) cd37_12 rfl rfl rfl rfl rfl (O10.o h1) (t_Tape_fail (by omega) h1 hx) ?_
    exact g_iret cd37_15 (Or.inr ⟨rfl, b2i_or _⟩) (by obtain rfl := Option.some.inj h; rfl)
  · have h := ifpE (b2i_t hb) h
    refine g_aload_n cd37_16 rfl rfl ?_
    refine g_getI cd37_17 rfl (O10.o h1) ?_
    refine g_tableswitch cd37_20 rfl ?_
    refine ifi (fun hb => ?_) (fun hb => ?_)
    · have h := ifpE hb h
      show Go _ _ 64 [some (.ref a0), some (.ref a1)] [] _ _
      refine g_aload_n cd37_64 rfl rfl ?_
      refine g_aload_n cd37_65 rfl rfl ?_
      obtain ⟨x2, hx, h⟩ := bnd h
      refine g_callVZ (L := [some (.ref a0), some (.ref a1)]) cd37_66 rfl rfl rfl rfl rfl (O6.o h0) (t_Land_readSize (by omega) h0 h1 hx) ?_
      exact g_iret cd37_69 (Or.inr ⟨rfl, b2i_or _⟩) (by obtain rfl := Option.some.inj h; rfl)
    have h := ifnE hb h
    refine ifi (fun hb => ?_) (fun hb => ?_)
    · have h := ifpE hb h
      show Go _ _ 70 [some (.ref a0), some (.ref a1)] [] _ _
      refine g_aload_n cd37_70 rfl rfl ?_
      refine g_aload_n cd37_71 rfl rfl ?_
      obtain ⟨x3, hx, h⟩ := bnd h
      refine g_callVZ (L := [some (.ref a0), some (.ref a1)]) cd37_72 rfl rfl rfl rfl rfl (O6.o h0) (t_Land_readPerson (by omega) h0 h1 hx) ?_
      exact g_iret cd37_75 (Or.inr ⟨rfl, b2i_or _⟩) (by obtain rfl := Option.some.inj h; rfl)
    have h := ifnE hb h
    refine ifi (fun hb => ?_) (fun hb => ?_)
    · have h := ifpE hb h
      show Go _ _ 76 [some (.ref a0), some (.ref a1)] [] _ _
      refine g_aload_n cd37_76 rfl rfl ?_
      refine g_aload_n cd37_77 rfl rfl ?_
      obtain ⟨x4, hx, h⟩ := bnd h
      refine g_callVZ (L := [some (.ref a0), some (.ref a1), none, none]) cd37_78 rfl rfl rfl rfl rfl (O6.o h0) (t_Land_readFind (by omega) h0 h1 hx) ?_
      exact g_iret cd37_81 (Or.inr ⟨rfl, b2i_or _⟩) (by obtain rfl := Option.some.inj h; rfl)
    have h := ifnE hb h
    refine ifi (fun hb => ?_) (fun hb => ?_)
    · have h := ifpE hb h
      show Go _ _ 82 [some (.ref a0), some (.ref a1)] [] _ _
      refine g_aload_n cd37_82 rfl rfl ?_
      refine g_aload_n cd37_83 rfl rfl ?_
      obtain ⟨x5, hx, h⟩ := bnd h
      refine g_callVZ (L := [some (.ref a0), some (.ref a1), none]) cd37_84 rfl rfl rfl rfl rfl (O6.o h0) (t_Land_readFear (by omega) h0 h1 hx) ?_
      exact g_iret cd37_87 (Or.inr ⟨rfl, b2i_or _⟩) (by obtain rfl := Option.some.inj h; rfl)
    have h := ifnE hb h
    refine ifi (fun hb => ?_) (fun hb => ?_)
    · have h := ifpE hb h
      show Go _ _ 88 [some (.ref a0), some (.ref a1)] [] _ _
      refine g_aload_n cd37_88 rfl rfl ?_
      refine g_aload_n cd37_89 rfl rfl ?_
      refine g_bipush cd37_90 rfl ?_
      refine g_iconst cd37_92 rfl ?_
      refine g_iconst cd37_93 rfl ?_
      refine g_aload_n cd37_94 rfl rfl ?_
      refine g_getP cd37_95 rfl (O6.o h0) (show P a0 5 = some (a0 + 6) from O6.p5 h0) ?_
      obtain ⟨x6, hx, h⟩ := bnd h
      refine g_callVZ (L := [some (.ref a0), some (.ref a1), some (.int 8), some (.int 4), some (.int 5), some (.ref (a0 + 6)), none, none]) cd37_98 rfl rfl rfl rfl rfl (O6.o h0) (t_Land_readPair (by omega) h0 h1 (show S (a0 + 6) = (1, 12) from O6.s5 h0) hx) ?_
      exact g_iret cd37_101 (Or.inr ⟨rfl, b2i_or _⟩) (by obtain rfl := Option.some.inj h; rfl)
    have h := ifnE hb h
    refine ifi (fun hb => ?_) (fun hb => ?_)
    · have h := ifpE hb h
      show Go _ _ 102 [some (.ref a0), some (.ref a1)] [] _ _
      refine g_aload_n cd37_102 rfl rfl ?_
      refine g_aload_n cd37_103 rfl rfl ?_
      obtain ⟨x7, hx, h⟩ := bnd h
      refine g_callVZ (L := [some (.ref a0), some (.ref a1), none]) cd37_104 rfl rfl rfl rfl rfl (O6.o h0) (t_Land_readPrior (by omega) h0 h1 hx) ?_
      exact g_iret cd37_107 (Or.inr ⟨rfl, b2i_or _⟩) (by obtain rfl := Option.some.inj h; rfl)
    have h := ifnE hb h
    refine ifi (fun hb => ?_) (fun hb => ?_)
    · have h := ifpE hb h
      show Go _ _ 108 [some (.ref a0), some (.ref a1)] [] _ _
      refine g_aload_n cd37_108 rfl rfl ?_
      refine g_aload_n cd37_109 rfl rfl ?_
      refine g_bipush cd37_110 rfl ?_
      refine g_iconst cd37_112 rfl ?_
      refine g_bipush cd37_113 rfl ?_
      refine g_aload_n cd37_115 rfl rfl ?_
      refine g_getP cd37_116 rfl (O6.o h0) (show P a0 7 = some (a0 + 8) from O6.p7 h0) ?_
      obtain ⟨x8, hx, h⟩ := bnd h
      refine g_callVZ (L := [some (.ref a0), some (.ref a1), some (.int 15), some (.int 3), some (.int 17), some (.ref (a0 + 8)), none, none]) cd37_119 rfl rfl rfl rfl rfl (O6.o h0) (t_Land_readPair (by omega) h0 h1 (show S (a0 + 8) = (1, 9) from O6.s7 h0) hx) ?_
      exact g_iret cd37_122 (Or.inr ⟨rfl, b2i_or _⟩) (by obtain rfl := Option.some.inj h; rfl)
    have h := ifnE hb h
    show Go _ _ 123 [some (.ref a0), some (.ref a1)] [] _ _
    refine g_aload_n cd37_123 rfl rfl ?_
    refine g_aload_n cd37_124 rfl rfl ?_
    obtain ⟨x9, hx, h⟩ := bnd h
    refine g_callVZ (L := [some (.ref a0), some (.ref a1)]) cd37_125 rfl rfl rfl rfl rfl (O6.o h0) (t_Land_readRisk (by omega) h0 h1 hx) ?_
    exact g_iret cd37_128 (Or.inr ⟨rfl, b2i_or _⟩) (by obtain rfl := Option.some.inj h; rfl)
/-! HiddenOrLost$Land.read(LHiddenOrLost$Tape;)Z -/
theorem cd36_0 : code9 36 0 = some (0, .aload_n 0, [1], .null, []) := rfl
theorem cd36_1 : code9 36 1 = some (0, .invokevirtual 62, [3, 35, 1, 1, 0, 1, 6, 0], .null, []) := rfl
theorem cd36_4 : code9 36 4 = some (0, .aload_n 1, [1], .null, []) := rfl
theorem cd36_5 : code9 36 5 = some (0, .sipush 900, [3], .int 900, []) := rfl
theorem cd36_8 : code9 36 8 = some (0, .invokevirtual 85, [3, 105, 2, 1, 0, 3, 10, 0], .null, []) := rfl
theorem cd36_11 : code9 36 11 = some (0, .iconst 0, [1], .int 0, []) := rfl
theorem cd36_12 : code9 36 12 = some (0, .istore_n 2, [1], .null, []) := rfl
theorem cd36_13 : code9 36 13 = some (4, .iload_n 2, [1], .null, []) := rfl
theorem cd36_14 : code9 36 14 = some (0, .sipush 900, [3], .int 900, []) := rfl
theorem cd36_17 : code9 36 17 = some (0, .if_icmp .ge 45, [3, 62], .null, []) := rfl
theorem cd36_20 : code9 36 20 = some (0, .aload_n 1, [1], .null, []) := rfl
theorem cd36_21 : code9 36 21 = some (0, .getfield 91, [3, 10, 9, 0], .null, []) := rfl
theorem cd36_24 : code9 36 24 = some (0, .ifCond .eq 38, [3, 62], .null, []) := rfl
theorem cd36_27 : code9 36 27 = some (0, .aload_n 0, [1], .null, []) := rfl
theorem cd36_28 : code9 36 28 = some (0, .aload_n 1, [1], .null, []) := rfl
theorem cd36_29 : code9 36 29 = some (0, .invokevirtual 94, [3, 37, 2, 1, 3, 2, 6, 0], .null, []) := rfl
theorem cd36_32 : code9 36 32 = some (0, .ifCond .eq 12, [3, 44], .null, []) := rfl
theorem cd36_35 : code9 36 35 = some (0, .aload_n 1, [1], .null, []) := rfl
theorem cd36_36 : code9 36 36 = some (0, .bipush 59, [2], .int 59, []) := rfl
theorem cd36_38 : code9 36 38 = some (0, .invokevirtual 98, [3, 120, 2, 1, 3, 2, 10, 0], .null, []) := rfl
theorem cd36_41 : code9 36 41 = some (0, .ifCond .ne 5, [3, 46], .null, []) := rfl
theorem cd36_44 : code9 36 44 = some (4, .iconst 0, [1], .int 0, []) := rfl
theorem cd36_45 : code9 36 45 = some (0, .ireturn, [1, 3], .null, []) := rfl
theorem cd36_46 : code9 36 46 = some (0, .aload_n 0, [1], .null, []) := rfl
theorem cd36_47 : code9 36 47 = some (0, .dup, [1], .null, []) := rfl
theorem cd36_48 : code9 36 48 = some (0, .getfield 56, [3, 6, 14, 0], .null, []) := rfl
theorem cd36_51 : code9 36 51 = some (0, .iconst 1, [1], .int 1, []) := rfl
theorem cd36_52 : code9 36 52 = some (0, .iadd, [1], .null, []) := rfl
theorem cd36_53 : code9 36 53 = some (0, .putfield 56, [3, 6, 14, 0], .null, []) := rfl
theorem cd36_56 : code9 36 56 = some (0, .iinc 2 1, [3], .int 1, []) := rfl
theorem cd36_59 : code9 36 59 = some (0, .goto (-46), [3, 13, 3], .null, []) := rfl
theorem cd36_62 : code9 36 62 = some (4, .iconst 1, [1], .int 1, []) := rfl
theorem cd36_63 : code9 36 63 = some (0, .ireturn, [1, 3], .null, []) := rfl
def Land_read_13 (N : Nat) (a0 a1 : Nat) : Nat → Int32 → FI → FJ → Option (Bool × FI × FJ)
  | 0 => fun _ _ _ => none
  | n + 1 => fun l2 I J => if 900 ≤ l2 then (some (true, I, J)) else (if (I a1 9) = 0 then (some (true, I, J)) else (Option.bind (Land_readLine N a0 a1 I J) fun x3 => (if x3.1 then (Option.bind (Tape_takeSign a1 59 x3.2.1 x3.2.2) fun x4 => (if x4.1 then (Option.bind (some (up2 x4.2.1 a0 14 ((x4.2.1 a0 14) + 1))) fun I5 => (Land_read_13 N a0 a1 n (l2 + 1) I5 x4.2.2)) else (some (false, x4.2.1, x4.2.2)))) else (some (false, x3.2.1, x3.2.2)))))
def Land_read (N : Nat) (a0 a1 : Nat) (I : FI) (J : FJ) : Option (Bool × FI × FJ) := Option.bind (Land_clear N a0 I) fun x1 => (Option.bind (Tape_begin N a1 900 x1 J) fun x2 => (Land_read_13 N a0 a1 N 0 x2.1 x2.2))
set_option maxRecDepth 8000 in
theorem t_Land_read_13 {d : Nat} {N : Nat} {a0 a1 : Nat} {c : Nat × Nat} {S : Nat → Nat × Nat} {P : Nat → Nat → Option Nat} {r : Bool × FI × FJ} (hd : 5 ≤ (d + 1)) (h0 : O6 S P a0) (h1 : O10 S P a1) : ∀ (n : Nat) (l2 : Int32) (I : FI) (J : FJ), Land_read_13 N a0 a1 n l2 I J = some r → Go (d + 1) M_Land_read 13 [some (.ref a0), some (.ref a1), some (.int l2)] [] (c, S, I, J, P) (some (.int (b2i r.1)), false, (c, S, r.2.1, r.2.2, P)) := by
  intro n
  induction n with
  | zero =>
    intro l2 I J h
    cases h
  | succ n ih =>
    intro l2 I J h
    unfold Land_read_13 at h
    refine g_iload_n cd36_13 rfl rfl ?_
    refine g_sipush cd36_14 rfl ?_
    refine g_icmp_ge cd36_17 rfl (fun hb => ?_) (fun hb => ?_)
    · have h := ifpE hb h
      refine g_iconst cd36_62 rfl ?_
      exact g_iret cd36_63 (Or.inr ⟨rfl, Or.inr rfl⟩) (by obtain rfl := Option.some.inj h; rfl)
    · have h := ifnE hb h
      refine g_aload_n cd36_20 rfl rfl ?_
      refine g_getI cd36_21 rfl (O10.o h1) ?_
      refine g_if_eq cd36_24 rfl (fun hb => ?_) (fun hb => ?_)
      · have h := ifpE hb h
        refine g_iconst cd36_62 rfl ?_
        exact g_iret cd36_63 (Or.inr ⟨rfl, Or.inr rfl⟩) (by obtain rfl := Option.some.inj h; rfl)
      · have h := ifnE hb h
        refine g_aload_n cd36_27 rfl rfl ?_
        refine g_aload_n cd36_28 rfl rfl ?_
        obtain ⟨x3, hx, h⟩ := bnd h
        refine g_callVZ (L := [some (.ref a0), some (.ref a1)]) cd36_29 rfl rfl rfl rfl rfl (O6.o h0) (t_Land_readLine (by omega) h0 h1 hx) ?_
        refine g_if_eq cd36_32 rfl (fun hb => ?_) (fun hb => ?_)
        · have h := ifnE (b2i_f hb) h
          refine g_iconst cd36_44 rfl ?_
          exact g_iret cd36_45 (Or.inr ⟨rfl, Or.inl rfl⟩) (by obtain rfl := Option.some.inj h; rfl)
        · have h := ifpE (b2i_t hb) h
          refine g_aload_n cd36_35 rfl rfl ?_
          refine g_bipush cd36_36 rfl ?_
          obtain ⟨x4, hx, h⟩ := bnd h
          refine g_callVZ (L := [some (.ref a1), some (.int 59)]) cd36_38 rfl rfl rfl rfl rfl (O10.o h1) (t_Tape_takeSign (by omega) h1 hx) ?_
          refine g_if_ne cd36_41 rfl (fun hb => ?_) (fun hb => ?_)
          · have h := ifnE (b2i_f hb) h
            refine g_iconst cd36_44 rfl ?_
            exact g_iret cd36_45 (Or.inr ⟨rfl, Or.inl rfl⟩) (by obtain rfl := Option.some.inj h; rfl)
          · have h := ifpE (b2i_t hb) h
            refine g_aload_n cd36_46 rfl rfl ?_
            refine g_dupR cd36_47 rfl ?_
            refine g_getI cd36_48 rfl (O6.o h0) ?_
            refine g_iconst cd36_51 rfl ?_
            refine g_iadd cd36_52 rfl ?_
            obtain ⟨I5, e1, h⟩ := bnd h
            refine G_putI cd36_53 rfl (O6.o h0) (Option.some.inj e1) ?_
            refine g_iinc (ls2 := [some (.ref a0), some (.ref a1), some (.int (l2 + 1))]) cd36_56 rfl rfl rfl ?_
            refine g_goto (ls2 := [some (.ref a0), some (.ref a1), some (.int (l2 + 1))]) cd36_59 rfl rfl ?_
            exact ih (l2 + 1) I5 x4.2.2 h
set_option maxRecDepth 8000 in
theorem t_Land_read {d : Nat} {N : Nat} {a0 a1 : Nat} {c : Nat × Nat} {S : Nat → Nat × Nat} {P : Nat → Nat → Option Nat} {I : FI} {J : FJ} {r : Bool × FI × FJ} (hd : 5 ≤ d) (h0 : O6 S P a0) (h1 : O10 S P a1) (h : Land_read N a0 a1 I J = some r) : Go d M_Land_read 0 [some (.ref a0), some (.ref a1), none] [] (c, S, I, J, P) (some (.int (b2i r.1)), false, (c, S, r.2.1, r.2.2, P)) := by
  obtain ⟨d, rfl⟩ : ∃ e, d = e + 1 := ⟨d - 1, by omega⟩
  unfold Land_read at h
  refine g_aload_n cd36_0 rfl rfl ?_
  obtain ⟨x1, hx, h⟩ := bnd h
  refine g_callVV (L := [some (.ref a0)]) cd36_1 rfl rfl rfl rfl rfl (O6.o h0) (t_Land_clear (by omega) h0 hx) ?_
  refine g_aload_n cd36_4 rfl rfl ?_
  refine g_sipush cd36_5 rfl ?_
  obtain ⟨x2, hx, h⟩ := bnd h
  refine g_callVV (L := [some (.ref a1), some (.int 900), none]) cd36_8 rfl rfl rfl rfl rfl (O10.o h1) (t_Tape_begin (by omega) h1 hx) ?_
  refine g_iconst cd36_11 rfl ?_
  refine g_istore_n (ls2 := [some (.ref a0), some (.ref a1), some (.int 0)]) cd36_12 rfl rfl ?_
  exact t_Land_read_13 hd h0 h1 _ 0 x2.1 x2.2 h
/-! HiddenOrLost$Land.valueOf(I)I -/
theorem cd54_0 : code9 54 0 = some (0, .iconst 0, [1], .int 0, []) := rfl
theorem cd54_1 : code9 54 1 = some (0, .istore_n 2, [1], .null, []) := rfl
theorem cd54_2 : code9 54 2 = some (0, .iconst 0, [1], .int 0, []) := rfl
theorem cd54_3 : code9 54 3 = some (0, .istore_n 3, [1], .null, []) := rfl
theorem cd54_4 : code9 54 4 = some (5, .iload_n 3, [1], .null, []) := rfl
theorem cd54_5 : code9 54 5 = some (0, .aload_n 0, [1], .null, []) := rfl
theorem cd54_6 : code9 54 6 = some (0, .getfield 50, [3, 6, 12, 0], .null, []) := rfl
theorem cd54_9 : code9 54 9 = some (0, .if_icmp .ge 27, [3, 36], .null, []) := rfl
theorem cd54_12 : code9 54 12 = some (0, .iload_n 1, [1], .null, []) := rfl
theorem cd54_13 : code9 54 13 = some (0, .iload_n 3, [1], .null, []) := rfl
theorem cd54_14 : code9 54 14 = some (0, .ishr, [1], .null, []) := rfl
theorem cd54_15 : code9 54 15 = some (0, .iconst 1, [1], .int 1, []) := rfl
theorem cd54_16 : code9 54 16 = some (0, .iand, [1], .null, []) := rfl
theorem cd54_17 : code9 54 17 = some (0, .iconst 1, [1], .int 1, []) := rfl
theorem cd54_18 : code9 54 18 = some (0, .if_icmp .ne 12, [3, 30], .null, []) := rfl
theorem cd54_21 : code9 54 21 = some (0, .iload_n 2, [1], .null, []) := rfl
theorem cd54_22 : code9 54 22 = some (0, .aload_n 0, [1], .null, []) := rfl
theorem cd54_23 : code9 54 23 = some (0, .iload_n 3, [1], .null, []) := rfl
theorem cd54_24 : code9 54 24 = some (0, .iconst 5, [1], .int 5, []) := rfl
theorem cd54_25 : code9 54 25 = some (0, .invokevirtual 77, [3, 51, 3, 1, 1, 3, 6, 0], .null, []) := rfl
theorem cd54_28 : code9 54 28 = some (0, .iadd, [1], .null, []) := rfl
theorem cd54_29 : code9 54 29 = some (0, .istore_n 2, [1], .null, []) := rfl
theorem cd54_30 : code9 54 30 = some (5, .iinc 3 1, [3], .int 1, []) := rfl
theorem cd54_33 : code9 54 33 = some (0, .goto (-29), [3, 4, 4], .null, []) := rfl
theorem cd54_36 : code9 54 36 = some (0, .iload_n 2, [1], .null, []) := rfl
theorem cd54_37 : code9 54 37 = some (0, .ireturn, [1, 1], .null, []) := rfl
def Land_valueOf_4 (N : Nat) (a0 : Nat) : Nat → Int32 → Int32 → Int32 → FI → Option (Int32)
  | 0 => fun _ _ _ _ => none
  | n + 1 => fun l1 l2 l3 I => if (I a0 12) ≤ l3 then (some l2) else (if ((l1 >>> (l3 &&& 31)) &&& 1) = 1 then (Option.bind (Land_factOf a0 l3 5 I) fun x1 => (Land_valueOf_4 N a0 n l1 (l2 + x1) (l3 + 1) I)) else (Land_valueOf_4 N a0 n l1 l2 (l3 + 1) I))
def Land_valueOf (N : Nat) (a0 : Nat) (l1 : Int32) (I : FI) : Option (Int32) := Land_valueOf_4 N a0 N l1 0 0 I
set_option maxRecDepth 8000 in
theorem t_Land_valueOf_4 {d : Nat} {N : Nat} {a0 : Nat} {c : Nat × Nat} {S : Nat → Nat × Nat} {P : Nat → Nat → Option Nat} {r : Int32} (hd : 1 ≤ (d + 1)) (h0 : O6 S P a0) : ∀ (n : Nat) (l1 : Int32) (l2 : Int32) (l3 : Int32) (I : FI) (J : FJ), Land_valueOf_4 N a0 n l1 l2 l3 I = some r → Go (d + 1) M_Land_valueOf 4 [some (.ref a0), some (.int l1), some (.int l2), some (.int l3)] [] (c, S, I, J, P) (some (.int r), false, (c, S, I, J, P)) := by
  intro n
  induction n with
  | zero =>
    intro l1 l2 l3 I J h
    cases h
  | succ n ih =>
    intro l1 l2 l3 I J h
    unfold Land_valueOf_4 at h
    refine g_iload_n cd54_4 rfl rfl ?_
    refine g_aload_n cd54_5 rfl rfl ?_
    refine g_getI cd54_6 rfl (O6.o h0) ?_
    refine g_icmp_ge cd54_9 rfl (fun hb => ?_) (fun hb => ?_)
    · have h := ifpE hb h
      refine g_iload_n cd54_36 rfl rfl ?_
      exact g_iret cd54_37 (Or.inl rfl) (by obtain rfl := Option.some.inj h; rfl)
    · have h := ifnE hb h
      refine g_iload_n cd54_12 rfl rfl ?_
      refine g_iload_n cd54_13 rfl rfl ?_
      refine g_ishr cd54_14 rfl ?_
      refine g_iconst cd54_15 rfl ?_
      refine g_iand cd54_16 rfl ?_
      refine g_iconst cd54_17 rfl ?_
      refine g_icmp_ne cd54_18 rfl (fun hb => ?_) (fun hb => ?_)
      · have h := ifpE hb h
        refine g_iload_n cd54_21 rfl rfl ?_
        refine g_aload_n cd54_22 rfl rfl ?_
        refine g_iload_n cd54_23 rfl rfl ?_
        refine g_iconst cd54_24 rfl ?_
        obtain ⟨x1, hx, h⟩ := bnd h
        refine g_callVI (L := [some (.ref a0), some (.int l3), some (.int 5)]) cd54_25 rfl rfl rfl rfl rfl (O6.o h0) (t_Land_factOf (by omega) h0 hx) ?_
        refine g_iadd cd54_28 rfl ?_
        refine g_istore_n (ls2 := [some (.ref a0), some (.int l1), some (.int (l2 + x1)), some (.int l3)]) cd54_29 rfl rfl ?_
        refine g_iinc (ls2 := [some (.ref a0), some (.int l1), some (.int (l2 + x1)), some (.int (l3 + 1))]) cd54_30 rfl rfl rfl ?_
        refine g_goto (ls2 := [some (.ref a0), some (.int l1), some (.int (l2 + x1)), some (.int (l3 + 1))]) cd54_33 rfl rfl ?_
        exact ih l1 (l2 + x1) (l3 + 1) I J h
      · have h := ifnE hb h
        refine g_iinc (ls2 := [some (.ref a0), some (.int l1), some (.int l2), some (.int (l3 + 1))]) cd54_30 rfl rfl rfl ?_
        refine g_goto (ls2 := [some (.ref a0), some (.int l1), some (.int l2), some (.int (l3 + 1))]) cd54_33 rfl rfl ?_
        exact ih l1 l2 (l3 + 1) I J h
set_option maxRecDepth 8000 in
theorem t_Land_valueOf {d : Nat} {N : Nat} {a0 : Nat} {c : Nat × Nat} {S : Nat → Nat × Nat} {P : Nat → Nat → Option Nat} {I : FI} {J : FJ} {l1 : Int32} {r : Int32} (hd : 1 ≤ d) (h0 : O6 S P a0) (h : Land_valueOf N a0 l1 I = some r) : Go d M_Land_valueOf 0 [some (.ref a0), some (.int l1), none, none] [] (c, S, I, J, P) (some (.int r), false, (c, S, I, J, P)) := by
  obtain ⟨d, rfl⟩ : ∃ e, d = e + 1 := ⟨d - 1, by omega⟩
  unfold Land_valueOf at h
  refine g_iconst cd54_0 rfl ?_
  refine g_istore_n (ls2 := [some (.ref a0), some (.int l1), some (.int 0), none]) cd54_1 rfl rfl ?_
  refine g_iconst cd54_2 rfl ?_
  refine g_istore_n (ls2 := [some (.ref a0), some (.int l1), some (.int 0), some (.int 0)]) cd54_3 rfl rfl ?_
  exact t_Land_valueOf_4 hd h0 _ l1 0 0 I J h
/-! HiddenOrLost$Land.hasFind(I)Z -/
theorem cd55_0 : code9 55 0 = some (0, .iload_n 1, [1], .null, []) := rfl
theorem cd55_1 : code9 55 1 = some (0, .ifCond .lt 15, [3, 16], .null, []) := rfl
theorem cd55_4 : code9 55 4 = some (0, .iload_n 1, [1], .null, []) := rfl
theorem cd55_5 : code9 55 5 = some (0, .aload_n 0, [1], .null, []) := rfl
theorem cd55_6 : code9 55 6 = some (0, .getfield 50, [3, 6, 12, 0], .null, []) := rfl
theorem cd55_9 : code9 55 9 = some (0, .if_icmp .ge 7, [3, 16], .null, []) := rfl
theorem cd55_12 : code9 55 12 = some (0, .iconst 1, [1], .int 1, []) := rfl
theorem cd55_13 : code9 55 13 = some (0, .goto 4, [3, 17, 2], .null, []) := rfl
theorem cd55_16 : code9 55 16 = some (3, .iconst 0, [1], .int 0, []) := rfl
theorem cd55_17 : code9 55 17 = some (3, .ireturn, [1, 3], .null, []) := rfl
def Land_hasFind (a0 : Nat) (l1 : Int32) (I : FI) : Bool := if l1 < 0 then (false) else (if (I a0 12) ≤ l1 then (false) else (true))
set_option maxRecDepth 8000 in
theorem t_Land_hasFind {d : Nat} {a0 : Nat} {c : Nat × Nat} {S : Nat → Nat × Nat} {P : Nat → Nat → Option Nat} {I : FI} {J : FJ} {l1 : Int32} {r : Bool} (hd : 0 ≤ d) (h0 : O6 S P a0) (h : Land_hasFind a0 l1 I = r) : Go d M_Land_hasFind 0 [some (.ref a0), some (.int l1)] [] (c, S, I, J, P) (some (.int (b2i r)), false, (c, S, I, J, P)) := by
  unfold Land_hasFind at h
  refine g_iload_n cd55_0 rfl rfl ?_
  refine g_if_lt cd55_1 rfl (fun hb => ?_) (fun hb => ?_)
  · have h := ifpE hb h
    refine g_iconst cd55_16 rfl ?_
    exact g_iret cd55_17 (Or.inr ⟨rfl, Or.inl rfl⟩) (by subst h; rfl)
  · have h := ifnE hb h
    refine g_iload_n cd55_4 rfl rfl ?_
    refine g_aload_n cd55_5 rfl rfl ?_
    refine g_getI cd55_6 rfl (O6.o h0) ?_
    refine g_icmp_ge cd55_9 rfl (fun hb => ?_) (fun hb => ?_)
    · have h := ifpE hb h
      refine g_iconst cd55_16 rfl ?_
      exact g_iret cd55_17 (Or.inr ⟨rfl, Or.inl rfl⟩) (by subst h; rfl)
    · have h := ifnE hb h
      refine g_iconst cd55_12 rfl ?_
      refine g_goto (ls2 := [some (.ref a0), some (.int l1)]) cd55_13 rfl rfl ?_
      exact g_iret cd55_17 (Or.inr ⟨rfl, Or.inr rfl⟩) (by subst h; rfl)
/-! HiddenOrLost$Land.fearFrom(I)I -/
theorem cd58_0 : code9 58 0 = some (0, .aload_n 0, [1], .null, []) := rfl
theorem cd58_1 : code9 58 1 = some (0, .getfield 25, [3, 6, 4, 2], .null, []) := rfl
theorem cd58_4 : code9 58 4 = some (0, .iconst 2, [1], .int 2, []) := rfl
theorem cd58_5 : code9 58 5 = some (0, .iload_n 1, [1], .null, []) := rfl
theorem cd58_6 : code9 58 6 = some (0, .imul, [1], .null, []) := rfl
theorem cd58_7 : code9 58 7 = some (0, .iaload, [1], .null, []) := rfl
theorem cd58_8 : code9 58 8 = some (0, .ireturn, [1, 1], .null, []) := rfl
def Land_fearFrom (a0 : Nat) (l1 : Int32) (I : FI) : Option (Int32) := if in9 (2 * l1) 12 then (some (I (a0 + 5) ((2 * l1).toNatClampNeg))) else none
set_option maxRecDepth 8000 in
theorem t_Land_fearFrom {d : Nat} {a0 : Nat} {c : Nat × Nat} {S : Nat → Nat × Nat} {P : Nat → Nat → Option Nat} {I : FI} {J : FJ} {l1 : Int32} {r : Int32} (hd : 0 ≤ d) (h0 : O6 S P a0) (h : Land_fearFrom a0 l1 I = some r) : Go d M_Land_fearFrom 0 [some (.ref a0), some (.int l1)] [] (c, S, I, J, P) (some (.int r), false, (c, S, I, J, P)) := by
  unfold Land_fearFrom at h
  refine g_aload_n cd58_0 rfl rfl ?_
  refine g_getP cd58_1 rfl (O6.o h0) (show P a0 4 = some (a0 + 5) from O6.p4 h0) ?_
  refine g_iconst cd58_4 rfl ?_
  refine g_iload_n cd58_5 rfl rfl ?_
  refine g_imul cd58_6 rfl ?_
  obtain ⟨hg1, h⟩ := grd h
  refine G_iald cd58_7 rfl (show S (a0 + 5) = (1, 12) from O6.s4 h0) hg1 ?_
  exact g_iret cd58_8 (Or.inl rfl) (by obtain rfl := Option.some.inj h; rfl)
/-! HiddenOrLost$Land.fearTo(I)I -/
theorem cd59_0 : code9 59 0 = some (0, .aload_n 0, [1], .null, []) := rfl
theorem cd59_1 : code9 59 1 = some (0, .getfield 25, [3, 6, 4, 2], .null, []) := rfl
theorem cd59_4 : code9 59 4 = some (0, .iconst 2, [1], .int 2, []) := rfl
theorem cd59_5 : code9 59 5 = some (0, .iload_n 1, [1], .null, []) := rfl
theorem cd59_6 : code9 59 6 = some (0, .imul, [1], .null, []) := rfl
theorem cd59_7 : code9 59 7 = some (0, .iconst 1, [1], .int 1, []) := rfl
theorem cd59_8 : code9 59 8 = some (0, .iadd, [1], .null, []) := rfl
theorem cd59_9 : code9 59 9 = some (0, .iaload, [1], .null, []) := rfl
theorem cd59_10 : code9 59 10 = some (0, .ireturn, [1, 1], .null, []) := rfl
def Land_fearTo (a0 : Nat) (l1 : Int32) (I : FI) : Option (Int32) := if in9 ((2 * l1) + 1) 12 then (some (I (a0 + 5) (((2 * l1) + 1).toNatClampNeg))) else none
set_option maxRecDepth 8000 in
theorem t_Land_fearTo {d : Nat} {a0 : Nat} {c : Nat × Nat} {S : Nat → Nat × Nat} {P : Nat → Nat → Option Nat} {I : FI} {J : FJ} {l1 : Int32} {r : Int32} (hd : 0 ≤ d) (h0 : O6 S P a0) (h : Land_fearTo a0 l1 I = some r) : Go d M_Land_fearTo 0 [some (.ref a0), some (.int l1)] [] (c, S, I, J, P) (some (.int r), false, (c, S, I, J, P)) := by
  unfold Land_fearTo at h
  refine g_aload_n cd59_0 rfl rfl ?_
  refine g_getP cd59_1 rfl (O6.o h0) (show P a0 4 = some (a0 + 5) from O6.p4 h0) ?_
  refine g_iconst cd59_4 rfl ?_
  refine g_iload_n cd59_5 rfl rfl ?_
  refine g_imul cd59_6 rfl ?_
  refine g_iconst cd59_7 rfl ?_
  refine g_iadd cd59_8 rfl ?_
  obtain ⟨hg1, h⟩ := grd h
  refine G_iald cd59_9 rfl (show S (a0 + 5) = (1, 12) from O6.s4 h0) hg1 ?_
  exact g_iret cd59_10 (Or.inl rfl) (by obtain rfl := Option.some.inj h; rfl)
/-! HiddenOrLost$Land.copy(LHiddenOrLost$Land;)V -/
theorem cd60_0 : code9 60 0 = some (0, .aload_n 1, [1], .null, []) := rfl
theorem cd60_1 : code9 60 1 = some (0, .getfield 9, [3, 6, 0, 2], .null, []) := rfl
theorem cd60_4 : code9 60 4 = some (0, .iconst 0, [1], .int 0, []) := rfl
theorem cd60_5 : code9 60 5 = some (0, .aload_n 0, [1], .null, []) := rfl
theorem cd60_6 : code9 60 6 = some (0, .getfield 9, [3, 6, 0, 2], .null, []) := rfl
theorem cd60_9 : code9 60 9 = some (0, .iconst 0, [1], .int 0, []) := rfl
theorem cd60_10 : code9 60 10 = some (0, .aload_n 0, [1], .null, []) := rfl
theorem cd60_11 : code9 60 11 = some (0, .getfield 9, [3, 6, 0, 2], .null, []) := rfl
theorem cd60_14 : code9 60 14 = some (0, .arraylength, [1], .null, []) := rfl
theorem cd60_15 : code9 60 15 = some (0, .invokestatic 71, [3, 2], .null, []) := rfl
theorem cd60_18 : code9 60 18 = some (0, .aload_n 1, [1], .null, []) := rfl
theorem cd60_19 : code9 60 19 = some (0, .getfield 15, [3, 6, 1, 2], .null, []) := rfl
theorem cd60_22 : code9 60 22 = some (0, .iconst 0, [1], .int 0, []) := rfl
theorem cd60_23 : code9 60 23 = some (0, .aload_n 0, [1], .null, []) := rfl
theorem cd60_24 : code9 60 24 = some (0, .getfield 15, [3, 6, 1, 2], .null, []) := rfl
theorem cd60_27 : code9 60 27 = some (0, .iconst 0, [1], .int 0, []) := rfl
theorem cd60_28 : code9 60 28 = some (0, .aload_n 0, [1], .null, []) := rfl
theorem cd60_29 : code9 60 29 = some (0, .getfield 15, [3, 6, 1, 2], .null, []) := rfl
theorem cd60_32 : code9 60 32 = some (0, .arraylength, [1], .null, []) := rfl
theorem cd60_33 : code9 60 33 = some (0, .invokestatic 71, [3, 2], .null, []) := rfl
theorem cd60_36 : code9 60 36 = some (0, .aload_n 1, [1], .null, []) := rfl
theorem cd60_37 : code9 60 37 = some (0, .getfield 18, [3, 6, 2, 2], .null, []) := rfl
theorem cd60_40 : code9 60 40 = some (0, .iconst 0, [1], .int 0, []) := rfl
theorem cd60_41 : code9 60 41 = some (0, .aload_n 0, [1], .null, []) := rfl
theorem cd60_42 : code9 60 42 = some (0, .getfield 18, [3, 6, 2, 2], .null, []) := rfl
theorem cd60_45 : code9 60 45 = some (0, .iconst 0, [1], .int 0, []) := rfl
theorem cd60_46 : code9 60 46 = some (0, .aload_n 0, [1], .null, []) := rfl
theorem cd60_47 : code9 60 47 = some (0, .getfield 18, [3, 6, 2, 2], .null, []) := rfl
theorem cd60_50 : code9 60 50 = some (0, .arraylength, [1], .null, []) := rfl
theorem cd60_51 : code9 60 51 = some (0, .invokestatic 71, [3, 2], .null, []) := rfl
theorem cd60_54 : code9 60 54 = some (0, .aload_n 1, [1], .null, []) := rfl
theorem cd60_55 : code9 60 55 = some (0, .getfield 21, [3, 6, 3, 2], .null, []) := rfl
theorem cd60_58 : code9 60 58 = some (0, .iconst 0, [1], .int 0, []) := rfl
theorem cd60_59 : code9 60 59 = some (0, .aload_n 0, [1], .null, []) := rfl
theorem cd60_60 : code9 60 60 = some (0, .getfield 21, [3, 6, 3, 2], .null, []) := rfl
theorem cd60_63 : code9 60 63 = some (0, .iconst 0, [1], .int 0, []) := rfl
theorem cd60_64 : code9 60 64 = some (0, .aload_n 0, [1], .null, []) := rfl
theorem cd60_65 : code9 60 65 = some (0, .getfield 21, [3, 6, 3, 2], .null, []) := rfl
theorem cd60_68 : code9 60 68 = some (0, .arraylength, [1], .null, []) := rfl
theorem cd60_69 : code9 60 69 = some (0, .invokestatic 71, [3, 2], .null, []) := rfl
theorem cd60_72 : code9 60 72 = some (0, .aload_n 1, [1], .null, []) := rfl
theorem cd60_73 : code9 60 73 = some (0, .getfield 25, [3, 6, 4, 2], .null, []) := rfl
theorem cd60_76 : code9 60 76 = some (0, .iconst 0, [1], .int 0, []) := rfl
theorem cd60_77 : code9 60 77 = some (0, .aload_n 0, [1], .null, []) := rfl
theorem cd60_78 : code9 60 78 = some (0, .getfield 25, [3, 6, 4, 2], .null, []) := rfl
theorem cd60_81 : code9 60 81 = some (0, .iconst 0, [1], .int 0, []) := rfl
theorem cd60_82 : code9 60 82 = some (0, .aload_n 0, [1], .null, []) := rfl
theorem cd60_83 : code9 60 83 = some (0, .getfield 25, [3, 6, 4, 2], .null, []) := rfl
theorem cd60_86 : code9 60 86 = some (0, .arraylength, [1], .null, []) := rfl
theorem cd60_87 : code9 60 87 = some (0, .invokestatic 71, [3, 2], .null, []) := rfl
theorem cd60_90 : code9 60 90 = some (0, .aload_n 1, [1], .null, []) := rfl
theorem cd60_91 : code9 60 91 = some (0, .getfield 28, [3, 6, 5, 2], .null, []) := rfl
theorem cd60_94 : code9 60 94 = some (0, .iconst 0, [1], .int 0, []) := rfl
theorem cd60_95 : code9 60 95 = some (0, .aload_n 0, [1], .null, []) := rfl
theorem cd60_96 : code9 60 96 = some (0, .getfield 28, [3, 6, 5, 2], .null, []) := rfl
theorem cd60_99 : code9 60 99 = some (0, .iconst 0, [1], .int 0, []) := rfl
theorem cd60_100 : code9 60 100 = some (0, .aload_n 0, [1], .null, []) := rfl
theorem cd60_101 : code9 60 101 = some (0, .getfield 28, [3, 6, 5, 2], .null, []) := rfl
theorem cd60_104 : code9 60 104 = some (0, .arraylength, [1], .null, []) := rfl
theorem cd60_105 : code9 60 105 = some (0, .invokestatic 71, [3, 2], .null, []) := rfl
theorem cd60_108 : code9 60 108 = some (0, .aload_n 1, [1], .null, []) := rfl
theorem cd60_109 : code9 60 109 = some (0, .getfield 31, [3, 6, 6, 2], .null, []) := rfl
theorem cd60_112 : code9 60 112 = some (0, .iconst 0, [1], .int 0, []) := rfl
theorem cd60_113 : code9 60 113 = some (0, .aload_n 0, [1], .null, []) := rfl
theorem cd60_114 : code9 60 114 = some (0, .getfield 31, [3, 6, 6, 2], .null, []) := rfl
theorem cd60_117 : code9 60 117 = some (0, .iconst 0, [1], .int 0, []) := rfl
theorem cd60_118 : code9 60 118 = some (0, .aload_n 0, [1], .null, []) := rfl
theorem cd60_119 : code9 60 119 = some (0, .getfield 31, [3, 6, 6, 2], .null, []) := rfl
theorem cd60_122 : code9 60 122 = some (0, .arraylength, [1], .null, []) := rfl
theorem cd60_123 : code9 60 123 = some (0, .invokestatic 71, [3, 2], .null, []) := rfl
theorem cd60_126 : code9 60 126 = some (0, .aload_n 1, [1], .null, []) := rfl
theorem cd60_127 : code9 60 127 = some (0, .getfield 34, [3, 6, 7, 2], .null, []) := rfl
theorem cd60_130 : code9 60 130 = some (0, .iconst 0, [1], .int 0, []) := rfl
theorem cd60_131 : code9 60 131 = some (0, .aload_n 0, [1], .null, []) := rfl
theorem cd60_132 : code9 60 132 = some (0, .getfield 34, [3, 6, 7, 2], .null, []) := rfl
theorem cd60_135 : code9 60 135 = some (0, .iconst 0, [1], .int 0, []) := rfl
theorem cd60_136 : code9 60 136 = some (0, .aload_n 0, [1], .null, []) := rfl
theorem cd60_137 : code9 60 137 = some (0, .getfield 34, [3, 6, 7, 2], .null, []) := rfl
theorem cd60_140 : code9 60 140 = some (0, .arraylength, [1], .null, []) := rfl
theorem cd60_141 : code9 60 141 = some (0, .invokestatic 71, [3, 2], .null, []) := rfl
theorem cd60_144 : code9 60 144 = some (0, .aload_n 0, [1], .null, []) := rfl
theorem cd60_145 : code9 60 145 = some (0, .aload_n 1, [1], .null, []) := rfl
theorem cd60_146 : code9 60 146 = some (0, .getfield 37, [3, 6, 8, 0], .null, []) := rfl
theorem cd60_149 : code9 60 149 = some (0, .putfield 37, [3, 6, 8, 0], .null, []) := rfl
theorem cd60_152 : code9 60 152 = some (0, .aload_n 0, [1], .null, []) := rfl
theorem cd60_153 : code9 60 153 = some (0, .aload_n 1, [1], .null, []) := rfl
theorem cd60_154 : code9 60 154 = some (0, .getfield 41, [3, 6, 9, 0], .null, []) := rfl
theorem cd60_157 : code9 60 157 = some (0, .putfield 41, [3, 6, 9, 0], .null, []) := rfl
theorem cd60_160 : code9 60 160 = some (0, .aload_n 0, [1], .null, []) := rfl
theorem cd60_161 : code9 60 161 = some (0, .aload_n 1, [1], .null, []) := rfl
theorem cd60_162 : code9 60 162 = some (0, .getfield 44, [3, 6, 10, 0], .null, []) := rfl
theorem cd60_165 : code9 60 165 = some (0, .putfield 44, [3, 6, 10, 0], .null, []) := rfl
theorem cd60_168 : code9 60 168 = some (0, .aload_n 0, [1], .null, []) := rfl
theorem cd60_169 : code9 60 169 = some (0, .aload_n 1, [1], .null, []) := rfl
theorem cd60_170 : code9 60 170 = some (0, .getfield 47, [3, 6, 11, 0], .null, []) := rfl
theorem cd60_173 : code9 60 173 = some (0, .putfield 47, [3, 6, 11, 0], .null, []) := rfl
theorem cd60_176 : code9 60 176 = some (0, .aload_n 0, [1], .null, []) := rfl
theorem cd60_177 : code9 60 177 = some (0, .aload_n 1, [1], .null, []) := rfl
theorem cd60_178 : code9 60 178 = some (0, .getfield 50, [3, 6, 12, 0], .null, []) := rfl
theorem cd60_181 : code9 60 181 = some (0, .putfield 50, [3, 6, 12, 0], .null, []) := rfl
theorem cd60_184 : code9 60 184 = some (0, .aload_n 0, [1], .null, []) := rfl
theorem cd60_185 : code9 60 185 = some (0, .aload_n 1, [1], .null, []) := rfl
theorem cd60_186 : code9 60 186 = some (0, .getfield 53, [3, 6, 13, 0], .null, []) := rfl
theorem cd60_189 : code9 60 189 = some (0, .putfield 53, [3, 6, 13, 0], .null, []) := rfl
theorem cd60_192 : code9 60 192 = some (0, .aload_n 0, [1], .null, []) := rfl
theorem cd60_193 : code9 60 193 = some (0, .aload_n 1, [1], .null, []) := rfl
theorem cd60_194 : code9 60 194 = some (0, .getfield 56, [3, 6, 14, 0], .null, []) := rfl
theorem cd60_197 : code9 60 197 = some (0, .putfield 56, [3, 6, 14, 0], .null, []) := rfl
theorem cd60_200 : code9 60 200 = some (0, .aload_n 0, [1], .null, []) := rfl
theorem cd60_201 : code9 60 201 = some (0, .aload_n 1, [1], .null, []) := rfl
theorem cd60_202 : code9 60 202 = some (0, .getfield 59, [3, 6, 15, 0], .null, []) := rfl
theorem cd60_205 : code9 60 205 = some (0, .putfield 59, [3, 6, 15, 0], .null, []) := rfl
theorem cd60_208 : code9 60 208 = some (0, .return_, [1], .null, []) := rfl
def Land_copy (a0 a1 : Nat) (I : FI) (J : FJ) : Option (FI × FJ) := if (a1 + 1) ≠ (a0 + 1) then (Option.bind (some (cp2 J (a1 + 1) ((0 : Int32).toNatClampNeg) (a0 + 1) ((0 : Int32).toNatClampNeg) ((Int32.ofNat 6).toNatClampNeg))) fun J2 => (if (a1 + 2) ≠ (a0 + 2) then (Option.bind (some (cp2 J2 (a1 + 2) ((0 : Int32).toNatClampNeg) (a0 + 2) ((0 : Int32).toNatClampNeg) ((Int32.ofNat 10).toNatClampNeg))) fun J4 => (if (a1 + 3) ≠ (a0 + 3) then (Option.bind (some (cp2 J4 (a1 + 3) ((0 : Int32).toNatClampNeg) (a0 + 3) ((0 : Int32).toNatClampNeg) ((Int32.ofNat 6).toNatClampNeg))) fun J6 => (if (a1 + 4) ≠ (a0 + 4) then (Option.bind (some (cp2 I (a1 + 4) ((0 : Int32).toNatClampNeg) (a0 + 4) ((0 : Int32).toNatClampNeg) ((Int32.ofNat 60).toNatClampNeg))) fun I8 => (if (a1 + 5) ≠ (a0 + 5) then (Option.bind (some (cp2 I8 (a1 + 5) ((0 : Int32).toNatClampNeg) (a0 + 5) ((0 : Int32).toNatClampNeg) ((Int32.ofNat 12).toNatClampNeg))) fun I10 => (if (a1 + 6) ≠ (a0 + 6) then (Option.bind (some (cp2 I10 (a1 + 6) ((0 : Int32).toNatClampNeg) (a0 + 6) ((0 : Int32).toNatClampNeg) ((Int32.ofNat 12).toNatClampNeg))) fun I12 => (if (a1 + 7) ≠ (a0 + 7) then (Option.bind (some (cp2 I12 (a1 + 7) ((0 : Int32).toNatClampNeg) (a0 + 7) ((0 : Int32).toNatClampNeg) ((Int32.ofNat 3).toNatClampNeg))) fun I14 => (if (a1 + 8) ≠ (a0 + 8) then (Option.bind (some (cp2 I14 (a1 + 8) ((0 : Int32).toNatClampNeg) (a0 + 8) ((0 : Int32).toNatClampNeg) ((Int32.ofNat 9).toNatClampNeg))) fun I16 => (Option.bind (some (up2 I16 a0 8 (I16 a1 8))) fun I17 => (Option.bind (some (up2 I17 a0 9 (I17 a1 9))) fun I18 => (Option.bind (some (up2 I18 a0 10 (I18 a1 10))) fun I19 => (Option.bind (some (up2 I19 a0 11 (I19 a1 11))) fun I20 => (Option.bind (some (up2 I20 a0 12 (I20 a1 12))) fun I21 => (Option.bind (some (up2 I21 a0 13 (I21 a1 13))) fun I22 => (Option.bind (some (up2 I22 a0 14 (I22 a1 14))) fun I23 => (Option.bind (some (up2 I23 a0 15 (I23 a1 15))) fun I24 => (some (I24, J6))))))))))) else none)) else none)) else none)) else none)) else none)) else none)) else none)) else none
set_option maxRecDepth 8000 in
theorem t_Land_copy {d : Nat} {a0 a1 : Nat} {c : Nat × Nat} {S : Nat → Nat × Nat} {P : Nat → Nat → Option Nat} {I : FI} {J : FJ} {r : FI × FJ} (hd : 1 ≤ d) (h0 : O6 S P a0) (h1 : O6 S P a1) (h : Land_copy a0 a1 I J = some r) : Go d M_Land_copy 0 [some (.ref a0), some (.ref a1)] [] (c, S, I, J, P) (none, false, (c, S, r.1, r.2, P)) := by
  obtain ⟨d, rfl⟩ : ∃ e, d = e + 1 := ⟨d - 1, by omega⟩
  unfold Land_copy at h
  refine g_aload_n cd60_0 rfl rfl ?_
  refine g_getP cd60_1 rfl (O6.o h1) (show P a1 0 = some (a1 + 1) from O6.p0 h1) ?_
  refine g_iconst cd60_4 rfl ?_
  refine g_aload_n cd60_5 rfl rfl ?_
  refine g_getP cd60_6 rfl (O6.o h0) (show P a0 0 = some (a0 + 1) from O6.p0 h0) ?_
  refine g_iconst cd60_9 rfl ?_
  refine g_aload_n cd60_10 rfl rfl ?_
  refine g_getP cd60_11 rfl (O6.o h0) (show P a0 0 = some (a0 + 1) from O6.p0 h0) ?_
  refine G_alen cd60_14 rfl (show S (a0 + 1) = (4, 6) from O6.s0 h0) (by decide) ?_
  obtain ⟨hg1, h⟩ := grd h
  obtain ⟨J2, e1, h⟩ := bnd h
  refine G_cpyJ cd60_15 rfl (Nat.succ_ne_zero _) (show S (a1 + 1) = (4, 6) from O6.s0 h1) (show S (a0 + 1) = (4, 6) from O6.s0 h0) hg1 (by decide) rfl (Option.some.inj e1) ?_
  refine g_aload_n cd60_18 rfl rfl ?_
  refine g_getP cd60_19 rfl (O6.o h1) (show P a1 1 = some (a1 + 2) from O6.p1 h1) ?_
  refine g_iconst cd60_22 rfl ?_
  refine g_aload_n cd60_23 rfl rfl ?_
  refine g_getP cd60_24 rfl (O6.o h0) (show P a0 1 = some (a0 + 2) from O6.p1 h0) ?_
  refine g_iconst cd60_27 rfl ?_
  refine g_aload_n cd60_28 rfl rfl ?_
  refine g_getP cd60_29 rfl (O6.o h0) (show P a0 1 = some (a0 + 2) from O6.p1 h0) ?_
  refine G_alen cd60_32 rfl (show S (a0 + 2) = (4, 10) from O6.s1 h0) (by decide) ?_
  obtain ⟨hg3, h⟩ := grd h
  obtain ⟨J4, e1, h⟩ := bnd h
  refine G_cpyJ cd60_33 rfl (Nat.succ_ne_zero _) (show S (a1 + 2) = (4, 10) from O6.s1 h1) (show S (a0 + 2) = (4, 10) from O6.s1 h0) hg3 (by decide) rfl (Option.some.inj e1) ?_
  refine g_aload_n cd60_36 rfl rfl ?_
  refine g_getP cd60_37 rfl (O6.o h1) (show P a1 2 = some (a1 + 3) from O6.p2 h1) ?_
  refine g_iconst cd60_40 rfl ?_
  refine g_aload_n cd60_41 rfl rfl ?_
  refine g_getP cd60_42 rfl (O6.o h0) (show P a0 2 = some (a0 + 3) from O6.p2 h0) ?_
  refine g_iconst cd60_45 rfl ?_
  refine g_aload_n cd60_46 rfl rfl ?_
  refine g_getP cd60_47 rfl (O6.o h0) (show P a0 2 = some (a0 + 3) from O6.p2 h0) ?_
  refine G_alen cd60_50 rfl (show S (a0 + 3) = (4, 6) from O6.s2 h0) (by decide) ?_
  obtain ⟨hg5, h⟩ := grd h
  obtain ⟨J6, e1, h⟩ := bnd h
  refine G_cpyJ cd60_51 rfl (Nat.succ_ne_zero _) (show S (a1 + 3) = (4, 6) from O6.s2 h1) (show S (a0 + 3) = (4, 6) from O6.s2 h0) hg5 (by decide) rfl (Option.some.inj e1) ?_
  refine g_aload_n cd60_54 rfl rfl ?_
  refine g_getP cd60_55 rfl (O6.o h1) (show P a1 3 = some (a1 + 4) from O6.p3 h1) ?_
  refine g_iconst cd60_58 rfl ?_
  refine g_aload_n cd60_59 rfl rfl ?_
  refine g_getP cd60_60 rfl (O6.o h0) (show P a0 3 = some (a0 + 4) from O6.p3 h0) ?_
  refine g_iconst cd60_63 rfl ?_
  refine g_aload_n cd60_64 rfl rfl ?_
  refine g_getP cd60_65 rfl (O6.o h0) (show P a0 3 = some (a0 + 4) from O6.p3 h0) ?_
  refine G_alen cd60_68 rfl (show S (a0 + 4) = (1, 60) from O6.s3 h0) (by decide) ?_
  obtain ⟨hg7, h⟩ := grd h
  obtain ⟨I8, e1, h⟩ := bnd h
  refine G_cpyI cd60_69 rfl (Nat.succ_ne_zero _) (show S (a1 + 4) = (1, 60) from O6.s3 h1) (show S (a0 + 4) = (1, 60) from O6.s3 h0) hg7 (by decide) rfl (Option.some.inj e1) ?_
  refine g_aload_n cd60_72 rfl rfl ?_
  refine g_getP cd60_73 rfl (O6.o h1) (show P a1 4 = some (a1 + 5) from O6.p4 h1) ?_
  refine g_iconst cd60_76 rfl ?_
  refine g_aload_n cd60_77 rfl rfl ?_
  refine g_getP cd60_78 rfl (O6.o h0) (show P a0 4 = some (a0 + 5) from O6.p4 h0) ?_
  refine g_iconst cd60_81 rfl ?_
  refine g_aload_n cd60_82 rfl rfl ?_
  refine g_getP cd60_83 rfl (O6.o h0) (show P a0 4 = some (a0 + 5) from O6.p4 h0) ?_
  refine G_alen cd60_86 rfl (show S (a0 + 5) = (1, 12) from O6.s4 h0) (by decide) ?_
  obtain ⟨hg9, h⟩ := grd h
  obtain ⟨I10, e1, h⟩ := bnd h
  refine G_cpyI cd60_87 rfl (Nat.succ_ne_zero _) (show S (a1 + 5) = (1, 12) from O6.s4 h1) (show S (a0 + 5) = (1, 12) from O6.s4 h0) hg9 (by decide) rfl (Option.some.inj e1) ?_
  refine g_aload_n cd60_90 rfl rfl ?_
  refine g_getP cd60_91 rfl (O6.o h1) (show P a1 5 = some (a1 + 6) from O6.p5 h1) ?_
  refine g_iconst cd60_94 rfl ?_
  refine g_aload_n cd60_95 rfl rfl ?_
  refine g_getP cd60_96 rfl (O6.o h0) (show P a0 5 = some (a0 + 6) from O6.p5 h0) ?_
  refine g_iconst cd60_99 rfl ?_
  refine g_aload_n cd60_100 rfl rfl ?_
  refine g_getP cd60_101 rfl (O6.o h0) (show P a0 5 = some (a0 + 6) from O6.p5 h0) ?_
  refine G_alen cd60_104 rfl (show S (a0 + 6) = (1, 12) from O6.s5 h0) (by decide) ?_
  obtain ⟨hg11, h⟩ := grd h
  obtain ⟨I12, e1, h⟩ := bnd h
  refine G_cpyI cd60_105 rfl (Nat.succ_ne_zero _) (show S (a1 + 6) = (1, 12) from O6.s5 h1) (show S (a0 + 6) = (1, 12) from O6.s5 h0) hg11 (by decide) rfl (Option.some.inj e1) ?_
  refine g_aload_n cd60_108 rfl rfl ?_
  refine g_getP cd60_109 rfl (O6.o h1) (show P a1 6 = some (a1 + 7) from O6.p6 h1) ?_
  refine g_iconst cd60_112 rfl ?_
  refine g_aload_n cd60_113 rfl rfl ?_
  refine g_getP cd60_114 rfl (O6.o h0) (show P a0 6 = some (a0 + 7) from O6.p6 h0) ?_
  refine g_iconst cd60_117 rfl ?_
  refine g_aload_n cd60_118 rfl rfl ?_
  refine g_getP cd60_119 rfl (O6.o h0) (show P a0 6 = some (a0 + 7) from O6.p6 h0) ?_
  refine G_alen cd60_122 rfl (show S (a0 + 7) = (1, 3) from O6.s6 h0) (by decide) ?_
  obtain ⟨hg13, h⟩ := grd h
  obtain ⟨I14, e1, h⟩ := bnd h
  refine G_cpyI cd60_123 rfl (Nat.succ_ne_zero _) (show S (a1 + 7) = (1, 3) from O6.s6 h1) (show S (a0 + 7) = (1, 3) from O6.s6 h0) hg13 (by decide) rfl (Option.some.inj e1) ?_
  refine g_aload_n cd60_126 rfl rfl ?_
  refine g_getP cd60_127 rfl (O6.o h1) (show P a1 7 = some (a1 + 8) from O6.p7 h1) ?_
  refine g_iconst cd60_130 rfl ?_
  refine g_aload_n cd60_131 rfl rfl ?_
  refine g_getP cd60_132 rfl (O6.o h0) (show P a0 7 = some (a0 + 8) from O6.p7 h0) ?_
  refine g_iconst cd60_135 rfl ?_
  refine g_aload_n cd60_136 rfl rfl ?_
  refine g_getP cd60_137 rfl (O6.o h0) (show P a0 7 = some (a0 + 8) from O6.p7 h0) ?_
  refine G_alen cd60_140 rfl (show S (a0 + 8) = (1, 9) from O6.s7 h0) (by decide) ?_
  obtain ⟨hg15, h⟩ := grd h
  obtain ⟨I16, e1, h⟩ := bnd h
  refine G_cpyI cd60_141 rfl (Nat.succ_ne_zero _) (show S (a1 + 8) = (1, 9) from O6.s7 h1) (show S (a0 + 8) = (1, 9) from O6.s7 h0) hg15 (by decide) rfl (Option.some.inj e1) ?_
  refine g_aload_n cd60_144 rfl rfl ?_
  refine g_aload_n cd60_145 rfl rfl ?_
  refine g_getI cd60_146 rfl (O6.o h1) ?_
  obtain ⟨I17, e1, h⟩ := bnd h
  refine G_putI cd60_149 rfl (O6.o h0) (Option.some.inj e1) ?_
  refine g_aload_n cd60_152 rfl rfl ?_
  refine g_aload_n cd60_153 rfl rfl ?_
  refine g_getI cd60_154 rfl (O6.o h1) ?_
  obtain ⟨I18, e1, h⟩ := bnd h
  refine G_putI cd60_157 rfl (O6.o h0) (Option.some.inj e1) ?_
  refine g_aload_n cd60_160 rfl rfl ?_
  refine g_aload_n cd60_161 rfl rfl ?_
  refine g_getI cd60_162 rfl (O6.o h1) ?_
  obtain ⟨I19, e1, h⟩ := bnd h
  refine G_putI cd60_165 rfl (O6.o h0) (Option.some.inj e1) ?_
  refine g_aload_n cd60_168 rfl rfl ?_
  refine g_aload_n cd60_169 rfl rfl ?_
  refine g_getI cd60_170 rfl (O6.o h1) ?_
  obtain ⟨I20, e1, h⟩ := bnd h
  refine G_putI cd60_173 rfl (O6.o h0) (Option.some.inj e1) ?_
  refine g_aload_n cd60_176 rfl rfl ?_
  refine g_aload_n cd60_177 rfl rfl ?_
  refine g_getI cd60_178 rfl (O6.o h1) ?_
  obtain ⟨I21, e1, h⟩ := bnd h
  refine G_putI cd60_181 rfl (O6.o h0) (Option.some.inj e1) ?_
  refine g_aload_n cd60_184 rfl rfl ?_
  refine g_aload_n cd60_185 rfl rfl ?_
  refine g_getI cd60_186 rfl (O6.o h1) ?_
  obtain ⟨I22, e1, h⟩ := bnd h
  refine G_putI cd60_189 rfl (O6.o h0) (Option.some.inj e1) ?_
  refine g_aload_n cd60_192 rfl rfl ?_
  refine g_aload_n cd60_193 rfl rfl ?_
  refine g_getI cd60_194 rfl (O6.o h1) ?_
  obtain ⟨I23, e1, h⟩ := bnd h
  refine G_putI cd60_197 rfl (O6.o h0) (Option.some.inj e1) ?_
  refine g_aload_n cd60_200 rfl rfl ?_
  refine g_aload_n cd60_201 rfl rfl ?_
  refine g_getI cd60_202 rfl (O6.o h1) ?_
  obtain ⟨I24, e1, h⟩ := bnd h
  refine G_putI cd60_205 rfl (O6.o h0) (Option.some.inj e1) ?_
  exact g_vret cd60_208 (by obtain rfl := Option.some.inj h; rfl)
/-! HiddenOrLost$State.worthOf(LHiddenOrLost$Land;II)I -/
theorem cd84_0 : code9 84 0 = some (0, .aload_n 0, [1], .null, []) := rfl
theorem cd84_1 : code9 84 1 = some (0, .iload_n 2, [1], .null, []) := rfl
theorem cd84_2 : code9 84 2 = some (0, .iload_n 3, [1], .null, []) := rfl
theorem cd84_3 : code9 84 3 = some (0, .invokevirtual 80, [3, 85, 3, 1, 3, 4, 9, 0], .null, []) := rfl
theorem cd84_6 : code9 84 6 = some (0, .ifCond .ne 5, [3, 11], .null, []) := rfl
theorem cd84_9 : code9 84 9 = some (0, .iconst 0, [1], .int 0, []) := rfl
theorem cd84_10 : code9 84 10 = some (0, .ireturn, [1, 1], .null, []) := rfl
theorem cd84_11 : code9 84 11 = some (0, .iconst (-1), [1], .int (-1), []) := rfl
theorem cd84_12 : code9 84 12 = some (0, .istore 4, [2], .null, []) := rfl
theorem cd84_14 : code9 84 14 = some (0, .iconst 0, [1], .int 0, []) := rfl
theorem cd84_15 : code9 84 15 = some (0, .istore 5, [2], .null, []) := rfl
theorem cd84_17 : code9 84 17 = some (7, .iload 5, [2], .null, []) := rfl
theorem cd84_19 : code9 84 19 = some (0, .aload_n 1, [1], .null, []) := rfl
theorem cd84_20 : code9 84 20 = some (0, .getfield 46, [3, 6, 12, 0], .null, []) := rfl
theorem cd84_23 : code9 84 23 = some (0, .if_icmp .ge 62, [3, 85], .null, []) := rfl
theorem cd84_26 : code9 84 26 = some (0, .aload_n 0, [1], .null, []) := rfl
theorem cd84_27 : code9 84 27 = some (0, .getfield 9, [3, 9, 0, 2], .null, []) := rfl
theorem cd84_30 : code9 84 30 = some (0, .iload 5, [2], .null, []) := rfl
theorem cd84_32 : code9 84 32 = some (0, .iaload, [1], .null, []) := rfl
theorem cd84_33 : code9 84 33 = some (0, .iload_n 2, [1], .null, []) := rfl
theorem cd84_34 : code9 84 34 = some (0, .isub, [1], .null, []) := rfl
theorem cd84_35 : code9 84 35 = some (0, .invokestatic 84, [3, 5], .null, []) := rfl
theorem cd84_38 : code9 84 38 = some (0, .aload_n 0, [1], .null, []) := rfl
theorem cd84_39 : code9 84 39 = some (0, .getfield 15, [3, 9, 1, 2], .null, []) := rfl
theorem cd84_42 : code9 84 42 = some (0, .iload 5, [2], .null, []) := rfl
theorem cd84_44 : code9 84 44 = some (0, .iaload, [1], .null, []) := rfl
theorem cd84_45 : code9 84 45 = some (0, .iload_n 3, [1], .null, []) := rfl
theorem cd84_46 : code9 84 46 = some (0, .isub, [1], .null, []) := rfl
theorem cd84_47 : code9 84 47 = some (0, .invokestatic 84, [3, 5], .null, []) := rfl
theorem cd84_50 : code9 84 50 = some (0, .iadd, [1], .null, []) := rfl
theorem cd84_51 : code9 84 51 = some (0, .istore 6, [2], .null, []) := rfl
theorem cd84_53 : code9 84 53 = some (0, .aload_n 0, [1], .null, []) := rfl
theorem cd84_54 : code9 84 54 = some (0, .getfield 21, [3, 9, 3, 2], .null, []) := rfl
theorem cd84_57 : code9 84 57 = some (0, .iload 5, [2], .null, []) := rfl
theorem cd84_59 : code9 84 59 = some (0, .iaload, [1], .null, []) := rfl
theorem cd84_60 : code9 84 60 = some (0, .ifCond .eq 19, [3, 79], .null, []) := rfl
theorem cd84_63 : code9 84 63 = some (0, .iload 4, [2], .null, []) := rfl
theorem cd84_65 : code9 84 65 = some (0, .ifCond .lt 10, [3, 75], .null, []) := rfl
theorem cd84_68 : code9 84 68 = some (0, .iload 6, [2], .null, []) := rfl
theorem cd84_70 : code9 84 70 = some (0, .iload 4, [2], .null, []) := rfl
theorem cd84_72 : code9 84 72 = some (0, .if_icmp .ge 7, [3, 79], .null, []) := rfl
theorem cd84_75 : code9 84 75 = some (8, .iload 6, [2], .null, []) := rfl
theorem cd84_77 : code9 84 77 = some (0, .istore 4, [2], .null, []) := rfl
theorem cd84_79 : code9 84 79 = some (8, .iinc 5 1, [3], .int 1, []) := rfl
theorem cd84_82 : code9 84 82 = some (0, .goto (-65), [3, 17, 6], .null, []) := rfl
theorem cd84_85 : code9 84 85 = some (0, .iload 4, [2], .null, []) := rfl
theorem cd84_87 : code9 84 87 = some (0, .ifCond .ge 7, [3, 94], .null, []) := rfl
theorem cd84_90 : code9 84 90 = some (0, .iconst 1, [1], .int 1, []) := rfl
theorem cd84_91 : code9 84 91 = some (0, .goto 10, [3, 101, 6], .null, []) := rfl
theorem cd84_94 : code9 84 94 = some (0, .bipush 12, [2], .int 12, []) := rfl
theorem cd84_96 : code9 84 96 = some (0, .iconst 1, [1], .int 1, []) := rfl
theorem cd84_97 : code9 84 97 = some (0, .iload 4, [2], .null, []) := rfl
theorem cd84_99 : code9 84 99 = some (0, .iadd, [1], .null, []) := rfl
theorem cd84_100 : code9 84 100 = some (0, .idiv, [1], .null, []) := rfl
theorem cd84_101 : code9 84 101 = some (7, .ireturn, [1, 1], .null, []) := rfl
def State_worthOf_17 (N : Nat) (a0 a1 : Nat) : Nat → Int32 → Int32 → Int32 → Int32 → FI → Option (Int32)
  | 0 => fun _ _ _ _ _ => none
  | n + 1 => fun l2 l3 l4 l5 I => if (I a1 12) ≤ l5 then (if 0 ≤ l4 then (if ¬ (1 + l4) = 0 then (some (12 / (1 + l4))) else none) else (some 1)) else (if in9 l5 10 then (if (I (a0 + 4) l5.toNatClampNeg) = 0 then (State_worthOf_17 N a0 a1 n l2 l3 l4 (l5 + 1) I) else (if l4 < 0 then (State_worthOf_17 N a0 a1 n l2 l3 ((if 0 ≤ ((I (a0 + 1) l5.toNatClampNeg) - l2) then ((I (a0 + 1) l5.toNatClampNeg) - l2) else 0 - ((I (a0 + 1) l5.toNatClampNeg) - l2)) + (if 0 ≤ ((I (a0 + 2) l5.toNatClampNeg) - l3) then ((I (a0 + 2) l5.toNatClampNeg) - l3) else 0 - ((I (a0 + 2) l5.toNatClampNeg) - l3))) (l5 + 1) I) else (if l4 ≤ ((if 0 ≤ ((I (a0 + 1) l5.toNatClampNeg) - l2) then ((I (a0 + 1) l5.toNatClampNeg) - l2) else 0 - ((I (a0 + 1) l5.toNatClampNeg) - l2)) + (if 0 ≤ ((I (a0 + 2) l5.toNatClampNeg) - l3) then ((I (a0 + 2) l5.toNatClampNeg) - l3) else 0 - ((I (a0 + 2) l5.toNatClampNeg) - l3))) then (State_worthOf_17 N a0 a1 n l2 l3 l4 (l5 + 1) I) else (State_worthOf_17 N a0 a1 n l2 l3 ((if 0 ≤ ((I (a0 + 1) l5.toNatClampNeg) - l2) then ((I (a0 + 1) l5.toNatClampNeg) - l2) else 0 - ((I (a0 + 1) l5.toNatClampNeg) - l2)) + (if 0 ≤ ((I (a0 + 2) l5.toNatClampNeg) - l3) then ((I (a0 + 2) l5.toNatClampNeg) - l3) else 0 - ((I (a0 + 2) l5.toNatClampNeg) - l3))) (l5 + 1) I)))) else none)
def State_worthOf (N : Nat) (a0 a1 : Nat) (l2 : Int32) (l3 : Int32) (I : FI) : Option (Int32) := Option.bind (State_canDig a0 l2 l3 I) fun x1 => (if x1 then (State_worthOf_17 N a0 a1 N l2 l3 (-1) 0 I) else (some 0))
set_option maxRecDepth 8000 in
theorem t_State_worthOf_17 {d : Nat} {N : Nat} {a0 a1 : Nat} {c : Nat × Nat} {S : Nat → Nat × Nat} {P : Nat → Nat → Option Nat} {r : Int32} (hd : 1 ≤ (d + 1)) (h0 : O9 S P a0) (h1 : O6 S P a1) : ∀ (n : Nat) (l2 : Int32) (l3 : Int32) (l4 : Int32) (l5 : Int32) (I : FI) (J : FJ), State_worthOf_17 N a0 a1 n l2 l3 l4 l5 I = some r → Go (d + 1) M_State_worthOf 17 [some (.ref a0), some (.ref a1), some (.int l2), some (.int l3), some (.int l4), some (.int l5), none] [] (c, S, I, J, P) (some (.int r), false, (c, S, I, J, P)) := by
  intro n
  induction n with
  | zero =>
    intro l2 l3 l4 l5 I J h
    cases h
  | succ n ih =>
    intro l2 l3 l4 l5 I J h
    unfold State_worthOf_17 at h
    refine g_iload cd84_17 rfl rfl ?_
    refine g_aload_n cd84_19 rfl rfl ?_
    refine g_getI cd84_20 rfl (O6.o h1) ?_
    refine g_icmp_ge cd84_23 rfl (fun hb => ?_) (fun hb => ?_)
    · have h := ifpE hb h
      refine g_iload cd84_85 rfl rfl ?_
      refine g_if_ge cd84_87 rfl (fun hb => ?_) (fun hb => ?_)
      · have h := ifpE hb h
        refine g_bipush cd84_94 rfl ?_
        refine g_iconst cd84_96 rfl ?_
        refine g_iload cd84_97 rfl rfl ?_
        refine g_iadd cd84_99 rfl ?_
        obtain ⟨hg2, h⟩ := grd h
        refine g_idiv cd84_100 rfl hg2 ?_
        exact g_iret cd84_101 (Or.inl rfl) (by obtain rfl := Option.some.inj h; rfl)
      · have h := ifnE hb h
        refine g_iconst cd84_90 rfl ?_
        refine g_goto (ls2 := [some (.ref a0), some (.ref a1), some (.int l2), some (.int l3), some (.int l4), some (.int l5), none]) cd84_91 rfl rfl ?_
        exact g_iret cd84_101 (Or.inl rfl) (by obtain rfl := Option.some.inj h; rfl)
    · have h := ifnE hb h
      refine g_aload_n cd84_26 rfl rfl ?_
      refine g_getP cd84_27 rfl (O9.o h0) (show P a0 0 = some (a0 + 1) from O9.p0 h0) ?_
      refine g_iload cd84_30 rfl rfl ?_
      obtain ⟨hg3, h⟩ := grd h
      refine G_iald cd84_32 rfl (show S (a0 + 1) = (1, 10) from O9.s0 h0) hg3 ?_
      refine g_iload_n cd84_33 rfl rfl ?_
      refine g_isub cd84_34 rfl ?_
      refine g_abs cd84_35 rfl (Nat.succ_ne_zero _) rfl ?_
      refine g_aload_n cd84_38 rfl rfl ?_
      refine g_getP cd84_39 rfl (O9.o h0) (show P a0 1 = some (a0 + 2) from O9.p1 h0) ?_
      refine g_iload cd84_42 rfl rfl ?_
      refine G_iald cd84_44 rfl (show S (a0 + 2) = (1, 10) from O9.s1 h0) hg3 ?_
      refine g_iload_n cd84_45 rfl rfl ?_
      refine g_isub cd84_46 rfl ?_
      refine g_abs cd84_47 rfl (Nat.succ_ne_zero _) rfl ?_
      refine g_iadd cd84_50 rfl ?_
      refine g_istore (ls2 := [some (.ref a0), some (.ref a1), some (.int l2), some (.int l3), some (.int l4), some (.int l5), some (.int ((if 0 ≤ ((I (a0 + 1) l5.toNatClampNeg) - l2) then ((I (a0 + 1) l5.toNatClampNeg) - l2) else 0 - ((I (a0 + 1) l5.toNatClampNeg) - l2)) + (if 0 ≤ ((I (a0 + 2) l5.toNatClampNeg) - l3) then ((I (a0 + 2) l5.toNatClampNeg) - l3) else 0 - ((I (a0 + 2) l5.toNatClampNeg) - l3))))]) cd84_51 rfl rfl ?_
      refine g_aload_n cd84_53 rfl rfl ?_
      refine g_getP cd84_54 rfl (O9.o h0) (show P a0 3 = some (a0 + 4) from O9.p3 h0) ?_
      refine g_iload cd84_57 rfl rfl ?_
      refine G_iald cd84_59 rfl (show S (a0 + 4) = (1, 10) from O9.s3 h0) hg3 ?_
      refine g_if_eq cd84_60 rfl (fun hb => ?_) (fun hb => ?_)
      · have h := ifpE hb h
        refine g_iinc (ls2 := [some (.ref a0), some (.ref a1), some (.int l2), some (.int l3), some (.int l4), some (.int (l5 + 1)), some (.int ((if 0 ≤ ((I (a0 + 1) l5.toNatClampNeg) - l2) then ((I (a0 + 1) l5.toNatClampNeg) - l2) else 0 - ((I (a0 + 1) l5.toNatClampNeg) - l2)) + (if 0 ≤ ((I (a0 + 2) l5.toNatClampNeg) - l3) then ((I (a0 + 2) l5.toNatClampNeg) - l3) else 0 - ((I (a0 + 2) l5.toNatClampNeg) - l3))))]) cd84_79 rfl rfl rfl ?_
        refine g_goto (ls2 := [some (.ref a0), some (.ref a1), some (.int l2), some (.int l3), some (.int l4), some (.int (l5 + 1)), none]) cd84_82 rfl rfl ?_
        exact ih l2 l3 l4 (l5 + 1) I J h
      · have h := ifnE hb h
        refine g_iload cd84_63 rfl rfl ?_
        refine g_if_lt cd84_65 rfl (fun hb => ?_) (fun hb => ?_)
        · have h := ifpE hb h
          refine g_iload cd84_75 rfl rfl ?_
          refine g_istore (ls2 := [some (.ref a0), some (.ref a1), some (.int l2), some (.int l3), some (.int ((if 0 ≤ ((I (a0 + 1) l5.toNatClampNeg) - l2) then ((I (a0 + 1) l5.toNatClampNeg) - l2) else 0 - ((I (a0 + 1) l5.toNatClampNeg) - l2)) + (if 0 ≤ ((I (a0 + 2) l5.toNatClampNeg) - l3) then ((I (a0 + 2) l5.toNatClampNeg) - l3) else 0 - ((I (a0 + 2) l5.toNatClampNeg) - l3)))), some (.int l5), some (.int ((if 0 ≤ ((I (a0 + 1) l5.toNatClampNeg) - l2) then ((I (a0 + 1) l5.toNatClampNeg) - l2) else 0 - ((I (a0 + 1) l5.toNatClampNeg) - l2)) + (if 0 ≤ ((I (a0 + 2) l5.toNatClampNeg) - l3) then ((I (a0 + 2) l5.toNatClampNeg) - l3) else 0 - ((I (a0 + 2) l5.toNatClampNeg) - l3))))]) cd84_77 rfl rfl ?_
          refine g_iinc (ls2 := [some (.ref a0), some (.ref a1), some (.int l2), some (.int l3), some (.int ((if 0 ≤ ((I (a0 + 1) l5.toNatClampNeg) - l2) then ((I (a0 + 1) l5.toNatClampNeg) - l2) else 0 - ((I (a0 + 1) l5.toNatClampNeg) - l2)) + (if 0 ≤ ((I (a0 + 2) l5.toNatClampNeg) - l3) then ((I (a0 + 2) l5.toNatClampNeg) - l3) else 0 - ((I (a0 + 2) l5.toNatClampNeg) - l3)))), some (.int (l5 + 1)), some (.int ((if 0 ≤ ((I (a0 + 1) l5.toNatClampNeg) - l2) then ((I (a0 + 1) l5.toNatClampNeg) - l2) else 0 - ((I (a0 + 1) l5.toNatClampNeg) - l2)) + (if 0 ≤ ((I (a0 + 2) l5.toNatClampNeg) - l3) then ((I (a0 + 2) l5.toNatClampNeg) - l3) else 0 - ((I (a0 + 2) l5.toNatClampNeg) - l3))))]) cd84_79 rfl rfl rfl ?_
          refine g_goto (ls2 := [some (.ref a0), some (.ref a1), some (.int l2), some (.int l3), some (.int ((if 0 ≤ ((I (a0 + 1) l5.toNatClampNeg) - l2) then ((I (a0 + 1) l5.toNatClampNeg) - l2) else 0 - ((I (a0 + 1) l5.toNatClampNeg) - l2)) + (if 0 ≤ ((I (a0 + 2) l5.toNatClampNeg) - l3) then ((I (a0 + 2) l5.toNatClampNeg) - l3) else 0 - ((I (a0 + 2) l5.toNatClampNeg) - l3)))), some (.int (l5 + 1)), none]) cd84_82 rfl rfl ?_
          exact ih l2 l3 ((if 0 ≤ ((I (a0 + 1) l5.toNatClampNeg) - l2) then ((I (a0 + 1) l5.toNatClampNeg) - l2) else 0 - ((I (a0 + 1) l5.toNatClampNeg) - l2)) + (if 0 ≤ ((I (a0 + 2) l5.toNatClampNeg) - l3) then ((I (a0 + 2) l5.toNatClampNeg) - l3) else 0 - ((I (a0 + 2) l5.toNatClampNeg) - l3))) (l5 + 1) I J h
        · have h := ifnE hb h
          refine g_iload cd84_68 rfl rfl ?_
          refine g_iload cd84_70 rfl rfl ?_
          refine g_icmp_ge cd84_72 rfl (fun hb => ?_) (fun hb => ?_)
          · have h := ifpE hb h
            refine g_iinc (ls2 := [some (.ref a0), some (.ref a1), some (.int l2), some (.int l3), some (.int l4), some (.int (l5 + 1)), some (.int ((if 0 ≤ ((I (a0 + 1) l5.toNatClampNeg) - l2) then ((I (a0 + 1) l5.toNatClampNeg) - l2) else 0 - ((I (a0 + 1) l5.toNatClampNeg) - l2)) + (if 0 ≤ ((I (a0 + 2) l5.toNatClampNeg) - l3) then ((I (a0 + 2) l5.toNatClampNeg) - l3) else 0 - ((I (a0 + 2) l5.toNatClampNeg) - l3))))]) cd84_79 rfl rfl rfl ?_
            refine g_goto (ls2 := [some (.ref a0), some (.ref a1), some (.int l2), some (.int l3), some (.int l4), some (.int (l5 + 1)), none]) cd84_82 rfl rfl ?_
            exact ih l2 l3 l4 (l5 + 1) I J h
          · have h := ifnE hb h
            refine g_iload cd84_75 rfl rfl ?_
            refine g_istore (ls2 := [some (.ref a0), some (.ref a1), some (.int l2), some (.int l3), some (.int ((if 0 ≤ ((I (a0 + 1) l5.toNatClampNeg) - l2) then ((I (a0 + 1) l5.toNatClampNeg) - l2) else 0 - ((I (a0 + 1) l5.toNatClampNeg) - l2)) + (if 0 ≤ ((I (a0 + 2) l5.toNatClampNeg) - l3) then ((I (a0 + 2) l5.toNatClampNeg) - l3) else 0 - ((I (a0 + 2) l5.toNatClampNeg) - l3)))), some (.int l5), some (.int ((if 0 ≤ ((I (a0 + 1) l5.toNatClampNeg) - l2) then ((I (a0 + 1) l5.toNatClampNeg) - l2) else 0 - ((I (a0 + 1) l5.toNatClampNeg) - l2)) + (if 0 ≤ ((I (a0 + 2) l5.toNatClampNeg) - l3) then ((I (a0 + 2) l5.toNatClampNeg) - l3) else 0 - ((I (a0 + 2) l5.toNatClampNeg) - l3))))]) cd84_77 rfl rfl ?_
            refine g_iinc (ls2 := [some (.ref a0), some (.ref a1), some (.int l2), some (.int l3), some (.int ((if 0 ≤ ((I (a0 + 1) l5.toNatClampNeg) - l2) then ((I (a0 + 1) l5.toNatClampNeg) - l2) else 0 - ((I (a0 + 1) l5.toNatClampNeg) - l2)) + (if 0 ≤ ((I (a0 + 2) l5.toNatClampNeg) - l3) then ((I (a0 + 2) l5.toNatClampNeg) - l3) else 0 - ((I (a0 + 2) l5.toNatClampNeg) - l3)))), some (.int (l5 + 1)), some (.int ((if 0 ≤ ((I (a0 + 1) l5.toNatClampNeg) - l2) then ((I (a0 + 1) l5.toNatClampNeg) - l2) else 0 - ((I (a0 + 1) l5.toNatClampNeg) - l2)) + (if 0 ≤ ((I (a0 + 2) l5.toNatClampNeg) - l3) then ((I (a0 + 2) l5.toNatClampNeg) - l3) else 0 - ((I (a0 + 2) l5.toNatClampNeg) - l3))))]) cd84_79 rfl rfl rfl ?_
            refine g_goto (ls2 := [some (.ref a0), some (.ref a1), some (.int l2), some (.int l3), some (.int ((if 0 ≤ ((I (a0 + 1) l5.toNatClampNeg) - l2) then ((I (a0 + 1) l5.toNatClampNeg) - l2) else 0 - ((I (a0 + 1) l5.toNatClampNeg) - l2)) + (if 0 ≤ ((I (a0 + 2) l5.toNatClampNeg) - l3) then ((I (a0 + 2) l5.toNatClampNeg) - l3) else 0 - ((I (a0 + 2) l5.toNatClampNeg) - l3)))), some (.int (l5 + 1)), none]) cd84_82 rfl rfl ?_
            exact ih l2 l3 ((if 0 ≤ ((I (a0 + 1) l5.toNatClampNeg) - l2) then ((I (a0 + 1) l5.toNatClampNeg) - l2) else 0 - ((I (a0 + 1) l5.toNatClampNeg) - l2)) + (if 0 ≤ ((I (a0 + 2) l5.toNatClampNeg) - l3) then ((I (a0 + 2) l5.toNatClampNeg) - l3) else 0 - ((I (a0 + 2) l5.toNatClampNeg) - l3))) (l5 + 1) I J h
set_option maxRecDepth 8000 in
theorem t_State_worthOf {d : Nat} {N : Nat} {a0 a1 : Nat} {c : Nat × Nat} {S : Nat → Nat × Nat} {P : Nat → Nat → Option Nat} {I : FI} {J : FJ} {l2 : Int32} {l3 : Int32} {r : Int32} (hd : 1 ≤ d) (h0 : O9 S P a0) (h1 : O6 S P a1) (h : State_worthOf N a0 a1 l2 l3 I = some r) : Go d M_State_worthOf 0 [some (.ref a0), some (.ref a1), some (.int l2), some (.int l3), none, none, none] [] (c, S, I, J, P) (some (.int r), false, (c, S, I, J, P)) := by
  obtain ⟨d, rfl⟩ : ∃ e, d = e + 1 := ⟨d - 1, by omega⟩
  unfold State_worthOf at h
  refine g_aload_n cd84_0 rfl rfl ?_
  refine g_iload_n cd84_1 rfl rfl ?_
  refine g_iload_n cd84_2 rfl rfl ?_
  obtain ⟨x1, hx, h⟩ := bnd h
  refine g_callVZ (L := [some (.ref a0), some (.int l2), some (.int l3), none]) cd84_3 rfl rfl rfl rfl rfl (O9.o h0) (t_State_canDig (by omega) h0 hx) ?_
  refine g_if_ne cd84_6 rfl (fun hb => ?_) (fun hb => ?_)
  · have h := ifnE (b2i_f hb) h
    refine g_iconst cd84_9 rfl ?_
    exact g_iret cd84_10 (Or.inl rfl) (by obtain rfl := Option.some.inj h; rfl)
  · have h := ifpE (b2i_t hb) h
    refine g_iconst cd84_11 rfl ?_
    refine g_istore (ls2 := [some (.ref a0), some (.ref a1), some (.int l2), some (.int l3), some (.int (-1)), none, none]) cd84_12 rfl rfl ?_
    refine g_iconst cd84_14 rfl ?_
    refine g_istore (ls2 := [some (.ref a0), some (.ref a1), some (.int l2), some (.int l3), some (.int (-1)), some (.int 0), none]) cd84_15 rfl rfl ?_
    exact t_State_worthOf_17 hd h0 h1 _ l2 l3 (-1) 0 I J h
/-! HiddenOrLost$Route.keepIfMore(I)V -/
theorem cd64_0 : code9 64 0 = some (0, .iload_n 1, [1], .null, []) := rfl
theorem cd64_1 : code9 64 1 = some (0, .aload_n 0, [1], .null, []) := rfl
theorem cd64_2 : code9 64 2 = some (0, .getfield 31, [3, 7, 6, 0], .null, []) := rfl
theorem cd64_5 : code9 64 5 = some (0, .if_icmp .le 25, [3, 30], .null, []) := rfl
theorem cd64_8 : code9 64 8 = some (0, .aload_n 0, [1], .null, []) := rfl
theorem cd64_9 : code9 64 9 = some (0, .iload_n 1, [1], .null, []) := rfl
theorem cd64_10 : code9 64 10 = some (0, .putfield 31, [3, 7, 6, 0], .null, []) := rfl
theorem cd64_13 : code9 64 13 = some (0, .aload_n 0, [1], .null, []) := rfl
theorem cd64_14 : code9 64 14 = some (0, .getfield 18, [3, 7, 2, 2], .null, []) := rfl
theorem cd64_17 : code9 64 17 = some (0, .iconst 0, [1], .int 0, []) := rfl
theorem cd64_18 : code9 64 18 = some (0, .aload_n 0, [1], .null, []) := rfl
theorem cd64_19 : code9 64 19 = some (0, .getfield 21, [3, 7, 3, 2], .null, []) := rfl
theorem cd64_22 : code9 64 22 = some (0, .iconst 0, [1], .int 0, []) := rfl
theorem cd64_23 : code9 64 23 = some (0, .aload_n 0, [1], .null, []) := rfl
theorem cd64_24 : code9 64 24 = some (0, .getfield 28, [3, 7, 5, 0], .null, []) := rfl
theorem cd64_27 : code9 64 27 = some (0, .invokestatic 68, [3, 2], .null, []) := rfl
theorem cd64_30 : code9 64 30 = some (3, .return_, [1], .null, []) := rfl
def Route_keepIfMore (a0 : Nat) (l1 : Int32) (I : FI) : Option (FI) := if l1 ≤ (I a0 6) then (some I) else (Option.bind (some (up2 I a0 6 l1)) fun I1 => (if (0 ≤ (0 : Int32) ∧ 0 ≤ (0 : Int32) ∧ 0 ≤ (I1 a0 5)) ∧ ((0 : Int32).toNatClampNeg) + ((I1 a0 5).toNatClampNeg) ≤ 8 ∧ ((0 : Int32).toNatClampNeg) + ((I1 a0 5).toNatClampNeg) ≤ 8 then (Option.bind (some (cp2 I1 (a0 + 3) ((0 : Int32).toNatClampNeg) (a0 + 4) ((0 : Int32).toNatClampNeg) ((I1 a0 5).toNatClampNeg))) fun I3 => (some I3)) else none))
set_option maxRecDepth 8000 in
theorem t_Route_keepIfMore {d : Nat} {a0 : Nat} {c : Nat × Nat} {S : Nat → Nat × Nat} {P : Nat → Nat → Option Nat} {I : FI} {J : FJ} {l1 : Int32} {r : FI} (hd : 1 ≤ d) (h0 : O7 S P a0) (h : Route_keepIfMore a0 l1 I = some r) : Go d M_Route_keepIfMore 0 [some (.ref a0), some (.int l1)] [] (c, S, I, J, P) (none, false, (c, S, r, J, P)) := by
  obtain ⟨d, rfl⟩ : ∃ e, d = e + 1 := ⟨d - 1, by omega⟩
  unfold Route_keepIfMore at h
  refine g_iload_n cd64_0 rfl rfl ?_
  refine g_aload_n cd64_1 rfl rfl ?_
  refine g_getI cd64_2 rfl (O7.o h0) ?_
  refine g_icmp_le cd64_5 rfl (fun hb => ?_) (fun hb => ?_)
  · have h := ifpE hb h
    exact g_vret cd64_30 (by obtain rfl := Option.some.inj h; rfl)
  · have h := ifnE hb h
    refine g_aload_n cd64_8 rfl rfl ?_
    refine g_iload_n cd64_9 rfl rfl ?_
    obtain ⟨I1, e1, h⟩ := bnd h
    refine G_putI cd64_10 rfl (O7.o h0) (Option.some.inj e1) ?_
    refine g_aload_n cd64_13 rfl rfl ?_
    refine g_getP cd64_14 rfl (O7.o h0) (show P a0 2 = some (a0 + 3) from O7.p2 h0) ?_
    refine g_iconst cd64_17 rfl ?_
    refine g_aload_n cd64_18 rfl rfl ?_
    refine g_getP cd64_19 rfl (O7.o h0) (show P a0 3 = some (a0 + 4) from O7.p3 h0) ?_
    refine g_iconst cd64_22 rfl ?_
    refine g_aload_n cd64_23 rfl rfl ?_
    refine g_getI cd64_24 rfl (O7.o h0) ?_
    obtain ⟨hg2, h⟩ := grd h
    obtain ⟨I3, e1, h⟩ := bnd h
    refine G_cpyI cd64_27 rfl (Nat.succ_ne_zero _) (show S (a0 + 3) = (1, 8) from O7.s2 h0) (show S (a0 + 4) = (1, 8) from O7.s3 h0) (by omega) hg2 rfl (Option.some.inj e1) ?_
    exact g_vret cd64_30 (by obtain rfl := Option.some.inj h; rfl)
/-! HiddenOrLost$Route.walk(LHiddenOrLost$Land;III)V -/
theorem cd63_0 : code9 63 0 = some (0, .iload_n 2, [1], .null, []) := rfl
theorem cd63_1 : code9 63 1 = some (0, .aload_n 0, [1], .null, []) := rfl
theorem cd63_2 : code9 63 2 = some (0, .getfield 28, [3, 7, 5, 0], .null, []) := rfl
theorem cd63_5 : code9 63 5 = some (0, .if_icmp .ge 13, [3, 18], .null, []) := rfl
theorem cd63_8 : code9 63 8 = some (0, .iload_n 3, [1], .null, []) := rfl
theorem cd63_9 : code9 63 9 = some (0, .ifCond .lt 9, [3, 18], .null, []) := rfl
theorem cd63_12 : code9 63 12 = some (0, .iload_n 3, [1], .null, []) := rfl
theorem cd63_13 : code9 63 13 = some (0, .bipush 36, [2], .int 36, []) := rfl
theorem cd63_15 : code9 63 15 = some (0, .if_icmp .lt 4, [3, 19], .null, []) := rfl
theorem cd63_18 : code9 63 18 = some (6, .return_, [1], .null, []) := rfl
theorem cd63_19 : code9 63 19 = some (0, .aload_n 0, [1], .null, []) := rfl
theorem cd63_20 : code9 63 20 = some (0, .getfield 18, [3, 7, 2, 2], .null, []) := rfl
theorem cd63_23 : code9 63 23 = some (0, .iload_n 2, [1], .null, []) := rfl
theorem cd63_24 : code9 63 24 = some (0, .iload_n 3, [1], .null, []) := rfl
theorem cd63_25 : code9 63 25 = some (0, .iastore, [1], .null, []) := rfl
theorem cd63_26 : code9 63 26 = some (0, .iload 4, [2], .null, []) := rfl
theorem cd63_28 : code9 63 28 = some (0, .aload_n 0, [1], .null, []) := rfl
theorem cd63_29 : code9 63 29 = some (0, .getfield 15, [3, 7, 1, 2], .null, []) := rfl
theorem cd63_32 : code9 63 32 = some (0, .iload_n 3, [1], .null, []) := rfl
theorem cd63_33 : code9 63 33 = some (0, .iaload, [1], .null, []) := rfl
theorem cd63_34 : code9 63 34 = some (0, .ifCond .ne 12, [3, 46], .null, []) := rfl
theorem cd63_37 : code9 63 37 = some (0, .aload_n 0, [1], .null, []) := rfl
theorem cd63_38 : code9 63 38 = some (0, .getfield 9, [3, 7, 0, 2], .null, []) := rfl
theorem cd63_41 : code9 63 41 = some (0, .iload_n 3, [1], .null, []) := rfl
theorem cd63_42 : code9 63 42 = some (0, .iaload, [1], .null, []) := rfl
theorem cd63_43 : code9 63 43 = some (0, .goto 4, [3, 47, 5], .null, []) := rfl
theorem cd63_46 : code9 63 46 = some (0, .iconst 0, [1], .int 0, []) := rfl
theorem cd63_47 : code9 63 47 = some (6, .iadd, [1], .null, []) := rfl
theorem cd63_48 : code9 63 48 = some (0, .istore 5, [2], .null, []) := rfl
theorem cd63_50 : code9 63 50 = some (0, .iload_n 2, [1], .null, []) := rfl
theorem cd63_51 : code9 63 51 = some (0, .iconst 1, [1], .int 1, []) := rfl
theorem cd63_52 : code9 63 52 = some (0, .iadd, [1], .null, []) := rfl
theorem cd63_53 : code9 63 53 = some (0, .aload_n 0, [1], .null, []) := rfl
theorem cd63_54 : code9 63 54 = some (0, .getfield 28, [3, 7, 5, 0], .null, []) := rfl
theorem cd63_57 : code9 63 57 = some (0, .if_icmp .ne 10, [3, 67], .null, []) := rfl
theorem cd63_60 : code9 63 60 = some (0, .aload_n 0, [1], .null, []) := rfl
theorem cd63_61 : code9 63 61 = some (0, .iload 5, [2], .null, []) := rfl
theorem cd63_63 : code9 63 63 = some (0, .invokevirtual 64, [3, 64, 2, 1, 0, 2, 7, 0], .null, []) := rfl
theorem cd63_66 : code9 63 66 = some (0, .return_, [1], .null, []) := rfl
theorem cd63_67 : code9 63 67 = some (0, .iload 5, [2], .null, []) := rfl
theorem cd63_69 : code9 63 69 = some (0, .aload_n 0, [1], .null, []) := rfl
theorem cd63_70 : code9 63 70 = some (0, .getfield 24, [3, 7, 4, 0], .null, []) := rfl
theorem cd63_73 : code9 63 73 = some (0, .aload_n 0, [1], .null, []) := rfl
theorem cd63_74 : code9 63 74 = some (0, .getfield 28, [3, 7, 5, 0], .null, []) := rfl
theorem cd63_77 : code9 63 77 = some (0, .iload_n 2, [1], .null, []) := rfl
theorem cd63_78 : code9 63 78 = some (0, .isub, [1], .null, []) := rfl
theorem cd63_79 : code9 63 79 = some (0, .iconst 1, [1], .int 1, []) := rfl
theorem cd63_80 : code9 63 80 = some (0, .isub, [1], .null, []) := rfl
theorem cd63_81 : code9 63 81 = some (0, .imul, [1], .null, []) := rfl
theorem cd63_82 : code9 63 82 = some (0, .iadd, [1], .null, []) := rfl
theorem cd63_83 : code9 63 83 = some (0, .aload_n 0, [1], .null, []) := rfl
theorem cd63_84 : code9 63 84 = some (0, .getfield 31, [3, 7, 6, 0], .null, []) := rfl
theorem cd63_87 : code9 63 87 = some (0, .if_icmp .gt 4, [3, 91], .null, []) := rfl
theorem cd63_90 : code9 63 90 = some (0, .return_, [1], .null, []) := rfl
theorem cd63_91 : code9 63 91 = some (0, .aload_n 0, [1], .null, []) := rfl
theorem cd63_92 : code9 63 92 = some (0, .getfield 15, [3, 7, 1, 2], .null, []) := rfl
theorem cd63_95 : code9 63 95 = some (0, .iload_n 3, [1], .null, []) := rfl
theorem cd63_96 : code9 63 96 = some (0, .dup2, [1], .null, []) := rfl
theorem cd63_97 : code9 63 97 = some (0, .iaload, [1], .null, []) := rfl
theorem cd63_98 : code9 63 98 = some (0, .iconst 1, [1], .int 1, []) := rfl
theorem cd63_99 : code9 63 99 = some (0, .iadd, [1], .null, []) := rfl
theorem cd63_100 : code9 63 100 = some (0, .iastore, [1], .null, []) := rfl
theorem cd63_101 : code9 63 101 = some (0, .iload_n 3, [1], .null, []) := rfl
theorem cd63_102 : code9 63 102 = some (0, .bipush 6, [2], .int 6, []) := rfl
theorem cd63_104 : code9 63 104 = some (0, .irem, [1], .null, []) := rfl
theorem cd63_105 : code9 63 105 = some (0, .istore 6, [2], .null, []) := rfl
theorem cd63_107 : code9 63 107 = some (0, .iload_n 3, [1], .null, []) := rfl
theorem cd63_108 : code9 63 108 = some (0, .bipush 6, [2], .int 6, []) := rfl
theorem cd63_110 : code9 63 110 = some (0, .idiv, [1], .null, []) := rfl
theorem cd63_111 : code9 63 111 = some (0, .istore 7, [2], .null, []) := rfl
theorem cd63_113 : code9 63 113 = some (0, .iload 7, [2], .null, []) := rfl
theorem cd63_115 : code9 63 115 = some (0, .ifCond .le 17, [3, 132], .null, []) := rfl
theorem cd63_118 : code9 63 118 = some (0, .aload_n 0, [1], .null, []) := rfl
theorem cd63_119 : code9 63 119 = some (0, .aload_n 1, [1], .null, []) := rfl
theorem cd63_120 : code9 63 120 = some (0, .iload_n 2, [1], .null, []) := rfl
theorem cd63_121 : code9 63 121 = some (0, .iconst 1, [1], .int 1, []) := rfl
theorem cd63_122 : code9 63 122 = some (0, .iadd, [1], .null, []) := rfl
theorem cd63_123 : code9 63 123 = some (0, .iload_n 3, [1], .null, []) := rfl
theorem cd63_124 : code9 63 124 = some (0, .bipush 6, [2], .int 6, []) := rfl
theorem cd63_126 : code9 63 126 = some (0, .isub, [1], .null, []) := rfl
theorem cd63_127 : code9 63 127 = some (0, .iload 5, [2], .null, []) := rfl
theorem cd63_129 : code9 63 129 = some (0, .invokevirtual 60, [3, 63, 5, 1, 0, 8, 7, 0], .null, []) := rfl
theorem cd63_132 : code9 63 132 = some (9, .iload 6, [2], .null, []) := rfl
theorem cd63_134 : code9 63 134 = some (0, .ifCond .le 16, [3, 150], .null, []) := rfl
theorem cd63_137 : code9 63 137 = some (0, .aload_n 0, [1], .null, []) := rfl
theorem cd63_138 : code9 63 138 = some (0, .aload_n 1, [1], .null, []) := rfl
theorem cd63_139 : code9 63 139 = some (0, .iload_n 2, [1], .null, []) := rfl
theorem cd63_140 : code9 63 140 = some (0, .iconst 1, [1], .int 1, []) := rfl
theorem cd63_141 : code9 63 141 = some (0, .iadd, [1], .null, []) := rfl
theorem cd63_142 : code9 63 142 = some (0, .iload_n 3, [1], .null, []) := rfl
theorem cd63_143 : code9 63 143 = some (0, .iconst 1, [1], .int 1, []) := rfl
theorem cd63_144 : code9 63 144 = some (0, .isub, [1], .null, []) := rfl
theorem cd63_145 : code9 63 145 = some (0, .iload 5, [2], .null, []) := rfl
theorem cd63_147 : code9 63 147 = some (0, .invokevirtual 60, [3, 63, 5, 1, 0, 8, 7, 0], .null, []) := rfl
theorem cd63_150 : code9 63 150 = some (9, .iload 6, [2], .null, []) := rfl
theorem cd63_152 : code9 63 152 = some (0, .iconst 1, [1], .int 1, []) := rfl
theorem cd63_153 : code9 63 153 = some (0, .iadd, [1], .null, []) := rfl
theorem cd63_154 : code9 63 154 = some (0, .aload_n 1, [1], .null, []) := rfl
theorem cd63_155 : code9 63 155 = some (0, .getfield 39, [3, 6, 8, 0], .null, []) := rfl
theorem cd63_158 : code9 63 158 = some (0, .if_icmp .ge 16, [3, 174], .null, []) := rfl
theorem cd63_161 : code9 63 161 = some (0, .aload_n 0, [1], .null, []) := rfl
theorem cd63_162 : code9 63 162 = some (0, .aload_n 1, [1], .null, []) := rfl
theorem cd63_163 : code9 63 163 = some (0, .iload_n 2, [1], .null, []) := rfl
theorem cd63_164 : code9 63 164 = some (0, .iconst 1, [1], .int 1, []) := rfl
theorem cd63_165 : code9 63 165 = some (0, .iadd, [1], .null, []) := rfl
theorem cd63_166 : code9 63 166 = some (0, .iload_n 3, [1], .null, []) := rfl
theorem cd63_167 : code9 63 167 = some (0, .iconst 1, [1], .int 1, []) := rfl
theorem cd63_168 : code9 63 168 = some (0, .iadd, [1], .null, []) := rfl
theorem cd63_169 : code9 63 169 = some (0, .iload 5, [2], .null, []) := rfl
theorem cd63_171 : code9 63 171 = some (0, .invokevirtual 60, [3, 63, 5, 1, 0, 8, 7, 0], .null, []) := rfl
theorem cd63_174 : code9 63 174 = some (9, .iload 7, [2], .null, []) := rfl
theorem cd63_176 : code9 63 176 = some (0, .iconst 1, [1], .int 1, []) := rfl
theorem cd63_177 : code9 63 177 = some (0, .iadd, [1], .null, []) := rfl
theorem cd63_178 : code9 63 178 = some (0, .aload_n 1, [1], .null, []) := rfl
theorem cd63_179 : code9 63 179 = some (0, .getfield 34, [3, 6, 9, 0], .null, []) := rfl
theorem cd63_182 : code9 63 182 = some (0, .if_icmp .ge 17, [3, 199], .null, []) := rfl
theorem cd63_185 : code9 63 185 = some (0, .aload_n 0, [1], .null, []) := rfl
theorem cd63_186 : code9 63 186 = some (0, .aload_n 1, [1], .null, []) := rfl
theorem cd63_187 : code9 63 187 = some (0, .iload_n 2, [1], .null, []) := rfl
theorem cd63_188 : code9 63 188 = some (0, .iconst 1, [1], .int 1, []) := rfl
theorem cd63_189 : code9 63 189 = some (0, .iadd, [1], .null, []) := rfl
theorem cd63_190 : code9 63 190 = some (0, .iload_n 3, [1], .null, []) := rfl
theorem cd63_191 : code9 63 191 = some (0, .bipush 6, [2], .int 6, []) := rfl
theorem cd63_193 : code9 63 193 = some (0, .iadd, [1], .null, []) := rfl
theorem cd63_194 : code9 63 194 = some (0, .iload 5, [2], .null, []) := rfl
theorem cd63_196 : code9 63 196 = some (0, .invokevirtual 60, [3, 63, 5, 1, 0, 8, 7, 0], .null, []) := rfl
theorem cd63_199 : code9 63 199 = some (9, .aload_n 0, [1], .null, []) := rfl
theorem cd63_200 : code9 63 200 = some (0, .getfield 15, [3, 7, 1, 2], .null, []) := rfl
theorem cd63_203 : code9 63 203 = some (0, .iload_n 3, [1], .null, []) := rfl
theorem cd63_204 : code9 63 204 = some (0, .dup2, [1], .null, []) := rfl
theorem cd63_205 : code9 63 205 = some (0, .iaload, [1], .null, []) := rfl
theorem cd63_206 : code9 63 206 = some (0, .iconst 1, [1], .int 1, []) := rfl
theorem cd63_207 : code9 63 207 = some (0, .isub, [1], .null, []) := rfl
theorem cd63_208 : code9 63 208 = some (0, .iastore, [1], .null, []) := rfl
theorem cd63_209 : code9 63 209 = some (0, .return_, [1], .null, []) := rfl
def Route_walk (R : Nat → Nat → Int32 → Int32 → Int32 → FI → Option (FI)) (N : Nat) (a0 a1 : Nat) (l2 : Int32) (l3 : Int32) (l4 : Int32) (I : FI) : Option (FI) := if (I a0 5) ≤ l2 then (some I) else (if l3 < 0 then (some I) else (if l3 < 36 then (if in9 l2 8 then (Option.bind (some (up2 I (a0 + 3) l2.toNatClampNeg l3)) fun I2 => (if in9 l3 36 then (if (I2 (a0 + 2) l3.toNatClampNeg) = 0 then (if (l2 + 1) = (I2 a0 5) then (Option.bind (Route_keepIfMore a0 (l4 + (I2 (a0 + 1) l3.toNatClampNeg)) I2) fun x4 => (some x4)) else (if (I2 a0 6) < ((l4 + (I2 (a0 + 1) l3.toNatClampNeg)) + ((I2 a0 4) * (((I2 a0 5) - l2) - 1))) then (Option.bind (some (up2 I2 (a0 + 2) l3.toNatClampNeg ((I2 (a0 + 2) l3.toNatClampNeg) + 1))) fun I5 => (if (l3 / 6) ≤ 0 then (if (l3 - l3 / 6 * 6) ≤ 0 then (if (I5 a1 8) ≤ ((l3 - l3 / 6 * 6) + 1) then (if (I5 a1 9) ≤ ((l3 / 6) + 1) then (Option.bind (some (up2 I5 (a0 + 2) l3.toNatClampNeg ((I5 (a0 + 2) l3.toNatClampNeg) - 1))) fun I6 => (some I6)) else (Option.bind (R a0 a1 (l2 + 1) (l3 + 6) (l4 + (I2 (a0 + 1) l3.toNatClampNeg)) I5) fun x7 => (Option.bind (some (up2 x7 (a0 + 2) l3.toNatClampNeg ((x7 (a0 + 2) l3.toNatClampNeg) - 1))) fun I8 => (some I8)))) else (Option.bind (R a0 a1 (l2 + 1) (l3 + 1) (l4 + (I2 (a0 + 1) l3.toNatClampNeg)) I5) fun x9 => (if (x9 a1 9) ≤ ((l3 / 6) + 1) then (Option.bind (some (up2 x9 (a0 + 2) l3.toNatClampNeg ((x9 (a0 + 2) l3.toNatClampNeg) - 1))) fun I10 => (some I10)) else (Option.bind (R a0 a1 (l2 + 1) (l3 + 6) (l4 + (I2 (a0 + 1) l3.toNatClampNeg)) x9) fun x11 => (Option.bind (some (up2 x11 (a0 + 2) l3.toNatClampNeg ((x11 (a0 + 2) l3.toNatClampNeg) - 1))) fun I12 => (some I12)))))) else (Option.bind (R a0 a1 (l2 + 1) (l3 - 1) (l4 + (I2 (a0 + 1) l3.toNatClampNeg)) I5) fun x13 => (if (x13 a1 8) ≤ ((l3 - l3 / 6 * 6) + 1) then (if (x13 a1 9) ≤ ((l3 / 6) + 1) then (Option.bind (some (up2 x13 (a0 + 2) l3.toNatClampNeg ((x13 (a0 + 2) l3.toNatClampNeg) - 1))) fun I14 => (some I14)) else (Option.bind (R a0 a1 (l2 + 1) (l3 + 6) (l4 + (I2 (a0 + 1) l3.toNatClampNeg)) x13) fun x15 => (Option.bind (some (up2 x15 (a0 + 2) l3.toNatClampNeg ((x15 (a0 + 2) l3.toNatClampNeg) - 1))) fun I16 => (some I16)))) else (Option.bind (R a0 a1 (l2 + 1) (l3 + 1) (l4 + (I2 (a0 + 1) l3.toNatClampNeg)) x13) fun x17 => (if (x17 a1 9) ≤ ((l3 / 6) + 1) then (Option.bind (some (up2 x17 (a0 + 2) l3.toNatClampNeg ((x17 (a0 + 2) l3.toNatClampNeg) - 1))) fun I18 => (some I18)) else (Option.bind (R a0 a1 (l2 + 1) (l3 + 6) (l4 + (I2 (a0 + 1) l3.toNatClampNeg)) x17) fun x19 => (Option.bind (some (up2 x19 (a0 + 2) l3.toNatClampNeg ((x19 (a0 + 2) l3.toNatClampNeg) - 1))) fun I20 => (some I20)))))))) else (Option.bind (R a0 a1 (l2 + 1) (l3 - 6) (l4 + (I2 (a0 + 1) l3.toNatClampNeg)) I5) fun x21 => (if (l3 - l3 / 6 * 6) ≤ 0 then (if (x21 a1 8) ≤ ((l3 - l3 / 6 * 6) + 1) then (if (x21 a1 9) ≤ ((l3 / 6) + 1) then (Option.bind (some (up2 x21 (a0 + 2) l3.toNatClampNeg ((x21 (a0 + 2) l3.toNatClampNeg) - 1))) fun I22 => (some I22)) else (Option.bind (R a0 a1 (l2 + 1) (l3 + 6) (l4 + (I2 (a0 + 1) l3.toNatClampNeg)) x21) fun x23 => (Option.bind (some (up2 x23 (a0 + 2) l3.toNatClampNeg ((x23 (a0 + 2) l3.toNatClampNeg) - 1))) fun I24 => (some I24)))) else (Option.bind (R a0 a1 (l2 + 1) (l3 + 1) (l4 + (I2 (a0 + 1) l3.toNatClampNeg)) x21) fun x25 => (if (x25 a1 9) ≤ ((l3 / 6) + 1) then (Option.bind (some (up2 x25 (a0 + 2) l3.toNatClampNeg ((x25 (a0 + 2) l3.toNatClampNeg) - 1))) fun I26 => (some I26)) else (Option.bind (R a0 a1 (l2 + 1) (l3 + 6) (l4 + (I2 (a0 + 1) l3.toNatClampNeg)) x25) fun x27 => (Option.bind (some (up2 x27 (a0 + 2) l3.toNatClampNeg ((x27 (a0 + 2) l3.toNatClampNeg) - 1))) fun I28 => (some I28)))))) else (Option.bind (R a0 a1 (l2 + 1) (l3 - 1) (l4 + (I2 (a0 + 1) l3.toNatClampNeg)) x21) fun x29 => (if (x29 a1 8) ≤ ((l3 - l3 / 6 * 6) + 1) then (if (x29 a1 9) ≤ ((l3 / 6) + 1) then (Option.bind (some (up2 x29 (a0 + 2) l3.toNatClampNeg ((x29 (a0 + 2) l3.toNatClampNeg) - 1))) fun I30 => (some I30)) else (Option.bind (R a0 a1 (l2 + 1) (l3 + 6) (l4 + (I2 (a0 + 1) l3.toNatClampNeg)) x29) fun x31 => (Option.bind (some (up2 x31 (a0 + 2) l3.toNatClampNeg ((x31 (a0 + 2) l3.toNatClampNeg) - 1))) fun I32 => (some I32)))) else (Option.bind (R a0 a1 (l2 + 1) (l3 + 1) (l4 + (I2 (a0 + 1) l3.toNatClampNeg)) x29) fun x33 => (if (x33 a1 9) ≤ ((l3 / 6) + 1) then (Option.bind (some (up2 x33 (a0 + 2) l3.toNatClampNeg ((x33 (a0 + 2) l3.toNatClampNeg) - 1))) fun I34 => (some I34)) else (Option.bind (R a0 a1 (l2 + 1) (l3 + 6) (l4 + (I2 (a0 + 1) l3.toNatClampNeg)) x33) fun x35 => (Option.bind (some (up2 x35 (a0 + 2) l3.toNatClampNeg ((x35 (a0 + 2) l3.toNatClampNeg) - 1))) fun I36 => (some I36))))))))))) else (some I2))) else (if (l2 + 1) = (I2 a0 5) then (Option.bind (Route_keepIfMore a0 (l4 + 0) I2) fun x37 => (some x37)) else (if (I2 a0 6) < ((l4 + 0) + ((I2 a0 4) * (((I2 a0 5) - l2) - 1))) then (Option.bind (some (up2 I2 (a0 + 2) l3.toNatClampNeg ((I2 (a0 + 2) l3.toNatClampNeg) + 1))) fun I38 => (if (l3 / 6) ≤ 0 then (if (l3 - l3 / 6 * 6) ≤ 0 then (if (I38 a1 8) ≤ ((l3 - l3 / 6 * 6) + 1) then (if (I38 a1 9) ≤ ((l3 / 6) + 1) then (Option.bind (some (up2 I38 (a0 + 2) l3.toNatClampNeg ((I38 (a0 + 2) l3.toNatClampNeg) - 1))) fun I39 => (some I39)) else (Option.bind (R a0 a1 (l2 + 1) (l3 + 6) (l4 + 0) I38) fun x40 => (Option.bind (some (up2 x40 (a0 + 2) l3.toNatClampNeg ((x40 (a0 + 2) l3.toNatClampNeg) - 1))) fun I41 => (some I41)))) else (Option.bind (R a0 a1 (l2 + 1) (l3 + 1) (l4 + 0) I38) fun x42 => (if (x42 a1 9) ≤ ((l3 / 6) + 1) then (Option.bind (some (up2 x42 (a0 + 2) l3.toNatClampNeg ((x42 (a0 + 2) l3.toNatClampNeg) - 1))) fun I43 => (some I43)) else (Option.bind (R a0 a1 (l2 + 1) (l3 + 6) (l4 + 0) x42) fun x44 => (Option.bind (some (up2 x44 (a0 + 2) l3.toNatClampNeg ((x44 (a0 + 2) l3.toNatClampNeg) - 1))) fun I45 => (some I45)))))) else (Option.bind (R a0 a1 (l2 + 1) (l3 - 1) (l4 + 0) I38) fun x46 => (if (x46 a1 8) ≤ ((l3 - l3 / 6 * 6) + 1) then (if (x46 a1 9) ≤ ((l3 / 6) + 1) then (Option.bind (some (up2 x46 (a0 + 2) l3.toNatClampNeg ((x46 (a0 + 2) l3.toNatClampNeg) - 1))) fun I47 => (some I47)) else (Option.bind (R a0 a1 (l2 + 1) (l3 + 6) (l4 + 0) x46) fun x48 => (Option.bind (some (up2 x48 (a0 + 2) l3.toNatClampNeg ((x48 (a0 + 2) l3.toNatClampNeg) - 1))) fun I49 => (some I49)))) else (Option.bind (R a0 a1 (l2 + 1) (l3 + 1) (l4 + 0) x46) fun x50 => (if (x50 a1 9) ≤ ((l3 / 6) + 1) then (Option.bind (some (up2 x50 (a0 + 2) l3.toNatClampNeg ((x50 (a0 + 2) l3.toNatClampNeg) - 1))) fun I51 => (some I51)) else (Option.bind (R a0 a1 (l2 + 1) (l3 + 6) (l4 + 0) x50) fun x52 => (Option.bind (some (up2 x52 (a0 + 2) l3.toNatClampNeg ((x52 (a0 + 2) l3.toNatClampNeg) - 1))) fun I53 => (some I53)))))))) else (Option.bind (R a0 a1 (l2 + 1) (l3 - 6) (l4 + 0) I38) fun x54 => (if (l3 - l3 / 6 * 6) ≤ 0 then (if (x54 a1 8) ≤ ((l3 - l3 / 6 * 6) + 1) then (if (x54 a1 9) ≤ ((l3 / 6) + 1) then (Option.bind (some (up2 x54 (a0 + 2) l3.toNatClampNeg ((x54 (a0 + 2) l3.toNatClampNeg) - 1))) fun I55 => (some I55)) else (Option.bind (R a0 a1 (l2 + 1) (l3 + 6) (l4 + 0) x54) fun x56 => (Option.bind (some (up2 x56 (a0 + 2) l3.toNatClampNeg ((x56 (a0 + 2) l3.toNatClampNeg) - 1))) fun I57 => (some I57)))) else (Option.bind (R a0 a1 (l2 + 1) (l3 + 1) (l4 + 0) x54) fun x58 => (if (x58 a1 9) ≤ ((l3 / 6) + 1) then (Option.bind (some (up2 x58 (a0 + 2) l3.toNatClampNeg ((x58 (a0 + 2) l3.toNatClampNeg) - 1))) fun I59 => (some I59)) else (Option.bind (R a0 a1 (l2 + 1) (l3 + 6) (l4 + 0) x58) fun x60 => (Option.bind (some (up2 x60 (a0 + 2) l3.toNatClampNeg ((x60 (a0 + 2) l3.toNatClampNeg) - 1))) fun I61 => (some I61)))))) else (Option.bind (R a0 a1 (l2 + 1) (l3 - 1) (l4 + 0) x54) fun x62 => (if (x62 a1 8) ≤ ((l3 - l3 / 6 * 6) + 1) then (if (x62 a1 9) ≤ ((l3 / 6) + 1) then (Option.bind (some (up2 x62 (a0 + 2) l3.toNatClampNeg ((x62 (a0 + 2) l3.toNatClampNeg) - 1))) fun I63 => (some I63)) else (Option.bind (R a0 a1 (l2 + 1) (l3 + 6) (l4 + 0) x62) fun x64 => (Option.bind (some (up2 x64 (a0 + 2) l3.toNatClampNeg ((x64 (a0 + 2) l3.toNatClampNeg) - 1))) fun I65 => (some I65)))) else (Option.bind (R a0 a1 (l2 + 1) (l3 + 1) (l4 + 0) x62) fun x66 => (if (x66 a1 9) ≤ ((l3 / 6) + 1) then (Option.bind (some (up2 x66 (a0 + 2) l3.toNatClampNeg ((x66 (a0 + 2) l3.toNatClampNeg) - 1))) fun I67 => (some I67)) else (Option.bind (R a0 a1 (l2 + 1) (l3 + 6) (l4 + 0) x66) fun x68 => (Option.bind (some (up2 x68 (a0 + 2) l3.toNatClampNeg ((x68 (a0 + 2) l3.toNatClampNeg) - 1))) fun I69 => (some I69))))))))))) else (some I2)))) else none)) else none) else (some I)))
def Route_walk_R (N : Nat) : Nat → Nat → Nat → Int32 → Int32 → Int32 → FI → Option (FI)
  | 0 => fun _ _ _ _ _ _ => none
  | k + 1 => fun a0 a1 l2 l3 l4 I => Route_walk (Route_walk_R N k) N a0 a1 l2 l3 l4 I
set_option maxRecDepth 8000 in
theorem t_Route_walk {d : Nat} {D : Nat} {R : Nat → Nat → Int32 → Int32 → Int32 → FI → Option (FI)} {N : Nat} {a0 a1 : Nat} {c : Nat × Nat} {S : Nat → Nat × Nat} {P : Nat → Nat → Option Nat} {I : FI} {J : FJ} {l2 : Int32} {l3 : Int32} {l4 : Int32} {r : FI} (hd : D + 2 ≤ d) (hR : ∀ {d : Nat} {a0 a1 : Nat} {l2 : Int32} {l3 : Int32} {l4 : Int32} {I : FI} {J : FJ} {r : FI}, D ≤ d → O7 S P a0 → O6 S P a1 → R a0 a1 l2 l3 l4 I = some r → Go d M_Route_walk 0 [some (.ref a0), some (.ref a1), some (.int l2), some (.int l3), some (.int l4), none, none, none] [] (c, S, I, J, P) (none, false, (c, S, r, J, P))) (h0 : O7 S P a0) (h1 : O6 S P a1) (h : Route_walk R N a0 a1 l2 l3 l4 I = some r) : Go d M_Route_walk 0 [some (.ref a0), some (.ref a1), some (.int l2), some (.int l3), some (.int l4), none, none, none] [] (c, S, I, J, P) (none, false, (c, S, r, J, P)) := by
  obtain ⟨d, rfl⟩ : ∃ e, d = e + 1 := ⟨d - 1, by omega⟩
  unfold Route_walk at h
  refine g_iload_n cd63_0 rfl rfl ?_
  refine g_aload_n cd63_1 rfl rfl ?_
  refine g_getI cd63_2 rfl (O7.o h0) ?_
  refine g_icmp_ge cd63_5 rfl (fun hb => ?_) (fun hb => ?_)
  · have h := ifpE hb h
    exact g_vret cd63_18 (by obtain rfl := Option.some.inj h; rfl)
  · have h := ifnE hb h
    refine g_iload_n cd63_8 rfl rfl ?_
    refine g_if_lt cd63_9 rfl (fun hb => ?_) (fun hb => ?_)
    · have h := ifpE hb h
      exact g_vret cd63_18 (by obtain rfl := Option.some.inj h; rfl)
    · have h := ifnE hb h
      refine g_iload_n cd63_12 rfl rfl ?_
      refine g_bipush cd63_13 rfl ?_
      refine g_icmp_lt cd63_15 rfl (fun hb => ?_) (fun hb => ?_)
      · have h := ifpE hb h
        refine g_aload_n cd63_19 rfl rfl ?_
        refine g_getP cd63_20 rfl (O7.o h0) (show P a0 2 = some (a0 + 3) from O7.p2 h0) ?_
        refine g_iload_n cd63_23 rfl rfl ?_
        refine g_iload_n cd63_24 rfl rfl ?_
        obtain ⟨hg1, h⟩ := grd h
        obtain ⟨I2, e1, h⟩ := bnd h
        refine G_iast cd63_25 rfl (show S (a0 + 3) = (1, 8) from O7.s2 h0) hg1 (Option.some.inj e1) ?_
        refine g_iload cd63_26 rfl rfl ?_
        refine g_aload_n cd63_28 rfl rfl ?_
        refine g_getP cd63_29 rfl (O7.o h0) (show P a0 1 = some (a0 + 2) from O7.p1 h0) ?_
        refine g_iload_n cd63_32 rfl rfl ?_
        obtain ⟨hg3, h⟩ := grd h
        refine G_iald cd63_33 rfl (show S (a0 + 2) = (1, 36) from O7.s1 h0) hg3 ?_
        refine g_if_ne cd63_34 rfl (fun hb => ?_) (fun hb => ?_)
        · have h := ifpE hb h
          refine g_aload_n cd63_37 rfl rfl ?_
          refine g_getP cd63_38 rfl (O7.o h0) (show P a0 0 = some (a0 + 1) from O7.p0 h0) ?_
          refine g_iload_n cd63_41 rfl rfl ?_
          refine G_iald cd63_42 rfl (show S (a0 + 1) = (1, 36) from O7.s0 h0) hg3 ?_
          refine g_goto (ls2 := [some (.ref a0), some (.ref a1), some (.int l2), some (.int l3), some (.int l4), none, none, none]) cd63_43 rfl rfl ?_
          refine g_iadd cd63_47 rfl ?_
          refine g_istore (ls2 := [some (.ref a0), some (.ref a1), some (.int l2), some (.int l3), some (.int l4), some (.int (l4 + (I2 (a0 + 1) l3.toNatClampNeg))), none, none]) cd63_48 rfl rfl ?_
          refine g_iload_n cd63_50 rfl rfl ?_
          refine g_iconst cd63_51 rfl ?_
          refine g_iadd cd63_52 rfl ?_
          refine g_aload_n cd63_53 rfl rfl ?_
          refine g_getI cd63_54 rfl (O7.o h0) ?_
          refine g_icmp_ne cd63_57 rfl (fun hb => ?_) (fun hb => ?_)
          · have h := ifpE hb h
            refine g_aload_n cd63_60 rfl rfl ?_
            refine g_iload cd63_61 rfl rfl ?_
            obtain ⟨x4, hx, h⟩ := bnd h
            refine g_callVV (L := [some (.ref a0), some (.int (l4 + (I2 (a0 + 1) l3.toNatClampNeg)))]) cd63_63 rfl rfl rfl rfl rfl (O7.o h0) (t_Route_keepIfMore (by omega) h0 hx) ?_
            exact g_vret cd63_66 (by obtain rfl := Option.some.inj h; rfl)
          · have h := ifnE hb h
            refine g_iload cd63_67 rfl rfl ?_
            refine g_aload_n cd63_69 rfl rfl ?_
            refine g_getI cd63_70 rfl (O7.o h0) ?_
            refine g_aload_n cd63_73 rfl rfl ?_
            refine g_getI cd63_74 rfl (O7.o h0) ?_
            refine g_iload_n cd63_77 rfl rfl ?_
            refine g_isub cd63_78 rfl ?_
            refine g_iconst cd63_79 rfl ?_
            refine g_isub cd63_80 rfl ?_
            refine g_imul cd63_81 rfl ?_
            refine g_iadd cd63_82 rfl ?_
            refine g_aload_n cd63_83 rfl rfl ?_
            refine g_getI cd63_84 rfl (O7.o h0) ?_
            refine g_icmp_gt cd63_87 rfl (fun hb => ?_) (fun hb => ?_)
            · have h := ifpE hb h
              refine g_aload_n cd63_91 rfl rfl ?_
              refine g_getP cd63_92 rfl (O7.o h0) (show P a0 1 = some (a0 + 2) from O7.p1 h0) ?_
              refine g_iload_n cd63_95 rfl rfl ?_
              refine g_dup2R cd63_96 rfl ?_
              refine G_iald cd63_97 rfl (show S (a0 + 2) = (1, 36) from O7.s1 h0) hg3 ?_
              refine g_iconst cd63_98 rfl ?_
              refine g_iadd cd63_99 rfl ?_
              obtain ⟨I5, e1, h⟩ := bnd h
              refine G_iast cd63_100 rfl (show S (a0 + 2) = (1, 36) from O7.s1 h0) hg3 (Option.some.inj e1) ?_
              refine g_iload_n cd63_101 rfl rfl ?_
              refine g_bipush cd63_102 rfl ?_
              refine g_irem cd63_104 rfl (by decide) ?_
              refine g_istore (ls2 := [some (.ref a0), some (.ref a1), some (.int l2), some (.int l3), some (.int l4), some (.int (l4 + (I2 (a0 + 1) l3.toNatClampNeg))), some (.int (l3 - l3 / 6 * 6)), none]) cd63_105 rfl rfl ?_
              refine g_iload_n cd63_107 rfl rfl ?_
              refine g_bipush cd63_108 rfl ?_
              refine g_idiv cd63_110 rfl (by decide) ?_
              refine g_istore (ls2 := [some (.ref a0), some (.ref a1), some (.int l2), some (.int l3), some (.int l4), some (.int (l4 + (I2 (a0 + 1) l3.toNatClampNeg))), some (.int (l3 - l3 / 6 * 6)), some (.int (l3 / 6))]) cd63_111 rfl rfl ?_
              refine g_iload cd63_113 rfl rfl ?_
              refine g_if_le cd63_115 rfl (fun hb => ?_) (fun hb => ?_)
              · have h := ifpE hb h
                refine g_iload cd63_132 rfl rfl ?_
                refine g_if_le cd63_134 rfl (fun hb => ?_) (fun hb => ?_)
                · have h := ifpE hb h
                  refine g_iload cd63_150 rfl rfl ?_
                  refine g_iconst cd63_152 rfl ?_
                  refine g_iadd cd63_153 rfl ?_
                  refine g_aload_n cd63_154 rfl rfl ?_
                  refine g_getI cd63_155 rfl (O6.o h1) ?_
                  refine g_icmp_ge cd63_158 rfl (fun hb => ?_) (fun hb => ?_)
                  · have h := ifpE hb h
                    refine g_iload cd63_174 rfl rfl ?_
                    refine g_iconst cd63_176 rfl ?_
                    refine g_iadd cd63_177 rfl ?_
                    refine g_aload_n cd63_178 rfl rfl ?_
                    refine g_getI cd63_179 rfl (O6.o h1) ?_
                    refine g_icmp_ge cd63_182 rfl (fun hb => ?_) (fun hb => ?_)
                    · have h := ifpE hb h
                      refine g_aload_n cd63_199 rfl rfl ?_
                      refine g_getP cd63_200 rfl (O7.o h0) (show P a0 1 = some (a0 + 2) from O7.p1 h0) ?_
                      refine g_iload_n cd63_203 rfl rfl ?_
                      refine g_dup2R cd63_204 rfl ?_
                      refine G_iald cd63_205 rfl (show S (a0 + 2) = (1, 36) from O7.s1 h0) hg3 ?_
                      refine g_iconst cd63_206 rfl ?_
                      refine g_isub cd63_207 rfl ?_
                      obtain ⟨I6, e1, h⟩ := bnd h
                      refine G_iast cd63_208 rfl (show S (a0 + 2) = (1, 36) from O7.s1 h0) hg3 (Option.some.inj e1) ?_
                      exact g_vret cd63_209 (by obtain rfl := Option.some.inj h; rfl)
                    · have h := ifnE hb h
                      refine g_aload_n cd63_185 rfl rfl ?_
                      refine g_aload_n cd63_186 rfl rfl ?_
                      refine g_iload_n cd63_187 rfl rfl ?_
                      refine g_iconst cd63_188 rfl ?_
                      refine g_iadd cd63_189 rfl ?_
                      refine g_iload_n cd63_190 rfl rfl ?_
                      refine g_bipush cd63_191 rfl ?_
                      refine g_iadd cd63_193 rfl ?_
                      refine g_iload cd63_194 rfl rfl ?_
                      obtain ⟨x7, hx, h⟩ := bnd h
                      refine g_callVV (L := [some (.ref a0), some (.ref a1), some (.int (l2 + 1)), some (.int (l3 + 6)), some (.int (l4 + (I2 (a0 + 1) l3.toNatClampNeg))), none, none, none]) cd63_196 rfl rfl rfl rfl rfl (O7.o h0) (hR (by omega) h0 h1 hx) ?_
                      refine g_aload_n cd63_199 rfl rfl ?_
                      refine g_getP cd63_200 rfl (O7.o h0) (show P a0 1 = some (a0 + 2) from O7.p1 h0) ?_
                      refine g_iload_n cd63_203 rfl rfl ?_
                      refine g_dup2R cd63_204 rfl ?_
                      refine G_iald cd63_205 rfl (show S (a0 + 2) = (1, 36) from O7.s1 h0) hg3 ?_
                      refine g_iconst cd63_206 rfl ?_
                      refine g_isub cd63_207 rfl ?_
                      obtain ⟨I8, e1, h⟩ := bnd h
                      refine G_iast cd63_208 rfl (show S (a0 + 2) = (1, 36) from O7.s1 h0) hg3 (Option.some.inj e1) ?_
                      exact g_vret cd63_209 (by obtain rfl := Option.some.inj h; rfl)
                  · have h := ifnE hb h
                    refine g_aload_n cd63_161 rfl rfl ?_
                    refine g_aload_n cd63_162 rfl rfl ?_
                    refine g_iload_n cd63_163 rfl rfl ?_
                    refine g_iconst cd63_164 rfl ?_
                    refine g_iadd cd63_165 rfl ?_
                    refine g_iload_n cd63_166 rfl rfl ?_
                    refine g_iconst cd63_167 rfl ?_
                    refine g_iadd cd63_168 rfl ?_
                    refine g_iload cd63_169 rfl rfl ?_
                    obtain ⟨x9, hx, h⟩ := bnd h
                    refine g_callVV (L := [some (.ref a0), some (.ref a1), some (.int (l2 + 1)), some (.int (l3 + 1)), some (.int (l4 + (I2 (a0 + 1) l3.toNatClampNeg))), none, none, none]) cd63_171 rfl rfl rfl rfl rfl (O7.o h0) (hR (by omega) h0 h1 hx) ?_
                    refine g_iload cd63_174 rfl rfl ?_
                    refine g_iconst cd63_176 rfl ?_
                    refine g_iadd cd63_177 rfl ?_
                    refine g_aload_n cd63_178 rfl rfl ?_
                    refine g_getI cd63_179 rfl (O6.o h1) ?_
                    refine g_icmp_ge cd63_182 rfl (fun hb => ?_) (fun hb => ?_)
                    · have h := ifpE hb h
                      refine g_aload_n cd63_199 rfl rfl ?_
                      refine g_getP cd63_200 rfl (O7.o h0) (show P a0 1 = some (a0 + 2) from O7.p1 h0) ?_
                      refine g_iload_n cd63_203 rfl rfl ?_
                      refine g_dup2R cd63_204 rfl ?_
                      refine G_iald cd63_205 rfl (show S (a0 + 2) = (1, 36) from O7.s1 h0) hg3 ?_
                      refine g_iconst cd63_206 rfl ?_
                      refine g_isub cd63_207 rfl ?_
                      obtain ⟨I10, e1, h⟩ := bnd h
                      refine G_iast cd63_208 rfl (show S (a0 + 2) = (1, 36) from O7.s1 h0) hg3 (Option.some.inj e1) ?_
                      exact g_vret cd63_209 (by obtain rfl := Option.some.inj h; rfl)
                    · have h := ifnE hb h
                      refine g_aload_n cd63_185 rfl rfl ?_
                      refine g_aload_n cd63_186 rfl rfl ?_
                      refine g_iload_n cd63_187 rfl rfl ?_
                      refine g_iconst cd63_188 rfl ?_
                      refine g_iadd cd63_189 rfl ?_
                      refine g_iload_n cd63_190 rfl rfl ?_
                      refine g_bipush cd63_191 rfl ?_
                      refine g_iadd cd63_193 rfl ?_
                      refine g_iload cd63_194 rfl rfl ?_
                      obtain ⟨x11, hx, h⟩ := bnd h
                      refine g_callVV (L := [some (.ref a0), some (.ref a1), some (.int (l2 + 1)), some (.int (l3 + 6)), some (.int (l4 + (I2 (a0 + 1) l3.toNatClampNeg))), none, none, none]) cd63_196 rfl rfl rfl rfl rfl (O7.o h0) (hR (by omega) h0 h1 hx) ?_
                      refine g_aload_n cd63_199 rfl rfl ?_
                      refine g_getP cd63_200 rfl (O7.o h0) (show P a0 1 = some (a0 + 2) from O7.p1 h0) ?_
                      refine g_iload_n cd63_203 rfl rfl ?_
                      refine g_dup2R cd63_204 rfl ?_
                      refine G_iald cd63_205 rfl (show S (a0 + 2) = (1, 36) from O7.s1 h0) hg3 ?_
                      refine g_iconst cd63_206 rfl ?_
                      refine g_isub cd63_207 rfl ?_
                      obtain ⟨I12, e1, h⟩ := bnd h
                      refine G_iast cd63_208 rfl (show S (a0 + 2) = (1, 36) from O7.s1 h0) hg3 (Option.some.inj e1) ?_
                      exact g_vret cd63_209 (by obtain rfl := Option.some.inj h; rfl)
                · have h := ifnE hb h
                  refine g_aload_n cd63_137 rfl rfl ?_
                  refine g_aload_n cd63_138 rfl rfl ?_
                  refine g_iload_n cd63_139 rfl rfl ?_
                  refine g_iconst cd63_140 rfl ?_
                  refine g_iadd cd63_141 rfl ?_
                  refine g_iload_n cd63_142 rfl rfl ?_
                  refine g_iconst cd63_143 rfl ?_
                  refine g_isub cd63_144 rfl ?_
                  refine g_iload cd63_145 rfl rfl ?_
                  obtain ⟨x13, hx, h⟩ := bnd h
                  refine g_callVV (L := [some (.ref a0), some (.ref a1), some (.int (l2 + 1)), some (.int (l3 - 1)), some (.int (l4 + (I2 (a0 + 1) l3.toNatClampNeg))), none, none, none]) cd63_147 rfl rfl rfl rfl rfl (O7.o h0) (hR (by omega) h0 h1 hx) ?_
                  refine g_iload cd63_150 rfl rfl ?_
                  refine g_iconst cd63_152 rfl ?_
                  refine g_iadd cd63_153 rfl ?_
                  refine g_aload_n cd63_154 rfl rfl ?_
                  refine g_getI cd63_155 rfl (O6.o h1) ?_
                  refine g_icmp_ge cd63_158 rfl (fun hb => ?_) (fun hb => ?_)
                  · have h := ifpE hb h
                    refine g_iload cd63_174 rfl rfl ?_
                    refine g_iconst cd63_176 rfl ?_
                    refine g_iadd cd63_177 rfl ?_
                    refine g_aload_n cd63_178 rfl rfl ?_
                    refine g_getI cd63_179 rfl (O6.o h1) ?_
                    refine g_icmp_ge cd63_182 rfl (fun hb => ?_) (fun hb => ?_)
                    · have h := ifpE hb h
                      refine g_aload_n cd63_199 rfl rfl ?_
                      refine g_getP cd63_200 rfl (O7.o h0) (show P a0 1 = some (a0 + 2) from O7.p1 h0) ?_
                      refine g_iload_n cd63_203 rfl rfl ?_
                      refine g_dup2R cd63_204 rfl ?_
                      refine G_iald cd63_205 rfl (show S (a0 + 2) = (1, 36) from O7.s1 h0) hg3 ?_
                      refine g_iconst cd63_206 rfl ?_
                      refine g_isub cd63_207 rfl ?_
                      obtain ⟨I14, e1, h⟩ := bnd h
                      refine G_iast cd63_208 rfl (show S (a0 + 2) = (1, 36) from O7.s1 h0) hg3 (Option.some.inj e1) ?_
                      exact g_vret cd63_209 (by obtain rfl := Option.some.inj h; rfl)
                    · have h := ifnE hb h
                      refine g_aload_n cd63_185 rfl rfl ?_
                      refine g_aload_n cd63_186 rfl rfl ?_
                      refine g_iload_n cd63_187 rfl rfl ?_
                      refine g_iconst cd63_188 rfl ?_
                      refine g_iadd cd63_189 rfl ?_
                      refine g_iload_n cd63_190 rfl rfl ?_
                      refine g_bipush cd63_191 rfl ?_
                      refine g_iadd cd63_193 rfl ?_
                      refine g_iload cd63_194 rfl rfl ?_
                      obtain ⟨x15, hx, h⟩ := bnd h
                      refine g_callVV (L := [some (.ref a0), some (.ref a1), some (.int (l2 + 1)), some (.int (l3 + 6)), some (.int (l4 + (I2 (a0 + 1) l3.toNatClampNeg))), none, none, none]) cd63_196 rfl rfl rfl rfl rfl (O7.o h0) (hR (by omega) h0 h1 hx) ?_
                      refine g_aload_n cd63_199 rfl rfl ?_
                      refine g_getP cd63_200 rfl (O7.o h0) (show P a0 1 = some (a0 + 2) from O7.p1 h0) ?_
                      refine g_iload_n cd63_203 rfl rfl ?_
                      refine g_dup2R cd63_204 rfl ?_
                      refine G_iald cd63_205 rfl (show S (a0 + 2) = (1, 36) from O7.s1 h0) hg3 ?_
                      refine g_iconst cd63_206 rfl ?_
                      refine g_isub cd63_207 rfl ?_
                      obtain ⟨I16, e1, h⟩ := bnd h
                      refine G_iast cd63_208 rfl (show S (a0 + 2) = (1, 36) from O7.s1 h0) hg3 (Option.some.inj e1) ?_
                      exact g_vret cd63_209 (by obtain rfl := Option.some.inj h; rfl)
                  · have h := ifnE hb h
                    refine g_aload_n cd63_161 rfl rfl ?_
                    refine g_aload_n cd63_162 rfl rfl ?_
                    refine g_iload_n cd63_163 rfl rfl ?_
                    refine g_iconst cd63_164 rfl ?_
                    refine g_iadd cd63_165 rfl ?_
                    refine g_iload_n cd63_166 rfl rfl ?_
                    refine g_iconst cd63_167 rfl ?_
                    refine g_iadd cd63_168 rfl ?_
                    refine g_iload cd63_169 rfl rfl ?_
                    obtain ⟨x17, hx, h⟩ := bnd h
                    refine g_callVV (L := [some (.ref a0), some (.ref a1), some (.int (l2 + 1)), some (.int (l3 + 1)), some (.int (l4 + (I2 (a0 + 1) l3.toNatClampNeg))), none, none, none]) cd63_171 rfl rfl rfl rfl rfl (O7.o h0) (hR (by omega) h0 h1 hx) ?_
                    refine g_iload cd63_174 rfl rfl ?_
                    refine g_iconst cd63_176 rfl ?_
                    refine g_iadd cd63_177 rfl ?_
                    refine g_aload_n cd63_178 rfl rfl ?_
                    refine g_getI cd63_179 rfl (O6.o h1) ?_
                    refine g_icmp_ge cd63_182 rfl (fun hb => ?_) (fun hb => ?_)
                    · have h := ifpE hb h
                      refine g_aload_n cd63_199 rfl rfl ?_
                      refine g_getP cd63_200 rfl (O7.o h0) (show P a0 1 = some (a0 + 2) from O7.p1 h0) ?_
                      refine g_iload_n cd63_203 rfl rfl ?_
                      refine g_dup2R cd63_204 rfl ?_
                      refine G_iald cd63_205 rfl (show S (a0 + 2) = (1, 36) from O7.s1 h0) hg3 ?_
                      refine g_iconst cd63_206 rfl ?_
                      refine g_isub cd63_207 rfl ?_
                      obtain ⟨I18, e1, h⟩ := bnd h
                      refine G_iast cd63_208 rfl (show S (a0 + 2) = (1, 36) from O7.s1 h0) hg3 (Option.some.inj e1) ?_
                      exact g_vret cd63_209 (by obtain rfl := Option.some.inj h; rfl)
                    · have h := ifnE hb h
                      refine g_aload_n cd63_185 rfl rfl ?_
                      refine g_aload_n cd63_186 rfl rfl ?_
                      refine g_iload_n cd63_187 rfl rfl ?_
                      refine g_iconst cd63_188 rfl ?_
                      refine g_iadd cd63_189 rfl ?_
                      refine g_iload_n cd63_190 rfl rfl ?_
                      refine g_bipush cd63_191 rfl ?_
                      refine g_iadd cd63_193 rfl ?_
                      refine g_iload cd63_194 rfl rfl ?_
                      obtain ⟨x19, hx, h⟩ := bnd h
                      refine g_callVV (L := [some (.ref a0), some (.ref a1), some (.int (l2 + 1)), some (.int (l3 + 6)), some (.int (l4 + (I2 (a0 + 1) l3.toNatClampNeg))), none, none, none]) cd63_196 rfl rfl rfl rfl rfl (O7.o h0) (hR (by omega) h0 h1 hx) ?_
                      refine g_aload_n cd63_199 rfl rfl ?_
                      refine g_getP cd63_200 rfl (O7.o h0) (show P a0 1 = some (a0 + 2) from O7.p1 h0) ?_
                      refine g_iload_n cd63_203 rfl rfl ?_
                      refine g_dup2R cd63_204 rfl ?_
                      refine G_iald cd63_205 rfl (show S (a0 + 2) = (1, 36) from O7.s1 h0) hg3 ?_
                      refine g_iconst cd63_206 rfl ?_
                      refine g_isub cd63_207 rfl ?_
                      obtain ⟨I20, e1, h⟩ := bnd h
                      refine G_iast cd63_208 rfl (show S (a0 + 2) = (1, 36) from O7.s1 h0) hg3 (Option.some.inj e1) ?_
                      exact g_vret cd63_209 (by obtain rfl := Option.some.inj h; rfl)
              · have h := ifnE hb h
                refine g_aload_n cd63_118 rfl rfl ?_
                refine g_aload_n cd63_119 rfl rfl ?_
                refine g_iload_n cd63_120 rfl rfl ?_
                refine g_iconst cd63_121 rfl ?_
                refine g_iadd cd63_122 rfl ?_
                refine g_iload_n cd63_123 rfl rfl ?_
                refine g_bipush cd63_124 rfl ?_
                refine g_isub cd63_126 rfl ?_
                refine g_iload cd63_127 rfl rfl ?_
                obtain ⟨x21, hx, h⟩ := bnd h
                refine g_callVV (L := [some (.ref a0), some (.ref a1), some (.int (l2 + 1)), some (.int (l3 - 6)), some (.int (l4 + (I2 (a0 + 1) l3.toNatClampNeg))), none, none, none]) cd63_129 rfl rfl rfl rfl rfl (O7.o h0) (hR (by omega) h0 h1 hx) ?_
                refine g_iload cd63_132 rfl rfl ?_
                refine g_if_le cd63_134 rfl (fun hb => ?_) (fun hb => ?_)
                · have h := ifpE hb h
                  refine g_iload cd63_150 rfl rfl ?_
                  refine g_iconst cd63_152 rfl ?_
                  refine g_iadd cd63_153 rfl ?_
                  refine g_aload_n cd63_154 rfl rfl ?_
                  refine g_getI cd63_155 rfl (O6.o h1) ?_
                  refine g_icmp_ge cd63_158 rfl (fun hb => ?_) (fun hb => ?_)
                  · have h := ifpE hb h
                    refine g_iload cd63_174 rfl rfl ?_
                    refine g_iconst cd63_176 rfl ?_
                    refine g_iadd cd63_177 rfl ?_
                    refine g_aload_n cd63_178 rfl rfl ?_
                    refine g_getI cd63_179 rfl (O6.o h1) ?_
                    refine g_icmp_ge cd63_182 rfl (fun hb => ?_) (fun hb => ?_)
                    · have h := ifpE hb h
                      refine g_aload_n cd63_199 rfl rfl ?_
                      refine g_getP cd63_200 rfl (O7.o h0) (show P a0 1 = some (a0 + 2) from O7.p1 h0) ?_
                      refine g_iload_n cd63_203 rfl rfl ?_
                      refine g_dup2R cd63_204 rfl ?_
                      refine G_iald cd63_205 rfl (show S (a0 + 2) = (1, 36) from O7.s1 h0) hg3 ?_
                      refine g_iconst cd63_206 rfl ?_
                      refine g_isub cd63_207 rfl ?_
                      obtain ⟨I22, e1, h⟩ := bnd h
                      refine G_iast cd63_208 rfl (show S (a0 + 2) = (1, 36) from O7.s1 h0) hg3 (Option.some.inj e1) ?_
                      exact g_vret cd63_209 (by obtain rfl := Option.some.inj h; rfl)
                    · have h := ifnE hb h
                      refine g_aload_n cd63_185 rfl rfl ?_
                      refine g_aload_n cd63_186 rfl rfl ?_
                      refine g_iload_n cd63_187 rfl rfl ?_
                      refine g_iconst cd63_188 rfl ?_
                      refine g_iadd cd63_189 rfl ?_
                      refine g_iload_n cd63_190 rfl rfl ?_
                      refine g_bipush cd63_191 rfl ?_
                      refine g_iadd cd63_193 rfl ?_
                      refine g_iload cd63_194 rfl rfl ?_
                      obtain ⟨x23, hx, h⟩ := bnd h
                      refine g_callVV (L := [some (.ref a0), some (.ref a1), some (.int (l2 + 1)), some (.int (l3 + 6)), some (.int (l4 + (I2 (a0 + 1) l3.toNatClampNeg))), none, none, none]) cd63_196 rfl rfl rfl rfl rfl (O7.o h0) (hR (by omega) h0 h1 hx) ?_
                      refine g_aload_n cd63_199 rfl rfl ?_
                      refine g_getP cd63_200 rfl (O7.o h0) (show P a0 1 = some (a0 + 2) from O7.p1 h0) ?_
                      refine g_iload_n cd63_203 rfl rfl ?_
                      refine g_dup2R cd63_204 rfl ?_
                      refine G_iald cd63_205 rfl (show S (a0 + 2) = (1, 36) from O7.s1 h0) hg3 ?_
                      refine g_iconst cd63_206 rfl ?_
                      refine g_isub cd63_207 rfl ?_
                      obtain ⟨I24, e1, h⟩ := bnd h
                      refine G_iast cd63_208 rfl (show S (a0 + 2) = (1, 36) from O7.s1 h0) hg3 (Option.some.inj e1) ?_
                      exact g_vret cd63_209 (by obtain rfl := Option.some.inj h; rfl)
                  · have h := ifnE hb h
                    refine g_aload_n cd63_161 rfl rfl ?_
                    refine g_aload_n cd63_162 rfl rfl ?_
                    refine g_iload_n cd63_163 rfl rfl ?_
                    refine g_iconst cd63_164 rfl ?_
                    refine g_iadd cd63_165 rfl ?_
                    refine g_iload_n cd63_166 rfl rfl ?_
                    refine g_iconst cd63_167 rfl ?_
                    refine g_iadd cd63_168 rfl ?_
                    refine g_iload cd63_169 rfl rfl ?_
                    obtain ⟨x25, hx, h⟩ := bnd h
                    refine g_callVV (L := [some (.ref a0), some (.ref a1), some (.int (l2 + 1)), some (.int (l3 + 1)), some (.int (l4 + (I2 (a0 + 1) l3.toNatClampNeg))), none, none, none]) cd63_171 rfl rfl rfl rfl rfl (O7.o h0) (hR (by omega) h0 h1 hx) ?_
                    refine g_iload cd63_174 rfl rfl ?_
                    refine g_iconst cd63_176 rfl ?_
                    refine g_iadd cd63_177 rfl ?_
                    refine g_aload_n cd63_178 rfl rfl ?_
                    refine g_getI cd63_179 rfl (O6.o h1) ?_
                    refine g_icmp_ge cd63_182 rfl (fun hb => ?_) (fun hb => ?_)
                    · have h := ifpE hb h
                      refine g_aload_n cd63_199 rfl rfl ?_
                      refine g_getP cd63_200 rfl (O7.o h0) (show P a0 1 = some (a0 + 2) from O7.p1 h0) ?_
                      refine g_iload_n cd63_203 rfl rfl ?_
                      refine g_dup2R cd63_204 rfl ?_
                      refine G_iald cd63_205 rfl (show S (a0 + 2) = (1, 36) from O7.s1 h0) hg3 ?_
                      refine g_iconst cd63_206 rfl ?_
                      refine g_isub cd63_207 rfl ?_
                      obtain ⟨I26, e1, h⟩ := bnd h
                      refine G_iast cd63_208 rfl (show S (a0 + 2) = (1, 36) from O7.s1 h0) hg3 (Option.some.inj e1) ?_
                      exact g_vret cd63_209 (by obtain rfl := Option.some.inj h; rfl)
                    · have h := ifnE hb h
                      refine g_aload_n cd63_185 rfl rfl ?_
                      refine g_aload_n cd63_186 rfl rfl ?_
                      refine g_iload_n cd63_187 rfl rfl ?_
                      refine g_iconst cd63_188 rfl ?_
                      refine g_iadd cd63_189 rfl ?_
                      refine g_iload_n cd63_190 rfl rfl ?_
                      refine g_bipush cd63_191 rfl ?_
                      refine g_iadd cd63_193 rfl ?_
                      refine g_iload cd63_194 rfl rfl ?_
                      obtain ⟨x27, hx, h⟩ := bnd h
                      refine g_callVV (L := [some (.ref a0), some (.ref a1), some (.int (l2 + 1)), some (.int (l3 + 6)), some (.int (l4 + (I2 (a0 + 1) l3.toNatClampNeg))), none, none, none]) cd63_196 rfl rfl rfl rfl rfl (O7.o h0) (hR (by omega) h0 h1 hx) ?_
                      refine g_aload_n cd63_199 rfl rfl ?_
                      refine g_getP cd63_200 rfl (O7.o h0) (show P a0 1 = some (a0 + 2) from O7.p1 h0) ?_
                      refine g_iload_n cd63_203 rfl rfl ?_
                      refine g_dup2R cd63_204 rfl ?_
                      refine G_iald cd63_205 rfl (show S (a0 + 2) = (1, 36) from O7.s1 h0) hg3 ?_
                      refine g_iconst cd63_206 rfl ?_
                      refine g_isub cd63_207 rfl ?_
                      obtain ⟨I28, e1, h⟩ := bnd h
                      refine G_iast cd63_208 rfl (show S (a0 + 2) = (1, 36) from O7.s1 h0) hg3 (Option.some.inj e1) ?_
                      exact g_vret cd63_209 (by obtain rfl := Option.some.inj h; rfl)
                · have h := ifnE hb h
                  refine g_aload_n cd63_137 rfl rfl ?_
                  refine g_aload_n cd63_138 rfl rfl ?_
                  refine g_iload_n cd63_139 rfl rfl ?_
                  refine g_iconst cd63_140 rfl ?_
                  refine g_iadd cd63_141 rfl ?_
                  refine g_iload_n cd63_142 rfl rfl ?_
                  refine g_iconst cd63_143 rfl ?_
                  refine g_isub cd63_144 rfl ?_
                  refine g_iload cd63_145 rfl rfl ?_
                  obtain ⟨x29, hx, h⟩ := bnd h
                  refine g_callVV (L := [some (.ref a0), some (.ref a1), some (.int (l2 + 1)), some (.int (l3 - 1)), some (.int (l4 + (I2 (a0 + 1) l3.toNatClampNeg))), none, none, none]) cd63_147 rfl rfl rfl rfl rfl (O7.o h0) (hR (by omega) h0 h1 hx) ?_
                  refine g_iload cd63_150 rfl rfl ?_
                  refine g_iconst cd63_152 rfl ?_
                  refine g_iadd cd63_153 rfl ?_
                  refine g_aload_n cd63_154 rfl rfl ?_
                  refine g_getI cd63_155 rfl (O6.o h1) ?_
                  refine g_icmp_ge cd63_158 rfl (fun hb => ?_) (fun hb => ?_)
                  · have h := ifpE hb h
                    refine g_iload cd63_174 rfl rfl ?_
                    refine g_iconst cd63_176 rfl ?_
                    refine g_iadd cd63_177 rfl ?_
                    refine g_aload_n cd63_178 rfl rfl ?_
                    refine g_getI cd63_179 rfl (O6.o h1) ?_
                    refine g_icmp_ge cd63_182 rfl (fun hb => ?_) (fun hb => ?_)
                    · have h := ifpE hb h
                      refine g_aload_n cd63_199 rfl rfl ?_
                      refine g_getP cd63_200 rfl (O7.o h0) (show P a0 1 = some (a0 + 2) from O7.p1 h0) ?_
                      refine g_iload_n cd63_203 rfl rfl ?_
                      refine g_dup2R cd63_204 rfl ?_
                      refine G_iald cd63_205 rfl (show S (a0 + 2) = (1, 36) from O7.s1 h0) hg3 ?_
                      refine g_iconst cd63_206 rfl ?_
                      refine g_isub cd63_207 rfl ?_
                      obtain ⟨I30, e1, h⟩ := bnd h
                      refine G_iast cd63_208 rfl (show S (a0 + 2) = (1, 36) from O7.s1 h0) hg3 (Option.some.inj e1) ?_
                      exact g_vret cd63_209 (by obtain rfl := Option.some.inj h; rfl)
                    · have h := ifnE hb h
                      refine g_aload_n cd63_185 rfl rfl ?_
                      refine g_aload_n cd63_186 rfl rfl ?_
                      refine g_iload_n cd63_187 rfl rfl ?_
                      refine g_iconst cd63_188 rfl ?_
                      refine g_iadd cd63_189 rfl ?_
                      refine g_iload_n cd63_190 rfl rfl ?_
                      refine g_bipush cd63_191 rfl ?_
                      refine g_iadd cd63_193 rfl ?_
                      refine g_iload cd63_194 rfl rfl ?_
                      obtain ⟨x31, hx, h⟩ := bnd h
                      refine g_callVV (L := [some (.ref a0), some (.ref a1), some (.int (l2 + 1)), some (.int (l3 + 6)), some (.int (l4 + (I2 (a0 + 1) l3.toNatClampNeg))), none, none, none]) cd63_196 rfl rfl rfl rfl rfl (O7.o h0) (hR (by omega) h0 h1 hx) ?_
                      refine g_aload_n cd63_199 rfl rfl ?_
                      refine g_getP cd63_200 rfl (O7.o h0) (show P a0 1 = some (a0 + 2) from O7.p1 h0) ?_
                      refine g_iload_n cd63_203 rfl rfl ?_
                      refine g_dup2R cd63_204 rfl ?_
                      refine G_iald cd63_205 rfl (show S (a0 + 2) = (1, 36) from O7.s1 h0) hg3 ?_
                      refine g_iconst cd63_206 rfl ?_
                      refine g_isub cd63_207 rfl ?_
                      obtain ⟨I32, e1, h⟩ := bnd h
                      refine G_iast cd63_208 rfl (show S (a0 + 2) = (1, 36) from O7.s1 h0) hg3 (Option.some.inj e1) ?_
                      exact g_vret cd63_209 (by obtain rfl := Option.some.inj h; rfl)
                  · have h := ifnE hb h
                    refine g_aload_n cd63_161 rfl rfl ?_
                    refine g_aload_n cd63_162 rfl rfl ?_
                    refine g_iload_n cd63_163 rfl rfl ?_
                    refine g_iconst cd63_164 rfl ?_
                    refine g_iadd cd63_165 rfl ?_
                    refine g_iload_n cd63_166 rfl rfl ?_
                    refine g_iconst cd63_167 rfl ?_
                    refine g_iadd cd63_168 rfl ?_
                    refine g_iload cd63_169 rfl rfl ?_
                    obtain ⟨x33, hx, h⟩ := bnd h
                    refine g_callVV (L := [some (.ref a0), some (.ref a1), some (.int (l2 + 1)), some (.int (l3 + 1)), some (.int (l4 + (I2 (a0 + 1) l3.toNatClampNeg))), none, none, none]) cd63_171 rfl rfl rfl rfl rfl (O7.o h0) (hR (by omega) h0 h1 hx) ?_
                    refine g_iload cd63_174 rfl rfl ?_
                    refine g_iconst cd63_176 rfl ?_
                    refine g_iadd cd63_177 rfl ?_
                    refine g_aload_n cd63_178 rfl rfl ?_
                    refine g_getI cd63_179 rfl (O6.o h1) ?_
                    refine g_icmp_ge cd63_182 rfl (fun hb => ?_) (fun hb => ?_)
                    · have h := ifpE hb h
                      refine g_aload_n cd63_199 rfl rfl ?_
                      refine g_getP cd63_200 rfl (O7.o h0) (show P a0 1 = some (a0 + 2) from O7.p1 h0) ?_
                      refine g_iload_n cd63_203 rfl rfl ?_
                      refine g_dup2R cd63_204 rfl ?_
                      refine G_iald cd63_205 rfl (show S (a0 + 2) = (1, 36) from O7.s1 h0) hg3 ?_
                      refine g_iconst cd63_206 rfl ?_
                      refine g_isub cd63_207 rfl ?_
                      obtain ⟨I34, e1, h⟩ := bnd h
                      refine G_iast cd63_208 rfl (show S (a0 + 2) = (1, 36) from O7.s1 h0) hg3 (Option.some.inj e1) ?_
                      exact g_vret cd63_209 (by obtain rfl := Option.some.inj h; rfl)
                    · have h := ifnE hb h
                      refine g_aload_n cd63_185 rfl rfl ?_
                      refine g_aload_n cd63_186 rfl rfl ?_
                      refine g_iload_n cd63_187 rfl rfl ?_
                      refine g_iconst cd63_188 rfl ?_
                      refine g_iadd cd63_189 rfl ?_
                      refine g_iload_n cd63_190 rfl rfl ?_
                      refine g_bipush cd63_191 rfl ?_
                      refine g_iadd cd63_193 rfl ?_
                      refine g_iload cd63_194 rfl rfl ?_
                      obtain ⟨x35, hx, h⟩ := bnd h
                      refine g_callVV (L := [some (.ref a0), some (.ref a1), some (.int (l2 + 1)), some (.int (l3 + 6)), some (.int (l4 + (I2 (a0 + 1) l3.toNatClampNeg))), none, none, none]) cd63_196 rfl rfl rfl rfl rfl (O7.o h0) (hR (by omega) h0 h1 hx) ?_
                      refine g_aload_n cd63_199 rfl rfl ?_
                      refine g_getP cd63_200 rfl (O7.o h0) (show P a0 1 = some (a0 + 2) from O7.p1 h0) ?_
                      refine g_iload_n cd63_203 rfl rfl ?_
                      refine g_dup2R cd63_204 rfl ?_
                      refine G_iald cd63_205 rfl (show S (a0 + 2) = (1, 36) from O7.s1 h0) hg3 ?_
                      refine g_iconst cd63_206 rfl ?_
                      refine g_isub cd63_207 rfl ?_
                      obtain ⟨I36, e1, h⟩ := bnd h
                      refine G_iast cd63_208 rfl (show S (a0 + 2) = (1, 36) from O7.s1 h0) hg3 (Option.some.inj e1) ?_
                      exact g_vret cd63_209 (by obtain rfl := Option.some.inj h; rfl)
            · have h := ifnE hb h
              exact g_vret cd63_90 (by obtain rfl := Option.some.inj h; rfl)
        · have h := ifnE hb h
          refine g_iconst cd63_46 rfl ?_
          refine g_iadd cd63_47 rfl ?_
          refine g_istore (ls2 := [some (.ref a0), some (.ref a1), some (.int l2), some (.int l3), some (.int l4), some (.int (l4 + 0)), none, none]) cd63_48 rfl rfl ?_
          refine g_iload_n cd63_50 rfl rfl ?_
          refine g_iconst cd63_51 rfl ?_
          refine g_iadd cd63_52 rfl ?_
          refine g_aload_n cd63_53 rfl rfl ?_
          refine g_getI cd63_54 rfl (O7.o h0) ?_
          refine g_icmp_ne cd63_57 rfl (fun hb => ?_) (fun hb => ?_)
          · have h := ifpE hb h
            refine g_aload_n cd63_60 rfl rfl ?_
            refine g_iload cd63_61 rfl rfl ?_
            obtain ⟨x37, hx, h⟩ := bnd h
            refine g_callVV (L := [some (.ref a0), some (.int (l4 + 0))]) cd63_63 rfl rfl rfl rfl rfl (O7.o h0) (t_Route_keepIfMore (by omega) h0 hx) ?_
            exact g_vret cd63_66 (by obtain rfl := Option.some.inj h; rfl)
          · have h := ifnE hb h
            refine g_iload cd63_67 rfl rfl ?_
            refine g_aload_n cd63_69 rfl rfl ?_
            refine g_getI cd63_70 rfl (O7.o h0) ?_
            refine g_aload_n cd63_73 rfl rfl ?_
            refine g_getI cd63_74 rfl (O7.o h0) ?_
            refine g_iload_n cd63_77 rfl rfl ?_
            refine g_isub cd63_78 rfl ?_
            refine g_iconst cd63_79 rfl ?_
            refine g_isub cd63_80 rfl ?_
            refine g_imul cd63_81 rfl ?_
            refine g_iadd cd63_82 rfl ?_
            refine g_aload_n cd63_83 rfl rfl ?_
            refine g_getI cd63_84 rfl (O7.o h0) ?_
            refine g_icmp_gt cd63_87 rfl (fun hb => ?_) (fun hb => ?_)
            · have h := ifpE hb h
              refine g_aload_n cd63_91 rfl rfl ?_
              refine g_getP cd63_92 rfl (O7.o h0) (show P a0 1 = some (a0 + 2) from O7.p1 h0) ?_
              refine g_iload_n cd63_95 rfl rfl ?_
              refine g_dup2R cd63_96 rfl ?_
              refine G_iald cd63_97 rfl (show S (a0 + 2) = (1, 36) from O7.s1 h0) hg3 ?_
              refine g_iconst cd63_98 rfl ?_
              refine g_iadd cd63_99 rfl ?_
              obtain ⟨I38, e1, h⟩ := bnd h
              refine G_iast cd63_100 rfl (show S (a0 + 2) = (1, 36) from O7.s1 h0) hg3 (Option.some.inj e1) ?_
              refine g_iload_n cd63_101 rfl rfl ?_
              refine g_bipush cd63_102 rfl ?_
              refine g_irem cd63_104 rfl (by decide) ?_
              refine g_istore (ls2 := [some (.ref a0), some (.ref a1), some (.int l2), some (.int l3), some (.int l4), some (.int (l4 + 0)), some (.int (l3 - l3 / 6 * 6)), none]) cd63_105 rfl rfl ?_
              refine g_iload_n cd63_107 rfl rfl ?_
              refine g_bipush cd63_108 rfl ?_
              refine g_idiv cd63_110 rfl (by decide) ?_
              refine g_istore (ls2 := [some (.ref a0), some (.ref a1), some (.int l2), some (.int l3), some (.int l4), some (.int (l4 + 0)), some (.int (l3 - l3 / 6 * 6)), some (.int (l3 / 6))]) cd63_111 rfl rfl ?_
              refine g_iload cd63_113 rfl rfl ?_
              refine g_if_le cd63_115 rfl (fun hb => ?_) (fun hb => ?_)
              · have h := ifpE hb h
                refine g_iload cd63_132 rfl rfl ?_
                refine g_if_le cd63_134 rfl (fun hb => ?_) (fun hb => ?_)
                · have h := ifpE hb h
                  refine g_iload cd63_150 rfl rfl ?_
                  refine g_iconst cd63_152 rfl ?_
                  refine g_iadd cd63_153 rfl ?_
                  refine g_aload_n cd63_154 rfl rfl ?_
                  refine g_getI cd63_155 rfl (O6.o h1) ?_
                  refine g_icmp_ge cd63_158 rfl (fun hb => ?_) (fun hb => ?_)
                  · have h := ifpE hb h
                    refine g_iload cd63_174 rfl rfl ?_
                    refine g_iconst cd63_176 rfl ?_
                    refine g_iadd cd63_177 rfl ?_
                    refine g_aload_n cd63_178 rfl rfl ?_
                    refine g_getI cd63_179 rfl (O6.o h1) ?_
                    refine g_icmp_ge cd63_182 rfl (fun hb => ?_) (fun hb => ?_)
                    · have h := ifpE hb h
                      refine g_aload_n cd63_199 rfl rfl ?_
                      refine g_getP cd63_200 rfl (O7.o h0) (show P a0 1 = some (a0 + 2) from O7.p1 h0) ?_
                      refine g_iload_n cd63_203 rfl rfl ?_
                      refine g_dup2R cd63_204 rfl ?_
                      refine G_iald cd63_205 rfl (show S (a0 + 2) = (1, 36) from O7.s1 h0) hg3 ?_
                      refine g_iconst cd63_206 rfl ?_
                      refine g_isub cd63_207 rfl ?_
                      obtain ⟨I39, e1, h⟩ := bnd h
                      refine G_iast cd63_208 rfl (show S (a0 + 2) = (1, 36) from O7.s1 h0) hg3 (Option.some.inj e1) ?_
                      exact g_vret cd63_209 (by obtain rfl := Option.some.inj h; rfl)
                    · have h := ifnE hb h
                      refine g_aload_n cd63_185 rfl rfl ?_
                      refine g_aload_n cd63_186 rfl rfl ?_
                      refine g_iload_n cd63_187 rfl rfl ?_
                      refine g_iconst cd63_188 rfl ?_
                      refine g_iadd cd63_189 rfl ?_
                      refine g_iload_n cd63_190 rfl rfl ?_
                      refine g_bipush cd63_191 rfl ?_
                      refine g_iadd cd63_193 rfl ?_
                      refine g_iload cd63_194 rfl rfl ?_
                      obtain ⟨x40, hx, h⟩ := bnd h
                      refine g_callVV (L := [some (.ref a0), some (.ref a1), some (.int (l2 + 1)), some (.int (l3 + 6)), some (.int (l4 + 0)), none, none, none]) cd63_196 rfl rfl rfl rfl rfl (O7.o h0) (hR (by omega) h0 h1 hx) ?_
                      refine g_aload_n cd63_199 rfl rfl ?_
                      refine g_getP cd63_200 rfl (O7.o h0) (show P a0 1 = some (a0 + 2) from O7.p1 h0) ?_
                      refine g_iload_n cd63_203 rfl rfl ?_
                      refine g_dup2R cd63_204 rfl ?_
                      refine G_iald cd63_205 rfl (show S (a0 + 2) = (1, 36) from O7.s1 h0) hg3 ?_
                      refine g_iconst cd63_206 rfl ?_
                      refine g_isub cd63_207 rfl ?_
                      obtain ⟨I41, e1, h⟩ := bnd h
                      refine G_iast cd63_208 rfl (show S (a0 + 2) = (1, 36) from O7.s1 h0) hg3 (Option.some.inj e1) ?_
                      exact g_vret cd63_209 (by obtain rfl := Option.some.inj h; rfl)
                  · have h := ifnE hb h
                    refine g_aload_n cd63_161 rfl rfl ?_
                    refine g_aload_n cd63_162 rfl rfl ?_
                    refine g_iload_n cd63_163 rfl rfl ?_
                    refine g_iconst cd63_164 rfl ?_
                    refine g_iadd cd63_165 rfl ?_
                    refine g_iload_n cd63_166 rfl rfl ?_
                    refine g_iconst cd63_167 rfl ?_
                    refine g_iadd cd63_168 rfl ?_
                    refine g_iload cd63_169 rfl rfl ?_
                    obtain ⟨x42, hx, h⟩ := bnd h
                    refine g_callVV (L := [some (.ref a0), some (.ref a1), some (.int (l2 + 1)), some (.int (l3 + 1)), some (.int (l4 + 0)), none, none, none]) cd63_171 rfl rfl rfl rfl rfl (O7.o h0) (hR (by omega) h0 h1 hx) ?_
                    refine g_iload cd63_174 rfl rfl ?_
                    refine g_iconst cd63_176 rfl ?_
                    refine g_iadd cd63_177 rfl ?_
                    refine g_aload_n cd63_178 rfl rfl ?_
                    refine g_getI cd63_179 rfl (O6.o h1) ?_
                    refine g_icmp_ge cd63_182 rfl (fun hb => ?_) (fun hb => ?_)
                    · have h := ifpE hb h
                      refine g_aload_n cd63_199 rfl rfl ?_
                      refine g_getP cd63_200 rfl (O7.o h0) (show P a0 1 = some (a0 + 2) from O7.p1 h0) ?_
                      refine g_iload_n cd63_203 rfl rfl ?_
                      refine g_dup2R cd63_204 rfl ?_
                      refine G_iald cd63_205 rfl (show S (a0 + 2) = (1, 36) from O7.s1 h0) hg3 ?_
                      refine g_iconst cd63_206 rfl ?_
                      refine g_isub cd63_207 rfl ?_
                      obtain ⟨I43, e1, h⟩ := bnd h
                      refine G_iast cd63_208 rfl (show S (a0 + 2) = (1, 36) from O7.s1 h0) hg3 (Option.some.inj e1) ?_
                      exact g_vret cd63_209 (by obtain rfl := Option.some.inj h; rfl)
                    · have h := ifnE hb h
                      refine g_aload_n cd63_185 rfl rfl ?_
                      refine g_aload_n cd63_186 rfl rfl ?_
                      refine g_iload_n cd63_187 rfl rfl ?_
                      refine g_iconst cd63_188 rfl ?_
                      refine g_iadd cd63_189 rfl ?_
                      refine g_iload_n cd63_190 rfl rfl ?_
                      refine g_bipush cd63_191 rfl ?_
                      refine g_iadd cd63_193 rfl ?_
                      refine g_iload cd63_194 rfl rfl ?_
                      obtain ⟨x44, hx, h⟩ := bnd h
                      refine g_callVV (L := [some (.ref a0), some (.ref a1), some (.int (l2 + 1)), some (.int (l3 + 6)), some (.int (l4 + 0)), none, none, none]) cd63_196 rfl rfl rfl rfl rfl (O7.o h0) (hR (by omega) h0 h1 hx) ?_
                      refine g_aload_n cd63_199 rfl rfl ?_
                      refine g_getP cd63_200 rfl (O7.o h0) (show P a0 1 = some (a0 + 2) from O7.p1 h0) ?_
                      refine g_iload_n cd63_203 rfl rfl ?_
                      refine g_dup2R cd63_204 rfl ?_
                      refine G_iald cd63_205 rfl (show S (a0 + 2) = (1, 36) from O7.s1 h0) hg3 ?_
                      refine g_iconst cd63_206 rfl ?_
                      refine g_isub cd63_207 rfl ?_
                      obtain ⟨I45, e1, h⟩ := bnd h
                      refine G_iast cd63_208 rfl (show S (a0 + 2) = (1, 36) from O7.s1 h0) hg3 (Option.some.inj e1) ?_
                      exact g_vret cd63_209 (by obtain rfl := Option.some.inj h; rfl)
                · have h := ifnE hb h
                  refine g_aload_n cd63_137 rfl rfl ?_
                  refine g_aload_n cd63_138 rfl rfl ?_
                  refine g_iload_n cd63_139 rfl rfl ?_
                  refine g_iconst cd63_140 rfl ?_
                  refine g_iadd cd63_141 rfl ?_
                  refine g_iload_n cd63_142 rfl rfl ?_
                  refine g_iconst cd63_143 rfl ?_
                  refine g_isub cd63_144 rfl ?_
                  refine g_iload cd63_145 rfl rfl ?_
                  obtain ⟨x46, hx, h⟩ := bnd h
                  refine g_callVV (L := [some (.ref a0), some (.ref a1), some (.int (l2 + 1)), some (.int (l3 - 1)), some (.int (l4 + 0)), none, none, none]) cd63_147 rfl rfl rfl rfl rfl (O7.o h0) (hR (by omega) h0 h1 hx) ?_
                  refine g_iload cd63_150 rfl rfl ?_
                  refine g_iconst cd63_152 rfl ?_
                  refine g_iadd cd63_153 rfl ?_
                  refine g_aload_n cd63_154 rfl rfl ?_
                  refine g_getI cd63_155 rfl (O6.o h1) ?_
                  refine g_icmp_ge cd63_158 rfl (fun hb => ?_) (fun hb => ?_)
                  · have h := ifpE hb h
                    refine g_iload cd63_174 rfl rfl ?_
                    refine g_iconst cd63_176 rfl ?_
                    refine g_iadd cd63_177 rfl ?_
                    refine g_aload_n cd63_178 rfl rfl ?_
                    refine g_getI cd63_179 rfl (O6.o h1) ?_
                    refine g_icmp_ge cd63_182 rfl (fun hb => ?_) (fun hb => ?_)
                    · have h := ifpE hb h
                      refine g_aload_n cd63_199 rfl rfl ?_
                      refine g_getP cd63_200 rfl (O7.o h0) (show P a0 1 = some (a0 + 2) from O7.p1 h0) ?_
                      refine g_iload_n cd63_203 rfl rfl ?_
                      refine g_dup2R cd63_204 rfl ?_
                      refine G_iald cd63_205 rfl (show S (a0 + 2) = (1, 36) from O7.s1 h0) hg3 ?_
                      refine g_iconst cd63_206 rfl ?_
                      refine g_isub cd63_207 rfl ?_
                      obtain ⟨I47, e1, h⟩ := bnd h
                      refine G_iast cd63_208 rfl (show S (a0 + 2) = (1, 36) from O7.s1 h0) hg3 (Option.some.inj e1) ?_
                      exact g_vret cd63_209 (by obtain rfl := Option.some.inj h; rfl)
                    · have h := ifnE hb h
                      refine g_aload_n cd63_185 rfl rfl ?_
                      refine g_aload_n cd63_186 rfl rfl ?_
                      refine g_iload_n cd63_187 rfl rfl ?_
                      refine g_iconst cd63_188 rfl ?_
                      refine g_iadd cd63_189 rfl ?_
                      refine g_iload_n cd63_190 rfl rfl ?_
                      refine g_bipush cd63_191 rfl ?_
                      refine g_iadd cd63_193 rfl ?_
                      refine g_iload cd63_194 rfl rfl ?_
                      obtain ⟨x48, hx, h⟩ := bnd h
                      refine g_callVV (L := [some (.ref a0), some (.ref a1), some (.int (l2 + 1)), some (.int (l3 + 6)), some (.int (l4 + 0)), none, none, none]) cd63_196 rfl rfl rfl rfl rfl (O7.o h0) (hR (by omega) h0 h1 hx) ?_
                      refine g_aload_n cd63_199 rfl rfl ?_
                      refine g_getP cd63_200 rfl (O7.o h0) (show P a0 1 = some (a0 + 2) from O7.p1 h0) ?_
                      refine g_iload_n cd63_203 rfl rfl ?_
                      refine g_dup2R cd63_204 rfl ?_
                      refine G_iald cd63_205 rfl (show S (a0 + 2) = (1, 36) from O7.s1 h0) hg3 ?_
                      refine g_iconst cd63_206 rfl ?_
                      refine g_isub cd63_207 rfl ?_
                      obtain ⟨I49, e1, h⟩ := bnd h
                      refine G_iast cd63_208 rfl (show S (a0 + 2) = (1, 36) from O7.s1 h0) hg3 (Option.some.inj e1) ?_
                      exact g_vret cd63_209 (by obtain rfl := Option.some.inj h; rfl)
                  · have h := ifnE hb h
                    refine g_aload_n cd63_161 rfl rfl ?_
                    refine g_aload_n cd63_162 rfl rfl ?_
                    refine g_iload_n cd63_163 rfl rfl ?_
                    refine g_iconst cd63_164 rfl ?_
                    refine g_iadd cd63_165 rfl ?_
                    refine g_iload_n cd63_166 rfl rfl ?_
                    refine g_iconst cd63_167 rfl ?_
                    refine g_iadd cd63_168 rfl ?_
                    refine g_iload cd63_169 rfl rfl ?_
                    obtain ⟨x50, hx, h⟩ := bnd h
                    refine g_callVV (L := [some (.ref a0), some (.ref a1), some (.int (l2 + 1)), some (.int (l3 + 1)), some (.int (l4 + 0)), none, none, none]) cd63_171 rfl rfl rfl rfl rfl (O7.o h0) (hR (by omega) h0 h1 hx) ?_
                    refine g_iload cd63_174 rfl rfl ?_
                    refine g_iconst cd63_176 rfl ?_
                    refine g_iadd cd63_177 rfl ?_
                    refine g_aload_n cd63_178 rfl rfl ?_
                    refine g_getI cd63_179 rfl (O6.o h1) ?_
                    refine g_icmp_ge cd63_182 rfl (fun hb => ?_) (fun hb => ?_)
                    · have h := ifpE hb h
                      refine g_aload_n cd63_199 rfl rfl ?_
                      refine g_getP cd63_200 rfl (O7.o h0) (show P a0 1 = some (a0 + 2) from O7.p1 h0) ?_
                      refine g_iload_n cd63_203 rfl rfl ?_
                      refine g_dup2R cd63_204 rfl ?_
                      refine G_iald cd63_205 rfl (show S (a0 + 2) = (1, 36) from O7.s1 h0) hg3 ?_
                      refine g_iconst cd63_206 rfl ?_
                      refine g_isub cd63_207 rfl ?_
                      obtain ⟨I51, e1, h⟩ := bnd h
                      refine G_iast cd63_208 rfl (show S (a0 + 2) = (1, 36) from O7.s1 h0) hg3 (Option.some.inj e1) ?_
                      exact g_vret cd63_209 (by obtain rfl := Option.some.inj h; rfl)
                    · have h := ifnE hb h
                      refine g_aload_n cd63_185 rfl rfl ?_
                      refine g_aload_n cd63_186 rfl rfl ?_
                      refine g_iload_n cd63_187 rfl rfl ?_
                      refine g_iconst cd63_188 rfl ?_
                      refine g_iadd cd63_189 rfl ?_
                      refine g_iload_n cd63_190 rfl rfl ?_
                      refine g_bipush cd63_191 rfl ?_
                      refine g_iadd cd63_193 rfl ?_
                      refine g_iload cd63_194 rfl rfl ?_
                      obtain ⟨x52, hx, h⟩ := bnd h
                      refine g_callVV (L := [some (.ref a0), some (.ref a1), some (.int (l2 + 1)), some (.int (l3 + 6)), some (.int (l4 + 0)), none, none, none]) cd63_196 rfl rfl rfl rfl rfl (O7.o h0) (hR (by omega) h0 h1 hx) ?_
                      refine g_aload_n cd63_199 rfl rfl ?_
                      refine g_getP cd63_200 rfl (O7.o h0) (show P a0 1 = some (a0 + 2) from O7.p1 h0) ?_
                      refine g_iload_n cd63_203 rfl rfl ?_
                      refine g_dup2R cd63_204 rfl ?_
                      refine G_iald cd63_205 rfl (show S (a0 + 2) = (1, 36) from O7.s1 h0) hg3 ?_
                      refine g_iconst cd63_206 rfl ?_
                      refine g_isub cd63_207 rfl ?_
                      obtain ⟨I53, e1, h⟩ := bnd h
                      refine G_iast cd63_208 rfl (show S (a0 + 2) = (1, 36) from O7.s1 h0) hg3 (Option.some.inj e1) ?_
                      exact g_vret cd63_209 (by obtain rfl := Option.some.inj h; rfl)
              · have h := ifnE hb h
                refine g_aload_n cd63_118 rfl rfl ?_
                refine g_aload_n cd63_119 rfl rfl ?_
                refine g_iload_n cd63_120 rfl rfl ?_
                refine g_iconst cd63_121 rfl ?_
                refine g_iadd cd63_122 rfl ?_
                refine g_iload_n cd63_123 rfl rfl ?_
                refine g_bipush cd63_124 rfl ?_
                refine g_isub cd63_126 rfl ?_
                refine g_iload cd63_127 rfl rfl ?_
                obtain ⟨x54, hx, h⟩ := bnd h
                refine g_callVV (L := [some (.ref a0), some (.ref a1), some (.int (l2 + 1)), some (.int (l3 - 6)), some (.int (l4 + 0)), none, none, none]) cd63_129 rfl rfl rfl rfl rfl (O7.o h0) (hR (by omega) h0 h1 hx) ?_
                refine g_iload cd63_132 rfl rfl ?_
                refine g_if_le cd63_134 rfl (fun hb => ?_) (fun hb => ?_)
                · have h := ifpE hb h
                  refine g_iload cd63_150 rfl rfl ?_
                  refine g_iconst cd63_152 rfl ?_
                  refine g_iadd cd63_153 rfl ?_
                  refine g_aload_n cd63_154 rfl rfl ?_
                  refine g_getI cd63_155 rfl (O6.o h1) ?_
                  refine g_icmp_ge cd63_158 rfl (fun hb => ?_) (fun hb => ?_)
                  · have h := ifpE hb h
                    refine g_iload cd63_174 rfl rfl ?_
                    refine g_iconst cd63_176 rfl ?_
                    refine g_iadd cd63_177 rfl ?_
                    refine g_aload_n cd63_178 rfl rfl ?_
                    refine g_getI cd63_179 rfl (O6.o h1) ?_
                    refine g_icmp_ge cd63_182 rfl (fun hb => ?_) (fun hb => ?_)
                    · have h := ifpE hb h
                      refine g_aload_n cd63_199 rfl rfl ?_
                      refine g_getP cd63_200 rfl (O7.o h0) (show P a0 1 = some (a0 + 2) from O7.p1 h0) ?_
                      refine g_iload_n cd63_203 rfl rfl ?_
                      refine g_dup2R cd63_204 rfl ?_
                      refine G_iald cd63_205 rfl (show S (a0 + 2) = (1, 36) from O7.s1 h0) hg3 ?_
                      refine g_iconst cd63_206 rfl ?_
                      refine g_isub cd63_207 rfl ?_
                      obtain ⟨I55, e1, h⟩ := bnd h
                      refine G_iast cd63_208 rfl (show S (a0 + 2) = (1, 36) from O7.s1 h0) hg3 (Option.some.inj e1) ?_
                      exact g_vret cd63_209 (by obtain rfl := Option.some.inj h; rfl)
                    · have h := ifnE hb h
                      refine g_aload_n cd63_185 rfl rfl ?_
                      refine g_aload_n cd63_186 rfl rfl ?_
                      refine g_iload_n cd63_187 rfl rfl ?_
                      refine g_iconst cd63_188 rfl ?_
                      refine g_iadd cd63_189 rfl ?_
                      refine g_iload_n cd63_190 rfl rfl ?_
                      refine g_bipush cd63_191 rfl ?_
                      refine g_iadd cd63_193 rfl ?_
                      refine g_iload cd63_194 rfl rfl ?_
                      obtain ⟨x56, hx, h⟩ := bnd h
                      refine g_callVV (L := [some (.ref a0), some (.ref a1), some (.int (l2 + 1)), some (.int (l3 + 6)), some (.int (l4 + 0)), none, none, none]) cd63_196 rfl rfl rfl rfl rfl (O7.o h0) (hR (by omega) h0 h1 hx) ?_
                      refine g_aload_n cd63_199 rfl rfl ?_
                      refine g_getP cd63_200 rfl (O7.o h0) (show P a0 1 = some (a0 + 2) from O7.p1 h0) ?_
                      refine g_iload_n cd63_203 rfl rfl ?_
                      refine g_dup2R cd63_204 rfl ?_
                      refine G_iald cd63_205 rfl (show S (a0 + 2) = (1, 36) from O7.s1 h0) hg3 ?_
                      refine g_iconst cd63_206 rfl ?_
                      refine g_isub cd63_207 rfl ?_
                      obtain ⟨I57, e1, h⟩ := bnd h
                      refine G_iast cd63_208 rfl (show S (a0 + 2) = (1, 36) from O7.s1 h0) hg3 (Option.some.inj e1) ?_
                      exact g_vret cd63_209 (by obtain rfl := Option.some.inj h; rfl)
                  · have h := ifnE hb h
                    refine g_aload_n cd63_161 rfl rfl ?_
                    refine g_aload_n cd63_162 rfl rfl ?_
                    refine g_iload_n cd63_163 rfl rfl ?_
                    refine g_iconst cd63_164 rfl ?_
                    refine g_iadd cd63_165 rfl ?_
                    refine g_iload_n cd63_166 rfl rfl ?_
                    refine g_iconst cd63_167 rfl ?_
                    refine g_iadd cd63_168 rfl ?_
                    refine g_iload cd63_169 rfl rfl ?_
                    obtain ⟨x58, hx, h⟩ := bnd h
                    refine g_callVV (L := [some (.ref a0), some (.ref a1), some (.int (l2 + 1)), some (.int (l3 + 1)), some (.int (l4 + 0)), none, none, none]) cd63_171 rfl rfl rfl rfl rfl (O7.o h0) (hR (by omega) h0 h1 hx) ?_
                    refine g_iload cd63_174 rfl rfl ?_
                    refine g_iconst cd63_176 rfl ?_
                    refine g_iadd cd63_177 rfl ?_
                    refine g_aload_n cd63_178 rfl rfl ?_
                    refine g_getI cd63_179 rfl (O6.o h1) ?_
                    refine g_icmp_ge cd63_182 rfl (fun hb => ?_) (fun hb => ?_)
                    · have h := ifpE hb h
                      refine g_aload_n cd63_199 rfl rfl ?_
                      refine g_getP cd63_200 rfl (O7.o h0) (show P a0 1 = some (a0 + 2) from O7.p1 h0) ?_
                      refine g_iload_n cd63_203 rfl rfl ?_
                      refine g_dup2R cd63_204 rfl ?_
                      refine G_iald cd63_205 rfl (show S (a0 + 2) = (1, 36) from O7.s1 h0) hg3 ?_
                      refine g_iconst cd63_206 rfl ?_
                      refine g_isub cd63_207 rfl ?_
                      obtain ⟨I59, e1, h⟩ := bnd h
                      refine G_iast cd63_208 rfl (show S (a0 + 2) = (1, 36) from O7.s1 h0) hg3 (Option.some.inj e1) ?_
                      exact g_vret cd63_209 (by obtain rfl := Option.some.inj h; rfl)
                    · have h := ifnE hb h
                      refine g_aload_n cd63_185 rfl rfl ?_
                      refine g_aload_n cd63_186 rfl rfl ?_
                      refine g_iload_n cd63_187 rfl rfl ?_
                      refine g_iconst cd63_188 rfl ?_
                      refine g_iadd cd63_189 rfl ?_
                      refine g_iload_n cd63_190 rfl rfl ?_
                      refine g_bipush cd63_191 rfl ?_
                      refine g_iadd cd63_193 rfl ?_
                      refine g_iload cd63_194 rfl rfl ?_
                      obtain ⟨x60, hx, h⟩ := bnd h
                      refine g_callVV (L := [some (.ref a0), some (.ref a1), some (.int (l2 + 1)), some (.int (l3 + 6)), some (.int (l4 + 0)), none, none, none]) cd63_196 rfl rfl rfl rfl rfl (O7.o h0) (hR (by omega) h0 h1 hx) ?_
                      refine g_aload_n cd63_199 rfl rfl ?_
                      refine g_getP cd63_200 rfl (O7.o h0) (show P a0 1 = some (a0 + 2) from O7.p1 h0) ?_
                      refine g_iload_n cd63_203 rfl rfl ?_
                      refine g_dup2R cd63_204 rfl ?_
                      refine G_iald cd63_205 rfl (show S (a0 + 2) = (1, 36) from O7.s1 h0) hg3 ?_
                      refine g_iconst cd63_206 rfl ?_
                      refine g_isub cd63_207 rfl ?_
                      obtain ⟨I61, e1, h⟩ := bnd h
                      refine G_iast cd63_208 rfl (show S (a0 + 2) = (1, 36) from O7.s1 h0) hg3 (Option.some.inj e1) ?_
                      exact g_vret cd63_209 (by obtain rfl := Option.some.inj h; rfl)
                · have h := ifnE hb h
                  refine g_aload_n cd63_137 rfl rfl ?_
                  refine g_aload_n cd63_138 rfl rfl ?_
                  refine g_iload_n cd63_139 rfl rfl ?_
                  refine g_iconst cd63_140 rfl ?_
                  refine g_iadd cd63_141 rfl ?_
                  refine g_iload_n cd63_142 rfl rfl ?_
                  refine g_iconst cd63_143 rfl ?_
                  refine g_isub cd63_144 rfl ?_
                  refine g_iload cd63_145 rfl rfl ?_
                  obtain ⟨x62, hx, h⟩ := bnd h
                  refine g_callVV (L := [some (.ref a0), some (.ref a1), some (.int (l2 + 1)), some (.int (l3 - 1)), some (.int (l4 + 0)), none, none, none]) cd63_147 rfl rfl rfl rfl rfl (O7.o h0) (hR (by omega) h0 h1 hx) ?_
                  refine g_iload cd63_150 rfl rfl ?_
                  refine g_iconst cd63_152 rfl ?_
                  refine g_iadd cd63_153 rfl ?_
                  refine g_aload_n cd63_154 rfl rfl ?_
                  refine g_getI cd63_155 rfl (O6.o h1) ?_
                  refine g_icmp_ge cd63_158 rfl (fun hb => ?_) (fun hb => ?_)
                  · have h := ifpE hb h
                    refine g_iload cd63_174 rfl rfl ?_
                    refine g_iconst cd63_176 rfl ?_
                    refine g_iadd cd63_177 rfl ?_
                    refine g_aload_n cd63_178 rfl rfl ?_
                    refine g_getI cd63_179 rfl (O6.o h1) ?_
                    refine g_icmp_ge cd63_182 rfl (fun hb => ?_) (fun hb => ?_)
                    · have h := ifpE hb h
                      refine g_aload_n cd63_199 rfl rfl ?_
                      refine g_getP cd63_200 rfl (O7.o h0) (show P a0 1 = some (a0 + 2) from O7.p1 h0) ?_
                      refine g_iload_n cd63_203 rfl rfl ?_
                      refine g_dup2R cd63_204 rfl ?_
                      refine G_iald cd63_205 rfl (show S (a0 + 2) = (1, 36) from O7.s1 h0) hg3 ?_
                      refine g_iconst cd63_206 rfl ?_
                      refine g_isub cd63_207 rfl ?_
                      obtain ⟨I63, e1, h⟩ := bnd h
                      refine G_iast cd63_208 rfl (show S (a0 + 2) = (1, 36) from O7.s1 h0) hg3 (Option.some.inj e1) ?_
                      exact g_vret cd63_209 (by obtain rfl := Option.some.inj h; rfl)
                    · have h := ifnE hb h
                      refine g_aload_n cd63_185 rfl rfl ?_
                      refine g_aload_n cd63_186 rfl rfl ?_
                      refine g_iload_n cd63_187 rfl rfl ?_
                      refine g_iconst cd63_188 rfl ?_
                      refine g_iadd cd63_189 rfl ?_
                      refine g_iload_n cd63_190 rfl rfl ?_
                      refine g_bipush cd63_191 rfl ?_
                      refine g_iadd cd63_193 rfl ?_
                      refine g_iload cd63_194 rfl rfl ?_
                      obtain ⟨x64, hx, h⟩ := bnd h
                      refine g_callVV (L := [some (.ref a0), some (.ref a1), some (.int (l2 + 1)), some (.int (l3 + 6)), some (.int (l4 + 0)), none, none, none]) cd63_196 rfl rfl rfl rfl rfl (O7.o h0) (hR (by omega) h0 h1 hx) ?_
                      refine g_aload_n cd63_199 rfl rfl ?_
                      refine g_getP cd63_200 rfl (O7.o h0) (show P a0 1 = some (a0 + 2) from O7.p1 h0) ?_
                      refine g_iload_n cd63_203 rfl rfl ?_
                      refine g_dup2R cd63_204 rfl ?_
                      refine G_iald cd63_205 rfl (show S (a0 + 2) = (1, 36) from O7.s1 h0) hg3 ?_
                      refine g_iconst cd63_206 rfl ?_
                      refine g_isub cd63_207 rfl ?_
                      obtain ⟨I65, e1, h⟩ := bnd h
                      refine G_iast cd63_208 rfl (show S (a0 + 2) = (1, 36) from O7.s1 h0) hg3 (Option.some.inj e1) ?_
                      exact g_vret cd63_209 (by obtain rfl := Option.some.inj h; rfl)
                  · have h := ifnE hb h
                    refine g_aload_n cd63_161 rfl rfl ?_
                    refine g_aload_n cd63_162 rfl rfl ?_
                    refine g_iload_n cd63_163 rfl rfl ?_
                    refine g_iconst cd63_164 rfl ?_
                    refine g_iadd cd63_165 rfl ?_
                    refine g_iload_n cd63_166 rfl rfl ?_
                    refine g_iconst cd63_167 rfl ?_
                    refine g_iadd cd63_168 rfl ?_
                    refine g_iload cd63_169 rfl rfl ?_
                    obtain ⟨x66, hx, h⟩ := bnd h
                    refine g_callVV (L := [some (.ref a0), some (.ref a1), some (.int (l2 + 1)), some (.int (l3 + 1)), some (.int (l4 + 0)), none, none, none]) cd63_171 rfl rfl rfl rfl rfl (O7.o h0) (hR (by omega) h0 h1 hx) ?_
                    refine g_iload cd63_174 rfl rfl ?_
                    refine g_iconst cd63_176 rfl ?_
                    refine g_iadd cd63_177 rfl ?_
                    refine g_aload_n cd63_178 rfl rfl ?_
                    refine g_getI cd63_179 rfl (O6.o h1) ?_
                    refine g_icmp_ge cd63_182 rfl (fun hb => ?_) (fun hb => ?_)
                    · have h := ifpE hb h
                      refine g_aload_n cd63_199 rfl rfl ?_
                      refine g_getP cd63_200 rfl (O7.o h0) (show P a0 1 = some (a0 + 2) from O7.p1 h0) ?_
                      refine g_iload_n cd63_203 rfl rfl ?_
                      refine g_dup2R cd63_204 rfl ?_
                      refine G_iald cd63_205 rfl (show S (a0 + 2) = (1, 36) from O7.s1 h0) hg3 ?_
                      refine g_iconst cd63_206 rfl ?_
                      refine g_isub cd63_207 rfl ?_
                      obtain ⟨I67, e1, h⟩ := bnd h
                      refine G_iast cd63_208 rfl (show S (a0 + 2) = (1, 36) from O7.s1 h0) hg3 (Option.some.inj e1) ?_
                      exact g_vret cd63_209 (by obtain rfl := Option.some.inj h; rfl)
                    · have h := ifnE hb h
                      refine g_aload_n cd63_185 rfl rfl ?_
                      refine g_aload_n cd63_186 rfl rfl ?_
                      refine g_iload_n cd63_187 rfl rfl ?_
                      refine g_iconst cd63_188 rfl ?_
                      refine g_iadd cd63_189 rfl ?_
                      refine g_iload_n cd63_190 rfl rfl ?_
                      refine g_bipush cd63_191 rfl ?_
                      refine g_iadd cd63_193 rfl ?_
                      refine g_iload cd63_194 rfl rfl ?_
                      obtain ⟨x68, hx, h⟩ := bnd h
                      refine g_callVV (L := [some (.ref a0), some (.ref a1), some (.int (l2 + 1)), some (.int (l3 + 6)), some (.int (l4 + 0)), none, none, none]) cd63_196 rfl rfl rfl rfl rfl (O7.o h0) (hR (by omega) h0 h1 hx) ?_
                      refine g_aload_n cd63_199 rfl rfl ?_
                      refine g_getP cd63_200 rfl (O7.o h0) (show P a0 1 = some (a0 + 2) from O7.p1 h0) ?_
                      refine g_iload_n cd63_203 rfl rfl ?_
                      refine g_dup2R cd63_204 rfl ?_
                      refine G_iald cd63_205 rfl (show S (a0 + 2) = (1, 36) from O7.s1 h0) hg3 ?_
                      refine g_iconst cd63_206 rfl ?_
                      refine g_isub cd63_207 rfl ?_
                      obtain ⟨I69, e1, h⟩ := bnd h
                      refine G_iast cd63_208 rfl (show S (a0 + 2) = (1, 36) from O7.s1 h0) hg3 (Option.some.inj e1) ?_
                      exact g_vret cd63_209 (by obtain rfl := Option.some.inj h; rfl)
            · have h := ifnE hb h
              exact g_vret cd63_90 (by obtain rfl := Option.some.inj h; rfl)
      · have h := ifnE hb h
        exact g_vret cd63_18 (by obtain rfl := Option.some.inj h; rfl)
set_option maxRecDepth 8000 in
theorem t_Route_walk_R {N : Nat} {c : Nat × Nat} {S : Nat → Nat × Nat} {P : Nat → Nat → Option Nat} : ∀ (k D : Nat), 2 * k ≤ D → ∀ {d : Nat} {a0 a1 : Nat} {l2 : Int32} {l3 : Int32} {l4 : Int32} {I : FI} {J : FJ} {r : FI}, D ≤ d → O7 S P a0 → O6 S P a1 → Route_walk_R N k a0 a1 l2 l3 l4 I = some r → Go d M_Route_walk 0 [some (.ref a0), some (.ref a1), some (.int l2), some (.int l3), some (.int l4), none, none, none] [] (c, S, I, J, P) (none, false, (c, S, r, J, P)) := by
  intro k
  induction k with
  | zero =>
    intro D hD d a0 a1 l2 l3 l4 I J r hd h0 h1 h
    cases h
  | succ k ih =>
    intro D hD d a0 a1 l2 l3 l4 I J r hd h0 h1 h
    exact t_Route_walk (D := 2 * k) (N := N) (by omega) (ih (2 * k) (Nat.le_refl _)) h0 h1 h

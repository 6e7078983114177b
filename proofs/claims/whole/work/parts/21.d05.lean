/-! HiddenOrLost$Sentence.copy(LHiddenOrLost$Sentence;)V -/
theorem cd79_0 : code9 79 0 = some (0, .aload_n 1, [1], .null, []) := rfl
theorem cd79_1 : code9 79 1 = some (0, .getfield 11, [3, 8, 0, 2], .null, []) := rfl
theorem cd79_4 : code9 79 4 = some (0, .iconst 0, [1], .int 0, []) := rfl
theorem cd79_5 : code9 79 5 = some (0, .aload_n 0, [1], .null, []) := rfl
theorem cd79_6 : code9 79 6 = some (0, .getfield 11, [3, 8, 0, 2], .null, []) := rfl
theorem cd79_9 : code9 79 9 = some (0, .iconst 0, [1], .int 0, []) := rfl
theorem cd79_10 : code9 79 10 = some (0, .aload_n 0, [1], .null, []) := rfl
theorem cd79_11 : code9 79 11 = some (0, .getfield 11, [3, 8, 0, 2], .null, []) := rfl
theorem cd79_14 : code9 79 14 = some (0, .arraylength, [1], .null, []) := rfl
theorem cd79_15 : code9 79 15 = some (0, .invokestatic 31, [3, 2], .null, []) := rfl
theorem cd79_18 : code9 79 18 = some (0, .aload_n 1, [1], .null, []) := rfl
theorem cd79_19 : code9 79 19 = some (0, .getfield 15, [3, 8, 1, 2], .null, []) := rfl
theorem cd79_22 : code9 79 22 = some (0, .iconst 0, [1], .int 0, []) := rfl
theorem cd79_23 : code9 79 23 = some (0, .aload_n 0, [1], .null, []) := rfl
theorem cd79_24 : code9 79 24 = some (0, .getfield 15, [3, 8, 1, 2], .null, []) := rfl
theorem cd79_27 : code9 79 27 = some (0, .iconst 0, [1], .int 0, []) := rfl
theorem cd79_28 : code9 79 28 = some (0, .aload_n 0, [1], .null, []) := rfl
theorem cd79_29 : code9 79 29 = some (0, .getfield 15, [3, 8, 1, 2], .null, []) := rfl
theorem cd79_32 : code9 79 32 = some (0, .arraylength, [1], .null, []) := rfl
theorem cd79_33 : code9 79 33 = some (0, .invokestatic 31, [3, 2], .null, []) := rfl
theorem cd79_36 : code9 79 36 = some (0, .aload_n 1, [1], .null, []) := rfl
theorem cd79_37 : code9 79 37 = some (0, .getfield 18, [3, 8, 2, 2], .null, []) := rfl
theorem cd79_40 : code9 79 40 = some (0, .iconst 0, [1], .int 0, []) := rfl
theorem cd79_41 : code9 79 41 = some (0, .aload_n 0, [1], .null, []) := rfl
theorem cd79_42 : code9 79 42 = some (0, .getfield 18, [3, 8, 2, 2], .null, []) := rfl
theorem cd79_45 : code9 79 45 = some (0, .iconst 0, [1], .int 0, []) := rfl
theorem cd79_46 : code9 79 46 = some (0, .aload_n 0, [1], .null, []) := rfl
theorem cd79_47 : code9 79 47 = some (0, .getfield 18, [3, 8, 2, 2], .null, []) := rfl
theorem cd79_50 : code9 79 50 = some (0, .arraylength, [1], .null, []) := rfl
theorem cd79_51 : code9 79 51 = some (0, .invokestatic 31, [3, 2], .null, []) := rfl
theorem cd79_54 : code9 79 54 = some (0, .aload_n 0, [1], .null, []) := rfl
theorem cd79_55 : code9 79 55 = some (0, .aload_n 1, [1], .null, []) := rfl
theorem cd79_56 : code9 79 56 = some (0, .getfield 24, [3, 8, 4, 0], .null, []) := rfl
theorem cd79_59 : code9 79 59 = some (0, .putfield 24, [3, 8, 4, 0], .null, []) := rfl
theorem cd79_62 : code9 79 62 = some (0, .aload_n 0, [1], .null, []) := rfl
theorem cd79_63 : code9 79 63 = some (0, .aload_n 1, [1], .null, []) := rfl
theorem cd79_64 : code9 79 64 = some (0, .getfield 28, [3, 8, 5, 0], .null, []) := rfl
theorem cd79_67 : code9 79 67 = some (0, .putfield 28, [3, 8, 5, 0], .null, []) := rfl
theorem cd79_70 : code9 79 70 = some (0, .return_, [1], .null, []) := rfl
def Sentence_copy (a0 a1 : Nat) (I : FI) : Option (FI) := if (a1 + 1) ≠ (a0 + 1) then (Option.bind (some (cp2 I (a1 + 1) ((0 : Int32).toNatClampNeg) (a0 + 1) ((0 : Int32).toNatClampNeg) ((Int32.ofNat 40).toNatClampNeg))) fun I2 => (if (a1 + 2) ≠ (a0 + 2) then (Option.bind (some (cp2 I2 (a1 + 2) ((0 : Int32).toNatClampNeg) (a0 + 2) ((0 : Int32).toNatClampNeg) ((Int32.ofNat 40).toNatClampNeg))) fun I4 => (if (a1 + 3) ≠ (a0 + 3) then (Option.bind (some (cp2 I4 (a1 + 3) ((0 : Int32).toNatClampNeg) (a0 + 3) ((0 : Int32).toNatClampNeg) ((Int32.ofNat 40).toNatClampNeg))) fun I6 => (Option.bind (some (up2 I6 a0 4 (I6 a1 4))) fun I7 => (Option.bind (some (up2 I7 a0 5 (I7 a1 5))) fun I8 => (some I8)))) else none)) else none)) else none
set_option maxRecDepth 8000 in
theorem t_Sentence_copy {d : Nat} {a0 a1 : Nat} {c : Nat × Nat} {S : Nat → Nat × Nat} {P : Nat → Nat → Option Nat} {I : FI} {J : FJ} {r : FI} (hd : 1 ≤ d) (h0 : O8 S P a0) (h1 : O8 S P a1) (h : Sentence_copy a0 a1 I = some r) : Go d M_Sentence_copy 0 [some (.ref a0), some (.ref a1)] [] (c, S, I, J, P) (none, false, (c, S, r, J, P)) := by
  obtain ⟨d, rfl⟩ : ∃ e, d = e + 1 := ⟨d - 1, by omega⟩
  unfold Sentence_copy at h
  refine g_aload_n cd79_0 rfl rfl ?_
  refine g_getP cd79_1 rfl (O8.o h1) (show P a1 0 = some (a1 + 1) from O8.p0 h1) ?_
  refine g_iconst cd79_4 rfl ?_
  refine g_aload_n cd79_5 rfl rfl ?_
  refine g_getP cd79_6 rfl (O8.o h0) (show P a0 0 = some (a0 + 1) from O8.p0 h0) ?_
  refine g_iconst cd79_9 rfl ?_
  refine g_aload_n cd79_10 rfl rfl ?_
  refine g_getP cd79_11 rfl (O8.o h0) (show P a0 0 = some (a0 + 1) from O8.p0 h0) ?_
  refine G_alen cd79_14 rfl (show S (a0 + 1) = (1, 40) from O8.s0 h0) (by decide) ?_
  obtain ⟨hg1, h⟩ := grd h
  obtain ⟨I2, e1, h⟩ := bnd h
  refine G_cpyI cd79_15 rfl (Nat.succ_ne_zero _) (show S (a1 + 1) = (1, 40) from O8.s0 h1) (show S (a0 + 1) = (1, 40) from O8.s0 h0) hg1 (by decide) rfl (Option.some.inj e1) ?_
  refine g_aload_n cd79_18 rfl rfl ?_
  refine g_getP cd79_19 rfl (O8.o h1) (show P a1 1 = some (a1 + 2) from O8.p1 h1) ?_
  refine g_iconst cd79_22 rfl ?_
  refine g_aload_n cd79_23 rfl rfl ?_
  refine g_getP cd79_24 rfl (O8.o h0) (show P a0 1 = some (a0 + 2) from O8.p1 h0) ?_
  refine g_iconst cd79_27 rfl ?_
  refine g_aload_n cd79_28 rfl rfl ?_
  refine g_getP cd79_29 rfl (O8.o h0) (show P a0 1 = some (a0 + 2) from O8.p1 h0) ?_
  refine G_alen cd79_32 rfl (show S (a0 + 2) = (1, 40) from O8.s1 h0) (by decide) ?_
  obtain ⟨hg3, h⟩ := grd h
  obtain ⟨I4, e1, h⟩ := bnd h
  refine G_cpyI cd79_33 rfl (Nat.succ_ne_zero _) (show S (a1 + 2) = (1, 40) from O8.s1 h1) (show S (a0 + 2) = (1, 40) from O8.s1 h0) hg3 (by decide) rfl (Option.some.inj e1) ?_
  refine g_aload_n cd79_36 rfl rfl ?_
  refine g_getP cd79_37 rfl (O8.o h1) (show P a1 2 = some (a1 + 3) from O8.p2 h1) ?_
  refine g_iconst cd79_40 rfl ?_
  refine g_aload_n cd79_41 rfl rfl ?_
  refine g_getP cd79_42 rfl (O8.o h0) (show P a0 2 = some (a0 + 3) from O8.p2 h0) ?_
  refine g_iconst cd79_45 rfl ?_
  refine g_aload_n cd79_46 rfl rfl ?_
  refine g_getP cd79_47 rfl (O8.o h0) (show P a0 2 = some (a0 + 3) from O8.p2 h0) ?_
  refine G_alen cd79_50 rfl (show S (a0 + 3) = (1, 40) from O8.s2 h0) (by decide) ?_
  obtain ⟨hg5, h⟩ := grd h
  obtain ⟨I6, e1, h⟩ := bnd h
  refine G_cpyI cd79_51 rfl (Nat.succ_ne_zero _) (show S (a1 + 3) = (1, 40) from O8.s2 h1) (show S (a0 + 3) = (1, 40) from O8.s2 h0) hg5 (by decide) rfl (Option.some.inj e1) ?_
  refine g_aload_n cd79_54 rfl rfl ?_
  refine g_aload_n cd79_55 rfl rfl ?_
  refine g_getI cd79_56 rfl (O8.o h1) ?_
  obtain ⟨I7, e1, h⟩ := bnd h
  refine G_putI cd79_59 rfl (O8.o h0) (Option.some.inj e1) ?_
  refine g_aload_n cd79_62 rfl rfl ?_
  refine g_aload_n cd79_63 rfl rfl ?_
  refine g_getI cd79_64 rfl (O8.o h1) ?_
  obtain ⟨I8, e1, h⟩ := bnd h
  refine G_putI cd79_67 rfl (O8.o h0) (Option.some.inj e1) ?_
  exact g_vret cd79_70 (by obtain rfl := Option.some.inj h; rfl)
/-! HiddenOrLost$State.begin(LHiddenOrLost$Land;)V -/
theorem cd81_0 : code9 81 0 = some (0, .iconst 0, [1], .int 0, []) := rfl
theorem cd81_1 : code9 81 1 = some (0, .istore_n 2, [1], .null, []) := rfl
theorem cd81_2 : code9 81 2 = some (4, .iload_n 2, [1], .null, []) := rfl
theorem cd81_3 : code9 81 3 = some (0, .aload_n 1, [1], .null, []) := rfl
theorem cd81_4 : code9 81 4 = some (0, .getfield 46, [3, 6, 12, 0], .null, []) := rfl
theorem cd81_7 : code9 81 7 = some (0, .if_icmp .ge 45, [3, 52], .null, []) := rfl
theorem cd81_10 : code9 81 10 = some (0, .aload_n 0, [1], .null, []) := rfl
theorem cd81_11 : code9 81 11 = some (0, .getfield 9, [3, 9, 0, 2], .null, []) := rfl
theorem cd81_14 : code9 81 14 = some (0, .iload_n 2, [1], .null, []) := rfl
theorem cd81_15 : code9 81 15 = some (0, .aload_n 1, [1], .null, []) := rfl
theorem cd81_16 : code9 81 16 = some (0, .iload_n 2, [1], .null, []) := rfl
theorem cd81_17 : code9 81 17 = some (0, .iconst 1, [1], .int 1, []) := rfl
theorem cd81_18 : code9 81 18 = some (0, .invokevirtual 51, [3, 51, 3, 1, 1, 3, 6, 0], .null, []) := rfl
theorem cd81_21 : code9 81 21 = some (0, .iastore, [1], .null, []) := rfl
theorem cd81_22 : code9 81 22 = some (0, .aload_n 0, [1], .null, []) := rfl
theorem cd81_23 : code9 81 23 = some (0, .getfield 15, [3, 9, 1, 2], .null, []) := rfl
theorem cd81_26 : code9 81 26 = some (0, .iload_n 2, [1], .null, []) := rfl
theorem cd81_27 : code9 81 27 = some (0, .aload_n 1, [1], .null, []) := rfl
theorem cd81_28 : code9 81 28 = some (0, .iload_n 2, [1], .null, []) := rfl
theorem cd81_29 : code9 81 29 = some (0, .iconst 2, [1], .int 2, []) := rfl
theorem cd81_30 : code9 81 30 = some (0, .invokevirtual 51, [3, 51, 3, 1, 1, 3, 6, 0], .null, []) := rfl
theorem cd81_33 : code9 81 33 = some (0, .iastore, [1], .null, []) := rfl
theorem cd81_34 : code9 81 34 = some (0, .aload_n 0, [1], .null, []) := rfl
theorem cd81_35 : code9 81 35 = some (0, .getfield 18, [3, 9, 2, 2], .null, []) := rfl
theorem cd81_38 : code9 81 38 = some (0, .iload_n 2, [1], .null, []) := rfl
theorem cd81_39 : code9 81 39 = some (0, .aload_n 1, [1], .null, []) := rfl
theorem cd81_40 : code9 81 40 = some (0, .iload_n 2, [1], .null, []) := rfl
theorem cd81_41 : code9 81 41 = some (0, .iconst 3, [1], .int 3, []) := rfl
theorem cd81_42 : code9 81 42 = some (0, .invokevirtual 51, [3, 51, 3, 1, 1, 3, 6, 0], .null, []) := rfl
theorem cd81_45 : code9 81 45 = some (0, .iastore, [1], .null, []) := rfl
theorem cd81_46 : code9 81 46 = some (0, .iinc 2 1, [3], .int 1, []) := rfl
theorem cd81_49 : code9 81 49 = some (0, .goto (-47), [3, 2, 3], .null, []) := rfl
theorem cd81_52 : code9 81 52 = some (0, .aload_n 0, [1], .null, []) := rfl
theorem cd81_53 : code9 81 53 = some (0, .getfield 21, [3, 9, 3, 2], .null, []) := rfl
theorem cd81_56 : code9 81 56 = some (0, .iconst 0, [1], .int 0, []) := rfl
theorem cd81_57 : code9 81 57 = some (0, .invokestatic 55, [3, 299, 2, 0, 0, 4, 17, 0], .null, []) := rfl
theorem cd81_60 : code9 81 60 = some (0, .aload_n 0, [1], .null, []) := rfl
theorem cd81_61 : code9 81 61 = some (0, .getfield 24, [3, 9, 4, 2], .null, []) := rfl
theorem cd81_64 : code9 81 64 = some (0, .iconst (-1), [1], .int (-1), []) := rfl
theorem cd81_65 : code9 81 65 = some (0, .invokestatic 55, [3, 299, 2, 0, 0, 4, 17, 0], .null, []) := rfl
theorem cd81_68 : code9 81 68 = some (0, .aload_n 0, [1], .null, []) := rfl
theorem cd81_69 : code9 81 69 = some (0, .getfield 27, [3, 9, 5, 2], .null, []) := rfl
theorem cd81_72 : code9 81 72 = some (0, .iconst 0, [1], .int 0, []) := rfl
theorem cd81_73 : code9 81 73 = some (0, .invokestatic 55, [3, 299, 2, 0, 0, 4, 17, 0], .null, []) := rfl
theorem cd81_76 : code9 81 76 = some (0, .aload_n 0, [1], .null, []) := rfl
theorem cd81_77 : code9 81 77 = some (0, .getfield 30, [3, 9, 6, 2], .null, []) := rfl
theorem cd81_80 : code9 81 80 = some (0, .iconst 0, [1], .int 0, []) := rfl
theorem cd81_81 : code9 81 81 = some (0, .invokestatic 55, [3, 299, 2, 0, 0, 4, 17, 0], .null, []) := rfl
theorem cd81_84 : code9 81 84 = some (0, .aload_n 0, [1], .null, []) := rfl
theorem cd81_85 : code9 81 85 = some (0, .getfield 33, [3, 9, 7, 2], .null, []) := rfl
theorem cd81_88 : code9 81 88 = some (0, .iconst 0, [1], .int 0, []) := rfl
theorem cd81_89 : code9 81 89 = some (0, .invokestatic 55, [3, 299, 2, 0, 0, 4, 17, 0], .null, []) := rfl
theorem cd81_92 : code9 81 92 = some (0, .aload_n 0, [1], .null, []) := rfl
theorem cd81_93 : code9 81 93 = some (0, .getfield 36, [3, 9, 8, 2], .null, []) := rfl
theorem cd81_96 : code9 81 96 = some (0, .iconst 0, [1], .int 0, []) := rfl
theorem cd81_97 : code9 81 97 = some (0, .invokestatic 55, [3, 299, 2, 0, 0, 4, 17, 0], .null, []) := rfl
theorem cd81_100 : code9 81 100 = some (0, .aload_n 0, [1], .null, []) := rfl
theorem cd81_101 : code9 81 101 = some (0, .iconst 0, [1], .int 0, []) := rfl
theorem cd81_102 : code9 81 102 = some (0, .putfield 39, [3, 9, 9, 0], .null, []) := rfl
theorem cd81_105 : code9 81 105 = some (0, .aload_n 0, [1], .null, []) := rfl
theorem cd81_106 : code9 81 106 = some (0, .iconst 0, [1], .int 0, []) := rfl
theorem cd81_107 : code9 81 107 = some (0, .putfield 43, [3, 9, 10, 0], .null, []) := rfl
theorem cd81_110 : code9 81 110 = some (0, .return_, [1], .null, []) := rfl
def State_begin_2 (N : Nat) (a0 a1 : Nat) : Nat → Int32 → FI → Option (FI)
  | 0 => fun _ _ => none
  | n + 1 => fun l2 I => if (I a1 12) ≤ l2 then (Option.bind (Arrays_fill N (a0 + 4) 10 0 I) fun x1 => (Option.bind (Arrays_fill N (a0 + 5) 10 (-1) x1) fun x2 => (Option.bind (Arrays_fill N (a0 + 6) 6 0 x2) fun x3 => (Option.bind (Arrays_fill N (a0 + 7) 6 0 x3) fun x4 => (Option.bind (Arrays_fill N (a0 + 8) 6 0 x4) fun x5 => (Option.bind (Arrays_fill N (a0 + 9) 36 0 x5) fun x6 => (Option.bind (some (up2 x6 a0 9 (0 : Int32))) fun I7 => (Option.bind (some (up2 I7 a0 10 (0 : Int32))) fun I8 => (some I8))))))))) else (Option.bind (Land_factOf a1 l2 1 I) fun x9 => (if in9 l2 10 then (Option.bind (some (up2 I (a0 + 1) l2.toNatClampNeg x9)) fun I11 => (Option.bind (Land_factOf a1 l2 2 I11) fun x12 => (Option.bind (some (up2 I11 (a0 + 2) l2.toNatClampNeg x12)) fun I13 => (Option.bind (Land_factOf a1 l2 3 I13) fun x14 => (Option.bind (some (up2 I13 (a0 + 3) l2.toNatClampNeg x14)) fun I15 => (State_begin_2 N a0 a1 n (l2 + 1) I15)))))) else none))
def State_begin (N : Nat) (a0 a1 : Nat) (I : FI) : Option (FI) := State_begin_2 N a0 a1 N 0 I
set_option maxRecDepth 8000 in
theorem t_State_begin_2 {d : Nat} {N : Nat} {a0 a1 : Nat} {c : Nat × Nat} {S : Nat → Nat × Nat} {P : Nat → Nat → Option Nat} {r : FI} (hd : 1 ≤ (d + 1)) (h0 : O9 S P a0) (h1 : O6 S P a1) : ∀ (n : Nat) (l2 : Int32) (I : FI) (J : FJ), State_begin_2 N a0 a1 n l2 I = some r → Go (d + 1) M_State_begin 2 [some (.ref a0), some (.ref a1), some (.int l2)] [] (c, S, I, J, P) (none, false, (c, S, r, J, P)) := by
  intro n
  induction n with
  | zero =>
    intro l2 I J h
    cases h
  | succ n ih =>
    intro l2 I J h
    unfold State_begin_2 at h
    refine g_iload_n cd81_2 rfl rfl ?_
    refine g_aload_n cd81_3 rfl rfl ?_
    refine g_getI cd81_4 rfl (O6.o h1) ?_
    refine g_icmp_ge cd81_7 rfl (fun hb => ?_) (fun hb => ?_)
    · have h := ifpE hb h
      refine g_aload_n cd81_52 rfl rfl ?_
      refine g_getP cd81_53 rfl (O9.o h0) (show P a0 3 = some (a0 + 4) from O9.p3 h0) ?_
      refine g_iconst cd81_56 rfl ?_
      obtain ⟨x1, hx, h⟩ := bnd h
      refine g_callSV (L := [some (.ref (a0 + 4)), some (.int 0), none, none]) cd81_57 rfl rfl rfl rfl rfl (t_Arrays_fill (by omega) (show S (a0 + 4) = (1, 10) from O9.s3 h0) hx) ?_
      refine g_aload_n cd81_60 rfl rfl ?_
      refine g_getP cd81_61 rfl (O9.o h0) (show P a0 4 = some (a0 + 5) from O9.p4 h0) ?_
      refine g_iconst cd81_64 rfl ?_
      obtain ⟨x2, hx, h⟩ := bnd h
      refine g_callSV (L := [some (.ref (a0 + 5)), some (.int (-1)), none, none]) cd81_65 rfl rfl rfl rfl rfl (t_Arrays_fill (by omega) (show S (a0 + 5) = (1, 10) from O9.s4 h0) hx) ?_
      refine g_aload_n cd81_68 rfl rfl ?_
      refine g_getP cd81_69 rfl (O9.o h0) (show P a0 5 = some (a0 + 6) from O9.p5 h0) ?_
      refine g_iconst cd81_72 rfl ?_
      obtain ⟨x3, hx, h⟩ := bnd h
      refine g_callSV (L := [some (.ref (a0 + 6)), some (.int 0), none, none]) cd81_73 rfl rfl rfl rfl rfl (t_Arrays_fill (by omega) (show S (a0 + 6) = (1, 6) from O9.s5 h0) hx) ?_
      refine g_aload_n cd81_76 rfl rfl ?_
      refine g_getP cd81_77 rfl (O9.o h0) (show P a0 6 = some (a0 + 7) from O9.p6 h0) ?_
      refine g_iconst cd81_80 rfl ?_
      obtain ⟨x4, hx, h⟩ := bnd h
      refine g_callSV (L := [some (.ref (a0 + 7)), some (.int 0), none, none]) cd81_81 rfl rfl rfl rfl rfl (t_Arrays_fill (by omega) (show S (a0 + 7) = (1, 6) from O9.s6 h0) hx) ?_
      refine g_aload_n cd81_84 rfl rfl ?_
      refine g_getP cd81_85 rfl (O9.o h0) (show P a0 7 = some (a0 + 8) from O9.p7 h0) ?_
      refine g_iconst cd81_88 rfl ?_
      obtain ⟨x5, hx, h⟩ := bnd h
      refine g_callSV (L := [some (.ref (a0 + 8)), some (.int 0), none, none]) cd81_89 rfl rfl rfl rfl rfl (t_Arrays_fill (by omega) (show S (a0 + 8) = (1, 6) from O9.s7 h0) hx) ?_
      refine g_aload_n cd81_92 rfl rfl ?_
      refine g_getP cd81_93 rfl (O9.o h0) (show P a0 8 = some (a0 + 9) from O9.p8 h0) ?_
      refine g_iconst cd81_96 rfl ?_
      obtain ⟨x6, hx, h⟩ := bnd h
      refine g_callSV (L := [some (.ref (a0 + 9)), some (.int 0), none, none]) cd81_97 rfl rfl rfl rfl rfl (t_Arrays_fill (by omega) (show S (a0 + 9) = (1, 36) from O9.s8 h0) hx) ?_
      refine g_aload_n cd81_100 rfl rfl ?_
      refine g_iconst cd81_101 rfl ?_
      obtain ⟨I7, e1, h⟩ := bnd h
      refine G_putI cd81_102 rfl (O9.o h0) (Option.some.inj e1) ?_
      refine g_aload_n cd81_105 rfl rfl ?_
      refine g_iconst cd81_106 rfl ?_
      obtain ⟨I8, e1, h⟩ := bnd h
      refine G_putI cd81_107 rfl (O9.o h0) (Option.some.inj e1) ?_
      exact g_vret cd81_110 (by obtain rfl := Option.some.inj h; rfl)
    · have h := ifnE hb h
      refine g_aload_n cd81_10 rfl rfl ?_
      refine g_getP cd81_11 rfl (O9.o h0) (show P a0 0 = some (a0 + 1) from O9.p0 h0) ?_
      refine g_iload_n cd81_14 rfl rfl ?_
      refine g_aload_n cd81_15 rfl rfl ?_
      refine g_iload_n cd81_16 rfl rfl ?_
      refine g_iconst cd81_17 rfl ?_
      obtain ⟨x9, hx, h⟩ := bnd h
      refine g_callVI (L := [some (.ref a1), some (.int l2), some (.int 1)]) cd81_18 rfl rfl rfl rfl rfl (O6.o h1) (t_Land_factOf (by omega) h1 hx) ?_
      obtain ⟨hg10, h⟩ := grd h
      obtain ⟨I11, e1, h⟩ := bnd h
      refine G_iast cd81_21 rfl (show S (a0 + 1) = (1, 10) from O9.s0 h0) hg10 (Option.some.inj e1) ?_
      refine g_aload_n cd81_22 rfl rfl ?_
      refine g_getP cd81_23 rfl (O9.o h0) (show P a0 1 = some (a0 + 2) from O9.p1 h0) ?_
      refine g_iload_n cd81_26 rfl rfl ?_
      refine g_aload_n cd81_27 rfl rfl ?_
      refine g_iload_n cd81_28 rfl rfl ?_
      refine g_iconst cd81_29 rfl ?_
      obtain ⟨x12, hx, h⟩ := bnd h
      refine g_callVI (L := [some (.ref a1), some (.int l2), some (.int 2)]) cd81_30 rfl rfl rfl rfl rfl (O6.o h1) (t_Land_factOf (by omega) h1 hx) ?_
      obtain ⟨I13, e1, h⟩ := bnd h
      refine G_iast cd81_33 rfl (show S (a0 + 2) = (1, 10) from O9.s1 h0) hg10 (Option.some.inj e1) ?_
      refine g_aload_n cd81_34 rfl rfl ?_
      refine g_getP cd81_35 rfl (O9.o h0) (show P a0 2 = some (a0 + 3) from O9.p2 h0) ?_
      refine g_iload_n cd81_38 rfl rfl ?_
      refine g_aload_n cd81_39 rfl rfl ?_
      refine g_iload_n cd81_40 rfl rfl ?_
      refine g_iconst cd81_41 rfl ?_
      obtain ⟨x14, hx, h⟩ := bnd h
      refine g_callVI (L := [some (.ref a1), some (.int l2), some (.int 3)]) cd81_42 rfl rfl rfl rfl rfl (O6.o h1) (t_Land_factOf (by omega) h1 hx) ?_
      obtain ⟨I15, e1, h⟩ := bnd h
      refine G_iast cd81_45 rfl (show S (a0 + 3) = (1, 10) from O9.s2 h0) hg10 (Option.some.inj e1) ?_
      refine g_iinc (ls2 := [some (.ref a0), some (.ref a1), some (.int (l2 + 1))]) cd81_46 rfl rfl rfl ?_
      refine g_goto (ls2 := [some (.ref a0), some (.ref a1), some (.int (l2 + 1))]) cd81_49 rfl rfl ?_
      exact ih (l2 + 1) I15 J h
set_option maxRecDepth 8000 in
theorem t_State_begin {d : Nat} {N : Nat} {a0 a1 : Nat} {c : Nat × Nat} {S : Nat → Nat × Nat} {P : Nat → Nat → Option Nat} {I : FI} {J : FJ} {r : FI} (hd : 1 ≤ d) (h0 : O9 S P a0) (h1 : O6 S P a1) (h : State_begin N a0 a1 I = some r) : Go d M_State_begin 0 [some (.ref a0), some (.ref a1), none] [] (c, S, I, J, P) (none, false, (c, S, r, J, P)) := by
  obtain ⟨d, rfl⟩ : ∃ e, d = e + 1 := ⟨d - 1, by omega⟩
  unfold State_begin at h
  refine g_iconst cd81_0 rfl ?_
  refine g_istore_n (ls2 := [some (.ref a0), some (.ref a1), some (.int 0)]) cd81_1 rfl rfl ?_
  exact t_State_begin_2 hd h0 h1 _ 0 I J h
/-! HiddenOrLost$State.hadBy(LHiddenOrLost$Land;I)I -/
theorem cd82_0 : code9 82 0 = some (0, .iconst 0, [1], .int 0, []) := rfl
theorem cd82_1 : code9 82 1 = some (0, .istore_n 3, [1], .null, []) := rfl
theorem cd82_2 : code9 82 2 = some (0, .iconst 0, [1], .int 0, []) := rfl
theorem cd82_3 : code9 82 3 = some (0, .istore 4, [2], .null, []) := rfl
theorem cd82_5 : code9 82 5 = some (6, .iload 4, [2], .null, []) := rfl
theorem cd82_7 : code9 82 7 = some (0, .aload_n 1, [1], .null, []) := rfl
theorem cd82_8 : code9 82 8 = some (0, .getfield 46, [3, 6, 12, 0], .null, []) := rfl
theorem cd82_11 : code9 82 11 = some (0, .if_icmp .ge 38, [3, 49], .null, []) := rfl
theorem cd82_14 : code9 82 14 = some (0, .aload_n 0, [1], .null, []) := rfl
theorem cd82_15 : code9 82 15 = some (0, .getfield 21, [3, 9, 3, 2], .null, []) := rfl
theorem cd82_18 : code9 82 18 = some (0, .iload 4, [2], .null, []) := rfl
theorem cd82_20 : code9 82 20 = some (0, .iaload, [1], .null, []) := rfl
theorem cd82_21 : code9 82 21 = some (0, .iconst 1, [1], .int 1, []) := rfl
theorem cd82_22 : code9 82 22 = some (0, .if_icmp .ne 21, [3, 43], .null, []) := rfl
theorem cd82_25 : code9 82 25 = some (0, .aload_n 0, [1], .null, []) := rfl
theorem cd82_26 : code9 82 26 = some (0, .getfield 24, [3, 9, 4, 2], .null, []) := rfl
theorem cd82_29 : code9 82 29 = some (0, .iload 4, [2], .null, []) := rfl
theorem cd82_31 : code9 82 31 = some (0, .iaload, [1], .null, []) := rfl
theorem cd82_32 : code9 82 32 = some (0, .iload_n 2, [1], .null, []) := rfl
theorem cd82_33 : code9 82 33 = some (0, .if_icmp .ne 10, [3, 43], .null, []) := rfl
theorem cd82_36 : code9 82 36 = some (0, .iload_n 3, [1], .null, []) := rfl
theorem cd82_37 : code9 82 37 = some (0, .iconst 1, [1], .int 1, []) := rfl
theorem cd82_38 : code9 82 38 = some (0, .iload 4, [2], .null, []) := rfl
theorem cd82_40 : code9 82 40 = some (0, .ishl, [1], .null, []) := rfl
theorem cd82_41 : code9 82 41 = some (0, .ior, [1], .null, []) := rfl
theorem cd82_42 : code9 82 42 = some (0, .istore_n 3, [1], .null, []) := rfl
theorem cd82_43 : code9 82 43 = some (6, .iinc 4 1, [3], .int 1, []) := rfl
theorem cd82_46 : code9 82 46 = some (0, .goto (-41), [3, 5, 5], .null, []) := rfl
theorem cd82_49 : code9 82 49 = some (0, .iload_n 3, [1], .null, []) := rfl
theorem cd82_50 : code9 82 50 = some (0, .ireturn, [1, 1], .null, []) := rfl
def State_hadBy_5 (N : Nat) (a0 a1 : Nat) : Nat → Int32 → Int32 → Int32 → FI → Option (Int32)
  | 0 => fun _ _ _ _ => none
  | n + 1 => fun l2 l3 l4 I => if (I a1 12) ≤ l4 then (some l3) else (if in9 l4 10 then (if (I (a0 + 4) l4.toNatClampNeg) = 1 then (if (I (a0 + 5) l4.toNatClampNeg) = l2 then (State_hadBy_5 N a0 a1 n l2 (l3 ||| (1 <<< (l4 &&& 31))) (l4 + 1) I) else (State_hadBy_5 N a0 a1 n l2 l3 (l4 + 1) I)) else (State_hadBy_5 N a0 a1 n l2 l3 (l4 + 1) I)) else none)
def State_hadBy (N : Nat) (a0 a1 : Nat) (l2 : Int32) (I : FI) : Option (Int32) := State_hadBy_5 N a0 a1 N l2 0 0 I
set_option maxRecDepth 8000 in
theorem t_State_hadBy_5 {d : Nat} {N : Nat} {a0 a1 : Nat} {c : Nat × Nat} {S : Nat → Nat × Nat} {P : Nat → Nat → Option Nat} {r : Int32} (hd : 0 ≤ d) (h0 : O9 S P a0) (h1 : O6 S P a1) : ∀ (n : Nat) (l2 : Int32) (l3 : Int32) (l4 : Int32) (I : FI) (J : FJ), State_hadBy_5 N a0 a1 n l2 l3 l4 I = some r → Go d M_State_hadBy 5 [some (.ref a0), some (.ref a1), some (.int l2), some (.int l3), some (.int l4)] [] (c, S, I, J, P) (some (.int r), false, (c, S, I, J, P)) := by
  intro n
  induction n with
  | zero =>
    intro l2 l3 l4 I J h
    cases h
  | succ n ih =>
    intro l2 l3 l4 I J h
    unfold State_hadBy_5 at h
    refine g_iload cd82_5 rfl rfl ?_
    refine g_aload_n cd82_7 rfl rfl ?_
    refine g_getI cd82_8 rfl (O6.o h1) ?_
    refine g_icmp_ge cd82_11 rfl (fun hb => ?_) (fun hb => ?_)
    · have h := ifpE hb h
      refine g_iload_n cd82_49 rfl rfl ?_
      exact g_iret cd82_50 (Or.inl rfl) (by obtain rfl := Option.some.inj h; rfl)
    · have h := ifnE hb h
      refine g_aload_n cd82_14 rfl rfl ?_
      refine g_getP cd82_15 rfl (O9.o h0) (show P a0 3 = some (a0 + 4) from O9.p3 h0) ?_
      refine g_iload cd82_18 rfl rfl ?_
      obtain ⟨hg1, h⟩ := grd h
      refine G_iald cd82_20 rfl (show S (a0 + 4) = (1, 10) from O9.s3 h0) hg1 ?_
      refine g_iconst cd82_21 rfl ?_
      refine g_icmp_ne cd82_22 rfl (fun hb => ?_) (fun hb => ?_)
      · have h := ifpE hb h
        refine g_aload_n cd82_25 rfl rfl ?_
        refine g_getP cd82_26 rfl (O9.o h0) (show P a0 4 = some (a0 + 5) from O9.p4 h0) ?_
        refine g_iload cd82_29 rfl rfl ?_
        refine G_iald cd82_31 rfl (show S (a0 + 5) = (1, 10) from O9.s4 h0) hg1 ?_
        refine g_iload_n cd82_32 rfl rfl ?_
        refine g_icmp_ne cd82_33 rfl (fun hb => ?_) (fun hb => ?_)
        · have h := ifpE hb h
          refine g_iload_n cd82_36 rfl rfl ?_
          refine g_iconst cd82_37 rfl ?_
          refine g_iload cd82_38 rfl rfl ?_
          refine g_ishl cd82_40 rfl ?_
          refine g_ior cd82_41 rfl ?_
          refine g_istore_n (ls2 := [some (.ref a0), some (.ref a1), some (.int l2), some (.int (l3 ||| (1 <<< (l4 &&& 31)))), some (.int l4)]) cd82_42 rfl rfl ?_
          refine g_iinc (ls2 := [some (.ref a0), some (.ref a1), some (.int l2), some (.int (l3 ||| (1 <<< (l4 &&& 31)))), some (.int (l4 + 1))]) cd82_43 rfl rfl rfl ?_
          refine g_goto (ls2 := [some (.ref a0), some (.ref a1), some (.int l2), some (.int (l3 ||| (1 <<< (l4 &&& 31)))), some (.int (l4 + 1))]) cd82_46 rfl rfl ?_
          exact ih l2 (l3 ||| (1 <<< (l4 &&& 31))) (l4 + 1) I J h
        · have h := ifnE hb h
          refine g_iinc (ls2 := [some (.ref a0), some (.ref a1), some (.int l2), some (.int l3), some (.int (l4 + 1))]) cd82_43 rfl rfl rfl ?_
          refine g_goto (ls2 := [some (.ref a0), some (.ref a1), some (.int l2), some (.int l3), some (.int (l4 + 1))]) cd82_46 rfl rfl ?_
          exact ih l2 l3 (l4 + 1) I J h
      · have h := ifnE hb h
        refine g_iinc (ls2 := [some (.ref a0), some (.ref a1), some (.int l2), some (.int l3), some (.int (l4 + 1))]) cd82_43 rfl rfl rfl ?_
        refine g_goto (ls2 := [some (.ref a0), some (.ref a1), some (.int l2), some (.int l3), some (.int (l4 + 1))]) cd82_46 rfl rfl ?_
        exact ih l2 l3 (l4 + 1) I J h
set_option maxRecDepth 8000 in
theorem t_State_hadBy {d : Nat} {N : Nat} {a0 a1 : Nat} {c : Nat × Nat} {S : Nat → Nat × Nat} {P : Nat → Nat → Option Nat} {I : FI} {J : FJ} {l2 : Int32} {r : Int32} (hd : 0 ≤ d) (h0 : O9 S P a0) (h1 : O6 S P a1) (h : State_hadBy N a0 a1 l2 I = some r) : Go d M_State_hadBy 0 [some (.ref a0), some (.ref a1), some (.int l2), none, none] [] (c, S, I, J, P) (some (.int r), false, (c, S, I, J, P)) := by
  unfold State_hadBy at h
  refine g_iconst cd82_0 rfl ?_
  refine g_istore_n (ls2 := [some (.ref a0), some (.ref a1), some (.int l2), some (.int 0), none]) cd82_1 rfl rfl ?_
  refine g_iconst cd82_2 rfl ?_
  refine g_istore (ls2 := [some (.ref a0), some (.ref a1), some (.int l2), some (.int 0), some (.int 0)]) cd82_3 rfl rfl ?_
  exact t_State_hadBy_5 hd h0 h1 _ l2 0 0 I J h
/-! HiddenOrLost$State.inGroundOf(LHiddenOrLost$Land;II)I -/
theorem cd83_0 : code9 83 0 = some (0, .iconst 0, [1], .int 0, []) := rfl
theorem cd83_1 : code9 83 1 = some (0, .istore 4, [2], .null, []) := rfl
theorem cd83_3 : code9 83 3 = some (0, .iconst 0, [1], .int 0, []) := rfl
theorem cd83_4 : code9 83 4 = some (0, .istore 5, [2], .null, []) := rfl
theorem cd83_6 : code9 83 6 = some (7, .iload 5, [2], .null, []) := rfl
theorem cd83_8 : code9 83 8 = some (0, .aload_n 1, [1], .null, []) := rfl
theorem cd83_9 : code9 83 9 = some (0, .getfield 46, [3, 6, 12, 0], .null, []) := rfl
theorem cd83_12 : code9 83 12 = some (0, .if_icmp .ge 50, [3, 62], .null, []) := rfl
theorem cd83_15 : code9 83 15 = some (0, .aload_n 0, [1], .null, []) := rfl
theorem cd83_16 : code9 83 16 = some (0, .getfield 21, [3, 9, 3, 2], .null, []) := rfl
theorem cd83_19 : code9 83 19 = some (0, .iload 5, [2], .null, []) := rfl
theorem cd83_21 : code9 83 21 = some (0, .iaload, [1], .null, []) := rfl
theorem cd83_22 : code9 83 22 = some (0, .ifCond .ne 34, [3, 56], .null, []) := rfl
theorem cd83_25 : code9 83 25 = some (0, .aload_n 0, [1], .null, []) := rfl
theorem cd83_26 : code9 83 26 = some (0, .getfield 9, [3, 9, 0, 2], .null, []) := rfl
theorem cd83_29 : code9 83 29 = some (0, .iload 5, [2], .null, []) := rfl
theorem cd83_31 : code9 83 31 = some (0, .iaload, [1], .null, []) := rfl
theorem cd83_32 : code9 83 32 = some (0, .iload_n 2, [1], .null, []) := rfl
theorem cd83_33 : code9 83 33 = some (0, .if_icmp .ne 23, [3, 56], .null, []) := rfl
theorem cd83_36 : code9 83 36 = some (0, .aload_n 0, [1], .null, []) := rfl
theorem cd83_37 : code9 83 37 = some (0, .getfield 15, [3, 9, 1, 2], .null, []) := rfl
theorem cd83_40 : code9 83 40 = some (0, .iload 5, [2], .null, []) := rfl
theorem cd83_42 : code9 83 42 = some (0, .iaload, [1], .null, []) := rfl
theorem cd83_43 : code9 83 43 = some (0, .iload_n 3, [1], .null, []) := rfl
theorem cd83_44 : code9 83 44 = some (0, .if_icmp .ne 12, [3, 56], .null, []) := rfl
theorem cd83_47 : code9 83 47 = some (0, .iload 4, [2], .null, []) := rfl
theorem cd83_49 : code9 83 49 = some (0, .iconst 1, [1], .int 1, []) := rfl
theorem cd83_50 : code9 83 50 = some (0, .iload 5, [2], .null, []) := rfl
theorem cd83_52 : code9 83 52 = some (0, .ishl, [1], .null, []) := rfl
theorem cd83_53 : code9 83 53 = some (0, .ior, [1], .null, []) := rfl
theorem cd83_54 : code9 83 54 = some (0, .istore 4, [2], .null, []) := rfl
theorem cd83_56 : code9 83 56 = some (7, .iinc 5 1, [3], .int 1, []) := rfl
theorem cd83_59 : code9 83 59 = some (0, .goto (-53), [3, 6, 6], .null, []) := rfl
theorem cd83_62 : code9 83 62 = some (0, .iload 4, [2], .null, []) := rfl
theorem cd83_64 : code9 83 64 = some (0, .ireturn, [1, 1], .null, []) := rfl
def State_inGroundOf_6 (N : Nat) (a0 a1 : Nat) : Nat → Int32 → Int32 → Int32 → Int32 → FI → Option (Int32)
  | 0 => fun _ _ _ _ _ => none
  | n + 1 => fun l2 l3 l4 l5 I => if (I a1 12) ≤ l5 then (some l4) else (if in9 l5 10 then (if (I (a0 + 4) l5.toNatClampNeg) = 0 then (if (I (a0 + 1) l5.toNatClampNeg) = l2 then (if (I (a0 + 2) l5.toNatClampNeg) = l3 then (State_inGroundOf_6 N a0 a1 n l2 l3 (l4 ||| (1 <<< (l5 &&& 31))) (l5 + 1) I) else (State_inGroundOf_6 N a0 a1 n l2 l3 l4 (l5 + 1) I)) else (State_inGroundOf_6 N a0 a1 n l2 l3 l4 (l5 + 1) I)) else (State_inGroundOf_6 N a0 a1 n l2 l3 l4 (l5 + 1) I)) else none)
def State_inGroundOf (N : Nat) (a0 a1 : Nat) (l2 : Int32) (l3 : Int32) (I : FI) : Option (Int32) := State_inGroundOf_6 N a0 a1 N l2 l3 0 0 I
set_option maxRecDepth 8000 in
theorem t_State_inGroundOf_6 {d : Nat} {N : Nat} {a0 a1 : Nat} {c : Nat × Nat} {S : Nat → Nat × Nat} {P : Nat → Nat → Option Nat} {r : Int32} (hd : 0 ≤ d) (h0 : O9 S P a0) (h1 : O6 S P a1) : ∀ (n : Nat) (l2 : Int32) (l3 : Int32) (l4 : Int32) (l5 : Int32) (I : FI) (J : FJ), State_inGroundOf_6 N a0 a1 n l2 l3 l4 l5 I = some r → Go d M_State_inGroundOf 6 [some (.ref a0), some (.ref a1), some (.int l2), some (.int l3), some (.int l4), some (.int l5)] [] (c, S, I, J, P) (some (.int r), false, (c, S, I, J, P)) := by
  intro n
  induction n with
  | zero =>
    intro l2 l3 l4 l5 I J h
    cases h
  | succ n ih =>
    intro l2 l3 l4 l5 I J h
    unfold State_inGroundOf_6 at h
    refine g_iload cd83_6 rfl rfl ?_
    refine g_aload_n cd83_8 rfl rfl ?_
    refine g_getI cd83_9 rfl (O6.o h1) ?_
    refine g_icmp_ge cd83_12 rfl (fun hb => ?_) (fun hb => ?_)
    · have h := ifpE hb h
      refine g_iload cd83_62 rfl rfl ?_
      exact g_iret cd83_64 (Or.inl rfl) (by obtain rfl := Option.some.inj h; rfl)
    · have h := ifnE hb h
      refine g_aload_n cd83_15 rfl rfl ?_
      refine g_getP cd83_16 rfl (O9.o h0) (show P a0 3 = some (a0 + 4) from O9.p3 h0) ?_
      refine g_iload cd83_19 rfl rfl ?_
      obtain ⟨hg1, h⟩ := grd h
      refine G_iald cd83_21 rfl (show S (a0 + 4) = (1, 10) from O9.s3 h0) hg1 ?_
      refine g_if_ne cd83_22 rfl (fun hb => ?_) (fun hb => ?_)
      · have h := ifpE hb h
        refine g_aload_n cd83_25 rfl rfl ?_
        refine g_getP cd83_26 rfl (O9.o h0) (show P a0 0 = some (a0 + 1) from O9.p0 h0) ?_
        refine g_iload cd83_29 rfl rfl ?_
        refine G_iald cd83_31 rfl (show S (a0 + 1) = (1, 10) from O9.s0 h0) hg1 ?_
        refine g_iload_n cd83_32 rfl rfl ?_
        refine g_icmp_ne cd83_33 rfl (fun hb => ?_) (fun hb => ?_)
        · have h := ifpE hb h
          refine g_aload_n cd83_36 rfl rfl ?_
          refine g_getP cd83_37 rfl (O9.o h0) (show P a0 1 = some (a0 + 2) from O9.p1 h0) ?_
          refine g_iload cd83_40 rfl rfl ?_
          refine G_iald cd83_42 rfl (show S (a0 + 2) = (1, 10) from O9.s1 h0) hg1 ?_
          refine g_iload_n cd83_43 rfl rfl ?_
          refine g_icmp_ne cd83_44 rfl (fun hb => ?_) (fun hb => ?_)
          · have h := ifpE hb h
            refine g_iload cd83_47 rfl rfl ?_
            refine g_iconst cd83_49 rfl ?_
            refine g_iload cd83_50 rfl rfl ?_
            refine g_ishl cd83_52 rfl ?_
            refine g_ior cd83_53 rfl ?_
            refine g_istore (ls2 := [some (.ref a0), some (.ref a1), some (.int l2), some (.int l3), some (.int (l4 ||| (1 <<< (l5 &&& 31)))), some (.int l5)]) cd83_54 rfl rfl ?_
            refine g_iinc (ls2 := [some (.ref a0), some (.ref a1), some (.int l2), some (.int l3), some (.int (l4 ||| (1 <<< (l5 &&& 31)))), some (.int (l5 + 1))]) cd83_56 rfl rfl rfl ?_
            refine g_goto (ls2 := [some (.ref a0), some (.ref a1), some (.int l2), some (.int l3), some (.int (l4 ||| (1 <<< (l5 &&& 31)))), some (.int (l5 + 1))]) cd83_59 rfl rfl ?_
            exact ih l2 l3 (l4 ||| (1 <<< (l5 &&& 31))) (l5 + 1) I J h
          · have h := ifnE hb h
            refine g_iinc (ls2 := [some (.ref a0), some (.ref a1), some (.int l2), some (.int l3), some (.int l4), some (.int (l5 + 1))]) cd83_56 rfl rfl rfl ?_
            refine g_goto (ls2 := [some (.ref a0), some (.ref a1), some (.int l2), some (.int l3), some (.int l4), some (.int (l5 + 1))]) cd83_59 rfl rfl ?_
            exact ih l2 l3 l4 (l5 + 1) I J h
        · have h := ifnE hb h
          refine g_iinc (ls2 := [some (.ref a0), some (.ref a1), some (.int l2), some (.int l3), some (.int l4), some (.int (l5 + 1))]) cd83_56 rfl rfl rfl ?_
          refine g_goto (ls2 := [some (.ref a0), some (.ref a1), some (.int l2), some (.int l3), some (.int l4), some (.int (l5 + 1))]) cd83_59 rfl rfl ?_
          exact ih l2 l3 l4 (l5 + 1) I J h
      · have h := ifnE hb h
        refine g_iinc (ls2 := [some (.ref a0), some (.ref a1), some (.int l2), some (.int l3), some (.int l4), some (.int (l5 + 1))]) cd83_56 rfl rfl rfl ?_
        refine g_goto (ls2 := [some (.ref a0), some (.ref a1), some (.int l2), some (.int l3), some (.int l4), some (.int (l5 + 1))]) cd83_59 rfl rfl ?_
        exact ih l2 l3 l4 (l5 + 1) I J h
set_option maxRecDepth 8000 in
theorem t_State_inGroundOf {d : Nat} {N : Nat} {a0 a1 : Nat} {c : Nat × Nat} {S : Nat → Nat × Nat} {P : Nat → Nat → Option Nat} {I : FI} {J : FJ} {l2 : Int32} {l3 : Int32} {r : Int32} (hd : 0 ≤ d) (h0 : O9 S P a0) (h1 : O6 S P a1) (h : State_inGroundOf N a0 a1 l2 l3 I = some r) : Go d M_State_inGroundOf 0 [some (.ref a0), some (.ref a1), some (.int l2), some (.int l3), none, none] [] (c, S, I, J, P) (some (.int r), false, (c, S, I, J, P)) := by
  unfold State_inGroundOf at h
  refine g_iconst cd83_0 rfl ?_
  refine g_istore (ls2 := [some (.ref a0), some (.ref a1), some (.int l2), some (.int l3), some (.int 0), none]) cd83_1 rfl rfl ?_
  refine g_iconst cd83_3 rfl ?_
  refine g_istore (ls2 := [some (.ref a0), some (.ref a1), some (.int l2), some (.int l3), some (.int 0), some (.int 0)]) cd83_4 rfl rfl ?_
  exact t_State_inGroundOf_6 hd h0 h1 _ l2 l3 0 0 I J h
/-! HiddenOrLost$State.bitsOf(LHiddenOrLost$Land;I)I -/
theorem cd86_0 : code9 86 0 = some (0, .iconst 0, [1], .int 0, []) := rfl
theorem cd86_1 : code9 86 1 = some (0, .istore_n 3, [1], .null, []) := rfl
theorem cd86_2 : code9 86 2 = some (0, .iconst 0, [1], .int 0, []) := rfl
theorem cd86_3 : code9 86 3 = some (0, .istore 4, [2], .null, []) := rfl
theorem cd86_5 : code9 86 5 = some (6, .iload 4, [2], .null, []) := rfl
theorem cd86_7 : code9 86 7 = some (0, .aload_n 1, [1], .null, []) := rfl
theorem cd86_8 : code9 86 8 = some (0, .getfield 46, [3, 6, 12, 0], .null, []) := rfl
theorem cd86_11 : code9 86 11 = some (0, .if_icmp .ge 27, [3, 38], .null, []) := rfl
theorem cd86_14 : code9 86 14 = some (0, .aload_n 0, [1], .null, []) := rfl
theorem cd86_15 : code9 86 15 = some (0, .getfield 21, [3, 9, 3, 2], .null, []) := rfl
theorem cd86_18 : code9 86 18 = some (0, .iload 4, [2], .null, []) := rfl
theorem cd86_20 : code9 86 20 = some (0, .iaload, [1], .null, []) := rfl
theorem cd86_21 : code9 86 21 = some (0, .iload_n 2, [1], .null, []) := rfl
theorem cd86_22 : code9 86 22 = some (0, .if_icmp .ne 10, [3, 32], .null, []) := rfl
theorem cd86_25 : code9 86 25 = some (0, .iload_n 3, [1], .null, []) := rfl
theorem cd86_26 : code9 86 26 = some (0, .iconst 1, [1], .int 1, []) := rfl
theorem cd86_27 : code9 86 27 = some (0, .iload 4, [2], .null, []) := rfl
theorem cd86_29 : code9 86 29 = some (0, .ishl, [1], .null, []) := rfl
theorem cd86_30 : code9 86 30 = some (0, .ior, [1], .null, []) := rfl
theorem cd86_31 : code9 86 31 = some (0, .istore_n 3, [1], .null, []) := rfl
theorem cd86_32 : code9 86 32 = some (6, .iinc 4 1, [3], .int 1, []) := rfl
theorem cd86_35 : code9 86 35 = some (0, .goto (-30), [3, 5, 5], .null, []) := rfl
theorem cd86_38 : code9 86 38 = some (0, .iload_n 3, [1], .null, []) := rfl
theorem cd86_39 : code9 86 39 = some (0, .ireturn, [1, 1], .null, []) := rfl
def State_bitsOf_5 (N : Nat) (a0 a1 : Nat) : Nat → Int32 → Int32 → Int32 → FI → Option (Int32)
  | 0 => fun _ _ _ _ => none
  | n + 1 => fun l2 l3 l4 I => if (I a1 12) ≤ l4 then (some l3) else (if in9 l4 10 then (if (I (a0 + 4) l4.toNatClampNeg) = l2 then (State_bitsOf_5 N a0 a1 n l2 (l3 ||| (1 <<< (l4 &&& 31))) (l4 + 1) I) else (State_bitsOf_5 N a0 a1 n l2 l3 (l4 + 1) I)) else none)
def State_bitsOf (N : Nat) (a0 a1 : Nat) (l2 : Int32) (I : FI) : Option (Int32) := State_bitsOf_5 N a0 a1 N l2 0 0 I
set_option maxRecDepth 8000 in
theorem t_State_bitsOf_5 {d : Nat} {N : Nat} {a0 a1 : Nat} {c : Nat × Nat} {S : Nat → Nat × Nat} {P : Nat → Nat → Option Nat} {r : Int32} (hd : 0 ≤ d) (h0 : O9 S P a0) (h1 : O6 S P a1) : ∀ (n : Nat) (l2 : Int32) (l3 : Int32) (l4 : Int32) (I : FI) (J : FJ), State_bitsOf_5 N a0 a1 n l2 l3 l4 I = some r → Go d M_State_bitsOf 5 [some (.ref a0), some (.ref a1), some (.int l2), some (.int l3), some (.int l4)] [] (c, S, I, J, P) (some (.int r), false, (c, S, I, J, P)) := by
  intro n
  induction n with
  | zero =>
    intro l2 l3 l4 I J h
    cases h
  | succ n ih =>
    intro l2 l3 l4 I J h
    unfold State_bitsOf_5 at h
    refine g_iload cd86_5 rfl rfl ?_
    refine g_aload_n cd86_7 rfl rfl ?_
    refine g_getI cd86_8 rfl (O6.o h1) ?_
    refine g_icmp_ge cd86_11 rfl (fun hb => ?_) (fun hb => ?_)
    · have h := ifpE hb h
      refine g_iload_n cd86_38 rfl rfl ?_
      exact g_iret cd86_39 (Or.inl rfl) (by obtain rfl := Option.some.inj h; rfl)
    · have h := ifnE hb h
      refine g_aload_n cd86_14 rfl rfl ?_
      refine g_getP cd86_15 rfl (O9.o h0) (show P a0 3 = some (a0 + 4) from O9.p3 h0) ?_
      refine g_iload cd86_18 rfl rfl ?_
      obtain ⟨hg1, h⟩ := grd h
      refine G_iald cd86_20 rfl (show S (a0 + 4) = (1, 10) from O9.s3 h0) hg1 ?_
      refine g_iload_n cd86_21 rfl rfl ?_
      refine g_icmp_ne cd86_22 rfl (fun hb => ?_) (fun hb => ?_)
      · have h := ifpE hb h
        refine g_iload_n cd86_25 rfl rfl ?_
        refine g_iconst cd86_26 rfl ?_
        refine g_iload cd86_27 rfl rfl ?_
        refine g_ishl cd86_29 rfl ?_
        refine g_ior cd86_30 rfl ?_
        refine g_istore_n (ls2 := [some (.ref a0), some (.ref a1), some (.int l2), some (.int (l3 ||| (1 <<< (l4 &&& 31)))), some (.int l4)]) cd86_31 rfl rfl ?_
        refine g_iinc (ls2 := [some (.ref a0), some (.ref a1), some (.int l2), some (.int (l3 ||| (1 <<< (l4 &&& 31)))), some (.int (l4 + 1))]) cd86_32 rfl rfl rfl ?_
        refine g_goto (ls2 := [some (.ref a0), some (.ref a1), some (.int l2), some (.int (l3 ||| (1 <<< (l4 &&& 31)))), some (.int (l4 + 1))]) cd86_35 rfl rfl ?_
        exact ih l2 (l3 ||| (1 <<< (l4 &&& 31))) (l4 + 1) I J h
      · have h := ifnE hb h
        refine g_iinc (ls2 := [some (.ref a0), some (.ref a1), some (.int l2), some (.int l3), some (.int (l4 + 1))]) cd86_32 rfl rfl rfl ?_
        refine g_goto (ls2 := [some (.ref a0), some (.ref a1), some (.int l2), some (.int l3), some (.int (l4 + 1))]) cd86_35 rfl rfl ?_
        exact ih l2 l3 (l4 + 1) I J h
set_option maxRecDepth 8000 in
theorem t_State_bitsOf {d : Nat} {N : Nat} {a0 a1 : Nat} {c : Nat × Nat} {S : Nat → Nat × Nat} {P : Nat → Nat → Option Nat} {I : FI} {J : FJ} {l2 : Int32} {r : Int32} (hd : 0 ≤ d) (h0 : O9 S P a0) (h1 : O6 S P a1) (h : State_bitsOf N a0 a1 l2 I = some r) : Go d M_State_bitsOf 0 [some (.ref a0), some (.ref a1), some (.int l2), none, none] [] (c, S, I, J, P) (some (.int r), false, (c, S, I, J, P)) := by
  unfold State_bitsOf at h
  refine g_iconst cd86_0 rfl ?_
  refine g_istore_n (ls2 := [some (.ref a0), some (.ref a1), some (.int l2), some (.int 0), none]) cd86_1 rfl rfl ?_
  refine g_iconst cd86_2 rfl ?_
  refine g_istore (ls2 := [some (.ref a0), some (.ref a1), some (.int l2), some (.int 0), some (.int 0)]) cd86_3 rfl rfl ?_
  exact t_State_bitsOf_5 hd h0 h1 _ l2 0 0 I J h
/-! HiddenOrLost$State.sumOf([I)I -/
theorem cd87_0 : code9 87 0 = some (0, .iconst 0, [1], .int 0, []) := rfl
theorem cd87_1 : code9 87 1 = some (0, .istore_n 2, [1], .null, []) := rfl
theorem cd87_2 : code9 87 2 = some (0, .iconst 0, [1], .int 0, []) := rfl
theorem cd87_3 : code9 87 3 = some (0, .istore_n 3, [1], .null, []) := rfl
theorem cd87_4 : code9 87 4 = some (5, .iload_n 3, [1], .null, []) := rfl
theorem cd87_5 : code9 87 5 = some (0, .aload_n 1, [1], .null, []) := rfl
theorem cd87_6 : code9 87 6 = some (0, .arraylength, [1], .null, []) := rfl
theorem cd87_7 : code9 87 7 = some (0, .if_icmp .ge 15, [3, 22], .null, []) := rfl
theorem cd87_10 : code9 87 10 = some (0, .iload_n 2, [1], .null, []) := rfl
theorem cd87_11 : code9 87 11 = some (0, .aload_n 1, [1], .null, []) := rfl
theorem cd87_12 : code9 87 12 = some (0, .iload_n 3, [1], .null, []) := rfl
theorem cd87_13 : code9 87 13 = some (0, .iaload, [1], .null, []) := rfl
theorem cd87_14 : code9 87 14 = some (0, .iadd, [1], .null, []) := rfl
theorem cd87_15 : code9 87 15 = some (0, .istore_n 2, [1], .null, []) := rfl
theorem cd87_16 : code9 87 16 = some (0, .iinc 3 1, [3], .int 1, []) := rfl
theorem cd87_19 : code9 87 19 = some (0, .goto (-15), [3, 4, 4], .null, []) := rfl
theorem cd87_22 : code9 87 22 = some (0, .iload_n 2, [1], .null, []) := rfl
theorem cd87_23 : code9 87 23 = some (0, .ireturn, [1, 1], .null, []) := rfl
def State_sumOf_4 (N : Nat) (a0 a1 n1 : Nat) : Nat → Int32 → Int32 → FI → Option (Int32)
  | 0 => fun _ _ _ => none
  | n + 1 => fun l2 l3 I => if (Int32.ofNat n1) ≤ l3 then (some l2) else (if in9 l3 n1 then (State_sumOf_4 N a0 a1 n1 n (l2 + (I a1 l3.toNatClampNeg)) (l3 + 1) I) else none)
def State_sumOf (N : Nat) (a0 a1 n1 : Nat) (I : FI) : Option (Int32) := State_sumOf_4 N a0 a1 n1 N 0 0 I
set_option maxRecDepth 8000 in
theorem t_State_sumOf_4 {d : Nat} {N : Nat} {a0 a1 n1 : Nat} {c : Nat × Nat} {S : Nat → Nat × Nat} {P : Nat → Nat → Option Nat} {r : Int32} (hd : 0 ≤ d) (h0 : O9 S P a0) (h1 : S a1 = (1, n1)) : ∀ (n : Nat) (l2 : Int32) (l3 : Int32) (I : FI) (J : FJ), State_sumOf_4 N a0 a1 n1 n l2 l3 I = some r → Go d M_State_sumOf 4 [some (.ref a0), some (.ref a1), some (.int l2), some (.int l3)] [] (c, S, I, J, P) (some (.int r), false, (c, S, I, J, P)) := by
  intro n
  induction n with
  | zero =>
    intro l2 l3 I J h
    cases h
  | succ n ih =>
    intro l2 l3 I J h
    unfold State_sumOf_4 at h
    refine g_iload_n cd87_4 rfl rfl ?_
    refine g_aload_n cd87_5 rfl rfl ?_
    refine G_alen cd87_6 rfl h1 (by decide) ?_
    refine g_icmp_ge cd87_7 rfl (fun hb => ?_) (fun hb => ?_)
    · have h := ifpE hb h
      refine g_iload_n cd87_22 rfl rfl ?_
      exact g_iret cd87_23 (Or.inl rfl) (by obtain rfl := Option.some.inj h; rfl)
    · have h := ifnE hb h
      refine g_iload_n cd87_10 rfl rfl ?_
      refine g_aload_n cd87_11 rfl rfl ?_
      refine g_iload_n cd87_12 rfl rfl ?_
      obtain ⟨hg1, h⟩ := grd h
      refine G_iald cd87_13 rfl h1 hg1 ?_
      refine g_iadd cd87_14 rfl ?_
      refine g_istore_n (ls2 := [some (.ref a0), some (.ref a1), some (.int (l2 + (I a1 l3.toNatClampNeg))), some (.int l3)]) cd87_15 rfl rfl ?_
      refine g_iinc (ls2 := [some (.ref a0), some (.ref a1), some (.int (l2 + (I a1 l3.toNatClampNeg))), some (.int (l3 + 1))]) cd87_16 rfl rfl rfl ?_
      refine g_goto (ls2 := [some (.ref a0), some (.ref a1), some (.int (l2 + (I a1 l3.toNatClampNeg))), some (.int (l3 + 1))]) cd87_19 rfl rfl ?_
      exact ih (l2 + (I a1 l3.toNatClampNeg)) (l3 + 1) I J h
set_option maxRecDepth 8000 in
theorem t_State_sumOf {d : Nat} {N : Nat} {a0 a1 n1 : Nat} {c : Nat × Nat} {S : Nat → Nat × Nat} {P : Nat → Nat → Option Nat} {I : FI} {J : FJ} {r : Int32} (hd : 0 ≤ d) (h0 : O9 S P a0) (h1 : S a1 = (1, n1)) (h : State_sumOf N a0 a1 n1 I = some r) : Go d M_State_sumOf 0 [some (.ref a0), some (.ref a1), none, none] [] (c, S, I, J, P) (some (.int r), false, (c, S, I, J, P)) := by
  unfold State_sumOf at h
  refine g_iconst cd87_0 rfl ?_
  refine g_istore_n (ls2 := [some (.ref a0), some (.ref a1), some (.int 0), none]) cd87_1 rfl rfl ?_
  refine g_iconst cd87_2 rfl ?_
  refine g_istore_n (ls2 := [some (.ref a0), some (.ref a1), some (.int 0), some (.int 0)]) cd87_3 rfl rfl ?_
  exact t_State_sumOf_4 hd h0 h1 _ 0 0 I J h
/-! HiddenOrLost$State.toldValue(LHiddenOrLost$Land;)I -/
theorem cd88_0 : code9 88 0 = some (0, .aload_n 1, [1], .null, []) := rfl
theorem cd88_1 : code9 88 1 = some (0, .aload_n 0, [1], .null, []) := rfl
theorem cd88_2 : code9 88 2 = some (0, .aload_n 1, [1], .null, []) := rfl
theorem cd88_3 : code9 88 3 = some (0, .iconst 2, [1], .int 2, []) := rfl
theorem cd88_4 : code9 88 4 = some (0, .invokevirtual 67, [3, 86, 3, 1, 1, 5, 9, 0], .null, []) := rfl
theorem cd88_7 : code9 88 7 = some (0, .invokevirtual 71, [3, 54, 2, 1, 1, 4, 6, 0], .null, []) := rfl
theorem cd88_10 : code9 88 10 = some (0, .ireturn, [1, 1], .null, []) := rfl
def State_toldValue (N : Nat) (a0 a1 : Nat) (I : FI) : Option (Int32) := Option.bind (State_bitsOf N a0 a1 2 I) fun x1 => (Option.bind (Land_valueOf N a1 x1 I) fun x2 => (some x2))
set_option maxRecDepth 8000 in
theorem t_State_toldValue {d : Nat} {N : Nat} {a0 a1 : Nat} {c : Nat × Nat} {S : Nat → Nat × Nat} {P : Nat → Nat → Option Nat} {I : FI} {J : FJ} {r : Int32} (hd : 2 ≤ d) (h0 : O9 S P a0) (h1 : O6 S P a1) (h : State_toldValue N a0 a1 I = some r) : Go d M_State_toldValue 0 [some (.ref a0), some (.ref a1)] [] (c, S, I, J, P) (some (.int r), false, (c, S, I, J, P)) := by
  obtain ⟨d, rfl⟩ : ∃ e, d = e + 1 := ⟨d - 1, by omega⟩
  unfold State_toldValue at h
  refine g_aload_n cd88_0 rfl rfl ?_
  refine g_aload_n cd88_1 rfl rfl ?_
  refine g_aload_n cd88_2 rfl rfl ?_
  refine g_iconst cd88_3 rfl ?_
  obtain ⟨x1, hx, h⟩ := bnd h
  refine g_callVI (L := [some (.ref a0), some (.ref a1), some (.int 2), none, none]) cd88_4 rfl rfl rfl rfl rfl (O9.o h0) (t_State_bitsOf (by omega) h0 h1 hx) ?_
  obtain ⟨x2, hx, h⟩ := bnd h
  refine g_callVI (L := [some (.ref a1), some (.int x1), none, none]) cd88_7 rfl rfl rfl rfl rfl (O6.o h1) (t_Land_valueOf (by omega) h1 hx) ?_
  exact g_iret cd88_10 (Or.inl rfl) (by obtain rfl := Option.some.inj h; rfl)
/-! HiddenOrLost$State.stepsBetween(LHiddenOrLost$Land;I)I -/
theorem cd99_0 : code9 99 0 = some (0, .iconst 0, [1], .int 0, []) := rfl
theorem cd99_1 : code9 99 1 = some (0, .istore_n 3, [1], .null, []) := rfl
theorem cd99_2 : code9 99 2 = some (0, .iconst 0, [1], .int 0, []) := rfl
theorem cd99_3 : code9 99 3 = some (0, .istore 4, [2], .null, []) := rfl
theorem cd99_5 : code9 99 5 = some (6, .iload 4, [2], .null, []) := rfl
theorem cd99_7 : code9 99 7 = some (0, .aload_n 1, [1], .null, []) := rfl
theorem cd99_8 : code9 99 8 = some (0, .getfield 46, [3, 6, 12, 0], .null, []) := rfl
theorem cd99_11 : code9 99 11 = some (0, .if_icmp .ge 87, [3, 98], .null, []) := rfl
theorem cd99_14 : code9 99 14 = some (0, .iconst 0, [1], .int 0, []) := rfl
theorem cd99_15 : code9 99 15 = some (0, .istore 5, [2], .null, []) := rfl
theorem cd99_17 : code9 99 17 = some (7, .iload 5, [2], .null, []) := rfl
theorem cd99_19 : code9 99 19 = some (0, .iload 4, [2], .null, []) := rfl
theorem cd99_21 : code9 99 21 = some (0, .if_icmp .ge 71, [3, 92], .null, []) := rfl
theorem cd99_24 : code9 99 24 = some (0, .aload_n 0, [1], .null, []) := rfl
theorem cd99_25 : code9 99 25 = some (0, .getfield 21, [3, 9, 3, 2], .null, []) := rfl
theorem cd99_28 : code9 99 28 = some (0, .iload 4, [2], .null, []) := rfl
theorem cd99_30 : code9 99 30 = some (0, .iaload, [1], .null, []) := rfl
theorem cd99_31 : code9 99 31 = some (0, .iload_n 2, [1], .null, []) := rfl
theorem cd99_32 : code9 99 32 = some (0, .if_icmp .ne 54, [3, 86], .null, []) := rfl
theorem cd99_35 : code9 99 35 = some (0, .aload_n 0, [1], .null, []) := rfl
theorem cd99_36 : code9 99 36 = some (0, .getfield 21, [3, 9, 3, 2], .null, []) := rfl
theorem cd99_39 : code9 99 39 = some (0, .iload 5, [2], .null, []) := rfl
theorem cd99_41 : code9 99 41 = some (0, .iaload, [1], .null, []) := rfl
theorem cd99_42 : code9 99 42 = some (0, .iload_n 2, [1], .null, []) := rfl
theorem cd99_43 : code9 99 43 = some (0, .if_icmp .ne 43, [3, 86], .null, []) := rfl
theorem cd99_46 : code9 99 46 = some (0, .iload_n 3, [1], .null, []) := rfl
theorem cd99_47 : code9 99 47 = some (0, .aload_n 0, [1], .null, []) := rfl
theorem cd99_48 : code9 99 48 = some (0, .getfield 9, [3, 9, 0, 2], .null, []) := rfl
theorem cd99_51 : code9 99 51 = some (0, .iload 4, [2], .null, []) := rfl
theorem cd99_53 : code9 99 53 = some (0, .iaload, [1], .null, []) := rfl
theorem cd99_54 : code9 99 54 = some (0, .aload_n 0, [1], .null, []) := rfl
theorem cd99_55 : code9 99 55 = some (0, .getfield 9, [3, 9, 0, 2], .null, []) := rfl
theorem cd99_58 : code9 99 58 = some (0, .iload 5, [2], .null, []) := rfl
theorem cd99_60 : code9 99 60 = some (0, .iaload, [1], .null, []) := rfl
theorem cd99_61 : code9 99 61 = some (0, .isub, [1], .null, []) := rfl
theorem cd99_62 : code9 99 62 = some (0, .invokestatic 84, [3, 5], .null, []) := rfl
theorem cd99_65 : code9 99 65 = some (0, .aload_n 0, [1], .null, []) := rfl
theorem cd99_66 : code9 99 66 = some (0, .getfield 15, [3, 9, 1, 2], .null, []) := rfl
theorem cd99_69 : code9 99 69 = some (0, .iload 4, [2], .null, []) := rfl
theorem cd99_71 : code9 99 71 = some (0, .iaload, [1], .null, []) := rfl
theorem cd99_72 : code9 99 72 = some (0, .aload_n 0, [1], .null, []) := rfl
theorem cd99_73 : code9 99 73 = some (0, .getfield 15, [3, 9, 1, 2], .null, []) := rfl
theorem cd99_76 : code9 99 76 = some (0, .iload 5, [2], .null, []) := rfl
theorem cd99_78 : code9 99 78 = some (0, .iaload, [1], .null, []) := rfl
theorem cd99_79 : code9 99 79 = some (0, .isub, [1], .null, []) := rfl
theorem cd99_80 : code9 99 80 = some (0, .invokestatic 84, [3, 5], .null, []) := rfl
theorem cd99_83 : code9 99 83 = some (0, .iadd, [1], .null, []) := rfl
theorem cd99_84 : code9 99 84 = some (0, .iadd, [1], .null, []) := rfl
theorem cd99_85 : code9 99 85 = some (0, .istore_n 3, [1], .null, []) := rfl
theorem cd99_86 : code9 99 86 = some (7, .iinc 5 1, [3], .int 1, []) := rfl
theorem cd99_89 : code9 99 89 = some (0, .goto (-72), [3, 17, 6], .null, []) := rfl
theorem cd99_92 : code9 99 92 = some (0, .iinc 4 1, [3], .int 1, []) := rfl
theorem cd99_95 : code9 99 95 = some (0, .goto (-90), [3, 5, 5], .null, []) := rfl
theorem cd99_98 : code9 99 98 = some (0, .iload_n 3, [1], .null, []) := rfl
theorem cd99_99 : code9 99 99 = some (0, .ireturn, [1, 1], .null, []) := rfl
def State_stepsBetween_17 (N : Nat) (a0 a1 : Nat) (K : Int32 → Int32 → Int32 → FI → Option (Int32)) : Nat → Int32 → Int32 → Int32 → Int32 → FI → Option (Int32)
  | 0 => fun _ _ _ _ _ => none
  | n + 1 => fun l2 l3 l4 l5 I => if l4 ≤ l5 then (K l2 l3 (l4 + 1) I) else (if in9 l4 10 then (if (I (a0 + 4) l4.toNatClampNeg) = l2 then (if in9 l5 10 then (if (I (a0 + 4) l5.toNatClampNeg) = l2 then (State_stepsBetween_17 N a0 a1 K n l2 (l3 + ((if 0 ≤ ((I (a0 + 1) l4.toNatClampNeg) - (I (a0 + 1) l5.toNatClampNeg)) then ((I (a0 + 1) l4.toNatClampNeg) - (I (a0 + 1) l5.toNatClampNeg)) else 0 - ((I (a0 + 1) l4.toNatClampNeg) - (I (a0 + 1) l5.toNatClampNeg))) + (if 0 ≤ ((I (a0 + 2) l4.toNatClampNeg) - (I (a0 + 2) l5.toNatClampNeg)) then ((I (a0 + 2) l4.toNatClampNeg) - (I (a0 + 2) l5.toNatClampNeg)) else 0 - ((I (a0 + 2) l4.toNatClampNeg) - (I (a0 + 2) l5.toNatClampNeg))))) l4 (l5 + 1) I) else (State_stepsBetween_17 N a0 a1 K n l2 l3 l4 (l5 + 1) I)) else none) else (State_stepsBetween_17 N a0 a1 K n l2 l3 l4 (l5 + 1) I)) else none)
def State_stepsBetween_5 (N : Nat) (a0 a1 : Nat) : Nat → Int32 → Int32 → Int32 → FI → Option (Int32)
  | 0 => fun _ _ _ _ => none
  | n + 1 => fun l2 l3 l4 I => if (I a1 12) ≤ l4 then (some l3) else (State_stepsBetween_17 N a0 a1 (fun x2 x3 x4 I => State_stepsBetween_5 N a0 a1 n x2 x3 x4 I) N l2 l3 l4 0 I)
def State_stepsBetween (N : Nat) (a0 a1 : Nat) (l2 : Int32) (I : FI) : Option (Int32) := State_stepsBetween_5 N a0 a1 N l2 0 0 I
set_option maxRecDepth 8000 in
theorem t_State_stepsBetween_17 {d : Nat} {N : Nat} {a0 a1 : Nat} {c : Nat × Nat} {S : Nat → Nat × Nat} {P : Nat → Nat → Option Nat} {K : Int32 → Int32 → Int32 → FI → Option (Int32)} {r : Int32} (hd : 1 ≤ (d + 1)) (h0 : O9 S P a0) (h1 : O6 S P a1) (hK : ∀ (x2 : Int32) (x3 : Int32) (x4 : Int32) (I : FI) (J : FJ), K x2 x3 x4 I = some r → Go (d + 1) M_State_stepsBetween 5 [some (.ref a0), some (.ref a1), some (.int x2), some (.int x3), some (.int x4), none] [] (c, S, I, J, P) (some (.int r), false, (c, S, I, J, P))) : ∀ (n : Nat) (l2 : Int32) (l3 : Int32) (l4 : Int32) (l5 : Int32) (I : FI) (J : FJ), State_stepsBetween_17 N a0 a1 K n l2 l3 l4 l5 I = some r → Go (d + 1) M_State_stepsBetween 17 [some (.ref a0), some (.ref a1), some (.int l2), some (.int l3), some (.int l4), some (.int l5)] [] (c, S, I, J, P) (some (.int r), false, (c, S, I, J, P)) := by
  intro n
  induction n with
  | zero =>
    intro l2 l3 l4 l5 I J h
    cases h
  | succ n ih =>
    intro l2 l3 l4 l5 I J h
    unfold State_stepsBetween_17 at h
    refine g_iload cd99_17 rfl rfl ?_
    refine g_iload cd99_19 rfl rfl ?_
    refine g_icmp_ge cd99_21 rfl (fun hb => ?_) (fun hb => ?_)
    · have h := ifpE hb h
      refine g_iinc (ls2 := [some (.ref a0), some (.ref a1), some (.int l2), some (.int l3), some (.int (l4 + 1)), some (.int l5)]) cd99_92 rfl rfl rfl ?_
      refine g_goto (ls2 := [some (.ref a0), some (.ref a1), some (.int l2), some (.int l3), some (.int (l4 + 1)), none]) cd99_95 rfl rfl ?_
      exact hK l2 l3 (l4 + 1) I J h
    · have h := ifnE hb h
      refine g_aload_n cd99_24 rfl rfl ?_
      refine g_getP cd99_25 rfl (O9.o h0) (show P a0 3 = some (a0 + 4) from O9.p3 h0) ?_
      refine g_iload cd99_28 rfl rfl ?_
      obtain ⟨hg1, h⟩ := grd h
      refine G_iald cd99_30 rfl (show S (a0 + 4) = (1, 10) from O9.s3 h0) hg1 ?_
      refine g_iload_n cd99_31 rfl rfl ?_
      refine g_icmp_ne cd99_32 rfl (fun hb => ?_) (fun hb => ?_)
      · have h := ifpE hb h
        refine g_aload_n cd99_35 rfl rfl ?_
        refine g_getP cd99_36 rfl (O9.o h0) (show P a0 3 = some (a0 + 4) from O9.p3 h0) ?_
        refine g_iload cd99_39 rfl rfl ?_
        obtain ⟨hg2, h⟩ := grd h
        refine G_iald cd99_41 rfl (show S (a0 + 4) = (1, 10) from O9.s3 h0) hg2 ?_
        refine g_iload_n cd99_42 rfl rfl ?_
        refine g_icmp_ne cd99_43 rfl (fun hb => ?_) (fun hb => ?_)
        · have h := ifpE hb h
          refine g_iload_n cd99_46 rfl rfl ?_
          refine g_aload_n cd99_47 rfl rfl ?_
          refine g_getP cd99_48 rfl (O9.o h0) (show P a0 0 = some (a0 + 1) from O9.p0 h0) ?_
          refine g_iload cd99_51 rfl rfl ?_
          refine G_iald cd99_53 rfl (show S (a0 + 1) = (1, 10) from O9.s0 h0) hg1 ?_
          refine g_aload_n cd99_54 rfl rfl ?_
          refine g_getP cd99_55 rfl (O9.o h0) (show P a0 0 = some (a0 + 1) from O9.p0 h0) ?_
          refine g_iload cd99_58 rfl rfl ?_
          refine G_iald cd99_60 rfl (show S (a0 + 1) = (1, 10) from O9.s0 h0) hg2 ?_
          refine g_isub cd99_61 rfl ?_
          refine g_abs cd99_62 rfl (Nat.succ_ne_zero _) rfl ?_
          refine g_aload_n cd99_65 rfl rfl ?_
          refine g_getP cd99_66 rfl (O9.o h0) (show P a0 1 = some (a0 + 2) from O9.p1 h0) ?_
          refine g_iload cd99_69 rfl rfl ?_
          refine G_iald cd99_71 rfl (show S (a0 + 2) = (1, 10) from O9.s1 h0) hg1 ?_
          refine g_aload_n cd99_72 rfl rfl ?_
          refine g_getP cd99_73 rfl (O9.o h0) (show P a0 1 = some (a0 + 2) from O9.p1 h0) ?_
          refine g_iload cd99_76 rfl rfl ?_
          refine G_iald cd99_78 rfl (show S (a0 + 2) = (1, 10) from O9.s1 h0) hg2 ?_
          refine g_isub cd99_79 rfl ?_
          refine g_abs cd99_80 rfl (Nat.succ_ne_zero _) rfl ?_
          refine g_iadd cd99_83 rfl ?_
          refine g_iadd cd99_84 rfl ?_
          refine g_istore_n (ls2 := [some (.ref a0), some (.ref a1), some (.int l2), some (.int (l3 + ((if 0 ≤ ((I (a0 + 1) l4.toNatClampNeg) - (I (a0 + 1) l5.toNatClampNeg)) then ((I (a0 + 1) l4.toNatClampNeg) - (I (a0 + 1) l5.toNatClampNeg)) else 0 - ((I (a0 + 1) l4.toNatClampNeg) - (I (a0 + 1) l5.toNatClampNeg))) + (if 0 ≤ ((I (a0 + 2) l4.toNatClampNeg) - (I (a0 + 2) l5.toNatClampNeg)) then ((I (a0 + 2) l4.toNatClampNeg) - (I (a0 + 2) l5.toNatClampNeg)) else 0 - ((I (a0 + 2) l4.toNatClampNeg) - (I (a0 + 2) l5.toNatClampNeg)))))), some (.int l4), some (.int l5)]) cd99_85 rfl rfl ?_
          refine g_iinc (ls2 := [some (.ref a0), some (.ref a1), some (.int l2), some (.int (l3 + ((if 0 ≤ ((I (a0 + 1) l4.toNatClampNeg) - (I (a0 + 1) l5.toNatClampNeg)) then ((I (a0 + 1) l4.toNatClampNeg) - (I (a0 + 1) l5.toNatClampNeg)) else 0 - ((I (a0 + 1) l4.toNatClampNeg) - (I (a0 + 1) l5.toNatClampNeg))) + (if 0 ≤ ((I (a0 + 2) l4.toNatClampNeg) - (I (a0 + 2) l5.toNatClampNeg)) then ((I (a0 + 2) l4.toNatClampNeg) - (I (a0 + 2) l5.toNatClampNeg)) else 0 - ((I (a0 + 2) l4.toNatClampNeg) - (I (a0 + 2) l5.toNatClampNeg)))))), some (.int l4), some (.int (l5 + 1))]) cd99_86 rfl rfl rfl ?_
          refine g_goto (ls2 := [some (.ref a0), some (.ref a1), some (.int l2), some (.int (l3 + ((if 0 ≤ ((I (a0 + 1) l4.toNatClampNeg) - (I (a0 + 1) l5.toNatClampNeg)) then ((I (a0 + 1) l4.toNatClampNeg) - (I (a0 + 1) l5.toNatClampNeg)) else 0 - ((I (a0 + 1) l4.toNatClampNeg) - (I (a0 + 1) l5.toNatClampNeg))) + (if 0 ≤ ((I (a0 + 2) l4.toNatClampNeg) - (I (a0 + 2) l5.toNatClampNeg)) then ((I (a0 + 2) l4.toNatClampNeg) - (I (a0 + 2) l5.toNatClampNeg)) else 0 - ((I (a0 + 2) l4.toNatClampNeg) - (I (a0 + 2) l5.toNatClampNeg)))))), some (.int l4), some (.int (l5 + 1))]) cd99_89 rfl rfl ?_
          exact ih l2 (l3 + ((if 0 ≤ ((I (a0 + 1) l4.toNatClampNeg) - (I (a0 + 1) l5.toNatClampNeg)) then ((I (a0 + 1) l4.toNatClampNeg) - (I (a0 + 1) l5.toNatClampNeg)) else 0 - ((I (a0 + 1) l4.toNatClampNeg) - (I (a0 + 1) l5.toNatClampNeg))) + (if 0 ≤ ((I (a0 + 2) l4.toNatClampNeg) - (I (a0 + 2) l5.toNatClampNeg)) then ((I (a0 + 2) l4.toNatClampNeg) - (I (a0 + 2) l5.toNatClampNeg)) else 0 - ((I (a0 + 2) l4.toNatClampNeg) - (I (a0 + 2) l5.toNatClampNeg))))) l4 (l5 + 1) I J h
        · have h := ifnE hb h
          refine g_iinc (ls2 := [some (.ref a0), some (.ref a1), some (.int l2), some (.int l3), some (.int l4), some (.int (l5 + 1))]) cd99_86 rfl rfl rfl ?_
          refine g_goto (ls2 := [some (.ref a0), some (.ref a1), some (.int l2), some (.int l3), some (.int l4), some (.int (l5 + 1))]) cd99_89 rfl rfl ?_
          exact ih l2 l3 l4 (l5 + 1) I J h
      · have h := ifnE hb h
        refine g_iinc (ls2 := [some (.ref a0), some (.ref a1), some (.int l2), some (.int l3), some (.int l4), some (.int (l5 + 1))]) cd99_86 rfl rfl rfl ?_
        refine g_goto (ls2 := [some (.ref a0), some (.ref a1), some (.int l2), some (.int l3), some (.int l4), some (.int (l5 + 1))]) cd99_89 rfl rfl ?_
        exact ih l2 l3 l4 (l5 + 1) I J h
set_option maxRecDepth 8000 in
theorem t_State_stepsBetween_5 {d : Nat} {N : Nat} {a0 a1 : Nat} {c : Nat × Nat} {S : Nat → Nat × Nat} {P : Nat → Nat → Option Nat} {r : Int32} (hd : 1 ≤ (d + 1)) (h0 : O9 S P a0) (h1 : O6 S P a1) : ∀ (n : Nat) (l2 : Int32) (l3 : Int32) (l4 : Int32) (I : FI) (J : FJ), State_stepsBetween_5 N a0 a1 n l2 l3 l4 I = some r → Go (d + 1) M_State_stepsBetween 5 [some (.ref a0), some (.ref a1), some (.int l2), some (.int l3), some (.int l4), none] [] (c, S, I, J, P) (some (.int r), false, (c, S, I, J, P)) := by
  intro n
  induction n with
  | zero =>
    intro l2 l3 l4 I J h
    cases h
  | succ n ih =>
    intro l2 l3 l4 I J h
    unfold State_stepsBetween_5 at h
    refine g_iload cd99_5 rfl rfl ?_
    refine g_aload_n cd99_7 rfl rfl ?_
    refine g_getI cd99_8 rfl (O6.o h1) ?_
    refine g_icmp_ge cd99_11 rfl (fun hb => ?_) (fun hb => ?_)
    · have h := ifpE hb h
      refine g_iload_n cd99_98 rfl rfl ?_
      exact g_iret cd99_99 (Or.inl rfl) (by obtain rfl := Option.some.inj h; rfl)
    · have h := ifnE hb h
      refine g_iconst cd99_14 rfl ?_
      refine g_istore (ls2 := [some (.ref a0), some (.ref a1), some (.int l2), some (.int l3), some (.int l4), some (.int 0)]) cd99_15 rfl rfl ?_
      exact t_State_stepsBetween_17 hd h0 h1 (fun x2 x3 x4 I J h => ih x2 x3 x4 I J h) _ l2 l3 l4 0 I J h
set_option maxRecDepth 8000 in
theorem t_State_stepsBetween {d : Nat} {N : Nat} {a0 a1 : Nat} {c : Nat × Nat} {S : Nat → Nat × Nat} {P : Nat → Nat → Option Nat} {I : FI} {J : FJ} {l2 : Int32} {r : Int32} (hd : 1 ≤ d) (h0 : O9 S P a0) (h1 : O6 S P a1) (h : State_stepsBetween N a0 a1 l2 I = some r) : Go d M_State_stepsBetween 0 [some (.ref a0), some (.ref a1), some (.int l2), none, none, none] [] (c, S, I, J, P) (some (.int r), false, (c, S, I, J, P)) := by
  obtain ⟨d, rfl⟩ : ∃ e, d = e + 1 := ⟨d - 1, by omega⟩
  unfold State_stepsBetween at h
  refine g_iconst cd99_0 rfl ?_
  refine g_istore_n (ls2 := [some (.ref a0), some (.ref a1), some (.int l2), some (.int 0), none, none]) cd99_1 rfl rfl ?_
  refine g_iconst cd99_2 rfl ?_
  refine g_istore (ls2 := [some (.ref a0), some (.ref a1), some (.int l2), some (.int 0), some (.int 0), none]) cd99_3 rfl rfl ?_
  exact t_State_stepsBetween_5 hd h0 h1 _ l2 0 0 I J h
/-! HiddenOrLost$State.gatherTold(LHiddenOrLost$Land;II)V -/
theorem cd100_0 : code9 100 0 = some (0, .iconst 0, [1], .int 0, []) := rfl
theorem cd100_1 : code9 100 1 = some (0, .istore 4, [2], .null, []) := rfl
theorem cd100_3 : code9 100 3 = some (6, .iload 4, [2], .null, []) := rfl
theorem cd100_5 : code9 100 5 = some (0, .aload_n 1, [1], .null, []) := rfl
theorem cd100_6 : code9 100 6 = some (0, .getfield 46, [3, 6, 12, 0], .null, []) := rfl
theorem cd100_9 : code9 100 9 = some (0, .if_icmp .ge 39, [3, 48], .null, []) := rfl
theorem cd100_12 : code9 100 12 = some (0, .aload_n 0, [1], .null, []) := rfl
theorem cd100_13 : code9 100 13 = some (0, .getfield 21, [3, 9, 3, 2], .null, []) := rfl
theorem cd100_16 : code9 100 16 = some (0, .iload 4, [2], .null, []) := rfl
theorem cd100_18 : code9 100 18 = some (0, .iaload, [1], .null, []) := rfl
theorem cd100_19 : code9 100 19 = some (0, .iconst 2, [1], .int 2, []) := rfl
theorem cd100_20 : code9 100 20 = some (0, .if_icmp .ne 14, [3, 34], .null, []) := rfl
theorem cd100_23 : code9 100 23 = some (0, .aload_n 0, [1], .null, []) := rfl
theorem cd100_24 : code9 100 24 = some (0, .iload 4, [2], .null, []) := rfl
theorem cd100_26 : code9 100 26 = some (0, .iload_n 2, [1], .null, []) := rfl
theorem cd100_27 : code9 100 27 = some (0, .iload_n 3, [1], .null, []) := rfl
theorem cd100_28 : code9 100 28 = some (0, .invokevirtual 87, [3, 93, 4, 1, 0, 4, 9, 0], .null, []) := rfl
theorem cd100_31 : code9 100 31 = some (0, .goto 11, [3, 42, 5], .null, []) := rfl
theorem cd100_34 : code9 100 34 = some (0, .aload_n 0, [1], .null, []) := rfl
theorem cd100_35 : code9 100 35 = some (0, .getfield 21, [3, 9, 3, 2], .null, []) := rfl
theorem cd100_38 : code9 100 38 = some (0, .iload 4, [2], .null, []) := rfl
theorem cd100_40 : code9 100 40 = some (0, .iconst 3, [1], .int 3, []) := rfl
theorem cd100_41 : code9 100 41 = some (0, .iastore, [1], .null, []) := rfl
theorem cd100_42 : code9 100 42 = some (6, .iinc 4 1, [3], .int 1, []) := rfl
theorem cd100_45 : code9 100 45 = some (0, .goto (-42), [3, 3, 5], .null, []) := rfl
theorem cd100_48 : code9 100 48 = some (0, .return_, [1], .null, []) := rfl
def State_gatherTold_3 (N : Nat) (a0 a1 : Nat) : Nat → Int32 → Int32 → Int32 → FI → Option (FI)
  | 0 => fun _ _ _ _ => none
  | n + 1 => fun l2 l3 l4 I => if (I a1 12) ≤ l4 then (some I) else (if in9 l4 10 then (if (I (a0 + 4) l4.toNatClampNeg) = 2 then (Option.bind (State_layFind a0 l4 l2 l3 I) fun x2 => (State_gatherTold_3 N a0 a1 n l2 l3 (l4 + 1) x2)) else (Option.bind (some (up2 I (a0 + 4) l4.toNatClampNeg (3 : Int32))) fun I3 => (State_gatherTold_3 N a0 a1 n l2 l3 (l4 + 1) I3))) else none)
def State_gatherTold (N : Nat) (a0 a1 : Nat) (l2 : Int32) (l3 : Int32) (I : FI) : Option (FI) := State_gatherTold_3 N a0 a1 N l2 l3 0 I
set_option maxRecDepth 8000 in
theorem t_State_gatherTold_3 {d : Nat} {N : Nat} {a0 a1 : Nat} {c : Nat × Nat} {S : Nat → Nat × Nat} {P : Nat → Nat → Option Nat} {r : FI} (hd : 1 ≤ (d + 1)) (h0 : O9 S P a0) (h1 : O6 S P a1) : ∀ (n : Nat) (l2 : Int32) (l3 : Int32) (l4 : Int32) (I : FI) (J : FJ), State_gatherTold_3 N a0 a1 n l2 l3 l4 I = some r → Go (d + 1) M_State_gatherTold 3 [some (.ref a0), some (.ref a1), some (.int l2), some (.int l3), some (.int l4)] [] (c, S, I, J, P) (none, false, (c, S, r, J, P)) := by
  intro n
  induction n with
  | zero =>
    intro l2 l3 l4 I J h
    cases h
  | succ n ih =>
    intro l2 l3 l4 I J h
    unfold State_gatherTold_3 at h
    refine g_iload cd100_3 rfl rfl ?_
    refine g_aload_n cd100_5 rfl rfl ?_
    refine g_getI cd100_6 rfl (O6.o h1) ?_
    refine g_icmp_ge cd100_9 rfl (fun hb => ?_) (fun hb => ?_)
    · have h := ifpE hb h
      exact g_vret cd100_48 (by obtain rfl := Option.some.inj h; rfl)
    · have h := ifnE hb h
      refine g_aload_n cd100_12 rfl rfl ?_
      refine g_getP cd100_13 rfl (O9.o h0) (show P a0 3 = some (a0 + 4) from O9.p3 h0) ?_
      refine g_iload cd100_16 rfl rfl ?_
      obtain ⟨hg1, h⟩ := grd h
      refine G_iald cd100_18 rfl (show S (a0 + 4) = (1, 10) from O9.s3 h0) hg1 ?_
      refine g_iconst cd100_19 rfl ?_
      refine g_icmp_ne cd100_20 rfl (fun hb => ?_) (fun hb => ?_)
      · have h := ifpE hb h
        refine g_aload_n cd100_23 rfl rfl ?_
        refine g_iload cd100_24 rfl rfl ?_
        refine g_iload_n cd100_26 rfl rfl ?_
        refine g_iload_n cd100_27 rfl rfl ?_
        obtain ⟨x2, hx, h⟩ := bnd h
        refine g_callVV (L := [some (.ref a0), some (.int l4), some (.int l2), some (.int l3)]) cd100_28 rfl rfl rfl rfl rfl (O9.o h0) (t_State_layFind (by omega) h0 hx) ?_
        refine g_goto (ls2 := [some (.ref a0), some (.ref a1), some (.int l2), some (.int l3), some (.int l4)]) cd100_31 rfl rfl ?_
        refine g_iinc (ls2 := [some (.ref a0), some (.ref a1), some (.int l2), some (.int l3), some (.int (l4 + 1))]) cd100_42 rfl rfl rfl ?_
        refine g_goto (ls2 := [some (.ref a0), some (.ref a1), some (.int l2), some (.int l3), some (.int (l4 + 1))]) cd100_45 rfl rfl ?_
        exact ih l2 l3 (l4 + 1) x2 J h
      · have h := ifnE hb h
        refine g_aload_n cd100_34 rfl rfl ?_
        refine g_getP cd100_35 rfl (O9.o h0) (show P a0 3 = some (a0 + 4) from O9.p3 h0) ?_
        refine g_iload cd100_38 rfl rfl ?_
        refine g_iconst cd100_40 rfl ?_
        obtain ⟨I3, e1, h⟩ := bnd h
        refine G_iast cd100_41 rfl (show S (a0 + 4) = (1, 10) from O9.s3 h0) hg1 (Option.some.inj e1) ?_
        refine g_iinc (ls2 := [some (.ref a0), some (.ref a1), some (.int l2), some (.int l3), some (.int (l4 + 1))]) cd100_42 rfl rfl rfl ?_
        refine g_goto (ls2 := [some (.ref a0), some (.ref a1), some (.int l2), some (.int l3), some (.int (l4 + 1))]) cd100_45 rfl rfl ?_
        exact ih l2 l3 (l4 + 1) I3 J h
set_option maxRecDepth 8000 in
theorem t_State_gatherTold {d : Nat} {N : Nat} {a0 a1 : Nat} {c : Nat × Nat} {S : Nat → Nat × Nat} {P : Nat → Nat → Option Nat} {I : FI} {J : FJ} {l2 : Int32} {l3 : Int32} {r : FI} (hd : 1 ≤ d) (h0 : O9 S P a0) (h1 : O6 S P a1) (h : State_gatherTold N a0 a1 l2 l3 I = some r) : Go d M_State_gatherTold 0 [some (.ref a0), some (.ref a1), some (.int l2), some (.int l3), none] [] (c, S, I, J, P) (none, false, (c, S, r, J, P)) := by
  obtain ⟨d, rfl⟩ : ∃ e, d = e + 1 := ⟨d - 1, by omega⟩
  unfold State_gatherTold at h
  refine g_iconst cd100_0 rfl ?_
  refine g_istore (ls2 := [some (.ref a0), some (.ref a1), some (.int l2), some (.int l3), some (.int 0)]) cd100_1 rfl rfl ?_
  exact t_State_gatherTold_3 hd h0 h1 _ l2 l3 0 I J h
/-! HiddenOrLost$State.latestTold(LHiddenOrLost$Land;)I -/
theorem cd101_0 : code9 101 0 = some (0, .iconst (-1), [1], .int (-1), []) := rfl
theorem cd101_1 : code9 101 1 = some (0, .istore_n 2, [1], .null, []) := rfl
theorem cd101_2 : code9 101 2 = some (0, .iconst 0, [1], .int 0, []) := rfl
theorem cd101_3 : code9 101 3 = some (0, .istore_n 3, [1], .null, []) := rfl
theorem cd101_4 : code9 101 4 = some (5, .iload_n 3, [1], .null, []) := rfl
theorem cd101_5 : code9 101 5 = some (0, .aload_n 1, [1], .null, []) := rfl
theorem cd101_6 : code9 101 6 = some (0, .getfield 46, [3, 6, 12, 0], .null, []) := rfl
theorem cd101_9 : code9 101 9 = some (0, .if_icmp .ge 30, [3, 39], .null, []) := rfl
theorem cd101_12 : code9 101 12 = some (0, .aload_n 0, [1], .null, []) := rfl
theorem cd101_13 : code9 101 13 = some (0, .getfield 21, [3, 9, 3, 2], .null, []) := rfl
theorem cd101_16 : code9 101 16 = some (0, .iload_n 3, [1], .null, []) := rfl
theorem cd101_17 : code9 101 17 = some (0, .iaload, [1], .null, []) := rfl
theorem cd101_18 : code9 101 18 = some (0, .iconst 2, [1], .int 2, []) := rfl
theorem cd101_19 : code9 101 19 = some (0, .if_icmp .ne 14, [3, 33], .null, []) := rfl
theorem cd101_22 : code9 101 22 = some (0, .iload_n 2, [1], .null, []) := rfl
theorem cd101_23 : code9 101 23 = some (0, .aload_n 1, [1], .null, []) := rfl
theorem cd101_24 : code9 101 24 = some (0, .iload_n 3, [1], .null, []) := rfl
theorem cd101_25 : code9 101 25 = some (0, .iconst 4, [1], .int 4, []) := rfl
theorem cd101_26 : code9 101 26 = some (0, .invokevirtual 51, [3, 51, 3, 1, 1, 3, 6, 0], .null, []) := rfl
theorem cd101_29 : code9 101 29 = some (0, .invokestatic 75, [3, 6], .null, []) := rfl
theorem cd101_32 : code9 101 32 = some (0, .istore_n 2, [1], .null, []) := rfl
theorem cd101_33 : code9 101 33 = some (5, .iinc 3 1, [3], .int 1, []) := rfl
theorem cd101_36 : code9 101 36 = some (0, .goto (-32), [3, 4, 4], .null, []) := rfl
theorem cd101_39 : code9 101 39 = some (0, .iload_n 2, [1], .null, []) := rfl
theorem cd101_40 : code9 101 40 = some (0, .ireturn, [1, 1], .null, []) := rfl
def State_latestTold_4 (N : Nat) (a0 a1 : Nat) : Nat → Int32 → Int32 → FI → Option (Int32)
  | 0 => fun _ _ _ => none
  | n + 1 => fun l2 l3 I => if (I a1 12) ≤ l3 then (some l2) else (if in9 l3 10 then (if (I (a0 + 4) l3.toNatClampNeg) = 2 then (Option.bind (Land_factOf a1 l3 4 I) fun x2 => (State_latestTold_4 N a0 a1 n (if l2 < x2 then x2 else l2) (l3 + 1) I)) else (State_latestTold_4 N a0 a1 n l2 (l3 + 1) I)) else none)
def State_latestTold (N : Nat) (a0 a1 : Nat) (I : FI) : Option (Int32) := State_latestTold_4 N a0 a1 N (-1) 0 I
set_option maxRecDepth 8000 in
theorem t_State_latestTold_4 {d : Nat} {N : Nat} {a0 a1 : Nat} {c : Nat × Nat} {S : Nat → Nat × Nat} {P : Nat → Nat → Option Nat} {r : Int32} (hd : 1 ≤ (d + 1)) (h0 : O9 S P a0) (h1 : O6 S P a1) : ∀ (n : Nat) (l2 : Int32) (l3 : Int32) (I : FI) (J : FJ), State_latestTold_4 N a0 a1 n l2 l3 I = some r → Go (d + 1) M_State_latestTold 4 [some (.ref a0), some (.ref a1), some (.int l2), some (.int l3)] [] (c, S, I, J, P) (some (.int r), false, (c, S, I, J, P)) := by
  intro n
  induction n with
  | zero =>
    intro l2 l3 I J h
    cases h
  | succ n ih =>
    intro l2 l3 I J h
    unfold State_latestTold_4 at h
    refine g_iload_n cd101_4 rfl rfl ?_
    refine g_aload_n cd101_5 rfl rfl ?_
    refine g_getI cd101_6 rfl (O6.o h1) ?_
    refine g_icmp_ge cd101_9 rfl (fun hb => ?_) (fun hb => ?_)
    · have h := ifpE hb h
      refine g_iload_n cd101_39 rfl rfl ?_
      exact g_iret cd101_40 (Or.inl rfl) (by obtain rfl := Option.some.inj h; rfl)
    · have h := ifnE hb h
      refine g_aload_n cd101_12 rfl rfl ?_
      refine g_getP cd101_13 rfl (O9.o h0) (show P a0 3 = some (a0 + 4) from O9.p3 h0) ?_
      refine g_iload_n cd101_16 rfl rfl ?_
      obtain ⟨hg1, h⟩ := grd h
      refine G_iald cd101_17 rfl (show S (a0 + 4) = (1, 10) from O9.s3 h0) hg1 ?_
      refine g_iconst cd101_18 rfl ?_
      refine g_icmp_ne cd101_19 rfl (fun hb => ?_) (fun hb => ?_)
      · have h := ifpE hb h
        refine g_iload_n cd101_22 rfl rfl ?_
        refine g_aload_n cd101_23 rfl rfl ?_
        refine g_iload_n cd101_24 rfl rfl ?_
        refine g_iconst cd101_25 rfl ?_
        obtain ⟨x2, hx, h⟩ := bnd h
        refine g_callVI (L := [some (.ref a1), some (.int l3), some (.int 4)]) cd101_26 rfl rfl rfl rfl rfl (O6.o h1) (t_Land_factOf (by omega) h1 hx) ?_
        refine g_max cd101_29 rfl (Nat.succ_ne_zero _) rfl ?_
        refine g_istore_n (ls2 := [some (.ref a0), some (.ref a1), some (.int (if l2 < x2 then x2 else l2)), some (.int l3)]) cd101_32 rfl rfl ?_
        refine g_iinc (ls2 := [some (.ref a0), some (.ref a1), some (.int (if l2 < x2 then x2 else l2)), some (.int (l3 + 1))]) cd101_33 rfl rfl rfl ?_
        refine g_goto (ls2 := [some (.ref a0), some (.ref a1), some (.int (if l2 < x2 then x2 else l2)), some (.int (l3 + 1))]) cd101_36 rfl rfl ?_
        exact ih (if l2 < x2 then x2 else l2) (l3 + 1) I J h
      · have h := ifnE hb h
        refine g_iinc (ls2 := [some (.ref a0), some (.ref a1), some (.int l2), some (.int (l3 + 1))]) cd101_33 rfl rfl rfl ?_
        refine g_goto (ls2 := [some (.ref a0), some (.ref a1), some (.int l2), some (.int (l3 + 1))]) cd101_36 rfl rfl ?_
        exact ih l2 (l3 + 1) I J h
set_option maxRecDepth 8000 in
theorem t_State_latestTold {d : Nat} {N : Nat} {a0 a1 : Nat} {c : Nat × Nat} {S : Nat → Nat × Nat} {P : Nat → Nat → Option Nat} {I : FI} {J : FJ} {r : Int32} (hd : 1 ≤ d) (h0 : O9 S P a0) (h1 : O6 S P a1) (h : State_latestTold N a0 a1 I = some r) : Go d M_State_latestTold 0 [some (.ref a0), some (.ref a1), none, none] [] (c, S, I, J, P) (some (.int r), false, (c, S, I, J, P)) := by
  obtain ⟨d, rfl⟩ : ∃ e, d = e + 1 := ⟨d - 1, by omega⟩
  unfold State_latestTold at h
  refine g_iconst cd101_0 rfl ?_
  refine g_istore_n (ls2 := [some (.ref a0), some (.ref a1), some (.int (-1)), none]) cd101_1 rfl rfl ?_
  refine g_iconst cd101_2 rfl ?_
  refine g_istore_n (ls2 := [some (.ref a0), some (.ref a1), some (.int (-1)), some (.int 0)]) cd101_3 rfl rfl ?_
  exact t_State_latestTold_4 hd h0 h1 _ (-1) 0 I J h
/-! HiddenOrLost$Tape.put(I)V -/
theorem cd104_0 : code9 104 0 = some (0, .bipush 24, [2], .int 24, []) := rfl
theorem cd104_2 : code9 104 2 = some (0, .istore_n 2, [1], .null, []) := rfl
theorem cd104_3 : code9 104 3 = some (4, .iload_n 2, [1], .null, []) := rfl
theorem cd104_4 : code9 104 4 = some (0, .ifCond .lt 44, [3, 48], .null, []) := rfl
theorem cd104_7 : code9 104 7 = some (0, .aload_n 0, [1], .null, []) := rfl
theorem cd104_8 : code9 104 8 = some (0, .getfield 29, [3, 10, 5, 0], .null, []) := rfl
theorem cd104_11 : code9 104 11 = some (0, .aload_n 0, [1], .null, []) := rfl
theorem cd104_12 : code9 104 12 = some (0, .getfield 9, [3, 10, 0, 2], .null, []) := rfl
theorem cd104_15 : code9 104 15 = some (0, .arraylength, [1], .null, []) := rfl
theorem cd104_16 : code9 104 16 = some (0, .if_icmp .ge 26, [3, 42], .null, []) := rfl
theorem cd104_19 : code9 104 19 = some (0, .aload_n 0, [1], .null, []) := rfl
theorem cd104_20 : code9 104 20 = some (0, .getfield 9, [3, 10, 0, 2], .null, []) := rfl
theorem cd104_23 : code9 104 23 = some (0, .aload_n 0, [1], .null, []) := rfl
theorem cd104_24 : code9 104 24 = some (0, .getfield 29, [3, 10, 5, 0], .null, []) := rfl
theorem cd104_27 : code9 104 27 = some (0, .iload_n 1, [1], .null, []) := rfl
theorem cd104_28 : code9 104 28 = some (0, .iload_n 2, [1], .null, []) := rfl
theorem cd104_29 : code9 104 29 = some (0, .ishr, [1], .null, []) := rfl
theorem cd104_30 : code9 104 30 = some (0, .i2b, [1], .null, []) := rfl
theorem cd104_31 : code9 104 31 = some (0, .bastore, [1], .null, []) := rfl
theorem cd104_32 : code9 104 32 = some (0, .aload_n 0, [1], .null, []) := rfl
theorem cd104_33 : code9 104 33 = some (0, .dup, [1], .null, []) := rfl
theorem cd104_34 : code9 104 34 = some (0, .getfield 29, [3, 10, 5, 0], .null, []) := rfl
theorem cd104_37 : code9 104 37 = some (0, .iconst 1, [1], .int 1, []) := rfl
theorem cd104_38 : code9 104 38 = some (0, .iadd, [1], .null, []) := rfl
theorem cd104_39 : code9 104 39 = some (0, .putfield 29, [3, 10, 5, 0], .null, []) := rfl
theorem cd104_42 : code9 104 42 = some (4, .iinc 2 (-8), [3], .int (-8), []) := rfl
theorem cd104_45 : code9 104 45 = some (0, .goto (-42), [3, 3, 3], .null, []) := rfl
theorem cd104_48 : code9 104 48 = some (0, .return_, [1], .null, []) := rfl
def Tape_put_3 (N : Nat) (a0 : Nat) : Nat → Int32 → Int32 → FI → Option (FI)
  | 0 => fun _ _ _ => none
  | n + 1 => fun l1 l2 I => if l2 < 0 then (some I) else (if (Int32.ofNat 940) ≤ (I a0 5) then (Tape_put_3 N a0 n l1 (l2 + (-8)) I) else (if in9 (I a0 5) 940 then (Option.bind (some (up2 I (a0 + 1) ((I a0 5).toNatClampNeg) (vp_nar .byte ((l1 >>> (l2 &&& 31)).toInt8.toInt32)))) fun I2 => (Option.bind (some (up2 I2 a0 5 ((I2 a0 5) + 1))) fun I3 => (Tape_put_3 N a0 n l1 (l2 + (-8)) I3))) else none))
def Tape_put (N : Nat) (a0 : Nat) (l1 : Int32) (I : FI) : Option (FI) := Tape_put_3 N a0 N l1 24 I
set_option maxRecDepth 8000 in
theorem t_Tape_put_3 {d : Nat} {N : Nat} {a0 : Nat} {c : Nat × Nat} {S : Nat → Nat × Nat} {P : Nat → Nat → Option Nat} {r : FI} (hd : 0 ≤ d) (h0 : O10 S P a0) : ∀ (n : Nat) (l1 : Int32) (l2 : Int32) (I : FI) (J : FJ), Tape_put_3 N a0 n l1 l2 I = some r → Go d M_Tape_put 3 [some (.ref a0), some (.int l1), some (.int l2)] [] (c, S, I, J, P) (none, false, (c, S, r, J, P)) := by
  intro n
  induction n with
  | zero =>
    intro l1 l2 I J h
    cases h
  | succ n ih =>
    intro l1 l2 I J h
    unfold Tape_put_3 at h
    refine g_iload_n cd104_3 rfl rfl ?_
    refine g_if_lt cd104_4 rfl (fun hb => ?_) (fun hb => ?_)
    · have h := ifpE hb h
      exact g_vret cd104_48 (by obtain rfl := Option.some.inj h; rfl)
    · have h := ifnE hb h
      refine g_aload_n cd104_7 rfl rfl ?_
      refine g_getI cd104_8 rfl (O10.o h0) ?_
      refine g_aload_n cd104_11 rfl rfl ?_
      refine g_getP cd104_12 rfl (O10.o h0) (show P a0 0 = some (a0 + 1) from O10.p0 h0) ?_
      refine G_alen cd104_15 rfl (show S (a0 + 1) = (2, 940) from O10.s0 h0) (by decide) ?_
      refine g_icmp_ge cd104_16 rfl (fun hb => ?_) (fun hb => ?_)
      · have h := ifpE hb h
        refine g_iinc (ls2 := [some (.ref a0), some (.int l1), some (.int (l2 + (-8)))]) cd104_42 rfl rfl rfl ?_
        refine g_goto (ls2 := [some (.ref a0), some (.int l1), some (.int (l2 + (-8)))]) cd104_45 rfl rfl ?_
        exact ih l1 (l2 + (-8)) I J h
      · have h := ifnE hb h
        refine g_aload_n cd104_19 rfl rfl ?_
        refine g_getP cd104_20 rfl (O10.o h0) (show P a0 0 = some (a0 + 1) from O10.p0 h0) ?_
        refine g_aload_n cd104_23 rfl rfl ?_
        refine g_getI cd104_24 rfl (O10.o h0) ?_
        refine g_iload_n cd104_27 rfl rfl ?_
        refine g_iload_n cd104_28 rfl rfl ?_
        refine g_ishr cd104_29 rfl ?_
        refine g_i2b cd104_30 rfl ?_
        obtain ⟨hg1, h⟩ := grd h
        obtain ⟨I2, e1, h⟩ := bnd h
        refine G_bastB cd104_31 rfl (show S (a0 + 1) = (2, 940) from O10.s0 h0) hg1 (Option.some.inj e1) ?_
        refine g_aload_n cd104_32 rfl rfl ?_
        refine g_dupR cd104_33 rfl ?_
        refine g_getI cd104_34 rfl (O10.o h0) ?_
        refine g_iconst cd104_37 rfl ?_
        refine g_iadd cd104_38 rfl ?_
        obtain ⟨I3, e1, h⟩ := bnd h
        refine G_putI cd104_39 rfl (O10.o h0) (Option.some.inj e1) ?_
        refine g_iinc (ls2 := [some (.ref a0), some (.int l1), some (.int (l2 + (-8)))]) cd104_42 rfl rfl rfl ?_
        refine g_goto (ls2 := [some (.ref a0), some (.int l1), some (.int (l2 + (-8)))]) cd104_45 rfl rfl ?_
        exact ih l1 (l2 + (-8)) I3 J h
set_option maxRecDepth 8000 in
theorem t_Tape_put {d : Nat} {N : Nat} {a0 : Nat} {c : Nat × Nat} {S : Nat → Nat × Nat} {P : Nat → Nat → Option Nat} {I : FI} {J : FJ} {l1 : Int32} {r : FI} (hd : 0 ≤ d) (h0 : O10 S P a0) (h : Tape_put N a0 l1 I = some r) : Go d M_Tape_put 0 [some (.ref a0), some (.int l1), none] [] (c, S, I, J, P) (none, false, (c, S, r, J, P)) := by
  unfold Tape_put at h
  refine g_bipush cd104_0 rfl ?_
  refine g_istore_n (ls2 := [some (.ref a0), some (.int l1), some (.int 24)]) cd104_2 rfl rfl ?_
  exact t_Tape_put_3 hd h0 _ l1 24 I J h
/-! HiddenOrLost.feed(IIIII)I -/
theorem cd123_0 : code9 123 0 = some (0, .aload_n 0, [1], .null, []) := rfl
theorem cd123_1 : code9 123 1 = some (0, .getfield 10, [3, 11, 0, 2], .null, []) := rfl
theorem cd123_4 : code9 123 4 = some (0, .getfield 115, [3, 10, 5, 0], .null, []) := rfl
theorem cd123_7 : code9 123 7 = some (0, .bipush 20, [2], .int 20, []) := rfl
theorem cd123_9 : code9 123 9 = some (0, .iadd, [1], .null, []) := rfl
theorem cd123_10 : code9 123 10 = some (0, .sipush 940, [3], .int 940, []) := rfl
theorem cd123_13 : code9 123 13 = some (0, .if_icmp .le 5, [3, 18], .null, []) := rfl
theorem cd123_16 : code9 123 16 = some (0, .iconst (-1), [1], .int (-1), []) := rfl
theorem cd123_17 : code9 123 17 = some (0, .ireturn, [1, 1], .null, []) := rfl
theorem cd123_18 : code9 123 18 = some (0, .aload_n 0, [1], .null, []) := rfl
theorem cd123_19 : code9 123 19 = some (0, .getfield 10, [3, 11, 0, 2], .null, []) := rfl
theorem cd123_22 : code9 123 22 = some (0, .iload_n 1, [1], .null, []) := rfl
theorem cd123_23 : code9 123 23 = some (0, .invokevirtual 118, [3, 104, 2, 1, 0, 3, 10, 0], .null, []) := rfl
theorem cd123_26 : code9 123 26 = some (0, .aload_n 0, [1], .null, []) := rfl
theorem cd123_27 : code9 123 27 = some (0, .getfield 10, [3, 11, 0, 2], .null, []) := rfl
theorem cd123_30 : code9 123 30 = some (0, .iload_n 2, [1], .null, []) := rfl
theorem cd123_31 : code9 123 31 = some (0, .invokevirtual 118, [3, 104, 2, 1, 0, 3, 10, 0], .null, []) := rfl
theorem cd123_34 : code9 123 34 = some (0, .aload_n 0, [1], .null, []) := rfl
theorem cd123_35 : code9 123 35 = some (0, .getfield 10, [3, 11, 0, 2], .null, []) := rfl
theorem cd123_38 : code9 123 38 = some (0, .iload_n 3, [1], .null, []) := rfl
theorem cd123_39 : code9 123 39 = some (0, .invokevirtual 118, [3, 104, 2, 1, 0, 3, 10, 0], .null, []) := rfl
theorem cd123_42 : code9 123 42 = some (0, .aload_n 0, [1], .null, []) := rfl
theorem cd123_43 : code9 123 43 = some (0, .getfield 10, [3, 11, 0, 2], .null, []) := rfl
theorem cd123_46 : code9 123 46 = some (0, .iload 4, [2], .null, []) := rfl
theorem cd123_48 : code9 123 48 = some (0, .invokevirtual 118, [3, 104, 2, 1, 0, 3, 10, 0], .null, []) := rfl
theorem cd123_51 : code9 123 51 = some (0, .aload_n 0, [1], .null, []) := rfl
theorem cd123_52 : code9 123 52 = some (0, .getfield 10, [3, 11, 0, 2], .null, []) := rfl
theorem cd123_55 : code9 123 55 = some (0, .iload 5, [2], .null, []) := rfl
theorem cd123_57 : code9 123 57 = some (0, .invokevirtual 118, [3, 104, 2, 1, 0, 3, 10, 0], .null, []) := rfl
theorem cd123_60 : code9 123 60 = some (0, .aload_n 0, [1], .null, []) := rfl
theorem cd123_61 : code9 123 61 = some (0, .getfield 10, [3, 11, 0, 2], .null, []) := rfl
theorem cd123_64 : code9 123 64 = some (0, .getfield 115, [3, 10, 5, 0], .null, []) := rfl
theorem cd123_67 : code9 123 67 = some (0, .ireturn, [1, 1], .null, []) := rfl
def Hol_feed (N : Nat) (ln sp sn ss : Nat) (l1 : Int32) (l2 : Int32) (l3 : Int32) (l4 : Int32) (l5 : Int32) (I : FI) : Option (Int32 × FI) := if ((I 1 5) + 20) ≤ 940 then (Option.bind (Tape_put N 1 l1 I) fun x1 => (Option.bind (Tape_put N 1 l2 x1) fun x2 => (Option.bind (Tape_put N 1 l3 x2) fun x3 => (Option.bind (Tape_put N 1 l4 x3) fun x4 => (Option.bind (Tape_put N 1 l5 x4) fun x5 => (some (x5 1 5, x5))))))) else (some ((-1), I))
set_option maxRecDepth 8000 in
theorem t_Hol_feed {d : Nat} {N : Nat} {ln sp sn ss : Nat} {c : Nat × Nat} {S : Nat → Nat × Nat} {P : Nat → Nat → Option Nat} {I : FI} {J : FJ} {l1 : Int32} {l2 : Int32} {l3 : Int32} {l4 : Int32} {l5 : Int32} {r : Int32 × FI} (hd : 1 ≤ d) (hw : OH S P ln sp sn ss) (h : Hol_feed N ln sp sn ss l1 l2 l3 l4 l5 I = some r) : Go d M_Hol_feed 0 [some (.ref 0), some (.int l1), some (.int l2), some (.int l3), some (.int l4), some (.int l5)] [] (c, S, I, J, P) (some (.int r.1), false, (c, S, r.2, J, P)) := by
  obtain ⟨d, rfl⟩ : ∃ e, d = e + 1 := ⟨d - 1, by omega⟩
  unfold Hol_feed at h
  refine g_aload_n cd123_0 rfl rfl ?_
  refine g_getP cd123_1 rfl (OH.o hw) (OH.p0 hw) ?_
  refine g_getI cd123_4 rfl (O10.o (OH.q0 hw)) ?_
  refine g_bipush cd123_7 rfl ?_
  refine g_iadd cd123_9 rfl ?_
  refine g_sipush cd123_10 rfl ?_
  refine g_icmp_le cd123_13 rfl (fun hb => ?_) (fun hb => ?_)
  · have h := ifpE hb h
    refine g_aload_n cd123_18 rfl rfl ?_
    refine g_getP cd123_19 rfl (OH.o hw) (OH.p0 hw) ?_
    refine g_iload_n cd123_22 rfl rfl ?_
    obtain ⟨x1, hx, h⟩ := bnd h
    refine g_callVV (L := [some (.ref 1), some (.int l1), none]) cd123_23 rfl rfl rfl rfl rfl (O10.o (OH.q0 hw)) (t_Tape_put (by omega) (OH.q0 hw) hx) ?_
    refine g_aload_n cd123_26 rfl rfl ?_
    refine g_getP cd123_27 rfl (OH.o hw) (OH.p0 hw) ?_
    refine g_iload_n cd123_30 rfl rfl ?_
    obtain ⟨x2, hx, h⟩ := bnd h
    refine g_callVV (L := [some (.ref 1), some (.int l2), none]) cd123_31 rfl rfl rfl rfl rfl (O10.o (OH.q0 hw)) (t_Tape_put (by omega) (OH.q0 hw) hx) ?_
    refine g_aload_n cd123_34 rfl rfl ?_
    refine g_getP cd123_35 rfl (OH.o hw) (OH.p0 hw) ?_
    refine g_iload_n cd123_38 rfl rfl ?_
    obtain ⟨x3, hx, h⟩ := bnd h
    refine g_callVV (L := [some (.ref 1), some (.int l3), none]) cd123_39 rfl rfl rfl rfl rfl (O10.o (OH.q0 hw)) (t_Tape_put (by omega) (OH.q0 hw) hx) ?_
    refine g_aload_n cd123_42 rfl rfl ?_
    refine g_getP cd123_43 rfl (OH.o hw) (OH.p0 hw) ?_
    refine g_iload cd123_46 rfl rfl ?_
    obtain ⟨x4, hx, h⟩ := bnd h
    refine g_callVV (L := [some (.ref 1), some (.int l4), none]) cd123_48 rfl rfl rfl rfl rfl (O10.o (OH.q0 hw)) (t_Tape_put (by omega) (OH.q0 hw) hx) ?_
    refine g_aload_n cd123_51 rfl rfl ?_
    refine g_getP cd123_52 rfl (OH.o hw) (OH.p0 hw) ?_
    refine g_iload cd123_55 rfl rfl ?_
    obtain ⟨x5, hx, h⟩ := bnd h
    refine g_callVV (L := [some (.ref 1), some (.int l5), none]) cd123_57 rfl rfl rfl rfl rfl (O10.o (OH.q0 hw)) (t_Tape_put (by omega) (OH.q0 hw) hx) ?_
    refine g_aload_n cd123_60 rfl rfl ?_
    refine g_getP cd123_61 rfl (OH.o hw) (OH.p0 hw) ?_
    refine g_getI cd123_64 rfl (O10.o (OH.q0 hw)) ?_
    exact g_iret cd123_67 (Or.inl rfl) (by obtain rfl := Option.some.inj h; rfl)
  · have h := ifnE hb h
    refine g_iconst cd123_16 rfl ?_
    exact g_iret cd123_17 (Or.inl rfl) (by obtain rfl := Option.some.inj h; rfl)
/-! HiddenOrLost.end(I)Z -/
theorem cd124_0 : code9 124 0 = some (0, .iload_n 1, [1], .null, []) := rfl
theorem cd124_1 : code9 124 1 = some (0, .ifCond .lt 14, [3, 15], .null, []) := rfl
theorem cd124_4 : code9 124 4 = some (0, .iload_n 1, [1], .null, []) := rfl
theorem cd124_5 : code9 124 5 = some (0, .aload_n 0, [1], .null, []) := rfl
theorem cd124_6 : code9 124 6 = some (0, .getfield 10, [3, 11, 0, 2], .null, []) := rfl
theorem cd124_9 : code9 124 9 = some (0, .getfield 115, [3, 10, 5, 0], .null, []) := rfl
theorem cd124_12 : code9 124 12 = some (0, .if_icmp .le 5, [3, 17], .null, []) := rfl
theorem cd124_15 : code9 124 15 = some (3, .iconst 0, [1], .int 0, []) := rfl
theorem cd124_16 : code9 124 16 = some (0, .ireturn, [1, 3], .null, []) := rfl
theorem cd124_17 : code9 124 17 = some (0, .aload_n 0, [1], .null, []) := rfl
theorem cd124_18 : code9 124 18 = some (0, .getfield 10, [3, 11, 0, 2], .null, []) := rfl
theorem cd124_21 : code9 124 21 = some (0, .iload_n 1, [1], .null, []) := rfl
theorem cd124_22 : code9 124 22 = some (0, .putfield 115, [3, 10, 5, 0], .null, []) := rfl
theorem cd124_25 : code9 124 25 = some (0, .iconst 1, [1], .int 1, []) := rfl
theorem cd124_26 : code9 124 26 = some (0, .ireturn, [1, 3], .null, []) := rfl
def Hol_end (ln sp sn ss : Nat) (l1 : Int32) (I : FI) : Option (Bool × FI) := if l1 < 0 then (some (false, I)) else (if l1 ≤ (I 1 5) then (Option.bind (some (up2 I 1 5 l1)) fun I1 => (some (true, I1))) else (some (false, I)))
set_option maxRecDepth 8000 in
theorem t_Hol_end {d : Nat} {ln sp sn ss : Nat} {c : Nat × Nat} {S : Nat → Nat × Nat} {P : Nat → Nat → Option Nat} {I : FI} {J : FJ} {l1 : Int32} {r : Bool × FI} (hd : 0 ≤ d) (hw : OH S P ln sp sn ss) (h : Hol_end ln sp sn ss l1 I = some r) : Go d M_Hol_end 0 [some (.ref 0), some (.int l1)] [] (c, S, I, J, P) (some (.int (b2i r.1)), false, (c, S, r.2, J, P)) := by
  unfold Hol_end at h
  refine g_iload_n cd124_0 rfl rfl ?_
  refine g_if_lt cd124_1 rfl (fun hb => ?_) (fun hb => ?_)
  · have h := ifpE hb h
    refine g_iconst cd124_15 rfl ?_
    exact g_iret cd124_16 (Or.inr ⟨rfl, Or.inl rfl⟩) (by obtain rfl := Option.some.inj h; rfl)
  · have h := ifnE hb h
    refine g_iload_n cd124_4 rfl rfl ?_
    refine g_aload_n cd124_5 rfl rfl ?_
    refine g_getP cd124_6 rfl (OH.o hw) (OH.p0 hw) ?_
    refine g_getI cd124_9 rfl (O10.o (OH.q0 hw)) ?_
    refine g_icmp_le cd124_12 rfl (fun hb => ?_) (fun hb => ?_)
    · have h := ifpE hb h
      refine g_aload_n cd124_17 rfl rfl ?_
      refine g_getP cd124_18 rfl (OH.o hw) (OH.p0 hw) ?_
      refine g_iload_n cd124_21 rfl rfl ?_
      obtain ⟨I1, e1, h⟩ := bnd h
      refine G_putI cd124_22 rfl (O10.o (OH.q0 hw)) (Option.some.inj e1) ?_
      refine g_iconst cd124_25 rfl ?_
      exact g_iret cd124_26 (Or.inr ⟨rfl, Or.inr rfl⟩) (by obtain rfl := Option.some.inj h; rfl)
    · have h := ifnE hb h
      refine g_iconst cd124_15 rfl ?_
      exact g_iret cd124_16 (Or.inr ⟨rfl, Or.inl rfl⟩) (by obtain rfl := Option.some.inj h; rfl)
/-! HiddenOrLost.fault()I -/
theorem cd126_0 : code9 126 0 = some (0, .aload_n 0, [1], .null, []) := rfl
theorem cd126_1 : code9 126 1 = some (0, .getfield 105, [3, 11, 17, 0], .null, []) := rfl
theorem cd126_4 : code9 126 4 = some (0, .ireturn, [1, 1], .null, []) := rfl
def Hol_fault (ln sp sn ss : Nat) (I : FI) : Int32 := I 0 17
set_option maxRecDepth 8000 in
theorem t_Hol_fault {d : Nat} {ln sp sn ss : Nat} {c : Nat × Nat} {S : Nat → Nat × Nat} {P : Nat → Nat → Option Nat} {I : FI} {J : FJ} {r : Int32} (hd : 0 ≤ d) (hw : OH S P ln sp sn ss) (h : Hol_fault ln sp sn ss I = r) : Go d M_Hol_fault 0 [some (.ref 0)] [] (c, S, I, J, P) (some (.int r), false, (c, S, I, J, P)) := by
  unfold Hol_fault at h
  refine g_aload_n cd126_0 rfl rfl ?_
  refine g_getI cd126_1 rfl (OH.o hw) ?_
  exact g_iret cd126_4 (Or.inl rfl) (by subst h; rfl)
/-! HiddenOrLost.person(II)I -/
theorem cd127_0 : code9 127 0 = some (0, .aload_n 0, [1], .null, []) := rfl
theorem cd127_1 : code9 127 1 = some (0, .getfield 19, [3, 11, 1, 2], .null, []) := rfl
theorem cd127_4 : code9 127 4 = some (0, .iload_n 1, [1], .null, []) := rfl
theorem cd127_5 : code9 127 5 = some (0, .invokevirtual 167, [3, 52, 2, 1, 3, 2, 6, 0], .null, []) := rfl
theorem cd127_8 : code9 127 8 = some (0, .ifCond .ne 5, [3, 13], .null, []) := rfl
theorem cd127_11 : code9 127 11 = some (0, .iconst (-1), [1], .int (-1), []) := rfl
theorem cd127_12 : code9 127 12 = some (0, .ireturn, [1, 1], .null, []) := rfl
theorem cd127_13 : code9 127 13 = some (0, .iload_n 2, [1], .null, []) := rfl
theorem cd127_14 : code9 127 14 = some (0, .tableswitch 73 0 3 #[30, 40, 53, 63], [30, 87], .null, [(0, 44), (1, 54), (2, 67), (3, 77)]) := rfl
theorem cd127_44 : code9 127 44 = some (0, .aload_n 0, [1], .null, []) := rfl
theorem cd127_45 : code9 127 45 = some (0, .getfield 29, [3, 11, 3, 2], .null, []) := rfl
theorem cd127_48 : code9 127 48 = some (0, .getfield 170, [3, 9, 5, 2], .null, []) := rfl
theorem cd127_51 : code9 127 51 = some (0, .iload_n 1, [1], .null, []) := rfl
theorem cd127_52 : code9 127 52 = some (0, .iaload, [1], .null, []) := rfl
theorem cd127_53 : code9 127 53 = some (0, .ireturn, [1, 1], .null, []) := rfl
theorem cd127_54 : code9 127 54 = some (0, .aload_n 0, [1], .null, []) := rfl
theorem cd127_55 : code9 127 55 = some (0, .getfield 29, [3, 11, 3, 2], .null, []) := rfl
theorem cd127_58 : code9 127 58 = some (0, .aload_n 0, [1], .null, []) := rfl
theorem cd127_59 : code9 127 59 = some (0, .getfield 19, [3, 11, 1, 2], .null, []) := rfl
theorem cd127_62 : code9 127 62 = some (0, .iload_n 1, [1], .null, []) := rfl
theorem cd127_63 : code9 127 63 = some (0, .invokevirtual 173, [3, 82, 3, 1, 1, 5, 9, 0], .null, []) := rfl
theorem cd127_66 : code9 127 66 = some (0, .ireturn, [1, 1], .null, []) := rfl
theorem cd127_67 : code9 127 67 = some (0, .aload_n 0, [1], .null, []) := rfl
theorem cd127_68 : code9 127 68 = some (0, .getfield 29, [3, 11, 3, 2], .null, []) := rfl
theorem cd127_71 : code9 127 71 = some (0, .getfield 177, [3, 9, 6, 2], .null, []) := rfl
theorem cd127_74 : code9 127 74 = some (0, .iload_n 1, [1], .null, []) := rfl
theorem cd127_75 : code9 127 75 = some (0, .iaload, [1], .null, []) := rfl
theorem cd127_76 : code9 127 76 = some (0, .ireturn, [1, 1], .null, []) := rfl
theorem cd127_77 : code9 127 77 = some (0, .aload_n 0, [1], .null, []) := rfl
theorem cd127_78 : code9 127 78 = some (0, .getfield 29, [3, 11, 3, 2], .null, []) := rfl
theorem cd127_81 : code9 127 81 = some (0, .getfield 180, [3, 9, 7, 2], .null, []) := rfl
theorem cd127_84 : code9 127 84 = some (0, .iload_n 1, [1], .null, []) := rfl
theorem cd127_85 : code9 127 85 = some (0, .iaload, [1], .null, []) := rfl
theorem cd127_86 : code9 127 86 = some (0, .ireturn, [1, 1], .null, []) := rfl
theorem cd127_87 : code9 127 87 = some (0, .iconst (-1), [1], .int (-1), []) := rfl
theorem cd127_88 : code9 127 88 = some (0, .ireturn, [1, 1], .null, []) := rfl
def Hol_person (N : Nat) (ln sp sn ss : Nat) (l1 : Int32) (l2 : Int32) (I : FI) : Option (Int32) := if (Land_hasPerson ln l1 I) then (if l2 = 0 then (if in9 l1 6 then (some (I 31 l1.toNatClampNeg)) else none) else (if l2 = 1 then (Option.bind (State_hadBy N 25 ln l1 I) fun x2 => (some x2)) else (if l2 = 2 then (if in9 l1 6 then (some (I 32 l1.toNatClampNeg)) else none) else (if l2 = 3 then (if in9 l1 6 then (some (I 33 l1.toNatClampNeg)) else none) else (some (-1)))))) else (some (-1))
set_option maxRecDepth 8000 in
theorem t_Hol_person {d : Nat} {N : Nat} {ln sp sn ss : Nat} {c : Nat × Nat} {S : Nat → Nat × Nat} {P : Nat → Nat → Option Nat} {I : FI} {J : FJ} {l1 : Int32} {l2 : Int32} {r : Int32} (hd : 1 ≤ d) (hw : OH S P ln sp sn ss) (h : Hol_person N ln sp sn ss l1 l2 I = some r) : Go d M_Hol_person 0 [some (.ref 0), some (.int l1), some (.int l2)] [] (c, S, I, J, P) (some (.int r), false, (c, S, I, J, P)) := by
  obtain ⟨d, rfl⟩ : ∃ e, d = e + 1 := ⟨d - 1, by omega⟩
  unfold Hol_person at h
  refine g_aload_n cd127_0 rfl rfl ?_
  refine g_getP cd127_1 rfl (OH.o hw) (OH.p1 hw) ?_
  refine g_iload_n cd127_4 rfl rfl ?_
  refine g_callVZ (L := [some (.ref ln), some (.int l1)]) cd127_5 rfl rfl rfl rfl rfl (O6.o (OH.q1 hw)) (t_Land_hasPerson (by omega) (OH.q1 hw) rfl) ?_
  refine g_if_ne cd127_8 rfl (fun hb => ?_) (fun hb => ?_)
  · have h := ifnE (b2i_f hb) h
    refine g_iconst cd127_11 rfl ?_
    exact g_iret cd127_12 (Or.inl rfl) (by obtain rfl := Option.some.inj h; rfl)
  · have h := ifpE (b2i_t hb) h
    refine g_iload_n cd127_13 rfl rfl ?_
    refine g_tableswitch cd127_14 rfl ?_
    refine ifi (fun hb => ?_) (fun hb => ?_)
    · have h := ifpE hb h
      show Go _ _ 44 [some (.ref 0), some (.int l1), some (.int l2)] [] _ _
      refine g_aload_n cd127_44 rfl rfl ?_
      refine g_getP cd127_45 rfl (OH.o hw) (OH.p3 hw) ?_
      refine g_getP cd127_48 rfl (O9.o (OH.q3 hw)) (show P 25 5 = some 31 from O9.p5 (OH.q3 hw)) ?_
      refine g_iload_n cd127_51 rfl rfl ?_
      obtain ⟨hg1, h⟩ := grd h
      refine G_iald cd127_52 rfl (show S 31 = (1, 6) from O9.s5 (OH.q3 hw)) hg1 ?_
      exact g_iret cd127_53 (Or.inl rfl) (by obtain rfl := Option.some.inj h; rfl)
    have h := ifnE hb h
    refine ifi (fun hb => ?_) (fun hb => ?_)
    · have h := ifpE hb h
      show Go _ _ 54 [some (.ref 0), some (.int l1), some (.int l2)] [] _ _
      refine g_aload_n cd127_54 rfl rfl ?_
      refine g_getP cd127_55 rfl (OH.o hw) (OH.p3 hw) ?_
      refine g_aload_n cd127_58 rfl rfl ?_
      refine g_getP cd127_59 rfl (OH.o hw) (OH.p1 hw) ?_
      refine g_iload_n cd127_62 rfl rfl ?_
      obtain ⟨x2, hx, h⟩ := bnd h
      refine g_callVI (L := [some (.ref 25), some (.ref ln), some (.int l1), none, none]) cd127_63 rfl rfl rfl rfl rfl (O9.o (OH.q3 hw)) (t_State_hadBy (by omega) (OH.q3 hw) (OH.q1 hw) hx) ?_
      exact g_iret cd127_66 (Or.inl rfl) (by obtain rfl := Option.some.inj h; rfl)
    have h := ifnE hb h
    refine ifi (fun hb => ?_) (fun hb => ?_)
    · have h := ifpE hb h
      show Go _ _ 67 [some (.ref 0), some (.int l1), some (.int l2)] [] _ _
      refine g_aload_n cd127_67 rfl rfl ?_
      refine g_getP cd127_68 rfl (OH.o hw) (OH.p3 hw) ?_
      refine g_getP cd127_71 rfl (O9.o (OH.q3 hw)) (show P 25 6 = some 32 from O9.p6 (OH.q3 hw)) ?_
      refine g_iload_n cd127_74 rfl rfl ?_
      obtain ⟨hg3, h⟩ := grd h
      refine G_iald cd127_75 rfl (show S 32 = (1, 6) from O9.s6 (OH.q3 hw)) hg3 ?_
      exact g_iret cd127_76 (Or.inl rfl) (by obtain rfl := Option.some.inj h; rfl)
    have h := ifnE hb h
    refine ifi (fun hb => ?_) (fun hb => ?_)
    · have h := ifpE hb h
      show Go _ _ 77 [some (.ref 0), some (.int l1), some (.int l2)] [] _ _
      refine g_aload_n cd127_77 rfl rfl ?_
      refine g_getP cd127_78 rfl (OH.o hw) (OH.p3 hw) ?_
      refine g_getP cd127_81 rfl (O9.o (OH.q3 hw)) (show P 25 7 = some 33 from O9.p7 (OH.q3 hw)) ?_
      refine g_iload_n cd127_84 rfl rfl ?_
      obtain ⟨hg4, h⟩ := grd h
      refine G_iald cd127_85 rfl (show S 33 = (1, 6) from O9.s7 (OH.q3 hw)) hg4 ?_
      exact g_iret cd127_86 (Or.inl rfl) (by obtain rfl := Option.some.inj h; rfl)
    have h := ifnE hb h
    show Go _ _ 87 [some (.ref 0), some (.int l1), some (.int l2)] [] _ _
    refine g_iconst cd127_87 rfl ?_
    exact g_iret cd127_88 (Or.inl rfl) (by obtain rfl := Option.some.inj h; rfl)
/-! HiddenOrLost.cell(III)I -/
theorem cd128_0 : code9 128 0 = some (0, .aload_n 0, [1], .null, []) := rfl
theorem cd128_1 : code9 128 1 = some (0, .getfield 19, [3, 11, 1, 2], .null, []) := rfl
theorem cd128_4 : code9 128 4 = some (0, .iload_n 1, [1], .null, []) := rfl
theorem cd128_5 : code9 128 5 = some (0, .iload_n 2, [1], .null, []) := rfl
theorem cd128_6 : code9 128 6 = some (0, .invokevirtual 183, [3, 53, 3, 1, 3, 3, 6, 0], .null, []) := rfl
theorem cd128_9 : code9 128 9 = some (0, .ifCond .ne 5, [3, 14], .null, []) := rfl
theorem cd128_12 : code9 128 12 = some (0, .iconst (-1), [1], .int (-1), []) := rfl
theorem cd128_13 : code9 128 13 = some (0, .ireturn, [1, 1], .null, []) := rfl
theorem cd128_14 : code9 128 14 = some (0, .iload_n 3, [1], .null, []) := rfl
theorem cd128_15 : code9 128 15 = some (0, .tableswitch 68 0 2 #[25, 40, 54], [25, 83], .null, [(0, 40), (1, 55), (2, 69)]) := rfl
theorem cd128_40 : code9 128 40 = some (0, .aload_n 0, [1], .null, []) := rfl
theorem cd128_41 : code9 128 41 = some (0, .getfield 29, [3, 11, 3, 2], .null, []) := rfl
theorem cd128_44 : code9 128 44 = some (0, .getfield 187, [3, 9, 8, 2], .null, []) := rfl
theorem cd128_47 : code9 128 47 = some (0, .bipush 6, [2], .int 6, []) := rfl
theorem cd128_49 : code9 128 49 = some (0, .iload_n 2, [1], .null, []) := rfl
theorem cd128_50 : code9 128 50 = some (0, .imul, [1], .null, []) := rfl
theorem cd128_51 : code9 128 51 = some (0, .iload_n 1, [1], .null, []) := rfl
theorem cd128_52 : code9 128 52 = some (0, .iadd, [1], .null, []) := rfl
theorem cd128_53 : code9 128 53 = some (0, .iaload, [1], .null, []) := rfl
theorem cd128_54 : code9 128 54 = some (0, .ireturn, [1, 1], .null, []) := rfl
theorem cd128_55 : code9 128 55 = some (0, .aload_n 0, [1], .null, []) := rfl
theorem cd128_56 : code9 128 56 = some (0, .getfield 29, [3, 11, 3, 2], .null, []) := rfl
theorem cd128_59 : code9 128 59 = some (0, .aload_n 0, [1], .null, []) := rfl
theorem cd128_60 : code9 128 60 = some (0, .getfield 19, [3, 11, 1, 2], .null, []) := rfl
theorem cd128_63 : code9 128 63 = some (0, .iload_n 1, [1], .null, []) := rfl
theorem cd128_64 : code9 128 64 = some (0, .iload_n 2, [1], .null, []) := rfl
theorem cd128_65 : code9 128 65 = some (0, .invokevirtual 190, [3, 83, 4, 1, 1, 6, 9, 0], .null, []) := rfl
theorem cd128_68 : code9 128 68 = some (0, .ireturn, [1, 1], .null, []) := rfl
theorem cd128_69 : code9 128 69 = some (0, .aload_n 0, [1], .null, []) := rfl
theorem cd128_70 : code9 128 70 = some (0, .getfield 29, [3, 11, 3, 2], .null, []) := rfl
theorem cd128_73 : code9 128 73 = some (0, .aload_n 0, [1], .null, []) := rfl
theorem cd128_74 : code9 128 74 = some (0, .getfield 19, [3, 11, 1, 2], .null, []) := rfl
theorem cd128_77 : code9 128 77 = some (0, .iload_n 1, [1], .null, []) := rfl
theorem cd128_78 : code9 128 78 = some (0, .iload_n 2, [1], .null, []) := rfl
theorem cd128_79 : code9 128 79 = some (0, .invokevirtual 194, [3, 84, 4, 1, 1, 7, 9, 0], .null, []) := rfl
theorem cd128_82 : code9 128 82 = some (0, .ireturn, [1, 1], .null, []) := rfl
theorem cd128_83 : code9 128 83 = some (0, .iconst (-1), [1], .int (-1), []) := rfl
theorem cd128_84 : code9 128 84 = some (0, .ireturn, [1, 1], .null, []) := rfl
def Hol_cell (N : Nat) (ln sp sn ss : Nat) (l1 : Int32) (l2 : Int32) (l3 : Int32) (I : FI) : Option (Int32) := if (Land_hasCell ln l1 l2 I) then (if l3 = 0 then (if in9 ((6 * l2) + l1) 36 then (some (I 34 (((6 * l2) + l1).toNatClampNeg))) else none) else (if l3 = 1 then (Option.bind (State_inGroundOf N 25 ln l1 l2 I) fun x2 => (some x2)) else (if l3 = 2 then (Option.bind (State_worthOf N 25 ln l1 l2 I) fun x3 => (some x3)) else (some (-1))))) else (some (-1))
set_option maxRecDepth 8000 in
theorem t_Hol_cell {d : Nat} {N : Nat} {ln sp sn ss : Nat} {c : Nat × Nat} {S : Nat → Nat × Nat} {P : Nat → Nat → Option Nat} {I : FI} {J : FJ} {l1 : Int32} {l2 : Int32} {l3 : Int32} {r : Int32} (hd : 2 ≤ d) (hw : OH S P ln sp sn ss) (h : Hol_cell N ln sp sn ss l1 l2 l3 I = some r) : Go d M_Hol_cell 0 [some (.ref 0), some (.int l1), some (.int l2), some (.int l3)] [] (c, S, I, J, P) (some (.int r), false, (c, S, I, J, P)) := by
  obtain ⟨d, rfl⟩ : ∃ e, d = e + 1 := ⟨d - 1, by omega⟩
  unfold Hol_cell at h
  refine g_aload_n cd128_0 rfl rfl ?_
  refine g_getP cd128_1 rfl (OH.o hw) (OH.p1 hw) ?_
  refine g_iload_n cd128_4 rfl rfl ?_
  refine g_iload_n cd128_5 rfl rfl ?_
  refine g_callVZ (L := [some (.ref ln), some (.int l1), some (.int l2)]) cd128_6 rfl rfl rfl rfl rfl (O6.o (OH.q1 hw)) (t_Land_hasCell (by omega) (OH.q1 hw) rfl) ?_
  refine g_if_ne cd128_9 rfl (fun hb => ?_) (fun hb => ?_)
  · have h := ifnE (b2i_f hb) h
    refine g_iconst cd128_12 rfl ?_
    exact g_iret cd128_13 (Or.inl rfl) (by obtain rfl := Option.some.inj h; rfl)
  · have h := ifpE (b2i_t hb) h
    refine g_iload_n cd128_14 rfl rfl ?_
    refine g_tableswitch cd128_15 rfl ?_
    refine ifi (fun hb => ?_) (fun hb => ?_)
    · have h := ifpE hb h
      show Go _ _ 40 [some (.ref 0), some (.int l1), some (.int l2), some (.int l3)] [] _ _
      refine g_aload_n cd128_40 rfl rfl ?_
      refine g_getP cd128_41 rfl (OH.o hw) (OH.p3 hw) ?_
      refine g_getP cd128_44 rfl (O9.o (OH.q3 hw)) (show P 25 8 = some 34 from O9.p8 (OH.q3 hw)) ?_
      refine g_bipush cd128_47 rfl ?_
      refine g_iload_n cd128_49 rfl rfl ?_
      refine g_imul cd128_50 rfl ?_
      refine g_iload_n cd128_51 rfl rfl ?_
      refine g_iadd cd128_52 rfl ?_
      obtain ⟨hg1, h⟩ := grd h
      refine G_iald cd128_53 rfl (show S 34 = (1, 36) from O9.s8 (OH.q3 hw)) hg1 ?_
      exact g_iret cd128_54 (Or.inl rfl) (by obtain rfl := Option.some.inj h; rfl)
    have h := ifnE hb h
    refine ifi (fun hb => ?_) (fun hb => ?_)
    · have h := ifpE hb h
      show Go _ _ 55 [some (.ref 0), some (.int l1), some (.int l2), some (.int l3)] [] _ _
      refine g_aload_n cd128_55 rfl rfl ?_
      refine g_getP cd128_56 rfl (OH.o hw) (OH.p3 hw) ?_
      refine g_aload_n cd128_59 rfl rfl ?_
      refine g_getP cd128_60 rfl (OH.o hw) (OH.p1 hw) ?_
      refine g_iload_n cd128_63 rfl rfl ?_
      refine g_iload_n cd128_64 rfl rfl ?_
      obtain ⟨x2, hx, h⟩ := bnd h
      refine g_callVI (L := [some (.ref 25), some (.ref ln), some (.int l1), some (.int l2), none, none]) cd128_65 rfl rfl rfl rfl rfl (O9.o (OH.q3 hw)) (t_State_inGroundOf (by omega) (OH.q3 hw) (OH.q1 hw) hx) ?_
      exact g_iret cd128_68 (Or.inl rfl) (by obtain rfl := Option.some.inj h; rfl)
    have h := ifnE hb h
    refine ifi (fun hb => ?_) (fun hb => ?_)
    · have h := ifpE hb h
      show Go _ _ 69 [some (.ref 0), some (.int l1), some (.int l2), some (.int l3)] [] _ _
      refine g_aload_n cd128_69 rfl rfl ?_
      refine g_getP cd128_70 rfl (OH.o hw) (OH.p3 hw) ?_
      refine g_aload_n cd128_73 rfl rfl ?_
      refine g_getP cd128_74 rfl (OH.o hw) (OH.p1 hw) ?_
      refine g_iload_n cd128_77 rfl rfl ?_
      refine g_iload_n cd128_78 rfl rfl ?_
      obtain ⟨x3, hx, h⟩ := bnd h
      refine g_callVI (L := [some (.ref 25), some (.ref ln), some (.int l1), some (.int l2), none, none, none]) cd128_79 rfl rfl rfl rfl rfl (O9.o (OH.q3 hw)) (t_State_worthOf (by omega) (OH.q3 hw) (OH.q1 hw) hx) ?_
      exact g_iret cd128_82 (Or.inl rfl) (by obtain rfl := Option.some.inj h; rfl)
    have h := ifnE hb h
    show Go _ _ 83 [some (.ref 0), some (.int l1), some (.int l2), some (.int l3)] [] _ _
    refine g_iconst cd128_83 rfl ?_
    exact g_iret cd128_84 (Or.inl rfl) (by obtain rfl := Option.some.inj h; rfl)
/-! HiddenOrLost.now(I)I -/
theorem cd129_0 : code9 129 0 = some (0, .iload_n 1, [1], .null, []) := rfl
theorem cd129_1 : code9 129 1 = some (0, .tableswitch 124 0 8 #[51, 59, 59, 59, 59, 74, 89, 104, 116], [51, 125], .null, [(0, 52), (1, 60), (2, 60), (3, 60), (4, 60), (5, 75), (6, 90), (7, 105), (8, 117)]) := rfl
theorem cd129_52 : code9 129 52 = some (0, .aload_n 0, [1], .null, []) := rfl
theorem cd129_53 : code9 129 53 = some (0, .getfield 29, [3, 11, 3, 2], .null, []) := rfl
theorem cd129_56 : code9 129 56 = some (0, .getfield 197, [3, 9, 9, 0], .null, []) := rfl
theorem cd129_59 : code9 129 59 = some (0, .ireturn, [1, 1], .null, []) := rfl
theorem cd129_60 : code9 129 60 = some (0, .aload_n 0, [1], .null, []) := rfl
theorem cd129_61 : code9 129 61 = some (0, .getfield 29, [3, 11, 3, 2], .null, []) := rfl
theorem cd129_64 : code9 129 64 = some (0, .aload_n 0, [1], .null, []) := rfl
theorem cd129_65 : code9 129 65 = some (0, .getfield 19, [3, 11, 1, 2], .null, []) := rfl
theorem cd129_68 : code9 129 68 = some (0, .iload_n 1, [1], .null, []) := rfl
theorem cd129_69 : code9 129 69 = some (0, .iconst 1, [1], .int 1, []) := rfl
theorem cd129_70 : code9 129 70 = some (0, .isub, [1], .null, []) := rfl
theorem cd129_71 : code9 129 71 = some (0, .invokevirtual 200, [3, 86, 3, 1, 1, 5, 9, 0], .null, []) := rfl
theorem cd129_74 : code9 129 74 = some (0, .ireturn, [1, 1], .null, []) := rfl
theorem cd129_75 : code9 129 75 = some (0, .aload_n 0, [1], .null, []) := rfl
theorem cd129_76 : code9 129 76 = some (0, .getfield 29, [3, 11, 3, 2], .null, []) := rfl
theorem cd129_79 : code9 129 79 = some (0, .aload_n 0, [1], .null, []) := rfl
theorem cd129_80 : code9 129 80 = some (0, .getfield 29, [3, 11, 3, 2], .null, []) := rfl
theorem cd129_83 : code9 129 83 = some (0, .getfield 170, [3, 9, 5, 2], .null, []) := rfl
theorem cd129_86 : code9 129 86 = some (0, .invokevirtual 203, [3, 87, 2, 1, 1, 4, 9, 0], .null, []) := rfl
theorem cd129_89 : code9 129 89 = some (0, .ireturn, [1, 1], .null, []) := rfl
theorem cd129_90 : code9 129 90 = some (0, .aload_n 0, [1], .null, []) := rfl
theorem cd129_91 : code9 129 91 = some (0, .getfield 29, [3, 11, 3, 2], .null, []) := rfl
theorem cd129_94 : code9 129 94 = some (0, .aload_n 0, [1], .null, []) := rfl
theorem cd129_95 : code9 129 95 = some (0, .getfield 29, [3, 11, 3, 2], .null, []) := rfl
theorem cd129_98 : code9 129 98 = some (0, .getfield 177, [3, 9, 6, 2], .null, []) := rfl
theorem cd129_101 : code9 129 101 = some (0, .invokevirtual 203, [3, 87, 2, 1, 1, 4, 9, 0], .null, []) := rfl
theorem cd129_104 : code9 129 104 = some (0, .ireturn, [1, 1], .null, []) := rfl
theorem cd129_105 : code9 129 105 = some (0, .aload_n 0, [1], .null, []) := rfl
theorem cd129_106 : code9 129 106 = some (0, .getfield 29, [3, 11, 3, 2], .null, []) := rfl
theorem cd129_109 : code9 129 109 = some (0, .aload_n 0, [1], .null, []) := rfl
theorem cd129_110 : code9 129 110 = some (0, .getfield 19, [3, 11, 1, 2], .null, []) := rfl
theorem cd129_113 : code9 129 113 = some (0, .invokevirtual 207, [3, 88, 2, 1, 1, 2, 9, 0], .null, []) := rfl
theorem cd129_116 : code9 129 116 = some (0, .ireturn, [1, 1], .null, []) := rfl
theorem cd129_117 : code9 129 117 = some (0, .aload_n 0, [1], .null, []) := rfl
theorem cd129_118 : code9 129 118 = some (0, .getfield 29, [3, 11, 3, 2], .null, []) := rfl
theorem cd129_121 : code9 129 121 = some (0, .getfield 211, [3, 9, 10, 0], .null, []) := rfl
theorem cd129_124 : code9 129 124 = some (0, .ireturn, [1, 1], .null, []) := rfl
theorem cd129_125 : code9 129 125 = some (0, .iconst (-1), [1], .int (-1), []) := rfl
theorem cd129_126 : code9 129 126 = some (0, .ireturn, [1, 1], .null, []) := rfl
def Hol_now (N : Nat) (ln sp sn ss : Nat) (l1 : Int32) (I : FI) : Option (Int32) := if l1 = 0 then (some (I 25 9)) else (if l1 = 1 then (Option.bind (State_bitsOf N 25 ln (l1 - 1) I) fun x1 => (some x1)) else (if l1 = 2 then (Option.bind (State_bitsOf N 25 ln (l1 - 1) I) fun x2 => (some x2)) else (if l1 = 3 then (Option.bind (State_bitsOf N 25 ln (l1 - 1) I) fun x3 => (some x3)) else (if l1 = 4 then (Option.bind (State_bitsOf N 25 ln (l1 - 1) I) fun x4 => (some x4)) else (if l1 = 5 then (Option.bind (State_sumOf N 25 31 6 I) fun x5 => (some x5)) else (if l1 = 6 then (Option.bind (State_sumOf N 25 32 6 I) fun x6 => (some x6)) else (if l1 = 7 then (Option.bind (State_toldValue N 25 ln I) fun x7 => (some x7)) else (if l1 = 8 then (some (I 25 10)) else (some (-1))))))))))
set_option maxRecDepth 8000 in
theorem t_Hol_now {d : Nat} {N : Nat} {ln sp sn ss : Nat} {c : Nat × Nat} {S : Nat → Nat × Nat} {P : Nat → Nat → Option Nat} {I : FI} {J : FJ} {l1 : Int32} {r : Int32} (hd : 3 ≤ d) (hw : OH S P ln sp sn ss) (h : Hol_now N ln sp sn ss l1 I = some r) : Go d M_Hol_now 0 [some (.ref 0), some (.int l1)] [] (c, S, I, J, P) (some (.int r), false, (c, S, I, J, P)) := by
  obtain ⟨d, rfl⟩ : ∃ e, d = e + 1 := ⟨d - 1, by omega⟩
  unfold Hol_now at h
  refine g_iload_n cd129_0 rfl rfl ?_
  refine g_tableswitch cd129_1 rfl ?_
  refine ifi (fun hb => ?_) (fun hb => ?_)
  · have h := ifpE hb h
    show Go _ _ 52 [some (.ref 0), some (.int l1)] [] _ _
    refine g_aload_n cd129_52 rfl rfl ?_
    refine g_getP cd129_53 rfl (OH.o hw) (OH.p3 hw) ?_
    refine g_getI cd129_56 rfl (O9.o (OH.q3 hw)) ?_
    exact g_iret cd129_59 (Or.inl rfl) (by obtain rfl := Option.some.inj h; rfl)
  have h := ifnE hb h
  refine ifi (fun hb => ?_) (fun hb => ?_)
  · have h := ifpE hb h
    show Go _ _ 60 [some (.ref 0), some (.int l1)] [] _ _
    refine g_aload_n cd129_60 rfl rfl ?_
    refine g_getP cd129_61 rfl (OH.o hw) (OH.p3 hw) ?_
    refine g_aload_n cd129_64 rfl rfl ?_
    refine g_getP cd129_65 rfl (OH.o hw) (OH.p1 hw) ?_
    refine g_iload_n cd129_68 rfl rfl ?_
    refine g_iconst cd129_69 rfl ?_
    refine g_isub cd129_70 rfl ?_
    obtain ⟨x1, hx, h⟩ := bnd h
    refine g_callVI (L := [some (.ref 25), some (.ref ln), some (.int (l1 - 1)), none, none]) cd129_71 rfl rfl rfl rfl rfl (O9.o (OH.q3 hw)) (t_State_bitsOf (by omega) (OH.q3 hw) (OH.q1 hw) hx) ?_
    exact g_iret cd129_74 (Or.inl rfl) (by obtain rfl := Option.some.inj h; rfl)
  have h := ifnE hb h
  refine ifi (fun hb => ?_) (fun hb => ?_)
  · have h := ifpE hb h
    show Go _ _ 60 [some (.ref 0), some (.int l1)] [] _ _
    refine g_aload_n cd129_60 rfl rfl ?_
    refine g_getP cd129_61 rfl (OH.o hw) (OH.p3 hw) ?_
    refine g_aload_n cd129_64 rfl rfl ?_
    refine g_getP cd129_65 rfl (OH.o hw) (OH.p1 hw) ?_
    refine g_iload_n cd129_68 rfl rfl ?_
    refine g_iconst cd129_69 rfl ?_
    refine g_isub cd129_70 rfl ?_
    obtain ⟨x2, hx, h⟩ := bnd h
    refine g_callVI (L := [some (.ref 25), some (.ref ln), some (.int (l1 - 1)), none, none]) cd129_71 rfl rfl rfl rfl rfl (O9.o (OH.q3 hw)) (t_State_bitsOf (by omega) (OH.q3 hw) (OH.q1 hw) hx) ?_
    exact g_iret cd129_74 (Or.inl rfl) (by obtain rfl := Option.some.inj h; rfl)
  have h := ifnE hb h
  refine ifi (fun hb => ?_) (fun hb => ?_)
  · have h := ifpE hb h
    show Go _ _ 60 [some (.ref 0), some (.int l1)] [] _ _
    refine g_aload_n cd129_60 rfl rfl ?_
    refine g_getP cd129_61 rfl (OH.o hw) (OH.p3 hw) ?_
    refine g_aload_n cd129_64 rfl rfl ?_
    refine g_getP cd129_65 rfl (OH.o hw) (OH.p1 hw) ?_
    refine g_iload_n cd129_68 rfl rfl ?_
    refine g_iconst cd129_69 rfl ?_
    refine g_isub cd129_70 rfl ?_
    obtain ⟨x3, hx, h⟩ := bnd h
    refine g_callVI (L := [some (.ref 25), some (.ref ln), some (.int (l1 - 1)), none, none]) cd129_71 rfl rfl rfl rfl rfl (O9.o (OH.q3 hw)) (t_State_bitsOf (by omega) (OH.q3 hw) (OH.q1 hw) hx) ?_
    exact g_iret cd129_74 (Or.inl rfl) (by obtain rfl := Option.some.inj h; rfl)
  have h := ifnE hb h
  refine ifi (fun hb => ?_) (fun hb => ?_)
  · have h := ifpE hb h
    show Go _ _ 60 [some (.ref 0), some (.int l1)] [] _ _
    refine g_aload_n cd129_60 rfl rfl ?_
    refine g_getP cd129_61 rfl (OH.o hw) (OH.p3 hw) ?_
    refine g_aload_n cd129_64 rfl rfl ?_
    refine g_getP cd129_65 rfl (OH.o hw) (OH.p1 hw) ?_
    refine g_iload_n cd129_68 rfl rfl ?_
    refine g_iconst cd129_69 rfl ?_
    refine g_isub cd129_70 rfl ?_
    obtain ⟨x4, hx, h⟩ := bnd h
    refine g_callVI (L := [some (.ref 25), some (.ref ln), some (.int (l1 - 1)), none, none]) cd129_71 rfl rfl rfl rfl rfl (O9.o (OH.q3 hw)) (t_State_bitsOf (by omega) (OH.q3 hw) (OH.q1 hw) hx) ?_
    exact g_iret cd129_74 (Or.inl rfl) (by obtain rfl := Option.some.inj h; rfl)
  have h := ifnE hb h
  refine ifi (fun hb => ?_) (fun hb => ?_)
  · have h := ifpE hb h
    show Go _ _ 75 [some (.ref 0), some (.int l1)] [] _ _
    refine g_aload_n cd129_75 rfl rfl ?_
    refine g_getP cd129_76 rfl (OH.o hw) (OH.p3 hw) ?_
    refine g_aload_n cd129_79 rfl rfl ?_
    refine g_getP cd129_80 rfl (OH.o hw) (OH.p3 hw) ?_
    refine g_getP cd129_83 rfl (O9.o (OH.q3 hw)) (show P 25 5 = some 31 from O9.p5 (OH.q3 hw)) ?_
    obtain ⟨x5, hx, h⟩ := bnd h
    refine g_callVI (L := [some (.ref 25), some (.ref 31), none, none]) cd129_86 rfl rfl rfl rfl rfl (O9.o (OH.q3 hw)) (t_State_sumOf (by omega) (OH.q3 hw) (show S 31 = (1, 6) from O9.s5 (OH.q3 hw)) hx) ?_
    exact g_iret cd129_89 (Or.inl rfl) (by obtain rfl := Option.some.inj h; rfl)
  have h := ifnE hb h
  refine ifi (fun hb => ?_) (fun hb => ?_)
  · have h := ifpE hb h
    show Go _ _ 90 [some (.ref 0), some (.int l1)] [] _ _
    refine g_aload_n cd129_90 rfl rfl ?_
    refine g_getP cd129_91 rfl (OH.o hw) (OH.p3 hw) ?_
    refine g_aload_n cd129_94 rfl rfl ?_
    refine g_getP cd129_95 rfl (OH.o hw) (OH.p3 hw) ?_
    refine g_getP cd129_98 rfl (O9.o (OH.q3 hw)) (show P 25 6 = some 32 from O9.p6 (OH.q3 hw)) ?_
    obtain ⟨x6, hx, h⟩ := bnd h
    refine g_callVI (L := [some (.ref 25), some (.ref 32), none, none]) cd129_101 rfl rfl rfl rfl rfl (O9.o (OH.q3 hw)) (t_State_sumOf (by omega) (OH.q3 hw) (show S 32 = (1, 6) from O9.s6 (OH.q3 hw)) hx) ?_
    exact g_iret cd129_104 (Or.inl rfl) (by obtain rfl := Option.some.inj h; rfl)
  have h := ifnE hb h
  refine ifi (fun hb => ?_) (fun hb => ?_)
  · have h := ifpE hb h
    show Go _ _ 105 [some (.ref 0), some (.int l1)] [] _ _
    refine g_aload_n cd129_105 rfl rfl ?_
    refine g_getP cd129_106 rfl (OH.o hw) (OH.p3 hw) ?_
    refine g_aload_n cd129_109 rfl rfl ?_
    refine g_getP cd129_110 rfl (OH.o hw) (OH.p1 hw) ?_
    obtain ⟨x7, hx, h⟩ := bnd h
    refine g_callVI (L := [some (.ref 25), some (.ref ln)]) cd129_113 rfl rfl rfl rfl rfl (O9.o (OH.q3 hw)) (t_State_toldValue (by omega) (OH.q3 hw) (OH.q1 hw) hx) ?_
    exact g_iret cd129_116 (Or.inl rfl) (by obtain rfl := Option.some.inj h; rfl)
  have h := ifnE hb h
  refine ifi (fun hb => ?_) (fun hb => ?_)
  · have h := ifpE hb h
    show Go _ _ 117 [some (.ref 0), some (.int l1)] [] _ _
    refine g_aload_n cd129_117 rfl rfl ?_
    refine g_getP cd129_118 rfl (OH.o hw) (OH.p3 hw) ?_
    refine g_getI cd129_121 rfl (O9.o (OH.q3 hw)) ?_
    exact g_iret cd129_124 (Or.inl rfl) (by obtain rfl := Option.some.inj h; rfl)
  have h := ifnE hb h
  show Go _ _ 125 [some (.ref 0), some (.int l1)] [] _ _
  refine g_iconst cd129_125 rfl ?_
  exact g_iret cd129_126 (Or.inl rfl) (by obtain rfl := Option.some.inj h; rfl)
/-! HiddenOrLost.dig(III)I -/
theorem cd130_0 : code9 130 0 = some (0, .aload_n 0, [1], .null, []) := rfl
theorem cd130_1 : code9 130 1 = some (0, .getfield 19, [3, 11, 1, 2], .null, []) := rfl
theorem cd130_4 : code9 130 4 = some (0, .iload_n 1, [1], .null, []) := rfl
theorem cd130_5 : code9 130 5 = some (0, .invokevirtual 167, [3, 52, 2, 1, 3, 2, 6, 0], .null, []) := rfl
theorem cd130_8 : code9 130 8 = some (0, .ifCond .eq 15, [3, 23], .null, []) := rfl
theorem cd130_11 : code9 130 11 = some (0, .aload_n 0, [1], .null, []) := rfl
theorem cd130_12 : code9 130 12 = some (0, .getfield 19, [3, 11, 1, 2], .null, []) := rfl
theorem cd130_15 : code9 130 15 = some (0, .iload_n 2, [1], .null, []) := rfl
theorem cd130_16 : code9 130 16 = some (0, .iload_n 3, [1], .null, []) := rfl
theorem cd130_17 : code9 130 17 = some (0, .invokevirtual 183, [3, 53, 3, 1, 3, 3, 6, 0], .null, []) := rfl
theorem cd130_20 : code9 130 20 = some (0, .ifCond .ne 5, [3, 25], .null, []) := rfl
theorem cd130_23 : code9 130 23 = some (5, .iconst (-1), [1], .int (-1), []) := rfl
theorem cd130_24 : code9 130 24 = some (0, .ireturn, [1, 1], .null, []) := rfl
theorem cd130_25 : code9 130 25 = some (0, .aload_n 0, [1], .null, []) := rfl
theorem cd130_26 : code9 130 26 = some (0, .getfield 29, [3, 11, 3, 2], .null, []) := rfl
theorem cd130_29 : code9 130 29 = some (0, .iload_n 2, [1], .null, []) := rfl
theorem cd130_30 : code9 130 30 = some (0, .iload_n 3, [1], .null, []) := rfl
theorem cd130_31 : code9 130 31 = some (0, .invokevirtual 214, [3, 85, 3, 1, 3, 4, 9, 0], .null, []) := rfl
theorem cd130_34 : code9 130 34 = some (0, .ifCond .ne 6, [3, 40], .null, []) := rfl
theorem cd130_37 : code9 130 37 = some (0, .bipush (-2), [2], .int (-2), []) := rfl
theorem cd130_39 : code9 130 39 = some (0, .ireturn, [1, 1], .null, []) := rfl
theorem cd130_40 : code9 130 40 = some (0, .aload_n 0, [1], .null, []) := rfl
theorem cd130_41 : code9 130 41 = some (0, .getfield 56, [3, 11, 8, 2], .null, []) := rfl
theorem cd130_44 : code9 130 44 = some (0, .aload_n 0, [1], .null, []) := rfl
theorem cd130_45 : code9 130 45 = some (0, .getfield 29, [3, 11, 3, 2], .null, []) := rfl
theorem cd130_48 : code9 130 48 = some (0, .invokevirtual 217, [3, 25, 2, 1, 0, 3, 3, 0], .null, []) := rfl
theorem cd130_51 : code9 130 51 = some (0, .aload_n 0, [1], .null, []) := rfl
theorem cd130_52 : code9 130 52 = some (0, .getfield 29, [3, 11, 3, 2], .null, []) := rfl
theorem cd130_55 : code9 130 55 = some (0, .aload_n 0, [1], .null, []) := rfl
theorem cd130_56 : code9 130 56 = some (0, .getfield 19, [3, 11, 1, 2], .null, []) := rfl
theorem cd130_59 : code9 130 59 = some (0, .iload_n 1, [1], .null, []) := rfl
theorem cd130_60 : code9 130 60 = some (0, .iload_n 2, [1], .null, []) := rfl
theorem cd130_61 : code9 130 61 = some (0, .iload_n 3, [1], .null, []) := rfl
theorem cd130_62 : code9 130 62 = some (0, .invokevirtual 221, [3, 90, 5, 1, 1, 9, 9, 0], .null, []) := rfl
theorem cd130_65 : code9 130 65 = some (0, .ireturn, [1, 1], .null, []) := rfl
def Hol_dig (N : Nat) (ln sp sn ss : Nat) (l1 : Int32) (l2 : Int32) (l3 : Int32) (I : FI) : Option (Int32 × FI) := if (Land_hasPerson ln l1 I) then (if (Land_hasCell ln l2 l3 I) then (Option.bind (State_canDig 25 l2 l3 I) fun x1 => (if x1 then (Option.bind (History_keep 60 25 I) fun x2 => (Option.bind (State_digCell N 25 ln l1 l2 l3 x2) fun x3 => (some (x3.1, x3.2)))) else (some ((-2), I)))) else (some ((-1), I))) else (some ((-1), I))
set_option maxRecDepth 8000 in
theorem t_Hol_dig {d : Nat} {N : Nat} {ln sp sn ss : Nat} {c : Nat × Nat} {S : Nat → Nat × Nat} {P : Nat → Nat → Option Nat} {I : FI} {J : FJ} {l1 : Int32} {l2 : Int32} {l3 : Int32} {r : Int32 × FI} (hd : 3 ≤ d) (hw : OH S P ln sp sn ss) (h : Hol_dig N ln sp sn ss l1 l2 l3 I = some r) : Go d M_Hol_dig 0 [some (.ref 0), some (.int l1), some (.int l2), some (.int l3)] [] (c, S, I, J, P) (some (.int r.1), false, (c, S, r.2, J, P)) := by
  obtain ⟨d, rfl⟩ : ∃ e, d = e + 1 := ⟨d - 1, by omega⟩
  unfold Hol_dig at h
  refine g_aload_n cd130_0 rfl rfl ?_
  refine g_getP cd130_1 rfl (OH.o hw) (OH.p1 hw) ?_
  refine g_iload_n cd130_4 rfl rfl ?_
  refine g_callVZ (L := [some (.ref ln), some (.int l1)]) cd130_5 rfl rfl rfl rfl rfl (O6.o (OH.q1 hw)) (t_Land_hasPerson (by omega) (OH.q1 hw) rfl) ?_
  refine g_if_eq cd130_8 rfl (fun hb => ?_) (fun hb => ?_)
  · have h := ifnE (b2i_f hb) h
    refine g_iconst cd130_23 rfl ?_
    exact g_iret cd130_24 (Or.inl rfl) (by obtain rfl := Option.some.inj h; rfl)
  · have h := ifpE (b2i_t hb) h
    refine g_aload_n cd130_11 rfl rfl ?_
    refine g_getP cd130_12 rfl (OH.o hw) (OH.p1 hw) ?_
    refine g_iload_n cd130_15 rfl rfl ?_
    refine g_iload_n cd130_16 rfl rfl ?_
    refine g_callVZ (L := [some (.ref ln), some (.int l2), some (.int l3)]) cd130_17 rfl rfl rfl rfl rfl (O6.o (OH.q1 hw)) (t_Land_hasCell (by omega) (OH.q1 hw) rfl) ?_
    refine g_if_ne cd130_20 rfl (fun hb => ?_) (fun hb => ?_)
    · have h := ifnE (b2i_f hb) h
      refine g_iconst cd130_23 rfl ?_
      exact g_iret cd130_24 (Or.inl rfl) (by obtain rfl := Option.some.inj h; rfl)
    · have h := ifpE (b2i_t hb) h
      refine g_aload_n cd130_25 rfl rfl ?_
      refine g_getP cd130_26 rfl (OH.o hw) (OH.p3 hw) ?_
      refine g_iload_n cd130_29 rfl rfl ?_
      refine g_iload_n cd130_30 rfl rfl ?_
      obtain ⟨x1, hx, h⟩ := bnd h
      refine g_callVZ (L := [some (.ref 25), some (.int l2), some (.int l3), none]) cd130_31 rfl rfl rfl rfl rfl (O9.o (OH.q3 hw)) (t_State_canDig (by omega) (OH.q3 hw) hx) ?_
      refine g_if_ne cd130_34 rfl (fun hb => ?_) (fun hb => ?_)
      · have h := ifnE (b2i_f hb) h
        refine g_bipush cd130_37 rfl ?_
        exact g_iret cd130_39 (Or.inl rfl) (by obtain rfl := Option.some.inj h; rfl)
      · have h := ifpE (b2i_t hb) h
        refine g_aload_n cd130_40 rfl rfl ?_
        refine g_getP cd130_41 rfl (OH.o hw) (OH.p8 hw) ?_
        refine g_aload_n cd130_44 rfl rfl ?_
        refine g_getP cd130_45 rfl (OH.o hw) (OH.p3 hw) ?_
        obtain ⟨x2, hx, h⟩ := bnd h
        refine g_callVV (L := [some (.ref 60), some (.ref 25), none]) cd130_48 rfl rfl rfl rfl rfl (O3.o (OH.q8 hw)) (t_History_keep (by omega) (OH.q8 hw) (OH.q3 hw) hx) ?_
        refine g_aload_n cd130_51 rfl rfl ?_
        refine g_getP cd130_52 rfl (OH.o hw) (OH.p3 hw) ?_
        refine g_aload_n cd130_55 rfl rfl ?_
        refine g_getP cd130_56 rfl (OH.o hw) (OH.p1 hw) ?_
        refine g_iload_n cd130_59 rfl rfl ?_
        refine g_iload_n cd130_60 rfl rfl ?_
        refine g_iload_n cd130_61 rfl rfl ?_
        obtain ⟨x3, hx, h⟩ := bnd h
        refine g_callVI (L := [some (.ref 25), some (.ref ln), some (.int l1), some (.int l2), some (.int l3), none, none, none, none]) cd130_62 rfl rfl rfl rfl rfl (O9.o (OH.q3 hw)) (t_State_digCell (by omega) (OH.q3 hw) (OH.q1 hw) hx) ?_
        exact g_iret cd130_65 (Or.inl rfl) (by obtain rfl := Option.some.inj h; rfl)
/-! HiddenOrLost.tell(I)I -/
theorem cd131_0 : code9 131 0 = some (0, .aload_n 0, [1], .null, []) := rfl
theorem cd131_1 : code9 131 1 = some (0, .getfield 19, [3, 11, 1, 2], .null, []) := rfl
theorem cd131_4 : code9 131 4 = some (0, .iload_n 1, [1], .null, []) := rfl
theorem cd131_5 : code9 131 5 = some (0, .invokevirtual 141, [3, 55, 2, 1, 3, 2, 6, 0], .null, []) := rfl
theorem cd131_8 : code9 131 8 = some (0, .ifCond .ne 5, [3, 13], .null, []) := rfl
theorem cd131_11 : code9 131 11 = some (0, .iconst (-1), [1], .int (-1), []) := rfl
theorem cd131_12 : code9 131 12 = some (0, .ireturn, [1, 1], .null, []) := rfl
theorem cd131_13 : code9 131 13 = some (0, .aload_n 0, [1], .null, []) := rfl
theorem cd131_14 : code9 131 14 = some (0, .getfield 29, [3, 11, 3, 2], .null, []) := rfl
theorem cd131_17 : code9 131 17 = some (0, .iload_n 1, [1], .null, []) := rfl
theorem cd131_18 : code9 131 18 = some (0, .invokevirtual 225, [3, 91, 2, 1, 1, 2, 9, 0], .null, []) := rfl
theorem cd131_21 : code9 131 21 = some (0, .istore_n 2, [1], .null, []) := rfl
theorem cd131_22 : code9 131 22 = some (0, .iload_n 2, [1], .null, []) := rfl
theorem cd131_23 : code9 131 23 = some (0, .ifCond .ne 24, [3, 47], .null, []) := rfl
theorem cd131_26 : code9 131 26 = some (0, .aload_n 0, [1], .null, []) := rfl
theorem cd131_27 : code9 131 27 = some (0, .getfield 56, [3, 11, 8, 2], .null, []) := rfl
theorem cd131_30 : code9 131 30 = some (0, .aload_n 0, [1], .null, []) := rfl
theorem cd131_31 : code9 131 31 = some (0, .getfield 29, [3, 11, 3, 2], .null, []) := rfl
theorem cd131_34 : code9 131 34 = some (0, .invokevirtual 217, [3, 25, 2, 1, 0, 3, 3, 0], .null, []) := rfl
theorem cd131_37 : code9 131 37 = some (0, .aload_n 0, [1], .null, []) := rfl
theorem cd131_38 : code9 131 38 = some (0, .getfield 29, [3, 11, 3, 2], .null, []) := rfl
theorem cd131_41 : code9 131 41 = some (0, .getfield 157, [3, 9, 3, 2], .null, []) := rfl
theorem cd131_44 : code9 131 44 = some (0, .iload_n 1, [1], .null, []) := rfl
theorem cd131_45 : code9 131 45 = some (0, .iconst 2, [1], .int 2, []) := rfl
theorem cd131_46 : code9 131 46 = some (0, .iastore, [1], .null, []) := rfl
theorem cd131_47 : code9 131 47 = some (4, .iload_n 2, [1], .null, []) := rfl
theorem cd131_48 : code9 131 48 = some (0, .ireturn, [1, 1], .null, []) := rfl
def Hol_tell (ln sp sn ss : Nat) (l1 : Int32) (I : FI) : Option (Int32 × FI) := if (Land_hasFind ln l1 I) then (Option.bind (State_whyNotMoved 25 l1 I) fun x1 => (if x1 = 0 then (Option.bind (History_keep 60 25 I) fun x2 => (if in9 l1 10 then (Option.bind (some (up2 x2 29 l1.toNatClampNeg (2 : Int32))) fun I4 => (some (x1, I4))) else none)) else (some (x1, I)))) else (some ((-1), I))
set_option maxRecDepth 8000 in
theorem t_Hol_tell {d : Nat} {ln sp sn ss : Nat} {c : Nat × Nat} {S : Nat → Nat × Nat} {P : Nat → Nat → Option Nat} {I : FI} {J : FJ} {l1 : Int32} {r : Int32 × FI} (hd : 3 ≤ d) (hw : OH S P ln sp sn ss) (h : Hol_tell ln sp sn ss l1 I = some r) : Go d M_Hol_tell 0 [some (.ref 0), some (.int l1), none] [] (c, S, I, J, P) (some (.int r.1), false, (c, S, r.2, J, P)) := by
  obtain ⟨d, rfl⟩ : ∃ e, d = e + 1 := ⟨d - 1, by omega⟩
  unfold Hol_tell at h
  refine g_aload_n cd131_0 rfl rfl ?_
  refine g_getP cd131_1 rfl (OH.o hw) (OH.p1 hw) ?_
  refine g_iload_n cd131_4 rfl rfl ?_
  refine g_callVZ (L := [some (.ref ln), some (.int l1)]) cd131_5 rfl rfl rfl rfl rfl (O6.o (OH.q1 hw)) (t_Land_hasFind (by omega) (OH.q1 hw) rfl) ?_
  refine g_if_ne cd131_8 rfl (fun hb => ?_) (fun hb => ?_)
  · have h := ifnE (b2i_f hb) h
    refine g_iconst cd131_11 rfl ?_
    exact g_iret cd131_12 (Or.inl rfl) (by obtain rfl := Option.some.inj h; rfl)
  · have h := ifpE (b2i_t hb) h
    refine g_aload_n cd131_13 rfl rfl ?_
    refine g_getP cd131_14 rfl (OH.o hw) (OH.p3 hw) ?_
    refine g_iload_n cd131_17 rfl rfl ?_
    obtain ⟨x1, hx, h⟩ := bnd h
    refine g_callVI (L := [some (.ref 25), some (.int l1)]) cd131_18 rfl rfl rfl rfl rfl (O9.o (OH.q3 hw)) (t_State_whyNotMoved (by omega) (OH.q3 hw) hx) ?_
    refine g_istore_n (ls2 := [some (.ref 0), some (.int l1), some (.int x1)]) cd131_21 rfl rfl ?_
    refine g_iload_n cd131_22 rfl rfl ?_
    refine g_if_ne cd131_23 rfl (fun hb => ?_) (fun hb => ?_)
    · have h := ifpE hb h
      refine g_aload_n cd131_26 rfl rfl ?_
      refine g_getP cd131_27 rfl (OH.o hw) (OH.p8 hw) ?_
      refine g_aload_n cd131_30 rfl rfl ?_
      refine g_getP cd131_31 rfl (OH.o hw) (OH.p3 hw) ?_
      obtain ⟨x2, hx, h⟩ := bnd h
      refine g_callVV (L := [some (.ref 60), some (.ref 25), none]) cd131_34 rfl rfl rfl rfl rfl (O3.o (OH.q8 hw)) (t_History_keep (by omega) (OH.q8 hw) (OH.q3 hw) hx) ?_
      refine g_aload_n cd131_37 rfl rfl ?_
      refine g_getP cd131_38 rfl (OH.o hw) (OH.p3 hw) ?_
      refine g_getP cd131_41 rfl (O9.o (OH.q3 hw)) (show P 25 3 = some 29 from O9.p3 (OH.q3 hw)) ?_
      refine g_iload_n cd131_44 rfl rfl ?_
      refine g_iconst cd131_45 rfl ?_
      obtain ⟨hg3, h⟩ := grd h
      obtain ⟨I4, e1, h⟩ := bnd h
      refine G_iast cd131_46 rfl (show S 29 = (1, 10) from O9.s3 (OH.q3 hw)) hg3 (Option.some.inj e1) ?_
      refine g_iload_n cd131_47 rfl rfl ?_
      exact g_iret cd131_48 (Or.inl rfl) (by obtain rfl := Option.some.inj h; rfl)
    · have h := ifnE hb h
      refine g_iload_n cd131_47 rfl rfl ?_
      exact g_iret cd131_48 (Or.inl rfl) (by obtain rfl := Option.some.inj h; rfl)
/-! HiddenOrLost.sell(I)I -/
theorem cd132_0 : code9 132 0 = some (0, .aload_n 0, [1], .null, []) := rfl
theorem cd132_1 : code9 132 1 = some (0, .getfield 19, [3, 11, 1, 2], .null, []) := rfl
theorem cd132_4 : code9 132 4 = some (0, .iload_n 1, [1], .null, []) := rfl
theorem cd132_5 : code9 132 5 = some (0, .invokevirtual 141, [3, 55, 2, 1, 3, 2, 6, 0], .null, []) := rfl
theorem cd132_8 : code9 132 8 = some (0, .ifCond .ne 5, [3, 13], .null, []) := rfl
theorem cd132_11 : code9 132 11 = some (0, .iconst (-1), [1], .int (-1), []) := rfl
theorem cd132_12 : code9 132 12 = some (0, .ireturn, [1, 1], .null, []) := rfl
theorem cd132_13 : code9 132 13 = some (0, .aload_n 0, [1], .null, []) := rfl
theorem cd132_14 : code9 132 14 = some (0, .getfield 29, [3, 11, 3, 2], .null, []) := rfl
theorem cd132_17 : code9 132 17 = some (0, .iload_n 1, [1], .null, []) := rfl
theorem cd132_18 : code9 132 18 = some (0, .invokevirtual 225, [3, 91, 2, 1, 1, 2, 9, 0], .null, []) := rfl
theorem cd132_21 : code9 132 21 = some (0, .istore_n 2, [1], .null, []) := rfl
theorem cd132_22 : code9 132 22 = some (0, .iload_n 2, [1], .null, []) := rfl
theorem cd132_23 : code9 132 23 = some (0, .ifCond .ne 26, [3, 49], .null, []) := rfl
theorem cd132_26 : code9 132 26 = some (0, .aload_n 0, [1], .null, []) := rfl
theorem cd132_27 : code9 132 27 = some (0, .getfield 56, [3, 11, 8, 2], .null, []) := rfl
theorem cd132_30 : code9 132 30 = some (0, .aload_n 0, [1], .null, []) := rfl
theorem cd132_31 : code9 132 31 = some (0, .getfield 29, [3, 11, 3, 2], .null, []) := rfl
theorem cd132_34 : code9 132 34 = some (0, .invokevirtual 217, [3, 25, 2, 1, 0, 3, 3, 0], .null, []) := rfl
theorem cd132_37 : code9 132 37 = some (0, .aload_n 0, [1], .null, []) := rfl
theorem cd132_38 : code9 132 38 = some (0, .getfield 29, [3, 11, 3, 2], .null, []) := rfl
theorem cd132_41 : code9 132 41 = some (0, .aload_n 0, [1], .null, []) := rfl
theorem cd132_42 : code9 132 42 = some (0, .getfield 19, [3, 11, 1, 2], .null, []) := rfl
theorem cd132_45 : code9 132 45 = some (0, .iload_n 1, [1], .null, []) := rfl
theorem cd132_46 : code9 132 46 = some (0, .invokevirtual 229, [3, 92, 3, 1, 0, 4, 9, 0], .null, []) := rfl
theorem cd132_49 : code9 132 49 = some (4, .iload_n 2, [1], .null, []) := rfl
theorem cd132_50 : code9 132 50 = some (0, .ireturn, [1, 1], .null, []) := rfl
def Hol_sell (ln sp sn ss : Nat) (l1 : Int32) (I : FI) : Option (Int32 × FI) := if (Land_hasFind ln l1 I) then (Option.bind (State_whyNotMoved 25 l1 I) fun x1 => (if x1 = 0 then (Option.bind (History_keep 60 25 I) fun x2 => (Option.bind (State_sellFind 25 ln l1 x2) fun x3 => (some (x1, x3)))) else (some (x1, I)))) else (some ((-1), I))
set_option maxRecDepth 8000 in
theorem t_Hol_sell {d : Nat} {ln sp sn ss : Nat} {c : Nat × Nat} {S : Nat → Nat × Nat} {P : Nat → Nat → Option Nat} {I : FI} {J : FJ} {l1 : Int32} {r : Int32 × FI} (hd : 3 ≤ d) (hw : OH S P ln sp sn ss) (h : Hol_sell ln sp sn ss l1 I = some r) : Go d M_Hol_sell 0 [some (.ref 0), some (.int l1), none] [] (c, S, I, J, P) (some (.int r.1), false, (c, S, r.2, J, P)) := by
  obtain ⟨d, rfl⟩ : ∃ e, d = e + 1 := ⟨d - 1, by omega⟩
  unfold Hol_sell at h
  refine g_aload_n cd132_0 rfl rfl ?_
  refine g_getP cd132_1 rfl (OH.o hw) (OH.p1 hw) ?_
  refine g_iload_n cd132_4 rfl rfl ?_
  refine g_callVZ (L := [some (.ref ln), some (.int l1)]) cd132_5 rfl rfl rfl rfl rfl (O6.o (OH.q1 hw)) (t_Land_hasFind (by omega) (OH.q1 hw) rfl) ?_
  refine g_if_ne cd132_8 rfl (fun hb => ?_) (fun hb => ?_)
  · have h := ifnE (b2i_f hb) h
    refine g_iconst cd132_11 rfl ?_
    exact g_iret cd132_12 (Or.inl rfl) (by obtain rfl := Option.some.inj h; rfl)
  · have h := ifpE (b2i_t hb) h
    refine g_aload_n cd132_13 rfl rfl ?_
    refine g_getP cd132_14 rfl (OH.o hw) (OH.p3 hw) ?_
    refine g_iload_n cd132_17 rfl rfl ?_
    obtain ⟨x1, hx, h⟩ := bnd h
    refine g_callVI (L := [some (.ref 25), some (.int l1)]) cd132_18 rfl rfl rfl rfl rfl (O9.o (OH.q3 hw)) (t_State_whyNotMoved (by omega) (OH.q3 hw) hx) ?_
    refine g_istore_n (ls2 := [some (.ref 0), some (.int l1), some (.int x1)]) cd132_21 rfl rfl ?_
    refine g_iload_n cd132_22 rfl rfl ?_
    refine g_if_ne cd132_23 rfl (fun hb => ?_) (fun hb => ?_)
    · have h := ifpE hb h
      refine g_aload_n cd132_26 rfl rfl ?_
      refine g_getP cd132_27 rfl (OH.o hw) (OH.p8 hw) ?_
      refine g_aload_n cd132_30 rfl rfl ?_
      refine g_getP cd132_31 rfl (OH.o hw) (OH.p3 hw) ?_
      obtain ⟨x2, hx, h⟩ := bnd h
      refine g_callVV (L := [some (.ref 60), some (.ref 25), none]) cd132_34 rfl rfl rfl rfl rfl (O3.o (OH.q8 hw)) (t_History_keep (by omega) (OH.q8 hw) (OH.q3 hw) hx) ?_
      refine g_aload_n cd132_37 rfl rfl ?_
      refine g_getP cd132_38 rfl (OH.o hw) (OH.p3 hw) ?_
      refine g_aload_n cd132_41 rfl rfl ?_
      refine g_getP cd132_42 rfl (OH.o hw) (OH.p1 hw) ?_
      refine g_iload_n cd132_45 rfl rfl ?_
      obtain ⟨x3, hx, h⟩ := bnd h
      refine g_callVV (L := [some (.ref 25), some (.ref ln), some (.int l1), none]) cd132_46 rfl rfl rfl rfl rfl (O9.o (OH.q3 hw)) (t_State_sellFind (by omega) (OH.q3 hw) (OH.q1 hw) hx) ?_
      refine g_iload_n cd132_49 rfl rfl ?_
      exact g_iret cd132_50 (Or.inl rfl) (by obtain rfl := Option.some.inj h; rfl)
    · have h := ifnE hb h
      refine g_iload_n cd132_49 rfl rfl ?_
      exact g_iret cd132_50 (Or.inl rfl) (by obtain rfl := Option.some.inj h; rfl)
/-! HiddenOrLost.lay(III)I -/
theorem cd133_0 : code9 133 0 = some (0, .aload_n 0, [1], .null, []) := rfl
theorem cd133_1 : code9 133 1 = some (0, .getfield 19, [3, 11, 1, 2], .null, []) := rfl
theorem cd133_4 : code9 133 4 = some (0, .iload_n 1, [1], .null, []) := rfl
theorem cd133_5 : code9 133 5 = some (0, .invokevirtual 141, [3, 55, 2, 1, 3, 2, 6, 0], .null, []) := rfl
theorem cd133_8 : code9 133 8 = some (0, .ifCond .eq 15, [3, 23], .null, []) := rfl
theorem cd133_11 : code9 133 11 = some (0, .aload_n 0, [1], .null, []) := rfl
theorem cd133_12 : code9 133 12 = some (0, .getfield 19, [3, 11, 1, 2], .null, []) := rfl
theorem cd133_15 : code9 133 15 = some (0, .iload_n 2, [1], .null, []) := rfl
theorem cd133_16 : code9 133 16 = some (0, .iload_n 3, [1], .null, []) := rfl
theorem cd133_17 : code9 133 17 = some (0, .invokevirtual 183, [3, 53, 3, 1, 3, 3, 6, 0], .null, []) := rfl
theorem cd133_20 : code9 133 20 = some (0, .ifCond .ne 5, [3, 25], .null, []) := rfl
theorem cd133_23 : code9 133 23 = some (5, .iconst (-1), [1], .int (-1), []) := rfl
theorem cd133_24 : code9 133 24 = some (0, .ireturn, [1, 1], .null, []) := rfl
theorem cd133_25 : code9 133 25 = some (0, .aload_n 0, [1], .null, []) := rfl
theorem cd133_26 : code9 133 26 = some (0, .getfield 29, [3, 11, 3, 2], .null, []) := rfl
theorem cd133_29 : code9 133 29 = some (0, .iload_n 1, [1], .null, []) := rfl
theorem cd133_30 : code9 133 30 = some (0, .invokevirtual 225, [3, 91, 2, 1, 1, 2, 9, 0], .null, []) := rfl
theorem cd133_33 : code9 133 33 = some (0, .istore 4, [2], .null, []) := rfl
theorem cd133_35 : code9 133 35 = some (0, .iload 4, [2], .null, []) := rfl
theorem cd133_37 : code9 133 37 = some (0, .ifCond .ne 24, [3, 61], .null, []) := rfl
theorem cd133_40 : code9 133 40 = some (0, .aload_n 0, [1], .null, []) := rfl
theorem cd133_41 : code9 133 41 = some (0, .getfield 56, [3, 11, 8, 2], .null, []) := rfl
theorem cd133_44 : code9 133 44 = some (0, .aload_n 0, [1], .null, []) := rfl
theorem cd133_45 : code9 133 45 = some (0, .getfield 29, [3, 11, 3, 2], .null, []) := rfl
theorem cd133_48 : code9 133 48 = some (0, .invokevirtual 217, [3, 25, 2, 1, 0, 3, 3, 0], .null, []) := rfl
theorem cd133_51 : code9 133 51 = some (0, .aload_n 0, [1], .null, []) := rfl
theorem cd133_52 : code9 133 52 = some (0, .getfield 29, [3, 11, 3, 2], .null, []) := rfl
theorem cd133_55 : code9 133 55 = some (0, .iload_n 1, [1], .null, []) := rfl
theorem cd133_56 : code9 133 56 = some (0, .iload_n 2, [1], .null, []) := rfl
theorem cd133_57 : code9 133 57 = some (0, .iload_n 3, [1], .null, []) := rfl
theorem cd133_58 : code9 133 58 = some (0, .invokevirtual 233, [3, 93, 4, 1, 0, 4, 9, 0], .null, []) := rfl
theorem cd133_61 : code9 133 61 = some (6, .iload 4, [2], .null, []) := rfl
theorem cd133_63 : code9 133 63 = some (0, .ireturn, [1, 1], .null, []) := rfl
def Hol_lay (ln sp sn ss : Nat) (l1 : Int32) (l2 : Int32) (l3 : Int32) (I : FI) : Option (Int32 × FI) := if (Land_hasFind ln l1 I) then (if (Land_hasCell ln l2 l3 I) then (Option.bind (State_whyNotMoved 25 l1 I) fun x1 => (if x1 = 0 then (Option.bind (History_keep 60 25 I) fun x2 => (Option.bind (State_layFind 25 l1 l2 l3 x2) fun x3 => (some (x1, x3)))) else (some (x1, I)))) else (some ((-1), I))) else (some ((-1), I))
set_option maxRecDepth 8000 in
theorem t_Hol_lay {d : Nat} {ln sp sn ss : Nat} {c : Nat × Nat} {S : Nat → Nat × Nat} {P : Nat → Nat → Option Nat} {I : FI} {J : FJ} {l1 : Int32} {l2 : Int32} {l3 : Int32} {r : Int32 × FI} (hd : 3 ≤ d) (hw : OH S P ln sp sn ss) (h : Hol_lay ln sp sn ss l1 l2 l3 I = some r) : Go d M_Hol_lay 0 [some (.ref 0), some (.int l1), some (.int l2), some (.int l3), none] [] (c, S, I, J, P) (some (.int r.1), false, (c, S, r.2, J, P)) := by
  obtain ⟨d, rfl⟩ : ∃ e, d = e + 1 := ⟨d - 1, by omega⟩
  unfold Hol_lay at h
  refine g_aload_n cd133_0 rfl rfl ?_
  refine g_getP cd133_1 rfl (OH.o hw) (OH.p1 hw) ?_
  refine g_iload_n cd133_4 rfl rfl ?_
  refine g_callVZ (L := [some (.ref ln), some (.int l1)]) cd133_5 rfl rfl rfl rfl rfl (O6.o (OH.q1 hw)) (t_Land_hasFind (by omega) (OH.q1 hw) rfl) ?_
  refine g_if_eq cd133_8 rfl (fun hb => ?_) (fun hb => ?_)
  · have h := ifnE (b2i_f hb) h
    refine g_iconst cd133_23 rfl ?_
    exact g_iret cd133_24 (Or.inl rfl) (by obtain rfl := Option.some.inj h; rfl)
  · have h := ifpE (b2i_t hb) h
    refine g_aload_n cd133_11 rfl rfl ?_
    refine g_getP cd133_12 rfl (OH.o hw) (OH.p1 hw) ?_
    refine g_iload_n cd133_15 rfl rfl ?_
    refine g_iload_n cd133_16 rfl rfl ?_
    refine g_callVZ (L := [some (.ref ln), some (.int l2), some (.int l3)]) cd133_17 rfl rfl rfl rfl rfl (O6.o (OH.q1 hw)) (t_Land_hasCell (by omega) (OH.q1 hw) rfl) ?_
    refine g_if_ne cd133_20 rfl (fun hb => ?_) (fun hb => ?_)
    · have h := ifnE (b2i_f hb) h
      refine g_iconst cd133_23 rfl ?_
      exact g_iret cd133_24 (Or.inl rfl) (by obtain rfl := Option.some.inj h; rfl)
    · have h := ifpE (b2i_t hb) h
      refine g_aload_n cd133_25 rfl rfl ?_
      refine g_getP cd133_26 rfl (OH.o hw) (OH.p3 hw) ?_
      refine g_iload_n cd133_29 rfl rfl ?_
      obtain ⟨x1, hx, h⟩ := bnd h
      refine g_callVI (L := [some (.ref 25), some (.int l1)]) cd133_30 rfl rfl rfl rfl rfl (O9.o (OH.q3 hw)) (t_State_whyNotMoved (by omega) (OH.q3 hw) hx) ?_
      refine g_istore (ls2 := [some (.ref 0), some (.int l1), some (.int l2), some (.int l3), some (.int x1)]) cd133_33 rfl rfl ?_
      refine g_iload cd133_35 rfl rfl ?_
      refine g_if_ne cd133_37 rfl (fun hb => ?_) (fun hb => ?_)
      · have h := ifpE hb h
        refine g_aload_n cd133_40 rfl rfl ?_
        refine g_getP cd133_41 rfl (OH.o hw) (OH.p8 hw) ?_
        refine g_aload_n cd133_44 rfl rfl ?_
        refine g_getP cd133_45 rfl (OH.o hw) (OH.p3 hw) ?_
        obtain ⟨x2, hx, h⟩ := bnd h
        refine g_callVV (L := [some (.ref 60), some (.ref 25), none]) cd133_48 rfl rfl rfl rfl rfl (O3.o (OH.q8 hw)) (t_History_keep (by omega) (OH.q8 hw) (OH.q3 hw) hx) ?_
        refine g_aload_n cd133_51 rfl rfl ?_
        refine g_getP cd133_52 rfl (OH.o hw) (OH.p3 hw) ?_
        refine g_iload_n cd133_55 rfl rfl ?_
        refine g_iload_n cd133_56 rfl rfl ?_
        refine g_iload_n cd133_57 rfl rfl ?_
        obtain ⟨x3, hx, h⟩ := bnd h
        refine g_callVV (L := [some (.ref 25), some (.int l1), some (.int l2), some (.int l3)]) cd133_58 rfl rfl rfl rfl rfl (O9.o (OH.q3 hw)) (t_State_layFind (by omega) (OH.q3 hw) hx) ?_
        refine g_iload cd133_61 rfl rfl ?_
        exact g_iret cd133_63 (Or.inl rfl) (by obtain rfl := Option.some.inj h; rfl)
      · have h := ifnE hb h
        refine g_iload cd133_61 rfl rfl ?_
        exact g_iret cd133_63 (Or.inl rfl) (by obtain rfl := Option.some.inj h; rfl)
/-! HiddenOrLost.give(II)I -/
theorem cd134_0 : code9 134 0 = some (0, .aload_n 0, [1], .null, []) := rfl
theorem cd134_1 : code9 134 1 = some (0, .getfield 19, [3, 11, 1, 2], .null, []) := rfl
theorem cd134_4 : code9 134 4 = some (0, .iload_n 1, [1], .null, []) := rfl
theorem cd134_5 : code9 134 5 = some (0, .invokevirtual 141, [3, 55, 2, 1, 3, 2, 6, 0], .null, []) := rfl
theorem cd134_8 : code9 134 8 = some (0, .ifCond .eq 14, [3, 22], .null, []) := rfl
theorem cd134_11 : code9 134 11 = some (0, .aload_n 0, [1], .null, []) := rfl
theorem cd134_12 : code9 134 12 = some (0, .getfield 19, [3, 11, 1, 2], .null, []) := rfl
theorem cd134_15 : code9 134 15 = some (0, .iload_n 2, [1], .null, []) := rfl
theorem cd134_16 : code9 134 16 = some (0, .invokevirtual 167, [3, 52, 2, 1, 3, 2, 6, 0], .null, []) := rfl
theorem cd134_19 : code9 134 19 = some (0, .ifCond .ne 5, [3, 24], .null, []) := rfl
theorem cd134_22 : code9 134 22 = some (4, .iconst (-1), [1], .int (-1), []) := rfl
theorem cd134_23 : code9 134 23 = some (0, .ireturn, [1, 1], .null, []) := rfl
theorem cd134_24 : code9 134 24 = some (0, .aload_n 0, [1], .null, []) := rfl
theorem cd134_25 : code9 134 25 = some (0, .getfield 29, [3, 11, 3, 2], .null, []) := rfl
theorem cd134_28 : code9 134 28 = some (0, .iload_n 1, [1], .null, []) := rfl
theorem cd134_29 : code9 134 29 = some (0, .iload_n 2, [1], .null, []) := rfl
theorem cd134_30 : code9 134 30 = some (0, .invokevirtual 237, [3, 94, 3, 1, 1, 3, 9, 0], .null, []) := rfl
theorem cd134_33 : code9 134 33 = some (0, .istore_n 3, [1], .null, []) := rfl
theorem cd134_34 : code9 134 34 = some (0, .iload_n 3, [1], .null, []) := rfl
theorem cd134_35 : code9 134 35 = some (0, .ifCond .ne 24, [3, 59], .null, []) := rfl
theorem cd134_38 : code9 134 38 = some (0, .aload_n 0, [1], .null, []) := rfl
theorem cd134_39 : code9 134 39 = some (0, .getfield 56, [3, 11, 8, 2], .null, []) := rfl
theorem cd134_42 : code9 134 42 = some (0, .aload_n 0, [1], .null, []) := rfl
theorem cd134_43 : code9 134 43 = some (0, .getfield 29, [3, 11, 3, 2], .null, []) := rfl
theorem cd134_46 : code9 134 46 = some (0, .invokevirtual 217, [3, 25, 2, 1, 0, 3, 3, 0], .null, []) := rfl
theorem cd134_49 : code9 134 49 = some (0, .aload_n 0, [1], .null, []) := rfl
theorem cd134_50 : code9 134 50 = some (0, .getfield 29, [3, 11, 3, 2], .null, []) := rfl
theorem cd134_53 : code9 134 53 = some (0, .getfield 160, [3, 9, 4, 2], .null, []) := rfl
theorem cd134_56 : code9 134 56 = some (0, .iload_n 1, [1], .null, []) := rfl
theorem cd134_57 : code9 134 57 = some (0, .iload_n 2, [1], .null, []) := rfl
theorem cd134_58 : code9 134 58 = some (0, .iastore, [1], .null, []) := rfl
theorem cd134_59 : code9 134 59 = some (5, .iload_n 3, [1], .null, []) := rfl
theorem cd134_60 : code9 134 60 = some (0, .ireturn, [1, 1], .null, []) := rfl
def Hol_give (ln sp sn ss : Nat) (l1 : Int32) (l2 : Int32) (I : FI) : Option (Int32 × FI) := if (Land_hasFind ln l1 I) then (if (Land_hasPerson ln l2 I) then (Option.bind (State_whyNotGiven 25 l1 l2 I) fun x1 => (if x1 = 0 then (Option.bind (History_keep 60 25 I) fun x2 => (if in9 l1 10 then (Option.bind (some (up2 x2 30 l1.toNatClampNeg l2)) fun I4 => (some (x1, I4))) else none)) else (some (x1, I)))) else (some ((-1), I))) else (some ((-1), I))
set_option maxRecDepth 8000 in
theorem t_Hol_give {d : Nat} {ln sp sn ss : Nat} {c : Nat × Nat} {S : Nat → Nat × Nat} {P : Nat → Nat → Option Nat} {I : FI} {J : FJ} {l1 : Int32} {l2 : Int32} {r : Int32 × FI} (hd : 3 ≤ d) (hw : OH S P ln sp sn ss) (h : Hol_give ln sp sn ss l1 l2 I = some r) : Go d M_Hol_give 0 [some (.ref 0), some (.int l1), some (.int l2), none] [] (c, S, I, J, P) (some (.int r.1), false, (c, S, r.2, J, P)) := by
  obtain ⟨d, rfl⟩ : ∃ e, d = e + 1 := ⟨d - 1, by omega⟩
  unfold Hol_give at h
  refine g_aload_n cd134_0 rfl rfl ?_
  refine g_getP cd134_1 rfl (OH.o hw) (OH.p1 hw) ?_
  refine g_iload_n cd134_4 rfl rfl ?_
  refine g_callVZ (L := [some (.ref ln), some (.int l1)]) cd134_5 rfl rfl rfl rfl rfl (O6.o (OH.q1 hw)) (t_Land_hasFind (by omega) (OH.q1 hw) rfl) ?_
  refine g_if_eq cd134_8 rfl (fun hb => ?_) (fun hb => ?_)
  · have h := ifnE (b2i_f hb) h
    refine g_iconst cd134_22 rfl ?_
    exact g_iret cd134_23 (Or.inl rfl) (by obtain rfl := Option.some.inj h; rfl)
  · have h := ifpE (b2i_t hb) h
    refine g_aload_n cd134_11 rfl rfl ?_
    refine g_getP cd134_12 rfl (OH.o hw) (OH.p1 hw) ?_
    refine g_iload_n cd134_15 rfl rfl ?_
    refine g_callVZ (L := [some (.ref ln), some (.int l2)]) cd134_16 rfl rfl rfl rfl rfl (O6.o (OH.q1 hw)) (t_Land_hasPerson (by omega) (OH.q1 hw) rfl) ?_
    refine g_if_ne cd134_19 rfl (fun hb => ?_) (fun hb => ?_)
    · have h := ifnE (b2i_f hb) h
      refine g_iconst cd134_22 rfl ?_
      exact g_iret cd134_23 (Or.inl rfl) (by obtain rfl := Option.some.inj h; rfl)
    · have h := ifpE (b2i_t hb) h
      refine g_aload_n cd134_24 rfl rfl ?_
      refine g_getP cd134_25 rfl (OH.o hw) (OH.p3 hw) ?_
      refine g_iload_n cd134_28 rfl rfl ?_
      refine g_iload_n cd134_29 rfl rfl ?_
      obtain ⟨x1, hx, h⟩ := bnd h
      refine g_callVI (L := [some (.ref 25), some (.int l1), some (.int l2)]) cd134_30 rfl rfl rfl rfl rfl (O9.o (OH.q3 hw)) (t_State_whyNotGiven (by omega) (OH.q3 hw) hx) ?_
      refine g_istore_n (ls2 := [some (.ref 0), some (.int l1), some (.int l2), some (.int x1)]) cd134_33 rfl rfl ?_
      refine g_iload_n cd134_34 rfl rfl ?_
      refine g_if_ne cd134_35 rfl (fun hb => ?_) (fun hb => ?_)
      · have h := ifpE hb h
        refine g_aload_n cd134_38 rfl rfl ?_
        refine g_getP cd134_39 rfl (OH.o hw) (OH.p8 hw) ?_
        refine g_aload_n cd134_42 rfl rfl ?_
        refine g_getP cd134_43 rfl (OH.o hw) (OH.p3 hw) ?_
        obtain ⟨x2, hx, h⟩ := bnd h
        refine g_callVV (L := [some (.ref 60), some (.ref 25), none]) cd134_46 rfl rfl rfl rfl rfl (O3.o (OH.q8 hw)) (t_History_keep (by omega) (OH.q8 hw) (OH.q3 hw) hx) ?_
        refine g_aload_n cd134_49 rfl rfl ?_
        refine g_getP cd134_50 rfl (OH.o hw) (OH.p3 hw) ?_
        refine g_getP cd134_53 rfl (O9.o (OH.q3 hw)) (show P 25 4 = some 30 from O9.p4 (OH.q3 hw)) ?_
        refine g_iload_n cd134_56 rfl rfl ?_
        refine g_iload_n cd134_57 rfl rfl ?_
        obtain ⟨hg3, h⟩ := grd h
        obtain ⟨I4, e1, h⟩ := bnd h
        refine G_iast cd134_58 rfl (show S 30 = (1, 10) from O9.s4 (OH.q3 hw)) hg3 (Option.some.inj e1) ?_
        refine g_iload_n cd134_59 rfl rfl ?_
        exact g_iret cd134_60 (Or.inl rfl) (by obtain rfl := Option.some.inj h; rfl)
      · have h := ifnE hb h
        refine g_iload_n cd134_59 rfl rfl ?_
        exact g_iret cd134_60 (Or.inl rfl) (by obtain rfl := Option.some.inj h; rfl)
/-! HiddenOrLost.plough(I)I -/
theorem cd135_0 : code9 135 0 = some (0, .aload_n 0, [1], .null, []) := rfl
theorem cd135_1 : code9 135 1 = some (0, .getfield 56, [3, 11, 8, 2], .null, []) := rfl
theorem cd135_4 : code9 135 4 = some (0, .aload_n 0, [1], .null, []) := rfl
theorem cd135_5 : code9 135 5 = some (0, .getfield 29, [3, 11, 3, 2], .null, []) := rfl
theorem cd135_8 : code9 135 8 = some (0, .invokevirtual 217, [3, 25, 2, 1, 0, 3, 3, 0], .null, []) := rfl
theorem cd135_11 : code9 135 11 = some (0, .aload_n 0, [1], .null, []) := rfl
theorem cd135_12 : code9 135 12 = some (0, .getfield 73, [3, 11, 11, 2], .null, []) := rfl
theorem cd135_15 : code9 135 15 = some (0, .iload_n 1, [1], .null, []) := rfl
theorem cd135_16 : code9 135 16 = some (0, .putfield 240, [3, 2, 0, 0], .null, []) := rfl
theorem cd135_19 : code9 135 19 = some (0, .aload_n 0, [1], .null, []) := rfl
theorem cd135_20 : code9 135 20 = some (0, .getfield 29, [3, 11, 3, 2], .null, []) := rfl
theorem cd135_23 : code9 135 23 = some (0, .aload_n 0, [1], .null, []) := rfl
theorem cd135_24 : code9 135 24 = some (0, .getfield 19, [3, 11, 1, 2], .null, []) := rfl
theorem cd135_27 : code9 135 27 = some (0, .aload_n 0, [1], .null, []) := rfl
theorem cd135_28 : code9 135 28 = some (0, .getfield 73, [3, 11, 11, 2], .null, []) := rfl
theorem cd135_31 : code9 135 31 = some (0, .invokevirtual 242, [3, 95, 3, 1, 1, 5, 9, 0], .null, []) := rfl
theorem cd135_34 : code9 135 34 = some (0, .ireturn, [1, 1], .null, []) := rfl
def Hol_plough (N : Nat) (ln sp sn ss : Nat) (l1 : Int32) (I : FI) : Option (Int32 × FI) := Option.bind (History_keep 60 25 I) fun x1 => (Option.bind (some (up2 x1 192 0 l1)) fun I2 => (Option.bind (State_turnOver N 25 ln 192 I2) fun x3 => (some (x3.1, x3.2))))
set_option maxRecDepth 8000 in
theorem t_Hol_plough {d : Nat} {N : Nat} {ln sp sn ss : Nat} {c : Nat × Nat} {S : Nat → Nat × Nat} {P : Nat → Nat → Option Nat} {I : FI} {J : FJ} {l1 : Int32} {r : Int32 × FI} (hd : 3 ≤ d) (hw : OH S P ln sp sn ss) (h : Hol_plough N ln sp sn ss l1 I = some r) : Go d M_Hol_plough 0 [some (.ref 0), some (.int l1)] [] (c, S, I, J, P) (some (.int r.1), false, (c, S, r.2, J, P)) := by
  obtain ⟨d, rfl⟩ : ∃ e, d = e + 1 := ⟨d - 1, by omega⟩
  unfold Hol_plough at h
  refine g_aload_n cd135_0 rfl rfl ?_
  refine g_getP cd135_1 rfl (OH.o hw) (OH.p8 hw) ?_
  refine g_aload_n cd135_4 rfl rfl ?_
  refine g_getP cd135_5 rfl (OH.o hw) (OH.p3 hw) ?_
  obtain ⟨x1, hx, h⟩ := bnd h
  refine g_callVV (L := [some (.ref 60), some (.ref 25), none]) cd135_8 rfl rfl rfl rfl rfl (O3.o (OH.q8 hw)) (t_History_keep (by omega) (OH.q8 hw) (OH.q3 hw) hx) ?_
  refine g_aload_n cd135_11 rfl rfl ?_
  refine g_getP cd135_12 rfl (OH.o hw) (OH.p11 hw) ?_
  refine g_iload_n cd135_15 rfl rfl ?_
  obtain ⟨I2, e1, h⟩ := bnd h
  refine G_putI cd135_16 rfl (O2.o (OH.q11 hw)) (Option.some.inj e1) ?_
  refine g_aload_n cd135_19 rfl rfl ?_
  refine g_getP cd135_20 rfl (OH.o hw) (OH.p3 hw) ?_
  refine g_aload_n cd135_23 rfl rfl ?_
  refine g_getP cd135_24 rfl (OH.o hw) (OH.p1 hw) ?_
  refine g_aload_n cd135_27 rfl rfl ?_
  refine g_getP cd135_28 rfl (OH.o hw) (OH.p11 hw) ?_
  obtain ⟨x3, hx, h⟩ := bnd h
  refine g_callVI (L := [some (.ref 25), some (.ref ln), some (.ref 192), none, none]) cd135_31 rfl rfl rfl rfl rfl (O9.o (OH.q3 hw)) (t_State_turnOver (by omega) (OH.q3 hw) (OH.q1 hw) (OH.q11 hw) hx) ?_
  exact g_iret cd135_34 (Or.inl rfl) (by obtain rfl := Option.some.inj h; rfl)
/-! HiddenOrLost.nights(II)I -/
theorem cd136_0 : code9 136 0 = some (0, .iload_n 1, [1], .null, []) := rfl
theorem cd136_1 : code9 136 1 = some (0, .iconst 1, [1], .int 1, []) := rfl
theorem cd136_2 : code9 136 2 = some (0, .if_icmp .lt 19, [3, 21], .null, []) := rfl
theorem cd136_5 : code9 136 5 = some (0, .iload_n 1, [1], .null, []) := rfl
theorem cd136_6 : code9 136 6 = some (0, .bipush 30, [2], .int 30, []) := rfl
theorem cd136_8 : code9 136 8 = some (0, .if_icmp .gt 13, [3, 21], .null, []) := rfl
theorem cd136_11 : code9 136 11 = some (0, .aload_n 0, [1], .null, []) := rfl
theorem cd136_12 : code9 136 12 = some (0, .getfield 19, [3, 11, 1, 2], .null, []) := rfl
theorem cd136_15 : code9 136 15 = some (0, .getfield 246, [3, 6, 11, 0], .null, []) := rfl
theorem cd136_18 : code9 136 18 = some (0, .ifCond .ne 5, [3, 23], .null, []) := rfl
theorem cd136_21 : code9 136 21 = some (4, .iconst (-1), [1], .int (-1), []) := rfl
theorem cd136_22 : code9 136 22 = some (0, .ireturn, [1, 1], .null, []) := rfl
theorem cd136_23 : code9 136 23 = some (0, .aload_n 0, [1], .null, []) := rfl
theorem cd136_24 : code9 136 24 = some (0, .getfield 29, [3, 11, 3, 2], .null, []) := rfl
theorem cd136_27 : code9 136 27 = some (0, .getfield 197, [3, 9, 9, 0], .null, []) := rfl
theorem cd136_30 : code9 136 30 = some (0, .sipush 400, [3], .int 400, []) := rfl
theorem cd136_33 : code9 136 33 = some (0, .if_icmp .lt 5, [3, 38], .null, []) := rfl
theorem cd136_36 : code9 136 36 = some (0, .iconst 0, [1], .int 0, []) := rfl
theorem cd136_37 : code9 136 37 = some (0, .ireturn, [1, 1], .null, []) := rfl
theorem cd136_38 : code9 136 38 = some (0, .aload_n 0, [1], .null, []) := rfl
theorem cd136_39 : code9 136 39 = some (0, .getfield 56, [3, 11, 8, 2], .null, []) := rfl
theorem cd136_42 : code9 136 42 = some (0, .aload_n 0, [1], .null, []) := rfl
theorem cd136_43 : code9 136 43 = some (0, .getfield 29, [3, 11, 3, 2], .null, []) := rfl
theorem cd136_46 : code9 136 46 = some (0, .invokevirtual 217, [3, 25, 2, 1, 0, 3, 3, 0], .null, []) := rfl
theorem cd136_49 : code9 136 49 = some (0, .aload_n 0, [1], .null, []) := rfl
theorem cd136_50 : code9 136 50 = some (0, .getfield 73, [3, 11, 11, 2], .null, []) := rfl
theorem cd136_53 : code9 136 53 = some (0, .iload_n 2, [1], .null, []) := rfl
theorem cd136_54 : code9 136 54 = some (0, .putfield 240, [3, 2, 0, 0], .null, []) := rfl
theorem cd136_57 : code9 136 57 = some (0, .aload_n 0, [1], .null, []) := rfl
theorem cd136_58 : code9 136 58 = some (0, .getfield 29, [3, 11, 3, 2], .null, []) := rfl
theorem cd136_61 : code9 136 61 = some (0, .aload_n 0, [1], .null, []) := rfl
theorem cd136_62 : code9 136 62 = some (0, .getfield 19, [3, 11, 1, 2], .null, []) := rfl
theorem cd136_65 : code9 136 65 = some (0, .aload_n 0, [1], .null, []) := rfl
theorem cd136_66 : code9 136 66 = some (0, .getfield 73, [3, 11, 11, 2], .null, []) := rfl
theorem cd136_69 : code9 136 69 = some (0, .iload_n 1, [1], .null, []) := rfl
theorem cd136_70 : code9 136 70 = some (0, .invokevirtual 249, [3, 97, 4, 1, 1, 6, 9, 0], .null, []) := rfl
theorem cd136_73 : code9 136 73 = some (0, .ireturn, [1, 1], .null, []) := rfl
def Hol_nights (N : Nat) (ln sp sn ss : Nat) (l1 : Int32) (l2 : Int32) (I : FI) : Option (Int32 × FI) := if l1 < 1 then (some ((-1), I)) else (if 30 < l1 then (some ((-1), I)) else (if (I ln 11) = 0 then (some ((-1), I)) else (if (I 25 9) < 400 then (Option.bind (History_keep 60 25 I) fun x1 => (Option.bind (some (up2 x1 192 0 l2)) fun I2 => (Option.bind (State_passNights N 25 ln 192 l1 I2) fun x3 => (some (x3.1, x3.2))))) else (some (0, I)))))
set_option maxRecDepth 8000 in
theorem t_Hol_nights {d : Nat} {N : Nat} {ln sp sn ss : Nat} {c : Nat × Nat} {S : Nat → Nat × Nat} {P : Nat → Nat → Option Nat} {I : FI} {J : FJ} {l1 : Int32} {l2 : Int32} {r : Int32 × FI} (hd : 4 ≤ d) (hw : OH S P ln sp sn ss) (h : Hol_nights N ln sp sn ss l1 l2 I = some r) : Go d M_Hol_nights 0 [some (.ref 0), some (.int l1), some (.int l2)] [] (c, S, I, J, P) (some (.int r.1), false, (c, S, r.2, J, P)) := by
  obtain ⟨d, rfl⟩ : ∃ e, d = e + 1 := ⟨d - 1, by omega⟩
  unfold Hol_nights at h
  refine g_iload_n cd136_0 rfl rfl ?_
  refine g_iconst cd136_1 rfl ?_
  refine g_icmp_lt cd136_2 rfl (fun hb => ?_) (fun hb => ?_)
  · have h := ifpE hb h
    refine g_iconst cd136_21 rfl ?_
    exact g_iret cd136_22 (Or.inl rfl) (by obtain rfl := Option.some.inj h; rfl)
  · have h := ifnE hb h
    refine g_iload_n cd136_5 rfl rfl ?_
    refine g_bipush cd136_6 rfl ?_
    refine g_icmp_gt cd136_8 rfl (fun hb => ?_) (fun hb => ?_)
    · have h := ifpE hb h
      refine g_iconst cd136_21 rfl ?_
      exact g_iret cd136_22 (Or.inl rfl) (by obtain rfl := Option.some.inj h; rfl)
    · have h := ifnE hb h
      refine g_aload_n cd136_11 rfl rfl ?_
      refine g_getP cd136_12 rfl (OH.o hw) (OH.p1 hw) ?_
      refine g_getI cd136_15 rfl (O6.o (OH.q1 hw)) ?_
      refine g_if_ne cd136_18 rfl (fun hb => ?_) (fun hb => ?_)
      · have h := ifpE hb h
        refine g_iconst cd136_21 rfl ?_
        exact g_iret cd136_22 (Or.inl rfl) (by obtain rfl := Option.some.inj h; rfl)
      · have h := ifnE hb h
        refine g_aload_n cd136_23 rfl rfl ?_
        refine g_getP cd136_24 rfl (OH.o hw) (OH.p3 hw) ?_
        refine g_getI cd136_27 rfl (O9.o (OH.q3 hw)) ?_
        refine g_sipush cd136_30 rfl ?_
        refine g_icmp_lt cd136_33 rfl (fun hb => ?_) (fun hb => ?_)
        · have h := ifpE hb h
          refine g_aload_n cd136_38 rfl rfl ?_
          refine g_getP cd136_39 rfl (OH.o hw) (OH.p8 hw) ?_
          refine g_aload_n cd136_42 rfl rfl ?_
          refine g_getP cd136_43 rfl (OH.o hw) (OH.p3 hw) ?_
          obtain ⟨x1, hx, h⟩ := bnd h
          refine g_callVV (L := [some (.ref 60), some (.ref 25), none]) cd136_46 rfl rfl rfl rfl rfl (O3.o (OH.q8 hw)) (t_History_keep (by omega) (OH.q8 hw) (OH.q3 hw) hx) ?_
          refine g_aload_n cd136_49 rfl rfl ?_
          refine g_getP cd136_50 rfl (OH.o hw) (OH.p11 hw) ?_
          refine g_iload_n cd136_53 rfl rfl ?_
          obtain ⟨I2, e1, h⟩ := bnd h
          refine G_putI cd136_54 rfl (O2.o (OH.q11 hw)) (Option.some.inj e1) ?_
          refine g_aload_n cd136_57 rfl rfl ?_
          refine g_getP cd136_58 rfl (OH.o hw) (OH.p3 hw) ?_
          refine g_aload_n cd136_61 rfl rfl ?_
          refine g_getP cd136_62 rfl (OH.o hw) (OH.p1 hw) ?_
          refine g_aload_n cd136_65 rfl rfl ?_
          refine g_getP cd136_66 rfl (OH.o hw) (OH.p11 hw) ?_
          refine g_iload_n cd136_69 rfl rfl ?_
          obtain ⟨x3, hx, h⟩ := bnd h
          refine g_callVI (L := [some (.ref 25), some (.ref ln), some (.ref 192), some (.int l1), none, none]) cd136_70 rfl rfl rfl rfl rfl (O9.o (OH.q3 hw)) (t_State_passNights (by omega) (OH.q3 hw) (OH.q1 hw) (OH.q11 hw) hx) ?_
          exact g_iret cd136_73 (Or.inl rfl) (by obtain rfl := Option.some.inj h; rfl)
        · have h := ifnE hb h
          refine g_iconst cd136_36 rfl ?_
          exact g_iret cd136_37 (Or.inl rfl) (by obtain rfl := Option.some.inj h; rfl)
/-! HiddenOrLost.undo()I -/
theorem cd137_0 : code9 137 0 = some (0, .aload_n 0, [1], .null, []) := rfl
theorem cd137_1 : code9 137 1 = some (0, .getfield 56, [3, 11, 8, 2], .null, []) := rfl
theorem cd137_4 : code9 137 4 = some (0, .aload_n 0, [1], .null, []) := rfl
theorem cd137_5 : code9 137 5 = some (0, .getfield 29, [3, 11, 3, 2], .null, []) := rfl
theorem cd137_8 : code9 137 8 = some (0, .invokevirtual 253, [3, 26, 2, 1, 3, 3, 3, 0], .null, []) := rfl
theorem cd137_11 : code9 137 11 = some (0, .ifCond .ne 5, [3, 16], .null, []) := rfl
theorem cd137_14 : code9 137 14 = some (0, .iconst (-1), [1], .int (-1), []) := rfl
theorem cd137_15 : code9 137 15 = some (0, .ireturn, [1, 1], .null, []) := rfl
theorem cd137_16 : code9 137 16 = some (0, .aload_n 0, [1], .null, []) := rfl
theorem cd137_17 : code9 137 17 = some (0, .getfield 56, [3, 11, 8, 2], .null, []) := rfl
theorem cd137_20 : code9 137 20 = some (0, .getfield 257, [3, 3, 2, 0], .null, []) := rfl
theorem cd137_23 : code9 137 23 = some (0, .ireturn, [1, 1], .null, []) := rfl
def Hol_undo (ln sp sn ss : Nat) (I : FI) : Option (Int32 × FI) := Option.bind (History_takeBack 60 25 I) fun x1 => (if x1.1 then (some (x1.2 60 2, x1.2)) else (some ((-1), x1.2)))
set_option maxRecDepth 8000 in
theorem t_Hol_undo {d : Nat} {ln sp sn ss : Nat} {c : Nat × Nat} {S : Nat → Nat × Nat} {P : Nat → Nat → Option Nat} {I : FI} {J : FJ} {r : Int32 × FI} (hd : 3 ≤ d) (hw : OH S P ln sp sn ss) (h : Hol_undo ln sp sn ss I = some r) : Go d M_Hol_undo 0 [some (.ref 0)] [] (c, S, I, J, P) (some (.int r.1), false, (c, S, r.2, J, P)) := by
  obtain ⟨d, rfl⟩ : ∃ e, d = e + 1 := ⟨d - 1, by omega⟩
  unfold Hol_undo at h
  refine g_aload_n cd137_0 rfl rfl ?_
  refine g_getP cd137_1 rfl (OH.o hw) (OH.p8 hw) ?_
  refine g_aload_n cd137_4 rfl rfl ?_
  refine g_getP cd137_5 rfl (OH.o hw) (OH.p3 hw) ?_
  obtain ⟨x1, hx, h⟩ := bnd h
  refine g_callVZ (L := [some (.ref 60), some (.ref 25), none]) cd137_8 rfl rfl rfl rfl rfl (O3.o (OH.q8 hw)) (t_History_takeBack (by omega) (OH.q8 hw) (OH.q3 hw) hx) ?_
  refine g_if_ne cd137_11 rfl (fun hb => ?_) (fun hb => ?_)
  · have h := ifnE (b2i_f hb) h
    refine g_iconst cd137_14 rfl ?_
    exact g_iret cd137_15 (Or.inl rfl) (by obtain rfl := Option.some.inj h; rfl)
  · have h := ifpE (b2i_t hb) h
    refine g_aload_n cd137_16 rfl rfl ?_
    refine g_getP cd137_17 rfl (OH.o hw) (OH.p8 hw) ?_
    refine g_getI cd137_20 rfl (O3.o (OH.q8 hw)) ?_
    exact g_iret cd137_23 (Or.inl rfl) (by obtain rfl := Option.some.inj h; rfl)
/-! HiddenOrLost.reading()I -/
theorem cd138_0 : code9 138 0 = some (0, .aload_n 0, [1], .null, []) := rfl
theorem cd138_1 : code9 138 1 = some (0, .getfield 80, [3, 11, 12, 2], .null, []) := rfl
theorem cd138_4 : code9 138 4 = some (0, .aload_n 0, [1], .null, []) := rfl
theorem cd138_5 : code9 138 5 = some (0, .getfield 19, [3, 11, 1, 2], .null, []) := rfl
theorem cd138_8 : code9 138 8 = some (0, .aload_n 0, [1], .null, []) := rfl
theorem cd138_9 : code9 138 9 = some (0, .getfield 29, [3, 11, 3, 2], .null, []) := rfl
theorem cd138_12 : code9 138 12 = some (0, .iconst (-1), [1], .int (-1), []) := rfl
theorem cd138_13 : code9 138 13 = some (0, .invokevirtual 260, [3, 1, 4, 1, 0, 8, 0, 0], .null, []) := rfl
theorem cd138_16 : code9 138 16 = some (0, .aload_n 0, [1], .null, []) := rfl
theorem cd138_17 : code9 138 17 = some (0, .getfield 80, [3, 11, 12, 2], .null, []) := rfl
theorem cd138_20 : code9 138 20 = some (0, .invokevirtual 276, [3, 2, 1, 1, 1, 3, 0, 0], .null, []) := rfl
theorem cd138_23 : code9 138 23 = some (0, .ireturn, [1, 1], .null, []) := rfl
def Hol_reading (N : Nat) (ln sp sn ss : Nat) (I : FI) (J : FJ) : Option (Int32 × FJ) := Option.bind (Beliefs_weigh N 193 ln 25 (-1) I J) fun x1 => (Option.bind (Beliefs_likeliest N 193 x1) fun x2 => (some (x2, x1)))
set_option maxRecDepth 8000 in
theorem t_Hol_reading {d : Nat} {N : Nat} {ln sp sn ss : Nat} {c : Nat × Nat} {S : Nat → Nat × Nat} {P : Nat → Nat → Option Nat} {I : FI} {J : FJ} {r : Int32 × FJ} (hd : 2 ≤ d) (hw : OH S P ln sp sn ss) (h : Hol_reading N ln sp sn ss I J = some r) : Go d M_Hol_reading 0 [some (.ref 0)] [] (c, S, I, J, P) (some (.int r.1), false, (c, S, I, r.2, P)) := by
  obtain ⟨d, rfl⟩ : ∃ e, d = e + 1 := ⟨d - 1, by omega⟩
  unfold Hol_reading at h
  refine g_aload_n cd138_0 rfl rfl ?_
  refine g_getP cd138_1 rfl (OH.o hw) (OH.p12 hw) ?_
  refine g_aload_n cd138_4 rfl rfl ?_
  refine g_getP cd138_5 rfl (OH.o hw) (OH.p1 hw) ?_
  refine g_aload_n cd138_8 rfl rfl ?_
  refine g_getP cd138_9 rfl (OH.o hw) (OH.p3 hw) ?_
  refine g_iconst cd138_12 rfl ?_
  obtain ⟨x1, hx, h⟩ := bnd h
  refine g_callVV (L := [some (.ref 193), some (.ref ln), some (.ref 25), some (.int (-1)), none, none, none, none]) cd138_13 rfl rfl rfl rfl rfl (O0.o (OH.q12 hw)) (t_Beliefs_weigh (by omega) (OH.q12 hw) (OH.q1 hw) (OH.q3 hw) hx) ?_
  refine g_aload_n cd138_16 rfl rfl ?_
  refine g_getP cd138_17 rfl (OH.o hw) (OH.p12 hw) ?_
  obtain ⟨x2, hx, h⟩ := bnd h
  refine g_callVI (L := [some (.ref 193), none, none]) cd138_20 rfl rfl rfl rfl rfl (O0.o (OH.q12 hw)) (t_Beliefs_likeliest (by omega) (OH.q12 hw) hx) ?_
  exact g_iret cd138_23 (Or.inl rfl) (by obtain rfl := Option.some.inj h; rfl)
/-! HiddenOrLost.asks()I -/
theorem cd139_0 : code9 139 0 = some (0, .aload_n 0, [1], .null, []) := rfl
theorem cd139_1 : code9 139 1 = some (0, .getfield 80, [3, 11, 12, 2], .null, []) := rfl
theorem cd139_4 : code9 139 4 = some (0, .aload_n 0, [1], .null, []) := rfl
theorem cd139_5 : code9 139 5 = some (0, .getfield 19, [3, 11, 1, 2], .null, []) := rfl
theorem cd139_8 : code9 139 8 = some (0, .aload_n 0, [1], .null, []) := rfl
theorem cd139_9 : code9 139 9 = some (0, .getfield 29, [3, 11, 3, 2], .null, []) := rfl
theorem cd139_12 : code9 139 12 = some (0, .iconst (-1), [1], .int (-1), []) := rfl
theorem cd139_13 : code9 139 13 = some (0, .invokevirtual 260, [3, 1, 4, 1, 0, 8, 0, 0], .null, []) := rfl
theorem cd139_16 : code9 139 16 = some (0, .aload_n 0, [1], .null, []) := rfl
theorem cd139_17 : code9 139 17 = some (0, .getfield 80, [3, 11, 12, 2], .null, []) := rfl
theorem cd139_20 : code9 139 20 = some (0, .aload_n 0, [1], .null, []) := rfl
theorem cd139_21 : code9 139 21 = some (0, .getfield 19, [3, 11, 1, 2], .null, []) := rfl
theorem cd139_24 : code9 139 24 = some (0, .invokevirtual 286, [3, 3, 2, 1, 1, 4, 0, 0], .null, []) := rfl
theorem cd139_27 : code9 139 27 = some (0, .ireturn, [1, 1], .null, []) := rfl
def Hol_asks (N : Nat) (ln sp sn ss : Nat) (I : FI) (J : FJ) : Option (Int32 × FJ) := Option.bind (Beliefs_weigh N 193 ln 25 (-1) I J) fun x1 => (Option.bind (Beliefs_surestKind N 193 ln I x1) fun x2 => (some (x2, x1)))
set_option maxRecDepth 8000 in
theorem t_Hol_asks {d : Nat} {N : Nat} {ln sp sn ss : Nat} {c : Nat × Nat} {S : Nat → Nat × Nat} {P : Nat → Nat → Option Nat} {I : FI} {J : FJ} {r : Int32 × FJ} (hd : 3 ≤ d) (hw : OH S P ln sp sn ss) (h : Hol_asks N ln sp sn ss I J = some r) : Go d M_Hol_asks 0 [some (.ref 0)] [] (c, S, I, J, P) (some (.int r.1), false, (c, S, I, r.2, P)) := by
  obtain ⟨d, rfl⟩ : ∃ e, d = e + 1 := ⟨d - 1, by omega⟩
  unfold Hol_asks at h
  refine g_aload_n cd139_0 rfl rfl ?_
  refine g_getP cd139_1 rfl (OH.o hw) (OH.p12 hw) ?_
  refine g_aload_n cd139_4 rfl rfl ?_
  refine g_getP cd139_5 rfl (OH.o hw) (OH.p1 hw) ?_
  refine g_aload_n cd139_8 rfl rfl ?_
  refine g_getP cd139_9 rfl (OH.o hw) (OH.p3 hw) ?_
  refine g_iconst cd139_12 rfl ?_
  obtain ⟨x1, hx, h⟩ := bnd h
  refine g_callVV (L := [some (.ref 193), some (.ref ln), some (.ref 25), some (.int (-1)), none, none, none, none]) cd139_13 rfl rfl rfl rfl rfl (O0.o (OH.q12 hw)) (t_Beliefs_weigh (by omega) (OH.q12 hw) (OH.q1 hw) (OH.q3 hw) hx) ?_
  refine g_aload_n cd139_16 rfl rfl ?_
  refine g_getP cd139_17 rfl (OH.o hw) (OH.p12 hw) ?_
  refine g_aload_n cd139_20 rfl rfl ?_
  refine g_getP cd139_21 rfl (OH.o hw) (OH.p1 hw) ?_
  obtain ⟨x2, hx, h⟩ := bnd h
  refine g_callVI (L := [some (.ref 193), some (.ref ln), none, none]) cd139_24 rfl rfl rfl rfl rfl (O0.o (OH.q12 hw)) (t_Beliefs_surestKind (by omega) (OH.q12 hw) (OH.q1 hw) hx) ?_
  exact g_iret cd139_27 (Or.inl rfl) (by obtain rfl := Option.some.inj h; rfl)
/-! HiddenOrLost.best(I)I -/
theorem cd140_0 : code9 140 0 = some (0, .aload_n 0, [1], .null, []) := rfl
theorem cd140_1 : code9 140 1 = some (0, .getfield 19, [3, 11, 1, 2], .null, []) := rfl
theorem cd140_4 : code9 140 4 = some (0, .iload_n 1, [1], .null, []) := rfl
theorem cd140_5 : code9 140 5 = some (0, .invokevirtual 141, [3, 55, 2, 1, 3, 2, 6, 0], .null, []) := rfl
theorem cd140_8 : code9 140 8 = some (0, .ifCond .eq 16, [3, 24], .null, []) := rfl
theorem cd140_11 : code9 140 11 = some (0, .aload_n 0, [1], .null, []) := rfl
theorem cd140_12 : code9 140 12 = some (0, .getfield 29, [3, 11, 3, 2], .null, []) := rfl
theorem cd140_15 : code9 140 15 = some (0, .getfield 157, [3, 9, 3, 2], .null, []) := rfl
theorem cd140_18 : code9 140 18 = some (0, .iload_n 1, [1], .null, []) := rfl
theorem cd140_19 : code9 140 19 = some (0, .iaload, [1], .null, []) := rfl
theorem cd140_20 : code9 140 20 = some (0, .iconst 1, [1], .int 1, []) := rfl
theorem cd140_21 : code9 140 21 = some (0, .if_icmp .eq 5, [3, 26], .null, []) := rfl
theorem cd140_24 : code9 140 24 = some (3, .iconst (-1), [1], .int (-1), []) := rfl
theorem cd140_25 : code9 140 25 = some (0, .ireturn, [1, 1], .null, []) := rfl
theorem cd140_26 : code9 140 26 = some (0, .aload_n 0, [1], .null, []) := rfl
theorem cd140_27 : code9 140 27 = some (0, .getfield 80, [3, 11, 12, 2], .null, []) := rfl
theorem cd140_30 : code9 140 30 = some (0, .aload_n 0, [1], .null, []) := rfl
theorem cd140_31 : code9 140 31 = some (0, .getfield 19, [3, 11, 1, 2], .null, []) := rfl
theorem cd140_34 : code9 140 34 = some (0, .aload_n 0, [1], .null, []) := rfl
theorem cd140_35 : code9 140 35 = some (0, .getfield 29, [3, 11, 3, 2], .null, []) := rfl
theorem cd140_38 : code9 140 38 = some (0, .iload_n 1, [1], .null, []) := rfl
theorem cd140_39 : code9 140 39 = some (0, .invokevirtual 260, [3, 1, 4, 1, 0, 8, 0, 0], .null, []) := rfl
theorem cd140_42 : code9 140 42 = some (0, .aload_n 0, [1], .null, []) := rfl
theorem cd140_43 : code9 140 43 = some (0, .getfield 80, [3, 11, 12, 2], .null, []) := rfl
theorem cd140_46 : code9 140 46 = some (0, .aload_n 0, [1], .null, []) := rfl
theorem cd140_47 : code9 140 47 = some (0, .getfield 19, [3, 11, 1, 2], .null, []) := rfl
theorem cd140_50 : code9 140 50 = some (0, .aload_n 0, [1], .null, []) := rfl
theorem cd140_51 : code9 140 51 = some (0, .getfield 19, [3, 11, 1, 2], .null, []) := rfl
theorem cd140_54 : code9 140 54 = some (0, .iload_n 1, [1], .null, []) := rfl
theorem cd140_55 : code9 140 55 = some (0, .iconst 5, [1], .int 5, []) := rfl
theorem cd140_56 : code9 140 56 = some (0, .invokevirtual 163, [3, 51, 3, 1, 1, 3, 6, 0], .null, []) := rfl
theorem cd140_59 : code9 140 59 = some (0, .invokevirtual 292, [3, 5, 3, 1, 3, 7, 0, 0], .null, []) := rfl
theorem cd140_62 : code9 140 62 = some (0, .ifCond .eq 7, [3, 69], .null, []) := rfl
theorem cd140_65 : code9 140 65 = some (0, .iconst 0, [1], .int 0, []) := rfl
theorem cd140_66 : code9 140 66 = some (0, .goto 4, [3, 70, 2], .null, []) := rfl
theorem cd140_69 : code9 140 69 = some (0, .iconst 1, [1], .int 1, []) := rfl
theorem cd140_70 : code9 140 70 = some (3, .ireturn, [1, 1], .null, []) := rfl
def Hol_best (N : Nat) (ln sp sn ss : Nat) (l1 : Int32) (I : FI) (J : FJ) : Option (Int32 × FJ) := if (Land_hasFind ln l1 I) then (if in9 l1 10 then (if (I 29 l1.toNatClampNeg) = 1 then (Option.bind (Beliefs_weigh N 193 ln 25 l1 I J) fun x2 => (Option.bind (Land_factOf ln l1 5 I) fun x3 => (Option.bind (Beliefs_tellingPays N 193 ln x3 I x2) fun x4 => (if x4 then (some (0, x2)) else (some (1, x2)))))) else (some ((-1), J))) else none) else (some ((-1), J))
set_option maxRecDepth 8000 in
theorem t_Hol_best {d : Nat} {N : Nat} {ln sp sn ss : Nat} {c : Nat × Nat} {S : Nat → Nat × Nat} {P : Nat → Nat → Option Nat} {I : FI} {J : FJ} {l1 : Int32} {r : Int32 × FJ} (hd : 2 ≤ d) (hw : OH S P ln sp sn ss) (h : Hol_best N ln sp sn ss l1 I J = some r) : Go d M_Hol_best 0 [some (.ref 0), some (.int l1)] [] (c, S, I, J, P) (some (.int r.1), false, (c, S, I, r.2, P)) := by
  obtain ⟨d, rfl⟩ : ∃ e, d = e + 1 := ⟨d - 1, by omega⟩
  unfold Hol_best at h
  refine g_aload_n cd140_0 rfl rfl ?_
  refine g_getP cd140_1 rfl (OH.o hw) (OH.p1 hw) ?_
  refine g_iload_n cd140_4 rfl rfl ?_
  refine g_callVZ (L := [some (.ref ln), some (.int l1)]) cd140_5 rfl rfl rfl rfl rfl (O6.o (OH.q1 hw)) (t_Land_hasFind (by omega) (OH.q1 hw) rfl) ?_
  refine g_if_eq cd140_8 rfl (fun hb => ?_) (fun hb => ?_)
  · have h := ifnE (b2i_f hb) h
    refine g_iconst cd140_24 rfl ?_
    exact g_iret cd140_25 (Or.inl rfl) (by obtain rfl := Option.some.inj h; rfl)
  · have h := ifpE (b2i_t hb) h
    refine g_aload_n cd140_11 rfl rfl ?_
    refine g_getP cd140_12 rfl (OH.o hw) (OH.p3 hw) ?_
    refine g_getP cd140_15 rfl (O9.o (OH.q3 hw)) (show P 25 3 = some 29 from O9.p3 (OH.q3 hw)) ?_
    refine g_iload_n cd140_18 rfl rfl ?_
    obtain ⟨hg1, h⟩ := grd h
    refine G_iald cd140_19 rfl (show S 29 = (1, 10) from O9.s3 (OH.q3 hw)) hg1 ?_
    refine g_iconst cd140_20 rfl ?_
    refine g_icmp_eq cd140_21 rfl (fun hb => ?_) (fun hb => ?_)
    · have h := ifpE hb h
      refine g_aload_n cd140_26 rfl rfl ?_
      refine g_getP cd140_27 rfl (OH.o hw) (OH.p12 hw) ?_
      refine g_aload_n cd140_30 rfl rfl ?_
      refine g_getP cd140_31 rfl (OH.o hw) (OH.p1 hw) ?_
      refine g_aload_n cd140_34 rfl rfl ?_
      refine g_getP cd140_35 rfl (OH.o hw) (OH.p3 hw) ?_
      refine g_iload_n cd140_38 rfl rfl ?_
      obtain ⟨x2, hx, h⟩ := bnd h
      refine g_callVV (L := [some (.ref 193), some (.ref ln), some (.ref 25), some (.int l1), none, none, none, none]) cd140_39 rfl rfl rfl rfl rfl (O0.o (OH.q12 hw)) (t_Beliefs_weigh (by omega) (OH.q12 hw) (OH.q1 hw) (OH.q3 hw) hx) ?_
      refine g_aload_n cd140_42 rfl rfl ?_
      refine g_getP cd140_43 rfl (OH.o hw) (OH.p12 hw) ?_
      refine g_aload_n cd140_46 rfl rfl ?_
      refine g_getP cd140_47 rfl (OH.o hw) (OH.p1 hw) ?_
      refine g_aload_n cd140_50 rfl rfl ?_
      refine g_getP cd140_51 rfl (OH.o hw) (OH.p1 hw) ?_
      refine g_iload_n cd140_54 rfl rfl ?_
      refine g_iconst cd140_55 rfl ?_
      obtain ⟨x3, hx, h⟩ := bnd h
      refine g_callVI (L := [some (.ref ln), some (.int l1), some (.int 5)]) cd140_56 rfl rfl rfl rfl rfl (O6.o (OH.q1 hw)) (t_Land_factOf (by omega) (OH.q1 hw) hx) ?_
      obtain ⟨x4, hx, h⟩ := bnd h
      refine g_callVZ (L := [some (.ref 193), some (.ref ln), some (.int x3), none, none, none, none]) cd140_59 rfl rfl rfl rfl rfl (O0.o (OH.q12 hw)) (t_Beliefs_tellingPays (by omega) (OH.q12 hw) (OH.q1 hw) hx) ?_
      refine g_if_eq cd140_62 rfl (fun hb => ?_) (fun hb => ?_)
      · have h := ifnE (b2i_f hb) h
        refine g_iconst cd140_69 rfl ?_
        exact g_iret cd140_70 (Or.inl rfl) (by obtain rfl := Option.some.inj h; rfl)
      · have h := ifpE (b2i_t hb) h
        refine g_iconst cd140_65 rfl ?_
        refine g_goto (ls2 := [some (.ref 0), some (.int l1)]) cd140_66 rfl rfl ?_
        exact g_iret cd140_70 (Or.inl rfl) (by obtain rfl := Option.some.inj h; rfl)
    · have h := ifnE hb h
      refine g_iconst cd140_24 rfl ?_
      exact g_iret cd140_25 (Or.inl rfl) (by obtain rfl := Option.some.inj h; rfl)

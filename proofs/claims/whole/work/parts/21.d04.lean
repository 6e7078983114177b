/-! HiddenOrLost$Route.search(LHiddenOrLost$Land;LHiddenOrLost$State;II)V -/
theorem cd62_0 : code9 62 0 = some (0, .aload_n 0, [1], .null, []) := rfl
theorem cd62_1 : code9 62 1 = some (0, .iconst 0, [1], .int 0, []) := rfl
theorem cd62_2 : code9 62 2 = some (0, .putfield 24, [3, 7, 4, 0], .null, []) := rfl
theorem cd62_5 : code9 62 5 = some (0, .iconst 0, [1], .int 0, []) := rfl
theorem cd62_6 : code9 62 6 = some (0, .istore 5, [2], .null, []) := rfl
theorem cd62_8 : code9 62 8 = some (7, .iload 5, [2], .null, []) := rfl
theorem cd62_10 : code9 62 10 = some (0, .aload_n 1, [1], .null, []) := rfl
theorem cd62_11 : code9 62 11 = some (0, .getfield 34, [3, 6, 9, 0], .null, []) := rfl
theorem cd62_14 : code9 62 14 = some (0, .if_icmp .ge 66, [3, 80], .null, []) := rfl
theorem cd62_17 : code9 62 17 = some (0, .iconst 0, [1], .int 0, []) := rfl
theorem cd62_18 : code9 62 18 = some (0, .istore 6, [2], .null, []) := rfl
theorem cd62_20 : code9 62 20 = some (8, .iload 6, [2], .null, []) := rfl
theorem cd62_22 : code9 62 22 = some (0, .aload_n 1, [1], .null, []) := rfl
theorem cd62_23 : code9 62 23 = some (0, .getfield 39, [3, 6, 8, 0], .null, []) := rfl
theorem cd62_26 : code9 62 26 = some (0, .if_icmp .ge 48, [3, 74], .null, []) := rfl
theorem cd62_29 : code9 62 29 = some (0, .aload_n 2, [1], .null, []) := rfl
theorem cd62_30 : code9 62 30 = some (0, .aload_n 1, [1], .null, []) := rfl
theorem cd62_31 : code9 62 31 = some (0, .iload 6, [2], .null, []) := rfl
theorem cd62_33 : code9 62 33 = some (0, .iload 5, [2], .null, []) := rfl
theorem cd62_35 : code9 62 35 = some (0, .invokevirtual 42, [3, 84, 4, 1, 1, 7, 9, 0], .null, []) := rfl
theorem cd62_38 : code9 62 38 = some (0, .istore 7, [2], .null, []) := rfl
theorem cd62_40 : code9 62 40 = some (0, .aload_n 0, [1], .null, []) := rfl
theorem cd62_41 : code9 62 41 = some (0, .getfield 9, [3, 7, 0, 2], .null, []) := rfl
theorem cd62_44 : code9 62 44 = some (0, .bipush 6, [2], .int 6, []) := rfl
theorem cd62_46 : code9 62 46 = some (0, .iload 5, [2], .null, []) := rfl
theorem cd62_48 : code9 62 48 = some (0, .imul, [1], .null, []) := rfl
theorem cd62_49 : code9 62 49 = some (0, .iload 6, [2], .null, []) := rfl
theorem cd62_51 : code9 62 51 = some (0, .iadd, [1], .null, []) := rfl
theorem cd62_52 : code9 62 52 = some (0, .iload 7, [2], .null, []) := rfl
theorem cd62_54 : code9 62 54 = some (0, .iastore, [1], .null, []) := rfl
theorem cd62_55 : code9 62 55 = some (0, .aload_n 0, [1], .null, []) := rfl
theorem cd62_56 : code9 62 56 = some (0, .aload_n 0, [1], .null, []) := rfl
theorem cd62_57 : code9 62 57 = some (0, .getfield 24, [3, 7, 4, 0], .null, []) := rfl
theorem cd62_60 : code9 62 60 = some (0, .iload 7, [2], .null, []) := rfl
theorem cd62_62 : code9 62 62 = some (0, .invokestatic 48, [3, 6], .null, []) := rfl
theorem cd62_65 : code9 62 65 = some (0, .putfield 24, [3, 7, 4, 0], .null, []) := rfl
theorem cd62_68 : code9 62 68 = some (0, .iinc 6 1, [3], .int 1, []) := rfl
theorem cd62_71 : code9 62 71 = some (0, .goto (-51), [3, 20, 7], .null, []) := rfl
theorem cd62_74 : code9 62 74 = some (0, .iinc 5 1, [3], .int 1, []) := rfl
theorem cd62_77 : code9 62 77 = some (0, .goto (-69), [3, 8, 6], .null, []) := rfl
theorem cd62_80 : code9 62 80 = some (0, .aload_n 0, [1], .null, []) := rfl
theorem cd62_81 : code9 62 81 = some (0, .getfield 15, [3, 7, 1, 2], .null, []) := rfl
theorem cd62_84 : code9 62 84 = some (0, .iconst 0, [1], .int 0, []) := rfl
theorem cd62_85 : code9 62 85 = some (0, .invokestatic 54, [3, 299, 2, 0, 0, 4, 17, 0], .null, []) := rfl
theorem cd62_88 : code9 62 88 = some (0, .aload_n 0, [1], .null, []) := rfl
theorem cd62_89 : code9 62 89 = some (0, .iload 4, [2], .null, []) := rfl
theorem cd62_91 : code9 62 91 = some (0, .putfield 28, [3, 7, 5, 0], .null, []) := rfl
theorem cd62_94 : code9 62 94 = some (0, .aload_n 0, [1], .null, []) := rfl
theorem cd62_95 : code9 62 95 = some (0, .iconst (-1), [1], .int (-1), []) := rfl
theorem cd62_96 : code9 62 96 = some (0, .putfield 31, [3, 7, 6, 0], .null, []) := rfl
theorem cd62_99 : code9 62 99 = some (0, .aload_n 0, [1], .null, []) := rfl
theorem cd62_100 : code9 62 100 = some (0, .aload_n 1, [1], .null, []) := rfl
theorem cd62_101 : code9 62 101 = some (0, .iconst 0, [1], .int 0, []) := rfl
theorem cd62_102 : code9 62 102 = some (0, .iload_n 3, [1], .null, []) := rfl
theorem cd62_103 : code9 62 103 = some (0, .iconst 0, [1], .int 0, []) := rfl
theorem cd62_104 : code9 62 104 = some (0, .invokevirtual 60, [3, 63, 5, 1, 0, 8, 7, 0], .null, []) := rfl
theorem cd62_107 : code9 62 107 = some (0, .return_, [1], .null, []) := rfl
def Route_search_20 (N : Nat) (a0 a1 a2 : Nat) (K : Int32 → Int32 → Int32 → FI → Option (FI)) : Nat → Int32 → Int32 → Int32 → Int32 → FI → Option (FI)
  | 0 => fun _ _ _ _ _ => none
  | n + 1 => fun l3 l4 l5 l6 I => if (I a1 8) ≤ l6 then (K l3 l4 (l5 + 1) I) else (Option.bind (State_worthOf N a2 a1 l6 l5 I) fun x6 => (if in9 ((6 * l5) + l6) 36 then (Option.bind (some (up2 I (a0 + 1) (((6 * l5) + l6).toNatClampNeg) x6)) fun I8 => (Option.bind (some (up2 I8 a0 4 (if (I8 a0 4) < x6 then x6 else (I8 a0 4)))) fun I9 => (Route_search_20 N a0 a1 a2 K n l3 l4 l5 (l6 + 1) I9))) else none))
def Route_search_8 (N : Nat) (a0 a1 a2 : Nat) : Nat → Int32 → Int32 → Int32 → FI → Option (FI)
  | 0 => fun _ _ _ _ => none
  | n + 1 => fun l3 l4 l5 I => if (I a1 9) ≤ l5 then (Option.bind (Arrays_fill N (a0 + 2) 36 0 I) fun x2 => (Option.bind (some (up2 x2 a0 5 l4)) fun I3 => (Option.bind (some (up2 I3 a0 6 (-1 : Int32))) fun I4 => (Option.bind (Route_walk_R N dK a0 a1 0 l3 0 I4) fun x5 => (some x5))))) else (Route_search_20 N a0 a1 a2 (fun x3 x4 x5 I => Route_search_8 N a0 a1 a2 n x3 x4 x5 I) N l3 l4 l5 0 I)
def Route_search (N : Nat) (a0 a1 a2 : Nat) (l3 : Int32) (l4 : Int32) (I : FI) : Option (FI) := Option.bind (some (up2 I a0 4 (0 : Int32))) fun I1 => (Route_search_8 N a0 a1 a2 N l3 l4 0 I1)
set_option maxRecDepth 8000 in
theorem t_Route_search_20 {d : Nat} {N : Nat} {a0 a1 a2 : Nat} {c : Nat × Nat} {S : Nat → Nat × Nat} {P : Nat → Nat → Option Nat} {K : Int32 → Int32 → Int32 → FI → Option (FI)} {r : FI} (hd : 131 ≤ (d + 1)) (h0 : O7 S P a0) (h1 : O6 S P a1) (h2 : O9 S P a2) (hK : ∀ (x3 : Int32) (x4 : Int32) (x5 : Int32) (I : FI) (J : FJ), K x3 x4 x5 I = some r → Go (d + 1) M_Route_search 8 [some (.ref a0), some (.ref a1), some (.ref a2), some (.int x3), some (.int x4), some (.int x5), none, none] [] (c, S, I, J, P) (none, false, (c, S, r, J, P))) : ∀ (n : Nat) (l3 : Int32) (l4 : Int32) (l5 : Int32) (l6 : Int32) (I : FI) (J : FJ), Route_search_20 N a0 a1 a2 K n l3 l4 l5 l6 I = some r → Go (d + 1) M_Route_search 20 [some (.ref a0), some (.ref a1), some (.ref a2), some (.int l3), some (.int l4), some (.int l5), some (.int l6), none] [] (c, S, I, J, P) (none, false, (c, S, r, J, P)) := by
  intro n
  induction n with
  | zero =>
    intro l3 l4 l5 l6 I J h
    cases h
  | succ n ih =>
    intro l3 l4 l5 l6 I J h
    unfold Route_search_20 at h
    refine g_iload cd62_20 rfl rfl ?_
    refine g_aload_n cd62_22 rfl rfl ?_
    refine g_getI cd62_23 rfl (O6.o h1) ?_
    refine g_icmp_ge cd62_26 rfl (fun hb => ?_) (fun hb => ?_)
    · have h := ifpE hb h
      refine g_iinc (ls2 := [some (.ref a0), some (.ref a1), some (.ref a2), some (.int l3), some (.int l4), some (.int (l5 + 1)), some (.int l6), none]) cd62_74 rfl rfl rfl ?_
      refine g_goto (ls2 := [some (.ref a0), some (.ref a1), some (.ref a2), some (.int l3), some (.int l4), some (.int (l5 + 1)), none, none]) cd62_77 rfl rfl ?_
      exact hK l3 l4 (l5 + 1) I J h
    · have h := ifnE hb h
      refine g_aload_n cd62_29 rfl rfl ?_
      refine g_aload_n cd62_30 rfl rfl ?_
      refine g_iload cd62_31 rfl rfl ?_
      refine g_iload cd62_33 rfl rfl ?_
      obtain ⟨x6, hx, h⟩ := bnd h
      refine g_callVI (L := [some (.ref a2), some (.ref a1), some (.int l6), some (.int l5), none, none, none]) cd62_35 rfl rfl rfl rfl rfl (O9.o h2) (t_State_worthOf (by omega) h2 h1 hx) ?_
      refine g_istore (ls2 := [some (.ref a0), some (.ref a1), some (.ref a2), some (.int l3), some (.int l4), some (.int l5), some (.int l6), some (.int x6)]) cd62_38 rfl rfl ?_
      refine g_aload_n cd62_40 rfl rfl ?_
      refine g_getP cd62_41 rfl (O7.o h0) (show P a0 0 = some (a0 + 1) from O7.p0 h0) ?_
      refine g_bipush cd62_44 rfl ?_
      refine g_iload cd62_46 rfl rfl ?_
      refine g_imul cd62_48 rfl ?_
      refine g_iload cd62_49 rfl rfl ?_
      refine g_iadd cd62_51 rfl ?_
      refine g_iload cd62_52 rfl rfl ?_
      obtain ⟨hg7, h⟩ := grd h
      obtain ⟨I8, e1, h⟩ := bnd h
      refine G_iast cd62_54 rfl (show S (a0 + 1) = (1, 36) from O7.s0 h0) hg7 (Option.some.inj e1) ?_
      refine g_aload_n cd62_55 rfl rfl ?_
      refine g_aload_n cd62_56 rfl rfl ?_
      refine g_getI cd62_57 rfl (O7.o h0) ?_
      refine g_iload cd62_60 rfl rfl ?_
      refine g_max cd62_62 rfl (Nat.succ_ne_zero _) rfl ?_
      obtain ⟨I9, e1, h⟩ := bnd h
      refine G_putI cd62_65 rfl (O7.o h0) (Option.some.inj e1) ?_
      refine g_iinc (ls2 := [some (.ref a0), some (.ref a1), some (.ref a2), some (.int l3), some (.int l4), some (.int l5), some (.int (l6 + 1)), some (.int x6)]) cd62_68 rfl rfl rfl ?_
      refine g_goto (ls2 := [some (.ref a0), some (.ref a1), some (.ref a2), some (.int l3), some (.int l4), some (.int l5), some (.int (l6 + 1)), none]) cd62_71 rfl rfl ?_
      exact ih l3 l4 l5 (l6 + 1) I9 J h
set_option maxRecDepth 8000 in
theorem t_Route_search_8 {d : Nat} {N : Nat} {a0 a1 a2 : Nat} {c : Nat × Nat} {S : Nat → Nat × Nat} {P : Nat → Nat → Option Nat} {r : FI} (hd : 131 ≤ (d + 1)) (h0 : O7 S P a0) (h1 : O6 S P a1) (h2 : O9 S P a2) : ∀ (n : Nat) (l3 : Int32) (l4 : Int32) (l5 : Int32) (I : FI) (J : FJ), Route_search_8 N a0 a1 a2 n l3 l4 l5 I = some r → Go (d + 1) M_Route_search 8 [some (.ref a0), some (.ref a1), some (.ref a2), some (.int l3), some (.int l4), some (.int l5), none, none] [] (c, S, I, J, P) (none, false, (c, S, r, J, P)) := by
  intro n
  induction n with
  | zero =>
    intro l3 l4 l5 I J h
    cases h
  | succ n ih =>
    intro l3 l4 l5 I J h
    unfold Route_search_8 at h
    refine g_iload cd62_8 rfl rfl ?_
    refine g_aload_n cd62_10 rfl rfl ?_
    refine g_getI cd62_11 rfl (O6.o h1) ?_
    refine g_icmp_ge cd62_14 rfl (fun hb => ?_) (fun hb => ?_)
    · have h := ifpE hb h
      refine g_aload_n cd62_80 rfl rfl ?_
      refine g_getP cd62_81 rfl (O7.o h0) (show P a0 1 = some (a0 + 2) from O7.p1 h0) ?_
      refine g_iconst cd62_84 rfl ?_
      obtain ⟨x2, hx, h⟩ := bnd h
      refine g_callSV (L := [some (.ref (a0 + 2)), some (.int 0), none, none]) cd62_85 rfl rfl rfl rfl rfl (t_Arrays_fill (by omega) (show S (a0 + 2) = (1, 36) from O7.s1 h0) hx) ?_
      refine g_aload_n cd62_88 rfl rfl ?_
      refine g_iload cd62_89 rfl rfl ?_
      obtain ⟨I3, e1, h⟩ := bnd h
      refine G_putI cd62_91 rfl (O7.o h0) (Option.some.inj e1) ?_
      refine g_aload_n cd62_94 rfl rfl ?_
      refine g_iconst cd62_95 rfl ?_
      obtain ⟨I4, e1, h⟩ := bnd h
      refine G_putI cd62_96 rfl (O7.o h0) (Option.some.inj e1) ?_
      refine g_aload_n cd62_99 rfl rfl ?_
      refine g_aload_n cd62_100 rfl rfl ?_
      refine g_iconst cd62_101 rfl ?_
      refine g_iload_n cd62_102 rfl rfl ?_
      refine g_iconst cd62_103 rfl ?_
      obtain ⟨x5, hx, h⟩ := bnd h
      refine g_callVV (L := [some (.ref a0), some (.ref a1), some (.int 0), some (.int l3), some (.int 0), none, none, none]) cd62_104 rfl rfl rfl rfl rfl (O7.o h0) (t_Route_walk_R dK (2 * dK) (Nat.le_refl _) (by have := dK_eq; omega) h0 h1 hx) ?_
      exact g_vret cd62_107 (by obtain rfl := Option.some.inj h; rfl)
    · have h := ifnE hb h
      refine g_iconst cd62_17 rfl ?_
      refine g_istore (ls2 := [some (.ref a0), some (.ref a1), some (.ref a2), some (.int l3), some (.int l4), some (.int l5), some (.int 0), none]) cd62_18 rfl rfl ?_
      exact t_Route_search_20 hd h0 h1 h2 (fun x3 x4 x5 I J h => ih x3 x4 x5 I J h) _ l3 l4 l5 0 I J h
set_option maxRecDepth 8000 in
theorem t_Route_search {d : Nat} {N : Nat} {a0 a1 a2 : Nat} {c : Nat × Nat} {S : Nat → Nat × Nat} {P : Nat → Nat → Option Nat} {I : FI} {J : FJ} {l3 : Int32} {l4 : Int32} {r : FI} (hd : 131 ≤ d) (h0 : O7 S P a0) (h1 : O6 S P a1) (h2 : O9 S P a2) (h : Route_search N a0 a1 a2 l3 l4 I = some r) : Go d M_Route_search 0 [some (.ref a0), some (.ref a1), some (.ref a2), some (.int l3), some (.int l4), none, none, none] [] (c, S, I, J, P) (none, false, (c, S, r, J, P)) := by
  obtain ⟨d, rfl⟩ : ∃ e, d = e + 1 := ⟨d - 1, by omega⟩
  unfold Route_search at h
  refine g_aload_n cd62_0 rfl rfl ?_
  refine g_iconst cd62_1 rfl ?_
  obtain ⟨I1, e1, h⟩ := bnd h
  refine G_putI cd62_2 rfl (O7.o h0) (Option.some.inj e1) ?_
  refine g_iconst cd62_5 rfl ?_
  refine g_istore (ls2 := [some (.ref a0), some (.ref a1), some (.ref a2), some (.int l3), some (.int l4), some (.int 0), none, none]) cd62_6 rfl rfl ?_
  exact t_Route_search_8 hd h0 h1 h2 _ l3 l4 0 I1 J h
/-! HiddenOrLost$Sentence.clear()V -/
theorem cd66_0 : code9 66 0 = some (0, .aload_n 0, [1], .null, []) := rfl
theorem cd66_1 : code9 66 1 = some (0, .iconst 0, [1], .int 0, []) := rfl
theorem cd66_2 : code9 66 2 = some (0, .putfield 24, [3, 8, 4, 0], .null, []) := rfl
theorem cd66_5 : code9 66 5 = some (0, .aload_n 0, [1], .null, []) := rfl
theorem cd66_6 : code9 66 6 = some (0, .iconst 0, [1], .int 0, []) := rfl
theorem cd66_7 : code9 66 7 = some (0, .putfield 28, [3, 8, 5, 0], .null, []) := rfl
theorem cd66_10 : code9 66 10 = some (0, .return_, [1], .null, []) := rfl
def Sentence_clear (a0 : Nat) (I : FI) : Option (FI) := Option.bind (some (up2 I a0 4 (0 : Int32))) fun I1 => (Option.bind (some (up2 I1 a0 5 (0 : Int32))) fun I2 => (some I2))
set_option maxRecDepth 8000 in
theorem t_Sentence_clear {d : Nat} {a0 : Nat} {c : Nat × Nat} {S : Nat → Nat × Nat} {P : Nat → Nat → Option Nat} {I : FI} {J : FJ} {r : FI} (hd : 0 ≤ d) (h0 : O8 S P a0) (h : Sentence_clear a0 I = some r) : Go d M_Sentence_clear 0 [some (.ref a0)] [] (c, S, I, J, P) (none, false, (c, S, r, J, P)) := by
  unfold Sentence_clear at h
  refine g_aload_n cd66_0 rfl rfl ?_
  refine g_iconst cd66_1 rfl ?_
  obtain ⟨I1, e1, h⟩ := bnd h
  refine G_putI cd66_2 rfl (O8.o h0) (Option.some.inj e1) ?_
  refine g_aload_n cd66_5 rfl rfl ?_
  refine g_iconst cd66_6 rfl ?_
  obtain ⟨I2, e1, h⟩ := bnd h
  refine G_putI cd66_7 rfl (O8.o h0) (Option.some.inj e1) ?_
  exact g_vret cd66_10 (by obtain rfl := Option.some.inj h; rfl)
/-! HiddenOrLost$Sentence.add(III)V -/
theorem cd72_0 : code9 72 0 = some (0, .aload_n 0, [1], .null, []) := rfl
theorem cd72_1 : code9 72 1 = some (0, .getfield 24, [3, 8, 4, 0], .null, []) := rfl
theorem cd72_4 : code9 72 4 = some (0, .bipush 40, [2], .int 40, []) := rfl
theorem cd72_6 : code9 72 6 = some (0, .if_icmp .ge 43, [3, 49], .null, []) := rfl
theorem cd72_9 : code9 72 9 = some (0, .aload_n 0, [1], .null, []) := rfl
theorem cd72_10 : code9 72 10 = some (0, .getfield 11, [3, 8, 0, 2], .null, []) := rfl
theorem cd72_13 : code9 72 13 = some (0, .aload_n 0, [1], .null, []) := rfl
theorem cd72_14 : code9 72 14 = some (0, .getfield 24, [3, 8, 4, 0], .null, []) := rfl
theorem cd72_17 : code9 72 17 = some (0, .iload_n 1, [1], .null, []) := rfl
theorem cd72_18 : code9 72 18 = some (0, .iastore, [1], .null, []) := rfl
theorem cd72_19 : code9 72 19 = some (0, .aload_n 0, [1], .null, []) := rfl
theorem cd72_20 : code9 72 20 = some (0, .getfield 15, [3, 8, 1, 2], .null, []) := rfl
theorem cd72_23 : code9 72 23 = some (0, .aload_n 0, [1], .null, []) := rfl
theorem cd72_24 : code9 72 24 = some (0, .getfield 24, [3, 8, 4, 0], .null, []) := rfl
theorem cd72_27 : code9 72 27 = some (0, .iload_n 2, [1], .null, []) := rfl
theorem cd72_28 : code9 72 28 = some (0, .iastore, [1], .null, []) := rfl
theorem cd72_29 : code9 72 29 = some (0, .aload_n 0, [1], .null, []) := rfl
theorem cd72_30 : code9 72 30 = some (0, .getfield 18, [3, 8, 2, 2], .null, []) := rfl
theorem cd72_33 : code9 72 33 = some (0, .aload_n 0, [1], .null, []) := rfl
theorem cd72_34 : code9 72 34 = some (0, .getfield 24, [3, 8, 4, 0], .null, []) := rfl
theorem cd72_37 : code9 72 37 = some (0, .iload_n 3, [1], .null, []) := rfl
theorem cd72_38 : code9 72 38 = some (0, .iastore, [1], .null, []) := rfl
theorem cd72_39 : code9 72 39 = some (0, .aload_n 0, [1], .null, []) := rfl
theorem cd72_40 : code9 72 40 = some (0, .dup, [1], .null, []) := rfl
theorem cd72_41 : code9 72 41 = some (0, .getfield 24, [3, 8, 4, 0], .null, []) := rfl
theorem cd72_44 : code9 72 44 = some (0, .iconst 1, [1], .int 1, []) := rfl
theorem cd72_45 : code9 72 45 = some (0, .iadd, [1], .null, []) := rfl
theorem cd72_46 : code9 72 46 = some (0, .putfield 24, [3, 8, 4, 0], .null, []) := rfl
theorem cd72_49 : code9 72 49 = some (5, .return_, [1], .null, []) := rfl
def Sentence_add (a0 : Nat) (l1 : Int32) (l2 : Int32) (l3 : Int32) (I : FI) : Option (FI) := if 40 ≤ (I a0 4) then (some I) else (if in9 (I a0 4) 40 then (Option.bind (some (up2 I (a0 + 1) ((I a0 4).toNatClampNeg) l1)) fun I2 => (if in9 (I2 a0 4) 40 then (Option.bind (some (up2 I2 (a0 + 2) ((I2 a0 4).toNatClampNeg) l2)) fun I4 => (if in9 (I4 a0 4) 40 then (Option.bind (some (up2 I4 (a0 + 3) ((I4 a0 4).toNatClampNeg) l3)) fun I6 => (Option.bind (some (up2 I6 a0 4 ((I6 a0 4) + 1))) fun I7 => (some I7))) else none)) else none)) else none)
set_option maxRecDepth 8000 in
theorem t_Sentence_add {d : Nat} {a0 : Nat} {c : Nat × Nat} {S : Nat → Nat × Nat} {P : Nat → Nat → Option Nat} {I : FI} {J : FJ} {l1 : Int32} {l2 : Int32} {l3 : Int32} {r : FI} (hd : 0 ≤ d) (h0 : O8 S P a0) (h : Sentence_add a0 l1 l2 l3 I = some r) : Go d M_Sentence_add 0 [some (.ref a0), some (.int l1), some (.int l2), some (.int l3)] [] (c, S, I, J, P) (none, false, (c, S, r, J, P)) := by
  unfold Sentence_add at h
  refine g_aload_n cd72_0 rfl rfl ?_
  refine g_getI cd72_1 rfl (O8.o h0) ?_
  refine g_bipush cd72_4 rfl ?_
  refine g_icmp_ge cd72_6 rfl (fun hb => ?_) (fun hb => ?_)
  · have h := ifpE hb h
    exact g_vret cd72_49 (by obtain rfl := Option.some.inj h; rfl)
  · have h := ifnE hb h
    refine g_aload_n cd72_9 rfl rfl ?_
    refine g_getP cd72_10 rfl (O8.o h0) (show P a0 0 = some (a0 + 1) from O8.p0 h0) ?_
    refine g_aload_n cd72_13 rfl rfl ?_
    refine g_getI cd72_14 rfl (O8.o h0) ?_
    refine g_iload_n cd72_17 rfl rfl ?_
    obtain ⟨hg1, h⟩ := grd h
    obtain ⟨I2, e1, h⟩ := bnd h
    refine G_iast cd72_18 rfl (show S (a0 + 1) = (1, 40) from O8.s0 h0) hg1 (Option.some.inj e1) ?_
    refine g_aload_n cd72_19 rfl rfl ?_
    refine g_getP cd72_20 rfl (O8.o h0) (show P a0 1 = some (a0 + 2) from O8.p1 h0) ?_
    refine g_aload_n cd72_23 rfl rfl ?_
    refine g_getI cd72_24 rfl (O8.o h0) ?_
    refine g_iload_n cd72_27 rfl rfl ?_
    obtain ⟨hg3, h⟩ := grd h
    obtain ⟨I4, e1, h⟩ := bnd h
    refine G_iast cd72_28 rfl (show S (a0 + 2) = (1, 40) from O8.s1 h0) hg3 (Option.some.inj e1) ?_
    refine g_aload_n cd72_29 rfl rfl ?_
    refine g_getP cd72_30 rfl (O8.o h0) (show P a0 2 = some (a0 + 3) from O8.p2 h0) ?_
    refine g_aload_n cd72_33 rfl rfl ?_
    refine g_getI cd72_34 rfl (O8.o h0) ?_
    refine g_iload_n cd72_37 rfl rfl ?_
    obtain ⟨hg5, h⟩ := grd h
    obtain ⟨I6, e1, h⟩ := bnd h
    refine G_iast cd72_38 rfl (show S (a0 + 3) = (1, 40) from O8.s2 h0) hg5 (Option.some.inj e1) ?_
    refine g_aload_n cd72_39 rfl rfl ?_
    refine g_dupR cd72_40 rfl ?_
    refine g_getI cd72_41 rfl (O8.o h0) ?_
    refine g_iconst cd72_44 rfl ?_
    refine g_iadd cd72_45 rfl ?_
    obtain ⟨I7, e1, h⟩ := bnd h
    refine G_putI cd72_46 rfl (O8.o h0) (Option.some.inj e1) ?_
    exact g_vret cd72_49 (by obtain rfl := Option.some.inj h; rfl)
/-! HiddenOrLost$Sentence.readAll(LHiddenOrLost$Tape;LHiddenOrLost$Land;I)Z -/
theorem cd69_0 : code9 69 0 = some (0, .aload_n 0, [1], .null, []) := rfl
theorem cd69_1 : code9 69 1 = some (0, .aload_n 1, [1], .null, []) := rfl
theorem cd69_2 : code9 69 2 = some (0, .aload_n 2, [1], .null, []) := rfl
theorem cd69_3 : code9 69 3 = some (0, .iload_n 3, [1], .null, []) := rfl
theorem cd69_4 : code9 69 4 = some (0, .invokevirtual 70, [3, 70, 4, 1, 3, 5, 8, 0], .null, []) := rfl
theorem cd69_7 : code9 69 7 = some (0, .ifCond .ne 5, [3, 12], .null, []) := rfl
theorem cd69_10 : code9 69 10 = some (0, .iconst 0, [1], .int 0, []) := rfl
theorem cd69_11 : code9 69 11 = some (0, .ireturn, [1, 3], .null, []) := rfl
theorem cd69_12 : code9 69 12 = some (0, .iconst 0, [1], .int 0, []) := rfl
theorem cd69_13 : code9 69 13 = some (0, .istore 4, [2], .null, []) := rfl
theorem cd69_15 : code9 69 15 = some (6, .iload 4, [2], .null, []) := rfl
theorem cd69_17 : code9 69 17 = some (0, .sipush 200, [3], .int 200, []) := rfl
theorem cd69_20 : code9 69 20 = some (0, .if_icmp .ge 42, [3, 62], .null, []) := rfl
theorem cd69_23 : code9 69 23 = some (0, .aload_n 1, [1], .null, []) := rfl
theorem cd69_24 : code9 69 24 = some (0, .bipush 26, [2], .int 26, []) := rfl
theorem cd69_26 : code9 69 26 = some (0, .invokevirtual 60, [3, 121, 2, 1, 3, 2, 10, 0], .null, []) := rfl
theorem cd69_29 : code9 69 29 = some (0, .ifCond .eq 33, [3, 62], .null, []) := rfl
theorem cd69_32 : code9 69 32 = some (0, .aload_n 1, [1], .null, []) := rfl
theorem cd69_33 : code9 69 33 = some (0, .invokevirtual 63, [3, 114, 1, 1, 0, 1, 10, 0], .null, []) := rfl
theorem cd69_36 : code9 69 36 = some (0, .aload_n 0, [1], .null, []) := rfl
theorem cd69_37 : code9 69 37 = some (0, .aload_n 1, [1], .null, []) := rfl
theorem cd69_38 : code9 69 38 = some (0, .aload_n 2, [1], .null, []) := rfl
theorem cd69_39 : code9 69 39 = some (0, .iload_n 3, [1], .null, []) := rfl
theorem cd69_40 : code9 69 40 = some (0, .invokevirtual 70, [3, 70, 4, 1, 3, 5, 8, 0], .null, []) := rfl
theorem cd69_43 : code9 69 43 = some (0, .ifCond .ne 5, [3, 48], .null, []) := rfl
theorem cd69_46 : code9 69 46 = some (0, .iconst 0, [1], .int 0, []) := rfl
theorem cd69_47 : code9 69 47 = some (0, .ireturn, [1, 3], .null, []) := rfl
theorem cd69_48 : code9 69 48 = some (0, .aload_n 0, [1], .null, []) := rfl
theorem cd69_49 : code9 69 49 = some (0, .bipush 26, [2], .int 26, []) := rfl
theorem cd69_51 : code9 69 51 = some (0, .iconst 0, [1], .int 0, []) := rfl
theorem cd69_52 : code9 69 52 = some (0, .iconst 0, [1], .int 0, []) := rfl
theorem cd69_53 : code9 69 53 = some (0, .invokevirtual 66, [3, 72, 4, 1, 0, 4, 8, 0], .null, []) := rfl
theorem cd69_56 : code9 69 56 = some (0, .iinc 4 1, [3], .int 1, []) := rfl
theorem cd69_59 : code9 69 59 = some (0, .goto (-44), [3, 15, 5], .null, []) := rfl
theorem cd69_62 : code9 69 62 = some (6, .iconst 1, [1], .int 1, []) := rfl
theorem cd69_63 : code9 69 63 = some (0, .ireturn, [1, 3], .null, []) := rfl
def Sentence_readAll_15 (R : Nat → Nat → Nat → Int32 → FI → FJ → Option (Bool × FI × FJ)) (N : Nat) (a0 a1 a2 : Nat) : Nat → Int32 → Int32 → FI → FJ → Option (Bool × FI × FJ)
  | 0 => fun _ _ _ _ => none
  | n + 1 => fun l3 l4 I J => if 200 ≤ l4 then (some (true, I, J)) else (if (Tape_isWord a1 26 I) then (Option.bind (Tape_step a1 I J) fun x2 => (Option.bind (R a0 a1 a2 l3 x2.1 x2.2) fun x3 => (if x3.1 then (Option.bind (Sentence_add a0 26 0 0 x3.2.1) fun x4 => (Sentence_readAll_15 R N a0 a1 a2 n l3 (l4 + 1) x4 x3.2.2)) else (some (false, x3.2.1, x3.2.2))))) else (some (true, I, J)))
def Sentence_readAll (R : Nat → Nat → Nat → Int32 → FI → FJ → Option (Bool × FI × FJ)) (N : Nat) (a0 a1 a2 : Nat) (l3 : Int32) (I : FI) (J : FJ) : Option (Bool × FI × FJ) := Option.bind (R a0 a1 a2 l3 I J) fun x1 => (if x1.1 then (Sentence_readAll_15 R N a0 a1 a2 N l3 0 x1.2.1 x1.2.2) else (some (false, x1.2.1, x1.2.2)))
set_option maxRecDepth 8000 in
theorem t_Sentence_readAll_15 {d : Nat} {D : Nat} {R : Nat → Nat → Nat → Int32 → FI → FJ → Option (Bool × FI × FJ)} {N : Nat} {a0 a1 a2 : Nat} {c : Nat × Nat} {S : Nat → Nat × Nat} {P : Nat → Nat → Option Nat} {r : Bool × FI × FJ} (hd : D + 1 ≤ (d + 1)) (hR : ∀ {d : Nat} {a0 a1 a2 : Nat} {l3 : Int32} {I : FI} {J : FJ} {r : Bool × FI × FJ}, D ≤ d → O8 S P a0 → O10 S P a1 → O6 S P a2 → R a0 a1 a2 l3 I J = some r → Go d M_Sentence_readOne 0 [some (.ref a0), some (.ref a1), some (.ref a2), some (.int l3), none] [] (c, S, I, J, P) (some (.int (b2i r.1)), false, (c, S, r.2.1, r.2.2, P))) (h0 : O8 S P a0) (h1 : O10 S P a1) (h2 : O6 S P a2) : ∀ (n : Nat) (l3 : Int32) (l4 : Int32) (I : FI) (J : FJ), Sentence_readAll_15 R N a0 a1 a2 n l3 l4 I J = some r → Go (d + 1) M_Sentence_readAll 15 [some (.ref a0), some (.ref a1), some (.ref a2), some (.int l3), some (.int l4)] [] (c, S, I, J, P) (some (.int (b2i r.1)), false, (c, S, r.2.1, r.2.2, P)) := by
  intro n
  induction n with
  | zero =>
    intro l3 l4 I J h
    cases h
  | succ n ih =>
    intro l3 l4 I J h
    unfold Sentence_readAll_15 at h
    refine g_iload cd69_15 rfl rfl ?_
    refine g_sipush cd69_17 rfl ?_
    refine g_icmp_ge cd69_20 rfl (fun hb => ?_) (fun hb => ?_)
    · have h := ifpE hb h
      refine g_iconst cd69_62 rfl ?_
      exact g_iret cd69_63 (Or.inr ⟨rfl, Or.inr rfl⟩) (by obtain rfl := Option.some.inj h; rfl)
    · have h := ifnE hb h
      refine g_aload_n cd69_23 rfl rfl ?_
      refine g_bipush cd69_24 rfl ?_
      refine g_callVZ (L := [some (.ref a1), some (.int 26)]) cd69_26 rfl rfl rfl rfl rfl (O10.o h1) (t_Tape_isWord (by omega) h1 rfl) ?_
      refine g_if_eq cd69_29 rfl (fun hb => ?_) (fun hb => ?_)
      · have h := ifnE (b2i_f hb) h
        refine g_iconst cd69_62 rfl ?_
        exact g_iret cd69_63 (Or.inr ⟨rfl, Or.inr rfl⟩) (by obtain rfl := Option.some.inj h; rfl)
      · have h := ifpE (b2i_t hb) h
        refine g_aload_n cd69_32 rfl rfl ?_
        obtain ⟨x2, hx, h⟩ := bnd h
        refine g_callVV (L := [some (.ref a1)]) cd69_33 rfl rfl rfl rfl rfl (O10.o h1) (t_Tape_step (by omega) h1 hx) ?_
        refine g_aload_n cd69_36 rfl rfl ?_
        refine g_aload_n cd69_37 rfl rfl ?_
        refine g_aload_n cd69_38 rfl rfl ?_
        refine g_iload_n cd69_39 rfl rfl ?_
        obtain ⟨x3, hx, h⟩ := bnd h
        refine g_callVZ (L := [some (.ref a0), some (.ref a1), some (.ref a2), some (.int l3), none]) cd69_40 rfl rfl rfl rfl rfl (O8.o h0) (hR (by omega) h0 h1 h2 hx) ?_
        refine g_if_ne cd69_43 rfl (fun hb => ?_) (fun hb => ?_)
        · have h := ifnE (b2i_f hb) h
          refine g_iconst cd69_46 rfl ?_
          exact g_iret cd69_47 (Or.inr ⟨rfl, Or.inl rfl⟩) (by obtain rfl := Option.some.inj h; rfl)
        · have h := ifpE (b2i_t hb) h
          refine g_aload_n cd69_48 rfl rfl ?_
          refine g_bipush cd69_49 rfl ?_
          refine g_iconst cd69_51 rfl ?_
          refine g_iconst cd69_52 rfl ?_
          obtain ⟨x4, hx, h⟩ := bnd h
          refine g_callVV (L := [some (.ref a0), some (.int 26), some (.int 0), some (.int 0)]) cd69_53 rfl rfl rfl rfl rfl (O8.o h0) (t_Sentence_add (by omega) h0 hx) ?_
          refine g_iinc (ls2 := [some (.ref a0), some (.ref a1), some (.ref a2), some (.int l3), some (.int (l4 + 1))]) cd69_56 rfl rfl rfl ?_
          refine g_goto (ls2 := [some (.ref a0), some (.ref a1), some (.ref a2), some (.int l3), some (.int (l4 + 1))]) cd69_59 rfl rfl ?_
          exact ih l3 (l4 + 1) x4 x3.2.2 h
set_option maxRecDepth 8000 in
theorem t_Sentence_readAll {d : Nat} {D : Nat} {R : Nat → Nat → Nat → Int32 → FI → FJ → Option (Bool × FI × FJ)} {N : Nat} {a0 a1 a2 : Nat} {c : Nat × Nat} {S : Nat → Nat × Nat} {P : Nat → Nat → Option Nat} {I : FI} {J : FJ} {l3 : Int32} {r : Bool × FI × FJ} (hd : D + 1 ≤ d) (hR : ∀ {d : Nat} {a0 a1 a2 : Nat} {l3 : Int32} {I : FI} {J : FJ} {r : Bool × FI × FJ}, D ≤ d → O8 S P a0 → O10 S P a1 → O6 S P a2 → R a0 a1 a2 l3 I J = some r → Go d M_Sentence_readOne 0 [some (.ref a0), some (.ref a1), some (.ref a2), some (.int l3), none] [] (c, S, I, J, P) (some (.int (b2i r.1)), false, (c, S, r.2.1, r.2.2, P))) (h0 : O8 S P a0) (h1 : O10 S P a1) (h2 : O6 S P a2) (h : Sentence_readAll R N a0 a1 a2 l3 I J = some r) : Go d M_Sentence_readAll 0 [some (.ref a0), some (.ref a1), some (.ref a2), some (.int l3), none] [] (c, S, I, J, P) (some (.int (b2i r.1)), false, (c, S, r.2.1, r.2.2, P)) := by
  obtain ⟨d, rfl⟩ : ∃ e, d = e + 1 := ⟨d - 1, by omega⟩
  unfold Sentence_readAll at h
  refine g_aload_n cd69_0 rfl rfl ?_
  refine g_aload_n cd69_1 rfl rfl ?_
  refine g_aload_n cd69_2 rfl rfl ?_
  refine g_iload_n cd69_3 rfl rfl ?_
  obtain ⟨x1, hx, h⟩ := bnd h
  refine g_callVZ (L := [some (.ref a0), some (.ref a1), some (.ref a2), some (.int l3), none]) cd69_4 rfl rfl rfl rfl rfl (O8.o h0) (hR (by omega) h0 h1 h2 hx) ?_
  refine g_if_ne cd69_7 rfl (fun hb => ?_) (fun hb => ?_)
  · have h := ifnE (b2i_f hb) h
    refine g_iconst cd69_10 rfl ?_
    exact g_iret cd69_11 (Or.inr ⟨rfl, Or.inl rfl⟩) (by obtain rfl := Option.some.inj h; rfl)
  · have h := ifpE (b2i_t hb) h
    refine g_iconst cd69_12 rfl ?_
    refine g_istore (ls2 := [some (.ref a0), some (.ref a1), some (.ref a2), some (.int l3), some (.int 0)]) cd69_13 rfl rfl ?_
    exact t_Sentence_readAll_15 hd hR h0 h1 h2 _ l3 0 x1.2.1 x1.2.2 h
/-! HiddenOrLost$Sentence.readCond(LHiddenOrLost$Tape;LHiddenOrLost$Land;I)Z -/
theorem cd68_0 : code9 68 0 = some (0, .aload_n 0, [1], .null, []) := rfl
theorem cd68_1 : code9 68 1 = some (0, .aload_n 1, [1], .null, []) := rfl
theorem cd68_2 : code9 68 2 = some (0, .aload_n 2, [1], .null, []) := rfl
theorem cd68_3 : code9 68 3 = some (0, .iload_n 3, [1], .null, []) := rfl
theorem cd68_4 : code9 68 4 = some (0, .invokevirtual 57, [3, 69, 4, 1, 3, 5, 8, 0], .null, []) := rfl
theorem cd68_7 : code9 68 7 = some (0, .ifCond .ne 5, [3, 12], .null, []) := rfl
theorem cd68_10 : code9 68 10 = some (0, .iconst 0, [1], .int 0, []) := rfl
theorem cd68_11 : code9 68 11 = some (0, .ireturn, [1, 3], .null, []) := rfl
theorem cd68_12 : code9 68 12 = some (0, .iconst 0, [1], .int 0, []) := rfl
theorem cd68_13 : code9 68 13 = some (0, .istore 4, [2], .null, []) := rfl
theorem cd68_15 : code9 68 15 = some (6, .iload 4, [2], .null, []) := rfl
theorem cd68_17 : code9 68 17 = some (0, .sipush 200, [3], .int 200, []) := rfl
theorem cd68_20 : code9 68 20 = some (0, .if_icmp .ge 42, [3, 62], .null, []) := rfl
theorem cd68_23 : code9 68 23 = some (0, .aload_n 1, [1], .null, []) := rfl
theorem cd68_24 : code9 68 24 = some (0, .bipush 25, [2], .int 25, []) := rfl
theorem cd68_26 : code9 68 26 = some (0, .invokevirtual 60, [3, 121, 2, 1, 3, 2, 10, 0], .null, []) := rfl
theorem cd68_29 : code9 68 29 = some (0, .ifCond .eq 33, [3, 62], .null, []) := rfl
theorem cd68_32 : code9 68 32 = some (0, .aload_n 1, [1], .null, []) := rfl
theorem cd68_33 : code9 68 33 = some (0, .invokevirtual 63, [3, 114, 1, 1, 0, 1, 10, 0], .null, []) := rfl
theorem cd68_36 : code9 68 36 = some (0, .aload_n 0, [1], .null, []) := rfl
theorem cd68_37 : code9 68 37 = some (0, .aload_n 1, [1], .null, []) := rfl
theorem cd68_38 : code9 68 38 = some (0, .aload_n 2, [1], .null, []) := rfl
theorem cd68_39 : code9 68 39 = some (0, .iload_n 3, [1], .null, []) := rfl
theorem cd68_40 : code9 68 40 = some (0, .invokevirtual 57, [3, 69, 4, 1, 3, 5, 8, 0], .null, []) := rfl
theorem cd68_43 : code9 68 43 = some (0, .ifCond .ne 5, [3, 48], .null, []) := rfl
theorem cd68_46 : code9 68 46 = some (0, .iconst 0, [1], .int 0, []) := rfl
theorem cd68_47 : code9 68 47 = some (0, .ireturn, [1, 3], .null, []) := rfl
theorem cd68_48 : code9 68 48 = some (0, .aload_n 0, [1], .null, []) := rfl
theorem cd68_49 : code9 68 49 = some (0, .bipush 25, [2], .int 25, []) := rfl
theorem cd68_51 : code9 68 51 = some (0, .iconst 0, [1], .int 0, []) := rfl
theorem cd68_52 : code9 68 52 = some (0, .iconst 0, [1], .int 0, []) := rfl
theorem cd68_53 : code9 68 53 = some (0, .invokevirtual 66, [3, 72, 4, 1, 0, 4, 8, 0], .null, []) := rfl
theorem cd68_56 : code9 68 56 = some (0, .iinc 4 1, [3], .int 1, []) := rfl
theorem cd68_59 : code9 68 59 = some (0, .goto (-44), [3, 15, 5], .null, []) := rfl
theorem cd68_62 : code9 68 62 = some (6, .iconst 1, [1], .int 1, []) := rfl
theorem cd68_63 : code9 68 63 = some (0, .ireturn, [1, 3], .null, []) := rfl
def Sentence_readCond_15 (R : Nat → Nat → Nat → Int32 → FI → FJ → Option (Bool × FI × FJ)) (N : Nat) (a0 a1 a2 : Nat) : Nat → Int32 → Int32 → FI → FJ → Option (Bool × FI × FJ)
  | 0 => fun _ _ _ _ => none
  | n + 1 => fun l3 l4 I J => if 200 ≤ l4 then (some (true, I, J)) else (if (Tape_isWord a1 25 I) then (Option.bind (Tape_step a1 I J) fun x2 => (Option.bind (Sentence_readAll R N a0 a1 a2 l3 x2.1 x2.2) fun x3 => (if x3.1 then (Option.bind (Sentence_add a0 25 0 0 x3.2.1) fun x4 => (Sentence_readCond_15 R N a0 a1 a2 n l3 (l4 + 1) x4 x3.2.2)) else (some (false, x3.2.1, x3.2.2))))) else (some (true, I, J)))
def Sentence_readCond (R : Nat → Nat → Nat → Int32 → FI → FJ → Option (Bool × FI × FJ)) (N : Nat) (a0 a1 a2 : Nat) (l3 : Int32) (I : FI) (J : FJ) : Option (Bool × FI × FJ) := Option.bind (Sentence_readAll R N a0 a1 a2 l3 I J) fun x1 => (if x1.1 then (Sentence_readCond_15 R N a0 a1 a2 N l3 0 x1.2.1 x1.2.2) else (some (false, x1.2.1, x1.2.2)))
set_option maxRecDepth 8000 in
theorem t_Sentence_readCond_15 {d : Nat} {D : Nat} {R : Nat → Nat → Nat → Int32 → FI → FJ → Option (Bool × FI × FJ)} {N : Nat} {a0 a1 a2 : Nat} {c : Nat × Nat} {S : Nat → Nat × Nat} {P : Nat → Nat → Option Nat} {r : Bool × FI × FJ} (hd : D + 2 ≤ (d + 1)) (hR : ∀ {d : Nat} {a0 a1 a2 : Nat} {l3 : Int32} {I : FI} {J : FJ} {r : Bool × FI × FJ}, D ≤ d → O8 S P a0 → O10 S P a1 → O6 S P a2 → R a0 a1 a2 l3 I J = some r → Go d M_Sentence_readOne 0 [some (.ref a0), some (.ref a1), some (.ref a2), some (.int l3), none] [] (c, S, I, J, P) (some (.int (b2i r.1)), false, (c, S, r.2.1, r.2.2, P))) (h0 : O8 S P a0) (h1 : O10 S P a1) (h2 : O6 S P a2) : ∀ (n : Nat) (l3 : Int32) (l4 : Int32) (I : FI) (J : FJ), Sentence_readCond_15 R N a0 a1 a2 n l3 l4 I J = some r → Go (d + 1) M_Sentence_readCond 15 [some (.ref a0), some (.ref a1), some (.ref a2), some (.int l3), some (.int l4)] [] (c, S, I, J, P) (some (.int (b2i r.1)), false, (c, S, r.2.1, r.2.2, P)) := by
  intro n
  induction n with
  | zero =>
    intro l3 l4 I J h
    cases h
  | succ n ih =>
    intro l3 l4 I J h
    unfold Sentence_readCond_15 at h
    refine g_iload cd68_15 rfl rfl ?_
    refine g_sipush cd68_17 rfl ?_
    refine g_icmp_ge cd68_20 rfl (fun hb => ?_) (fun hb => ?_)
    · have h := ifpE hb h
      refine g_iconst cd68_62 rfl ?_
      exact g_iret cd68_63 (Or.inr ⟨rfl, Or.inr rfl⟩) (by obtain rfl := Option.some.inj h; rfl)
    · have h := ifnE hb h
      refine g_aload_n cd68_23 rfl rfl ?_
      refine g_bipush cd68_24 rfl ?_
      refine g_callVZ (L := [some (.ref a1), some (.int 25)]) cd68_26 rfl rfl rfl rfl rfl (O10.o h1) (t_Tape_isWord (by omega) h1 rfl) ?_
      refine g_if_eq cd68_29 rfl (fun hb => ?_) (fun hb => ?_)
      · have h := ifnE (b2i_f hb) h
        refine g_iconst cd68_62 rfl ?_
        exact g_iret cd68_63 (Or.inr ⟨rfl, Or.inr rfl⟩) (by obtain rfl := Option.some.inj h; rfl)
      · have h := ifpE (b2i_t hb) h
        refine g_aload_n cd68_32 rfl rfl ?_
        obtain ⟨x2, hx, h⟩ := bnd h
        refine g_callVV (L := [some (.ref a1)]) cd68_33 rfl rfl rfl rfl rfl (O10.o h1) (t_Tape_step (by omega) h1 hx) ?_
        refine g_aload_n cd68_36 rfl rfl ?_
        refine g_aload_n cd68_37 rfl rfl ?_
        refine g_aload_n cd68_38 rfl rfl ?_
        refine g_iload_n cd68_39 rfl rfl ?_
        obtain ⟨x3, hx, h⟩ := bnd h
        refine g_callVZ (L := [some (.ref a0), some (.ref a1), some (.ref a2), some (.int l3), none]) cd68_40 rfl rfl rfl rfl rfl (O8.o h0) (t_Sentence_readAll (by omega) hR h0 h1 h2 hx) ?_
        refine g_if_ne cd68_43 rfl (fun hb => ?_) (fun hb => ?_)
        · have h := ifnE (b2i_f hb) h
          refine g_iconst cd68_46 rfl ?_
          exact g_iret cd68_47 (Or.inr ⟨rfl, Or.inl rfl⟩) (by obtain rfl := Option.some.inj h; rfl)
        · have h := ifpE (b2i_t hb) h
          refine g_aload_n cd68_48 rfl rfl ?_
          refine g_bipush cd68_49 rfl ?_
          refine g_iconst cd68_51 rfl ?_
          refine g_iconst cd68_52 rfl ?_
          obtain ⟨x4, hx, h⟩ := bnd h
          refine g_callVV (L := [some (.ref a0), some (.int 25), some (.int 0), some (.int 0)]) cd68_53 rfl rfl rfl rfl rfl (O8.o h0) (t_Sentence_add (by omega) h0 hx) ?_
          refine g_iinc (ls2 := [some (.ref a0), some (.ref a1), some (.ref a2), some (.int l3), some (.int (l4 + 1))]) cd68_56 rfl rfl rfl ?_
          refine g_goto (ls2 := [some (.ref a0), some (.ref a1), some (.ref a2), some (.int l3), some (.int (l4 + 1))]) cd68_59 rfl rfl ?_
          exact ih l3 (l4 + 1) x4 x3.2.2 h
set_option maxRecDepth 8000 in
theorem t_Sentence_readCond {d : Nat} {D : Nat} {R : Nat → Nat → Nat → Int32 → FI → FJ → Option (Bool × FI × FJ)} {N : Nat} {a0 a1 a2 : Nat} {c : Nat × Nat} {S : Nat → Nat × Nat} {P : Nat → Nat → Option Nat} {I : FI} {J : FJ} {l3 : Int32} {r : Bool × FI × FJ} (hd : D + 2 ≤ d) (hR : ∀ {d : Nat} {a0 a1 a2 : Nat} {l3 : Int32} {I : FI} {J : FJ} {r : Bool × FI × FJ}, D ≤ d → O8 S P a0 → O10 S P a1 → O6 S P a2 → R a0 a1 a2 l3 I J = some r → Go d M_Sentence_readOne 0 [some (.ref a0), some (.ref a1), some (.ref a2), some (.int l3), none] [] (c, S, I, J, P) (some (.int (b2i r.1)), false, (c, S, r.2.1, r.2.2, P))) (h0 : O8 S P a0) (h1 : O10 S P a1) (h2 : O6 S P a2) (h : Sentence_readCond R N a0 a1 a2 l3 I J = some r) : Go d M_Sentence_readCond 0 [some (.ref a0), some (.ref a1), some (.ref a2), some (.int l3), none] [] (c, S, I, J, P) (some (.int (b2i r.1)), false, (c, S, r.2.1, r.2.2, P)) := by
  obtain ⟨d, rfl⟩ : ∃ e, d = e + 1 := ⟨d - 1, by omega⟩
  unfold Sentence_readCond at h
  refine g_aload_n cd68_0 rfl rfl ?_
  refine g_aload_n cd68_1 rfl rfl ?_
  refine g_aload_n cd68_2 rfl rfl ?_
  refine g_iload_n cd68_3 rfl rfl ?_
  obtain ⟨x1, hx, h⟩ := bnd h
  refine g_callVZ (L := [some (.ref a0), some (.ref a1), some (.ref a2), some (.int l3), none]) cd68_4 rfl rfl rfl rfl rfl (O8.o h0) (t_Sentence_readAll (by omega) hR h0 h1 h2 hx) ?_
  refine g_if_ne cd68_7 rfl (fun hb => ?_) (fun hb => ?_)
  · have h := ifnE (b2i_f hb) h
    refine g_iconst cd68_10 rfl ?_
    exact g_iret cd68_11 (Or.inr ⟨rfl, Or.inl rfl⟩) (by obtain rfl := Option.some.inj h; rfl)
  · have h := ifpE (b2i_t hb) h
    refine g_iconst cd68_12 rfl ?_
    refine g_istore (ls2 := [some (.ref a0), some (.ref a1), some (.ref a2), some (.int l3), some (.int 0)]) cd68_13 rfl rfl ?_
    exact t_Sentence_readCond_15 hd hR h0 h1 h2 _ l3 0 x1.2.1 x1.2.2 h
/-! HiddenOrLost$Sentence.beginsOne(LHiddenOrLost$Tape;)Z -/
theorem cd71_0 : code9 71 0 = some (0, .aload_n 0, [1], .null, []) := rfl
theorem cd71_1 : code9 71 1 = some (0, .getfield 50, [3, 10, 9, 0], .null, []) := rfl
theorem cd71_4 : code9 71 4 = some (0, .bipush 40, [2], .int 40, []) := rfl
theorem cd71_6 : code9 71 6 = some (0, .if_icmp .eq 34, [3, 40], .null, []) := rfl
theorem cd71_9 : code9 71 9 = some (0, .aload_n 0, [1], .null, []) := rfl
theorem cd71_10 : code9 71 10 = some (0, .bipush 27, [2], .int 27, []) := rfl
theorem cd71_12 : code9 71 12 = some (0, .bipush 8, [2], .int 8, []) := rfl
theorem cd71_14 : code9 71 14 = some (0, .invokevirtual 73, [3, 115, 3, 1, 3, 3, 10, 0], .null, []) := rfl
theorem cd71_17 : code9 71 17 = some (0, .ifCond .ne 23, [3, 40], .null, []) := rfl
theorem cd71_20 : code9 71 20 = some (0, .aload_n 0, [1], .null, []) := rfl
theorem cd71_21 : code9 71 21 = some (0, .bipush 8, [2], .int 8, []) := rfl
theorem cd71_23 : code9 71 23 = some (0, .iconst 4, [1], .int 4, []) := rfl
theorem cd71_24 : code9 71 24 = some (0, .invokevirtual 73, [3, 115, 3, 1, 3, 3, 10, 0], .null, []) := rfl
theorem cd71_27 : code9 71 27 = some (0, .ifCond .ne 13, [3, 40], .null, []) := rfl
theorem cd71_30 : code9 71 30 = some (0, .aload_n 0, [1], .null, []) := rfl
theorem cd71_31 : code9 71 31 = some (0, .bipush 19, [2], .int 19, []) := rfl
theorem cd71_33 : code9 71 33 = some (0, .iconst 2, [1], .int 2, []) := rfl
theorem cd71_34 : code9 71 34 = some (0, .invokevirtual 73, [3, 115, 3, 1, 3, 3, 10, 0], .null, []) := rfl
theorem cd71_37 : code9 71 37 = some (0, .ifCond .eq 7, [3, 44], .null, []) := rfl
theorem cd71_40 : code9 71 40 = some (2, .iconst 1, [1], .int 1, []) := rfl
theorem cd71_41 : code9 71 41 = some (0, .goto 4, [3, 45, 1], .null, []) := rfl
theorem cd71_44 : code9 71 44 = some (0, .iconst 0, [1], .int 0, []) := rfl
theorem cd71_45 : code9 71 45 = some (2, .ireturn, [1, 3], .null, []) := rfl
def Sentence_beginsOne (a0 : Nat) (I : FI) : Bool := if (I a0 9) = 40 then (true) else (if (Tape_isAmong a0 27 8 I) then (true) else (if (Tape_isAmong a0 8 4 I) then (true) else (if (Tape_isAmong a0 19 2 I) then (true) else (false))))
set_option maxRecDepth 8000 in
theorem t_Sentence_beginsOne {d : Nat} {a0 : Nat} {c : Nat × Nat} {S : Nat → Nat × Nat} {P : Nat → Nat → Option Nat} {I : FI} {J : FJ} {r : Bool} (hd : 1 ≤ d) (h0 : O10 S P a0) (h : Sentence_beginsOne a0 I = r) : Go d M_Sentence_beginsOne 0 [some (.ref a0)] [] (c, S, I, J, P) (some (.int (b2i r)), false, (c, S, I, J, P)) := by
  obtain ⟨d, rfl⟩ : ∃ e, d = e + 1 := ⟨d - 1, by omega⟩
  unfold Sentence_beginsOne at h
  refine g_aload_n cd71_0 rfl rfl ?_
  refine g_getI cd71_1 rfl (O10.o h0) ?_
  refine g_bipush cd71_4 rfl ?_
  refine g_icmp_eq cd71_6 rfl (fun hb => ?_) (fun hb => ?_)
  · have h := ifpE hb h
    refine g_iconst cd71_40 rfl ?_
    refine g_goto (ls2 := [some (.ref a0)]) cd71_41 rfl rfl ?_
    exact g_iret cd71_45 (Or.inr ⟨rfl, Or.inr rfl⟩) (by subst h; rfl)
  · have h := ifnE hb h
    refine g_aload_n cd71_9 rfl rfl ?_
    refine g_bipush cd71_10 rfl ?_
    refine g_bipush cd71_12 rfl ?_
    refine g_callVZ (L := [some (.ref a0), some (.int 27), some (.int 8)]) cd71_14 rfl rfl rfl rfl rfl (O10.o h0) (t_Tape_isAmong (by omega) h0 rfl) ?_
    refine g_if_ne cd71_17 rfl (fun hb => ?_) (fun hb => ?_)
    · have h := ifnE (b2i_f hb) h
      refine g_aload_n cd71_20 rfl rfl ?_
      refine g_bipush cd71_21 rfl ?_
      refine g_iconst cd71_23 rfl ?_
      refine g_callVZ (L := [some (.ref a0), some (.int 8), some (.int 4)]) cd71_24 rfl rfl rfl rfl rfl (O10.o h0) (t_Tape_isAmong (by omega) h0 rfl) ?_
      refine g_if_ne cd71_27 rfl (fun hb => ?_) (fun hb => ?_)
      · have h := ifnE (b2i_f hb) h
        refine g_aload_n cd71_30 rfl rfl ?_
        refine g_bipush cd71_31 rfl ?_
        refine g_iconst cd71_33 rfl ?_
        refine g_callVZ (L := [some (.ref a0), some (.int 19), some (.int 2)]) cd71_34 rfl rfl rfl rfl rfl (O10.o h0) (t_Tape_isAmong (by omega) h0 rfl) ?_
        refine g_if_eq cd71_37 rfl (fun hb => ?_) (fun hb => ?_)
        · have h := ifnE (b2i_f hb) h
          refine g_iconst cd71_44 rfl ?_
          exact g_iret cd71_45 (Or.inr ⟨rfl, Or.inl rfl⟩) (by subst h; rfl)
        · have h := ifpE (b2i_t hb) h
          refine g_iconst cd71_40 rfl ?_
          refine g_goto (ls2 := [some (.ref a0)]) cd71_41 rfl rfl ?_
          exact g_iret cd71_45 (Or.inr ⟨rfl, Or.inr rfl⟩) (by subst h; rfl)
      · have h := ifpE (b2i_t hb) h
        refine g_iconst cd71_40 rfl ?_
        refine g_goto (ls2 := [some (.ref a0)]) cd71_41 rfl rfl ?_
        exact g_iret cd71_45 (Or.inr ⟨rfl, Or.inr rfl⟩) (by subst h; rfl)
    · have h := ifpE (b2i_t hb) h
      refine g_iconst cd71_40 rfl ?_
      refine g_goto (ls2 := [some (.ref a0)]) cd71_41 rfl rfl ?_
      exact g_iret cd71_45 (Or.inr ⟨rfl, Or.inr rfl⟩) (by subst h; rfl)
/-! HiddenOrLost$Sentence.readHolder(LHiddenOrLost$Tape;LHiddenOrLost$Land;)Z -/
theorem cd73_0 : code9 73 0 = some (0, .aload_n 1, [1], .null, []) := rfl
theorem cd73_1 : code9 73 1 = some (0, .invokevirtual 95, [3, 118, 1, 1, 3, 1, 10, 0], .null, []) := rfl
theorem cd73_4 : code9 73 4 = some (0, .ifCond .ne 9, [3, 13], .null, []) := rfl
theorem cd73_7 : code9 73 7 = some (0, .aload_n 1, [1], .null, []) := rfl
theorem cd73_8 : code9 73 8 = some (0, .iconst 1, [1], .int 1, []) := rfl
theorem cd73_9 : code9 73 9 = some (0, .invokevirtual 53, [3, 116, 2, 1, 3, 2, 10, 0], .null, []) := rfl
theorem cd73_12 : code9 73 12 = some (0, .ireturn, [1, 3], .null, []) := rfl
theorem cd73_13 : code9 73 13 = some (0, .aload_n 2, [1], .null, []) := rfl
theorem cd73_14 : code9 73 14 = some (0, .aload_n 1, [1], .null, []) := rfl
theorem cd73_15 : code9 73 15 = some (0, .getfield 99, [3, 10, 10, 1], .null, []) := rfl
theorem cd73_18 : code9 73 18 = some (0, .invokevirtual 103, [3, 42, 2, 1, 1, 3, 6, 0], .null, []) := rfl
theorem cd73_21 : code9 73 21 = some (0, .istore_n 3, [1], .null, []) := rfl
theorem cd73_22 : code9 73 22 = some (0, .iload_n 3, [1], .null, []) := rfl
theorem cd73_23 : code9 73 23 = some (0, .ifCond .ge 9, [3, 32], .null, []) := rfl
theorem cd73_26 : code9 73 26 = some (0, .aload_n 1, [1], .null, []) := rfl
theorem cd73_27 : code9 73 27 = some (0, .iconst 3, [1], .int 3, []) := rfl
theorem cd73_28 : code9 73 28 = some (0, .invokevirtual 53, [3, 116, 2, 1, 3, 2, 10, 0], .null, []) := rfl
theorem cd73_31 : code9 73 31 = some (0, .ireturn, [1, 3], .null, []) := rfl
theorem cd73_32 : code9 73 32 = some (0, .aload_n 1, [1], .null, []) := rfl
theorem cd73_33 : code9 73 33 = some (0, .invokevirtual 63, [3, 114, 1, 1, 0, 1, 10, 0], .null, []) := rfl
theorem cd73_36 : code9 73 36 = some (0, .aload_n 0, [1], .null, []) := rfl
theorem cd73_37 : code9 73 37 = some (0, .bipush 30, [2], .int 30, []) := rfl
theorem cd73_39 : code9 73 39 = some (0, .iload_n 3, [1], .null, []) := rfl
theorem cd73_40 : code9 73 40 = some (0, .iconst 0, [1], .int 0, []) := rfl
theorem cd73_41 : code9 73 41 = some (0, .invokevirtual 66, [3, 72, 4, 1, 0, 4, 8, 0], .null, []) := rfl
theorem cd73_44 : code9 73 44 = some (0, .iconst 1, [1], .int 1, []) := rfl
theorem cd73_45 : code9 73 45 = some (0, .ireturn, [1, 3], .null, []) := rfl
def Sentence_readHolder (N : Nat) (a0 a1 a2 : Nat) (I : FI) (J : FJ) : Option (Bool × FI × FJ) := if (Tape_isName a1 I) then (Option.bind (Land_personNamed N a2 (J a1 10) I J) fun x2 => (if 0 ≤ x2 then (Option.bind (Tape_step a1 I J) fun x3 => (Option.bind (Sentence_add a0 30 x2 0 x3.1) fun x4 => (some (true, x4, x3.2)))) else (Option.bind (Tape_fail a1 3 I) fun x5 => (some (x5.1, x5.2, J))))) else (Option.bind (Tape_fail a1 1 I) fun x1 => (some (x1.1, x1.2, J)))
set_option maxRecDepth 8000 in
theorem t_Sentence_readHolder {d : Nat} {N : Nat} {a0 a1 a2 : Nat} {c : Nat × Nat} {S : Nat → Nat × Nat} {P : Nat → Nat → Option Nat} {I : FI} {J : FJ} {r : Bool × FI × FJ} (hd : 2 ≤ d) (h0 : O8 S P a0) (h1 : O10 S P a1) (h2 : O6 S P a2) (h : Sentence_readHolder N a0 a1 a2 I J = some r) : Go d M_Sentence_readHolder 0 [some (.ref a0), some (.ref a1), some (.ref a2), none] [] (c, S, I, J, P) (some (.int (b2i r.1)), false, (c, S, r.2.1, r.2.2, P)) := by
  obtain ⟨d, rfl⟩ : ∃ e, d = e + 1 := ⟨d - 1, by omega⟩
  unfold Sentence_readHolder at h
  refine g_aload_n cd73_0 rfl rfl ?_
  refine g_callVZ (L := [some (.ref a1)]) cd73_1 rfl rfl rfl rfl rfl (O10.o h1) (t_Tape_isName (by omega) h1 rfl) ?_
  refine g_if_ne cd73_4 rfl (fun hb => ?_) (fun hb => ?_)
  · have h := ifnE (b2i_f hb) h
    refine g_aload_n cd73_7 rfl rfl ?_
    refine g_iconst cd73_8 rfl ?_
    obtain ⟨x1, hx, h⟩ := bnd h
    refine g_callVZ (L := [some (.ref a1), some (.int 1)]) cd73_9 rfl rfl rfl rfl rfl (O10.o h1) (t_Tape_fail (by omega) h1 hx) ?_
    exact g_iret cd73_12 (Or.inr ⟨rfl, b2i_or _⟩) (by obtain rfl := Option.some.inj h; rfl)
  · have h := ifpE (b2i_t hb) h
    refine g_aload_n cd73_13 rfl rfl ?_
    refine g_aload_n cd73_14 rfl rfl ?_
    refine g_getJ cd73_15 rfl (O10.o h1) ?_
    obtain ⟨x2, hx, h⟩ := bnd h
    refine g_callVI (L := [some (.ref a2), some (.long (J a1 10)), none]) cd73_18 rfl rfl rfl rfl rfl (O6.o h2) (t_Land_personNamed (by omega) h2 hx) ?_
    refine g_istore_n (ls2 := [some (.ref a0), some (.ref a1), some (.ref a2), some (.int x2)]) cd73_21 rfl rfl ?_
    refine g_iload_n cd73_22 rfl rfl ?_
    refine g_if_ge cd73_23 rfl (fun hb => ?_) (fun hb => ?_)
    · have h := ifpE hb h
      refine g_aload_n cd73_32 rfl rfl ?_
      obtain ⟨x3, hx, h⟩ := bnd h
      refine g_callVV (L := [some (.ref a1)]) cd73_33 rfl rfl rfl rfl rfl (O10.o h1) (t_Tape_step (by omega) h1 hx) ?_
      refine g_aload_n cd73_36 rfl rfl ?_
      refine g_bipush cd73_37 rfl ?_
      refine g_iload_n cd73_39 rfl rfl ?_
      refine g_iconst cd73_40 rfl ?_
      obtain ⟨x4, hx, h⟩ := bnd h
      refine g_callVV (L := [some (.ref a0), some (.int 30), some (.int x2), some (.int 0)]) cd73_41 rfl rfl rfl rfl rfl (O8.o h0) (t_Sentence_add (by omega) h0 hx) ?_
      refine g_iconst cd73_44 rfl ?_
      exact g_iret cd73_45 (Or.inr ⟨rfl, Or.inr rfl⟩) (by obtain rfl := Option.some.inj h; rfl)
    · have h := ifnE hb h
      refine g_aload_n cd73_26 rfl rfl ?_
      refine g_iconst cd73_27 rfl ?_
      obtain ⟨x5, hx, h⟩ := bnd h
      refine g_callVZ (L := [some (.ref a1), some (.int 3)]) cd73_28 rfl rfl rfl rfl rfl (O10.o h1) (t_Tape_fail (by omega) h1 hx) ?_
      exact g_iret cd73_31 (Or.inr ⟨rfl, b2i_or _⟩) (by obtain rfl := Option.some.inj h; rfl)
/-! HiddenOrLost$Sentence.readCompare(LHiddenOrLost$Tape;I)Z -/
theorem cd74_0 : code9 74 0 = some (0, .aload_n 1, [1], .null, []) := rfl
theorem cd74_1 : code9 74 1 = some (0, .getfield 50, [3, 10, 9, 0], .null, []) := rfl
theorem cd74_4 : code9 74 4 = some (0, .istore_n 3, [1], .null, []) := rfl
theorem cd74_5 : code9 74 5 = some (0, .iload_n 3, [1], .null, []) := rfl
theorem cd74_6 : code9 74 6 = some (0, .invokestatic 109, [3, 113, 1, 0, 3, 1, 10, 0], .null, []) := rfl
theorem cd74_9 : code9 74 9 = some (0, .ifCond .ne 9, [3, 18], .null, []) := rfl
theorem cd74_12 : code9 74 12 = some (0, .aload_n 1, [1], .null, []) := rfl
theorem cd74_13 : code9 74 13 = some (0, .iconst 1, [1], .int 1, []) := rfl
theorem cd74_14 : code9 74 14 = some (0, .invokevirtual 53, [3, 116, 2, 1, 3, 2, 10, 0], .null, []) := rfl
theorem cd74_17 : code9 74 17 = some (0, .ireturn, [1, 3], .null, []) := rfl
theorem cd74_18 : code9 74 18 = some (0, .aload_n 1, [1], .null, []) := rfl
theorem cd74_19 : code9 74 19 = some (0, .invokevirtual 63, [3, 114, 1, 1, 0, 1, 10, 0], .null, []) := rfl
theorem cd74_22 : code9 74 22 = some (0, .aload_n 1, [1], .null, []) := rfl
theorem cd74_23 : code9 74 23 = some (0, .iconst 0, [1], .int 0, []) := rfl
theorem cd74_24 : code9 74 24 = some (0, .sipush 999, [3], .int 999, []) := rfl
theorem cd74_27 : code9 74 27 = some (0, .invokevirtual 112, [3, 117, 3, 1, 3, 3, 10, 0], .null, []) := rfl
theorem cd74_30 : code9 74 30 = some (0, .ifCond .ne 5, [3, 35], .null, []) := rfl
theorem cd74_33 : code9 74 33 = some (0, .iconst 0, [1], .int 0, []) := rfl
theorem cd74_34 : code9 74 34 = some (0, .ireturn, [1, 3], .null, []) := rfl
theorem cd74_35 : code9 74 35 = some (0, .aload_n 0, [1], .null, []) := rfl
theorem cd74_36 : code9 74 36 = some (0, .iload_n 2, [1], .null, []) := rfl
theorem cd74_37 : code9 74 37 = some (0, .iload_n 3, [1], .null, []) := rfl
theorem cd74_38 : code9 74 38 = some (0, .aload_n 1, [1], .null, []) := rfl
theorem cd74_39 : code9 74 39 = some (0, .getfield 115, [3, 10, 12, 0], .null, []) := rfl
theorem cd74_42 : code9 74 42 = some (0, .invokevirtual 66, [3, 72, 4, 1, 0, 4, 8, 0], .null, []) := rfl
theorem cd74_45 : code9 74 45 = some (0, .iconst 1, [1], .int 1, []) := rfl
theorem cd74_46 : code9 74 46 = some (0, .ireturn, [1, 3], .null, []) := rfl
def Sentence_readCompare (a0 a1 : Nat) (l2 : Int32) (I : FI) (J : FJ) : Option (Bool × FI × FJ) := if (Tape_isCompare (I a1 9)) then (Option.bind (Tape_step a1 I J) fun x2 => (Option.bind (Tape_takeNumber a1 0 999 x2.1 x2.2) fun x3 => (if x3.1 then (Option.bind (Sentence_add a0 l2 (I a1 9) (x3.2.1 a1 12) x3.2.1) fun x4 => (some (true, x4, x3.2.2))) else (some (false, x3.2.1, x3.2.2))))) else (Option.bind (Tape_fail a1 1 I) fun x1 => (some (x1.1, x1.2, J)))
set_option maxRecDepth 8000 in
theorem t_Sentence_readCompare {d : Nat} {a0 a1 : Nat} {c : Nat × Nat} {S : Nat → Nat × Nat} {P : Nat → Nat → Option Nat} {I : FI} {J : FJ} {l2 : Int32} {r : Bool × FI × FJ} (hd : 2 ≤ d) (h0 : O8 S P a0) (h1 : O10 S P a1) (h : Sentence_readCompare a0 a1 l2 I J = some r) : Go d M_Sentence_readCompare 0 [some (.ref a0), some (.ref a1), some (.int l2), none] [] (c, S, I, J, P) (some (.int (b2i r.1)), false, (c, S, r.2.1, r.2.2, P)) := by
  obtain ⟨d, rfl⟩ : ∃ e, d = e + 1 := ⟨d - 1, by omega⟩
  unfold Sentence_readCompare at h
  refine g_aload_n cd74_0 rfl rfl ?_
  refine g_getI cd74_1 rfl (O10.o h1) ?_
  refine g_istore_n (ls2 := [some (.ref a0), some (.ref a1), some (.int l2), some (.int (I a1 9))]) cd74_4 rfl rfl ?_
  refine g_iload_n cd74_5 rfl rfl ?_
  refine g_callSZ (L := [some (.int (I a1 9))]) cd74_6 rfl rfl rfl rfl rfl (t_Tape_isCompare (by omega)  rfl) ?_
  refine g_if_ne cd74_9 rfl (fun hb => ?_) (fun hb => ?_)
  · have h := ifnE (b2i_f hb) h
    refine g_aload_n cd74_12 rfl rfl ?_
    refine g_iconst cd74_13 rfl ?_
    obtain ⟨x1, hx, h⟩ := bnd h
    refine g_callVZ (L := [some (.ref a1), some (.int 1)]) cd74_14 rfl rfl rfl rfl rfl (O10.o h1) (t_Tape_fail (by omega) h1 hx) ?_
    exact g_iret cd74_17 (Or.inr ⟨rfl, b2i_or _⟩) (by obtain rfl := Option.some.inj h; rfl)
  · have h := ifpE (b2i_t hb) h
    refine g_aload_n cd74_18 rfl rfl ?_
    obtain ⟨x2, hx, h⟩ := bnd h
    refine g_callVV (L := [some (.ref a1)]) cd74_19 rfl rfl rfl rfl rfl (O10.o h1) (t_Tape_step (by omega) h1 hx) ?_
    refine g_aload_n cd74_22 rfl rfl ?_
    refine g_iconst cd74_23 rfl ?_
    refine g_sipush cd74_24 rfl ?_
    obtain ⟨x3, hx, h⟩ := bnd h
    refine g_callVZ (L := [some (.ref a1), some (.int 0), some (.int 999)]) cd74_27 rfl rfl rfl rfl rfl (O10.o h1) (t_Tape_takeNumber (by omega) h1 hx) ?_
    refine g_if_ne cd74_30 rfl (fun hb => ?_) (fun hb => ?_)
    · have h := ifnE (b2i_f hb) h
      refine g_iconst cd74_33 rfl ?_
      exact g_iret cd74_34 (Or.inr ⟨rfl, Or.inl rfl⟩) (by obtain rfl := Option.some.inj h; rfl)
    · have h := ifpE (b2i_t hb) h
      refine g_aload_n cd74_35 rfl rfl ?_
      refine g_iload_n cd74_36 rfl rfl ?_
      refine g_iload_n cd74_37 rfl rfl ?_
      refine g_aload_n cd74_38 rfl rfl ?_
      refine g_getI cd74_39 rfl (O10.o h1) ?_
      obtain ⟨x4, hx, h⟩ := bnd h
      refine g_callVV (L := [some (.ref a0), some (.int l2), some (.int (I a1 9)), some (.int (x3.2.1 a1 12))]) cd74_42 rfl rfl rfl rfl rfl (O8.o h0) (t_Sentence_add (by omega) h0 hx) ?_
      refine g_iconst cd74_45 rfl ?_
      exact g_iret cd74_46 (Or.inr ⟨rfl, Or.inr rfl⟩) (by obtain rfl := Option.some.inj h; rfl)
/-! HiddenOrLost$Sentence.readOne(LHiddenOrLost$Tape;LHiddenOrLost$Land;I)Z -/
theorem cd70_0 : code9 70 0 = some (0, .aload_n 1, [1], .null, []) := rfl
theorem cd70_1 : code9 70 1 = some (0, .invokestatic 77, [3, 71, 1, 0, 3, 1, 8, 0], .null, []) := rfl
theorem cd70_4 : code9 70 4 = some (0, .ifCond .ne 9, [3, 13], .null, []) := rfl
theorem cd70_7 : code9 70 7 = some (0, .aload_n 1, [1], .null, []) := rfl
theorem cd70_8 : code9 70 8 = some (0, .iconst 1, [1], .int 1, []) := rfl
theorem cd70_9 : code9 70 9 = some (0, .invokevirtual 53, [3, 116, 2, 1, 3, 2, 10, 0], .null, []) := rfl
theorem cd70_12 : code9 70 12 = some (0, .ireturn, [1, 3], .null, []) := rfl
theorem cd70_13 : code9 70 13 = some (0, .aload_n 0, [1], .null, []) := rfl
theorem cd70_14 : code9 70 14 = some (0, .getfield 28, [3, 8, 5, 0], .null, []) := rfl
theorem cd70_17 : code9 70 17 = some (0, .bipush 20, [2], .int 20, []) := rfl
theorem cd70_19 : code9 70 19 = some (0, .if_icmp .ge 9, [3, 28], .null, []) := rfl
theorem cd70_22 : code9 70 22 = some (0, .iload_n 3, [1], .null, []) := rfl
theorem cd70_23 : code9 70 23 = some (0, .bipush 8, [2], .int 8, []) := rfl
theorem cd70_25 : code9 70 25 = some (0, .if_icmp .le 9, [3, 34], .null, []) := rfl
theorem cd70_28 : code9 70 28 = some (5, .aload_n 1, [1], .null, []) := rfl
theorem cd70_29 : code9 70 29 = some (0, .iconst 4, [1], .int 4, []) := rfl
theorem cd70_30 : code9 70 30 = some (0, .invokevirtual 53, [3, 116, 2, 1, 3, 2, 10, 0], .null, []) := rfl
theorem cd70_33 : code9 70 33 = some (0, .ireturn, [1, 3], .null, []) := rfl
theorem cd70_34 : code9 70 34 = some (0, .aload_n 0, [1], .null, []) := rfl
theorem cd70_35 : code9 70 35 = some (0, .dup, [1], .null, []) := rfl
theorem cd70_36 : code9 70 36 = some (0, .getfield 28, [3, 8, 5, 0], .null, []) := rfl
theorem cd70_39 : code9 70 39 = some (0, .iconst 1, [1], .int 1, []) := rfl
theorem cd70_40 : code9 70 40 = some (0, .iadd, [1], .null, []) := rfl
theorem cd70_41 : code9 70 41 = some (0, .putfield 28, [3, 8, 5, 0], .null, []) := rfl
theorem cd70_44 : code9 70 44 = some (0, .aload_n 1, [1], .null, []) := rfl
theorem cd70_45 : code9 70 45 = some (0, .getfield 81, [3, 10, 11, 0], .null, []) := rfl
theorem cd70_48 : code9 70 48 = some (0, .istore 4, [2], .null, []) := rfl
theorem cd70_50 : code9 70 50 = some (0, .aload_n 1, [1], .null, []) := rfl
theorem cd70_51 : code9 70 51 = some (0, .invokevirtual 63, [3, 114, 1, 1, 0, 1, 10, 0], .null, []) := rfl
theorem cd70_54 : code9 70 54 = some (0, .iload 4, [2], .null, []) := rfl
theorem cd70_56 : code9 70 56 = some (0, .iconst (-1), [1], .int (-1), []) := rfl
theorem cd70_57 : code9 70 57 = some (0, .if_icmp .ne 30, [3, 87], .null, []) := rfl
theorem cd70_60 : code9 70 60 = some (0, .aload_n 0, [1], .null, []) := rfl
theorem cd70_61 : code9 70 61 = some (0, .aload_n 1, [1], .null, []) := rfl
theorem cd70_62 : code9 70 62 = some (0, .aload_n 2, [1], .null, []) := rfl
theorem cd70_63 : code9 70 63 = some (0, .iload_n 3, [1], .null, []) := rfl
theorem cd70_64 : code9 70 64 = some (0, .iconst 1, [1], .int 1, []) := rfl
theorem cd70_65 : code9 70 65 = some (0, .iadd, [1], .null, []) := rfl
theorem cd70_66 : code9 70 66 = some (0, .invokevirtual 46, [3, 68, 4, 1, 3, 5, 8, 0], .null, []) := rfl
theorem cd70_69 : code9 70 69 = some (0, .ifCond .eq 16, [3, 85], .null, []) := rfl
theorem cd70_72 : code9 70 72 = some (0, .aload_n 1, [1], .null, []) := rfl
theorem cd70_73 : code9 70 73 = some (0, .bipush 41, [2], .int 41, []) := rfl
theorem cd70_75 : code9 70 75 = some (0, .invokevirtual 84, [3, 120, 2, 1, 3, 2, 10, 0], .null, []) := rfl
theorem cd70_78 : code9 70 78 = some (0, .ifCond .eq 7, [3, 85], .null, []) := rfl
theorem cd70_81 : code9 70 81 = some (0, .iconst 1, [1], .int 1, []) := rfl
theorem cd70_82 : code9 70 82 = some (0, .goto 4, [3, 86, 5], .null, []) := rfl
theorem cd70_85 : code9 70 85 = some (6, .iconst 0, [1], .int 0, []) := rfl
theorem cd70_86 : code9 70 86 = some (6, .ireturn, [1, 3], .null, []) := rfl
theorem cd70_87 : code9 70 87 = some (0, .iload 4, [2], .null, []) := rfl
theorem cd70_89 : code9 70 89 = some (0, .bipush 27, [2], .int 27, []) := rfl
theorem cd70_91 : code9 70 91 = some (0, .if_icmp .ne 27, [3, 118], .null, []) := rfl
theorem cd70_94 : code9 70 94 = some (0, .aload_n 0, [1], .null, []) := rfl
theorem cd70_95 : code9 70 95 = some (0, .aload_n 1, [1], .null, []) := rfl
theorem cd70_96 : code9 70 96 = some (0, .aload_n 2, [1], .null, []) := rfl
theorem cd70_97 : code9 70 97 = some (0, .iload_n 3, [1], .null, []) := rfl
theorem cd70_98 : code9 70 98 = some (0, .iconst 1, [1], .int 1, []) := rfl
theorem cd70_99 : code9 70 99 = some (0, .iadd, [1], .null, []) := rfl
theorem cd70_100 : code9 70 100 = some (0, .invokevirtual 70, [3, 70, 4, 1, 3, 5, 8, 0], .null, []) := rfl
theorem cd70_103 : code9 70 103 = some (0, .ifCond .ne 5, [3, 108], .null, []) := rfl
theorem cd70_106 : code9 70 106 = some (0, .iconst 0, [1], .int 0, []) := rfl
theorem cd70_107 : code9 70 107 = some (0, .ireturn, [1, 3], .null, []) := rfl
theorem cd70_108 : code9 70 108 = some (0, .aload_n 0, [1], .null, []) := rfl
theorem cd70_109 : code9 70 109 = some (0, .bipush 27, [2], .int 27, []) := rfl
theorem cd70_111 : code9 70 111 = some (0, .iconst 0, [1], .int 0, []) := rfl
theorem cd70_112 : code9 70 112 = some (0, .iconst 0, [1], .int 0, []) := rfl
theorem cd70_113 : code9 70 113 = some (0, .invokevirtual 66, [3, 72, 4, 1, 0, 4, 8, 0], .null, []) := rfl
theorem cd70_116 : code9 70 116 = some (0, .iconst 1, [1], .int 1, []) := rfl
theorem cd70_117 : code9 70 117 = some (0, .ireturn, [1, 3], .null, []) := rfl
theorem cd70_118 : code9 70 118 = some (0, .iload 4, [2], .null, []) := rfl
theorem cd70_120 : code9 70 120 = some (0, .bipush 30, [2], .int 30, []) := rfl
theorem cd70_122 : code9 70 122 = some (0, .if_icmp .ne 10, [3, 132], .null, []) := rfl
theorem cd70_125 : code9 70 125 = some (0, .aload_n 0, [1], .null, []) := rfl
theorem cd70_126 : code9 70 126 = some (0, .aload_n 1, [1], .null, []) := rfl
theorem cd70_127 : code9 70 127 = some (0, .aload_n 2, [1], .null, []) := rfl
theorem cd70_128 : code9 70 128 = some (0, .invokevirtual 87, [3, 73, 3, 1, 3, 4, 8, 0], .null, []) := rfl
theorem cd70_131 : code9 70 131 = some (0, .ireturn, [1, 3], .null, []) := rfl
theorem cd70_132 : code9 70 132 = some (0, .iload 4, [2], .null, []) := rfl
theorem cd70_134 : code9 70 134 = some (0, .bipush 31, [2], .int 31, []) := rfl
theorem cd70_136 : code9 70 136 = some (0, .if_icmp .lt 11, [3, 147], .null, []) := rfl
theorem cd70_139 : code9 70 139 = some (0, .aload_n 0, [1], .null, []) := rfl
theorem cd70_140 : code9 70 140 = some (0, .aload_n 1, [1], .null, []) := rfl
theorem cd70_141 : code9 70 141 = some (0, .iload 4, [2], .null, []) := rfl
theorem cd70_143 : code9 70 143 = some (0, .invokevirtual 91, [3, 74, 3, 1, 3, 4, 8, 0], .null, []) := rfl
theorem cd70_146 : code9 70 146 = some (0, .ireturn, [1, 3], .null, []) := rfl
theorem cd70_147 : code9 70 147 = some (0, .aload_n 0, [1], .null, []) := rfl
theorem cd70_148 : code9 70 148 = some (0, .iload 4, [2], .null, []) := rfl
theorem cd70_150 : code9 70 150 = some (0, .iconst 0, [1], .int 0, []) := rfl
theorem cd70_151 : code9 70 151 = some (0, .iconst 0, [1], .int 0, []) := rfl
theorem cd70_152 : code9 70 152 = some (0, .invokevirtual 66, [3, 72, 4, 1, 0, 4, 8, 0], .null, []) := rfl
theorem cd70_155 : code9 70 155 = some (0, .iconst 1, [1], .int 1, []) := rfl
theorem cd70_156 : code9 70 156 = some (0, .ireturn, [1, 3], .null, []) := rfl
def Sentence_readOne (R : Nat → Nat → Nat → Int32 → FI → FJ → Option (Bool × FI × FJ)) (N : Nat) (a0 a1 a2 : Nat) (l3 : Int32) (I : FI) (J : FJ) : Option (Bool × FI × FJ) := if (Sentence_beginsOne a1 I) then (if 20 ≤ (I a0 5) then (Option.bind (Tape_fail a1 4 I) fun x2 => (some (x2.1, x2.2, J))) else (if l3 ≤ 8 then (Option.bind (some (up2 I a0 5 ((I a0 5) + 1))) fun I3 => (Option.bind (Tape_step a1 I3 J) fun x4 => (if (I3 a1 11) = (-1) then (Option.bind (Sentence_readCond R N a0 a1 a2 (l3 + 1) x4.1 x4.2) fun x5 => (if x5.1 then (Option.bind (Tape_takeSign a1 41 x5.2.1 x5.2.2) fun x6 => (if x6.1 then (some (true, x6.2.1, x6.2.2)) else (some (false, x6.2.1, x6.2.2)))) else (some (false, x5.2.1, x5.2.2)))) else (if (I3 a1 11) = 27 then (Option.bind (R a0 a1 a2 (l3 + 1) x4.1 x4.2) fun x7 => (if x7.1 then (Option.bind (Sentence_add a0 27 0 0 x7.2.1) fun x8 => (some (true, x8, x7.2.2))) else (some (false, x7.2.1, x7.2.2)))) else (if (I3 a1 11) = 30 then (Option.bind (Sentence_readHolder N a0 a1 a2 x4.1 x4.2) fun x9 => (some (x9.1, x9.2.1, x9.2.2))) else (if (I3 a1 11) < 31 then (Option.bind (Sentence_add a0 (I3 a1 11) 0 0 x4.1) fun x10 => (some (true, x10, x4.2))) else (Option.bind (Sentence_readCompare a0 a1 (I3 a1 11) x4.1 x4.2) fun x11 => (some (x11.1, x11.2.1, x11.2.2))))))))) else (Option.bind (Tape_fail a1 4 I) fun x12 => (some (x12.1, x12.2, J))))) else (Option.bind (Tape_fail a1 1 I) fun x1 => (some (x1.1, x1.2, J)))
def Sentence_readOne_R (N : Nat) : Nat → Nat → Nat → Nat → Int32 → FI → FJ → Option (Bool × FI × FJ)
  | 0 => fun _ _ _ _ _ _ => none
  | k + 1 => fun a0 a1 a2 l3 I J => Sentence_readOne (Sentence_readOne_R N k) N a0 a1 a2 l3 I J
set_option maxRecDepth 8000 in
theorem t_Sentence_readOne {d : Nat} {D : Nat} {R : Nat → Nat → Nat → Int32 → FI → FJ → Option (Bool × FI × FJ)} {N : Nat} {a0 a1 a2 : Nat} {c : Nat × Nat} {S : Nat → Nat × Nat} {P : Nat → Nat → Option Nat} {I : FI} {J : FJ} {l3 : Int32} {r : Bool × FI × FJ} (hd : D + 3 ≤ d) (hR : ∀ {d : Nat} {a0 a1 a2 : Nat} {l3 : Int32} {I : FI} {J : FJ} {r : Bool × FI × FJ}, D ≤ d → O8 S P a0 → O10 S P a1 → O6 S P a2 → R a0 a1 a2 l3 I J = some r → Go d M_Sentence_readOne 0 [some (.ref a0), some (.ref a1), some (.ref a2), some (.int l3), none] [] (c, S, I, J, P) (some (.int (b2i r.1)), false, (c, S, r.2.1, r.2.2, P))) (h0 : O8 S P a0) (h1 : O10 S P a1) (h2 : O6 S P a2) (h : Sentence_readOne R N a0 a1 a2 l3 I J = some r) : Go d M_Sentence_readOne 0 [some (.ref a0), some (.ref a1), some (.ref a2), some (.int l3), none] [] (c, S, I, J, P) (some (.int (b2i r.1)), false, (c, S, r.2.1, r.2.2, P)) := by
  obtain ⟨d, rfl⟩ : ∃ e, d = e + 1 := ⟨d - 1, by omega⟩
  unfold Sentence_readOne at h
  refine g_aload_n cd70_0 rfl rfl ?_
  refine g_callSZ (L := [some (.ref a1)]) cd70_1 rfl rfl rfl rfl rfl (t_Sentence_beginsOne (by omega) h1 rfl) ?_
  refine g_if_ne cd70_4 rfl (fun hb => ?_) (fun hb => ?_)
  · have h := ifnE (b2i_f hb) h
    refine g_aload_n cd70_7 rfl rfl ?_
    refine g_iconst cd70_8 rfl ?_
    obtain ⟨x1, hx, h⟩ := bnd h
    refine g_callVZ (L := [some (.ref a1), some (.int 1)]) cd70_9 rfl rfl rfl rfl rfl (O10.o h1) (t_Tape_fail (by omega) h1 hx) ?_
    exact g_iret cd70_12 (Or.inr ⟨rfl, b2i_or _⟩) (by obtain rfl := Option.some.inj h; rfl)
  · have h := ifpE (b2i_t hb) h
    refine g_aload_n cd70_13 rfl rfl ?_
    refine g_getI cd70_14 rfl (O8.o h0) ?_
    refine g_bipush cd70_17 rfl ?_
    refine g_icmp_ge cd70_19 rfl (fun hb => ?_) (fun hb => ?_)
    · have h := ifpE hb h
      refine g_aload_n cd70_28 rfl rfl ?_
      refine g_iconst cd70_29 rfl ?_
      obtain ⟨x2, hx, h⟩ := bnd h
      refine g_callVZ (L := [some (.ref a1), some (.int 4)]) cd70_30 rfl rfl rfl rfl rfl (O10.o h1) (t_Tape_fail (by omega) h1 hx) ?_
      exact g_iret cd70_33 (Or.inr ⟨rfl, b2i_or _⟩) (by obtain rfl := Option.some.inj h; rfl)
    · have h := ifnE hb h
      refine g_iload_n cd70_22 rfl rfl ?_
      refine g_bipush cd70_23 rfl ?_
      refine g_icmp_le cd70_25 rfl (fun hb => ?_) (fun hb => ?_)
      · have h := ifpE hb h
        refine g_aload_n cd70_34 rfl rfl ?_
        refine g_dupR cd70_35 rfl ?_
        refine g_getI cd70_36 rfl (O8.o h0) ?_
        refine g_iconst cd70_39 rfl ?_
        refine g_iadd cd70_40 rfl ?_
        obtain ⟨I3, e1, h⟩ := bnd h
        refine G_putI cd70_41 rfl (O8.o h0) (Option.some.inj e1) ?_
        refine g_aload_n cd70_44 rfl rfl ?_
        refine g_getI cd70_45 rfl (O10.o h1) ?_
        refine g_istore (ls2 := [some (.ref a0), some (.ref a1), some (.ref a2), some (.int l3), some (.int (I3 a1 11))]) cd70_48 rfl rfl ?_
        refine g_aload_n cd70_50 rfl rfl ?_
        obtain ⟨x4, hx, h⟩ := bnd h
        refine g_callVV (L := [some (.ref a1)]) cd70_51 rfl rfl rfl rfl rfl (O10.o h1) (t_Tape_step (by omega) h1 hx) ?_
        refine g_iload cd70_54 rfl rfl ?_
        refine g_iconst cd70_56 rfl ?_
        refine g_icmp_ne cd70_57 rfl (fun hb => ?_) (fun hb => ?_)
        · have h := ifpE hb h
          refine g_aload_n cd70_60 rfl rfl ?_
          refine g_aload_n cd70_61 rfl rfl ?_
          refine g_aload_n cd70_62 rfl rfl ?_
          refine g_iload_n cd70_63 rfl rfl ?_
          refine g_iconst cd70_64 rfl ?_
          refine g_iadd cd70_65 rfl ?_
          obtain ⟨x5, hx, h⟩ := bnd h
          refine g_callVZ (L := [some (.ref a0), some (.ref a1), some (.ref a2), some (.int (l3 + 1)), none]) cd70_66 rfl rfl rfl rfl rfl (O8.o h0) (t_Sentence_readCond (by omega) hR h0 h1 h2 hx) ?_
          refine g_if_eq cd70_69 rfl (fun hb => ?_) (fun hb => ?_)
          · have h := ifnE (b2i_f hb) h
            refine g_iconst cd70_85 rfl ?_
            exact g_iret cd70_86 (Or.inr ⟨rfl, Or.inl rfl⟩) (by obtain rfl := Option.some.inj h; rfl)
          · have h := ifpE (b2i_t hb) h
            refine g_aload_n cd70_72 rfl rfl ?_
            refine g_bipush cd70_73 rfl ?_
            obtain ⟨x6, hx, h⟩ := bnd h
            refine g_callVZ (L := [some (.ref a1), some (.int 41)]) cd70_75 rfl rfl rfl rfl rfl (O10.o h1) (t_Tape_takeSign (by omega) h1 hx) ?_
            refine g_if_eq cd70_78 rfl (fun hb => ?_) (fun hb => ?_)
            · have h := ifnE (b2i_f hb) h
              refine g_iconst cd70_85 rfl ?_
              exact g_iret cd70_86 (Or.inr ⟨rfl, Or.inl rfl⟩) (by obtain rfl := Option.some.inj h; rfl)
            · have h := ifpE (b2i_t hb) h
              refine g_iconst cd70_81 rfl ?_
              refine g_goto (ls2 := [some (.ref a0), some (.ref a1), some (.ref a2), some (.int l3), some (.int (I3 a1 11))]) cd70_82 rfl rfl ?_
              exact g_iret cd70_86 (Or.inr ⟨rfl, Or.inr rfl⟩) (by obtain rfl := Option.some.inj h; rfl)
        · have h := ifnE hb h
          refine g_iload cd70_87 rfl rfl ?_
          refine g_bipush cd70_89 rfl ?_
          refine g_icmp_ne cd70_91 rfl (fun hb => ?_) (fun hb => ?_)
          · have h := ifpE hb h
            refine g_aload_n cd70_94 rfl rfl ?_
            refine g_aload_n cd70_95 rfl rfl ?_
            refine g_aload_n cd70_96 rfl rfl ?_
            refine g_iload_n cd70_97 rfl rfl ?_
            refine g_iconst cd70_98 rfl ?_
            refine g_iadd cd70_99 rfl ?_
            obtain ⟨x7, hx, h⟩ := bnd h
            refine g_callVZ (L := [some (.ref a0), some (.ref a1), some (.ref a2), some (.int (l3 + 1)), none]) cd70_100 rfl rfl rfl rfl rfl (O8.o h0) (hR (by omega) h0 h1 h2 hx) ?_
            refine g_if_ne cd70_103 rfl (fun hb => ?_) (fun hb => ?_)
            · have h := ifnE (b2i_f hb) h
              refine g_iconst cd70_106 rfl ?_
              exact g_iret cd70_107 (Or.inr ⟨rfl, Or.inl rfl⟩) (by obtain rfl := Option.some.inj h; rfl)
            · have h := ifpE (b2i_t hb) h
              refine g_aload_n cd70_108 rfl rfl ?_
              refine g_bipush cd70_109 rfl ?_
              refine g_iconst cd70_111 rfl ?_
              refine g_iconst cd70_112 rfl ?_
              obtain ⟨x8, hx, h⟩ := bnd h
              refine g_callVV (L := [some (.ref a0), some (.int 27), some (.int 0), some (.int 0)]) cd70_113 rfl rfl rfl rfl rfl (O8.o h0) (t_Sentence_add (by omega) h0 hx) ?_
              refine g_iconst cd70_116 rfl ?_
              exact g_iret cd70_117 (Or.inr ⟨rfl, Or.inr rfl⟩) (by obtain rfl := Option.some.inj h; rfl)
          · have h := ifnE hb h
            refine g_iload cd70_118 rfl rfl ?_
            refine g_bipush cd70_120 rfl ?_
            refine g_icmp_ne cd70_122 rfl (fun hb => ?_) (fun hb => ?_)
            · have h := ifpE hb h
              refine g_aload_n cd70_125 rfl rfl ?_
              refine g_aload_n cd70_126 rfl rfl ?_
              refine g_aload_n cd70_127 rfl rfl ?_
              obtain ⟨x9, hx, h⟩ := bnd h
              refine g_callVZ (L := [some (.ref a0), some (.ref a1), some (.ref a2), none]) cd70_128 rfl rfl rfl rfl rfl (O8.o h0) (t_Sentence_readHolder (by omega) h0 h1 h2 hx) ?_
              exact g_iret cd70_131 (Or.inr ⟨rfl, b2i_or _⟩) (by obtain rfl := Option.some.inj h; rfl)
            · have h := ifnE hb h
              refine g_iload cd70_132 rfl rfl ?_
              refine g_bipush cd70_134 rfl ?_
              refine g_icmp_lt cd70_136 rfl (fun hb => ?_) (fun hb => ?_)
              · have h := ifpE hb h
                refine g_aload_n cd70_147 rfl rfl ?_
                refine g_iload cd70_148 rfl rfl ?_
                refine g_iconst cd70_150 rfl ?_
                refine g_iconst cd70_151 rfl ?_
                obtain ⟨x10, hx, h⟩ := bnd h
                refine g_callVV (L := [some (.ref a0), some (.int (I3 a1 11)), some (.int 0), some (.int 0)]) cd70_152 rfl rfl rfl rfl rfl (O8.o h0) (t_Sentence_add (by omega) h0 hx) ?_
                refine g_iconst cd70_155 rfl ?_
                exact g_iret cd70_156 (Or.inr ⟨rfl, Or.inr rfl⟩) (by obtain rfl := Option.some.inj h; rfl)
              · have h := ifnE hb h
                refine g_aload_n cd70_139 rfl rfl ?_
                refine g_aload_n cd70_140 rfl rfl ?_
                refine g_iload cd70_141 rfl rfl ?_
                obtain ⟨x11, hx, h⟩ := bnd h
                refine g_callVZ (L := [some (.ref a0), some (.ref a1), some (.int (I3 a1 11)), none]) cd70_143 rfl rfl rfl rfl rfl (O8.o h0) (t_Sentence_readCompare (by omega) h0 h1 hx) ?_
                exact g_iret cd70_146 (Or.inr ⟨rfl, b2i_or _⟩) (by obtain rfl := Option.some.inj h; rfl)
      · have h := ifnE hb h
        refine g_aload_n cd70_28 rfl rfl ?_
        refine g_iconst cd70_29 rfl ?_
        obtain ⟨x12, hx, h⟩ := bnd h
        refine g_callVZ (L := [some (.ref a1), some (.int 4)]) cd70_30 rfl rfl rfl rfl rfl (O10.o h1) (t_Tape_fail (by omega) h1 hx) ?_
        exact g_iret cd70_33 (Or.inr ⟨rfl, b2i_or _⟩) (by obtain rfl := Option.some.inj h; rfl)
set_option maxRecDepth 8000 in
theorem t_Sentence_readOne_R {N : Nat} {c : Nat × Nat} {S : Nat → Nat × Nat} {P : Nat → Nat → Option Nat} : ∀ (k D : Nat), 3 * k ≤ D → ∀ {d : Nat} {a0 a1 a2 : Nat} {l3 : Int32} {I : FI} {J : FJ} {r : Bool × FI × FJ}, D ≤ d → O8 S P a0 → O10 S P a1 → O6 S P a2 → Sentence_readOne_R N k a0 a1 a2 l3 I J = some r → Go d M_Sentence_readOne 0 [some (.ref a0), some (.ref a1), some (.ref a2), some (.int l3), none] [] (c, S, I, J, P) (some (.int (b2i r.1)), false, (c, S, r.2.1, r.2.2, P)) := by
  intro k
  induction k with
  | zero =>
    intro D hD d a0 a1 a2 l3 I J r hd h0 h1 h2 h
    cases h
  | succ k ih =>
    intro D hD d a0 a1 a2 l3 I J r hd h0 h1 h2 h
    exact t_Sentence_readOne (D := 3 * k) (N := N) (by omega) (ih (3 * k) (Nat.le_refl _)) h0 h1 h2 h
/-! HiddenOrLost$Sentence.read(LHiddenOrLost$Tape;LHiddenOrLost$Land;)Z -/
theorem cd67_0 : code9 67 0 = some (0, .aload_n 0, [1], .null, []) := rfl
theorem cd67_1 : code9 67 1 = some (0, .invokevirtual 37, [3, 66, 1, 1, 0, 1, 8, 0], .null, []) := rfl
theorem cd67_4 : code9 67 4 = some (0, .aload_n 1, [1], .null, []) := rfl
theorem cd67_5 : code9 67 5 = some (0, .sipush 200, [3], .int 200, []) := rfl
theorem cd67_8 : code9 67 8 = some (0, .invokevirtual 40, [3, 105, 2, 1, 0, 3, 10, 0], .null, []) := rfl
theorem cd67_11 : code9 67 11 = some (0, .aload_n 0, [1], .null, []) := rfl
theorem cd67_12 : code9 67 12 = some (0, .aload_n 1, [1], .null, []) := rfl
theorem cd67_13 : code9 67 13 = some (0, .aload_n 2, [1], .null, []) := rfl
theorem cd67_14 : code9 67 14 = some (0, .iconst 1, [1], .int 1, []) := rfl
theorem cd67_15 : code9 67 15 = some (0, .invokevirtual 46, [3, 68, 4, 1, 3, 5, 8, 0], .null, []) := rfl
theorem cd67_18 : code9 67 18 = some (0, .ifCond .ne 5, [3, 23], .null, []) := rfl
theorem cd67_21 : code9 67 21 = some (0, .iconst 0, [1], .int 0, []) := rfl
theorem cd67_22 : code9 67 22 = some (0, .ireturn, [1, 3], .null, []) := rfl
theorem cd67_23 : code9 67 23 = some (0, .aload_n 1, [1], .null, []) := rfl
theorem cd67_24 : code9 67 24 = some (0, .getfield 50, [3, 10, 9, 0], .null, []) := rfl
theorem cd67_27 : code9 67 27 = some (0, .ifCond .eq 11, [3, 38], .null, []) := rfl
theorem cd67_30 : code9 67 30 = some (0, .aload_n 1, [1], .null, []) := rfl
theorem cd67_31 : code9 67 31 = some (0, .iconst 1, [1], .int 1, []) := rfl
theorem cd67_32 : code9 67 32 = some (0, .invokevirtual 53, [3, 116, 2, 1, 3, 2, 10, 0], .null, []) := rfl
theorem cd67_35 : code9 67 35 = some (0, .ifCond .eq 7, [3, 42], .null, []) := rfl
theorem cd67_38 : code9 67 38 = some (4, .iconst 1, [1], .int 1, []) := rfl
theorem cd67_39 : code9 67 39 = some (0, .goto 4, [3, 43, 3], .null, []) := rfl
theorem cd67_42 : code9 67 42 = some (0, .iconst 0, [1], .int 0, []) := rfl
theorem cd67_43 : code9 67 43 = some (4, .ireturn, [1, 3], .null, []) := rfl
def Sentence_read (N : Nat) (a0 a1 a2 : Nat) (I : FI) (J : FJ) : Option (Bool × FI × FJ) := Option.bind (Sentence_clear a0 I) fun x1 => (Option.bind (Tape_begin N a1 200 x1 J) fun x2 => (Option.bind (Sentence_readCond (Sentence_readOne_R N dK) N a0 a1 a2 1 x2.1 x2.2) fun x3 => (if x3.1 then (if (x3.2.1 a1 9) = 0 then (some (true, x3.2.1, x3.2.2)) else (Option.bind (Tape_fail a1 1 x3.2.1) fun x4 => (if x4.1 then (some (true, x4.2, x3.2.2)) else (some (false, x4.2, x3.2.2))))) else (some (false, x3.2.1, x3.2.2)))))
set_option maxRecDepth 8000 in
theorem t_Sentence_read {d : Nat} {N : Nat} {a0 a1 a2 : Nat} {c : Nat × Nat} {S : Nat → Nat × Nat} {P : Nat → Nat → Option Nat} {I : FI} {J : FJ} {r : Bool × FI × FJ} (hd : 195 ≤ d) (h0 : O8 S P a0) (h1 : O10 S P a1) (h2 : O6 S P a2) (h : Sentence_read N a0 a1 a2 I J = some r) : Go d M_Sentence_read 0 [some (.ref a0), some (.ref a1), some (.ref a2)] [] (c, S, I, J, P) (some (.int (b2i r.1)), false, (c, S, r.2.1, r.2.2, P)) := by
  obtain ⟨d, rfl⟩ : ∃ e, d = e + 1 := ⟨d - 1, by omega⟩
  unfold Sentence_read at h
  refine g_aload_n cd67_0 rfl rfl ?_
  obtain ⟨x1, hx, h⟩ := bnd h
  refine g_callVV (L := [some (.ref a0)]) cd67_1 rfl rfl rfl rfl rfl (O8.o h0) (t_Sentence_clear (by omega) h0 hx) ?_
  refine g_aload_n cd67_4 rfl rfl ?_
  refine g_sipush cd67_5 rfl ?_
  obtain ⟨x2, hx, h⟩ := bnd h
  refine g_callVV (L := [some (.ref a1), some (.int 200), none]) cd67_8 rfl rfl rfl rfl rfl (O10.o h1) (t_Tape_begin (by omega) h1 hx) ?_
  refine g_aload_n cd67_11 rfl rfl ?_
  refine g_aload_n cd67_12 rfl rfl ?_
  refine g_aload_n cd67_13 rfl rfl ?_
  refine g_iconst cd67_14 rfl ?_
  obtain ⟨x3, hx, h⟩ := bnd h
  refine g_callVZ (L := [some (.ref a0), some (.ref a1), some (.ref a2), some (.int 1), none]) cd67_15 rfl rfl rfl rfl rfl (O8.o h0) (t_Sentence_readCond (D := 3 * dK) (by have := dK_eq; omega) (t_Sentence_readOne_R dK (3 * dK) (Nat.le_refl _)) h0 h1 h2 hx) ?_
  refine g_if_ne cd67_18 rfl (fun hb => ?_) (fun hb => ?_)
  · have h := ifnE (b2i_f hb) h
    refine g_iconst cd67_21 rfl ?_
    exact g_iret cd67_22 (Or.inr ⟨rfl, Or.inl rfl⟩) (by obtain rfl := Option.some.inj h; rfl)
  · have h := ifpE (b2i_t hb) h
    refine g_aload_n cd67_23 rfl rfl ?_
    refine g_getI cd67_24 rfl (O10.o h1) ?_
    refine g_if_eq cd67_27 rfl (fun hb => ?_) (fun hb => ?_)
    · have h := ifpE hb h
      refine g_iconst cd67_38 rfl ?_
      refine g_goto (ls2 := [some (.ref a0), some (.ref a1), some (.ref a2)]) cd67_39 rfl rfl ?_
      exact g_iret cd67_43 (Or.inr ⟨rfl, Or.inr rfl⟩) (by obtain rfl := Option.some.inj h; rfl)
    · have h := ifnE hb h
      refine g_aload_n cd67_30 rfl rfl ?_
      refine g_iconst cd67_31 rfl ?_
      obtain ⟨x4, hx, h⟩ := bnd h
      refine g_callVZ (L := [some (.ref a1), some (.int 1)]) cd67_32 rfl rfl rfl rfl rfl (O10.o h1) (t_Tape_fail (by omega) h1 hx) ?_
      refine g_if_eq cd67_35 rfl (fun hb => ?_) (fun hb => ?_)
      · have h := ifnE (b2i_f hb) h
        refine g_iconst cd67_42 rfl ?_
        exact g_iret cd67_43 (Or.inr ⟨rfl, Or.inl rfl⟩) (by obtain rfl := Option.some.inj h; rfl)
      · have h := ifpE (b2i_t hb) h
        refine g_iconst cd67_38 rfl ?_
        refine g_goto (ls2 := [some (.ref a0), some (.ref a1), some (.ref a2)]) cd67_39 rfl rfl ?_
        exact g_iret cd67_43 (Or.inr ⟨rfl, Or.inr rfl⟩) (by obtain rfl := Option.some.inj h; rfl)
/-! HiddenOrLost$Sentence.compares(II)Z -/
theorem cd78_0 : code9 78 0 = some (0, .aload_n 0, [1], .null, []) := rfl
theorem cd78_1 : code9 78 1 = some (0, .getfield 15, [3, 8, 1, 2], .null, []) := rfl
theorem cd78_4 : code9 78 4 = some (0, .iload_n 2, [1], .null, []) := rfl
theorem cd78_5 : code9 78 5 = some (0, .iaload, [1], .null, []) := rfl
theorem cd78_6 : code9 78 6 = some (0, .bipush 60, [2], .int 60, []) := rfl
theorem cd78_8 : code9 78 8 = some (0, .if_icmp .ne 19, [3, 27], .null, []) := rfl
theorem cd78_11 : code9 78 11 = some (0, .iload_n 1, [1], .null, []) := rfl
theorem cd78_12 : code9 78 12 = some (0, .aload_n 0, [1], .null, []) := rfl
theorem cd78_13 : code9 78 13 = some (0, .getfield 18, [3, 8, 2, 2], .null, []) := rfl
theorem cd78_16 : code9 78 16 = some (0, .iload_n 2, [1], .null, []) := rfl
theorem cd78_17 : code9 78 17 = some (0, .iaload, [1], .null, []) := rfl
theorem cd78_18 : code9 78 18 = some (0, .if_icmp .ge 7, [3, 25], .null, []) := rfl
theorem cd78_21 : code9 78 21 = some (0, .iconst 1, [1], .int 1, []) := rfl
theorem cd78_22 : code9 78 22 = some (0, .goto 4, [3, 26, 3], .null, []) := rfl
theorem cd78_25 : code9 78 25 = some (0, .iconst 0, [1], .int 0, []) := rfl
theorem cd78_26 : code9 78 26 = some (4, .ireturn, [1, 3], .null, []) := rfl
theorem cd78_27 : code9 78 27 = some (0, .aload_n 0, [1], .null, []) := rfl
theorem cd78_28 : code9 78 28 = some (0, .getfield 15, [3, 8, 1, 2], .null, []) := rfl
theorem cd78_31 : code9 78 31 = some (0, .iload_n 2, [1], .null, []) := rfl
theorem cd78_32 : code9 78 32 = some (0, .iaload, [1], .null, []) := rfl
theorem cd78_33 : code9 78 33 = some (0, .bipush 61, [2], .int 61, []) := rfl
theorem cd78_35 : code9 78 35 = some (0, .if_icmp .ne 21, [3, 56], .null, []) := rfl
theorem cd78_38 : code9 78 38 = some (0, .iload_n 1, [1], .null, []) := rfl
theorem cd78_39 : code9 78 39 = some (0, .aload_n 0, [1], .null, []) := rfl
theorem cd78_40 : code9 78 40 = some (0, .getfield 18, [3, 8, 2, 2], .null, []) := rfl
theorem cd78_43 : code9 78 43 = some (0, .iload_n 2, [1], .null, []) := rfl
theorem cd78_44 : code9 78 44 = some (0, .iaload, [1], .null, []) := rfl
theorem cd78_45 : code9 78 45 = some (0, .if_icmp .ne 7, [3, 52], .null, []) := rfl
theorem cd78_48 : code9 78 48 = some (0, .iconst 1, [1], .int 1, []) := rfl
theorem cd78_49 : code9 78 49 = some (0, .goto 22, [3, 71, 3], .null, []) := rfl
theorem cd78_52 : code9 78 52 = some (0, .iconst 0, [1], .int 0, []) := rfl
theorem cd78_53 : code9 78 53 = some (0, .goto 18, [3, 71, 3], .null, []) := rfl
theorem cd78_56 : code9 78 56 = some (0, .iload_n 1, [1], .null, []) := rfl
theorem cd78_57 : code9 78 57 = some (0, .aload_n 0, [1], .null, []) := rfl
theorem cd78_58 : code9 78 58 = some (0, .getfield 18, [3, 8, 2, 2], .null, []) := rfl
theorem cd78_61 : code9 78 61 = some (0, .iload_n 2, [1], .null, []) := rfl
theorem cd78_62 : code9 78 62 = some (0, .iaload, [1], .null, []) := rfl
theorem cd78_63 : code9 78 63 = some (0, .if_icmp .le 7, [3, 70], .null, []) := rfl
theorem cd78_66 : code9 78 66 = some (0, .iconst 1, [1], .int 1, []) := rfl
theorem cd78_67 : code9 78 67 = some (0, .goto 4, [3, 71, 3], .null, []) := rfl
theorem cd78_70 : code9 78 70 = some (0, .iconst 0, [1], .int 0, []) := rfl
theorem cd78_71 : code9 78 71 = some (4, .ireturn, [1, 3], .null, []) := rfl
def Sentence_compares (a0 : Nat) (l1 : Int32) (l2 : Int32) (I : FI) : Option (Bool) := if in9 l2 40 then (if (I (a0 + 2) l2.toNatClampNeg) = 60 then (if (I (a0 + 3) l2.toNatClampNeg) ≤ l1 then (some false) else (some true)) else (if (I (a0 + 2) l2.toNatClampNeg) = 61 then (if l1 = (I (a0 + 3) l2.toNatClampNeg) then (some true) else (some false)) else (if l1 ≤ (I (a0 + 3) l2.toNatClampNeg) then (some false) else (some true)))) else none
set_option maxRecDepth 8000 in
theorem t_Sentence_compares {d : Nat} {a0 : Nat} {c : Nat × Nat} {S : Nat → Nat × Nat} {P : Nat → Nat → Option Nat} {I : FI} {J : FJ} {l1 : Int32} {l2 : Int32} {r : Bool} (hd : 0 ≤ d) (h0 : O8 S P a0) (h : Sentence_compares a0 l1 l2 I = some r) : Go d M_Sentence_compares 0 [some (.ref a0), some (.int l1), some (.int l2)] [] (c, S, I, J, P) (some (.int (b2i r)), false, (c, S, I, J, P)) := by
  unfold Sentence_compares at h
  refine g_aload_n cd78_0 rfl rfl ?_
  refine g_getP cd78_1 rfl (O8.o h0) (show P a0 1 = some (a0 + 2) from O8.p1 h0) ?_
  refine g_iload_n cd78_4 rfl rfl ?_
  obtain ⟨hg1, h⟩ := grd h
  refine G_iald cd78_5 rfl (show S (a0 + 2) = (1, 40) from O8.s1 h0) hg1 ?_
  refine g_bipush cd78_6 rfl ?_
  refine g_icmp_ne cd78_8 rfl (fun hb => ?_) (fun hb => ?_)
  · have h := ifpE hb h
    refine g_iload_n cd78_11 rfl rfl ?_
    refine g_aload_n cd78_12 rfl rfl ?_
    refine g_getP cd78_13 rfl (O8.o h0) (show P a0 2 = some (a0 + 3) from O8.p2 h0) ?_
    refine g_iload_n cd78_16 rfl rfl ?_
    refine G_iald cd78_17 rfl (show S (a0 + 3) = (1, 40) from O8.s2 h0) hg1 ?_
    refine g_icmp_ge cd78_18 rfl (fun hb => ?_) (fun hb => ?_)
    · have h := ifpE hb h
      refine g_iconst cd78_25 rfl ?_
      exact g_iret cd78_26 (Or.inr ⟨rfl, Or.inl rfl⟩) (by obtain rfl := Option.some.inj h; rfl)
    · have h := ifnE hb h
      refine g_iconst cd78_21 rfl ?_
      refine g_goto (ls2 := [some (.ref a0), some (.int l1), some (.int l2)]) cd78_22 rfl rfl ?_
      exact g_iret cd78_26 (Or.inr ⟨rfl, Or.inr rfl⟩) (by obtain rfl := Option.some.inj h; rfl)
  · have h := ifnE hb h
    refine g_aload_n cd78_27 rfl rfl ?_
    refine g_getP cd78_28 rfl (O8.o h0) (show P a0 1 = some (a0 + 2) from O8.p1 h0) ?_
    refine g_iload_n cd78_31 rfl rfl ?_
    refine G_iald cd78_32 rfl (show S (a0 + 2) = (1, 40) from O8.s1 h0) hg1 ?_
    refine g_bipush cd78_33 rfl ?_
    refine g_icmp_ne cd78_35 rfl (fun hb => ?_) (fun hb => ?_)
    · have h := ifpE hb h
      refine g_iload_n cd78_38 rfl rfl ?_
      refine g_aload_n cd78_39 rfl rfl ?_
      refine g_getP cd78_40 rfl (O8.o h0) (show P a0 2 = some (a0 + 3) from O8.p2 h0) ?_
      refine g_iload_n cd78_43 rfl rfl ?_
      refine G_iald cd78_44 rfl (show S (a0 + 3) = (1, 40) from O8.s2 h0) hg1 ?_
      refine g_icmp_ne cd78_45 rfl (fun hb => ?_) (fun hb => ?_)
      · have h := ifpE hb h
        refine g_iconst cd78_48 rfl ?_
        refine g_goto (ls2 := [some (.ref a0), some (.int l1), some (.int l2)]) cd78_49 rfl rfl ?_
        exact g_iret cd78_71 (Or.inr ⟨rfl, Or.inr rfl⟩) (by obtain rfl := Option.some.inj h; rfl)
      · have h := ifnE hb h
        refine g_iconst cd78_52 rfl ?_
        refine g_goto (ls2 := [some (.ref a0), some (.int l1), some (.int l2)]) cd78_53 rfl rfl ?_
        exact g_iret cd78_71 (Or.inr ⟨rfl, Or.inl rfl⟩) (by obtain rfl := Option.some.inj h; rfl)
    · have h := ifnE hb h
      refine g_iload_n cd78_56 rfl rfl ?_
      refine g_aload_n cd78_57 rfl rfl ?_
      refine g_getP cd78_58 rfl (O8.o h0) (show P a0 2 = some (a0 + 3) from O8.p2 h0) ?_
      refine g_iload_n cd78_61 rfl rfl ?_
      refine G_iald cd78_62 rfl (show S (a0 + 3) = (1, 40) from O8.s2 h0) hg1 ?_
      refine g_icmp_le cd78_63 rfl (fun hb => ?_) (fun hb => ?_)
      · have h := ifpE hb h
        refine g_iconst cd78_70 rfl ?_
        exact g_iret cd78_71 (Or.inr ⟨rfl, Or.inl rfl⟩) (by obtain rfl := Option.some.inj h; rfl)
      · have h := ifnE hb h
        refine g_iconst cd78_66 rfl ?_
        refine g_goto (ls2 := [some (.ref a0), some (.int l1), some (.int l2)]) cd78_67 rfl rfl ?_
        exact g_iret cd78_71 (Or.inr ⟨rfl, Or.inr rfl⟩) (by obtain rfl := Option.some.inj h; rfl)
/-! HiddenOrLost$Sentence.holds(LHiddenOrLost$Land;LHiddenOrLost$State;II)Z -/
theorem cd77_0 : code9 77 0 = some (0, .aload_n 0, [1], .null, []) := rfl
theorem cd77_1 : code9 77 1 = some (0, .getfield 11, [3, 8, 0, 2], .null, []) := rfl
theorem cd77_4 : code9 77 4 = some (0, .iload_n 3, [1], .null, []) := rfl
theorem cd77_5 : code9 77 5 = some (0, .iaload, [1], .null, []) := rfl
theorem cd77_6 : code9 77 6 = some (0, .istore 5, [2], .null, []) := rfl
theorem cd77_8 : code9 77 8 = some (0, .iload 5, [2], .null, []) := rfl
theorem cd77_10 : code9 77 10 = some (0, .tableswitch 225 19 34 #[111, 128, 225, 225, 225, 225, 225, 225, 225, 78, 94, 145, 178, 191, 204, 217], [78, 235], .null, [(19, 121), (20, 138), (21, 235), (22, 235), (23, 235), (24, 235), (25, 235), (26, 235), (27, 235), (28, 88), (29, 104), (30, 155), (31, 188), (32, 201), (33, 214), (34, 227)]) := rfl
theorem cd77_88 : code9 77 88 = some (0, .aload_n 2, [1], .null, []) := rfl
theorem cd77_89 : code9 77 89 = some (0, .getfield 129, [3, 9, 3, 2], .null, []) := rfl
theorem cd77_92 : code9 77 92 = some (0, .iload 4, [2], .null, []) := rfl
theorem cd77_94 : code9 77 94 = some (0, .iaload, [1], .null, []) := rfl
theorem cd77_95 : code9 77 95 = some (0, .ifCond .ne 7, [3, 102], .null, []) := rfl
theorem cd77_98 : code9 77 98 = some (0, .iconst 1, [1], .int 1, []) := rfl
theorem cd77_99 : code9 77 99 = some (0, .goto 4, [3, 103, 6], .null, []) := rfl
theorem cd77_102 : code9 77 102 = some (0, .iconst 0, [1], .int 0, []) := rfl
theorem cd77_103 : code9 77 103 = some (7, .ireturn, [1, 3], .null, []) := rfl
theorem cd77_104 : code9 77 104 = some (0, .aload_n 2, [1], .null, []) := rfl
theorem cd77_105 : code9 77 105 = some (0, .getfield 129, [3, 9, 3, 2], .null, []) := rfl
theorem cd77_108 : code9 77 108 = some (0, .iload 4, [2], .null, []) := rfl
theorem cd77_110 : code9 77 110 = some (0, .iaload, [1], .null, []) := rfl
theorem cd77_111 : code9 77 111 = some (0, .iconst 1, [1], .int 1, []) := rfl
theorem cd77_112 : code9 77 112 = some (0, .if_icmp .ne 7, [3, 119], .null, []) := rfl
theorem cd77_115 : code9 77 115 = some (0, .iconst 1, [1], .int 1, []) := rfl
theorem cd77_116 : code9 77 116 = some (0, .goto 4, [3, 120, 6], .null, []) := rfl
theorem cd77_119 : code9 77 119 = some (0, .iconst 0, [1], .int 0, []) := rfl
theorem cd77_120 : code9 77 120 = some (7, .ireturn, [1, 3], .null, []) := rfl
theorem cd77_121 : code9 77 121 = some (0, .aload_n 2, [1], .null, []) := rfl
theorem cd77_122 : code9 77 122 = some (0, .getfield 129, [3, 9, 3, 2], .null, []) := rfl
theorem cd77_125 : code9 77 125 = some (0, .iload 4, [2], .null, []) := rfl
theorem cd77_127 : code9 77 127 = some (0, .iaload, [1], .null, []) := rfl
theorem cd77_128 : code9 77 128 = some (0, .iconst 2, [1], .int 2, []) := rfl
theorem cd77_129 : code9 77 129 = some (0, .if_icmp .ne 7, [3, 136], .null, []) := rfl
theorem cd77_132 : code9 77 132 = some (0, .iconst 1, [1], .int 1, []) := rfl
theorem cd77_133 : code9 77 133 = some (0, .goto 4, [3, 137, 6], .null, []) := rfl
theorem cd77_136 : code9 77 136 = some (0, .iconst 0, [1], .int 0, []) := rfl
theorem cd77_137 : code9 77 137 = some (7, .ireturn, [1, 3], .null, []) := rfl
theorem cd77_138 : code9 77 138 = some (0, .aload_n 2, [1], .null, []) := rfl
theorem cd77_139 : code9 77 139 = some (0, .getfield 129, [3, 9, 3, 2], .null, []) := rfl
theorem cd77_142 : code9 77 142 = some (0, .iload 4, [2], .null, []) := rfl
theorem cd77_144 : code9 77 144 = some (0, .iaload, [1], .null, []) := rfl
theorem cd77_145 : code9 77 145 = some (0, .iconst 3, [1], .int 3, []) := rfl
theorem cd77_146 : code9 77 146 = some (0, .if_icmp .ne 7, [3, 153], .null, []) := rfl
theorem cd77_149 : code9 77 149 = some (0, .iconst 1, [1], .int 1, []) := rfl
theorem cd77_150 : code9 77 150 = some (0, .goto 4, [3, 154, 6], .null, []) := rfl
theorem cd77_153 : code9 77 153 = some (0, .iconst 0, [1], .int 0, []) := rfl
theorem cd77_154 : code9 77 154 = some (7, .ireturn, [1, 3], .null, []) := rfl
theorem cd77_155 : code9 77 155 = some (0, .aload_n 2, [1], .null, []) := rfl
theorem cd77_156 : code9 77 156 = some (0, .getfield 129, [3, 9, 3, 2], .null, []) := rfl
theorem cd77_159 : code9 77 159 = some (0, .iload 4, [2], .null, []) := rfl
theorem cd77_161 : code9 77 161 = some (0, .iaload, [1], .null, []) := rfl
theorem cd77_162 : code9 77 162 = some (0, .iconst 1, [1], .int 1, []) := rfl
theorem cd77_163 : code9 77 163 = some (0, .if_icmp .ne 23, [3, 186], .null, []) := rfl
theorem cd77_166 : code9 77 166 = some (0, .aload_n 2, [1], .null, []) := rfl
theorem cd77_167 : code9 77 167 = some (0, .getfield 134, [3, 9, 4, 2], .null, []) := rfl
theorem cd77_170 : code9 77 170 = some (0, .iload 4, [2], .null, []) := rfl
theorem cd77_172 : code9 77 172 = some (0, .iaload, [1], .null, []) := rfl
theorem cd77_173 : code9 77 173 = some (0, .aload_n 0, [1], .null, []) := rfl
theorem cd77_174 : code9 77 174 = some (0, .getfield 15, [3, 8, 1, 2], .null, []) := rfl
theorem cd77_177 : code9 77 177 = some (0, .iload_n 3, [1], .null, []) := rfl
theorem cd77_178 : code9 77 178 = some (0, .iaload, [1], .null, []) := rfl
theorem cd77_179 : code9 77 179 = some (0, .if_icmp .ne 7, [3, 186], .null, []) := rfl
theorem cd77_182 : code9 77 182 = some (0, .iconst 1, [1], .int 1, []) := rfl
theorem cd77_183 : code9 77 183 = some (0, .goto 4, [3, 187, 6], .null, []) := rfl
theorem cd77_186 : code9 77 186 = some (7, .iconst 0, [1], .int 0, []) := rfl
theorem cd77_187 : code9 77 187 = some (7, .ireturn, [1, 3], .null, []) := rfl
theorem cd77_188 : code9 77 188 = some (0, .aload_n 0, [1], .null, []) := rfl
theorem cd77_189 : code9 77 189 = some (0, .aload_n 1, [1], .null, []) := rfl
theorem cd77_190 : code9 77 190 = some (0, .iload 4, [2], .null, []) := rfl
theorem cd77_192 : code9 77 192 = some (0, .iconst 4, [1], .int 4, []) := rfl
theorem cd77_193 : code9 77 193 = some (0, .invokevirtual 137, [3, 51, 3, 1, 1, 3, 6, 0], .null, []) := rfl
theorem cd77_196 : code9 77 196 = some (0, .iload_n 3, [1], .null, []) := rfl
theorem cd77_197 : code9 77 197 = some (0, .invokevirtual 141, [3, 78, 3, 1, 3, 3, 8, 0], .null, []) := rfl
theorem cd77_200 : code9 77 200 = some (0, .ireturn, [1, 3], .null, []) := rfl
theorem cd77_201 : code9 77 201 = some (0, .aload_n 0, [1], .null, []) := rfl
theorem cd77_202 : code9 77 202 = some (0, .aload_n 1, [1], .null, []) := rfl
theorem cd77_203 : code9 77 203 = some (0, .iload 4, [2], .null, []) := rfl
theorem cd77_205 : code9 77 205 = some (0, .iconst 5, [1], .int 5, []) := rfl
theorem cd77_206 : code9 77 206 = some (0, .invokevirtual 137, [3, 51, 3, 1, 1, 3, 6, 0], .null, []) := rfl
theorem cd77_209 : code9 77 209 = some (0, .iload_n 3, [1], .null, []) := rfl
theorem cd77_210 : code9 77 210 = some (0, .invokevirtual 141, [3, 78, 3, 1, 3, 3, 8, 0], .null, []) := rfl
theorem cd77_213 : code9 77 213 = some (0, .ireturn, [1, 3], .null, []) := rfl
theorem cd77_214 : code9 77 214 = some (0, .aload_n 0, [1], .null, []) := rfl
theorem cd77_215 : code9 77 215 = some (0, .aload_n 2, [1], .null, []) := rfl
theorem cd77_216 : code9 77 216 = some (0, .getfield 144, [3, 9, 2, 2], .null, []) := rfl
theorem cd77_219 : code9 77 219 = some (0, .iload 4, [2], .null, []) := rfl
theorem cd77_221 : code9 77 221 = some (0, .iaload, [1], .null, []) := rfl
theorem cd77_222 : code9 77 222 = some (0, .iload_n 3, [1], .null, []) := rfl
theorem cd77_223 : code9 77 223 = some (0, .invokevirtual 141, [3, 78, 3, 1, 3, 3, 8, 0], .null, []) := rfl
theorem cd77_226 : code9 77 226 = some (0, .ireturn, [1, 3], .null, []) := rfl
theorem cd77_227 : code9 77 227 = some (0, .aload_n 0, [1], .null, []) := rfl
theorem cd77_228 : code9 77 228 = some (0, .iload 4, [2], .null, []) := rfl
theorem cd77_230 : code9 77 230 = some (0, .iload_n 3, [1], .null, []) := rfl
theorem cd77_231 : code9 77 231 = some (0, .invokevirtual 141, [3, 78, 3, 1, 3, 3, 8, 0], .null, []) := rfl
theorem cd77_234 : code9 77 234 = some (0, .ireturn, [1, 3], .null, []) := rfl
theorem cd77_235 : code9 77 235 = some (0, .iload 5, [2], .null, []) := rfl
theorem cd77_237 : code9 77 237 = some (0, .bipush 8, [2], .int 8, []) := rfl
theorem cd77_239 : code9 77 239 = some (0, .if_icmp .lt 29, [3, 268], .null, []) := rfl
theorem cd77_242 : code9 77 242 = some (0, .iload 5, [2], .null, []) := rfl
theorem cd77_244 : code9 77 244 = some (0, .bipush 11, [2], .int 11, []) := rfl
theorem cd77_246 : code9 77 246 = some (0, .if_icmp .gt 22, [3, 268], .null, []) := rfl
theorem cd77_249 : code9 77 249 = some (0, .aload_n 1, [1], .null, []) := rfl
theorem cd77_250 : code9 77 250 = some (0, .iload 4, [2], .null, []) := rfl
theorem cd77_252 : code9 77 252 = some (0, .iconst 0, [1], .int 0, []) := rfl
theorem cd77_253 : code9 77 253 = some (0, .invokevirtual 137, [3, 51, 3, 1, 1, 3, 6, 0], .null, []) := rfl
theorem cd77_256 : code9 77 256 = some (0, .iload 5, [2], .null, []) := rfl
theorem cd77_258 : code9 77 258 = some (0, .bipush 8, [2], .int 8, []) := rfl
theorem cd77_260 : code9 77 260 = some (0, .isub, [1], .null, []) := rfl
theorem cd77_261 : code9 77 261 = some (0, .if_icmp .ne 7, [3, 268], .null, []) := rfl
theorem cd77_264 : code9 77 264 = some (0, .iconst 1, [1], .int 1, []) := rfl
theorem cd77_265 : code9 77 265 = some (0, .goto 4, [3, 269, 6], .null, []) := rfl
theorem cd77_268 : code9 77 268 = some (7, .iconst 0, [1], .int 0, []) := rfl
theorem cd77_269 : code9 77 269 = some (7, .ireturn, [1, 3], .null, []) := rfl
def Sentence_holds (a0 a1 a2 : Nat) (l3 : Int32) (l4 : Int32) (I : FI) : Option (Bool) := if in9 l3 40 then (if (I (a0 + 1) l3.toNatClampNeg) = 19 then (if in9 l4 10 then (if (I (a2 + 4) l4.toNatClampNeg) = 2 then (some true) else (some false)) else none) else (if (I (a0 + 1) l3.toNatClampNeg) = 20 then (if in9 l4 10 then (if (I (a2 + 4) l4.toNatClampNeg) = 3 then (some true) else (some false)) else none) else (if (I (a0 + 1) l3.toNatClampNeg) = 21 then (if (I (a0 + 1) l3.toNatClampNeg) < 8 then (some false) else (if 11 < (I (a0 + 1) l3.toNatClampNeg) then (some false) else (Option.bind (Land_factOf a1 l4 0 I) fun x4 => (if x4 = ((I (a0 + 1) l3.toNatClampNeg) - 8) then (some true) else (some false))))) else (if (I (a0 + 1) l3.toNatClampNeg) = 22 then (if (I (a0 + 1) l3.toNatClampNeg) < 8 then (some false) else (if 11 < (I (a0 + 1) l3.toNatClampNeg) then (some false) else (Option.bind (Land_factOf a1 l4 0 I) fun x5 => (if x5 = ((I (a0 + 1) l3.toNatClampNeg) - 8) then (some true) else (some false))))) else (if (I (a0 + 1) l3.toNatClampNeg) = 23 then (if (I (a0 + 1) l3.toNatClampNeg) < 8 then (some false) else (if 11 < (I (a0 + 1) l3.toNatClampNeg) then (some false) else (Option.bind (Land_factOf a1 l4 0 I) fun x6 => (if x6 = ((I (a0 + 1) l3.toNatClampNeg) - 8) then (some true) else (some false))))) else (if (I (a0 + 1) l3.toNatClampNeg) = 24 then (if (I (a0 + 1) l3.toNatClampNeg) < 8 then (some false) else (if 11 < (I (a0 + 1) l3.toNatClampNeg) then (some false) else (Option.bind (Land_factOf a1 l4 0 I) fun x7 => (if x7 = ((I (a0 + 1) l3.toNatClampNeg) - 8) then (some true) else (some false))))) else (if (I (a0 + 1) l3.toNatClampNeg) = 25 then (if (I (a0 + 1) l3.toNatClampNeg) < 8 then (some false) else (if 11 < (I (a0 + 1) l3.toNatClampNeg) then (some false) else (Option.bind (Land_factOf a1 l4 0 I) fun x8 => (if x8 = ((I (a0 + 1) l3.toNatClampNeg) - 8) then (some true) else (some false))))) else (if (I (a0 + 1) l3.toNatClampNeg) = 26 then (if (I (a0 + 1) l3.toNatClampNeg) < 8 then (some false) else (if 11 < (I (a0 + 1) l3.toNatClampNeg) then (some false) else (Option.bind (Land_factOf a1 l4 0 I) fun x9 => (if x9 = ((I (a0 + 1) l3.toNatClampNeg) - 8) then (some true) else (some false))))) else (if (I (a0 + 1) l3.toNatClampNeg) = 27 then (if (I (a0 + 1) l3.toNatClampNeg) < 8 then (some false) else (if 11 < (I (a0 + 1) l3.toNatClampNeg) then (some false) else (Option.bind (Land_factOf a1 l4 0 I) fun x10 => (if x10 = ((I (a0 + 1) l3.toNatClampNeg) - 8) then (some true) else (some false))))) else (if (I (a0 + 1) l3.toNatClampNeg) = 28 then (if in9 l4 10 then (if (I (a2 + 4) l4.toNatClampNeg) = 0 then (some true) else (some false)) else none) else (if (I (a0 + 1) l3.toNatClampNeg) = 29 then (if in9 l4 10 then (if (I (a2 + 4) l4.toNatClampNeg) = 1 then (some true) else (some false)) else none) else (if (I (a0 + 1) l3.toNatClampNeg) = 30 then (if in9 l4 10 then (if (I (a2 + 4) l4.toNatClampNeg) = 1 then (if (I (a2 + 5) l4.toNatClampNeg) = (I (a0 + 2) l3.toNatClampNeg) then (some true) else (some false)) else (some false)) else none) else (if (I (a0 + 1) l3.toNatClampNeg) = 31 then (Option.bind (Land_factOf a1 l4 4 I) fun x14 => (Option.bind (Sentence_compares a0 x14 l3 I) fun x15 => (some x15))) else (if (I (a0 + 1) l3.toNatClampNeg) = 32 then (Option.bind (Land_factOf a1 l4 5 I) fun x16 => (Option.bind (Sentence_compares a0 x16 l3 I) fun x17 => (some x17))) else (if (I (a0 + 1) l3.toNatClampNeg) = 33 then (if in9 l4 10 then (Option.bind (Sentence_compares a0 (I (a2 + 3) l4.toNatClampNeg) l3 I) fun x19 => (some x19)) else none) else (if (I (a0 + 1) l3.toNatClampNeg) = 34 then (Option.bind (Sentence_compares a0 l4 l3 I) fun x20 => (some x20)) else (if (I (a0 + 1) l3.toNatClampNeg) < 8 then (some false) else (if 11 < (I (a0 + 1) l3.toNatClampNeg) then (some false) else (Option.bind (Land_factOf a1 l4 0 I) fun x21 => (if x21 = ((I (a0 + 1) l3.toNatClampNeg) - 8) then (some true) else (some false))))))))))))))))))))) else none
set_option maxRecDepth 8000 in
theorem t_Sentence_holds {d : Nat} {a0 a1 a2 : Nat} {c : Nat × Nat} {S : Nat → Nat × Nat} {P : Nat → Nat → Option Nat} {I : FI} {J : FJ} {l3 : Int32} {l4 : Int32} {r : Bool} (hd : 1 ≤ d) (h0 : O8 S P a0) (h1 : O6 S P a1) (h2 : O9 S P a2) (h : Sentence_holds a0 a1 a2 l3 l4 I = some r) : Go d M_Sentence_holds 0 [some (.ref a0), some (.ref a1), some (.ref a2), some (.int l3), some (.int l4), none] [] (c, S, I, J, P) (some (.int (b2i r)), false, (c, S, I, J, P)) := by
  obtain ⟨d, rfl⟩ : ∃ e, d = e + 1 := ⟨d - 1, by omega⟩
  unfold Sentence_holds at h
  refine g_aload_n cd77_0 rfl rfl ?_
  refine g_getP cd77_1 rfl (O8.o h0) (show P a0 0 = some (a0 + 1) from O8.p0 h0) ?_
  refine g_iload_n cd77_4 rfl rfl ?_
  obtain ⟨hg1, h⟩ := grd h
  refine G_iald cd77_5 rfl (show S (a0 + 1) = (1, 40) from O8.s0 h0) hg1 ?_
  refine g_istore (ls2 := [some (.ref a0), some (.ref a1), some (.ref a2), some (.int l3), some (.int l4), some (.int (I (a0 + 1) l3.toNatClampNeg))]) cd77_6 rfl rfl ?_
  refine g_iload cd77_8 rfl rfl ?_
  refine g_tableswitch cd77_10 rfl ?_
  refine ifi (fun hb => ?_) (fun hb => ?_)
  · have h := ifpE hb h
    show Go _ _ 121 [some (.ref a0), some (.ref a1), some (.ref a2), some (.int l3), some (.int l4), some (.int (I (a0 + 1) l3.toNatClampNeg))] [] _ _
    refine g_aload_n cd77_121 rfl rfl ?_
    refine g_getP cd77_122 rfl (O9.o h2) (show P a2 3 = some (a2 + 4) from O9.p3 h2) ?_
    refine g_iload cd77_125 rfl rfl ?_
    obtain ⟨hg2, h⟩ := grd h
    refine G_iald cd77_127 rfl (show S (a2 + 4) = (1, 10) from O9.s3 h2) hg2 ?_
    refine g_iconst cd77_128 rfl ?_
    refine g_icmp_ne cd77_129 rfl (fun hb => ?_) (fun hb => ?_)
    · have h := ifpE hb h
      refine g_iconst cd77_132 rfl ?_
      refine g_goto (ls2 := [some (.ref a0), some (.ref a1), some (.ref a2), some (.int l3), some (.int l4), some (.int (I (a0 + 1) l3.toNatClampNeg))]) cd77_133 rfl rfl ?_
      exact g_iret cd77_137 (Or.inr ⟨rfl, Or.inr rfl⟩) (by obtain rfl := Option.some.inj h; rfl)
    · have h := ifnE hb h
      refine g_iconst cd77_136 rfl ?_
      exact g_iret cd77_137 (Or.inr ⟨rfl, Or.inl rfl⟩) (by obtain rfl := Option.some.inj h; rfl)
  have h := ifnE hb h
  refine ifi (fun hb => ?_) (fun hb => ?_)
  · have h := ifpE hb h
    show Go _ _ 138 [some (.ref a0), some (.ref a1), some (.ref a2), some (.int l3), some (.int l4), some (.int (I (a0 + 1) l3.toNatClampNeg))] [] _ _
    refine g_aload_n cd77_138 rfl rfl ?_
    refine g_getP cd77_139 rfl (O9.o h2) (show P a2 3 = some (a2 + 4) from O9.p3 h2) ?_
    refine g_iload cd77_142 rfl rfl ?_
    obtain ⟨hg3, h⟩ := grd h
    refine G_iald cd77_144 rfl (show S (a2 + 4) = (1, 10) from O9.s3 h2) hg3 ?_
    refine g_iconst cd77_145 rfl ?_
    refine g_icmp_ne cd77_146 rfl (fun hb => ?_) (fun hb => ?_)
    · have h := ifpE hb h
      refine g_iconst cd77_149 rfl ?_
      refine g_goto (ls2 := [some (.ref a0), some (.ref a1), some (.ref a2), some (.int l3), some (.int l4), some (.int (I (a0 + 1) l3.toNatClampNeg))]) cd77_150 rfl rfl ?_
      exact g_iret cd77_154 (Or.inr ⟨rfl, Or.inr rfl⟩) (by obtain rfl := Option.some.inj h; rfl)
    · have h := ifnE hb h
      refine g_iconst cd77_153 rfl ?_
      exact g_iret cd77_154 (Or.inr ⟨rfl, Or.inl rfl⟩) (by obtain rfl := Option.some.inj h; rfl)
  have h := ifnE hb h
  refine ifi (fun hb => ?_) (fun hb => ?_)
  · have h := ifpE hb h
    show Go _ _ 235 [some (.ref a0), some (.ref a1), some (.ref a2), some (.int l3), some (.int l4), some (.int (I (a0 + 1) l3.toNatClampNeg))] [] _ _
    refine g_iload cd77_235 rfl rfl ?_
    refine g_bipush cd77_237 rfl ?_
    refine g_icmp_lt cd77_239 rfl (fun hb => ?_) (fun hb => ?_)
    · have h := ifpE hb h
      refine g_iconst cd77_268 rfl ?_
      exact g_iret cd77_269 (Or.inr ⟨rfl, Or.inl rfl⟩) (by obtain rfl := Option.some.inj h; rfl)
    · have h := ifnE hb h
      refine g_iload cd77_242 rfl rfl ?_
      refine g_bipush cd77_244 rfl ?_
      refine g_icmp_gt cd77_246 rfl (fun hb => ?_) (fun hb => ?_)
      · have h := ifpE hb h
        refine g_iconst cd77_268 rfl ?_
        exact g_iret cd77_269 (Or.inr ⟨rfl, Or.inl rfl⟩) (by obtain rfl := Option.some.inj h; rfl)
      · have h := ifnE hb h
        refine g_aload_n cd77_249 rfl rfl ?_
        refine g_iload cd77_250 rfl rfl ?_
        refine g_iconst cd77_252 rfl ?_
        obtain ⟨x4, hx, h⟩ := bnd h
        refine g_callVI (L := [some (.ref a1), some (.int l4), some (.int 0)]) cd77_253 rfl rfl rfl rfl rfl (O6.o h1) (t_Land_factOf (by omega) h1 hx) ?_
        refine g_iload cd77_256 rfl rfl ?_
        refine g_bipush cd77_258 rfl ?_
        refine g_isub cd77_260 rfl ?_
        refine g_icmp_ne cd77_261 rfl (fun hb => ?_) (fun hb => ?_)
        · have h := ifpE hb h
          refine g_iconst cd77_264 rfl ?_
          refine g_goto (ls2 := [some (.ref a0), some (.ref a1), some (.ref a2), some (.int l3), some (.int l4), some (.int (I (a0 + 1) l3.toNatClampNeg))]) cd77_265 rfl rfl ?_
          exact g_iret cd77_269 (Or.inr ⟨rfl, Or.inr rfl⟩) (by obtain rfl := Option.some.inj h; rfl)
        · have h := ifnE hb h
          refine g_iconst cd77_268 rfl ?_
          exact g_iret cd77_269 (Or.inr ⟨rfl, Or.inl rfl⟩) (by obtain rfl := Option.some.inj h; rfl)
  have h := ifnE hb h
  refine ifi (fun hb => ?_) (fun hb => ?_)
  · have h := ifpE hb h
    show Go _ _ 235 [some (.ref a0), some (.ref a1), some (.ref a2), some (.int l3), some (.int l4), some (.int (I (a0 + 1) l3.toNatClampNeg))] [] _ _
    refine g_iload cd77_235 rfl rfl ?_
    refine g_bipush cd77_237 rfl ?_
    refine g_icmp_lt cd77_239 rfl (fun hb => ?_) (fun hb => ?_)
    · have h := ifpE hb h
      refine g_iconst cd77_268 rfl ?_
      exact g_iret cd77_269 (Or.inr ⟨rfl, Or.inl rfl⟩) (by obtain rfl := Option.some.inj h; rfl)
    · have h := ifnE hb h
      refine g_iload cd77_242 rfl rfl ?_
      refine g_bipush cd77_244 rfl ?_
      refine g_icmp_gt cd77_246 rfl (fun hb => ?_) (fun hb => ?_)
      · have h := ifpE hb h
        refine g_iconst cd77_268 rfl ?_
        exact g_iret cd77_269 (Or.inr ⟨rfl, Or.inl rfl⟩) (by obtain rfl := Option.some.inj h; rfl)
      · have h := ifnE hb h
        refine g_aload_n cd77_249 rfl rfl ?_
        refine g_iload cd77_250 rfl rfl ?_
        refine g_iconst cd77_252 rfl ?_
        obtain ⟨x5, hx, h⟩ := bnd h
        refine g_callVI (L := [some (.ref a1), some (.int l4), some (.int 0)]) cd77_253 rfl rfl rfl rfl rfl (O6.o h1) (t_Land_factOf (by omega) h1 hx) ?_
        refine g_iload cd77_256 rfl rfl ?_
        refine g_bipush cd77_258 rfl ?_
        refine g_isub cd77_260 rfl ?_
        refine g_icmp_ne cd77_261 rfl (fun hb => ?_) (fun hb => ?_)
        · have h := ifpE hb h
          refine g_iconst cd77_264 rfl ?_
          refine g_goto (ls2 := [some (.ref a0), some (.ref a1), some (.ref a2), some (.int l3), some (.int l4), some (.int (I (a0 + 1) l3.toNatClampNeg))]) cd77_265 rfl rfl ?_
          exact g_iret cd77_269 (Or.inr ⟨rfl, Or.inr rfl⟩) (by obtain rfl := Option.some.inj h; rfl)
        · have h := ifnE hb h
          refine g_iconst cd77_268 rfl ?_
          exact g_iret cd77_269 (Or.inr ⟨rfl, Or.inl rfl⟩) (by obtain rfl := Option.some.inj h; rfl)
  have h := ifnE hb h
  refine ifi (fun hb => ?_) (fun hb => ?_)
  · have h := ifpE hb h
    show Go _ _ 235 [some (.ref a0), some (.ref a1), some (.ref a2), some (.int l3), some (.int l4), some (.int (I (a0 + 1) l3.toNatClampNeg))] [] _ _
    refine g_iload cd77_235 rfl rfl ?_
    refine g_bipush cd77_237 rfl ?_
    refine g_icmp_lt cd77_239 rfl (fun hb => ?_) (fun hb => ?_)
    · have h := ifpE hb h
      refine g_iconst cd77_268 rfl ?_
      exact g_iret cd77_269 (Or.inr ⟨rfl, Or.inl rfl⟩) (by obtain rfl := Option.some.inj h; rfl)
    · have h := ifnE hb h
      refine g_iload cd77_242 rfl rfl ?_
      refine g_bipush cd77_244 rfl ?_
      refine g_icmp_gt cd77_246 rfl (fun hb => ?_) (fun hb => ?_)
      · have h := ifpE hb h
        refine g_iconst cd77_268 rfl ?_
        exact g_iret cd77_269 (Or.inr ⟨rfl, Or.inl rfl⟩) (by obtain rfl := Option.some.inj h; rfl)
      · have h := ifnE hb h
        refine g_aload_n cd77_249 rfl rfl ?_
        refine g_iload cd77_250 rfl rfl ?_
        refine g_iconst cd77_252 rfl ?_
        obtain ⟨x6, hx, h⟩ := bnd h
        refine g_callVI (L := [some (.ref a1), some (.int l4), some (.int 0)]) cd77_253 rfl rfl rfl rfl rfl (O6.o h1) (t_Land_factOf (by omega) h1 hx) ?_
        refine g_iload cd77_256 rfl rfl ?_
        refine g_bipush cd77_258 rfl ?_
        refine g_isub cd77_260 rfl ?_
        refine g_icmp_ne cd77_261 rfl (fun hb => ?_) (fun hb => ?_)
        · have h := ifpE hb h
          refine g_iconst cd77_264 rfl ?_
          refine g_goto (ls2 := [some (.ref a0), some (.ref a1), some (.ref a2), some (.int l3), some (.int l4), some (.int (I (a0 + 1) l3.toNatClampNeg))]) cd77_265 rfl rfl ?_
          exact g_iret cd77_269 (Or.inr ⟨rfl, Or.inr rfl⟩) (by obtain rfl := Option.some.inj h; rfl)
        · have h := ifnE hb h
          refine g_iconst cd77_268 rfl ?_
          exact g_iret cd77_269 (Or.inr ⟨rfl, Or.inl rfl⟩) (by obtain rfl := Option.some.inj h; rfl)
  have h := ifnE hb h
  refine ifi (fun hb => ?_) (fun hb => ?_)
  · have h := ifpE hb h
    show Go _ _ 235 [some (.ref a0), some (.ref a1), some (.ref a2), some (.int l3), some (.int l4), some (.int (I (a0 + 1) l3.toNatClampNeg))] [] _ _
    refine g_iload cd77_235 rfl rfl ?_
    refine g_bipush cd77_237 rfl ?_
    refine g_icmp_lt cd77_239 rfl (fun hb => ?_) (fun hb => ?_)
    · have h := ifpE hb h
      refine g_iconst cd77_268 rfl ?_
      exact g_iret cd77_269 (Or.inr ⟨rfl, Or.inl rfl⟩) (by obtain rfl := Option.some.inj h; rfl)
    · have h := ifnE hb h
      refine g_iload cd77_242 rfl rfl ?_
      refine g_bipush cd77_244 rfl ?_
      refine g_icmp_gt cd77_246 rfl (fun hb => ?_) (fun hb => ?_)
      · have h := ifpE hb h
        refine g_iconst cd77_268 rfl ?_
        exact g_iret cd77_269 (Or.inr ⟨rfl, Or.inl rfl⟩) (by obtain rfl := Option.some.inj h; rfl)
      · have h := ifnE hb h
        refine g_aload_n cd77_249 rfl rfl ?_
        refine g_iload cd77_250 rfl rfl ?_
        refine g_iconst cd77_252 rfl ?_
        obtain ⟨x7, hx, h⟩ := bnd h
        refine g_callVI (L := [some (.ref a1), some (.int l4), some (.int 0)]) cd77_253 rfl rfl rfl rfl rfl (O6.o h1) (t_Land_factOf (by omega) h1 hx) ?_
        refine g_iload cd77_256 rfl rfl ?_
        refine g_bipush cd77_258 rfl ?_
        refine g_isub cd77_260 rfl ?_
        refine g_icmp_ne cd77_261 rfl (fun hb => ?_) (fun hb => ?_)
        · have h := ifpE hb h
          refine g_iconst cd77_264 rfl ?_
          refine g_goto (ls2 := [some (.ref a0), some (.ref a1), some (.ref a2), some (.int l3), some (.int l4), some (.int (I (a0 + 1) l3.toNatClampNeg))]) cd77_265 rfl rfl ?_
          exact g_iret cd77_269 (Or.inr ⟨rfl, Or.inr rfl⟩) (by obtain rfl := Option.some.inj h; rfl)
        · have h := ifnE hb h
          refine g_iconst cd77_268 rfl ?_
          exact g_iret cd77_269 (Or.inr ⟨rfl, Or.inl rfl⟩) (by obtain rfl := Option.some.inj h; rfl)
  have h := ifnE hb h
  refine ifi (fun hb => ?_) (fun hb => ?_)
  · have h := ifpE hb h
    show Go _ _ 235 [some (.ref a0), some (.ref a1), some (.ref a2), some (.int l3), some (.int l4), some (.int (I (a0 + 1) l3.toNatClampNeg))] [] _ _
    refine g_iload cd77_235 rfl rfl ?_
    refine g_bipush cd77_237 rfl ?_
    refine g_icmp_lt cd77_239 rfl (fun hb => ?_) (fun hb => ?_)
    · have h := ifpE hb h
      refine g_iconst cd77_268 rfl ?_
      exact g_iret cd77_269 (Or.inr ⟨rfl, Or.inl rfl⟩) (by obtain rfl := Option.some.inj h; rfl)
    · have h := ifnE hb h
      refine g_iload cd77_242 rfl rfl ?_
      refine g_bipush cd77_244 rfl ?_
      refine g_icmp_gt cd77_246 rfl (fun hb => ?_) (fun hb => ?_)
      · have h := ifpE hb h
        refine g_iconst cd77_268 rfl ?_
        exact g_iret cd77_269 (Or.inr ⟨rfl, Or.inl rfl⟩) (by obtain rfl := Option.some.inj h; rfl)
      · have h := ifnE hb h
        refine g_aload_n cd77_249 rfl rfl ?_
        refine g_iload cd77_250 rfl rfl ?_
        refine g_iconst cd77_252 rfl ?_
        obtain ⟨x8, hx, h⟩ := bnd h
        refine g_callVI (L := [some (.ref a1), some (.int l4), some (.int 0)]) cd77_253 rfl rfl rfl rfl rfl (O6.o h1) (t_Land_factOf (by omega) h1 hx) ?_
        refine g_iload cd77_256 rfl rfl ?_
        refine g_bipush cd77_258 rfl ?_
        refine g_isub cd77_260 rfl ?_
        refine g_icmp_ne cd77_261 rfl (fun hb => ?_) (fun hb => ?_)
        · have h := ifpE hb h
          refine g_iconst cd77_264 rfl ?_
          refine g_goto (ls2 := [some (.ref a0), some (.ref a1), some (.ref a2), some (.int l3), some (.int l4), some (.int (I (a0 + 1) l3.toNatClampNeg))]) cd77_265 rfl rfl ?_
          exact g_iret cd77_269 (Or.inr ⟨rfl, Or.inr rfl⟩) (by obtain rfl := Option.some.inj h; rfl)
        · have h := ifnE hb h
          refine g_iconst cd77_268 rfl ?_
          exact g_iret cd77_269 (Or.inr ⟨rfl, Or.inl rfl⟩) (by obtain rfl := Option.some.inj h; rfl)
  have h := ifnE hb h
  refine ifi (fun hb => ?_) (fun hb => ?_)
  · have h := ifpE hb h
    show Go _ _ 235 [some (.ref a0), some (.ref a1), some (.ref a2), some (.int l3), some (.int l4), some (.int (I (a0 + 1) l3.toNatClampNeg))] [] _ _
    refine g_iload cd77_235 rfl rfl ?_
    refine g_bipush cd77_237 rfl ?_
    refine g_icmp_lt cd77_239 rfl (fun hb => ?_) (fun hb => ?_)
    · have h := ifpE hb h
      refine g_iconst cd77_268 rfl ?_
      exact g_iret cd77_269 (Or.inr ⟨rfl, Or.inl rfl⟩) (by obtain rfl := Option.some.inj h; rfl)
    · have h := ifnE hb h
      refine g_iload cd77_242 rfl rfl ?_
      refine g_bipush cd77_244 rfl ?_
      refine g_icmp_gt cd77_246 rfl (fun hb => ?_) (fun hb => ?_)
      · have h := ifpE hb h
        refine g_iconst cd77_268 rfl ?_
        exact g_iret cd77_269 (Or.inr ⟨rfl, Or.inl rfl⟩) (by obtain rfl := Option.some.inj h; rfl)
      · have h := ifnE hb h
        refine g_aload_n cd77_249 rfl rfl ?_
        refine g_iload cd77_250 rfl rfl ?_
        refine g_iconst cd77_252 rfl ?_
        obtain ⟨x9, hx, h⟩ := bnd h
        refine g_callVI (L := [some (.ref a1), some (.int l4), some (.int 0)]) cd77_253 rfl rfl rfl rfl rfl (O6.o h1) (t_Land_factOf (by omega) h1 hx) ?_
        refine g_iload cd77_256 rfl rfl ?_
        refine g_bipush cd77_258 rfl ?_
        refine g_isub cd77_260 rfl ?_
        refine g_icmp_ne cd77_261 rfl (fun hb => ?_) (fun hb => ?_)
        · have h := ifpE hb h
          refine g_iconst cd77_264 rfl ?_
          refine g_goto (ls2 := [some (.ref a0), some (.ref a1), some (.ref a2), some (.int l3), some (.int l4), some (.int (I (a0 + 1) l3.toNatClampNeg))]) cd77_265 rfl rfl ?_
          exact g_iret cd77_269 (Or.inr ⟨rfl, Or.inr rfl⟩) (by obtain rfl := Option.some.inj h; rfl)
        · have h := ifnE hb h
          refine g_iconst cd77_268 rfl ?_
          exact g_iret cd77_269 (Or.inr ⟨rfl, Or.inl rfl⟩) (by obtain rfl := Option.some.inj h; rfl)
  have h := ifnE hb h
  refine ifi (fun hb => ?_) (fun hb => ?_)
  · have h := ifpE hb h
    show Go _ _ 235 [some (.ref a0), some (.ref a1), some (.ref a2), some (.int l3), some (.int l4), some (.int (I (a0 + 1) l3.toNatClampNeg))] [] _ _
    refine g_iload cd77_235 rfl rfl ?_
    refine g_bipush cd77_237 rfl ?_
    refine g_icmp_lt cd77_239 rfl (fun hb => ?_) (fun hb => ?_)
    · have h := ifpE hb h
      refine g_iconst cd77_268 rfl ?_
      exact g_iret cd77_269 (Or.inr ⟨rfl, Or.inl rfl⟩) (by obtain rfl := Option.some.inj h; rfl)
    · have h := ifnE hb h
      refine g_iload cd77_242 rfl rfl ?_
      refine g_bipush cd77_244 rfl ?_
      refine g_icmp_gt cd77_246 rfl (fun hb => ?_) (fun hb => ?_)
      · have h := ifpE hb h
        refine g_iconst cd77_268 rfl ?_
        exact g_iret cd77_269 (Or.inr ⟨rfl, Or.inl rfl⟩) (by obtain rfl := Option.some.inj h; rfl)
      · have h := ifnE hb h
        refine g_aload_n cd77_249 rfl rfl ?_
        refine g_iload cd77_250 rfl rfl ?_
        refine g_iconst cd77_252 rfl ?_
        obtain ⟨x10, hx, h⟩ := bnd h
        refine g_callVI (L := [some (.ref a1), some (.int l4), some (.int 0)]) cd77_253 rfl rfl rfl rfl rfl (O6.o h1) (t_Land_factOf (by omega) h1 hx) ?_
        refine g_iload cd77_256 rfl rfl ?_
        refine g_bipush cd77_258 rfl ?_
        refine g_isub cd77_260 rfl ?_
        refine g_icmp_ne cd77_261 rfl (fun hb => ?_) (fun hb => ?_)
        · have h := ifpE hb h
          refine g_iconst cd77_264 rfl ?_
          refine g_goto (ls2 := [some (.ref a0), some (.ref a1), some (.ref a2), some (.int l3), some (.int l4), some (.int (I (a0 + 1) l3.toNatClampNeg))]) cd77_265 rfl rfl ?_
          exact g_iret cd77_269 (Or.inr ⟨rfl, Or.inr rfl⟩) (by obtain rfl := Option.some.inj h; rfl)
        · have h := ifnE hb h
          refine g_iconst cd77_268 rfl ?_
          exact g_iret cd77_269 (Or.inr ⟨rfl, Or.inl rfl⟩) (by obtain rfl := Option.some.inj h; rfl)
  have h := ifnE hb h
  refine ifi (fun hb => ?_) (fun hb => ?_)
  · have h := ifpE hb h
    show Go _ _ 88 [some (.ref a0), some (.ref a1), some (.ref a2), some (.int l3), some (.int l4), some (.int (I (a0 + 1) l3.toNatClampNeg))] [] _ _
    refine g_aload_n cd77_88 rfl rfl ?_
    refine g_getP cd77_89 rfl (O9.o h2) (show P a2 3 = some (a2 + 4) from O9.p3 h2) ?_
    refine g_iload cd77_92 rfl rfl ?_
    obtain ⟨hg11, h⟩ := grd h
    refine G_iald cd77_94 rfl (show S (a2 + 4) = (1, 10) from O9.s3 h2) hg11 ?_
    refine g_if_ne cd77_95 rfl (fun hb => ?_) (fun hb => ?_)
    · have h := ifpE hb h
      refine g_iconst cd77_98 rfl ?_
      refine g_goto (ls2 := [some (.ref a0), some (.ref a1), some (.ref a2), some (.int l3), some (.int l4), some (.int (I (a0 + 1) l3.toNatClampNeg))]) cd77_99 rfl rfl ?_
      exact g_iret cd77_103 (Or.inr ⟨rfl, Or.inr rfl⟩) (by obtain rfl := Option.some.inj h; rfl)
    · have h := ifnE hb h
      refine g_iconst cd77_102 rfl ?_
      exact g_iret cd77_103 (Or.inr ⟨rfl, Or.inl rfl⟩) (by obtain rfl := Option.some.inj h; rfl)
  have h := ifnE hb h
  refine ifi (fun hb => ?_) (fun hb => ?_)
  · have h := ifpE hb h
    show Go _ _ 104 [some (.ref a0), some (.ref a1), some (.ref a2), some (.int l3), some (.int l4), some (.int (I (a0 + 1) l3.toNatClampNeg))] [] _ _
    refine g_aload_n cd77_104 rfl rfl ?_
    refine g_getP cd77_105 rfl (O9.o h2) (show P a2 3 = some (a2 + 4) from O9.p3 h2) ?_
    refine g_iload cd77_108 rfl rfl ?_
    obtain ⟨hg12, h⟩ := grd h
    refine G_iald cd77_110 rfl (show S (a2 + 4) = (1, 10) from O9.s3 h2) hg12 ?_
    refine g_iconst cd77_111 rfl ?_
    refine g_icmp_ne cd77_112 rfl (fun hb => ?_) (fun hb => ?_)
    · have h := ifpE hb h
      refine g_iconst cd77_115 rfl ?_
      refine g_goto (ls2 := [some (.ref a0), some (.ref a1), some (.ref a2), some (.int l3), some (.int l4), some (.int (I (a0 + 1) l3.toNatClampNeg))]) cd77_116 rfl rfl ?_
      exact g_iret cd77_120 (Or.inr ⟨rfl, Or.inr rfl⟩) (by obtain rfl := Option.some.inj h; rfl)
    · have h := ifnE hb h
      refine g_iconst cd77_119 rfl ?_
      exact g_iret cd77_120 (Or.inr ⟨rfl, Or.inl rfl⟩) (by obtain rfl := Option.some.inj h; rfl)
  have h := ifnE hb h
  refine ifi (fun hb => ?_) (fun hb => ?_)
  · have h := ifpE hb h
    show Go _ _ 155 [some (.ref a0), some (.ref a1), some (.ref a2), some (.int l3), some (.int l4), some (.int (I (a0 + 1) l3.toNatClampNeg))] [] _ _
    refine g_aload_n cd77_155 rfl rfl ?_
    refine g_getP cd77_156 rfl (O9.o h2) (show P a2 3 = some (a2 + 4) from O9.p3 h2) ?_
    refine g_iload cd77_159 rfl rfl ?_
    obtain ⟨hg13, h⟩ := grd h
    refine G_iald cd77_161 rfl (show S (a2 + 4) = (1, 10) from O9.s3 h2) hg13 ?_
    refine g_iconst cd77_162 rfl ?_
    refine g_icmp_ne cd77_163 rfl (fun hb => ?_) (fun hb => ?_)
    · have h := ifpE hb h
      refine g_aload_n cd77_166 rfl rfl ?_
      refine g_getP cd77_167 rfl (O9.o h2) (show P a2 4 = some (a2 + 5) from O9.p4 h2) ?_
      refine g_iload cd77_170 rfl rfl ?_
      refine G_iald cd77_172 rfl (show S (a2 + 5) = (1, 10) from O9.s4 h2) hg13 ?_
      refine g_aload_n cd77_173 rfl rfl ?_
      refine g_getP cd77_174 rfl (O8.o h0) (show P a0 1 = some (a0 + 2) from O8.p1 h0) ?_
      refine g_iload_n cd77_177 rfl rfl ?_
      refine G_iald cd77_178 rfl (show S (a0 + 2) = (1, 40) from O8.s1 h0) hg1 ?_
      refine g_icmp_ne cd77_179 rfl (fun hb => ?_) (fun hb => ?_)
      · have h := ifpE hb h
        refine g_iconst cd77_182 rfl ?_
        refine g_goto (ls2 := [some (.ref a0), some (.ref a1), some (.ref a2), some (.int l3), some (.int l4), some (.int (I (a0 + 1) l3.toNatClampNeg))]) cd77_183 rfl rfl ?_
        exact g_iret cd77_187 (Or.inr ⟨rfl, Or.inr rfl⟩) (by obtain rfl := Option.some.inj h; rfl)
      · have h := ifnE hb h
        refine g_iconst cd77_186 rfl ?_
        exact g_iret cd77_187 (Or.inr ⟨rfl, Or.inl rfl⟩) (by obtain rfl := Option.some.inj h; rfl)
    · have h := ifnE hb h
      refine g_iconst cd77_186 rfl ?_
      exact g_iret cd77_187 (Or.inr ⟨rfl, Or.inl rfl⟩) (by obtain rfl := Option.some.inj h; rfl)
  have h := ifnE hb h
  refine ifi (fun hb => ?_) (fun hb => ?_)
  · have h := ifpE hb h
    show Go _ _ 188 [some (.ref a0), some (.ref a1), some (.ref a2), some (.int l3), some (.int l4), some (.int (I (a0 + 1) l3.toNatClampNeg))] [] _ _
    refine g_aload_n cd77_188 rfl rfl ?_
    refine g_aload_n cd77_189 rfl rfl ?_
    refine g_iload cd77_190 rfl rfl ?_
    refine g_iconst cd77_192 rfl ?_
    obtain ⟨x14, hx, h⟩ := bnd h
    refine g_callVI (L := [some (.ref a1), some (.int l4), some (.int 4)]) cd77_193 rfl rfl rfl rfl rfl (O6.o h1) (t_Land_factOf (by omega) h1 hx) ?_
    refine g_iload_n cd77_196 rfl rfl ?_
    obtain ⟨x15, hx, h⟩ := bnd h
    refine g_callVZ (L := [some (.ref a0), some (.int x14), some (.int l3)]) cd77_197 rfl rfl rfl rfl rfl (O8.o h0) (t_Sentence_compares (by omega) h0 hx) ?_
    exact g_iret cd77_200 (Or.inr ⟨rfl, b2i_or _⟩) (by obtain rfl := Option.some.inj h; rfl)
  have h := ifnE hb h
  refine ifi (fun hb => ?_) (fun hb => ?_)
  · have h := ifpE hb h
    show Go _ _ 201 [some (.ref a0), some (.ref a1), some (.ref a2), some (.int l3), some (.int l4), some (.int (I (a0 + 1) l3.toNatClampNeg))] [] _ _
    refine g_aload_n cd77_201 rfl rfl ?_
    refine g_aload_n cd77_202 rfl rfl ?_
    refine g_iload cd77_203 rfl rfl ?_
    refine g_iconst cd77_205 rfl ?_
    obtain ⟨x16, hx, h⟩ := bnd h
    refine g_callVI (L := [some (.ref a1), some (.int l4), some (.int 5)]) cd77_206 rfl rfl rfl rfl rfl (O6.o h1) (t_Land_factOf (by omega) h1 hx) ?_
    refine g_iload_n cd77_209 rfl rfl ?_
    obtain ⟨x17, hx, h⟩ := bnd h
    refine g_callVZ (L := [some (.ref a0), some (.int x16), some (.int l3)]) cd77_210 rfl rfl rfl rfl rfl (O8.o h0) (t_Sentence_compares (by omega) h0 hx) ?_
    exact g_iret cd77_213 (Or.inr ⟨rfl, b2i_or _⟩) (by obtain rfl := Option.some.inj h; rfl)
  have h := ifnE hb h
  refine ifi (fun hb => ?_) (fun hb => ?_)
  · have h := ifpE hb h
    show Go _ _ 214 [some (.ref a0), some (.ref a1), some (.ref a2), some (.int l3), some (.int l4), some (.int (I (a0 + 1) l3.toNatClampNeg))] [] _ _
    refine g_aload_n cd77_214 rfl rfl ?_
    refine g_aload_n cd77_215 rfl rfl ?_
    refine g_getP cd77_216 rfl (O9.o h2) (show P a2 2 = some (a2 + 3) from O9.p2 h2) ?_
    refine g_iload cd77_219 rfl rfl ?_
    obtain ⟨hg18, h⟩ := grd h
    refine G_iald cd77_221 rfl (show S (a2 + 3) = (1, 10) from O9.s2 h2) hg18 ?_
    refine g_iload_n cd77_222 rfl rfl ?_
    obtain ⟨x19, hx, h⟩ := bnd h
    refine g_callVZ (L := [some (.ref a0), some (.int (I (a2 + 3) l4.toNatClampNeg)), some (.int l3)]) cd77_223 rfl rfl rfl rfl rfl (O8.o h0) (t_Sentence_compares (by omega) h0 hx) ?_
    exact g_iret cd77_226 (Or.inr ⟨rfl, b2i_or _⟩) (by obtain rfl := Option.some.inj h; rfl)
  have h := ifnE hb h
  refine ifi (fun hb => ?_) (fun hb => ?_)
  · have h := ifpE hb h
    show Go _ _ 227 [some (.ref a0), some (.ref a1), some (.ref a2), some (.int l3), some (.int l4), some (.int (I (a0 + 1) l3.toNatClampNeg))] [] _ _
    refine g_aload_n cd77_227 rfl rfl ?_
    refine g_iload cd77_228 rfl rfl ?_
    refine g_iload_n cd77_230 rfl rfl ?_
    obtain ⟨x20, hx, h⟩ := bnd h
    refine g_callVZ (L := [some (.ref a0), some (.int l4), some (.int l3)]) cd77_231 rfl rfl rfl rfl rfl (O8.o h0) (t_Sentence_compares (by omega) h0 hx) ?_
    exact g_iret cd77_234 (Or.inr ⟨rfl, b2i_or _⟩) (by obtain rfl := Option.some.inj h; rfl)
  have h := ifnE hb h
  show Go _ _ 235 [some (.ref a0), some (.ref a1), some (.ref a2), some (.int l3), some (.int l4), some (.int (I (a0 + 1) l3.toNatClampNeg))] [] _ _
  refine g_iload cd77_235 rfl rfl ?_
  refine g_bipush cd77_237 rfl ?_
  refine g_icmp_lt cd77_239 rfl (fun hb => ?_) (fun hb => ?_)
  · have h := ifpE hb h
    refine g_iconst cd77_268 rfl ?_
    exact g_iret cd77_269 (Or.inr ⟨rfl, Or.inl rfl⟩) (by obtain rfl := Option.some.inj h; rfl)
  · have h := ifnE hb h
    refine g_iload cd77_242 rfl rfl ?_
    refine g_bipush cd77_244 rfl ?_
    refine g_icmp_gt cd77_246 rfl (fun hb => ?_) (fun hb => ?_)
    · have h := ifpE hb h
      refine g_iconst cd77_268 rfl ?_
      exact g_iret cd77_269 (Or.inr ⟨rfl, Or.inl rfl⟩) (by obtain rfl := Option.some.inj h; rfl)
    · have h := ifnE hb h
      refine g_aload_n cd77_249 rfl rfl ?_
      refine g_iload cd77_250 rfl rfl ?_
      refine g_iconst cd77_252 rfl ?_
      obtain ⟨x21, hx, h⟩ := bnd h
      refine g_callVI (L := [some (.ref a1), some (.int l4), some (.int 0)]) cd77_253 rfl rfl rfl rfl rfl (O6.o h1) (t_Land_factOf (by omega) h1 hx) ?_
      refine g_iload cd77_256 rfl rfl ?_
      refine g_bipush cd77_258 rfl ?_
      refine g_isub cd77_260 rfl ?_
      refine g_icmp_ne cd77_261 rfl (fun hb => ?_) (fun hb => ?_)
      · have h := ifpE hb h
        refine g_iconst cd77_264 rfl ?_
        refine g_goto (ls2 := [some (.ref a0), some (.ref a1), some (.ref a2), some (.int l3), some (.int l4), some (.int (I (a0 + 1) l3.toNatClampNeg))]) cd77_265 rfl rfl ?_
        exact g_iret cd77_269 (Or.inr ⟨rfl, Or.inr rfl⟩) (by obtain rfl := Option.some.inj h; rfl)
      · have h := ifnE hb h
        refine g_iconst cd77_268 rfl ?_
        exact g_iret cd77_269 (Or.inr ⟨rfl, Or.inl rfl⟩) (by obtain rfl := Option.some.inj h; rfl)
/-! HiddenOrLost$Sentence.bitsOfStep(LHiddenOrLost$Land;LHiddenOrLost$State;I)I -/
theorem cd76_0 : code9 76 0 = some (0, .iconst 0, [1], .int 0, []) := rfl
theorem cd76_1 : code9 76 1 = some (0, .istore 4, [2], .null, []) := rfl
theorem cd76_3 : code9 76 3 = some (0, .iconst 0, [1], .int 0, []) := rfl
theorem cd76_4 : code9 76 4 = some (0, .istore 5, [2], .null, []) := rfl
theorem cd76_6 : code9 76 6 = some (7, .iload 5, [2], .null, []) := rfl
theorem cd76_8 : code9 76 8 = some (0, .aload_n 1, [1], .null, []) := rfl
theorem cd76_9 : code9 76 9 = some (0, .getfield 118, [3, 6, 12, 0], .null, []) := rfl
theorem cd76_12 : code9 76 12 = some (0, .if_icmp .ge 30, [3, 42], .null, []) := rfl
theorem cd76_15 : code9 76 15 = some (0, .aload_n 0, [1], .null, []) := rfl
theorem cd76_16 : code9 76 16 = some (0, .aload_n 1, [1], .null, []) := rfl
theorem cd76_17 : code9 76 17 = some (0, .aload_n 2, [1], .null, []) := rfl
theorem cd76_18 : code9 76 18 = some (0, .iload_n 3, [1], .null, []) := rfl
theorem cd76_19 : code9 76 19 = some (0, .iload 5, [2], .null, []) := rfl
theorem cd76_21 : code9 76 21 = some (0, .invokevirtual 125, [3, 77, 5, 1, 3, 6, 8, 0], .null, []) := rfl
theorem cd76_24 : code9 76 24 = some (0, .ifCond .eq 12, [3, 36], .null, []) := rfl
theorem cd76_27 : code9 76 27 = some (0, .iload 4, [2], .null, []) := rfl
theorem cd76_29 : code9 76 29 = some (0, .iconst 1, [1], .int 1, []) := rfl
theorem cd76_30 : code9 76 30 = some (0, .iload 5, [2], .null, []) := rfl
theorem cd76_32 : code9 76 32 = some (0, .ishl, [1], .null, []) := rfl
theorem cd76_33 : code9 76 33 = some (0, .ior, [1], .null, []) := rfl
theorem cd76_34 : code9 76 34 = some (0, .istore 4, [2], .null, []) := rfl
theorem cd76_36 : code9 76 36 = some (7, .iinc 5 1, [3], .int 1, []) := rfl
theorem cd76_39 : code9 76 39 = some (0, .goto (-33), [3, 6, 6], .null, []) := rfl
theorem cd76_42 : code9 76 42 = some (0, .iload 4, [2], .null, []) := rfl
theorem cd76_44 : code9 76 44 = some (0, .ireturn, [1, 1], .null, []) := rfl
def Sentence_bitsOfStep_6 (N : Nat) (a0 a1 a2 : Nat) : Nat → Int32 → Int32 → Int32 → FI → Option (Int32)
  | 0 => fun _ _ _ _ => none
  | n + 1 => fun l3 l4 l5 I => if (I a1 12) ≤ l5 then (some l4) else (Option.bind (Sentence_holds a0 a1 a2 l3 l5 I) fun x1 => (if x1 then (Sentence_bitsOfStep_6 N a0 a1 a2 n l3 (l4 ||| (1 <<< (l5 &&& 31))) (l5 + 1) I) else (Sentence_bitsOfStep_6 N a0 a1 a2 n l3 l4 (l5 + 1) I)))
def Sentence_bitsOfStep (N : Nat) (a0 a1 a2 : Nat) (l3 : Int32) (I : FI) : Option (Int32) := Sentence_bitsOfStep_6 N a0 a1 a2 N l3 0 0 I
set_option maxRecDepth 8000 in
theorem t_Sentence_bitsOfStep_6 {d : Nat} {N : Nat} {a0 a1 a2 : Nat} {c : Nat × Nat} {S : Nat → Nat × Nat} {P : Nat → Nat → Option Nat} {r : Int32} (hd : 2 ≤ (d + 1)) (h0 : O8 S P a0) (h1 : O6 S P a1) (h2 : O9 S P a2) : ∀ (n : Nat) (l3 : Int32) (l4 : Int32) (l5 : Int32) (I : FI) (J : FJ), Sentence_bitsOfStep_6 N a0 a1 a2 n l3 l4 l5 I = some r → Go (d + 1) M_Sentence_bitsOfStep 6 [some (.ref a0), some (.ref a1), some (.ref a2), some (.int l3), some (.int l4), some (.int l5)] [] (c, S, I, J, P) (some (.int r), false, (c, S, I, J, P)) := by
  intro n
  induction n with
  | zero =>
    intro l3 l4 l5 I J h
    cases h
  | succ n ih =>
    intro l3 l4 l5 I J h
    unfold Sentence_bitsOfStep_6 at h
    refine g_iload cd76_6 rfl rfl ?_
    refine g_aload_n cd76_8 rfl rfl ?_
    refine g_getI cd76_9 rfl (O6.o h1) ?_
    refine g_icmp_ge cd76_12 rfl (fun hb => ?_) (fun hb => ?_)
    · have h := ifpE hb h
      refine g_iload cd76_42 rfl rfl ?_
      exact g_iret cd76_44 (Or.inl rfl) (by obtain rfl := Option.some.inj h; rfl)
    · have h := ifnE hb h
      refine g_aload_n cd76_15 rfl rfl ?_
      refine g_aload_n cd76_16 rfl rfl ?_
      refine g_aload_n cd76_17 rfl rfl ?_
      refine g_iload_n cd76_18 rfl rfl ?_
      refine g_iload cd76_19 rfl rfl ?_
      obtain ⟨x1, hx, h⟩ := bnd h
      refine g_callVZ (L := [some (.ref a0), some (.ref a1), some (.ref a2), some (.int l3), some (.int l5), none]) cd76_21 rfl rfl rfl rfl rfl (O8.o h0) (t_Sentence_holds (by omega) h0 h1 h2 hx) ?_
      refine g_if_eq cd76_24 rfl (fun hb => ?_) (fun hb => ?_)
      · have h := ifnE (b2i_f hb) h
        refine g_iinc (ls2 := [some (.ref a0), some (.ref a1), some (.ref a2), some (.int l3), some (.int l4), some (.int (l5 + 1))]) cd76_36 rfl rfl rfl ?_
        refine g_goto (ls2 := [some (.ref a0), some (.ref a1), some (.ref a2), some (.int l3), some (.int l4), some (.int (l5 + 1))]) cd76_39 rfl rfl ?_
        exact ih l3 l4 (l5 + 1) I J h
      · have h := ifpE (b2i_t hb) h
        refine g_iload cd76_27 rfl rfl ?_
        refine g_iconst cd76_29 rfl ?_
        refine g_iload cd76_30 rfl rfl ?_
        refine g_ishl cd76_32 rfl ?_
        refine g_ior cd76_33 rfl ?_
        refine g_istore (ls2 := [some (.ref a0), some (.ref a1), some (.ref a2), some (.int l3), some (.int (l4 ||| (1 <<< (l5 &&& 31)))), some (.int l5)]) cd76_34 rfl rfl ?_
        refine g_iinc (ls2 := [some (.ref a0), some (.ref a1), some (.ref a2), some (.int l3), some (.int (l4 ||| (1 <<< (l5 &&& 31)))), some (.int (l5 + 1))]) cd76_36 rfl rfl rfl ?_
        refine g_goto (ls2 := [some (.ref a0), some (.ref a1), some (.ref a2), some (.int l3), some (.int (l4 ||| (1 <<< (l5 &&& 31)))), some (.int (l5 + 1))]) cd76_39 rfl rfl ?_
        exact ih l3 (l4 ||| (1 <<< (l5 &&& 31))) (l5 + 1) I J h
set_option maxRecDepth 8000 in
theorem t_Sentence_bitsOfStep {d : Nat} {N : Nat} {a0 a1 a2 : Nat} {c : Nat × Nat} {S : Nat → Nat × Nat} {P : Nat → Nat → Option Nat} {I : FI} {J : FJ} {l3 : Int32} {r : Int32} (hd : 2 ≤ d) (h0 : O8 S P a0) (h1 : O6 S P a1) (h2 : O9 S P a2) (h : Sentence_bitsOfStep N a0 a1 a2 l3 I = some r) : Go d M_Sentence_bitsOfStep 0 [some (.ref a0), some (.ref a1), some (.ref a2), some (.int l3), none, none] [] (c, S, I, J, P) (some (.int r), false, (c, S, I, J, P)) := by
  obtain ⟨d, rfl⟩ : ∃ e, d = e + 1 := ⟨d - 1, by omega⟩
  unfold Sentence_bitsOfStep at h
  refine g_iconst cd76_0 rfl ?_
  refine g_istore (ls2 := [some (.ref a0), some (.ref a1), some (.ref a2), some (.int l3), some (.int 0), none]) cd76_1 rfl rfl ?_
  refine g_iconst cd76_3 rfl ?_
  refine g_istore (ls2 := [some (.ref a0), some (.ref a1), some (.ref a2), some (.int l3), some (.int 0), some (.int 0)]) cd76_4 rfl rfl ?_
  exact t_Sentence_bitsOfStep_6 hd h0 h1 h2 _ l3 0 0 I J h
/-! HiddenOrLost$Sentence.bitsOf(LHiddenOrLost$Land;LHiddenOrLost$State;)I -/
theorem cd75_0 : code9 75 0 = some (0, .iconst 1, [1], .int 1, []) := rfl
theorem cd75_1 : code9 75 1 = some (0, .aload_n 1, [1], .null, []) := rfl
theorem cd75_2 : code9 75 2 = some (0, .getfield 118, [3, 6, 12, 0], .null, []) := rfl
theorem cd75_5 : code9 75 5 = some (0, .ishl, [1], .null, []) := rfl
theorem cd75_6 : code9 75 6 = some (0, .iconst 1, [1], .int 1, []) := rfl
theorem cd75_7 : code9 75 7 = some (0, .isub, [1], .null, []) := rfl
theorem cd75_8 : code9 75 8 = some (0, .istore_n 3, [1], .null, []) := rfl
theorem cd75_9 : code9 75 9 = some (0, .iconst 0, [1], .int 0, []) := rfl
theorem cd75_10 : code9 75 10 = some (0, .istore 4, [2], .null, []) := rfl
theorem cd75_12 : code9 75 12 = some (0, .iconst 0, [1], .int 0, []) := rfl
theorem cd75_13 : code9 75 13 = some (0, .istore 5, [2], .null, []) := rfl
theorem cd75_15 : code9 75 15 = some (7, .iload 5, [2], .null, []) := rfl
theorem cd75_17 : code9 75 17 = some (0, .aload_n 0, [1], .null, []) := rfl
theorem cd75_18 : code9 75 18 = some (0, .getfield 24, [3, 8, 4, 0], .null, []) := rfl
theorem cd75_21 : code9 75 21 = some (0, .if_icmp .ge 166, [3, 187], .null, []) := rfl
theorem cd75_24 : code9 75 24 = some (0, .iload 5, [2], .null, []) := rfl
theorem cd75_26 : code9 75 26 = some (0, .bipush 40, [2], .int 40, []) := rfl
theorem cd75_28 : code9 75 28 = some (0, .if_icmp .ge 159, [3, 187], .null, []) := rfl
theorem cd75_31 : code9 75 31 = some (0, .aload_n 0, [1], .null, []) := rfl
theorem cd75_32 : code9 75 32 = some (0, .getfield 11, [3, 8, 0, 2], .null, []) := rfl
theorem cd75_35 : code9 75 35 = some (0, .iload 5, [2], .null, []) := rfl
theorem cd75_37 : code9 75 37 = some (0, .iaload, [1], .null, []) := rfl
theorem cd75_38 : code9 75 38 = some (0, .istore 6, [2], .null, []) := rfl
theorem cd75_40 : code9 75 40 = some (0, .iload 6, [2], .null, []) := rfl
theorem cd75_42 : code9 75 42 = some (0, .bipush 27, [2], .int 27, []) := rfl
theorem cd75_44 : code9 75 44 = some (0, .if_icmp .ne 33, [3, 77], .null, []) := rfl
theorem cd75_47 : code9 75 47 = some (0, .iload 4, [2], .null, []) := rfl
theorem cd75_49 : code9 75 49 = some (0, .ifCond .le 28, [3, 77], .null, []) := rfl
theorem cd75_52 : code9 75 52 = some (0, .aload_n 0, [1], .null, []) := rfl
theorem cd75_53 : code9 75 53 = some (0, .getfield 21, [3, 8, 3, 2], .null, []) := rfl
theorem cd75_56 : code9 75 56 = some (0, .iload 4, [2], .null, []) := rfl
theorem cd75_58 : code9 75 58 = some (0, .iconst 1, [1], .int 1, []) := rfl
theorem cd75_59 : code9 75 59 = some (0, .isub, [1], .null, []) := rfl
theorem cd75_60 : code9 75 60 = some (0, .iload_n 3, [1], .null, []) := rfl
theorem cd75_61 : code9 75 61 = some (0, .aload_n 0, [1], .null, []) := rfl
theorem cd75_62 : code9 75 62 = some (0, .getfield 21, [3, 8, 3, 2], .null, []) := rfl
theorem cd75_65 : code9 75 65 = some (0, .iload 4, [2], .null, []) := rfl
theorem cd75_67 : code9 75 67 = some (0, .iconst 1, [1], .int 1, []) := rfl
theorem cd75_68 : code9 75 68 = some (0, .isub, [1], .null, []) := rfl
theorem cd75_69 : code9 75 69 = some (0, .iaload, [1], .null, []) := rfl
theorem cd75_70 : code9 75 70 = some (0, .iconst (-1), [1], .int (-1), []) := rfl
theorem cd75_71 : code9 75 71 = some (0, .ixor, [1], .null, []) := rfl
theorem cd75_72 : code9 75 72 = some (0, .iand, [1], .null, []) := rfl
theorem cd75_73 : code9 75 73 = some (0, .iastore, [1], .null, []) := rfl
theorem cd75_74 : code9 75 74 = some (0, .goto 107, [3, 181, 7], .null, []) := rfl
theorem cd75_77 : code9 75 77 = some (8, .iload 6, [2], .null, []) := rfl
theorem cd75_79 : code9 75 79 = some (0, .bipush 26, [2], .int 26, []) := rfl
theorem cd75_81 : code9 75 81 = some (0, .if_icmp .ne 34, [3, 115], .null, []) := rfl
theorem cd75_84 : code9 75 84 = some (0, .iload 4, [2], .null, []) := rfl
theorem cd75_86 : code9 75 86 = some (0, .iconst 1, [1], .int 1, []) := rfl
theorem cd75_87 : code9 75 87 = some (0, .if_icmp .le 28, [3, 115], .null, []) := rfl
theorem cd75_90 : code9 75 90 = some (0, .iinc 4 (-1), [3], .int (-1), []) := rfl
theorem cd75_93 : code9 75 93 = some (0, .aload_n 0, [1], .null, []) := rfl
theorem cd75_94 : code9 75 94 = some (0, .getfield 21, [3, 8, 3, 2], .null, []) := rfl
theorem cd75_97 : code9 75 97 = some (0, .iload 4, [2], .null, []) := rfl
theorem cd75_99 : code9 75 99 = some (0, .iconst 1, [1], .int 1, []) := rfl
theorem cd75_100 : code9 75 100 = some (0, .isub, [1], .null, []) := rfl
theorem cd75_101 : code9 75 101 = some (0, .dup2, [1], .null, []) := rfl
theorem cd75_102 : code9 75 102 = some (0, .iaload, [1], .null, []) := rfl
theorem cd75_103 : code9 75 103 = some (0, .aload_n 0, [1], .null, []) := rfl
theorem cd75_104 : code9 75 104 = some (0, .getfield 21, [3, 8, 3, 2], .null, []) := rfl
theorem cd75_107 : code9 75 107 = some (0, .iload 4, [2], .null, []) := rfl
theorem cd75_109 : code9 75 109 = some (0, .iaload, [1], .null, []) := rfl
theorem cd75_110 : code9 75 110 = some (0, .iand, [1], .null, []) := rfl
theorem cd75_111 : code9 75 111 = some (0, .iastore, [1], .null, []) := rfl
theorem cd75_112 : code9 75 112 = some (0, .goto 69, [3, 181, 7], .null, []) := rfl
theorem cd75_115 : code9 75 115 = some (8, .iload 6, [2], .null, []) := rfl
theorem cd75_117 : code9 75 117 = some (0, .bipush 25, [2], .int 25, []) := rfl
theorem cd75_119 : code9 75 119 = some (0, .if_icmp .ne 34, [3, 153], .null, []) := rfl
theorem cd75_122 : code9 75 122 = some (0, .iload 4, [2], .null, []) := rfl
theorem cd75_124 : code9 75 124 = some (0, .iconst 1, [1], .int 1, []) := rfl
theorem cd75_125 : code9 75 125 = some (0, .if_icmp .le 28, [3, 153], .null, []) := rfl
theorem cd75_128 : code9 75 128 = some (0, .iinc 4 (-1), [3], .int (-1), []) := rfl
theorem cd75_131 : code9 75 131 = some (0, .aload_n 0, [1], .null, []) := rfl
theorem cd75_132 : code9 75 132 = some (0, .getfield 21, [3, 8, 3, 2], .null, []) := rfl
theorem cd75_135 : code9 75 135 = some (0, .iload 4, [2], .null, []) := rfl
theorem cd75_137 : code9 75 137 = some (0, .iconst 1, [1], .int 1, []) := rfl
theorem cd75_138 : code9 75 138 = some (0, .isub, [1], .null, []) := rfl
theorem cd75_139 : code9 75 139 = some (0, .dup2, [1], .null, []) := rfl
theorem cd75_140 : code9 75 140 = some (0, .iaload, [1], .null, []) := rfl
theorem cd75_141 : code9 75 141 = some (0, .aload_n 0, [1], .null, []) := rfl
theorem cd75_142 : code9 75 142 = some (0, .getfield 21, [3, 8, 3, 2], .null, []) := rfl
theorem cd75_145 : code9 75 145 = some (0, .iload 4, [2], .null, []) := rfl
theorem cd75_147 : code9 75 147 = some (0, .iaload, [1], .null, []) := rfl
theorem cd75_148 : code9 75 148 = some (0, .ior, [1], .null, []) := rfl
theorem cd75_149 : code9 75 149 = some (0, .iastore, [1], .null, []) := rfl
theorem cd75_150 : code9 75 150 = some (0, .goto 31, [3, 181, 7], .null, []) := rfl
theorem cd75_153 : code9 75 153 = some (8, .iload 4, [2], .null, []) := rfl
theorem cd75_155 : code9 75 155 = some (0, .aload_n 0, [1], .null, []) := rfl
theorem cd75_156 : code9 75 156 = some (0, .getfield 21, [3, 8, 3, 2], .null, []) := rfl
theorem cd75_159 : code9 75 159 = some (0, .arraylength, [1], .null, []) := rfl
theorem cd75_160 : code9 75 160 = some (0, .if_icmp .ge 21, [3, 181], .null, []) := rfl
theorem cd75_163 : code9 75 163 = some (0, .aload_n 0, [1], .null, []) := rfl
theorem cd75_164 : code9 75 164 = some (0, .getfield 21, [3, 8, 3, 2], .null, []) := rfl
theorem cd75_167 : code9 75 167 = some (0, .iload 4, [2], .null, []) := rfl
theorem cd75_169 : code9 75 169 = some (0, .aload_n 0, [1], .null, []) := rfl
theorem cd75_170 : code9 75 170 = some (0, .aload_n 1, [1], .null, []) := rfl
theorem cd75_171 : code9 75 171 = some (0, .aload_n 2, [1], .null, []) := rfl
theorem cd75_172 : code9 75 172 = some (0, .iload 5, [2], .null, []) := rfl
theorem cd75_174 : code9 75 174 = some (0, .invokevirtual 121, [3, 76, 4, 1, 1, 6, 8, 0], .null, []) := rfl
theorem cd75_177 : code9 75 177 = some (0, .iastore, [1], .null, []) := rfl
theorem cd75_178 : code9 75 178 = some (0, .iinc 4 1, [3], .int 1, []) := rfl
theorem cd75_181 : code9 75 181 = some (8, .iinc 5 1, [3], .int 1, []) := rfl
theorem cd75_184 : code9 75 184 = some (0, .goto (-169), [3, 15, 6], .null, []) := rfl
theorem cd75_187 : code9 75 187 = some (7, .aload_n 0, [1], .null, []) := rfl
theorem cd75_188 : code9 75 188 = some (0, .getfield 21, [3, 8, 3, 2], .null, []) := rfl
theorem cd75_191 : code9 75 191 = some (0, .iconst 0, [1], .int 0, []) := rfl
theorem cd75_192 : code9 75 192 = some (0, .iaload, [1], .null, []) := rfl
theorem cd75_193 : code9 75 193 = some (0, .ireturn, [1, 1], .null, []) := rfl
def Sentence_bitsOf_15 (N : Nat) (a0 a1 a2 : Nat) : Nat → Int32 → Int32 → Int32 → FI → Option (Int32 × FI)
  | 0 => fun _ _ _ _ => none
  | n + 1 => fun l3 l4 l5 I => if (I a0 4) ≤ l5 then (some (I (a0 + 4) ((0 : Int32).toNatClampNeg), I)) else (if 40 ≤ l5 then (some (I (a0 + 4) ((0 : Int32).toNatClampNeg), I)) else (if in9 l5 40 then (if (I (a0 + 1) l5.toNatClampNeg) = 27 then (if l4 ≤ 0 then (if (I (a0 + 1) l5.toNatClampNeg) = 26 then (if l4 ≤ 1 then (if (I (a0 + 1) l5.toNatClampNeg) = 25 then (if l4 ≤ 1 then (if (Int32.ofNat 20) ≤ l4 then (Sentence_bitsOf_15 N a0 a1 a2 n l3 l4 (l5 + 1) I) else (Option.bind (Sentence_bitsOfStep N a0 a1 a2 l5 I) fun x2 => (if in9 l4 20 then (Option.bind (some (up2 I (a0 + 4) l4.toNatClampNeg x2)) fun I4 => (Sentence_bitsOf_15 N a0 a1 a2 n l3 (l4 + 1) (l5 + 1) I4)) else none))) else (if in9 ((l4 + (-1)) - 1) 20 then (if in9 (l4 + (-1)) 20 then (Option.bind (some (up2 I (a0 + 4) (((l4 + (-1)) - 1).toNatClampNeg) ((I (a0 + 4) (((l4 + (-1)) - 1).toNatClampNeg)) ||| (I (a0 + 4) ((l4 + (-1)).toNatClampNeg))))) fun I7 => (Sentence_bitsOf_15 N a0 a1 a2 n l3 (l4 + (-1)) (l5 + 1) I7)) else none) else none)) else (if (Int32.ofNat 20) ≤ l4 then (Sentence_bitsOf_15 N a0 a1 a2 n l3 l4 (l5 + 1) I) else (Option.bind (Sentence_bitsOfStep N a0 a1 a2 l5 I) fun x8 => (if in9 l4 20 then (Option.bind (some (up2 I (a0 + 4) l4.toNatClampNeg x8)) fun I10 => (Sentence_bitsOf_15 N a0 a1 a2 n l3 (l4 + 1) (l5 + 1) I10)) else none)))) else (if in9 ((l4 + (-1)) - 1) 20 then (if in9 (l4 + (-1)) 20 then (Option.bind (some (up2 I (a0 + 4) (((l4 + (-1)) - 1).toNatClampNeg) ((I (a0 + 4) (((l4 + (-1)) - 1).toNatClampNeg)) &&& (I (a0 + 4) ((l4 + (-1)).toNatClampNeg))))) fun I13 => (Sentence_bitsOf_15 N a0 a1 a2 n l3 (l4 + (-1)) (l5 + 1) I13)) else none) else none)) else (if (I (a0 + 1) l5.toNatClampNeg) = 25 then (if l4 ≤ 1 then (if (Int32.ofNat 20) ≤ l4 then (Sentence_bitsOf_15 N a0 a1 a2 n l3 l4 (l5 + 1) I) else (Option.bind (Sentence_bitsOfStep N a0 a1 a2 l5 I) fun x14 => (if in9 l4 20 then (Option.bind (some (up2 I (a0 + 4) l4.toNatClampNeg x14)) fun I16 => (Sentence_bitsOf_15 N a0 a1 a2 n l3 (l4 + 1) (l5 + 1) I16)) else none))) else (if in9 ((l4 + (-1)) - 1) 20 then (if in9 (l4 + (-1)) 20 then (Option.bind (some (up2 I (a0 + 4) (((l4 + (-1)) - 1).toNatClampNeg) ((I (a0 + 4) (((l4 + (-1)) - 1).toNatClampNeg)) ||| (I (a0 + 4) ((l4 + (-1)).toNatClampNeg))))) fun I19 => (Sentence_bitsOf_15 N a0 a1 a2 n l3 (l4 + (-1)) (l5 + 1) I19)) else none) else none)) else (if (Int32.ofNat 20) ≤ l4 then (Sentence_bitsOf_15 N a0 a1 a2 n l3 l4 (l5 + 1) I) else (Option.bind (Sentence_bitsOfStep N a0 a1 a2 l5 I) fun x20 => (if in9 l4 20 then (Option.bind (some (up2 I (a0 + 4) l4.toNatClampNeg x20)) fun I22 => (Sentence_bitsOf_15 N a0 a1 a2 n l3 (l4 + 1) (l5 + 1) I22)) else none))))) else (if in9 (l4 - 1) 20 then (Option.bind (some (up2 I (a0 + 4) ((l4 - 1).toNatClampNeg) (l3 &&& ((I (a0 + 4) ((l4 - 1).toNatClampNeg)) ^^^ (-1))))) fun I24 => (Sentence_bitsOf_15 N a0 a1 a2 n l3 l4 (l5 + 1) I24)) else none)) else (if (I (a0 + 1) l5.toNatClampNeg) = 26 then (if l4 ≤ 1 then (if (I (a0 + 1) l5.toNatClampNeg) = 25 then (if l4 ≤ 1 then (if (Int32.ofNat 20) ≤ l4 then (Sentence_bitsOf_15 N a0 a1 a2 n l3 l4 (l5 + 1) I) else (Option.bind (Sentence_bitsOfStep N a0 a1 a2 l5 I) fun x25 => (if in9 l4 20 then (Option.bind (some (up2 I (a0 + 4) l4.toNatClampNeg x25)) fun I27 => (Sentence_bitsOf_15 N a0 a1 a2 n l3 (l4 + 1) (l5 + 1) I27)) else none))) else (if in9 ((l4 + (-1)) - 1) 20 then (if in9 (l4 + (-1)) 20 then (Option.bind (some (up2 I (a0 + 4) (((l4 + (-1)) - 1).toNatClampNeg) ((I (a0 + 4) (((l4 + (-1)) - 1).toNatClampNeg)) ||| (I (a0 + 4) ((l4 + (-1)).toNatClampNeg))))) fun I30 => (Sentence_bitsOf_15 N a0 a1 a2 n l3 (l4 + (-1)) (l5 + 1) I30)) else none) else none)) else (if (Int32.ofNat 20) ≤ l4 then (Sentence_bitsOf_15 N a0 a1 a2 n l3 l4 (l5 + 1) I) else (Option.bind (Sentence_bitsOfStep N a0 a1 a2 l5 I) fun x31 => (if in9 l4 20 then (Option.bind (some (up2 I (a0 + 4) l4.toNatClampNeg x31)) fun I33 => (Sentence_bitsOf_15 N a0 a1 a2 n l3 (l4 + 1) (l5 + 1) I33)) else none)))) else (if in9 ((l4 + (-1)) - 1) 20 then (if in9 (l4 + (-1)) 20 then (Option.bind (some (up2 I (a0 + 4) (((l4 + (-1)) - 1).toNatClampNeg) ((I (a0 + 4) (((l4 + (-1)) - 1).toNatClampNeg)) &&& (I (a0 + 4) ((l4 + (-1)).toNatClampNeg))))) fun I36 => (Sentence_bitsOf_15 N a0 a1 a2 n l3 (l4 + (-1)) (l5 + 1) I36)) else none) else none)) else (if (I (a0 + 1) l5.toNatClampNeg) = 25 then (if l4 ≤ 1 then (if (Int32.ofNat 20) ≤ l4 then (Sentence_bitsOf_15 N a0 a1 a2 n l3 l4 (l5 + 1) I) else (Option.bind (Sentence_bitsOfStep N a0 a1 a2 l5 I) fun x37 => (if in9 l4 20 then (Option.bind (some (up2 I (a0 + 4) l4.toNatClampNeg x37)) fun I39 => (Sentence_bitsOf_15 N a0 a1 a2 n l3 (l4 + 1) (l5 + 1) I39)) else none))) else (if in9 ((l4 + (-1)) - 1) 20 then (if in9 (l4 + (-1)) 20 then (Option.bind (some (up2 I (a0 + 4) (((l4 + (-1)) - 1).toNatClampNeg) ((I (a0 + 4) (((l4 + (-1)) - 1).toNatClampNeg)) ||| (I (a0 + 4) ((l4 + (-1)).toNatClampNeg))))) fun I42 => (Sentence_bitsOf_15 N a0 a1 a2 n l3 (l4 + (-1)) (l5 + 1) I42)) else none) else none)) else (if (Int32.ofNat 20) ≤ l4 then (Sentence_bitsOf_15 N a0 a1 a2 n l3 l4 (l5 + 1) I) else (Option.bind (Sentence_bitsOfStep N a0 a1 a2 l5 I) fun x43 => (if in9 l4 20 then (Option.bind (some (up2 I (a0 + 4) l4.toNatClampNeg x43)) fun I45 => (Sentence_bitsOf_15 N a0 a1 a2 n l3 (l4 + 1) (l5 + 1) I45)) else none)))))) else none))
def Sentence_bitsOf (N : Nat) (a0 a1 a2 : Nat) (I : FI) : Option (Int32 × FI) := Sentence_bitsOf_15 N a0 a1 a2 N ((1 <<< ((I a1 12) &&& 31)) - 1) 0 0 I
set_option maxRecDepth 8000 in
theorem t_Sentence_bitsOf_15 {d : Nat} {N : Nat} {a0 a1 a2 : Nat} {c : Nat × Nat} {S : Nat → Nat × Nat} {P : Nat → Nat → Option Nat} {r : Int32 × FI} (hd : 3 ≤ (d + 1)) (h0 : O8 S P a0) (h1 : O6 S P a1) (h2 : O9 S P a2) : ∀ (n : Nat) (l3 : Int32) (l4 : Int32) (l5 : Int32) (I : FI) (J : FJ), Sentence_bitsOf_15 N a0 a1 a2 n l3 l4 l5 I = some r → Go (d + 1) M_Sentence_bitsOf 15 [some (.ref a0), some (.ref a1), some (.ref a2), some (.int l3), some (.int l4), some (.int l5), none] [] (c, S, I, J, P) (some (.int r.1), false, (c, S, r.2, J, P)) := by
  intro n
  induction n with
  | zero =>
    intro l3 l4 l5 I J h
    cases h
  | succ n ih =>
    intro l3 l4 l5 I J h
    unfold Sentence_bitsOf_15 at h
    refine g_iload cd75_15 rfl rfl ?_
    refine g_aload_n cd75_17 rfl rfl ?_
    refine g_getI cd75_18 rfl (O8.o h0) ?_
    refine g_icmp_ge cd75_21 rfl (fun hb => ?_) (fun hb => ?_)
    · have h := ifpE hb h
      refine g_aload_n cd75_187 rfl rfl ?_
      refine g_getP cd75_188 rfl (O8.o h0) (show P a0 3 = some (a0 + 4) from O8.p3 h0) ?_
      refine g_iconst cd75_191 rfl ?_
      refine G_iald cd75_192 rfl (show S (a0 + 4) = (1, 20) from O8.s3 h0) (by decide) ?_
      exact g_iret cd75_193 (Or.inl rfl) (by obtain rfl := Option.some.inj h; rfl)
    · have h := ifnE hb h
      refine g_iload cd75_24 rfl rfl ?_
      refine g_bipush cd75_26 rfl ?_
      refine g_icmp_ge cd75_28 rfl (fun hb => ?_) (fun hb => ?_)
      · have h := ifpE hb h
        refine g_aload_n cd75_187 rfl rfl ?_
        refine g_getP cd75_188 rfl (O8.o h0) (show P a0 3 = some (a0 + 4) from O8.p3 h0) ?_
        refine g_iconst cd75_191 rfl ?_
        refine G_iald cd75_192 rfl (show S (a0 + 4) = (1, 20) from O8.s3 h0) (by decide) ?_
        exact g_iret cd75_193 (Or.inl rfl) (by obtain rfl := Option.some.inj h; rfl)
      · have h := ifnE hb h
        refine g_aload_n cd75_31 rfl rfl ?_
        refine g_getP cd75_32 rfl (O8.o h0) (show P a0 0 = some (a0 + 1) from O8.p0 h0) ?_
        refine g_iload cd75_35 rfl rfl ?_
        obtain ⟨hg1, h⟩ := grd h
        refine G_iald cd75_37 rfl (show S (a0 + 1) = (1, 40) from O8.s0 h0) hg1 ?_
        refine g_istore (ls2 := [some (.ref a0), some (.ref a1), some (.ref a2), some (.int l3), some (.int l4), some (.int l5), some (.int (I (a0 + 1) l5.toNatClampNeg))]) cd75_38 rfl rfl ?_
        refine g_iload cd75_40 rfl rfl ?_
        refine g_bipush cd75_42 rfl ?_
        refine g_icmp_ne cd75_44 rfl (fun hb => ?_) (fun hb => ?_)
        · have h := ifpE hb h
          refine g_iload cd75_47 rfl rfl ?_
          refine g_if_le cd75_49 rfl (fun hb => ?_) (fun hb => ?_)
          · have h := ifpE hb h
            refine g_iload cd75_77 rfl rfl ?_
            refine g_bipush cd75_79 rfl ?_
            refine g_icmp_ne cd75_81 rfl (fun hb => ?_) (fun hb => ?_)
            · have h := ifpE hb h
              refine g_iload cd75_84 rfl rfl ?_
              refine g_iconst cd75_86 rfl ?_
              refine g_icmp_le cd75_87 rfl (fun hb => ?_) (fun hb => ?_)
              · have h := ifpE hb h
                refine g_iload cd75_115 rfl rfl ?_
                refine g_bipush cd75_117 rfl ?_
                refine g_icmp_ne cd75_119 rfl (fun hb => ?_) (fun hb => ?_)
                · have h := ifpE hb h
                  refine g_iload cd75_122 rfl rfl ?_
                  refine g_iconst cd75_124 rfl ?_
                  refine g_icmp_le cd75_125 rfl (fun hb => ?_) (fun hb => ?_)
                  · have h := ifpE hb h
                    refine g_iload cd75_153 rfl rfl ?_
                    refine g_aload_n cd75_155 rfl rfl ?_
                    refine g_getP cd75_156 rfl (O8.o h0) (show P a0 3 = some (a0 + 4) from O8.p3 h0) ?_
                    refine G_alen cd75_159 rfl (show S (a0 + 4) = (1, 20) from O8.s3 h0) (by decide) ?_
                    refine g_icmp_ge cd75_160 rfl (fun hb => ?_) (fun hb => ?_)
                    · have h := ifpE hb h
                      refine g_iinc (ls2 := [some (.ref a0), some (.ref a1), some (.ref a2), some (.int l3), some (.int l4), some (.int (l5 + 1)), some (.int (I (a0 + 1) l5.toNatClampNeg))]) cd75_181 rfl rfl rfl ?_
                      refine g_goto (ls2 := [some (.ref a0), some (.ref a1), some (.ref a2), some (.int l3), some (.int l4), some (.int (l5 + 1)), none]) cd75_184 rfl rfl ?_
                      exact ih l3 l4 (l5 + 1) I J h
                    · have h := ifnE hb h
                      refine g_aload_n cd75_163 rfl rfl ?_
                      refine g_getP cd75_164 rfl (O8.o h0) (show P a0 3 = some (a0 + 4) from O8.p3 h0) ?_
                      refine g_iload cd75_167 rfl rfl ?_
                      refine g_aload_n cd75_169 rfl rfl ?_
                      refine g_aload_n cd75_170 rfl rfl ?_
                      refine g_aload_n cd75_171 rfl rfl ?_
                      refine g_iload cd75_172 rfl rfl ?_
                      obtain ⟨x2, hx, h⟩ := bnd h
                      refine g_callVI (L := [some (.ref a0), some (.ref a1), some (.ref a2), some (.int l5), none, none]) cd75_174 rfl rfl rfl rfl rfl (O8.o h0) (t_Sentence_bitsOfStep (by omega) h0 h1 h2 hx) ?_
                      obtain ⟨hg3, h⟩ := grd h
                      obtain ⟨I4, e1, h⟩ := bnd h
                      refine G_iast cd75_177 rfl (show S (a0 + 4) = (1, 20) from O8.s3 h0) hg3 (Option.some.inj e1) ?_
                      refine g_iinc (ls2 := [some (.ref a0), some (.ref a1), some (.ref a2), some (.int l3), some (.int (l4 + 1)), some (.int l5), some (.int (I (a0 + 1) l5.toNatClampNeg))]) cd75_178 rfl rfl rfl ?_
                      refine g_iinc (ls2 := [some (.ref a0), some (.ref a1), some (.ref a2), some (.int l3), some (.int (l4 + 1)), some (.int (l5 + 1)), some (.int (I (a0 + 1) l5.toNatClampNeg))]) cd75_181 rfl rfl rfl ?_
                      refine g_goto (ls2 := [some (.ref a0), some (.ref a1), some (.ref a2), some (.int l3), some (.int (l4 + 1)), some (.int (l5 + 1)), none]) cd75_184 rfl rfl ?_
                      exact ih l3 (l4 + 1) (l5 + 1) I4 J h
                  · have h := ifnE hb h
                    refine g_iinc (ls2 := [some (.ref a0), some (.ref a1), some (.ref a2), some (.int l3), some (.int (l4 + (-1))), some (.int l5), some (.int (I (a0 + 1) l5.toNatClampNeg))]) cd75_128 rfl rfl rfl ?_
                    refine g_aload_n cd75_131 rfl rfl ?_
                    refine g_getP cd75_132 rfl (O8.o h0) (show P a0 3 = some (a0 + 4) from O8.p3 h0) ?_
                    refine g_iload cd75_135 rfl rfl ?_
                    refine g_iconst cd75_137 rfl ?_
                    refine g_isub cd75_138 rfl ?_
                    refine g_dup2R cd75_139 rfl ?_
                    obtain ⟨hg5, h⟩ := grd h
                    refine G_iald cd75_140 rfl (show S (a0 + 4) = (1, 20) from O8.s3 h0) hg5 ?_
                    refine g_aload_n cd75_141 rfl rfl ?_
                    refine g_getP cd75_142 rfl (O8.o h0) (show P a0 3 = some (a0 + 4) from O8.p3 h0) ?_
                    refine g_iload cd75_145 rfl rfl ?_
                    obtain ⟨hg6, h⟩ := grd h
                    refine G_iald cd75_147 rfl (show S (a0 + 4) = (1, 20) from O8.s3 h0) hg6 ?_
                    refine g_ior cd75_148 rfl ?_
                    obtain ⟨I7, e1, h⟩ := bnd h
                    refine G_iast cd75_149 rfl (show S (a0 + 4) = (1, 20) from O8.s3 h0) hg5 (Option.some.inj e1) ?_
                    refine g_goto (ls2 := [some (.ref a0), some (.ref a1), some (.ref a2), some (.int l3), some (.int (l4 + (-1))), some (.int l5), some (.int (I (a0 + 1) l5.toNatClampNeg))]) cd75_150 rfl rfl ?_
                    refine g_iinc (ls2 := [some (.ref a0), some (.ref a1), some (.ref a2), some (.int l3), some (.int (l4 + (-1))), some (.int (l5 + 1)), some (.int (I (a0 + 1) l5.toNatClampNeg))]) cd75_181 rfl rfl rfl ?_
                    refine g_goto (ls2 := [some (.ref a0), some (.ref a1), some (.ref a2), some (.int l3), some (.int (l4 + (-1))), some (.int (l5 + 1)), none]) cd75_184 rfl rfl ?_
                    exact ih l3 (l4 + (-1)) (l5 + 1) I7 J h
                · have h := ifnE hb h
                  refine g_iload cd75_153 rfl rfl ?_
                  refine g_aload_n cd75_155 rfl rfl ?_
                  refine g_getP cd75_156 rfl (O8.o h0) (show P a0 3 = some (a0 + 4) from O8.p3 h0) ?_
                  refine G_alen cd75_159 rfl (show S (a0 + 4) = (1, 20) from O8.s3 h0) (by decide) ?_
                  refine g_icmp_ge cd75_160 rfl (fun hb => ?_) (fun hb => ?_)
                  · have h := ifpE hb h
                    refine g_iinc (ls2 := [some (.ref a0), some (.ref a1), some (.ref a2), some (.int l3), some (.int l4), some (.int (l5 + 1)), some (.int (I (a0 + 1) l5.toNatClampNeg))]) cd75_181 rfl rfl rfl ?_
                    refine g_goto (ls2 := [some (.ref a0), some (.ref a1), some (.ref a2), some (.int l3), some (.int l4), some (.int (l5 + 1)), none]) cd75_184 rfl rfl ?_
                    exact ih l3 l4 (l5 + 1) I J h
                  · have h := ifnE hb h
                    refine g_aload_n cd75_163 rfl rfl ?_
                    refine g_getP cd75_164 rfl (O8.o h0) (show P a0 3 = some (a0 + 4) from O8.p3 h0) ?_
                    refine g_iload cd75_167 rfl rfl ?_
                    refine g_aload_n cd75_169 rfl rfl ?_
                    refine g_aload_n cd75_170 rfl rfl ?_
                    refine g_aload_n cd75_171 rfl rfl ?_
                    refine g_iload cd75_172 rfl rfl ?_
                    obtain ⟨x8, hx, h⟩ := bnd h
                    refine g_callVI (L := [some (.ref a0), some (.ref a1), some (.ref a2), some (.int l5), none, none]) cd75_174 rfl rfl rfl rfl rfl (O8.o h0) (t_Sentence_bitsOfStep (by omega) h0 h1 h2 hx) ?_
                    obtain ⟨hg9, h⟩ := grd h
                    obtain ⟨I10, e1, h⟩ := bnd h
                    refine G_iast cd75_177 rfl (show S (a0 + 4) = (1, 20) from O8.s3 h0) hg9 (Option.some.inj e1) ?_
                    refine g_iinc (ls2 := [some (.ref a0), some (.ref a1), some (.ref a2), some (.int l3), some (.int (l4 + 1)), some (.int l5), some (.int (I (a0 + 1) l5.toNatClampNeg))]) cd75_178 rfl rfl rfl ?_
                    refine g_iinc (ls2 := [some (.ref a0), some (.ref a1), some (.ref a2), some (.int l3), some (.int (l4 + 1)), some (.int (l5 + 1)), some (.int (I (a0 + 1) l5.toNatClampNeg))]) cd75_181 rfl rfl rfl ?_
                    refine g_goto (ls2 := [some (.ref a0), some (.ref a1), some (.ref a2), some (.int l3), some (.int (l4 + 1)), some (.int (l5 + 1)), none]) cd75_184 rfl rfl ?_
                    exact ih l3 (l4 + 1) (l5 + 1) I10 J h
              · have h := ifnE hb h
                refine g_iinc (ls2 := [some (.ref a0), some (.ref a1), some (.ref a2), some (.int l3), some (.int (l4 + (-1))), some (.int l5), some (.int (I (a0 + 1) l5.toNatClampNeg))]) cd75_90 rfl rfl rfl ?_
                refine g_aload_n cd75_93 rfl rfl ?_
                refine g_getP cd75_94 rfl (O8.o h0) (show P a0 3 = some (a0 + 4) from O8.p3 h0) ?_
                refine g_iload cd75_97 rfl rfl ?_
                refine g_iconst cd75_99 rfl ?_
                refine g_isub cd75_100 rfl ?_
                refine g_dup2R cd75_101 rfl ?_
                obtain ⟨hg11, h⟩ := grd h
                refine G_iald cd75_102 rfl (show S (a0 + 4) = (1, 20) from O8.s3 h0) hg11 ?_
                refine g_aload_n cd75_103 rfl rfl ?_
                refine g_getP cd75_104 rfl (O8.o h0) (show P a0 3 = some (a0 + 4) from O8.p3 h0) ?_
                refine g_iload cd75_107 rfl rfl ?_
                obtain ⟨hg12, h⟩ := grd h
                refine G_iald cd75_109 rfl (show S (a0 + 4) = (1, 20) from O8.s3 h0) hg12 ?_
                refine g_iand cd75_110 rfl ?_
                obtain ⟨I13, e1, h⟩ := bnd h
                refine G_iast cd75_111 rfl (show S (a0 + 4) = (1, 20) from O8.s3 h0) hg11 (Option.some.inj e1) ?_
                refine g_goto (ls2 := [some (.ref a0), some (.ref a1), some (.ref a2), some (.int l3), some (.int (l4 + (-1))), some (.int l5), some (.int (I (a0 + 1) l5.toNatClampNeg))]) cd75_112 rfl rfl ?_
                refine g_iinc (ls2 := [some (.ref a0), some (.ref a1), some (.ref a2), some (.int l3), some (.int (l4 + (-1))), some (.int (l5 + 1)), some (.int (I (a0 + 1) l5.toNatClampNeg))]) cd75_181 rfl rfl rfl ?_
                refine g_goto (ls2 := [some (.ref a0), some (.ref a1), some (.ref a2), some (.int l3), some (.int (l4 + (-1))), some (.int (l5 + 1)), none]) cd75_184 rfl rfl ?_
                exact ih l3 (l4 + (-1)) (l5 + 1) I13 J h
            · have h := ifnE hb h
              refine g_iload cd75_115 rfl rfl ?_
              refine g_bipush cd75_117 rfl ?_
              refine g_icmp_ne cd75_119 rfl (fun hb => ?_) (fun hb => ?_)
              · have h := ifpE hb h
                refine g_iload cd75_122 rfl rfl ?_
                refine g_iconst cd75_124 rfl ?_
                refine g_icmp_le cd75_125 rfl (fun hb => ?_) (fun hb => ?_)
                · have h := ifpE hb h
                  refine g_iload cd75_153 rfl rfl ?_
                  refine g_aload_n cd75_155 rfl rfl ?_
                  refine g_getP cd75_156 rfl (O8.o h0) (show P a0 3 = some (a0 + 4) from O8.p3 h0) ?_
                  refine G_alen cd75_159 rfl (show S (a0 + 4) = (1, 20) from O8.s3 h0) (by decide) ?_
                  refine g_icmp_ge cd75_160 rfl (fun hb => ?_) (fun hb => ?_)
                  · have h := ifpE hb h
                    refine g_iinc (ls2 := [some (.ref a0), some (.ref a1), some (.ref a2), some (.int l3), some (.int l4), some (.int (l5 + 1)), some (.int (I (a0 + 1) l5.toNatClampNeg))]) cd75_181 rfl rfl rfl ?_
                    refine g_goto (ls2 := [some (.ref a0), some (.ref a1), some (.ref a2), some (.int l3), some (.int l4), some (.int (l5 + 1)), none]) cd75_184 rfl rfl ?_
                    exact ih l3 l4 (l5 + 1) I J h
                  · have h := ifnE hb h
                    refine g_aload_n cd75_163 rfl rfl ?_
                    refine g_getP cd75_164 rfl (O8.o h0) (show P a0 3 = some (a0 + 4) from O8.p3 h0) ?_
                    refine g_iload cd75_167 rfl rfl ?_
                    refine g_aload_n cd75_169 rfl rfl ?_
                    refine g_aload_n cd75_170 rfl rfl ?_
                    refine g_aload_n cd75_171 rfl rfl ?_
                    refine g_iload cd75_172 rfl rfl ?_
                    obtain ⟨x14, hx, h⟩ := bnd h
                    refine g_callVI (L := [some (.ref a0), some (.ref a1), some (.ref a2), some (.int l5), none, none]) cd75_174 rfl rfl rfl rfl rfl (O8.o h0) (t_Sentence_bitsOfStep (by omega) h0 h1 h2 hx) ?_
                    obtain ⟨hg15, h⟩ := grd h
                    obtain ⟨I16, e1, h⟩ := bnd h
                    refine G_iast cd75_177 rfl (show S (a0 + 4) = (1, 20) from O8.s3 h0) hg15 (Option.some.inj e1) ?_
                    refine g_iinc (ls2 := [some (.ref a0), some (.ref a1), some (.ref a2), some (.int l3), some (.int (l4 + 1)), some (.int l5), some (.int (I (a0 + 1) l5.toNatClampNeg))]) cd75_178 rfl rfl rfl ?_
                    refine g_iinc (ls2 := [some (.ref a0), some (.ref a1), some (.ref a2), some (.int l3), some (.int (l4 + 1)), some (.int (l5 + 1)), some (.int (I (a0 + 1) l5.toNatClampNeg))]) cd75_181 rfl rfl rfl ?_
                    refine g_goto (ls2 := [some (.ref a0), some (.ref a1), some (.ref a2), some (.int l3), some (.int (l4 + 1)), some (.int (l5 + 1)), none]) cd75_184 rfl rfl ?_
                    exact ih l3 (l4 + 1) (l5 + 1) I16 J h
                · have h := ifnE hb h
                  refine g_iinc (ls2 := [some (.ref a0), some (.ref a1), some (.ref a2), some (.int l3), some (.int (l4 + (-1))), some (.int l5), some (.int (I (a0 + 1) l5.toNatClampNeg))]) cd75_128 rfl rfl rfl ?_
                  refine g_aload_n cd75_131 rfl rfl ?_
                  refine g_getP cd75_132 rfl (O8.o h0) (show P a0 3 = some (a0 + 4) from O8.p3 h0) ?_
                  refine g_iload cd75_135 rfl rfl ?_
                  refine g_iconst cd75_137 rfl ?_
                  refine g_isub cd75_138 rfl ?_
                  refine g_dup2R cd75_139 rfl ?_
                  obtain ⟨hg17, h⟩ := grd h
                  refine G_iald cd75_140 rfl (show S (a0 + 4) = (1, 20) from O8.s3 h0) hg17 ?_
                  refine g_aload_n cd75_141 rfl rfl ?_
                  refine g_getP cd75_142 rfl (O8.o h0) (show P a0 3 = some (a0 + 4) from O8.p3 h0) ?_
                  refine g_iload cd75_145 rfl rfl ?_
                  obtain ⟨hg18, h⟩ := grd h
                  refine G_iald cd75_147 rfl (show S (a0 + 4) = (1, 20) from O8.s3 h0) hg18 ?_
                  refine g_ior cd75_148 rfl ?_
                  obtain ⟨I19, e1, h⟩ := bnd h
                  refine G_iast cd75_149 rfl (show S (a0 + 4) = (1, 20) from O8.s3 h0) hg17 (Option.some.inj e1) ?_
                  refine g_goto (ls2 := [some (.ref a0), some (.ref a1), some (.ref a2), some (.int l3), some (.int (l4 + (-1))), some (.int l5), some (.int (I (a0 + 1) l5.toNatClampNeg))]) cd75_150 rfl rfl ?_
                  refine g_iinc (ls2 := [some (.ref a0), some (.ref a1), some (.ref a2), some (.int l3), some (.int (l4 + (-1))), some (.int (l5 + 1)), some (.int (I (a0 + 1) l5.toNatClampNeg))]) cd75_181 rfl rfl rfl ?_
                  refine g_goto (ls2 := [some (.ref a0), some (.ref a1), some (.ref a2), some (.int l3), some (.int (l4 + (-1))), some (.int (l5 + 1)), none]) cd75_184 rfl rfl ?_
                  exact ih l3 (l4 + (-1)) (l5 + 1) I19 J h
              · have h := ifnE hb h
                refine g_iload cd75_153 rfl rfl ?_
                refine g_aload_n cd75_155 rfl rfl ?_
                refine g_getP cd75_156 rfl (O8.o h0) (show P a0 3 = some (a0 + 4) from O8.p3 h0) ?_
                refine G_alen cd75_159 rfl (show S (a0 + 4) = (1, 20) from O8.s3 h0) (by decide) ?_
                refine g_icmp_ge cd75_160 rfl (fun hb => ?_) (fun hb => ?_)
                · have h := ifpE hb h
                  refine g_iinc (ls2 := [some (.ref a0), some (.ref a1), some (.ref a2), some (.int l3), some (.int l4), some (.int (l5 + 1)), some (.int (I (a0 + 1) l5.toNatClampNeg))]) cd75_181 rfl rfl rfl ?_
                  refine g_goto (ls2 := [some (.ref a0), some (.ref a1), some (.ref a2), some (.int l3), some (.int l4), some (.int (l5 + 1)), none]) cd75_184 rfl rfl ?_
                  exact ih l3 l4 (l5 + 1) I J h
                · have h := ifnE hb h
                  refine g_aload_n cd75_163 rfl rfl ?_
                  refine g_getP cd75_164 rfl (O8.o h0) (show P a0 3 = some (a0 + 4) from O8.p3 h0) ?_
                  refine g_iload cd75_167 rfl rfl ?_
                  refine g_aload_n cd75_169 rfl rfl ?_
                  refine g_aload_n cd75_170 rfl rfl ?_
                  refine g_aload_n cd75_171 rfl rfl ?_
                  refine g_iload cd75_172 rfl rfl ?_
                  obtain ⟨x20, hx, h⟩ := bnd h
                  refine g_callVI (L := [some (.ref a0), some (.ref a1), some (.ref a2), some (.int l5), none, none]) cd75_174 rfl rfl rfl rfl rfl (O8.o h0) (t_Sentence_bitsOfStep (by omega) h0 h1 h2 hx) ?_
                  obtain ⟨hg21, h⟩ := grd h
                  obtain ⟨I22, e1, h⟩ := bnd h
                  refine G_iast cd75_177 rfl (show S (a0 + 4) = (1, 20) from O8.s3 h0) hg21 (Option.some.inj e1) ?_
                  refine g_iinc (ls2 := [some (.ref a0), some (.ref a1), some (.ref a2), some (.int l3), some (.int (l4 + 1)), some (.int l5), some (.int (I (a0 + 1) l5.toNatClampNeg))]) cd75_178 rfl rfl rfl ?_
                  refine g_iinc (ls2 := [some (.ref a0), some (.ref a1), some (.ref a2), some (.int l3), some (.int (l4 + 1)), some (.int (l5 + 1)), some (.int (I (a0 + 1) l5.toNatClampNeg))]) cd75_181 rfl rfl rfl ?_
                  refine g_goto (ls2 := [some (.ref a0), some (.ref a1), some (.ref a2), some (.int l3), some (.int (l4 + 1)), some (.int (l5 + 1)), none]) cd75_184 rfl rfl ?_
                  exact ih l3 (l4 + 1) (l5 + 1) I22 J h
          · have h := ifnE hb h
            refine g_aload_n cd75_52 rfl rfl ?_
            refine g_getP cd75_53 rfl (O8.o h0) (show P a0 3 = some (a0 + 4) from O8.p3 h0) ?_
            refine g_iload cd75_56 rfl rfl ?_
            refine g_iconst cd75_58 rfl ?_
            refine g_isub cd75_59 rfl ?_
            refine g_iload_n cd75_60 rfl rfl ?_
            refine g_aload_n cd75_61 rfl rfl ?_
            refine g_getP cd75_62 rfl (O8.o h0) (show P a0 3 = some (a0 + 4) from O8.p3 h0) ?_
            refine g_iload cd75_65 rfl rfl ?_
            refine g_iconst cd75_67 rfl ?_
            refine g_isub cd75_68 rfl ?_
            obtain ⟨hg23, h⟩ := grd h
            refine G_iald cd75_69 rfl (show S (a0 + 4) = (1, 20) from O8.s3 h0) hg23 ?_
            refine g_iconst cd75_70 rfl ?_
            refine g_ixor cd75_71 rfl ?_
            refine g_iand cd75_72 rfl ?_
            obtain ⟨I24, e1, h⟩ := bnd h
            refine G_iast cd75_73 rfl (show S (a0 + 4) = (1, 20) from O8.s3 h0) hg23 (Option.some.inj e1) ?_
            refine g_goto (ls2 := [some (.ref a0), some (.ref a1), some (.ref a2), some (.int l3), some (.int l4), some (.int l5), some (.int (I (a0 + 1) l5.toNatClampNeg))]) cd75_74 rfl rfl ?_
            refine g_iinc (ls2 := [some (.ref a0), some (.ref a1), some (.ref a2), some (.int l3), some (.int l4), some (.int (l5 + 1)), some (.int (I (a0 + 1) l5.toNatClampNeg))]) cd75_181 rfl rfl rfl ?_
            refine g_goto (ls2 := [some (.ref a0), some (.ref a1), some (.ref a2), some (.int l3), some (.int l4), some (.int (l5 + 1)), none]) cd75_184 rfl rfl ?_
            exact ih l3 l4 (l5 + 1) I24 J h
        · have h := ifnE hb h
          refine g_iload cd75_77 rfl rfl ?_
          refine g_bipush cd75_79 rfl ?_
          refine g_icmp_ne cd75_81 rfl (fun hb => ?_) (fun hb => ?_)
          · have h := ifpE hb h
            refine g_iload cd75_84 rfl rfl ?_
            refine g_iconst cd75_86 rfl ?_
            refine g_icmp_le cd75_87 rfl (fun hb => ?_) (fun hb => ?_)
            · have h := ifpE hb h
              refine g_iload cd75_115 rfl rfl ?_
              refine g_bipush cd75_117 rfl ?_
              refine g_icmp_ne cd75_119 rfl (fun hb => ?_) (fun hb => ?_)
              · have h := ifpE hb h
                refine g_iload cd75_122 rfl rfl ?_
                refine g_iconst cd75_124 rfl ?_
                refine g_icmp_le cd75_125 rfl (fun hb => ?_) (fun hb => ?_)
                · have h := ifpE hb h
                  refine g_iload cd75_153 rfl rfl ?_
                  refine g_aload_n cd75_155 rfl rfl ?_
                  refine g_getP cd75_156 rfl (O8.o h0) (show P a0 3 = some (a0 + 4) from O8.p3 h0) ?_
                  refine G_alen cd75_159 rfl (show S (a0 + 4) = (1, 20) from O8.s3 h0) (by decide) ?_
                  refine g_icmp_ge cd75_160 rfl (fun hb => ?_) (fun hb => ?_)
                  · have h := ifpE hb h
                    refine g_iinc (ls2 := [some (.ref a0), some (.ref a1), some (.ref a2), some (.int l3), some (.int l4), some (.int (l5 + 1)), some (.int (I (a0 + 1) l5.toNatClampNeg))]) cd75_181 rfl rfl rfl ?_
                    refine g_goto (ls2 := [some (.ref a0), some (.ref a1), some (.ref a2), some (.int l3), some (.int l4), some (.int (l5 + 1)), none]) cd75_184 rfl rfl ?_
                    exact ih l3 l4 (l5 + 1) I J h
                  · have h := ifnE hb h
                    refine g_aload_n cd75_163 rfl rfl ?_
                    refine g_getP cd75_164 rfl (O8.o h0) (show P a0 3 = some (a0 + 4) from O8.p3 h0) ?_
                    refine g_iload cd75_167 rfl rfl ?_
                    refine g_aload_n cd75_169 rfl rfl ?_
                    refine g_aload_n cd75_170 rfl rfl ?_
                    refine g_aload_n cd75_171 rfl rfl ?_
                    refine g_iload cd75_172 rfl rfl ?_
                    obtain ⟨x25, hx, h⟩ := bnd h
                    refine g_callVI (L := [some (.ref a0), some (.ref a1), some (.ref a2), some (.int l5), none, none]) cd75_174 rfl rfl rfl rfl rfl (O8.o h0) (t_Sentence_bitsOfStep (by omega) h0 h1 h2 hx) ?_
                    obtain ⟨hg26, h⟩ := grd h
                    obtain ⟨I27, e1, h⟩ := bnd h
                    refine G_iast cd75_177 rfl (show S (a0 + 4) = (1, 20) from O8.s3 h0) hg26 (Option.some.inj e1) ?_
                    refine g_iinc (ls2 := [some (.ref a0), some (.ref a1), some (.ref a2), some (.int l3), some (.int (l4 + 1)), some (.int l5), some (.int (I (a0 + 1) l5.toNatClampNeg))]) cd75_178 rfl rfl rfl ?_
                    refine g_iinc (ls2 := [some (.ref a0), some (.ref a1), some (.ref a2), some (.int l3), some (.int (l4 + 1)), some (.int (l5 + 1)), some (.int (I (a0 + 1) l5.toNatClampNeg))]) cd75_181 rfl rfl rfl ?_
                    refine g_goto (ls2 := [some (.ref a0), some (.ref a1), some (.ref a2), some (.int l3), some (.int (l4 + 1)), some (.int (l5 + 1)), none]) cd75_184 rfl rfl ?_
                    exact ih l3 (l4 + 1) (l5 + 1) I27 J h
                · have h := ifnE hb h
                  refine g_iinc (ls2 := [some (.ref a0), some (.ref a1), some (.ref a2), some (.int l3), some (.int (l4 + (-1))), some (.int l5), some (.int (I (a0 + 1) l5.toNatClampNeg))]) cd75_128 rfl rfl rfl ?_
                  refine g_aload_n cd75_131 rfl rfl ?_
                  refine g_getP cd75_132 rfl (O8.o h0) (show P a0 3 = some (a0 + 4) from O8.p3 h0) ?_
                  refine g_iload cd75_135 rfl rfl ?_
                  refine g_iconst cd75_137 rfl ?_
                  refine g_isub cd75_138 rfl ?_
                  refine g_dup2R cd75_139 rfl ?_
                  obtain ⟨hg28, h⟩ := grd h
                  refine G_iald cd75_140 rfl (show S (a0 + 4) = (1, 20) from O8.s3 h0) hg28 ?_
                  refine g_aload_n cd75_141 rfl rfl ?_
                  refine g_getP cd75_142 rfl (O8.o h0) (show P a0 3 = some (a0 + 4) from O8.p3 h0) ?_
                  refine g_iload cd75_145 rfl rfl ?_
                  obtain ⟨hg29, h⟩ := grd h
                  refine G_iald cd75_147 rfl (show S (a0 + 4) = (1, 20) from O8.s3 h0) hg29 ?_
                  refine g_ior cd75_148 rfl ?_
                  obtain ⟨I30, e1, h⟩ := bnd h
                  refine G_iast cd75_149 rfl (show S (a0 + 4) = (1, 20) from O8.s3 h0) hg28 (Option.some.inj e1) ?_
                  refine g_goto (ls2 := [some (.ref a0), some (.ref a1), some (.ref a2), some (.int l3), some (.int (l4 + (-1))), some (.int l5), some (.int (I (a0 + 1) l5.toNatClampNeg))]) cd75_150 rfl rfl ?_
                  refine g_iinc (ls2 := [some (.ref a0), some (.ref a1), some (.ref a2), some (.int l3), some (.int (l4 + (-1))), some (.int (l5 + 1)), some (.int (I (a0 + 1) l5.toNatClampNeg))]) cd75_181 rfl rfl rfl ?_
                  refine g_goto (ls2 := [some (.ref a0), some (.ref a1), some (.ref a2), some (.int l3), some (.int (l4 + (-1))), some (.int (l5 + 1)), none]) cd75_184 rfl rfl ?_
                  exact ih l3 (l4 + (-1)) (l5 + 1) I30 J h
              · have h := ifnE hb h
                refine g_iload cd75_153 rfl rfl ?_
                refine g_aload_n cd75_155 rfl rfl ?_
                refine g_getP cd75_156 rfl (O8.o h0) (show P a0 3 = some (a0 + 4) from O8.p3 h0) ?_
                refine G_alen cd75_159 rfl (show S (a0 + 4) = (1, 20) from O8.s3 h0) (by decide) ?_
                refine g_icmp_ge cd75_160 rfl (fun hb => ?_) (fun hb => ?_)
                · have h := ifpE hb h
                  refine g_iinc (ls2 := [some (.ref a0), some (.ref a1), some (.ref a2), some (.int l3), some (.int l4), some (.int (l5 + 1)), some (.int (I (a0 + 1) l5.toNatClampNeg))]) cd75_181 rfl rfl rfl ?_
                  refine g_goto (ls2 := [some (.ref a0), some (.ref a1), some (.ref a2), some (.int l3), some (.int l4), some (.int (l5 + 1)), none]) cd75_184 rfl rfl ?_
                  exact ih l3 l4 (l5 + 1) I J h
                · have h := ifnE hb h
                  refine g_aload_n cd75_163 rfl rfl ?_
                  refine g_getP cd75_164 rfl (O8.o h0) (show P a0 3 = some (a0 + 4) from O8.p3 h0) ?_
                  refine g_iload cd75_167 rfl rfl ?_
                  refine g_aload_n cd75_169 rfl rfl ?_
                  refine g_aload_n cd75_170 rfl rfl ?_
                  refine g_aload_n cd75_171 rfl rfl ?_
                  refine g_iload cd75_172 rfl rfl ?_
                  obtain ⟨x31, hx, h⟩ := bnd h
                  refine g_callVI (L := [some (.ref a0), some (.ref a1), some (.ref a2), some (.int l5), none, none]) cd75_174 rfl rfl rfl rfl rfl (O8.o h0) (t_Sentence_bitsOfStep (by omega) h0 h1 h2 hx) ?_
                  obtain ⟨hg32, h⟩ := grd h
                  obtain ⟨I33, e1, h⟩ := bnd h
                  refine G_iast cd75_177 rfl (show S (a0 + 4) = (1, 20) from O8.s3 h0) hg32 (Option.some.inj e1) ?_
                  refine g_iinc (ls2 := [some (.ref a0), some (.ref a1), some (.ref a2), some (.int l3), some (.int (l4 + 1)), some (.int l5), some (.int (I (a0 + 1) l5.toNatClampNeg))]) cd75_178 rfl rfl rfl ?_
                  refine g_iinc (ls2 := [some (.ref a0), some (.ref a1), some (.ref a2), some (.int l3), some (.int (l4 + 1)), some (.int (l5 + 1)), some (.int (I (a0 + 1) l5.toNatClampNeg))]) cd75_181 rfl rfl rfl ?_
                  refine g_goto (ls2 := [some (.ref a0), some (.ref a1), some (.ref a2), some (.int l3), some (.int (l4 + 1)), some (.int (l5 + 1)), none]) cd75_184 rfl rfl ?_
                  exact ih l3 (l4 + 1) (l5 + 1) I33 J h
            · have h := ifnE hb h
              refine g_iinc (ls2 := [some (.ref a0), some (.ref a1), some (.ref a2), some (.int l3), some (.int (l4 + (-1))), some (.int l5), some (.int (I (a0 + 1) l5.toNatClampNeg))]) cd75_90 rfl rfl rfl ?_
              refine g_aload_n cd75_93 rfl rfl ?_
              refine g_getP cd75_94 rfl (O8.o h0) (show P a0 3 = some (a0 + 4) from O8.p3 h0) ?_
              refine g_iload cd75_97 rfl rfl ?_
              refine g_iconst cd75_99 rfl ?_
              refine g_isub cd75_100 rfl ?_
              refine g_dup2R cd75_101 rfl ?_
              obtain ⟨hg34, h⟩ := grd h
              refine G_iald cd75_102 rfl (show S (a0 + 4) = (1, 20) from O8.s3 h0) hg34 ?_
              refine g_aload_n cd75_103 rfl rfl ?_
              refine g_getP cd75_104 rfl (O8.o h0) (show P a0 3 = some (a0 + 4) from O8.p3 h0) ?_
              refine g_iload cd75_107 rfl rfl ?_
              obtain ⟨hg35, h⟩ := grd h
              refine G_iald cd75_109 rfl (show S (a0 + 4) = (1, 20) from O8.s3 h0) hg35 ?_
              refine g_iand cd75_110 rfl ?_
              obtain ⟨I36, e1, h⟩ := bnd h
              refine G_iast cd75_111 rfl (show S (a0 + 4) = (1, 20) from O8.s3 h0) hg34 (Option.some.inj e1) ?_
              refine g_goto (ls2 := [some (.ref a0), some (.ref a1), some (.ref a2), some (.int l3), some (.int (l4 + (-1))), some (.int l5), some (.int (I (a0 + 1) l5.toNatClampNeg))]) cd75_112 rfl rfl ?_
              refine g_iinc (ls2 := [some (.ref a0), some (.ref a1), some (.ref a2), some (.int l3), some (.int (l4 + (-1))), some (.int (l5 + 1)), some (.int (I (a0 + 1) l5.toNatClampNeg))]) cd75_181 rfl rfl rfl ?_
              refine g_goto (ls2 := [some (.ref a0), some (.ref a1), some (.ref a2), some (.int l3), some (.int (l4 + (-1))), some (.int (l5 + 1)), none]) cd75_184 rfl rfl ?_
              exact ih l3 (l4 + (-1)) (l5 + 1) I36 J h
          · have h := ifnE hb h
            refine g_iload cd75_115 rfl rfl ?_
            refine g_bipush cd75_117 rfl ?_
            refine g_icmp_ne cd75_119 rfl (fun hb => ?_) (fun hb => ?_)
            · have h := ifpE hb h
              refine g_iload cd75_122 rfl rfl ?_
              refine g_iconst cd75_124 rfl ?_
              refine g_icmp_le cd75_125 rfl (fun hb => ?_) (fun hb => ?_)
              · have h := ifpE hb h
                refine g_iload cd75_153 rfl rfl ?_
                refine g_aload_n cd75_155 rfl rfl ?_
                refine g_getP cd75_156 rfl (O8.o h0) (show P a0 3 = some (a0 + 4) from O8.p3 h0) ?_
                refine G_alen cd75_159 rfl (show S (a0 + 4) = (1, 20) from O8.s3 h0) (by decide) ?_
                refine g_icmp_ge cd75_160 rfl (fun hb => ?_) (fun hb => ?_)
                · have h := ifpE hb h
                  refine g_iinc (ls2 := [some (.ref a0), some (.ref a1), some (.ref a2), some (.int l3), some (.int l4), some (.int (l5 + 1)), some (.int (I (a0 + 1) l5.toNatClampNeg))]) cd75_181 rfl rfl rfl ?_
                  refine g_goto (ls2 := [some (.ref a0), some (.ref a1), some (.ref a2), some (.int l3), some (.int l4), some (.int (l5 + 1)), none]) cd75_184 rfl rfl ?_
                  exact ih l3 l4 (l5 + 1) I J h
                · have h := ifnE hb h
                  refine g_aload_n cd75_163 rfl rfl ?_
                  refine g_getP cd75_164 rfl (O8.o h0) (show P a0 3 = some (a0 + 4) from O8.p3 h0) ?_
                  refine g_iload cd75_167 rfl rfl ?_
                  refine g_aload_n cd75_169 rfl rfl ?_
                  refine g_aload_n cd75_170 rfl rfl ?_
                  refine g_aload_n cd75_171 rfl rfl ?_
                  refine g_iload cd75_172 rfl rfl ?_
                  obtain ⟨x37, hx, h⟩ := bnd h
                  refine g_callVI (L := [some (.ref a0), some (.ref a1), some (.ref a2), some (.int l5), none, none]) cd75_174 rfl rfl rfl rfl rfl (O8.o h0) (t_Sentence_bitsOfStep (by omega) h0 h1 h2 hx) ?_
                  obtain ⟨hg38, h⟩ := grd h
                  obtain ⟨I39, e1, h⟩ := bnd h
                  refine G_iast cd75_177 rfl (show S (a0 + 4) = (1, 20) from O8.s3 h0) hg38 (Option.some.inj e1) ?_
                  refine g_iinc (ls2 := [some (.ref a0), some (.ref a1), some (.ref a2), some (.int l3), some (.int (l4 + 1)), some (.int l5), some (.int (I (a0 + 1) l5.toNatClampNeg))]) cd75_178 rfl rfl rfl ?_
                  refine g_iinc (ls2 := [some (.ref a0), some (.ref a1), some (.ref a2), some (.int l3), some (.int (l4 + 1)), some (.int (l5 + 1)), some (.int (I (a0 + 1) l5.toNatClampNeg))]) cd75_181 rfl rfl rfl ?_
                  refine g_goto (ls2 := [some (.ref a0), some (.ref a1), some (.ref a2), some (.int l3), some (.int (l4 + 1)), some (.int (l5 + 1)), none]) cd75_184 rfl rfl ?_
                  exact ih l3 (l4 + 1) (l5 + 1) I39 J h
              · have h := ifnE hb h
                refine g_iinc (ls2 := [some (.ref a0), some (.ref a1), some (.ref a2), some (.int l3), some (.int (l4 + (-1))), some (.int l5), some (.int (I (a0 + 1) l5.toNatClampNeg))]) cd75_128 rfl rfl rfl ?_
                refine g_aload_n cd75_131 rfl rfl ?_
                refine g_getP cd75_132 rfl (O8.o h0) (show P a0 3 = some (a0 + 4) from O8.p3 h0) ?_
                refine g_iload cd75_135 rfl rfl ?_
                refine g_iconst cd75_137 rfl ?_
                refine g_isub cd75_138 rfl ?_
                refine g_dup2R cd75_139 rfl ?_
                obtain ⟨hg40, h⟩ := grd h
                refine G_iald cd75_140 rfl (show S (a0 + 4) = (1, 20) from O8.s3 h0) hg40 ?_
                refine g_aload_n cd75_141 rfl rfl ?_
                refine g_getP cd75_142 rfl (O8.o h0) (show P a0 3 = some (a0 + 4) from O8.p3 h0) ?_
                refine g_iload cd75_145 rfl rfl ?_
                obtain ⟨hg41, h⟩ := grd h
                refine G_iald cd75_147 rfl (show S (a0 + 4) = (1, 20) from O8.s3 h0) hg41 ?_
                refine g_ior cd75_148 rfl ?_
                obtain ⟨I42, e1, h⟩ := bnd h
                refine G_iast cd75_149 rfl (show S (a0 + 4) = (1, 20) from O8.s3 h0) hg40 (Option.some.inj e1) ?_
                refine g_goto (ls2 := [some (.ref a0), some (.ref a1), some (.ref a2), some (.int l3), some (.int (l4 + (-1))), some (.int l5), some (.int (I (a0 + 1) l5.toNatClampNeg))]) cd75_150 rfl rfl ?_
                refine g_iinc (ls2 := [some (.ref a0), some (.ref a1), some (.ref a2), some (.int l3), some (.int (l4 + (-1))), some (.int (l5 + 1)), some (.int (I (a0 + 1) l5.toNatClampNeg))]) cd75_181 rfl rfl rfl ?_
                refine g_goto (ls2 := [some (.ref a0), some (.ref a1), some (.ref a2), some (.int l3), some (.int (l4 + (-1))), some (.int (l5 + 1)), none]) cd75_184 rfl rfl ?_
                exact ih l3 (l4 + (-1)) (l5 + 1) I42 J h
            · have h := ifnE hb h
              refine g_iload cd75_153 rfl rfl ?_
              refine g_aload_n cd75_155 rfl rfl ?_
              refine g_getP cd75_156 rfl (O8.o h0) (show P a0 3 = some (a0 + 4) from O8.p3 h0) ?_
              refine G_alen cd75_159 rfl (show S (a0 + 4) = (1, 20) from O8.s3 h0) (by decide) ?_
              refine g_icmp_ge cd75_160 rfl (fun hb => ?_) (fun hb => ?_)
              · have h := ifpE hb h
                refine g_iinc (ls2 := [some (.ref a0), some (.ref a1), some (.ref a2), some (.int l3), some (.int l4), some (.int (l5 + 1)), some (.int (I (a0 + 1) l5.toNatClampNeg))]) cd75_181 rfl rfl rfl ?_
                refine g_goto (ls2 := [some (.ref a0), some (.ref a1), some (.ref a2), some (.int l3), some (.int l4), some (.int (l5 + 1)), none]) cd75_184 rfl rfl ?_
                exact ih l3 l4 (l5 + 1) I J h
              · have h := ifnE hb h
                refine g_aload_n cd75_163 rfl rfl ?_
                refine g_getP cd75_164 rfl (O8.o h0) (show P a0 3 = some (a0 + 4) from O8.p3 h0) ?_
                refine g_iload cd75_167 rfl rfl ?_
                refine g_aload_n cd75_169 rfl rfl ?_
                refine g_aload_n cd75_170 rfl rfl ?_
                refine g_aload_n cd75_171 rfl rfl ?_
                refine g_iload cd75_172 rfl rfl ?_
                obtain ⟨x43, hx, h⟩ := bnd h
                refine g_callVI (L := [some (.ref a0), some (.ref a1), some (.ref a2), some (.int l5), none, none]) cd75_174 rfl rfl rfl rfl rfl (O8.o h0) (t_Sentence_bitsOfStep (by omega) h0 h1 h2 hx) ?_
                obtain ⟨hg44, h⟩ := grd h
                obtain ⟨I45, e1, h⟩ := bnd h
                refine G_iast cd75_177 rfl (show S (a0 + 4) = (1, 20) from O8.s3 h0) hg44 (Option.some.inj e1) ?_
                refine g_iinc (ls2 := [some (.ref a0), some (.ref a1), some (.ref a2), some (.int l3), some (.int (l4 + 1)), some (.int l5), some (.int (I (a0 + 1) l5.toNatClampNeg))]) cd75_178 rfl rfl rfl ?_
                refine g_iinc (ls2 := [some (.ref a0), some (.ref a1), some (.ref a2), some (.int l3), some (.int (l4 + 1)), some (.int (l5 + 1)), some (.int (I (a0 + 1) l5.toNatClampNeg))]) cd75_181 rfl rfl rfl ?_
                refine g_goto (ls2 := [some (.ref a0), some (.ref a1), some (.ref a2), some (.int l3), some (.int (l4 + 1)), some (.int (l5 + 1)), none]) cd75_184 rfl rfl ?_
                exact ih l3 (l4 + 1) (l5 + 1) I45 J h
set_option maxRecDepth 8000 in
theorem t_Sentence_bitsOf {d : Nat} {N : Nat} {a0 a1 a2 : Nat} {c : Nat × Nat} {S : Nat → Nat × Nat} {P : Nat → Nat → Option Nat} {I : FI} {J : FJ} {r : Int32 × FI} (hd : 3 ≤ d) (h0 : O8 S P a0) (h1 : O6 S P a1) (h2 : O9 S P a2) (h : Sentence_bitsOf N a0 a1 a2 I = some r) : Go d M_Sentence_bitsOf 0 [some (.ref a0), some (.ref a1), some (.ref a2), none, none, none, none] [] (c, S, I, J, P) (some (.int r.1), false, (c, S, r.2, J, P)) := by
  obtain ⟨d, rfl⟩ : ∃ e, d = e + 1 := ⟨d - 1, by omega⟩
  unfold Sentence_bitsOf at h
  refine g_iconst cd75_0 rfl ?_
  refine g_aload_n cd75_1 rfl rfl ?_
  refine g_getI cd75_2 rfl (O6.o h1) ?_
  refine g_ishl cd75_5 rfl ?_
  refine g_iconst cd75_6 rfl ?_
  refine g_isub cd75_7 rfl ?_
  refine g_istore_n (ls2 := [some (.ref a0), some (.ref a1), some (.ref a2), some (.int ((1 <<< ((I a1 12) &&& 31)) - 1)), none, none, none]) cd75_8 rfl rfl ?_
  refine g_iconst cd75_9 rfl ?_
  refine g_istore (ls2 := [some (.ref a0), some (.ref a1), some (.ref a2), some (.int ((1 <<< ((I a1 12) &&& 31)) - 1)), some (.int 0), none, none]) cd75_10 rfl rfl ?_
  refine g_iconst cd75_12 rfl ?_
  refine g_istore (ls2 := [some (.ref a0), some (.ref a1), some (.ref a2), some (.int ((1 <<< ((I a1 12) &&& 31)) - 1)), some (.int 0), some (.int 0), none]) cd75_13 rfl rfl ?_
  exact t_Sentence_bitsOf_15 hd h0 h1 h2 _ ((1 <<< ((I a1 12) &&& 31)) - 1) 0 0 I J h

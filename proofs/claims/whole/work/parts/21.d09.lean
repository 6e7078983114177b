/-! HiddenOrLostModel.readPrior()Z -/
theorem cd203_0 : code9 203 0 = some (0, .aload_n 0, [1], .null, []) := rfl
theorem cd203_1 : code9 203 1 = some (0, .invokevirtual 200, [3, 202, 1, 1, 3, 1, 12, 0], .null, []) := rfl
theorem cd203_4 : code9 203 4 = some (0, .ifCond .ne 5, [3, 9], .null, []) := rfl
theorem cd203_7 : code9 203 7 = some (0, .iconst 0, [1], .int 0, []) := rfl
theorem cd203_8 : code9 203 8 = some (0, .ireturn, [1, 3], .null, []) := rfl
theorem cd203_9 : code9 203 9 = some (0, .aload_n 0, [1], .null, []) := rfl
theorem cd203_10 : code9 203 10 = some (0, .getfield 79, [3, 12, 13, 0], .null, []) := rfl
theorem cd203_13 : code9 203 13 = some (0, .istore_n 1, [1], .null, []) := rfl
theorem cd203_14 : code9 203 14 = some (0, .aload_n 0, [1], .null, []) := rfl
theorem cd203_15 : code9 203 15 = some (0, .bipush 13, [2], .int 13, []) := rfl
theorem cd203_17 : code9 203 17 = some (0, .iload_n 1, [1], .null, []) := rfl
theorem cd203_18 : code9 203 18 = some (0, .iadd, [1], .null, []) := rfl
theorem cd203_19 : code9 203 19 = some (0, .invokevirtual 180, [3, 189, 2, 1, 3, 2, 12, 0], .null, []) := rfl
theorem cd203_22 : code9 203 22 = some (0, .ifCond .eq 25, [3, 47], .null, []) := rfl
theorem cd203_25 : code9 203 25 = some (0, .aload_n 0, [1], .null, []) := rfl
theorem cd203_26 : code9 203 26 = some (0, .bipush 18, [2], .int 18, []) := rfl
theorem cd203_28 : code9 203 28 = some (0, .iload_n 1, [1], .null, []) := rfl
theorem cd203_29 : code9 203 29 = some (0, .iadd, [1], .null, []) := rfl
theorem cd203_30 : code9 203 30 = some (0, .aload_n 0, [1], .null, []) := rfl
theorem cd203_31 : code9 203 31 = some (0, .iconst 1, [1], .int 1, []) := rfl
theorem cd203_32 : code9 203 32 = some (0, .bipush 99, [2], .int 99, []) := rfl
theorem cd203_34 : code9 203 34 = some (0, .invokevirtual 183, [3, 190, 3, 1, 3, 3, 12, 0], .null, []) := rfl
theorem cd203_37 : code9 203 37 = some (0, .invokevirtual 187, [3, 192, 3, 1, 3, 3, 12, 0], .null, []) := rfl
theorem cd203_40 : code9 203 40 = some (0, .ifCond .eq 7, [3, 47], .null, []) := rfl
theorem cd203_43 : code9 203 43 = some (0, .iconst 1, [1], .int 1, []) := rfl
theorem cd203_44 : code9 203 44 = some (0, .goto 4, [3, 48, 2], .null, []) := rfl
theorem cd203_47 : code9 203 47 = some (3, .iconst 0, [1], .int 0, []) := rfl
theorem cd203_48 : code9 203 48 = some (3, .ireturn, [1, 3], .null, []) := rfl
def Mod_readPrior (N : Nat) (I : FI) (J : FJ) : Option (Bool × FI × FJ) := Option.bind (Mod_readReading N I J) fun x1 => (if x1.1 then (Option.bind (Mod_isFresh N (13 + (x1.2.1 204 13)) x1.2.1 x1.2.2) fun x2 => (if x2.1 then (Option.bind (Mod_readNumber N 1 99 x2.2.1 x2.2.2) fun x3 => (Option.bind (Mod_put (18 + (x1.2.1 204 13)) x3.1 x3.2.1) fun x4 => (if x4.1 then (some (true, x4.2, x3.2.2)) else (some (false, x4.2, x3.2.2))))) else (some (false, x2.2.1, x2.2.2)))) else (some (false, x1.2.1, x1.2.2)))
set_option maxRecDepth 8000 in
theorem t_Mod_readPrior {d : Nat} {N : Nat} {c : Nat × Nat} {S : Nat → Nat × Nat} {P : Nat → Nat → Option Nat} {I : FI} {J : FJ} {r : Bool × FI × FJ} (hd : 5 ≤ d) (hw : OM S P) (h : Mod_readPrior N I J = some r) : Go d M_Mod_readPrior 0 [some (.ref 204), none] [] (c, S, I, J, P) (some (.int (b2i r.1)), false, (c, S, r.2.1, r.2.2, P)) := by
  obtain ⟨d, rfl⟩ : ∃ e, d = e + 1 := ⟨d - 1, by omega⟩
  unfold Mod_readPrior at h
  refine g_aload_n cd203_0 rfl rfl ?_
  obtain ⟨x1, hx, h⟩ := bnd h
  refine g_callVZ (L := [some (.ref 204)]) cd203_1 rfl rfl rfl rfl rfl (OM.o hw) (t_Mod_readReading (by omega) hw hx) ?_
  refine g_if_ne cd203_4 rfl (fun hb => ?_) (fun hb => ?_)
  · have h := ifnE (b2i_f hb) h
    refine g_iconst cd203_7 rfl ?_
    exact g_iret cd203_8 (Or.inr ⟨rfl, Or.inl rfl⟩) (by obtain rfl := Option.some.inj h; rfl)
  · have h := ifpE (b2i_t hb) h
    refine g_aload_n cd203_9 rfl rfl ?_
    refine g_getI cd203_10 rfl (OM.o hw) ?_
    refine g_istore_n (ls2 := [some (.ref 204), some (.int (x1.2.1 204 13))]) cd203_13 rfl rfl ?_
    refine g_aload_n cd203_14 rfl rfl ?_
    refine g_bipush cd203_15 rfl ?_
    refine g_iload_n cd203_17 rfl rfl ?_
    refine g_iadd cd203_18 rfl ?_
    obtain ⟨x2, hx, h⟩ := bnd h
    refine g_callVZ (L := [some (.ref 204), some (.int (13 + (x1.2.1 204 13)))]) cd203_19 rfl rfl rfl rfl rfl (OM.o hw) (t_Mod_isFresh (by omega) hw hx) ?_
    refine g_if_eq cd203_22 rfl (fun hb => ?_) (fun hb => ?_)
    · have h := ifnE (b2i_f hb) h
      refine g_iconst cd203_47 rfl ?_
      exact g_iret cd203_48 (Or.inr ⟨rfl, Or.inl rfl⟩) (by obtain rfl := Option.some.inj h; rfl)
    · have h := ifpE (b2i_t hb) h
      refine g_aload_n cd203_25 rfl rfl ?_
      refine g_bipush cd203_26 rfl ?_
      refine g_iload_n cd203_28 rfl rfl ?_
      refine g_iadd cd203_29 rfl ?_
      refine g_aload_n cd203_30 rfl rfl ?_
      refine g_iconst cd203_31 rfl ?_
      refine g_bipush cd203_32 rfl ?_
      obtain ⟨x3, hx, h⟩ := bnd h
      refine g_callVZ (L := [some (.ref 204), some (.int 1), some (.int 99)]) cd203_34 rfl rfl rfl rfl rfl (OM.o hw) (t_Mod_readNumber (by omega) hw hx) ?_
      obtain ⟨x4, hx, h⟩ := bnd h
      refine g_callVZ (L := [some (.ref 204), some (.int (18 + (x1.2.1 204 13))), some (.int (b2i x3.1))]) cd203_37 rfl rfl rfl rfl rfl (OM.o hw) (t_Mod_put (by omega) hw hx) ?_
      refine g_if_eq cd203_40 rfl (fun hb => ?_) (fun hb => ?_)
      · have h := ifnE (b2i_f hb) h
        refine g_iconst cd203_47 rfl ?_
        exact g_iret cd203_48 (Or.inr ⟨rfl, Or.inl rfl⟩) (by obtain rfl := Option.some.inj h; rfl)
      · have h := ifpE (b2i_t hb) h
        refine g_iconst cd203_43 rfl ?_
        refine g_goto (ls2 := [some (.ref 204), some (.int (x1.2.1 204 13))]) cd203_44 rfl rfl ?_
        exact g_iret cd203_48 (Or.inr ⟨rfl, Or.inr rfl⟩) (by obtain rfl := Option.some.inj h; rfl)
/-! HiddenOrLostModel.readGets()Z -/
theorem cd204_0 : code9 204 0 = some (0, .aload_n 0, [1], .null, []) := rfl
theorem cd204_1 : code9 204 1 = some (0, .invokevirtual 200, [3, 202, 1, 1, 3, 1, 12, 0], .null, []) := rfl
theorem cd204_4 : code9 204 4 = some (0, .ifCond .ne 5, [3, 9], .null, []) := rfl
theorem cd204_7 : code9 204 7 = some (0, .iconst 0, [1], .int 0, []) := rfl
theorem cd204_8 : code9 204 8 = some (0, .ireturn, [1, 3], .null, []) := rfl
theorem cd204_9 : code9 204 9 = some (0, .iconst 3, [1], .int 3, []) := rfl
theorem cd204_10 : code9 204 10 = some (0, .aload_n 0, [1], .null, []) := rfl
theorem cd204_11 : code9 204 11 = some (0, .getfield 79, [3, 12, 13, 0], .null, []) := rfl
theorem cd204_14 : code9 204 14 = some (0, .imul, [1], .null, []) := rfl
theorem cd204_15 : code9 204 15 = some (0, .istore_n 1, [1], .null, []) := rfl
theorem cd204_16 : code9 204 16 = some (0, .aload_n 0, [1], .null, []) := rfl
theorem cd204_17 : code9 204 17 = some (0, .invokevirtual 82, [3, 179, 1, 1, 0, 5, 12, 0], .null, []) := rfl
theorem cd204_20 : code9 204 20 = some (0, .aload_n 0, [1], .null, []) := rfl
theorem cd204_21 : code9 204 21 = some (0, .bipush 10, [2], .int 10, []) := rfl
theorem cd204_23 : code9 204 23 = some (0, .bipush 12, [2], .int 12, []) := rfl
theorem cd204_25 : code9 204 25 = some (0, .invokevirtual 197, [3, 199, 3, 1, 3, 4, 12, 0], .null, []) := rfl
theorem cd204_28 : code9 204 28 = some (0, .ifCond .ne 5, [3, 33], .null, []) := rfl
theorem cd204_31 : code9 204 31 = some (0, .iconst 0, [1], .int 0, []) := rfl
theorem cd204_32 : code9 204 32 = some (0, .ireturn, [1, 3], .null, []) := rfl
theorem cd204_33 : code9 204 33 = some (0, .iload_n 1, [1], .null, []) := rfl
theorem cd204_34 : code9 204 34 = some (0, .aload_n 0, [1], .null, []) := rfl
theorem cd204_35 : code9 204 35 = some (0, .getfield 79, [3, 12, 13, 0], .null, []) := rfl
theorem cd204_38 : code9 204 38 = some (0, .iadd, [1], .null, []) := rfl
theorem cd204_39 : code9 204 39 = some (0, .istore_n 1, [1], .null, []) := rfl
theorem cd204_40 : code9 204 40 = some (0, .aload_n 0, [1], .null, []) := rfl
theorem cd204_41 : code9 204 41 = some (0, .bipush 16, [2], .int 16, []) := rfl
theorem cd204_43 : code9 204 43 = some (0, .iload_n 1, [1], .null, []) := rfl
theorem cd204_44 : code9 204 44 = some (0, .iadd, [1], .null, []) := rfl
theorem cd204_45 : code9 204 45 = some (0, .invokevirtual 180, [3, 189, 2, 1, 3, 2, 12, 0], .null, []) := rfl
theorem cd204_48 : code9 204 48 = some (0, .ifCond .eq 25, [3, 73], .null, []) := rfl
theorem cd204_51 : code9 204 51 = some (0, .aload_n 0, [1], .null, []) := rfl
theorem cd204_52 : code9 204 52 = some (0, .bipush 21, [2], .int 21, []) := rfl
theorem cd204_54 : code9 204 54 = some (0, .iload_n 1, [1], .null, []) := rfl
theorem cd204_55 : code9 204 55 = some (0, .iadd, [1], .null, []) := rfl
theorem cd204_56 : code9 204 56 = some (0, .aload_n 0, [1], .null, []) := rfl
theorem cd204_57 : code9 204 57 = some (0, .iconst 0, [1], .int 0, []) := rfl
theorem cd204_58 : code9 204 58 = some (0, .bipush 12, [2], .int 12, []) := rfl
theorem cd204_60 : code9 204 60 = some (0, .invokevirtual 183, [3, 190, 3, 1, 3, 3, 12, 0], .null, []) := rfl
theorem cd204_63 : code9 204 63 = some (0, .invokevirtual 187, [3, 192, 3, 1, 3, 3, 12, 0], .null, []) := rfl
theorem cd204_66 : code9 204 66 = some (0, .ifCond .eq 7, [3, 73], .null, []) := rfl
theorem cd204_69 : code9 204 69 = some (0, .iconst 1, [1], .int 1, []) := rfl
theorem cd204_70 : code9 204 70 = some (0, .goto 4, [3, 74, 2], .null, []) := rfl
theorem cd204_73 : code9 204 73 = some (3, .iconst 0, [1], .int 0, []) := rfl
theorem cd204_74 : code9 204 74 = some (3, .ireturn, [1, 3], .null, []) := rfl
def Mod_readGets (N : Nat) (I : FI) (J : FJ) : Option (Bool × FI × FJ) := Option.bind (Mod_readReading N I J) fun x1 => (if x1.1 then (Option.bind (Mod_go N x1.2.1 x1.2.2) fun x2 => (Option.bind (Mod_isOneOf N 10 12 x2.1 x2.2) fun x3 => (if x3.1 then (Option.bind (Mod_isFresh N (16 + ((3 * (x1.2.1 204 13)) + (x3.2 204 13))) x3.2 x2.2) fun x4 => (if x4.1 then (Option.bind (Mod_readNumber N 0 12 x4.2.1 x4.2.2) fun x5 => (Option.bind (Mod_put (21 + ((3 * (x1.2.1 204 13)) + (x3.2 204 13))) x5.1 x5.2.1) fun x6 => (if x6.1 then (some (true, x6.2, x5.2.2)) else (some (false, x6.2, x5.2.2))))) else (some (false, x4.2.1, x4.2.2)))) else (some (false, x3.2, x2.2))))) else (some (false, x1.2.1, x1.2.2)))
set_option maxRecDepth 8000 in
theorem t_Mod_readGets {d : Nat} {N : Nat} {c : Nat × Nat} {S : Nat → Nat × Nat} {P : Nat → Nat → Option Nat} {I : FI} {J : FJ} {r : Bool × FI × FJ} (hd : 5 ≤ d) (hw : OM S P) (h : Mod_readGets N I J = some r) : Go d M_Mod_readGets 0 [some (.ref 204), none] [] (c, S, I, J, P) (some (.int (b2i r.1)), false, (c, S, r.2.1, r.2.2, P)) := by
  obtain ⟨d, rfl⟩ : ∃ e, d = e + 1 := ⟨d - 1, by omega⟩
  unfold Mod_readGets at h
  refine g_aload_n cd204_0 rfl rfl ?_
  obtain ⟨x1, hx, h⟩ := bnd h
  refine g_callVZ (L := [some (.ref 204)]) cd204_1 rfl rfl rfl rfl rfl (OM.o hw) (t_Mod_readReading (by omega) hw hx) ?_
  refine g_if_ne cd204_4 rfl (fun hb => ?_) (fun hb => ?_)
  · have h := ifnE (b2i_f hb) h
    refine g_iconst cd204_7 rfl ?_
    exact g_iret cd204_8 (Or.inr ⟨rfl, Or.inl rfl⟩) (by obtain rfl := Option.some.inj h; rfl)
  · have h := ifpE (b2i_t hb) h
    refine g_iconst cd204_9 rfl ?_
    refine g_aload_n cd204_10 rfl rfl ?_
    refine g_getI cd204_11 rfl (OM.o hw) ?_
    refine g_imul cd204_14 rfl ?_
    refine g_istore_n (ls2 := [some (.ref 204), some (.int (3 * (x1.2.1 204 13)))]) cd204_15 rfl rfl ?_
    refine g_aload_n cd204_16 rfl rfl ?_
    obtain ⟨x2, hx, h⟩ := bnd h
    refine g_callVV (L := [some (.ref 204), none, none, none, none]) cd204_17 rfl rfl rfl rfl rfl (OM.o hw) (t_Mod_go (by omega) hw hx) ?_
    refine g_aload_n cd204_20 rfl rfl ?_
    refine g_bipush cd204_21 rfl ?_
    refine g_bipush cd204_23 rfl ?_
    obtain ⟨x3, hx, h⟩ := bnd h
    refine g_callVZ (L := [some (.ref 204), some (.int 10), some (.int 12), none]) cd204_25 rfl rfl rfl rfl rfl (OM.o hw) (t_Mod_isOneOf (by omega) hw hx) ?_
    refine g_if_ne cd204_28 rfl (fun hb => ?_) (fun hb => ?_)
    · have h := ifnE (b2i_f hb) h
      refine g_iconst cd204_31 rfl ?_
      exact g_iret cd204_32 (Or.inr ⟨rfl, Or.inl rfl⟩) (by obtain rfl := Option.some.inj h; rfl)
    · have h := ifpE (b2i_t hb) h
      refine g_iload_n cd204_33 rfl rfl ?_
      refine g_aload_n cd204_34 rfl rfl ?_
      refine g_getI cd204_35 rfl (OM.o hw) ?_
      refine g_iadd cd204_38 rfl ?_
      refine g_istore_n (ls2 := [some (.ref 204), some (.int ((3 * (x1.2.1 204 13)) + (x3.2 204 13)))]) cd204_39 rfl rfl ?_
      refine g_aload_n cd204_40 rfl rfl ?_
      refine g_bipush cd204_41 rfl ?_
      refine g_iload_n cd204_43 rfl rfl ?_
      refine g_iadd cd204_44 rfl ?_
      obtain ⟨x4, hx, h⟩ := bnd h
      refine g_callVZ (L := [some (.ref 204), some (.int (16 + ((3 * (x1.2.1 204 13)) + (x3.2 204 13))))]) cd204_45 rfl rfl rfl rfl rfl (OM.o hw) (t_Mod_isFresh (by omega) hw hx) ?_
      refine g_if_eq cd204_48 rfl (fun hb => ?_) (fun hb => ?_)
      · have h := ifnE (b2i_f hb) h
        refine g_iconst cd204_73 rfl ?_
        exact g_iret cd204_74 (Or.inr ⟨rfl, Or.inl rfl⟩) (by obtain rfl := Option.some.inj h; rfl)
      · have h := ifpE (b2i_t hb) h
        refine g_aload_n cd204_51 rfl rfl ?_
        refine g_bipush cd204_52 rfl ?_
        refine g_iload_n cd204_54 rfl rfl ?_
        refine g_iadd cd204_55 rfl ?_
        refine g_aload_n cd204_56 rfl rfl ?_
        refine g_iconst cd204_57 rfl ?_
        refine g_bipush cd204_58 rfl ?_
        obtain ⟨x5, hx, h⟩ := bnd h
        refine g_callVZ (L := [some (.ref 204), some (.int 0), some (.int 12)]) cd204_60 rfl rfl rfl rfl rfl (OM.o hw) (t_Mod_readNumber (by omega) hw hx) ?_
        obtain ⟨x6, hx, h⟩ := bnd h
        refine g_callVZ (L := [some (.ref 204), some (.int (21 + ((3 * (x1.2.1 204 13)) + (x3.2 204 13)))), some (.int (b2i x5.1))]) cd204_63 rfl rfl rfl rfl rfl (OM.o hw) (t_Mod_put (by omega) hw hx) ?_
        refine g_if_eq cd204_66 rfl (fun hb => ?_) (fun hb => ?_)
        · have h := ifnE (b2i_f hb) h
          refine g_iconst cd204_73 rfl ?_
          exact g_iret cd204_74 (Or.inr ⟨rfl, Or.inl rfl⟩) (by obtain rfl := Option.some.inj h; rfl)
        · have h := ifpE (b2i_t hb) h
          refine g_iconst cd204_69 rfl ?_
          refine g_goto (ls2 := [some (.ref 204), some (.int ((3 * (x1.2.1 204 13)) + (x3.2 204 13)))]) cd204_70 rfl rfl ?_
          exact g_iret cd204_74 (Or.inr ⟨rfl, Or.inr rfl⟩) (by obtain rfl := Option.some.inj h; rfl)
/-! HiddenOrLostModel.readLine()Z -/
theorem cd183_0 : code9 183 0 = some (0, .aload_n 0, [1], .null, []) := rfl
theorem cd183_1 : code9 183 1 = some (0, .iconst 0, [1], .int 0, []) := rfl
theorem cd183_2 : code9 183 2 = some (0, .invokevirtual 177, [3, 184, 2, 1, 3, 2, 12, 0], .null, []) := rfl
theorem cd183_5 : code9 183 5 = some (0, .ifCond .eq 8, [3, 13], .null, []) := rfl
theorem cd183_8 : code9 183 8 = some (0, .aload_n 0, [1], .null, []) := rfl
theorem cd183_9 : code9 183 9 = some (0, .invokevirtual 203, [3, 187, 1, 1, 3, 1, 12, 0], .null, []) := rfl
theorem cd183_12 : code9 183 12 = some (0, .ireturn, [1, 3], .null, []) := rfl
theorem cd183_13 : code9 183 13 = some (0, .aload_n 0, [1], .null, []) := rfl
theorem cd183_14 : code9 183 14 = some (0, .iconst 1, [1], .int 1, []) := rfl
theorem cd183_15 : code9 183 15 = some (0, .invokevirtual 177, [3, 184, 2, 1, 3, 2, 12, 0], .null, []) := rfl
theorem cd183_18 : code9 183 18 = some (0, .ifCond .eq 8, [3, 26], .null, []) := rfl
theorem cd183_21 : code9 183 21 = some (0, .aload_n 0, [1], .null, []) := rfl
theorem cd183_22 : code9 183 22 = some (0, .invokevirtual 206, [3, 193, 1, 1, 3, 1, 12, 0], .null, []) := rfl
theorem cd183_25 : code9 183 25 = some (0, .ireturn, [1, 3], .null, []) := rfl
theorem cd183_26 : code9 183 26 = some (0, .aload_n 0, [1], .null, []) := rfl
theorem cd183_27 : code9 183 27 = some (0, .iconst 2, [1], .int 2, []) := rfl
theorem cd183_28 : code9 183 28 = some (0, .invokevirtual 177, [3, 184, 2, 1, 3, 2, 12, 0], .null, []) := rfl
theorem cd183_31 : code9 183 31 = some (0, .ifCond .eq 8, [3, 39], .null, []) := rfl
theorem cd183_34 : code9 183 34 = some (0, .aload_n 0, [1], .null, []) := rfl
theorem cd183_35 : code9 183 35 = some (0, .invokevirtual 209, [3, 198, 1, 1, 3, 2, 12, 0], .null, []) := rfl
theorem cd183_38 : code9 183 38 = some (0, .ireturn, [1, 3], .null, []) := rfl
theorem cd183_39 : code9 183 39 = some (0, .aload_n 0, [1], .null, []) := rfl
theorem cd183_40 : code9 183 40 = some (0, .iconst 3, [1], .int 3, []) := rfl
theorem cd183_41 : code9 183 41 = some (0, .invokevirtual 177, [3, 184, 2, 1, 3, 2, 12, 0], .null, []) := rfl
theorem cd183_44 : code9 183 44 = some (0, .ifCond .eq 8, [3, 52], .null, []) := rfl
theorem cd183_47 : code9 183 47 = some (0, .aload_n 0, [1], .null, []) := rfl
theorem cd183_48 : code9 183 48 = some (0, .invokevirtual 212, [3, 200, 1, 1, 3, 2, 12, 0], .null, []) := rfl
theorem cd183_51 : code9 183 51 = some (0, .ireturn, [1, 3], .null, []) := rfl
theorem cd183_52 : code9 183 52 = some (0, .aload_n 0, [1], .null, []) := rfl
theorem cd183_53 : code9 183 53 = some (0, .iconst 4, [1], .int 4, []) := rfl
theorem cd183_54 : code9 183 54 = some (0, .invokevirtual 177, [3, 184, 2, 1, 3, 2, 12, 0], .null, []) := rfl
theorem cd183_57 : code9 183 57 = some (0, .ifCond .eq 8, [3, 65], .null, []) := rfl
theorem cd183_60 : code9 183 60 = some (0, .aload_n 0, [1], .null, []) := rfl
theorem cd183_61 : code9 183 61 = some (0, .invokevirtual 215, [3, 201, 1, 1, 3, 2, 12, 0], .null, []) := rfl
theorem cd183_64 : code9 183 64 = some (0, .ireturn, [1, 3], .null, []) := rfl
theorem cd183_65 : code9 183 65 = some (0, .aload_n 0, [1], .null, []) := rfl
theorem cd183_66 : code9 183 66 = some (0, .bipush 8, [2], .int 8, []) := rfl
theorem cd183_68 : code9 183 68 = some (0, .invokevirtual 177, [3, 184, 2, 1, 3, 2, 12, 0], .null, []) := rfl
theorem cd183_71 : code9 183 71 = some (0, .ifCond .eq 8, [3, 79], .null, []) := rfl
theorem cd183_74 : code9 183 74 = some (0, .aload_n 0, [1], .null, []) := rfl
theorem cd183_75 : code9 183 75 = some (0, .invokevirtual 218, [3, 203, 1, 1, 3, 2, 12, 0], .null, []) := rfl
theorem cd183_78 : code9 183 78 = some (0, .ireturn, [1, 3], .null, []) := rfl
theorem cd183_79 : code9 183 79 = some (0, .aload_n 0, [1], .null, []) := rfl
theorem cd183_80 : code9 183 80 = some (0, .bipush 9, [2], .int 9, []) := rfl
theorem cd183_82 : code9 183 82 = some (0, .invokevirtual 177, [3, 184, 2, 1, 3, 2, 12, 0], .null, []) := rfl
theorem cd183_85 : code9 183 85 = some (0, .ifCond .eq 8, [3, 93], .null, []) := rfl
theorem cd183_88 : code9 183 88 = some (0, .aload_n 0, [1], .null, []) := rfl
theorem cd183_89 : code9 183 89 = some (0, .invokevirtual 221, [3, 204, 1, 1, 3, 2, 12, 0], .null, []) := rfl
theorem cd183_92 : code9 183 92 = some (0, .ireturn, [1, 3], .null, []) := rfl
theorem cd183_93 : code9 183 93 = some (0, .aload_n 0, [1], .null, []) := rfl
theorem cd183_94 : code9 183 94 = some (0, .bipush 13, [2], .int 13, []) := rfl
theorem cd183_96 : code9 183 96 = some (0, .invokevirtual 177, [3, 184, 2, 1, 3, 2, 12, 0], .null, []) := rfl
theorem cd183_99 : code9 183 99 = some (0, .ifCond .eq 35, [3, 134], .null, []) := rfl
theorem cd183_102 : code9 183 102 = some (0, .aload_n 0, [1], .null, []) := rfl
theorem cd183_103 : code9 183 103 = some (0, .bipush 25, [2], .int 25, []) := rfl
theorem cd183_105 : code9 183 105 = some (0, .invokevirtual 180, [3, 189, 2, 1, 3, 2, 12, 0], .null, []) := rfl
theorem cd183_108 : code9 183 108 = some (0, .ifCond .eq 22, [3, 130], .null, []) := rfl
theorem cd183_111 : code9 183 111 = some (0, .aload_n 0, [1], .null, []) := rfl
theorem cd183_112 : code9 183 112 = some (0, .iconst 5, [1], .int 5, []) := rfl
theorem cd183_113 : code9 183 113 = some (0, .aload_n 0, [1], .null, []) := rfl
theorem cd183_114 : code9 183 114 = some (0, .iconst 0, [1], .int 0, []) := rfl
theorem cd183_115 : code9 183 115 = some (0, .bipush 12, [2], .int 12, []) := rfl
theorem cd183_117 : code9 183 117 = some (0, .invokevirtual 183, [3, 190, 3, 1, 3, 3, 12, 0], .null, []) := rfl
theorem cd183_120 : code9 183 120 = some (0, .invokevirtual 187, [3, 192, 3, 1, 3, 3, 12, 0], .null, []) := rfl
theorem cd183_123 : code9 183 123 = some (0, .ifCond .eq 7, [3, 130], .null, []) := rfl
theorem cd183_126 : code9 183 126 = some (0, .iconst 1, [1], .int 1, []) := rfl
theorem cd183_127 : code9 183 127 = some (0, .goto 12, [3, 139, 1], .null, []) := rfl
theorem cd183_130 : code9 183 130 = some (2, .iconst 0, [1], .int 0, []) := rfl
theorem cd183_131 : code9 183 131 = some (0, .goto 8, [3, 139, 1], .null, []) := rfl
theorem cd183_134 : code9 183 134 = some (0, .aload_n 0, [1], .null, []) := rfl
theorem cd183_135 : code9 183 135 = some (0, .iconst 1, [1], .int 1, []) := rfl
theorem cd183_136 : code9 183 136 = some (0, .invokevirtual 72, [3, 188, 2, 1, 3, 2, 12, 0], .null, []) := rfl
theorem cd183_139 : code9 183 139 = some (2, .ireturn, [1, 3], .null, []) := rfl
def Mod_readLine (N : Nat) (I : FI) (J : FJ) : Option (Bool × FI × FJ) := if (Mod_isWord 0 I J) then (Option.bind (Mod_readField N I J) fun x11 => (some (x11.1, x11.2.1, x11.2.2))) else (if (Mod_isWord 1 I J) then (Option.bind (Mod_readPerson N I J) fun x10 => (some (x10.1, x10.2.1, x10.2.2))) else (if (Mod_isWord 2 I J) then (Option.bind (Mod_readFind N I J) fun x9 => (some (x9.1, x9.2.1, x9.2.2))) else (if (Mod_isWord 3 I J) then (Option.bind (Mod_readFear N I J) fun x8 => (some (x8.1, x8.2.1, x8.2.2))) else (if (Mod_isWord 4 I J) then (Option.bind (Mod_readHint N I J) fun x7 => (some (x7.1, x7.2.1, x7.2.2))) else (if (Mod_isWord 8 I J) then (Option.bind (Mod_readPrior N I J) fun x6 => (some (x6.1, x6.2.1, x6.2.2))) else (if (Mod_isWord 9 I J) then (Option.bind (Mod_readGets N I J) fun x5 => (some (x5.1, x5.2.1, x5.2.2))) else (if (Mod_isWord 13 I J) then (Option.bind (Mod_isFresh N 25 I J) fun x2 => (if x2.1 then (Option.bind (Mod_readNumber N 0 12 x2.2.1 x2.2.2) fun x3 => (Option.bind (Mod_put 5 x3.1 x3.2.1) fun x4 => (if x4.1 then (some (true, x4.2, x3.2.2)) else (some (false, x4.2, x3.2.2))))) else (some (false, x2.2.1, x2.2.2)))) else (Option.bind (Mod_bad 1 I) fun x1 => (some (x1.1, x1.2, J))))))))))
set_option maxRecDepth 8000 in
theorem t_Mod_readLine {d : Nat} {N : Nat} {c : Nat × Nat} {S : Nat → Nat × Nat} {P : Nat → Nat → Option Nat} {I : FI} {J : FJ} {r : Bool × FI × FJ} (hd : 6 ≤ d) (hw : OM S P) (h : Mod_readLine N I J = some r) : Go d M_Mod_readLine 0 [some (.ref 204)] [] (c, S, I, J, P) (some (.int (b2i r.1)), false, (c, S, r.2.1, r.2.2, P)) := by
  obtain ⟨d, rfl⟩ : ∃ e, d = e + 1 := ⟨d - 1, by omega⟩
  unfold Mod_readLine at h
  refine g_aload_n cd183_0 rfl rfl ?_
  refine g_iconst cd183_1 rfl ?_
  refine g_callVZ (L := [some (.ref 204), some (.int 0)]) cd183_2 rfl rfl rfl rfl rfl (OM.o hw) (t_Mod_isWord (by omega) hw rfl) ?_
  refine g_if_eq cd183_5 rfl (fun hb => ?_) (fun hb => ?_)
  · have h := ifnE (b2i_f hb) h
    refine g_aload_n cd183_13 rfl rfl ?_
    refine g_iconst cd183_14 rfl ?_
    refine g_callVZ (L := [some (.ref 204), some (.int 1)]) cd183_15 rfl rfl rfl rfl rfl (OM.o hw) (t_Mod_isWord (by omega) hw rfl) ?_
    refine g_if_eq cd183_18 rfl (fun hb => ?_) (fun hb => ?_)
    · have h := ifnE (b2i_f hb) h
      refine g_aload_n cd183_26 rfl rfl ?_
      refine g_iconst cd183_27 rfl ?_
      refine g_callVZ (L := [some (.ref 204), some (.int 2)]) cd183_28 rfl rfl rfl rfl rfl (OM.o hw) (t_Mod_isWord (by omega) hw rfl) ?_
      refine g_if_eq cd183_31 rfl (fun hb => ?_) (fun hb => ?_)
      · have h := ifnE (b2i_f hb) h
        refine g_aload_n cd183_39 rfl rfl ?_
        refine g_iconst cd183_40 rfl ?_
        refine g_callVZ (L := [some (.ref 204), some (.int 3)]) cd183_41 rfl rfl rfl rfl rfl (OM.o hw) (t_Mod_isWord (by omega) hw rfl) ?_
        refine g_if_eq cd183_44 rfl (fun hb => ?_) (fun hb => ?_)
        · have h := ifnE (b2i_f hb) h
          refine g_aload_n cd183_52 rfl rfl ?_
          refine g_iconst cd183_53 rfl ?_
          refine g_callVZ (L := [some (.ref 204), some (.int 4)]) cd183_54 rfl rfl rfl rfl rfl (OM.o hw) (t_Mod_isWord (by omega) hw rfl) ?_
          refine g_if_eq cd183_57 rfl (fun hb => ?_) (fun hb => ?_)
          · have h := ifnE (b2i_f hb) h
            refine g_aload_n cd183_65 rfl rfl ?_
            refine g_bipush cd183_66 rfl ?_
            refine g_callVZ (L := [some (.ref 204), some (.int 8)]) cd183_68 rfl rfl rfl rfl rfl (OM.o hw) (t_Mod_isWord (by omega) hw rfl) ?_
            refine g_if_eq cd183_71 rfl (fun hb => ?_) (fun hb => ?_)
            · have h := ifnE (b2i_f hb) h
              refine g_aload_n cd183_79 rfl rfl ?_
              refine g_bipush cd183_80 rfl ?_
              refine g_callVZ (L := [some (.ref 204), some (.int 9)]) cd183_82 rfl rfl rfl rfl rfl (OM.o hw) (t_Mod_isWord (by omega) hw rfl) ?_
              refine g_if_eq cd183_85 rfl (fun hb => ?_) (fun hb => ?_)
              · have h := ifnE (b2i_f hb) h
                refine g_aload_n cd183_93 rfl rfl ?_
                refine g_bipush cd183_94 rfl ?_
                refine g_callVZ (L := [some (.ref 204), some (.int 13)]) cd183_96 rfl rfl rfl rfl rfl (OM.o hw) (t_Mod_isWord (by omega) hw rfl) ?_
                refine g_if_eq cd183_99 rfl (fun hb => ?_) (fun hb => ?_)
                · have h := ifnE (b2i_f hb) h
                  refine g_aload_n cd183_134 rfl rfl ?_
                  refine g_iconst cd183_135 rfl ?_
                  obtain ⟨x1, hx, h⟩ := bnd h
                  refine g_callVZ (L := [some (.ref 204), some (.int 1)]) cd183_136 rfl rfl rfl rfl rfl (OM.o hw) (t_Mod_bad (by omega) hw hx) ?_
                  exact g_iret cd183_139 (Or.inr ⟨rfl, b2i_or _⟩) (by obtain rfl := Option.some.inj h; rfl)
                · have h := ifpE (b2i_t hb) h
                  refine g_aload_n cd183_102 rfl rfl ?_
                  refine g_bipush cd183_103 rfl ?_
                  obtain ⟨x2, hx, h⟩ := bnd h
                  refine g_callVZ (L := [some (.ref 204), some (.int 25)]) cd183_105 rfl rfl rfl rfl rfl (OM.o hw) (t_Mod_isFresh (by omega) hw hx) ?_
                  refine g_if_eq cd183_108 rfl (fun hb => ?_) (fun hb => ?_)
                  · have h := ifnE (b2i_f hb) h
                    refine g_iconst cd183_130 rfl ?_
                    refine g_goto (ls2 := [some (.ref 204)]) cd183_131 rfl rfl ?_
                    exact g_iret cd183_139 (Or.inr ⟨rfl, Or.inl rfl⟩) (by obtain rfl := Option.some.inj h; rfl)
                  · have h := ifpE (b2i_t hb) h
                    refine g_aload_n cd183_111 rfl rfl ?_
                    refine g_iconst cd183_112 rfl ?_
                    refine g_aload_n cd183_113 rfl rfl ?_
                    refine g_iconst cd183_114 rfl ?_
                    refine g_bipush cd183_115 rfl ?_
                    obtain ⟨x3, hx, h⟩ := bnd h
                    refine g_callVZ (L := [some (.ref 204), some (.int 0), some (.int 12)]) cd183_117 rfl rfl rfl rfl rfl (OM.o hw) (t_Mod_readNumber (by omega) hw hx) ?_
                    obtain ⟨x4, hx, h⟩ := bnd h
                    refine g_callVZ (L := [some (.ref 204), some (.int 5), some (.int (b2i x3.1))]) cd183_120 rfl rfl rfl rfl rfl (OM.o hw) (t_Mod_put (by omega) hw hx) ?_
                    refine g_if_eq cd183_123 rfl (fun hb => ?_) (fun hb => ?_)
                    · have h := ifnE (b2i_f hb) h
                      refine g_iconst cd183_130 rfl ?_
                      refine g_goto (ls2 := [some (.ref 204)]) cd183_131 rfl rfl ?_
                      exact g_iret cd183_139 (Or.inr ⟨rfl, Or.inl rfl⟩) (by obtain rfl := Option.some.inj h; rfl)
                    · have h := ifpE (b2i_t hb) h
                      refine g_iconst cd183_126 rfl ?_
                      refine g_goto (ls2 := [some (.ref 204)]) cd183_127 rfl rfl ?_
                      exact g_iret cd183_139 (Or.inr ⟨rfl, Or.inr rfl⟩) (by obtain rfl := Option.some.inj h; rfl)
              · have h := ifpE (b2i_t hb) h
                refine g_aload_n cd183_88 rfl rfl ?_
                obtain ⟨x5, hx, h⟩ := bnd h
                refine g_callVZ (L := [some (.ref 204), none]) cd183_89 rfl rfl rfl rfl rfl (OM.o hw) (t_Mod_readGets (by omega) hw hx) ?_
                exact g_iret cd183_92 (Or.inr ⟨rfl, b2i_or _⟩) (by obtain rfl := Option.some.inj h; rfl)
            · have h := ifpE (b2i_t hb) h
              refine g_aload_n cd183_74 rfl rfl ?_
              obtain ⟨x6, hx, h⟩ := bnd h
              refine g_callVZ (L := [some (.ref 204), none]) cd183_75 rfl rfl rfl rfl rfl (OM.o hw) (t_Mod_readPrior (by omega) hw hx) ?_
              exact g_iret cd183_78 (Or.inr ⟨rfl, b2i_or _⟩) (by obtain rfl := Option.some.inj h; rfl)
          · have h := ifpE (b2i_t hb) h
            refine g_aload_n cd183_60 rfl rfl ?_
            obtain ⟨x7, hx, h⟩ := bnd h
            refine g_callVZ (L := [some (.ref 204), none]) cd183_61 rfl rfl rfl rfl rfl (OM.o hw) (t_Mod_readHint (by omega) hw hx) ?_
            exact g_iret cd183_64 (Or.inr ⟨rfl, b2i_or _⟩) (by obtain rfl := Option.some.inj h; rfl)
        · have h := ifpE (b2i_t hb) h
          refine g_aload_n cd183_47 rfl rfl ?_
          obtain ⟨x8, hx, h⟩ := bnd h
          refine g_callVZ (L := [some (.ref 204), none]) cd183_48 rfl rfl rfl rfl rfl (OM.o hw) (t_Mod_readFear (by omega) hw hx) ?_
          exact g_iret cd183_51 (Or.inr ⟨rfl, b2i_or _⟩) (by obtain rfl := Option.some.inj h; rfl)
      · have h := ifpE (b2i_t hb) h
        refine g_aload_n cd183_34 rfl rfl ?_
        obtain ⟨x9, hx, h⟩ := bnd h
        refine g_callVZ (L := [some (.ref 204), none]) cd183_35 rfl rfl rfl rfl rfl (OM.o hw) (t_Mod_readFind (by omega) hw hx) ?_
        exact g_iret cd183_38 (Or.inr ⟨rfl, b2i_or _⟩) (by obtain rfl := Option.some.inj h; rfl)
    · have h := ifpE (b2i_t hb) h
      refine g_aload_n cd183_21 rfl rfl ?_
      obtain ⟨x10, hx, h⟩ := bnd h
      refine g_callVZ (L := [some (.ref 204)]) cd183_22 rfl rfl rfl rfl rfl (OM.o hw) (t_Mod_readPerson (by omega) hw hx) ?_
      exact g_iret cd183_25 (Or.inr ⟨rfl, b2i_or _⟩) (by obtain rfl := Option.some.inj h; rfl)
  · have h := ifpE (b2i_t hb) h
    refine g_aload_n cd183_8 rfl rfl ?_
    obtain ⟨x11, hx, h⟩ := bnd h
    refine g_callVZ (L := [some (.ref 204)]) cd183_9 rfl rfl rfl rfl rfl (OM.o hw) (t_Mod_readField (by omega) hw hx) ?_
    exact g_iret cd183_12 (Or.inr ⟨rfl, b2i_or _⟩) (by obtain rfl := Option.some.inj h; rfl)
/-! HiddenOrLostModel.isSign(I)Z -/
theorem cd206_0 : code9 206 0 = some (0, .aload_n 0, [1], .null, []) := rfl
theorem cd206_1 : code9 206 1 = some (0, .getfield 30, [3, 12, 7, 0], .null, []) := rfl
theorem cd206_4 : code9 206 4 = some (0, .iconst 4, [1], .int 4, []) := rfl
theorem cd206_5 : code9 206 5 = some (0, .if_icmp .ne 15, [3, 20], .null, []) := rfl
theorem cd206_8 : code9 206 8 = some (0, .aload_n 0, [1], .null, []) := rfl
theorem cd206_9 : code9 206 9 = some (0, .getfield 40, [3, 12, 9, 0], .null, []) := rfl
theorem cd206_12 : code9 206 12 = some (0, .iload_n 1, [1], .null, []) := rfl
theorem cd206_13 : code9 206 13 = some (0, .if_icmp .ne 7, [3, 20], .null, []) := rfl
theorem cd206_16 : code9 206 16 = some (0, .iconst 1, [1], .int 1, []) := rfl
theorem cd206_17 : code9 206 17 = some (0, .goto 4, [3, 21, 2], .null, []) := rfl
theorem cd206_20 : code9 206 20 = some (3, .iconst 0, [1], .int 0, []) := rfl
theorem cd206_21 : code9 206 21 = some (3, .ireturn, [1, 3], .null, []) := rfl
def Mod_isSign (l1 : Int32) (I : FI) : Bool := if (I 204 7) = 4 then (if (I 204 9) = l1 then (true) else (false)) else (false)
set_option maxRecDepth 8000 in
theorem t_Mod_isSign {d : Nat} {c : Nat × Nat} {S : Nat → Nat × Nat} {P : Nat → Nat → Option Nat} {I : FI} {J : FJ} {l1 : Int32} {r : Bool} (hd : 0 ≤ d) (hw : OM S P) (h : Mod_isSign l1 I = r) : Go d M_Mod_isSign 0 [some (.ref 204), some (.int l1)] [] (c, S, I, J, P) (some (.int (b2i r)), false, (c, S, I, J, P)) := by
  unfold Mod_isSign at h
  refine g_aload_n cd206_0 rfl rfl ?_
  refine g_getI cd206_1 rfl (OM.o hw) ?_
  refine g_iconst cd206_4 rfl ?_
  refine g_icmp_ne cd206_5 rfl (fun hb => ?_) (fun hb => ?_)
  · have h := ifpE hb h
    refine g_aload_n cd206_8 rfl rfl ?_
    refine g_getI cd206_9 rfl (OM.o hw) ?_
    refine g_iload_n cd206_12 rfl rfl ?_
    refine g_icmp_ne cd206_13 rfl (fun hb => ?_) (fun hb => ?_)
    · have h := ifpE hb h
      refine g_iconst cd206_16 rfl ?_
      refine g_goto (ls2 := [some (.ref 204), some (.int l1)]) cd206_17 rfl rfl ?_
      exact g_iret cd206_21 (Or.inr ⟨rfl, Or.inr rfl⟩) (by subst h; rfl)
    · have h := ifnE hb h
      refine g_iconst cd206_20 rfl ?_
      exact g_iret cd206_21 (Or.inr ⟨rfl, Or.inl rfl⟩) (by subst h; rfl)
  · have h := ifnE hb h
    refine g_iconst cd206_20 rfl ?_
    exact g_iret cd206_21 (Or.inr ⟨rfl, Or.inl rfl⟩) (by subst h; rfl)
/-! HiddenOrLostModel.readEnd()Z -/
theorem cd205_0 : code9 205 0 = some (0, .aload_n 0, [1], .null, []) := rfl
theorem cd205_1 : code9 205 1 = some (0, .bipush 59, [2], .int 59, []) := rfl
theorem cd205_3 : code9 205 3 = some (0, .invokevirtual 86, [3, 206, 2, 1, 3, 2, 12, 0], .null, []) := rfl
theorem cd205_6 : code9 205 6 = some (0, .ifCond .ne 9, [3, 15], .null, []) := rfl
theorem cd205_9 : code9 205 9 = some (0, .aload_n 0, [1], .null, []) := rfl
theorem cd205_10 : code9 205 10 = some (0, .iconst 1, [1], .int 1, []) := rfl
theorem cd205_11 : code9 205 11 = some (0, .invokevirtual 72, [3, 188, 2, 1, 3, 2, 12, 0], .null, []) := rfl
theorem cd205_14 : code9 205 14 = some (0, .ireturn, [1, 3], .null, []) := rfl
theorem cd205_15 : code9 205 15 = some (0, .aload_n 0, [1], .null, []) := rfl
theorem cd205_16 : code9 205 16 = some (0, .invokevirtual 82, [3, 179, 1, 1, 0, 5, 12, 0], .null, []) := rfl
theorem cd205_19 : code9 205 19 = some (0, .iconst 1, [1], .int 1, []) := rfl
theorem cd205_20 : code9 205 20 = some (0, .ireturn, [1, 3], .null, []) := rfl
def Mod_readEnd (N : Nat) (I : FI) (J : FJ) : Option (Bool × FI × FJ) := if (Mod_isSign 59 I) then (Option.bind (Mod_go N I J) fun x2 => (some (true, x2.1, x2.2))) else (Option.bind (Mod_bad 1 I) fun x1 => (some (x1.1, x1.2, J)))
set_option maxRecDepth 8000 in
theorem t_Mod_readEnd {d : Nat} {N : Nat} {c : Nat × Nat} {S : Nat → Nat × Nat} {P : Nat → Nat → Option Nat} {I : FI} {J : FJ} {r : Bool × FI × FJ} (hd : 2 ≤ d) (hw : OM S P) (h : Mod_readEnd N I J = some r) : Go d M_Mod_readEnd 0 [some (.ref 204)] [] (c, S, I, J, P) (some (.int (b2i r.1)), false, (c, S, r.2.1, r.2.2, P)) := by
  obtain ⟨d, rfl⟩ : ∃ e, d = e + 1 := ⟨d - 1, by omega⟩
  unfold Mod_readEnd at h
  refine g_aload_n cd205_0 rfl rfl ?_
  refine g_bipush cd205_1 rfl ?_
  refine g_callVZ (L := [some (.ref 204), some (.int 59)]) cd205_3 rfl rfl rfl rfl rfl (OM.o hw) (t_Mod_isSign (by omega) hw rfl) ?_
  refine g_if_ne cd205_6 rfl (fun hb => ?_) (fun hb => ?_)
  · have h := ifnE (b2i_f hb) h
    refine g_aload_n cd205_9 rfl rfl ?_
    refine g_iconst cd205_10 rfl ?_
    obtain ⟨x1, hx, h⟩ := bnd h
    refine g_callVZ (L := [some (.ref 204), some (.int 1)]) cd205_11 rfl rfl rfl rfl rfl (OM.o hw) (t_Mod_bad (by omega) hw hx) ?_
    exact g_iret cd205_14 (Or.inr ⟨rfl, b2i_or _⟩) (by obtain rfl := Option.some.inj h; rfl)
  · have h := ifpE (b2i_t hb) h
    refine g_aload_n cd205_15 rfl rfl ?_
    obtain ⟨x2, hx, h⟩ := bnd h
    refine g_callVV (L := [some (.ref 204), none, none, none, none]) cd205_16 rfl rfl rfl rfl rfl (OM.o hw) (t_Mod_go (by omega) hw hx) ?_
    refine g_iconst cd205_19 rfl ?_
    exact g_iret cd205_20 (Or.inr ⟨rfl, Or.inr rfl⟩) (by obtain rfl := Option.some.inj h; rfl)
/-! HiddenOrLostModel.field()I -/
theorem cd176_0 : code9 176 0 = some (0, .aload_n 0, [1], .null, []) := rfl
theorem cd176_1 : code9 176 1 = some (0, .sipush 900, [3], .int 900, []) := rfl
theorem cd176_4 : code9 176 4 = some (0, .invokevirtual 224, [3, 177, 2, 1, 0, 2, 12, 0], .null, []) := rfl
theorem cd176_7 : code9 176 7 = some (0, .aload_n 0, [1], .null, []) := rfl
theorem cd176_8 : code9 176 8 = some (0, .invokevirtual 163, [3, 174, 1, 1, 0, 2, 12, 0], .null, []) := rfl
theorem cd176_11 : code9 176 11 = some (0, .iconst 0, [1], .int 0, []) := rfl
theorem cd176_12 : code9 176 12 = some (0, .istore_n 1, [1], .null, []) := rfl
theorem cd176_13 : code9 176 13 = some (3, .aload_n 0, [1], .null, []) := rfl
theorem cd176_14 : code9 176 14 = some (0, .getfield 30, [3, 12, 7, 0], .null, []) := rfl
theorem cd176_17 : code9 176 17 = some (0, .ifCond .eq 30, [3, 47], .null, []) := rfl
theorem cd176_20 : code9 176 20 = some (0, .aload_n 0, [1], .null, []) := rfl
theorem cd176_21 : code9 176 21 = some (0, .invokevirtual 227, [3, 183, 1, 1, 3, 1, 12, 0], .null, []) := rfl
theorem cd176_24 : code9 176 24 = some (0, .ifCond .eq 10, [3, 34], .null, []) := rfl
theorem cd176_27 : code9 176 27 = some (0, .aload_n 0, [1], .null, []) := rfl
theorem cd176_28 : code9 176 28 = some (0, .invokevirtual 230, [3, 205, 1, 1, 3, 1, 12, 0], .null, []) := rfl
theorem cd176_31 : code9 176 31 = some (0, .ifCond .ne 10, [3, 41], .null, []) := rfl
theorem cd176_34 : code9 176 34 = some (3, .iconst (-1), [1], .int (-1), []) := rfl
theorem cd176_35 : code9 176 35 = some (0, .aload_n 0, [1], .null, []) := rfl
theorem cd176_36 : code9 176 36 = some (0, .getfield 69, [3, 12, 11, 0], .null, []) := rfl
theorem cd176_39 : code9 176 39 = some (0, .isub, [1], .null, []) := rfl
theorem cd176_40 : code9 176 40 = some (0, .ireturn, [1, 1], .null, []) := rfl
theorem cd176_41 : code9 176 41 = some (0, .iinc 1 1, [3], .int 1, []) := rfl
theorem cd176_44 : code9 176 44 = some (0, .goto (-31), [3, 13, 2], .null, []) := rfl
theorem cd176_47 : code9 176 47 = some (0, .iconst 0, [1], .int 0, []) := rfl
theorem cd176_48 : code9 176 48 = some (0, .istore_n 2, [1], .null, []) := rfl
theorem cd176_49 : code9 176 49 = some (4, .iload_n 2, [1], .null, []) := rfl
theorem cd176_50 : code9 176 50 = some (0, .bipush 102, [2], .int 102, []) := rfl
theorem cd176_52 : code9 176 52 = some (0, .if_icmp .ge 21, [3, 73], .null, []) := rfl
theorem cd176_55 : code9 176 55 = some (0, .aload_n 0, [1], .null, []) := rfl
theorem cd176_56 : code9 176 56 = some (0, .getfield 98, [3, 12, 14, 2], .null, []) := rfl
theorem cd176_59 : code9 176 59 = some (0, .iload_n 2, [1], .null, []) := rfl
theorem cd176_60 : code9 176 60 = some (0, .aload_n 0, [1], .null, []) := rfl
theorem cd176_61 : code9 176 61 = some (0, .getfield 101, [3, 12, 15, 2], .null, []) := rfl
theorem cd176_64 : code9 176 64 = some (0, .iload_n 2, [1], .null, []) := rfl
theorem cd176_65 : code9 176 65 = some (0, .iaload, [1], .null, []) := rfl
theorem cd176_66 : code9 176 66 = some (0, .iastore, [1], .null, []) := rfl
theorem cd176_67 : code9 176 67 = some (0, .iinc 2 1, [3], .int 1, []) := rfl
theorem cd176_70 : code9 176 70 = some (0, .goto (-21), [3, 49, 3], .null, []) := rfl
theorem cd176_73 : code9 176 73 = some (0, .iconst 0, [1], .int 0, []) := rfl
theorem cd176_74 : code9 176 74 = some (0, .istore_n 2, [1], .null, []) := rfl
theorem cd176_75 : code9 176 75 = some (4, .iload_n 2, [1], .null, []) := rfl
theorem cd176_76 : code9 176 76 = some (0, .bipush 22, [2], .int 22, []) := rfl
theorem cd176_78 : code9 176 78 = some (0, .if_icmp .ge 21, [3, 99], .null, []) := rfl
theorem cd176_81 : code9 176 81 = some (0, .aload_n 0, [1], .null, []) := rfl
theorem cd176_82 : code9 176 82 = some (0, .getfield 113, [3, 12, 19, 2], .null, []) := rfl
theorem cd176_85 : code9 176 85 = some (0, .iload_n 2, [1], .null, []) := rfl
theorem cd176_86 : code9 176 86 = some (0, .aload_n 0, [1], .null, []) := rfl
theorem cd176_87 : code9 176 87 = some (0, .getfield 117, [3, 12, 20, 2], .null, []) := rfl
theorem cd176_90 : code9 176 90 = some (0, .iload_n 2, [1], .null, []) := rfl
theorem cd176_91 : code9 176 91 = some (0, .laload, [1], .null, []) := rfl
theorem cd176_92 : code9 176 92 = some (0, .lastore, [1], .null, []) := rfl
theorem cd176_93 : code9 176 93 = some (0, .iinc 2 1, [3], .int 1, []) := rfl
theorem cd176_96 : code9 176 96 = some (0, .goto (-21), [3, 75, 3], .null, []) := rfl
theorem cd176_99 : code9 176 99 = some (0, .aload_n 0, [1], .null, []) := rfl
theorem cd176_100 : code9 176 100 = some (0, .invokevirtual 166, [3, 175, 1, 1, 0, 2, 12, 0], .null, []) := rfl
theorem cd176_103 : code9 176 103 = some (0, .aload_n 0, [1], .null, []) := rfl
theorem cd176_104 : code9 176 104 = some (0, .iconst 0, [1], .int 0, []) := rfl
theorem cd176_105 : code9 176 105 = some (0, .putfield 233, [3, 12, 24, 0], .null, []) := rfl
theorem cd176_108 : code9 176 108 = some (0, .iload_n 1, [1], .null, []) := rfl
theorem cd176_109 : code9 176 109 = some (0, .ireturn, [1, 1], .null, []) := rfl
def Mod_field_75 (N : Nat) : Nat → Int32 → Int32 → FI → FJ → Option (Int32 × FI × FJ)
  | 0 => fun _ _ _ _ => none
  | n + 1 => fun l1 l2 I J => if 22 ≤ l2 then (Option.bind (Mod_startSo N I) fun x3 => (Option.bind (some (up2 x3 204 24 (0 : Int32))) fun I4 => (some (l1, I4, J)))) else (if in9 l2 22 then (Option.bind (some (up2 J 211 l2.toNatClampNeg (J 212 l2.toNatClampNeg))) fun J6 => (Mod_field_75 N n l1 (l2 + 1) I J6)) else none)
def Mod_field_49 (N : Nat) : Nat → Int32 → Int32 → FI → FJ → Option (Int32 × FI × FJ)
  | 0 => fun _ _ _ _ => none
  | n + 1 => fun l1 l2 I J => if 102 ≤ l2 then (Mod_field_75 N N l1 0 I J) else (if in9 l2 102 then (if in9 l2 451 then (Option.bind (some (up2 I 206 l2.toNatClampNeg (I 207 l2.toNatClampNeg))) fun I9 => (Mod_field_49 N n l1 (l2 + 1) I9 J)) else none) else none)
def Mod_field_13 (N : Nat) : Nat → Int32 → FI → FJ → Option (Int32 × FI × FJ)
  | 0 => fun _ _ _ => none
  | n + 1 => fun l1 I J => if (I 204 7) = 0 then (Mod_field_49 N N l1 0 I J) else (Option.bind (Mod_readLine N I J) fun x10 => (if x10.1 then (Option.bind (Mod_readEnd N x10.2.1 x10.2.2) fun x11 => (if x11.1 then (Mod_field_13 N n (l1 + 1) x11.2.1 x11.2.2) else (some ((-1) - (x11.2.1 204 11), x11.2.1, x11.2.2)))) else (some ((-1) - (x10.2.1 204 11), x10.2.1, x10.2.2))))
def Mod_field (N : Nat) (I : FI) (J : FJ) : Option (Int32 × FI × FJ) := Option.bind (Mod_begin N 900 I J) fun x1 => (Option.bind (Mod_startRead N x1.1) fun x2 => (Mod_field_13 N N 0 x2 x1.2))
set_option maxRecDepth 8000 in
theorem t_Mod_field_75 {d : Nat} {N : Nat} {c : Nat × Nat} {S : Nat → Nat × Nat} {P : Nat → Nat → Option Nat} {r : Int32 × FI × FJ} (hd : 7 ≤ (d + 1)) (hw : OM S P) : ∀ (n : Nat) (l1 : Int32) (l2 : Int32) (I : FI) (J : FJ), Mod_field_75 N n l1 l2 I J = some r → Go (d + 1) M_Mod_field 75 [some (.ref 204), some (.int l1), some (.int l2)] [] (c, S, I, J, P) (some (.int r.1), false, (c, S, r.2.1, r.2.2, P)) := by
  intro n
  induction n with
  | zero =>
    intro l1 l2 I J h
    cases h
  | succ n ih =>
    intro l1 l2 I J h
    unfold Mod_field_75 at h
    refine g_iload_n cd176_75 rfl rfl ?_
    refine g_bipush cd176_76 rfl ?_
    refine g_icmp_ge cd176_78 rfl (fun hb => ?_) (fun hb => ?_)
    · have h := ifpE hb h
      refine g_aload_n cd176_99 rfl rfl ?_
      obtain ⟨x3, hx, h⟩ := bnd h
      refine g_callVV (L := [some (.ref 204), none]) cd176_100 rfl rfl rfl rfl rfl (OM.o hw) (t_Mod_startSo (by omega) hw hx) ?_
      refine g_aload_n cd176_103 rfl rfl ?_
      refine g_iconst cd176_104 rfl ?_
      obtain ⟨I4, e1, h⟩ := bnd h
      refine G_putI cd176_105 rfl (OM.o hw) (Option.some.inj e1) ?_
      refine g_iload_n cd176_108 rfl rfl ?_
      exact g_iret cd176_109 (Or.inl rfl) (by obtain rfl := Option.some.inj h; rfl)
    · have h := ifnE hb h
      refine g_aload_n cd176_81 rfl rfl ?_
      refine g_getP cd176_82 rfl (OM.o hw) (OM.p19 hw) ?_
      refine g_iload_n cd176_85 rfl rfl ?_
      refine g_aload_n cd176_86 rfl rfl ?_
      refine g_getP cd176_87 rfl (OM.o hw) (OM.p20 hw) ?_
      refine g_iload_n cd176_90 rfl rfl ?_
      obtain ⟨hg5, h⟩ := grd h
      refine G_lald cd176_91 rfl (OM.s20 hw) hg5 ?_
      obtain ⟨J6, e1, h⟩ := bnd h
      refine G_last cd176_92 rfl (OM.s19 hw) hg5 (Option.some.inj e1) ?_
      refine g_iinc (ls2 := [some (.ref 204), some (.int l1), some (.int (l2 + 1))]) cd176_93 rfl rfl rfl ?_
      refine g_goto (ls2 := [some (.ref 204), some (.int l1), some (.int (l2 + 1))]) cd176_96 rfl rfl ?_
      exact ih l1 (l2 + 1) I J6 h
set_option maxRecDepth 8000 in
theorem t_Mod_field_49 {d : Nat} {N : Nat} {c : Nat × Nat} {S : Nat → Nat × Nat} {P : Nat → Nat → Option Nat} {r : Int32 × FI × FJ} (hd : 7 ≤ (d + 1)) (hw : OM S P) : ∀ (n : Nat) (l1 : Int32) (l2 : Int32) (I : FI) (J : FJ), Mod_field_49 N n l1 l2 I J = some r → Go (d + 1) M_Mod_field 49 [some (.ref 204), some (.int l1), some (.int l2)] [] (c, S, I, J, P) (some (.int r.1), false, (c, S, r.2.1, r.2.2, P)) := by
  intro n
  induction n with
  | zero =>
    intro l1 l2 I J h
    cases h
  | succ n ih =>
    intro l1 l2 I J h
    unfold Mod_field_49 at h
    refine g_iload_n cd176_49 rfl rfl ?_
    refine g_bipush cd176_50 rfl ?_
    refine g_icmp_ge cd176_52 rfl (fun hb => ?_) (fun hb => ?_)
    · have h := ifpE hb h
      refine g_iconst cd176_73 rfl ?_
      refine g_istore_n (ls2 := [some (.ref 204), some (.int l1), some (.int 0)]) cd176_74 rfl rfl ?_
      exact t_Mod_field_75 hd hw _ l1 0 I J h
    · have h := ifnE hb h
      refine g_aload_n cd176_55 rfl rfl ?_
      refine g_getP cd176_56 rfl (OM.o hw) (OM.p14 hw) ?_
      refine g_iload_n cd176_59 rfl rfl ?_
      refine g_aload_n cd176_60 rfl rfl ?_
      refine g_getP cd176_61 rfl (OM.o hw) (OM.p15 hw) ?_
      refine g_iload_n cd176_64 rfl rfl ?_
      obtain ⟨hg7, h⟩ := grd h
      refine G_iald cd176_65 rfl (OM.s15 hw) hg7 ?_
      obtain ⟨hg8, h⟩ := grd h
      obtain ⟨I9, e1, h⟩ := bnd h
      refine G_iast cd176_66 rfl (OM.s14 hw) hg8 (Option.some.inj e1) ?_
      refine g_iinc (ls2 := [some (.ref 204), some (.int l1), some (.int (l2 + 1))]) cd176_67 rfl rfl rfl ?_
      refine g_goto (ls2 := [some (.ref 204), some (.int l1), some (.int (l2 + 1))]) cd176_70 rfl rfl ?_
      exact ih l1 (l2 + 1) I9 J h
set_option maxRecDepth 8000 in
theorem t_Mod_field_13 {d : Nat} {N : Nat} {c : Nat × Nat} {S : Nat → Nat × Nat} {P : Nat → Nat → Option Nat} {r : Int32 × FI × FJ} (hd : 7 ≤ (d + 1)) (hw : OM S P) : ∀ (n : Nat) (l1 : Int32) (I : FI) (J : FJ), Mod_field_13 N n l1 I J = some r → Go (d + 1) M_Mod_field 13 [some (.ref 204), some (.int l1), none] [] (c, S, I, J, P) (some (.int r.1), false, (c, S, r.2.1, r.2.2, P)) := by
  intro n
  induction n with
  | zero =>
    intro l1 I J h
    cases h
  | succ n ih =>
    intro l1 I J h
    unfold Mod_field_13 at h
    refine g_aload_n cd176_13 rfl rfl ?_
    refine g_getI cd176_14 rfl (OM.o hw) ?_
    refine g_if_eq cd176_17 rfl (fun hb => ?_) (fun hb => ?_)
    · have h := ifpE hb h
      refine g_iconst cd176_47 rfl ?_
      refine g_istore_n (ls2 := [some (.ref 204), some (.int l1), some (.int 0)]) cd176_48 rfl rfl ?_
      exact t_Mod_field_49 hd hw _ l1 0 I J h
    · have h := ifnE hb h
      refine g_aload_n cd176_20 rfl rfl ?_
      obtain ⟨x10, hx, h⟩ := bnd h
      refine g_callVZ (L := [some (.ref 204)]) cd176_21 rfl rfl rfl rfl rfl (OM.o hw) (t_Mod_readLine (by omega) hw hx) ?_
      refine g_if_eq cd176_24 rfl (fun hb => ?_) (fun hb => ?_)
      · have h := ifnE (b2i_f hb) h
        refine g_iconst cd176_34 rfl ?_
        refine g_aload_n cd176_35 rfl rfl ?_
        refine g_getI cd176_36 rfl (OM.o hw) ?_
        refine g_isub cd176_39 rfl ?_
        exact g_iret cd176_40 (Or.inl rfl) (by obtain rfl := Option.some.inj h; rfl)
      · have h := ifpE (b2i_t hb) h
        refine g_aload_n cd176_27 rfl rfl ?_
        obtain ⟨x11, hx, h⟩ := bnd h
        refine g_callVZ (L := [some (.ref 204)]) cd176_28 rfl rfl rfl rfl rfl (OM.o hw) (t_Mod_readEnd (by omega) hw hx) ?_
        refine g_if_ne cd176_31 rfl (fun hb => ?_) (fun hb => ?_)
        · have h := ifnE (b2i_f hb) h
          refine g_iconst cd176_34 rfl ?_
          refine g_aload_n cd176_35 rfl rfl ?_
          refine g_getI cd176_36 rfl (OM.o hw) ?_
          refine g_isub cd176_39 rfl ?_
          exact g_iret cd176_40 (Or.inl rfl) (by obtain rfl := Option.some.inj h; rfl)
        · have h := ifpE (b2i_t hb) h
          refine g_iinc (ls2 := [some (.ref 204), some (.int (l1 + 1)), none]) cd176_41 rfl rfl rfl ?_
          refine g_goto (ls2 := [some (.ref 204), some (.int (l1 + 1)), none]) cd176_44 rfl rfl ?_
          exact ih (l1 + 1) x11.2.1 x11.2.2 h
set_option maxRecDepth 8000 in
theorem t_Mod_field {d : Nat} {N : Nat} {c : Nat × Nat} {S : Nat → Nat × Nat} {P : Nat → Nat → Option Nat} {I : FI} {J : FJ} {r : Int32 × FI × FJ} (hd : 7 ≤ d) (hw : OM S P) (h : Mod_field N I J = some r) : Go d M_Mod_field 0 [some (.ref 204), none, none] [] (c, S, I, J, P) (some (.int r.1), false, (c, S, r.2.1, r.2.2, P)) := by
  obtain ⟨d, rfl⟩ : ∃ e, d = e + 1 := ⟨d - 1, by omega⟩
  unfold Mod_field at h
  refine g_aload_n cd176_0 rfl rfl ?_
  refine g_sipush cd176_1 rfl ?_
  obtain ⟨x1, hx, h⟩ := bnd h
  refine g_callVV (L := [some (.ref 204), some (.int 900)]) cd176_4 rfl rfl rfl rfl rfl (OM.o hw) (t_Mod_begin (by omega) hw hx) ?_
  refine g_aload_n cd176_7 rfl rfl ?_
  obtain ⟨x2, hx, h⟩ := bnd h
  refine g_callVV (L := [some (.ref 204), none]) cd176_8 rfl rfl rfl rfl rfl (OM.o hw) (t_Mod_startRead (by omega) hw hx) ?_
  refine g_iconst cd176_11 rfl ?_
  refine g_istore_n (ls2 := [some (.ref 204), some (.int 0), none]) cd176_12 rfl rfl ?_
  exact t_Mod_field_13 hd hw _ 0 x2 x1.2 h
/-! HiddenOrLostModel.fault()I -/
theorem cd207_0 : code9 207 0 = some (0, .aload_n 0, [1], .null, []) := rfl
theorem cd207_1 : code9 207 1 = some (0, .iconst 0, [1], .int 0, []) := rfl
theorem cd207_2 : code9 207 2 = some (0, .putfield 1, [3, 12, 0, 0], .null, []) := rfl
theorem cd207_5 : code9 207 5 = some (0, .aload_n 0, [1], .null, []) := rfl
theorem cd207_6 : code9 207 6 = some (0, .getfield 66, [3, 12, 10, 0], .null, []) := rfl
theorem cd207_9 : code9 207 9 = some (0, .ireturn, [1, 1], .null, []) := rfl
def Mod_fault (I : FI) : Option (Int32 × FI) := Option.bind (some (up2 I 204 0 (0 : Int32))) fun I1 => (some (I1 204 10, I1))
set_option maxRecDepth 8000 in
theorem t_Mod_fault {d : Nat} {c : Nat × Nat} {S : Nat → Nat × Nat} {P : Nat → Nat → Option Nat} {I : FI} {J : FJ} {r : Int32 × FI} (hd : 0 ≤ d) (hw : OM S P) (h : Mod_fault I = some r) : Go d M_Mod_fault 0 [some (.ref 204)] [] (c, S, I, J, P) (some (.int r.1), false, (c, S, r.2, J, P)) := by
  unfold Mod_fault at h
  refine g_aload_n cd207_0 rfl rfl ?_
  refine g_iconst cd207_1 rfl ?_
  obtain ⟨I1, e1, h⟩ := bnd h
  refine G_putI cd207_2 rfl (OM.o hw) (Option.some.inj e1) ?_
  refine g_aload_n cd207_5 rfl rfl ?_
  refine g_getI cd207_6 rfl (OM.o hw) ?_
  exact g_iret cd207_9 (Or.inl rfl) (by obtain rfl := Option.some.inj h; rfl)
/-! HiddenOrLostModel.isFind(I)Z -/
theorem cd209_0 : code9 209 0 = some (0, .iload_n 1, [1], .null, []) := rfl
theorem cd209_1 : code9 209 1 = some (0, .iconst 0, [1], .int 0, []) := rfl
theorem cd209_2 : code9 209 2 = some (0, .aload_n 0, [1], .null, []) := rfl
theorem cd209_3 : code9 209 3 = some (0, .getfield 98, [3, 12, 14, 2], .null, []) := rfl
theorem cd209_6 : code9 209 6 = some (0, .iconst 1, [1], .int 1, []) := rfl
theorem cd209_7 : code9 209 7 = some (0, .iaload, [1], .null, []) := rfl
theorem cd209_8 : code9 209 8 = some (0, .iconst 1, [1], .int 1, []) := rfl
theorem cd209_9 : code9 209 9 = some (0, .isub, [1], .null, []) := rfl
theorem cd209_10 : code9 209 10 = some (0, .invokestatic 75, [3, 191, 3, 0, 3, 3, 12, 0], .null, []) := rfl
theorem cd209_13 : code9 209 13 = some (0, .ireturn, [1, 3], .null, []) := rfl
def Mod_isFind (l1 : Int32) (I : FI) : Option (Bool) := some (Mod_isIn l1 0 ((I 206 ((1 : Int32).toNatClampNeg)) - 1))
set_option maxRecDepth 8000 in
theorem t_Mod_isFind {d : Nat} {c : Nat × Nat} {S : Nat → Nat × Nat} {P : Nat → Nat → Option Nat} {I : FI} {J : FJ} {l1 : Int32} {r : Bool} (hd : 1 ≤ d) (hw : OM S P) (h : Mod_isFind l1 I = some r) : Go d M_Mod_isFind 0 [some (.ref 204), some (.int l1)] [] (c, S, I, J, P) (some (.int (b2i r)), false, (c, S, I, J, P)) := by
  obtain ⟨d, rfl⟩ : ∃ e, d = e + 1 := ⟨d - 1, by omega⟩
  unfold Mod_isFind at h
  refine g_iload_n cd209_0 rfl rfl ?_
  refine g_iconst cd209_1 rfl ?_
  refine g_aload_n cd209_2 rfl rfl ?_
  refine g_getP cd209_3 rfl (OM.o hw) (OM.p14 hw) ?_
  refine g_iconst cd209_6 rfl ?_
  refine G_iald cd209_7 rfl (OM.s14 hw) (by decide) ?_
  refine g_iconst cd209_8 rfl ?_
  refine g_isub cd209_9 rfl ?_
  refine g_callSZ (L := [some (.int l1), some (.int 0), some (.int ((I 206 ((1 : Int32).toNatClampNeg)) - 1))]) cd209_10 rfl rfl rfl rfl rfl (t_Mod_isIn (by omega)  rfl) ?_
  exact g_iret cd209_13 (Or.inr ⟨rfl, b2i_or _⟩) (by obtain rfl := Option.some.inj h; rfl)
/-! HiddenOrLostModel.refuse()I -/
theorem cd210_0 : code9 210 0 = some (0, .aload_n 0, [1], .null, []) := rfl
theorem cd210_1 : code9 210 1 = some (0, .iconst 1, [1], .int 1, []) := rfl
theorem cd210_2 : code9 210 2 = some (0, .putfield 1, [3, 12, 0, 0], .null, []) := rfl
theorem cd210_5 : code9 210 5 = some (0, .iconst 0, [1], .int 0, []) := rfl
theorem cd210_6 : code9 210 6 = some (0, .ireturn, [1, 1], .null, []) := rfl
def Mod_refuse (I : FI) : Option (Int32 × FI) := Option.bind (some (up2 I 204 0 (1 : Int32))) fun I1 => (some (0, I1))
set_option maxRecDepth 8000 in
theorem t_Mod_refuse {d : Nat} {c : Nat × Nat} {S : Nat → Nat × Nat} {P : Nat → Nat → Option Nat} {I : FI} {J : FJ} {r : Int32 × FI} (hd : 0 ≤ d) (hw : OM S P) (h : Mod_refuse I = some r) : Go d M_Mod_refuse 0 [some (.ref 204)] [] (c, S, I, J, P) (some (.int r.1), false, (c, S, r.2, J, P)) := by
  unfold Mod_refuse at h
  refine g_aload_n cd210_0 rfl rfl ?_
  refine g_iconst cd210_1 rfl ?_
  obtain ⟨I1, e1, h⟩ := bnd h
  refine G_putI cd210_2 rfl (OM.o hw) (Option.some.inj e1) ?_
  refine g_iconst cd210_5 rfl ?_
  exact g_iret cd210_6 (Or.inl rfl) (by obtain rfl := Option.some.inj h; rfl)
/-! HiddenOrLostModel.find(II)I -/
theorem cd208_0 : code9 208 0 = some (0, .aload_n 0, [1], .null, []) := rfl
theorem cd208_1 : code9 208 1 = some (0, .iconst 0, [1], .int 0, []) := rfl
theorem cd208_2 : code9 208 2 = some (0, .putfield 1, [3, 12, 0, 0], .null, []) := rfl
theorem cd208_5 : code9 208 5 = some (0, .aload_n 0, [1], .null, []) := rfl
theorem cd208_6 : code9 208 6 = some (0, .iload_n 1, [1], .null, []) := rfl
theorem cd208_7 : code9 208 7 = some (0, .invokevirtual 242, [3, 209, 2, 1, 3, 2, 12, 0], .null, []) := rfl
theorem cd208_10 : code9 208 10 = some (0, .ifCond .ne 8, [3, 18], .null, []) := rfl
theorem cd208_13 : code9 208 13 = some (0, .aload_n 0, [1], .null, []) := rfl
theorem cd208_14 : code9 208 14 = some (0, .invokevirtual 245, [3, 210, 1, 1, 1, 1, 12, 0], .null, []) := rfl
theorem cd208_17 : code9 208 17 = some (0, .ireturn, [1, 1], .null, []) := rfl
theorem cd208_18 : code9 208 18 = some (0, .iload_n 2, [1], .null, []) := rfl
theorem cd208_19 : code9 208 19 = some (0, .tableswitch 127 0 7 #[45, 55, 65, 75, 85, 95, 105, 116], [45, 146], .null, [(0, 64), (1, 74), (2, 84), (3, 94), (4, 104), (5, 114), (6, 124), (7, 135)]) := rfl
theorem cd208_64 : code9 208 64 = some (0, .aload_n 0, [1], .null, []) := rfl
theorem cd208_65 : code9 208 65 = some (0, .getfield 98, [3, 12, 14, 2], .null, []) := rfl
theorem cd208_68 : code9 208 68 = some (0, .bipush 30, [2], .int 30, []) := rfl
theorem cd208_70 : code9 208 70 = some (0, .iload_n 1, [1], .null, []) := rfl
theorem cd208_71 : code9 208 71 = some (0, .iadd, [1], .null, []) := rfl
theorem cd208_72 : code9 208 72 = some (0, .iaload, [1], .null, []) := rfl
theorem cd208_73 : code9 208 73 = some (0, .ireturn, [1, 1], .null, []) := rfl
theorem cd208_74 : code9 208 74 = some (0, .aload_n 0, [1], .null, []) := rfl
theorem cd208_75 : code9 208 75 = some (0, .getfield 98, [3, 12, 14, 2], .null, []) := rfl
theorem cd208_78 : code9 208 78 = some (0, .bipush 105, [2], .int 105, []) := rfl
theorem cd208_80 : code9 208 80 = some (0, .iload_n 1, [1], .null, []) := rfl
theorem cd208_81 : code9 208 81 = some (0, .iadd, [1], .null, []) := rfl
theorem cd208_82 : code9 208 82 = some (0, .iaload, [1], .null, []) := rfl
theorem cd208_83 : code9 208 83 = some (0, .ireturn, [1, 1], .null, []) := rfl
theorem cd208_84 : code9 208 84 = some (0, .aload_n 0, [1], .null, []) := rfl
theorem cd208_85 : code9 208 85 = some (0, .getfield 98, [3, 12, 14, 2], .null, []) := rfl
theorem cd208_88 : code9 208 88 = some (0, .bipush 115, [2], .int 115, []) := rfl
theorem cd208_90 : code9 208 90 = some (0, .iload_n 1, [1], .null, []) := rfl
theorem cd208_91 : code9 208 91 = some (0, .iadd, [1], .null, []) := rfl
theorem cd208_92 : code9 208 92 = some (0, .iaload, [1], .null, []) := rfl
theorem cd208_93 : code9 208 93 = some (0, .ireturn, [1, 1], .null, []) := rfl
theorem cd208_94 : code9 208 94 = some (0, .aload_n 0, [1], .null, []) := rfl
theorem cd208_95 : code9 208 95 = some (0, .getfield 98, [3, 12, 14, 2], .null, []) := rfl
theorem cd208_98 : code9 208 98 = some (0, .bipush 125, [2], .int 125, []) := rfl
theorem cd208_100 : code9 208 100 = some (0, .iload_n 1, [1], .null, []) := rfl
theorem cd208_101 : code9 208 101 = some (0, .iadd, [1], .null, []) := rfl
theorem cd208_102 : code9 208 102 = some (0, .iaload, [1], .null, []) := rfl
theorem cd208_103 : code9 208 103 = some (0, .ireturn, [1, 1], .null, []) := rfl
theorem cd208_104 : code9 208 104 = some (0, .aload_n 0, [1], .null, []) := rfl
theorem cd208_105 : code9 208 105 = some (0, .getfield 98, [3, 12, 14, 2], .null, []) := rfl
theorem cd208_108 : code9 208 108 = some (0, .bipush 70, [2], .int 70, []) := rfl
theorem cd208_110 : code9 208 110 = some (0, .iload_n 1, [1], .null, []) := rfl
theorem cd208_111 : code9 208 111 = some (0, .iadd, [1], .null, []) := rfl
theorem cd208_112 : code9 208 112 = some (0, .iaload, [1], .null, []) := rfl
theorem cd208_113 : code9 208 113 = some (0, .ireturn, [1, 1], .null, []) := rfl
theorem cd208_114 : code9 208 114 = some (0, .aload_n 0, [1], .null, []) := rfl
theorem cd208_115 : code9 208 115 = some (0, .getfield 98, [3, 12, 14, 2], .null, []) := rfl
theorem cd208_118 : code9 208 118 = some (0, .bipush 80, [2], .int 80, []) := rfl
theorem cd208_120 : code9 208 120 = some (0, .iload_n 1, [1], .null, []) := rfl
theorem cd208_121 : code9 208 121 = some (0, .iadd, [1], .null, []) := rfl
theorem cd208_122 : code9 208 122 = some (0, .iaload, [1], .null, []) := rfl
theorem cd208_123 : code9 208 123 = some (0, .ireturn, [1, 1], .null, []) := rfl
theorem cd208_124 : code9 208 124 = some (0, .aload_n 0, [1], .null, []) := rfl
theorem cd208_125 : code9 208 125 = some (0, .getfield 98, [3, 12, 14, 2], .null, []) := rfl
theorem cd208_128 : code9 208 128 = some (0, .sipush 135, [3], .int 135, []) := rfl
theorem cd208_131 : code9 208 131 = some (0, .iload_n 1, [1], .null, []) := rfl
theorem cd208_132 : code9 208 132 = some (0, .iadd, [1], .null, []) := rfl
theorem cd208_133 : code9 208 133 = some (0, .iaload, [1], .null, []) := rfl
theorem cd208_134 : code9 208 134 = some (0, .ireturn, [1, 1], .null, []) := rfl
theorem cd208_135 : code9 208 135 = some (0, .aload_n 0, [1], .null, []) := rfl
theorem cd208_136 : code9 208 136 = some (0, .getfield 98, [3, 12, 14, 2], .null, []) := rfl
theorem cd208_139 : code9 208 139 = some (0, .sipush 145, [3], .int 145, []) := rfl
theorem cd208_142 : code9 208 142 = some (0, .iload_n 1, [1], .null, []) := rfl
theorem cd208_143 : code9 208 143 = some (0, .iadd, [1], .null, []) := rfl
theorem cd208_144 : code9 208 144 = some (0, .iaload, [1], .null, []) := rfl
theorem cd208_145 : code9 208 145 = some (0, .ireturn, [1, 1], .null, []) := rfl
theorem cd208_146 : code9 208 146 = some (0, .aload_n 0, [1], .null, []) := rfl
theorem cd208_147 : code9 208 147 = some (0, .invokevirtual 245, [3, 210, 1, 1, 1, 1, 12, 0], .null, []) := rfl
theorem cd208_150 : code9 208 150 = some (0, .ireturn, [1, 1], .null, []) := rfl
def Mod_find (l1 : Int32) (l2 : Int32) (I : FI) : Option (Int32 × FI) := Option.bind (some (up2 I 204 0 (0 : Int32))) fun I1 => (Option.bind (Mod_isFind l1 I1) fun x2 => (if x2 then (if l2 = 0 then (if in9 (30 + l1) 451 then (some (I1 206 ((30 + l1).toNatClampNeg), I1)) else none) else (if l2 = 1 then (if in9 (105 + l1) 451 then (some (I1 206 ((105 + l1).toNatClampNeg), I1)) else none) else (if l2 = 2 then (if in9 (115 + l1) 451 then (some (I1 206 ((115 + l1).toNatClampNeg), I1)) else none) else (if l2 = 3 then (if in9 (125 + l1) 451 then (some (I1 206 ((125 + l1).toNatClampNeg), I1)) else none) else (if l2 = 4 then (if in9 (70 + l1) 451 then (some (I1 206 ((70 + l1).toNatClampNeg), I1)) else none) else (if l2 = 5 then (if in9 (80 + l1) 451 then (some (I1 206 ((80 + l1).toNatClampNeg), I1)) else none) else (if l2 = 6 then (if in9 (135 + l1) 451 then (some (I1 206 ((135 + l1).toNatClampNeg), I1)) else none) else (if l2 = 7 then (if in9 (145 + l1) 451 then (some (I1 206 ((145 + l1).toNatClampNeg), I1)) else none) else (Option.bind (Mod_refuse I1) fun x12 => (some (x12.1, x12.2))))))))))) else (Option.bind (Mod_refuse I1) fun x3 => (some (x3.1, x3.2)))))
set_option maxRecDepth 8000 in
theorem t_Mod_find {d : Nat} {c : Nat × Nat} {S : Nat → Nat × Nat} {P : Nat → Nat → Option Nat} {I : FI} {J : FJ} {l1 : Int32} {l2 : Int32} {r : Int32 × FI} (hd : 2 ≤ d) (hw : OM S P) (h : Mod_find l1 l2 I = some r) : Go d M_Mod_find 0 [some (.ref 204), some (.int l1), some (.int l2)] [] (c, S, I, J, P) (some (.int r.1), false, (c, S, r.2, J, P)) := by
  obtain ⟨d, rfl⟩ : ∃ e, d = e + 1 := ⟨d - 1, by omega⟩
  unfold Mod_find at h
  refine g_aload_n cd208_0 rfl rfl ?_
  refine g_iconst cd208_1 rfl ?_
  obtain ⟨I1, e1, h⟩ := bnd h
  refine G_putI cd208_2 rfl (OM.o hw) (Option.some.inj e1) ?_
  refine g_aload_n cd208_5 rfl rfl ?_
  refine g_iload_n cd208_6 rfl rfl ?_
  obtain ⟨x2, hx, h⟩ := bnd h
  refine g_callVZ (L := [some (.ref 204), some (.int l1)]) cd208_7 rfl rfl rfl rfl rfl (OM.o hw) (t_Mod_isFind (by omega) hw hx) ?_
  refine g_if_ne cd208_10 rfl (fun hb => ?_) (fun hb => ?_)
  · have h := ifnE (b2i_f hb) h
    refine g_aload_n cd208_13 rfl rfl ?_
    obtain ⟨x3, hx, h⟩ := bnd h
    refine g_callVI (L := [some (.ref 204)]) cd208_14 rfl rfl rfl rfl rfl (OM.o hw) (t_Mod_refuse (by omega) hw hx) ?_
    exact g_iret cd208_17 (Or.inl rfl) (by obtain rfl := Option.some.inj h; rfl)
  · have h := ifpE (b2i_t hb) h
    refine g_iload_n cd208_18 rfl rfl ?_
    refine g_tableswitch cd208_19 rfl ?_
    refine ifi (fun hb => ?_) (fun hb => ?_)
    · have h := ifpE hb h
      show Go _ _ 64 [some (.ref 204), some (.int l1), some (.int l2)] [] _ _
      refine g_aload_n cd208_64 rfl rfl ?_
      refine g_getP cd208_65 rfl (OM.o hw) (OM.p14 hw) ?_
      refine g_bipush cd208_68 rfl ?_
      refine g_iload_n cd208_70 rfl rfl ?_
      refine g_iadd cd208_71 rfl ?_
      obtain ⟨hg4, h⟩ := grd h
      refine G_iald cd208_72 rfl (OM.s14 hw) hg4 ?_
      exact g_iret cd208_73 (Or.inl rfl) (by obtain rfl := Option.some.inj h; rfl)
    have h := ifnE hb h
    refine ifi (fun hb => ?_) (fun hb => ?_)
    · have h := ifpE hb h
      show Go _ _ 74 [some (.ref 204), some (.int l1), some (.int l2)] [] _ _
      refine g_aload_n cd208_74 rfl rfl ?_
      refine g_getP cd208_75 rfl (OM.o hw) (OM.p14 hw) ?_
      refine g_bipush cd208_78 rfl ?_
      refine g_iload_n cd208_80 rfl rfl ?_
      refine g_iadd cd208_81 rfl ?_
      obtain ⟨hg5, h⟩ := grd h
      refine G_iald cd208_82 rfl (OM.s14 hw) hg5 ?_
      exact g_iret cd208_83 (Or.inl rfl) (by obtain rfl := Option.some.inj h; rfl)
    have h := ifnE hb h
    refine ifi (fun hb => ?_) (fun hb => ?_)
    · have h := ifpE hb h
      show Go _ _ 84 [some (.ref 204), some (.int l1), some (.int l2)] [] _ _
      refine g_aload_n cd208_84 rfl rfl ?_
      refine g_getP cd208_85 rfl (OM.o hw) (OM.p14 hw) ?_
      refine g_bipush cd208_88 rfl ?_
      refine g_iload_n cd208_90 rfl rfl ?_
      refine g_iadd cd208_91 rfl ?_
      obtain ⟨hg6, h⟩ := grd h
      refine G_iald cd208_92 rfl (OM.s14 hw) hg6 ?_
      exact g_iret cd208_93 (Or.inl rfl) (by obtain rfl := Option.some.inj h; rfl)
    have h := ifnE hb h
    refine ifi (fun hb => ?_) (fun hb => ?_)
    · have h := ifpE hb h
      show Go _ _ 94 [some (.ref 204), some (.int l1), some (.int l2)] [] _ _
      refine g_aload_n cd208_94 rfl rfl ?_
      refine g_getP cd208_95 rfl (OM.o hw) (OM.p14 hw) ?_
      refine g_bipush cd208_98 rfl ?_
      refine g_iload_n cd208_100 rfl rfl ?_
      refine g_iadd cd208_101 rfl ?_
      obtain ⟨hg7, h⟩ := grd h
      refine G_iald cd208_102 rfl (OM.s14 hw) hg7 ?_
      exact g_iret cd208_103 (Or.inl rfl) (by obtain rfl := Option.some.inj h; rfl)
    have h := ifnE hb h
    refine ifi (fun hb => ?_) (fun hb => ?_)
    · have h := ifpE hb h
      show Go _ _ 104 [some (.ref 204), some (.int l1), some (.int l2)] [] _ _
      refine g_aload_n cd208_104 rfl rfl ?_
      refine g_getP cd208_105 rfl (OM.o hw) (OM.p14 hw) ?_
      refine g_bipush cd208_108 rfl ?_
      refine g_iload_n cd208_110 rfl rfl ?_
      refine g_iadd cd208_111 rfl ?_
      obtain ⟨hg8, h⟩ := grd h
      refine G_iald cd208_112 rfl (OM.s14 hw) hg8 ?_
      exact g_iret cd208_113 (Or.inl rfl) (by obtain rfl := Option.some.inj h; rfl)
    have h := ifnE hb h
    refine ifi (fun hb => ?_) (fun hb => ?_)
    · have h := ifpE hb h
      show Go _ _ 114 [some (.ref 204), some (.int l1), some (.int l2)] [] _ _
      refine g_aload_n cd208_114 rfl rfl ?_
      refine g_getP cd208_115 rfl (OM.o hw) (OM.p14 hw) ?_
      refine g_bipush cd208_118 rfl ?_
      refine g_iload_n cd208_120 rfl rfl ?_
      refine g_iadd cd208_121 rfl ?_
      obtain ⟨hg9, h⟩ := grd h
      refine G_iald cd208_122 rfl (OM.s14 hw) hg9 ?_
      exact g_iret cd208_123 (Or.inl rfl) (by obtain rfl := Option.some.inj h; rfl)
    have h := ifnE hb h
    refine ifi (fun hb => ?_) (fun hb => ?_)
    · have h := ifpE hb h
      show Go _ _ 124 [some (.ref 204), some (.int l1), some (.int l2)] [] _ _
      refine g_aload_n cd208_124 rfl rfl ?_
      refine g_getP cd208_125 rfl (OM.o hw) (OM.p14 hw) ?_
      refine g_sipush cd208_128 rfl ?_
      refine g_iload_n cd208_131 rfl rfl ?_
      refine g_iadd cd208_132 rfl ?_
      obtain ⟨hg10, h⟩ := grd h
      refine G_iald cd208_133 rfl (OM.s14 hw) hg10 ?_
      exact g_iret cd208_134 (Or.inl rfl) (by obtain rfl := Option.some.inj h; rfl)
    have h := ifnE hb h
    refine ifi (fun hb => ?_) (fun hb => ?_)
    · have h := ifpE hb h
      show Go _ _ 135 [some (.ref 204), some (.int l1), some (.int l2)] [] _ _
      refine g_aload_n cd208_135 rfl rfl ?_
      refine g_getP cd208_136 rfl (OM.o hw) (OM.p14 hw) ?_
      refine g_sipush cd208_139 rfl ?_
      refine g_iload_n cd208_142 rfl rfl ?_
      refine g_iadd cd208_143 rfl ?_
      obtain ⟨hg11, h⟩ := grd h
      refine G_iald cd208_144 rfl (OM.s14 hw) hg11 ?_
      exact g_iret cd208_145 (Or.inl rfl) (by obtain rfl := Option.some.inj h; rfl)
    have h := ifnE hb h
    show Go _ _ 146 [some (.ref 204), some (.int l1), some (.int l2)] [] _ _
    refine g_aload_n cd208_146 rfl rfl ?_
    obtain ⟨x12, hx, h⟩ := bnd h
    refine g_callVI (L := [some (.ref 204)]) cd208_147 rfl rfl rfl rfl rfl (OM.o hw) (t_Mod_refuse (by omega) hw hx) ?_
    exact g_iret cd208_150 (Or.inl rfl) (by obtain rfl := Option.some.inj h; rfl)
/-! HiddenOrLostModel.isPerson(I)Z -/
theorem cd212_0 : code9 212 0 = some (0, .iload_n 1, [1], .null, []) := rfl
theorem cd212_1 : code9 212 1 = some (0, .iconst 0, [1], .int 0, []) := rfl
theorem cd212_2 : code9 212 2 = some (0, .aload_n 0, [1], .null, []) := rfl
theorem cd212_3 : code9 212 3 = some (0, .getfield 98, [3, 12, 14, 2], .null, []) := rfl
theorem cd212_6 : code9 212 6 = some (0, .iconst 0, [1], .int 0, []) := rfl
theorem cd212_7 : code9 212 7 = some (0, .iaload, [1], .null, []) := rfl
theorem cd212_8 : code9 212 8 = some (0, .iconst 1, [1], .int 1, []) := rfl
theorem cd212_9 : code9 212 9 = some (0, .isub, [1], .null, []) := rfl
theorem cd212_10 : code9 212 10 = some (0, .invokestatic 75, [3, 191, 3, 0, 3, 3, 12, 0], .null, []) := rfl
theorem cd212_13 : code9 212 13 = some (0, .ireturn, [1, 3], .null, []) := rfl
def Mod_isPerson (l1 : Int32) (I : FI) : Option (Bool) := some (Mod_isIn l1 0 ((I 206 ((0 : Int32).toNatClampNeg)) - 1))
set_option maxRecDepth 8000 in
theorem t_Mod_isPerson {d : Nat} {c : Nat × Nat} {S : Nat → Nat × Nat} {P : Nat → Nat → Option Nat} {I : FI} {J : FJ} {l1 : Int32} {r : Bool} (hd : 1 ≤ d) (hw : OM S P) (h : Mod_isPerson l1 I = some r) : Go d M_Mod_isPerson 0 [some (.ref 204), some (.int l1)] [] (c, S, I, J, P) (some (.int (b2i r)), false, (c, S, I, J, P)) := by
  obtain ⟨d, rfl⟩ : ∃ e, d = e + 1 := ⟨d - 1, by omega⟩
  unfold Mod_isPerson at h
  refine g_iload_n cd212_0 rfl rfl ?_
  refine g_iconst cd212_1 rfl ?_
  refine g_aload_n cd212_2 rfl rfl ?_
  refine g_getP cd212_3 rfl (OM.o hw) (OM.p14 hw) ?_
  refine g_iconst cd212_6 rfl ?_
  refine G_iald cd212_7 rfl (OM.s14 hw) (by decide) ?_
  refine g_iconst cd212_8 rfl ?_
  refine g_isub cd212_9 rfl ?_
  refine g_callSZ (L := [some (.int l1), some (.int 0), some (.int ((I 206 ((0 : Int32).toNatClampNeg)) - 1))]) cd212_10 rfl rfl rfl rfl rfl (t_Mod_isIn (by omega)  rfl) ?_
  exact g_iret cd212_13 (Or.inr ⟨rfl, b2i_or _⟩) (by obtain rfl := Option.some.inj h; rfl)
/-! HiddenOrLostModel.person(II)I -/
theorem cd211_0 : code9 211 0 = some (0, .aload_n 0, [1], .null, []) := rfl
theorem cd211_1 : code9 211 1 = some (0, .iconst 0, [1], .int 0, []) := rfl
theorem cd211_2 : code9 211 2 = some (0, .putfield 1, [3, 12, 0, 0], .null, []) := rfl
theorem cd211_5 : code9 211 5 = some (0, .aload_n 0, [1], .null, []) := rfl
theorem cd211_6 : code9 211 6 = some (0, .iload_n 1, [1], .null, []) := rfl
theorem cd211_7 : code9 211 7 = some (0, .invokevirtual 248, [3, 212, 2, 1, 3, 2, 12, 0], .null, []) := rfl
theorem cd211_10 : code9 211 10 = some (0, .ifCond .ne 5, [3, 15], .null, []) := rfl
theorem cd211_13 : code9 211 13 = some (0, .iconst (-1), [1], .int (-1), []) := rfl
theorem cd211_14 : code9 211 14 = some (0, .ireturn, [1, 1], .null, []) := rfl
theorem cd211_15 : code9 211 15 = some (0, .iconst 0, [1], .int 0, []) := rfl
theorem cd211_16 : code9 211 16 = some (0, .istore_n 3, [1], .null, []) := rfl
theorem cd211_17 : code9 211 17 = some (0, .iload_n 2, [1], .null, []) := rfl
theorem cd211_18 : code9 211 18 = some (0, .tableswitch 122 0 3 #[30, 41, 100, 111], [30, 140], .null, [(0, 48), (1, 59), (2, 118), (3, 129)]) := rfl
theorem cd211_48 : code9 211 48 = some (0, .aload_n 0, [1], .null, []) := rfl
theorem cd211_49 : code9 211 49 = some (0, .getfield 98, [3, 12, 14, 2], .null, []) := rfl
theorem cd211_52 : code9 211 52 = some (0, .sipush 155, [3], .int 155, []) := rfl
theorem cd211_55 : code9 211 55 = some (0, .iload_n 1, [1], .null, []) := rfl
theorem cd211_56 : code9 211 56 = some (0, .iadd, [1], .null, []) := rfl
theorem cd211_57 : code9 211 57 = some (0, .iaload, [1], .null, []) := rfl
theorem cd211_58 : code9 211 58 = some (0, .ireturn, [1, 1], .null, []) := rfl
theorem cd211_59 : code9 211 59 = some (0, .iconst 0, [1], .int 0, []) := rfl
theorem cd211_60 : code9 211 60 = some (0, .istore 4, [2], .null, []) := rfl
theorem cd211_62 : code9 211 62 = some (6, .iload 4, [2], .null, []) := rfl
theorem cd211_64 : code9 211 64 = some (0, .aload_n 0, [1], .null, []) := rfl
theorem cd211_65 : code9 211 65 = some (0, .getfield 98, [3, 12, 14, 2], .null, []) := rfl
theorem cd211_68 : code9 211 68 = some (0, .iconst 1, [1], .int 1, []) := rfl
theorem cd211_69 : code9 211 69 = some (0, .iaload, [1], .null, []) := rfl
theorem cd211_70 : code9 211 70 = some (0, .if_icmp .ge 46, [3, 116], .null, []) := rfl
theorem cd211_73 : code9 211 73 = some (0, .aload_n 0, [1], .null, []) := rfl
theorem cd211_74 : code9 211 74 = some (0, .getfield 98, [3, 12, 14, 2], .null, []) := rfl
theorem cd211_77 : code9 211 77 = some (0, .sipush 135, [3], .int 135, []) := rfl
theorem cd211_80 : code9 211 80 = some (0, .iload 4, [2], .null, []) := rfl
theorem cd211_82 : code9 211 82 = some (0, .iadd, [1], .null, []) := rfl
theorem cd211_83 : code9 211 83 = some (0, .iaload, [1], .null, []) := rfl
theorem cd211_84 : code9 211 84 = some (0, .iconst 1, [1], .int 1, []) := rfl
theorem cd211_85 : code9 211 85 = some (0, .if_icmp .ne 25, [3, 110], .null, []) := rfl
theorem cd211_88 : code9 211 88 = some (0, .aload_n 0, [1], .null, []) := rfl
theorem cd211_89 : code9 211 89 = some (0, .getfield 98, [3, 12, 14, 2], .null, []) := rfl
theorem cd211_92 : code9 211 92 = some (0, .sipush 145, [3], .int 145, []) := rfl
theorem cd211_95 : code9 211 95 = some (0, .iload 4, [2], .null, []) := rfl
theorem cd211_97 : code9 211 97 = some (0, .iadd, [1], .null, []) := rfl
theorem cd211_98 : code9 211 98 = some (0, .iaload, [1], .null, []) := rfl
theorem cd211_99 : code9 211 99 = some (0, .iload_n 1, [1], .null, []) := rfl
theorem cd211_100 : code9 211 100 = some (0, .if_icmp .ne 10, [3, 110], .null, []) := rfl
theorem cd211_103 : code9 211 103 = some (0, .iload_n 3, [1], .null, []) := rfl
theorem cd211_104 : code9 211 104 = some (0, .iconst 1, [1], .int 1, []) := rfl
theorem cd211_105 : code9 211 105 = some (0, .iload 4, [2], .null, []) := rfl
theorem cd211_107 : code9 211 107 = some (0, .ishl, [1], .null, []) := rfl
theorem cd211_108 : code9 211 108 = some (0, .ior, [1], .null, []) := rfl
theorem cd211_109 : code9 211 109 = some (0, .istore_n 3, [1], .null, []) := rfl
theorem cd211_110 : code9 211 110 = some (6, .iinc 4 1, [3], .int 1, []) := rfl
theorem cd211_113 : code9 211 113 = some (0, .goto (-51), [3, 62, 5], .null, []) := rfl
theorem cd211_116 : code9 211 116 = some (0, .iload_n 3, [1], .null, []) := rfl
theorem cd211_117 : code9 211 117 = some (0, .ireturn, [1, 1], .null, []) := rfl
theorem cd211_118 : code9 211 118 = some (0, .aload_n 0, [1], .null, []) := rfl
theorem cd211_119 : code9 211 119 = some (0, .getfield 98, [3, 12, 14, 2], .null, []) := rfl
theorem cd211_122 : code9 211 122 = some (0, .sipush 161, [3], .int 161, []) := rfl
theorem cd211_125 : code9 211 125 = some (0, .iload_n 1, [1], .null, []) := rfl
theorem cd211_126 : code9 211 126 = some (0, .iadd, [1], .null, []) := rfl
theorem cd211_127 : code9 211 127 = some (0, .iaload, [1], .null, []) := rfl
theorem cd211_128 : code9 211 128 = some (0, .ireturn, [1, 1], .null, []) := rfl
theorem cd211_129 : code9 211 129 = some (0, .aload_n 0, [1], .null, []) := rfl
theorem cd211_130 : code9 211 130 = some (0, .getfield 98, [3, 12, 14, 2], .null, []) := rfl
theorem cd211_133 : code9 211 133 = some (0, .sipush 167, [3], .int 167, []) := rfl
theorem cd211_136 : code9 211 136 = some (0, .iload_n 1, [1], .null, []) := rfl
theorem cd211_137 : code9 211 137 = some (0, .iadd, [1], .null, []) := rfl
theorem cd211_138 : code9 211 138 = some (0, .iaload, [1], .null, []) := rfl
theorem cd211_139 : code9 211 139 = some (0, .ireturn, [1, 1], .null, []) := rfl
theorem cd211_140 : code9 211 140 = some (0, .iconst (-1), [1], .int (-1), []) := rfl
theorem cd211_141 : code9 211 141 = some (0, .ireturn, [1, 1], .null, []) := rfl
def Mod_person_62 (N : Nat) : Nat → Int32 → Int32 → Int32 → Int32 → FI → Option (Int32 × FI)
  | 0 => fun _ _ _ _ _ => none
  | n + 1 => fun l1 l2 l3 l4 I => if (I 206 ((1 : Int32).toNatClampNeg)) ≤ l4 then (some (l3, I)) else (if in9 (135 + l4) 451 then (if (I 206 ((135 + l4).toNatClampNeg)) = 1 then (if in9 (145 + l4) 451 then (if (I 206 ((145 + l4).toNatClampNeg)) = l1 then (Mod_person_62 N n l1 l2 (l3 ||| (1 <<< (l4 &&& 31))) (l4 + 1) I) else (Mod_person_62 N n l1 l2 l3 (l4 + 1) I)) else none) else (Mod_person_62 N n l1 l2 l3 (l4 + 1) I)) else none)
def Mod_person (N : Nat) (l1 : Int32) (l2 : Int32) (I : FI) : Option (Int32 × FI) := Option.bind (some (up2 I 204 0 (0 : Int32))) fun I1 => (Option.bind (Mod_isPerson l1 I1) fun x2 => (if x2 then (if l2 = 0 then (if in9 (155 + l1) 451 then (some (I1 206 ((155 + l1).toNatClampNeg), I1)) else none) else (if l2 = 1 then (Mod_person_62 N N l1 l2 0 0 I1) else (if l2 = 2 then (if in9 (161 + l1) 451 then (some (I1 206 ((161 + l1).toNatClampNeg), I1)) else none) else (if l2 = 3 then (if in9 (167 + l1) 451 then (some (I1 206 ((167 + l1).toNatClampNeg), I1)) else none) else (some ((-1), I1)))))) else (some ((-1), I1))))
set_option maxRecDepth 8000 in
theorem t_Mod_person_62 {d : Nat} {N : Nat} {c : Nat × Nat} {S : Nat → Nat × Nat} {P : Nat → Nat → Option Nat} {r : Int32 × FI} (hd : 2 ≤ (d + 1)) (hw : OM S P) : ∀ (n : Nat) (l1 : Int32) (l2 : Int32) (l3 : Int32) (l4 : Int32) (I : FI) (J : FJ), Mod_person_62 N n l1 l2 l3 l4 I = some r → Go (d + 1) M_Mod_person 62 [some (.ref 204), some (.int l1), some (.int l2), some (.int l3), some (.int l4)] [] (c, S, I, J, P) (some (.int r.1), false, (c, S, r.2, J, P)) := by
  intro n
  induction n with
  | zero =>
    intro l1 l2 l3 l4 I J h
    cases h
  | succ n ih =>
    intro l1 l2 l3 l4 I J h
    unfold Mod_person_62 at h
    refine g_iload cd211_62 rfl rfl ?_
    refine g_aload_n cd211_64 rfl rfl ?_
    refine g_getP cd211_65 rfl (OM.o hw) (OM.p14 hw) ?_
    refine g_iconst cd211_68 rfl ?_
    refine G_iald cd211_69 rfl (OM.s14 hw) (by decide) ?_
    refine g_icmp_ge cd211_70 rfl (fun hb => ?_) (fun hb => ?_)
    · have h := ifpE hb h
      refine g_iload_n cd211_116 rfl rfl ?_
      exact g_iret cd211_117 (Or.inl rfl) (by obtain rfl := Option.some.inj h; rfl)
    · have h := ifnE hb h
      refine g_aload_n cd211_73 rfl rfl ?_
      refine g_getP cd211_74 rfl (OM.o hw) (OM.p14 hw) ?_
      refine g_sipush cd211_77 rfl ?_
      refine g_iload cd211_80 rfl rfl ?_
      refine g_iadd cd211_82 rfl ?_
      obtain ⟨hg4, h⟩ := grd h
      refine G_iald cd211_83 rfl (OM.s14 hw) hg4 ?_
      refine g_iconst cd211_84 rfl ?_
      refine g_icmp_ne cd211_85 rfl (fun hb => ?_) (fun hb => ?_)
      · have h := ifpE hb h
        refine g_aload_n cd211_88 rfl rfl ?_
        refine g_getP cd211_89 rfl (OM.o hw) (OM.p14 hw) ?_
        refine g_sipush cd211_92 rfl ?_
        refine g_iload cd211_95 rfl rfl ?_
        refine g_iadd cd211_97 rfl ?_
        obtain ⟨hg5, h⟩ := grd h
        refine G_iald cd211_98 rfl (OM.s14 hw) hg5 ?_
        refine g_iload_n cd211_99 rfl rfl ?_
        refine g_icmp_ne cd211_100 rfl (fun hb => ?_) (fun hb => ?_)
        · have h := ifpE hb h
          refine g_iload_n cd211_103 rfl rfl ?_
          refine g_iconst cd211_104 rfl ?_
          refine g_iload cd211_105 rfl rfl ?_
          refine g_ishl cd211_107 rfl ?_
          refine g_ior cd211_108 rfl ?_
          refine g_istore_n (ls2 := [some (.ref 204), some (.int l1), some (.int l2), some (.int (l3 ||| (1 <<< (l4 &&& 31)))), some (.int l4)]) cd211_109 rfl rfl ?_
          refine g_iinc (ls2 := [some (.ref 204), some (.int l1), some (.int l2), some (.int (l3 ||| (1 <<< (l4 &&& 31)))), some (.int (l4 + 1))]) cd211_110 rfl rfl rfl ?_
          refine g_goto (ls2 := [some (.ref 204), some (.int l1), some (.int l2), some (.int (l3 ||| (1 <<< (l4 &&& 31)))), some (.int (l4 + 1))]) cd211_113 rfl rfl ?_
          exact ih l1 l2 (l3 ||| (1 <<< (l4 &&& 31))) (l4 + 1) I J h
        · have h := ifnE hb h
          refine g_iinc (ls2 := [some (.ref 204), some (.int l1), some (.int l2), some (.int l3), some (.int (l4 + 1))]) cd211_110 rfl rfl rfl ?_
          refine g_goto (ls2 := [some (.ref 204), some (.int l1), some (.int l2), some (.int l3), some (.int (l4 + 1))]) cd211_113 rfl rfl ?_
          exact ih l1 l2 l3 (l4 + 1) I J h
      · have h := ifnE hb h
        refine g_iinc (ls2 := [some (.ref 204), some (.int l1), some (.int l2), some (.int l3), some (.int (l4 + 1))]) cd211_110 rfl rfl rfl ?_
        refine g_goto (ls2 := [some (.ref 204), some (.int l1), some (.int l2), some (.int l3), some (.int (l4 + 1))]) cd211_113 rfl rfl ?_
        exact ih l1 l2 l3 (l4 + 1) I J h
set_option maxRecDepth 8000 in
theorem t_Mod_person {d : Nat} {N : Nat} {c : Nat × Nat} {S : Nat → Nat × Nat} {P : Nat → Nat → Option Nat} {I : FI} {J : FJ} {l1 : Int32} {l2 : Int32} {r : Int32 × FI} (hd : 2 ≤ d) (hw : OM S P) (h : Mod_person N l1 l2 I = some r) : Go d M_Mod_person 0 [some (.ref 204), some (.int l1), some (.int l2), none, none] [] (c, S, I, J, P) (some (.int r.1), false, (c, S, r.2, J, P)) := by
  obtain ⟨d, rfl⟩ : ∃ e, d = e + 1 := ⟨d - 1, by omega⟩
  unfold Mod_person at h
  refine g_aload_n cd211_0 rfl rfl ?_
  refine g_iconst cd211_1 rfl ?_
  obtain ⟨I1, e1, h⟩ := bnd h
  refine G_putI cd211_2 rfl (OM.o hw) (Option.some.inj e1) ?_
  refine g_aload_n cd211_5 rfl rfl ?_
  refine g_iload_n cd211_6 rfl rfl ?_
  obtain ⟨x2, hx, h⟩ := bnd h
  refine g_callVZ (L := [some (.ref 204), some (.int l1)]) cd211_7 rfl rfl rfl rfl rfl (OM.o hw) (t_Mod_isPerson (by omega) hw hx) ?_
  refine g_if_ne cd211_10 rfl (fun hb => ?_) (fun hb => ?_)
  · have h := ifnE (b2i_f hb) h
    refine g_iconst cd211_13 rfl ?_
    exact g_iret cd211_14 (Or.inl rfl) (by obtain rfl := Option.some.inj h; rfl)
  · have h := ifpE (b2i_t hb) h
    refine g_iconst cd211_15 rfl ?_
    refine g_istore_n (ls2 := [some (.ref 204), some (.int l1), some (.int l2), some (.int 0), none]) cd211_16 rfl rfl ?_
    refine g_iload_n cd211_17 rfl rfl ?_
    refine g_tableswitch cd211_18 rfl ?_
    refine ifi (fun hb => ?_) (fun hb => ?_)
    · have h := ifpE hb h
      show Go _ _ 48 [some (.ref 204), some (.int l1), some (.int l2), some (.int 0), none] [] _ _
      refine g_aload_n cd211_48 rfl rfl ?_
      refine g_getP cd211_49 rfl (OM.o hw) (OM.p14 hw) ?_
      refine g_sipush cd211_52 rfl ?_
      refine g_iload_n cd211_55 rfl rfl ?_
      refine g_iadd cd211_56 rfl ?_
      obtain ⟨hg3, h⟩ := grd h
      refine G_iald cd211_57 rfl (OM.s14 hw) hg3 ?_
      exact g_iret cd211_58 (Or.inl rfl) (by obtain rfl := Option.some.inj h; rfl)
    have h := ifnE hb h
    refine ifi (fun hb => ?_) (fun hb => ?_)
    · have h := ifpE hb h
      show Go _ _ 59 [some (.ref 204), some (.int l1), some (.int l2), some (.int 0), none] [] _ _
      refine g_iconst cd211_59 rfl ?_
      refine g_istore (ls2 := [some (.ref 204), some (.int l1), some (.int l2), some (.int 0), some (.int 0)]) cd211_60 rfl rfl ?_
      exact t_Mod_person_62 hd hw _ l1 l2 0 0 I1 J h
    have h := ifnE hb h
    refine ifi (fun hb => ?_) (fun hb => ?_)
    · have h := ifpE hb h
      show Go _ _ 118 [some (.ref 204), some (.int l1), some (.int l2), some (.int 0), none] [] _ _
      refine g_aload_n cd211_118 rfl rfl ?_
      refine g_getP cd211_119 rfl (OM.o hw) (OM.p14 hw) ?_
      refine g_sipush cd211_122 rfl ?_
      refine g_iload_n cd211_125 rfl rfl ?_
      refine g_iadd cd211_126 rfl ?_
      obtain ⟨hg6, h⟩ := grd h
      refine G_iald cd211_127 rfl (OM.s14 hw) hg6 ?_
      exact g_iret cd211_128 (Or.inl rfl) (by obtain rfl := Option.some.inj h; rfl)
    have h := ifnE hb h
    refine ifi (fun hb => ?_) (fun hb => ?_)
    · have h := ifpE hb h
      show Go _ _ 129 [some (.ref 204), some (.int l1), some (.int l2), some (.int 0), none] [] _ _
      refine g_aload_n cd211_129 rfl rfl ?_
      refine g_getP cd211_130 rfl (OM.o hw) (OM.p14 hw) ?_
      refine g_sipush cd211_133 rfl ?_
      refine g_iload_n cd211_136 rfl rfl ?_
      refine g_iadd cd211_137 rfl ?_
      obtain ⟨hg7, h⟩ := grd h
      refine G_iald cd211_138 rfl (OM.s14 hw) hg7 ?_
      exact g_iret cd211_139 (Or.inl rfl) (by obtain rfl := Option.some.inj h; rfl)
    have h := ifnE hb h
    show Go _ _ 140 [some (.ref 204), some (.int l1), some (.int l2), some (.int 0), none] [] _ _
    refine g_iconst cd211_140 rfl ?_
    exact g_iret cd211_141 (Or.inl rfl) (by obtain rfl := Option.some.inj h; rfl)
/-! HiddenOrLostModel.isCell(II)Z -/
theorem cd214_0 : code9 214 0 = some (0, .iload_n 1, [1], .null, []) := rfl
theorem cd214_1 : code9 214 1 = some (0, .iconst 0, [1], .int 0, []) := rfl
theorem cd214_2 : code9 214 2 = some (0, .aload_n 0, [1], .null, []) := rfl
theorem cd214_3 : code9 214 3 = some (0, .getfield 98, [3, 12, 14, 2], .null, []) := rfl
theorem cd214_6 : code9 214 6 = some (0, .iconst 3, [1], .int 3, []) := rfl
theorem cd214_7 : code9 214 7 = some (0, .iaload, [1], .null, []) := rfl
theorem cd214_8 : code9 214 8 = some (0, .iconst 1, [1], .int 1, []) := rfl
theorem cd214_9 : code9 214 9 = some (0, .isub, [1], .null, []) := rfl
theorem cd214_10 : code9 214 10 = some (0, .invokestatic 75, [3, 191, 3, 0, 3, 3, 12, 0], .null, []) := rfl
theorem cd214_13 : code9 214 13 = some (0, .ifCond .eq 23, [3, 36], .null, []) := rfl
theorem cd214_16 : code9 214 16 = some (0, .iload_n 2, [1], .null, []) := rfl
theorem cd214_17 : code9 214 17 = some (0, .iconst 0, [1], .int 0, []) := rfl
theorem cd214_18 : code9 214 18 = some (0, .aload_n 0, [1], .null, []) := rfl
theorem cd214_19 : code9 214 19 = some (0, .getfield 98, [3, 12, 14, 2], .null, []) := rfl
theorem cd214_22 : code9 214 22 = some (0, .iconst 4, [1], .int 4, []) := rfl
theorem cd214_23 : code9 214 23 = some (0, .iaload, [1], .null, []) := rfl
theorem cd214_24 : code9 214 24 = some (0, .iconst 1, [1], .int 1, []) := rfl
theorem cd214_25 : code9 214 25 = some (0, .isub, [1], .null, []) := rfl
theorem cd214_26 : code9 214 26 = some (0, .invokestatic 75, [3, 191, 3, 0, 3, 3, 12, 0], .null, []) := rfl
theorem cd214_29 : code9 214 29 = some (0, .ifCond .eq 7, [3, 36], .null, []) := rfl
theorem cd214_32 : code9 214 32 = some (0, .iconst 1, [1], .int 1, []) := rfl
theorem cd214_33 : code9 214 33 = some (0, .goto 4, [3, 37, 3], .null, []) := rfl
theorem cd214_36 : code9 214 36 = some (4, .iconst 0, [1], .int 0, []) := rfl
theorem cd214_37 : code9 214 37 = some (4, .ireturn, [1, 3], .null, []) := rfl
def Mod_isCell (l1 : Int32) (l2 : Int32) (I : FI) : Option (Bool) := if (Mod_isIn l1 0 ((I 206 ((3 : Int32).toNatClampNeg)) - 1)) then (if (Mod_isIn l2 0 ((I 206 ((4 : Int32).toNatClampNeg)) - 1)) then (some true) else (some false)) else (some false)
set_option maxRecDepth 8000 in
theorem t_Mod_isCell {d : Nat} {c : Nat × Nat} {S : Nat → Nat × Nat} {P : Nat → Nat → Option Nat} {I : FI} {J : FJ} {l1 : Int32} {l2 : Int32} {r : Bool} (hd : 1 ≤ d) (hw : OM S P) (h : Mod_isCell l1 l2 I = some r) : Go d M_Mod_isCell 0 [some (.ref 204), some (.int l1), some (.int l2)] [] (c, S, I, J, P) (some (.int (b2i r)), false, (c, S, I, J, P)) := by
  obtain ⟨d, rfl⟩ : ∃ e, d = e + 1 := ⟨d - 1, by omega⟩
  unfold Mod_isCell at h
  refine g_iload_n cd214_0 rfl rfl ?_
  refine g_iconst cd214_1 rfl ?_
  refine g_aload_n cd214_2 rfl rfl ?_
  refine g_getP cd214_3 rfl (OM.o hw) (OM.p14 hw) ?_
  refine g_iconst cd214_6 rfl ?_
  refine G_iald cd214_7 rfl (OM.s14 hw) (by decide) ?_
  refine g_iconst cd214_8 rfl ?_
  refine g_isub cd214_9 rfl ?_
  refine g_callSZ (L := [some (.int l1), some (.int 0), some (.int ((I 206 ((3 : Int32).toNatClampNeg)) - 1))]) cd214_10 rfl rfl rfl rfl rfl (t_Mod_isIn (by omega)  rfl) ?_
  refine g_if_eq cd214_13 rfl (fun hb => ?_) (fun hb => ?_)
  · have h := ifnE (b2i_f hb) h
    refine g_iconst cd214_36 rfl ?_
    exact g_iret cd214_37 (Or.inr ⟨rfl, Or.inl rfl⟩) (by obtain rfl := Option.some.inj h; rfl)
  · have h := ifpE (b2i_t hb) h
    refine g_iload_n cd214_16 rfl rfl ?_
    refine g_iconst cd214_17 rfl ?_
    refine g_aload_n cd214_18 rfl rfl ?_
    refine g_getP cd214_19 rfl (OM.o hw) (OM.p14 hw) ?_
    refine g_iconst cd214_22 rfl ?_
    refine G_iald cd214_23 rfl (OM.s14 hw) (by decide) ?_
    refine g_iconst cd214_24 rfl ?_
    refine g_isub cd214_25 rfl ?_
    refine g_callSZ (L := [some (.int l2), some (.int 0), some (.int ((I 206 ((4 : Int32).toNatClampNeg)) - 1))]) cd214_26 rfl rfl rfl rfl rfl (t_Mod_isIn (by omega)  rfl) ?_
    refine g_if_eq cd214_29 rfl (fun hb => ?_) (fun hb => ?_)
    · have h := ifnE (b2i_f hb) h
      refine g_iconst cd214_36 rfl ?_
      exact g_iret cd214_37 (Or.inr ⟨rfl, Or.inl rfl⟩) (by obtain rfl := Option.some.inj h; rfl)
    · have h := ifpE (b2i_t hb) h
      refine g_iconst cd214_32 rfl ?_
      refine g_goto (ls2 := [some (.ref 204), some (.int l1), some (.int l2)]) cd214_33 rfl rfl ?_
      exact g_iret cd214_37 (Or.inr ⟨rfl, Or.inr rfl⟩) (by obtain rfl := Option.some.inj h; rfl)
/-! HiddenOrLostModel.size(I)I -/
theorem cd217_0 : code9 217 0 = some (0, .iload_n 0, [1], .null, []) := rfl
theorem cd217_1 : code9 217 1 = some (0, .ifCond .ge 8, [3, 9], .null, []) := rfl
theorem cd217_4 : code9 217 4 = some (0, .iload_n 0, [1], .null, []) := rfl
theorem cd217_5 : code9 217 5 = some (0, .ineg, [1], .null, []) := rfl
theorem cd217_6 : code9 217 6 = some (0, .goto 4, [3, 10, 1], .null, []) := rfl
theorem cd217_9 : code9 217 9 = some (0, .iload_n 0, [1], .null, []) := rfl
theorem cd217_10 : code9 217 10 = some (2, .ireturn, [1, 1], .null, []) := rfl
def Mod_size (l0 : Int32) : Int32 := if 0 ≤ l0 then (l0) else (0 - l0)
set_option maxRecDepth 8000 in
theorem t_Mod_size {d : Nat} {c : Nat × Nat} {S : Nat → Nat × Nat} {P : Nat → Nat → Option Nat} {I : FI} {J : FJ} {l0 : Int32} {r : Int32} (hd : 0 ≤ d) (h : Mod_size l0 = r) : Go d M_Mod_size 0 [some (.int l0)] [] (c, S, I, J, P) (some (.int r), false, (c, S, I, J, P)) := by
  unfold Mod_size at h
  refine g_iload_n cd217_0 rfl rfl ?_
  refine g_if_ge cd217_1 rfl (fun hb => ?_) (fun hb => ?_)
  · have h := ifpE hb h
    refine g_iload_n cd217_9 rfl rfl ?_
    exact g_iret cd217_10 (Or.inl rfl) (by subst h; rfl)
  · have h := ifnE hb h
    refine g_iload_n cd217_4 rfl rfl ?_
    refine g_ineg cd217_5 rfl ?_
    refine g_goto (ls2 := [some (.int l0)]) cd217_6 rfl rfl ?_
    exact g_iret cd217_10 (Or.inl rfl) (by subst h; rfl)
/-! HiddenOrLostModel.away(IIII)I -/
theorem cd216_0 : code9 216 0 = some (0, .iload_n 0, [1], .null, []) := rfl
theorem cd216_1 : code9 216 1 = some (0, .iload_n 2, [1], .null, []) := rfl
theorem cd216_2 : code9 216 2 = some (0, .isub, [1], .null, []) := rfl
theorem cd216_3 : code9 216 3 = some (0, .invokestatic 236, [3, 217, 1, 0, 1, 1, 12, 0], .null, []) := rfl
theorem cd216_6 : code9 216 6 = some (0, .iload_n 1, [1], .null, []) := rfl
theorem cd216_7 : code9 216 7 = some (0, .iload_n 3, [1], .null, []) := rfl
theorem cd216_8 : code9 216 8 = some (0, .isub, [1], .null, []) := rfl
theorem cd216_9 : code9 216 9 = some (0, .invokestatic 236, [3, 217, 1, 0, 1, 1, 12, 0], .null, []) := rfl
theorem cd216_12 : code9 216 12 = some (0, .iadd, [1], .null, []) := rfl
theorem cd216_13 : code9 216 13 = some (0, .ireturn, [1, 1], .null, []) := rfl
def Mod_away (l0 : Int32) (l1 : Int32) (l2 : Int32) (l3 : Int32) : Int32 := (Mod_size (l0 - l2)) + (Mod_size (l1 - l3))
set_option maxRecDepth 8000 in
theorem t_Mod_away {d : Nat} {c : Nat × Nat} {S : Nat → Nat × Nat} {P : Nat → Nat → Option Nat} {I : FI} {J : FJ} {l0 : Int32} {l1 : Int32} {l2 : Int32} {l3 : Int32} {r : Int32} (hd : 1 ≤ d) (h : Mod_away l0 l1 l2 l3 = r) : Go d M_Mod_away 0 [some (.int l0), some (.int l1), some (.int l2), some (.int l3)] [] (c, S, I, J, P) (some (.int r), false, (c, S, I, J, P)) := by
  obtain ⟨d, rfl⟩ : ∃ e, d = e + 1 := ⟨d - 1, by omega⟩
  unfold Mod_away at h
  refine g_iload_n cd216_0 rfl rfl ?_
  refine g_iload_n cd216_1 rfl rfl ?_
  refine g_isub cd216_2 rfl ?_
  refine g_callSI (L := [some (.int (l0 - l2))]) cd216_3 rfl rfl rfl rfl rfl (t_Mod_size (by omega)  rfl) ?_
  refine g_iload_n cd216_6 rfl rfl ?_
  refine g_iload_n cd216_7 rfl rfl ?_
  refine g_isub cd216_8 rfl ?_
  refine g_callSI (L := [some (.int (l1 - l3))]) cd216_9 rfl rfl rfl rfl rfl (t_Mod_size (by omega)  rfl) ?_
  refine g_iadd cd216_12 rfl ?_
  exact g_iret cd216_13 (Or.inl rfl) (by subst h; rfl)
/-! HiddenOrLostModel.worthOf(II)I -/
theorem cd215_0 : code9 215 0 = some (0, .aload_n 0, [1], .null, []) := rfl
theorem cd215_1 : code9 215 1 = some (0, .getfield 98, [3, 12, 14, 2], .null, []) := rfl
theorem cd215_4 : code9 215 4 = some (0, .sipush 173, [3], .int 173, []) := rfl
theorem cd215_7 : code9 215 7 = some (0, .bipush 6, [2], .int 6, []) := rfl
theorem cd215_9 : code9 215 9 = some (0, .iload_n 2, [1], .null, []) := rfl
theorem cd215_10 : code9 215 10 = some (0, .imul, [1], .null, []) := rfl
theorem cd215_11 : code9 215 11 = some (0, .iadd, [1], .null, []) := rfl
theorem cd215_12 : code9 215 12 = some (0, .iload_n 1, [1], .null, []) := rfl
theorem cd215_13 : code9 215 13 = some (0, .iadd, [1], .null, []) := rfl
theorem cd215_14 : code9 215 14 = some (0, .iaload, [1], .null, []) := rfl
theorem cd215_15 : code9 215 15 = some (0, .bipush 10, [2], .int 10, []) := rfl
theorem cd215_17 : code9 215 17 = some (0, .if_icmp .ne 5, [3, 22], .null, []) := rfl
theorem cd215_20 : code9 215 20 = some (0, .iconst 0, [1], .int 0, []) := rfl
theorem cd215_21 : code9 215 21 = some (0, .ireturn, [1, 1], .null, []) := rfl
theorem cd215_22 : code9 215 22 = some (0, .iconst (-1), [1], .int (-1), []) := rfl
theorem cd215_23 : code9 215 23 = some (0, .istore_n 3, [1], .null, []) := rfl
theorem cd215_24 : code9 215 24 = some (0, .iconst 0, [1], .int 0, []) := rfl
theorem cd215_25 : code9 215 25 = some (0, .istore 4, [2], .null, []) := rfl
theorem cd215_27 : code9 215 27 = some (6, .iload 4, [2], .null, []) := rfl
theorem cd215_29 : code9 215 29 = some (0, .aload_n 0, [1], .null, []) := rfl
theorem cd215_30 : code9 215 30 = some (0, .getfield 98, [3, 12, 14, 2], .null, []) := rfl
theorem cd215_33 : code9 215 33 = some (0, .iconst 1, [1], .int 1, []) := rfl
theorem cd215_34 : code9 215 34 = some (0, .iaload, [1], .null, []) := rfl
theorem cd215_35 : code9 215 35 = some (0, .if_icmp .ge 67, [3, 102], .null, []) := rfl
theorem cd215_38 : code9 215 38 = some (0, .aload_n 0, [1], .null, []) := rfl
theorem cd215_39 : code9 215 39 = some (0, .getfield 98, [3, 12, 14, 2], .null, []) := rfl
theorem cd215_42 : code9 215 42 = some (0, .sipush 135, [3], .int 135, []) := rfl
theorem cd215_45 : code9 215 45 = some (0, .iload 4, [2], .null, []) := rfl
theorem cd215_47 : code9 215 47 = some (0, .iadd, [1], .null, []) := rfl
theorem cd215_48 : code9 215 48 = some (0, .iaload, [1], .null, []) := rfl
theorem cd215_49 : code9 215 49 = some (0, .ifCond .ne 6, [3, 55], .null, []) := rfl
theorem cd215_52 : code9 215 52 = some (0, .goto 44, [3, 96, 5], .null, []) := rfl
theorem cd215_55 : code9 215 55 = some (0, .iload_n 1, [1], .null, []) := rfl
theorem cd215_56 : code9 215 56 = some (0, .iload_n 2, [1], .null, []) := rfl
theorem cd215_57 : code9 215 57 = some (0, .aload_n 0, [1], .null, []) := rfl
theorem cd215_58 : code9 215 58 = some (0, .getfield 98, [3, 12, 14, 2], .null, []) := rfl
theorem cd215_61 : code9 215 61 = some (0, .bipush 105, [2], .int 105, []) := rfl
theorem cd215_63 : code9 215 63 = some (0, .iload 4, [2], .null, []) := rfl
theorem cd215_65 : code9 215 65 = some (0, .iadd, [1], .null, []) := rfl
theorem cd215_66 : code9 215 66 = some (0, .iaload, [1], .null, []) := rfl
theorem cd215_67 : code9 215 67 = some (0, .aload_n 0, [1], .null, []) := rfl
theorem cd215_68 : code9 215 68 = some (0, .getfield 98, [3, 12, 14, 2], .null, []) := rfl
theorem cd215_71 : code9 215 71 = some (0, .bipush 115, [2], .int 115, []) := rfl
theorem cd215_73 : code9 215 73 = some (0, .iload 4, [2], .null, []) := rfl
theorem cd215_75 : code9 215 75 = some (0, .iadd, [1], .null, []) := rfl
theorem cd215_76 : code9 215 76 = some (0, .iaload, [1], .null, []) := rfl
theorem cd215_77 : code9 215 77 = some (0, .invokestatic 238, [3, 216, 4, 0, 1, 4, 12, 0], .null, []) := rfl
theorem cd215_80 : code9 215 80 = some (0, .istore 5, [2], .null, []) := rfl
theorem cd215_82 : code9 215 82 = some (0, .iload_n 3, [1], .null, []) := rfl
theorem cd215_83 : code9 215 83 = some (0, .iconst (-1), [1], .int (-1), []) := rfl
theorem cd215_84 : code9 215 84 = some (0, .if_icmp .eq 9, [3, 93], .null, []) := rfl
theorem cd215_87 : code9 215 87 = some (0, .iload 5, [2], .null, []) := rfl
theorem cd215_89 : code9 215 89 = some (0, .iload_n 3, [1], .null, []) := rfl
theorem cd215_90 : code9 215 90 = some (0, .if_icmp .ge 6, [3, 96], .null, []) := rfl
theorem cd215_93 : code9 215 93 = some (7, .iload 5, [2], .null, []) := rfl
theorem cd215_95 : code9 215 95 = some (0, .istore_n 3, [1], .null, []) := rfl
theorem cd215_96 : code9 215 96 = some (6, .iinc 4 1, [3], .int 1, []) := rfl
theorem cd215_99 : code9 215 99 = some (0, .goto (-72), [3, 27, 5], .null, []) := rfl
theorem cd215_102 : code9 215 102 = some (0, .iload_n 3, [1], .null, []) := rfl
theorem cd215_103 : code9 215 103 = some (0, .iconst (-1), [1], .int (-1), []) := rfl
theorem cd215_104 : code9 215 104 = some (0, .if_icmp .ne 7, [3, 111], .null, []) := rfl
theorem cd215_107 : code9 215 107 = some (0, .iconst 1, [1], .int 1, []) := rfl
theorem cd215_108 : code9 215 108 = some (0, .goto 9, [3, 117, 5], .null, []) := rfl
theorem cd215_111 : code9 215 111 = some (0, .bipush 12, [2], .int 12, []) := rfl
theorem cd215_113 : code9 215 113 = some (0, .iconst 1, [1], .int 1, []) := rfl
theorem cd215_114 : code9 215 114 = some (0, .iload_n 3, [1], .null, []) := rfl
theorem cd215_115 : code9 215 115 = some (0, .iadd, [1], .null, []) := rfl
theorem cd215_116 : code9 215 116 = some (0, .idiv, [1], .null, []) := rfl
theorem cd215_117 : code9 215 117 = some (6, .ireturn, [1, 1], .null, []) := rfl
def Mod_worthOf_27 (N : Nat) : Nat → Int32 → Int32 → Int32 → Int32 → FI → Option (Int32)
  | 0 => fun _ _ _ _ _ => none
  | n + 1 => fun l1 l2 l3 l4 I => if (I 206 ((1 : Int32).toNatClampNeg)) ≤ l4 then (if l3 = (-1) then (some 1) else (if ¬ (1 + l3) = 0 then (some (12 / (1 + l3))) else none)) else (if in9 (135 + l4) 451 then (if (I 206 ((135 + l4).toNatClampNeg)) = 0 then (Mod_worthOf_27 N n l1 l2 l3 (l4 + 1) I) else (if in9 (105 + l4) 451 then (if in9 (115 + l4) 451 then (if l3 = (-1) then (Mod_worthOf_27 N n l1 l2 (Mod_away l1 l2 (I 206 ((105 + l4).toNatClampNeg)) (I 206 ((115 + l4).toNatClampNeg))) (l4 + 1) I) else (if l3 ≤ (Mod_away l1 l2 (I 206 ((105 + l4).toNatClampNeg)) (I 206 ((115 + l4).toNatClampNeg))) then (Mod_worthOf_27 N n l1 l2 l3 (l4 + 1) I) else (Mod_worthOf_27 N n l1 l2 (Mod_away l1 l2 (I 206 ((105 + l4).toNatClampNeg)) (I 206 ((115 + l4).toNatClampNeg))) (l4 + 1) I))) else none) else none)) else none)
def Mod_worthOf (N : Nat) (l1 : Int32) (l2 : Int32) (I : FI) : Option (Int32) := if in9 ((173 + (6 * l2)) + l1) 451 then (if (I 206 (((173 + (6 * l2)) + l1).toNatClampNeg)) = 10 then (some 0) else (Mod_worthOf_27 N N l1 l2 (-1) 0 I)) else none
set_option maxRecDepth 8000 in
theorem t_Mod_worthOf_27 {d : Nat} {N : Nat} {c : Nat × Nat} {S : Nat → Nat × Nat} {P : Nat → Nat → Option Nat} {r : Int32} (hd : 2 ≤ (d + 1)) (hw : OM S P) : ∀ (n : Nat) (l1 : Int32) (l2 : Int32) (l3 : Int32) (l4 : Int32) (I : FI) (J : FJ), Mod_worthOf_27 N n l1 l2 l3 l4 I = some r → Go (d + 1) M_Mod_worthOf 27 [some (.ref 204), some (.int l1), some (.int l2), some (.int l3), some (.int l4), none] [] (c, S, I, J, P) (some (.int r), false, (c, S, I, J, P)) := by
  intro n
  induction n with
  | zero =>
    intro l1 l2 l3 l4 I J h
    cases h
  | succ n ih =>
    intro l1 l2 l3 l4 I J h
    unfold Mod_worthOf_27 at h
    refine g_iload cd215_27 rfl rfl ?_
    refine g_aload_n cd215_29 rfl rfl ?_
    refine g_getP cd215_30 rfl (OM.o hw) (OM.p14 hw) ?_
    refine g_iconst cd215_33 rfl ?_
    refine G_iald cd215_34 rfl (OM.s14 hw) (by decide) ?_
    refine g_icmp_ge cd215_35 rfl (fun hb => ?_) (fun hb => ?_)
    · have h := ifpE hb h
      refine g_iload_n cd215_102 rfl rfl ?_
      refine g_iconst cd215_103 rfl ?_
      refine g_icmp_ne cd215_104 rfl (fun hb => ?_) (fun hb => ?_)
      · have h := ifpE hb h
        refine g_iconst cd215_107 rfl ?_
        refine g_goto (ls2 := [some (.ref 204), some (.int l1), some (.int l2), some (.int l3), some (.int l4), none]) cd215_108 rfl rfl ?_
        exact g_iret cd215_117 (Or.inl rfl) (by obtain rfl := Option.some.inj h; rfl)
      · have h := ifnE hb h
        refine g_bipush cd215_111 rfl ?_
        refine g_iconst cd215_113 rfl ?_
        refine g_iload_n cd215_114 rfl rfl ?_
        refine g_iadd cd215_115 rfl ?_
        obtain ⟨hg2, h⟩ := grd h
        refine g_idiv cd215_116 rfl hg2 ?_
        exact g_iret cd215_117 (Or.inl rfl) (by obtain rfl := Option.some.inj h; rfl)
    · have h := ifnE hb h
      refine g_aload_n cd215_38 rfl rfl ?_
      refine g_getP cd215_39 rfl (OM.o hw) (OM.p14 hw) ?_
      refine g_sipush cd215_42 rfl ?_
      refine g_iload cd215_45 rfl rfl ?_
      refine g_iadd cd215_47 rfl ?_
      obtain ⟨hg3, h⟩ := grd h
      refine G_iald cd215_48 rfl (OM.s14 hw) hg3 ?_
      refine g_if_ne cd215_49 rfl (fun hb => ?_) (fun hb => ?_)
      · have h := ifpE hb h
        refine g_goto (ls2 := [some (.ref 204), some (.int l1), some (.int l2), some (.int l3), some (.int l4), none]) cd215_52 rfl rfl ?_
        refine g_iinc (ls2 := [some (.ref 204), some (.int l1), some (.int l2), some (.int l3), some (.int (l4 + 1)), none]) cd215_96 rfl rfl rfl ?_
        refine g_goto (ls2 := [some (.ref 204), some (.int l1), some (.int l2), some (.int l3), some (.int (l4 + 1)), none]) cd215_99 rfl rfl ?_
        exact ih l1 l2 l3 (l4 + 1) I J h
      · have h := ifnE hb h
        refine g_iload_n cd215_55 rfl rfl ?_
        refine g_iload_n cd215_56 rfl rfl ?_
        refine g_aload_n cd215_57 rfl rfl ?_
        refine g_getP cd215_58 rfl (OM.o hw) (OM.p14 hw) ?_
        refine g_bipush cd215_61 rfl ?_
        refine g_iload cd215_63 rfl rfl ?_
        refine g_iadd cd215_65 rfl ?_
        obtain ⟨hg4, h⟩ := grd h
        refine G_iald cd215_66 rfl (OM.s14 hw) hg4 ?_
        refine g_aload_n cd215_67 rfl rfl ?_
        refine g_getP cd215_68 rfl (OM.o hw) (OM.p14 hw) ?_
        refine g_bipush cd215_71 rfl ?_
        refine g_iload cd215_73 rfl rfl ?_
        refine g_iadd cd215_75 rfl ?_
        obtain ⟨hg5, h⟩ := grd h
        refine G_iald cd215_76 rfl (OM.s14 hw) hg5 ?_
        refine g_callSI (L := [some (.int l1), some (.int l2), some (.int (I 206 ((105 + l4).toNatClampNeg))), some (.int (I 206 ((115 + l4).toNatClampNeg)))]) cd215_77 rfl rfl rfl rfl rfl (t_Mod_away (by omega)  rfl) ?_
        refine g_istore (ls2 := [some (.ref 204), some (.int l1), some (.int l2), some (.int l3), some (.int l4), some (.int (Mod_away l1 l2 (I 206 ((105 + l4).toNatClampNeg)) (I 206 ((115 + l4).toNatClampNeg))))]) cd215_80 rfl rfl ?_
        refine g_iload_n cd215_82 rfl rfl ?_
        refine g_iconst cd215_83 rfl ?_
        refine g_icmp_eq cd215_84 rfl (fun hb => ?_) (fun hb => ?_)
        · have h := ifpE hb h
          refine g_iload cd215_93 rfl rfl ?_
          refine g_istore_n (ls2 := [some (.ref 204), some (.int l1), some (.int l2), some (.int (Mod_away l1 l2 (I 206 ((105 + l4).toNatClampNeg)) (I 206 ((115 + l4).toNatClampNeg)))), some (.int l4), some (.int (Mod_away l1 l2 (I 206 ((105 + l4).toNatClampNeg)) (I 206 ((115 + l4).toNatClampNeg))))]) cd215_95 rfl rfl ?_
          refine go_cut (k := 0) (ls' := [some (.ref 204), some (.int l1), some (.int l2), some (.int (Mod_away l1 l2 (I 206 ((105 + l4).toNatClampNeg)) (I 206 ((115 + l4).toNatClampNeg)))), some (.int l4), none]) cd215_96 rfl ?_
          refine g_iinc (ls2 := [some (.ref 204), some (.int l1), some (.int l2), some (.int (Mod_away l1 l2 (I 206 ((105 + l4).toNatClampNeg)) (I 206 ((115 + l4).toNatClampNeg)))), some (.int (l4 + 1)), none]) cd215_96 rfl rfl rfl ?_
          refine g_goto (ls2 := [some (.ref 204), some (.int l1), some (.int l2), some (.int (Mod_away l1 l2 (I 206 ((105 + l4).toNatClampNeg)) (I 206 ((115 + l4).toNatClampNeg)))), some (.int (l4 + 1)), none]) cd215_99 rfl rfl ?_
          exact ih l1 l2 (Mod_away l1 l2 (I 206 ((105 + l4).toNatClampNeg)) (I 206 ((115 + l4).toNatClampNeg))) (l4 + 1) I J h
        · have h := ifnE hb h
          refine g_iload cd215_87 rfl rfl ?_
          refine g_iload_n cd215_89 rfl rfl ?_
          refine g_icmp_ge cd215_90 rfl (fun hb => ?_) (fun hb => ?_)
          · have h := ifpE hb h
            refine go_cut (k := 0) (ls' := [some (.ref 204), some (.int l1), some (.int l2), some (.int l3), some (.int l4), none]) cd215_96 rfl ?_
            refine g_iinc (ls2 := [some (.ref 204), some (.int l1), some (.int l2), some (.int l3), some (.int (l4 + 1)), none]) cd215_96 rfl rfl rfl ?_
            refine g_goto (ls2 := [some (.ref 204), some (.int l1), some (.int l2), some (.int l3), some (.int (l4 + 1)), none]) cd215_99 rfl rfl ?_
            exact ih l1 l2 l3 (l4 + 1) I J h
          · have h := ifnE hb h
            refine g_iload cd215_93 rfl rfl ?_
            refine g_istore_n (ls2 := [some (.ref 204), some (.int l1), some (.int l2), some (.int (Mod_away l1 l2 (I 206 ((105 + l4).toNatClampNeg)) (I 206 ((115 + l4).toNatClampNeg)))), some (.int l4), some (.int (Mod_away l1 l2 (I 206 ((105 + l4).toNatClampNeg)) (I 206 ((115 + l4).toNatClampNeg))))]) cd215_95 rfl rfl ?_
            refine go_cut (k := 0) (ls' := [some (.ref 204), some (.int l1), some (.int l2), some (.int (Mod_away l1 l2 (I 206 ((105 + l4).toNatClampNeg)) (I 206 ((115 + l4).toNatClampNeg)))), some (.int l4), none]) cd215_96 rfl ?_
            refine g_iinc (ls2 := [some (.ref 204), some (.int l1), some (.int l2), some (.int (Mod_away l1 l2 (I 206 ((105 + l4).toNatClampNeg)) (I 206 ((115 + l4).toNatClampNeg)))), some (.int (l4 + 1)), none]) cd215_96 rfl rfl rfl ?_
            refine g_goto (ls2 := [some (.ref 204), some (.int l1), some (.int l2), some (.int (Mod_away l1 l2 (I 206 ((105 + l4).toNatClampNeg)) (I 206 ((115 + l4).toNatClampNeg)))), some (.int (l4 + 1)), none]) cd215_99 rfl rfl ?_
            exact ih l1 l2 (Mod_away l1 l2 (I 206 ((105 + l4).toNatClampNeg)) (I 206 ((115 + l4).toNatClampNeg))) (l4 + 1) I J h
set_option maxRecDepth 8000 in
theorem t_Mod_worthOf {d : Nat} {N : Nat} {c : Nat × Nat} {S : Nat → Nat × Nat} {P : Nat → Nat → Option Nat} {I : FI} {J : FJ} {l1 : Int32} {l2 : Int32} {r : Int32} (hd : 2 ≤ d) (hw : OM S P) (h : Mod_worthOf N l1 l2 I = some r) : Go d M_Mod_worthOf 0 [some (.ref 204), some (.int l1), some (.int l2), none, none, none] [] (c, S, I, J, P) (some (.int r), false, (c, S, I, J, P)) := by
  obtain ⟨d, rfl⟩ : ∃ e, d = e + 1 := ⟨d - 1, by omega⟩
  unfold Mod_worthOf at h
  refine g_aload_n cd215_0 rfl rfl ?_
  refine g_getP cd215_1 rfl (OM.o hw) (OM.p14 hw) ?_
  refine g_sipush cd215_4 rfl ?_
  refine g_bipush cd215_7 rfl ?_
  refine g_iload_n cd215_9 rfl rfl ?_
  refine g_imul cd215_10 rfl ?_
  refine g_iadd cd215_11 rfl ?_
  refine g_iload_n cd215_12 rfl rfl ?_
  refine g_iadd cd215_13 rfl ?_
  obtain ⟨hg1, h⟩ := grd h
  refine G_iald cd215_14 rfl (OM.s14 hw) hg1 ?_
  refine g_bipush cd215_15 rfl ?_
  refine g_icmp_ne cd215_17 rfl (fun hb => ?_) (fun hb => ?_)
  · have h := ifpE hb h
    refine g_iconst cd215_20 rfl ?_
    exact g_iret cd215_21 (Or.inl rfl) (by obtain rfl := Option.some.inj h; rfl)
  · have h := ifnE hb h
    refine g_iconst cd215_22 rfl ?_
    refine g_istore_n (ls2 := [some (.ref 204), some (.int l1), some (.int l2), some (.int (-1)), none, none]) cd215_23 rfl rfl ?_
    refine g_iconst cd215_24 rfl ?_
    refine g_istore (ls2 := [some (.ref 204), some (.int l1), some (.int l2), some (.int (-1)), some (.int 0), none]) cd215_25 rfl rfl ?_
    exact t_Mod_worthOf_27 hd hw _ l1 l2 (-1) 0 I J h
/-! HiddenOrLostModel.cell(III)I -/
theorem cd213_0 : code9 213 0 = some (0, .aload_n 0, [1], .null, []) := rfl
theorem cd213_1 : code9 213 1 = some (0, .iconst 0, [1], .int 0, []) := rfl
theorem cd213_2 : code9 213 2 = some (0, .putfield 1, [3, 12, 0, 0], .null, []) := rfl
theorem cd213_5 : code9 213 5 = some (0, .aload_n 0, [1], .null, []) := rfl
theorem cd213_6 : code9 213 6 = some (0, .iload_n 1, [1], .null, []) := rfl
theorem cd213_7 : code9 213 7 = some (0, .iload_n 2, [1], .null, []) := rfl
theorem cd213_8 : code9 213 8 = some (0, .invokevirtual 251, [3, 214, 3, 1, 3, 3, 12, 0], .null, []) := rfl
theorem cd213_11 : code9 213 11 = some (0, .ifCond .ne 5, [3, 16], .null, []) := rfl
theorem cd213_14 : code9 213 14 = some (0, .iconst (-1), [1], .int (-1), []) := rfl
theorem cd213_15 : code9 213 15 = some (0, .ireturn, [1, 1], .null, []) := rfl
theorem cd213_16 : code9 213 16 = some (0, .iconst 0, [1], .int 0, []) := rfl
theorem cd213_17 : code9 213 17 = some (0, .istore 4, [2], .null, []) := rfl
theorem cd213_19 : code9 213 19 = some (0, .iload_n 3, [1], .null, []) := rfl
theorem cd213_20 : code9 213 20 = some (0, .tableswitch 125 0 2 #[28, 44, 118], [28, 145], .null, [(0, 48), (1, 64), (2, 138)]) := rfl
theorem cd213_48 : code9 213 48 = some (0, .aload_n 0, [1], .null, []) := rfl
theorem cd213_49 : code9 213 49 = some (0, .getfield 98, [3, 12, 14, 2], .null, []) := rfl
theorem cd213_52 : code9 213 52 = some (0, .sipush 173, [3], .int 173, []) := rfl
theorem cd213_55 : code9 213 55 = some (0, .bipush 6, [2], .int 6, []) := rfl
theorem cd213_57 : code9 213 57 = some (0, .iload_n 2, [1], .null, []) := rfl
theorem cd213_58 : code9 213 58 = some (0, .imul, [1], .null, []) := rfl
theorem cd213_59 : code9 213 59 = some (0, .iadd, [1], .null, []) := rfl
theorem cd213_60 : code9 213 60 = some (0, .iload_n 1, [1], .null, []) := rfl
theorem cd213_61 : code9 213 61 = some (0, .iadd, [1], .null, []) := rfl
theorem cd213_62 : code9 213 62 = some (0, .iaload, [1], .null, []) := rfl
theorem cd213_63 : code9 213 63 = some (0, .ireturn, [1, 1], .null, []) := rfl
theorem cd213_64 : code9 213 64 = some (0, .iconst 0, [1], .int 0, []) := rfl
theorem cd213_65 : code9 213 65 = some (0, .istore 5, [2], .null, []) := rfl
theorem cd213_67 : code9 213 67 = some (7, .iload 5, [2], .null, []) := rfl
theorem cd213_69 : code9 213 69 = some (0, .aload_n 0, [1], .null, []) := rfl
theorem cd213_70 : code9 213 70 = some (0, .getfield 98, [3, 12, 14, 2], .null, []) := rfl
theorem cd213_73 : code9 213 73 = some (0, .iconst 1, [1], .int 1, []) := rfl
theorem cd213_74 : code9 213 74 = some (0, .iaload, [1], .null, []) := rfl
theorem cd213_75 : code9 213 75 = some (0, .if_icmp .ge 60, [3, 135], .null, []) := rfl
theorem cd213_78 : code9 213 78 = some (0, .aload_n 0, [1], .null, []) := rfl
theorem cd213_79 : code9 213 79 = some (0, .getfield 98, [3, 12, 14, 2], .null, []) := rfl
theorem cd213_82 : code9 213 82 = some (0, .sipush 135, [3], .int 135, []) := rfl
theorem cd213_85 : code9 213 85 = some (0, .iload 5, [2], .null, []) := rfl
theorem cd213_87 : code9 213 87 = some (0, .iadd, [1], .null, []) := rfl
theorem cd213_88 : code9 213 88 = some (0, .iaload, [1], .null, []) := rfl
theorem cd213_89 : code9 213 89 = some (0, .ifCond .ne 40, [3, 129], .null, []) := rfl
theorem cd213_92 : code9 213 92 = some (0, .aload_n 0, [1], .null, []) := rfl
theorem cd213_93 : code9 213 93 = some (0, .getfield 98, [3, 12, 14, 2], .null, []) := rfl
theorem cd213_96 : code9 213 96 = some (0, .bipush 105, [2], .int 105, []) := rfl
theorem cd213_98 : code9 213 98 = some (0, .iload 5, [2], .null, []) := rfl
theorem cd213_100 : code9 213 100 = some (0, .iadd, [1], .null, []) := rfl
theorem cd213_101 : code9 213 101 = some (0, .iaload, [1], .null, []) := rfl
theorem cd213_102 : code9 213 102 = some (0, .iload_n 1, [1], .null, []) := rfl
theorem cd213_103 : code9 213 103 = some (0, .if_icmp .ne 26, [3, 129], .null, []) := rfl
theorem cd213_106 : code9 213 106 = some (0, .aload_n 0, [1], .null, []) := rfl
theorem cd213_107 : code9 213 107 = some (0, .getfield 98, [3, 12, 14, 2], .null, []) := rfl
theorem cd213_110 : code9 213 110 = some (0, .bipush 115, [2], .int 115, []) := rfl
theorem cd213_112 : code9 213 112 = some (0, .iload 5, [2], .null, []) := rfl
theorem cd213_114 : code9 213 114 = some (0, .iadd, [1], .null, []) := rfl
theorem cd213_115 : code9 213 115 = some (0, .iaload, [1], .null, []) := rfl
theorem cd213_116 : code9 213 116 = some (0, .iload_n 2, [1], .null, []) := rfl
theorem cd213_117 : code9 213 117 = some (0, .if_icmp .ne 12, [3, 129], .null, []) := rfl
theorem cd213_120 : code9 213 120 = some (0, .iload 4, [2], .null, []) := rfl
theorem cd213_122 : code9 213 122 = some (0, .iconst 1, [1], .int 1, []) := rfl
theorem cd213_123 : code9 213 123 = some (0, .iload 5, [2], .null, []) := rfl
theorem cd213_125 : code9 213 125 = some (0, .ishl, [1], .null, []) := rfl
theorem cd213_126 : code9 213 126 = some (0, .ior, [1], .null, []) := rfl
theorem cd213_127 : code9 213 127 = some (0, .istore 4, [2], .null, []) := rfl
theorem cd213_129 : code9 213 129 = some (7, .iinc 5 1, [3], .int 1, []) := rfl
theorem cd213_132 : code9 213 132 = some (0, .goto (-65), [3, 67, 6], .null, []) := rfl
theorem cd213_135 : code9 213 135 = some (0, .iload 4, [2], .null, []) := rfl
theorem cd213_137 : code9 213 137 = some (0, .ireturn, [1, 1], .null, []) := rfl
theorem cd213_138 : code9 213 138 = some (0, .aload_n 0, [1], .null, []) := rfl
theorem cd213_139 : code9 213 139 = some (0, .iload_n 1, [1], .null, []) := rfl
theorem cd213_140 : code9 213 140 = some (0, .iload_n 2, [1], .null, []) := rfl
theorem cd213_141 : code9 213 141 = some (0, .invokevirtual 254, [3, 215, 3, 1, 1, 6, 12, 0], .null, []) := rfl
theorem cd213_144 : code9 213 144 = some (0, .ireturn, [1, 1], .null, []) := rfl
theorem cd213_145 : code9 213 145 = some (0, .iconst (-1), [1], .int (-1), []) := rfl
theorem cd213_146 : code9 213 146 = some (0, .ireturn, [1, 1], .null, []) := rfl
def Mod_cell_67 (N : Nat) : Nat → Int32 → Int32 → Int32 → Int32 → Int32 → FI → Option (Int32 × FI)
  | 0 => fun _ _ _ _ _ _ => none
  | n + 1 => fun l1 l2 l3 l4 l5 I => if (I 206 ((1 : Int32).toNatClampNeg)) ≤ l5 then (some (l4, I)) else (if in9 (135 + l5) 451 then (if (I 206 ((135 + l5).toNatClampNeg)) = 0 then (if in9 (105 + l5) 451 then (if (I 206 ((105 + l5).toNatClampNeg)) = l1 then (if in9 (115 + l5) 451 then (if (I 206 ((115 + l5).toNatClampNeg)) = l2 then (Mod_cell_67 N n l1 l2 l3 (l4 ||| (1 <<< (l5 &&& 31))) (l5 + 1) I) else (Mod_cell_67 N n l1 l2 l3 l4 (l5 + 1) I)) else none) else (Mod_cell_67 N n l1 l2 l3 l4 (l5 + 1) I)) else none) else (Mod_cell_67 N n l1 l2 l3 l4 (l5 + 1) I)) else none)
def Mod_cell (N : Nat) (l1 : Int32) (l2 : Int32) (l3 : Int32) (I : FI) : Option (Int32 × FI) := Option.bind (some (up2 I 204 0 (0 : Int32))) fun I1 => (Option.bind (Mod_isCell l1 l2 I1) fun x2 => (if x2 then (if l3 = 0 then (if in9 ((173 + (6 * l2)) + l1) 451 then (some (I1 206 (((173 + (6 * l2)) + l1).toNatClampNeg), I1)) else none) else (if l3 = 1 then (Mod_cell_67 N N l1 l2 l3 0 0 I1) else (if l3 = 2 then (Option.bind (Mod_worthOf N l1 l2 I1) fun x7 => (some (x7, I1))) else (some ((-1), I1))))) else (some ((-1), I1))))
set_option maxRecDepth 8000 in
theorem t_Mod_cell_67 {d : Nat} {N : Nat} {c : Nat × Nat} {S : Nat → Nat × Nat} {P : Nat → Nat → Option Nat} {r : Int32 × FI} (hd : 3 ≤ (d + 1)) (hw : OM S P) : ∀ (n : Nat) (l1 : Int32) (l2 : Int32) (l3 : Int32) (l4 : Int32) (l5 : Int32) (I : FI) (J : FJ), Mod_cell_67 N n l1 l2 l3 l4 l5 I = some r → Go (d + 1) M_Mod_cell 67 [some (.ref 204), some (.int l1), some (.int l2), some (.int l3), some (.int l4), some (.int l5)] [] (c, S, I, J, P) (some (.int r.1), false, (c, S, r.2, J, P)) := by
  intro n
  induction n with
  | zero =>
    intro l1 l2 l3 l4 l5 I J h
    cases h
  | succ n ih =>
    intro l1 l2 l3 l4 l5 I J h
    unfold Mod_cell_67 at h
    refine g_iload cd213_67 rfl rfl ?_
    refine g_aload_n cd213_69 rfl rfl ?_
    refine g_getP cd213_70 rfl (OM.o hw) (OM.p14 hw) ?_
    refine g_iconst cd213_73 rfl ?_
    refine G_iald cd213_74 rfl (OM.s14 hw) (by decide) ?_
    refine g_icmp_ge cd213_75 rfl (fun hb => ?_) (fun hb => ?_)
    · have h := ifpE hb h
      refine g_iload cd213_135 rfl rfl ?_
      exact g_iret cd213_137 (Or.inl rfl) (by obtain rfl := Option.some.inj h; rfl)
    · have h := ifnE hb h
      refine g_aload_n cd213_78 rfl rfl ?_
      refine g_getP cd213_79 rfl (OM.o hw) (OM.p14 hw) ?_
      refine g_sipush cd213_82 rfl ?_
      refine g_iload cd213_85 rfl rfl ?_
      refine g_iadd cd213_87 rfl ?_
      obtain ⟨hg4, h⟩ := grd h
      refine G_iald cd213_88 rfl (OM.s14 hw) hg4 ?_
      refine g_if_ne cd213_89 rfl (fun hb => ?_) (fun hb => ?_)
      · have h := ifpE hb h
        refine g_aload_n cd213_92 rfl rfl ?_
        refine g_getP cd213_93 rfl (OM.o hw) (OM.p14 hw) ?_
        refine g_bipush cd213_96 rfl ?_
        refine g_iload cd213_98 rfl rfl ?_
        refine g_iadd cd213_100 rfl ?_
        obtain ⟨hg5, h⟩ := grd h
        refine G_iald cd213_101 rfl (OM.s14 hw) hg5 ?_
        refine g_iload_n cd213_102 rfl rfl ?_
        refine g_icmp_ne cd213_103 rfl (fun hb => ?_) (fun hb => ?_)
        · have h := ifpE hb h
          refine g_aload_n cd213_106 rfl rfl ?_
          refine g_getP cd213_107 rfl (OM.o hw) (OM.p14 hw) ?_
          refine g_bipush cd213_110 rfl ?_
          refine g_iload cd213_112 rfl rfl ?_
          refine g_iadd cd213_114 rfl ?_
          obtain ⟨hg6, h⟩ := grd h
          refine G_iald cd213_115 rfl (OM.s14 hw) hg6 ?_
          refine g_iload_n cd213_116 rfl rfl ?_
          refine g_icmp_ne cd213_117 rfl (fun hb => ?_) (fun hb => ?_)
          · have h := ifpE hb h
            refine g_iload cd213_120 rfl rfl ?_
            refine g_iconst cd213_122 rfl ?_
            refine g_iload cd213_123 rfl rfl ?_
            refine g_ishl cd213_125 rfl ?_
            refine g_ior cd213_126 rfl ?_
            refine g_istore (ls2 := [some (.ref 204), some (.int l1), some (.int l2), some (.int l3), some (.int (l4 ||| (1 <<< (l5 &&& 31)))), some (.int l5)]) cd213_127 rfl rfl ?_
            refine g_iinc (ls2 := [some (.ref 204), some (.int l1), some (.int l2), some (.int l3), some (.int (l4 ||| (1 <<< (l5 &&& 31)))), some (.int (l5 + 1))]) cd213_129 rfl rfl rfl ?_
            refine g_goto (ls2 := [some (.ref 204), some (.int l1), some (.int l2), some (.int l3), some (.int (l4 ||| (1 <<< (l5 &&& 31)))), some (.int (l5 + 1))]) cd213_132 rfl rfl ?_
            exact ih l1 l2 l3 (l4 ||| (1 <<< (l5 &&& 31))) (l5 + 1) I J h
          · have h := ifnE hb h
            refine g_iinc (ls2 := [some (.ref 204), some (.int l1), some (.int l2), some (.int l3), some (.int l4), some (.int (l5 + 1))]) cd213_129 rfl rfl rfl ?_
            refine g_goto (ls2 := [some (.ref 204), some (.int l1), some (.int l2), some (.int l3), some (.int l4), some (.int (l5 + 1))]) cd213_132 rfl rfl ?_
            exact ih l1 l2 l3 l4 (l5 + 1) I J h
        · have h := ifnE hb h
          refine g_iinc (ls2 := [some (.ref 204), some (.int l1), some (.int l2), some (.int l3), some (.int l4), some (.int (l5 + 1))]) cd213_129 rfl rfl rfl ?_
          refine g_goto (ls2 := [some (.ref 204), some (.int l1), some (.int l2), some (.int l3), some (.int l4), some (.int (l5 + 1))]) cd213_132 rfl rfl ?_
          exact ih l1 l2 l3 l4 (l5 + 1) I J h
      · have h := ifnE hb h
        refine g_iinc (ls2 := [some (.ref 204), some (.int l1), some (.int l2), some (.int l3), some (.int l4), some (.int (l5 + 1))]) cd213_129 rfl rfl rfl ?_
        refine g_goto (ls2 := [some (.ref 204), some (.int l1), some (.int l2), some (.int l3), some (.int l4), some (.int (l5 + 1))]) cd213_132 rfl rfl ?_
        exact ih l1 l2 l3 l4 (l5 + 1) I J h
set_option maxRecDepth 8000 in
theorem t_Mod_cell {d : Nat} {N : Nat} {c : Nat × Nat} {S : Nat → Nat × Nat} {P : Nat → Nat → Option Nat} {I : FI} {J : FJ} {l1 : Int32} {l2 : Int32} {l3 : Int32} {r : Int32 × FI} (hd : 3 ≤ d) (hw : OM S P) (h : Mod_cell N l1 l2 l3 I = some r) : Go d M_Mod_cell 0 [some (.ref 204), some (.int l1), some (.int l2), some (.int l3), none, none] [] (c, S, I, J, P) (some (.int r.1), false, (c, S, r.2, J, P)) := by
  obtain ⟨d, rfl⟩ : ∃ e, d = e + 1 := ⟨d - 1, by omega⟩
  unfold Mod_cell at h
  refine g_aload_n cd213_0 rfl rfl ?_
  refine g_iconst cd213_1 rfl ?_
  obtain ⟨I1, e1, h⟩ := bnd h
  refine G_putI cd213_2 rfl (OM.o hw) (Option.some.inj e1) ?_
  refine g_aload_n cd213_5 rfl rfl ?_
  refine g_iload_n cd213_6 rfl rfl ?_
  refine g_iload_n cd213_7 rfl rfl ?_
  obtain ⟨x2, hx, h⟩ := bnd h
  refine g_callVZ (L := [some (.ref 204), some (.int l1), some (.int l2)]) cd213_8 rfl rfl rfl rfl rfl (OM.o hw) (t_Mod_isCell (by omega) hw hx) ?_
  refine g_if_ne cd213_11 rfl (fun hb => ?_) (fun hb => ?_)
  · have h := ifnE (b2i_f hb) h
    refine g_iconst cd213_14 rfl ?_
    exact g_iret cd213_15 (Or.inl rfl) (by obtain rfl := Option.some.inj h; rfl)
  · have h := ifpE (b2i_t hb) h
    refine g_iconst cd213_16 rfl ?_
    refine g_istore (ls2 := [some (.ref 204), some (.int l1), some (.int l2), some (.int l3), some (.int 0), none]) cd213_17 rfl rfl ?_
    refine g_iload_n cd213_19 rfl rfl ?_
    refine g_tableswitch cd213_20 rfl ?_
    refine ifi (fun hb => ?_) (fun hb => ?_)
    · have h := ifpE hb h
      show Go _ _ 48 [some (.ref 204), some (.int l1), some (.int l2), some (.int l3), some (.int 0), none] [] _ _
      refine g_aload_n cd213_48 rfl rfl ?_
      refine g_getP cd213_49 rfl (OM.o hw) (OM.p14 hw) ?_
      refine g_sipush cd213_52 rfl ?_
      refine g_bipush cd213_55 rfl ?_
      refine g_iload_n cd213_57 rfl rfl ?_
      refine g_imul cd213_58 rfl ?_
      refine g_iadd cd213_59 rfl ?_
      refine g_iload_n cd213_60 rfl rfl ?_
      refine g_iadd cd213_61 rfl ?_
      obtain ⟨hg3, h⟩ := grd h
      refine G_iald cd213_62 rfl (OM.s14 hw) hg3 ?_
      exact g_iret cd213_63 (Or.inl rfl) (by obtain rfl := Option.some.inj h; rfl)
    have h := ifnE hb h
    refine ifi (fun hb => ?_) (fun hb => ?_)
    · have h := ifpE hb h
      show Go _ _ 64 [some (.ref 204), some (.int l1), some (.int l2), some (.int l3), some (.int 0), none] [] _ _
      refine g_iconst cd213_64 rfl ?_
      refine g_istore (ls2 := [some (.ref 204), some (.int l1), some (.int l2), some (.int l3), some (.int 0), some (.int 0)]) cd213_65 rfl rfl ?_
      exact t_Mod_cell_67 hd hw _ l1 l2 l3 0 0 I1 J h
    have h := ifnE hb h
    refine ifi (fun hb => ?_) (fun hb => ?_)
    · have h := ifpE hb h
      show Go _ _ 138 [some (.ref 204), some (.int l1), some (.int l2), some (.int l3), some (.int 0), none] [] _ _
      refine g_aload_n cd213_138 rfl rfl ?_
      refine g_iload_n cd213_139 rfl rfl ?_
      refine g_iload_n cd213_140 rfl rfl ?_
      obtain ⟨x7, hx, h⟩ := bnd h
      refine g_callVI (L := [some (.ref 204), some (.int l1), some (.int l2), none, none, none]) cd213_141 rfl rfl rfl rfl rfl (OM.o hw) (t_Mod_worthOf (by omega) hw hx) ?_
      exact g_iret cd213_144 (Or.inl rfl) (by obtain rfl := Option.some.inj h; rfl)
    have h := ifnE hb h
    show Go _ _ 145 [some (.ref 204), some (.int l1), some (.int l2), some (.int l3), some (.int 0), none] [] _ _
    refine g_iconst cd213_145 rfl ?_
    exact g_iret cd213_146 (Or.inl rfl) (by obtain rfl := Option.some.inj h; rfl)
/-! HiddenOrLostModel.those(I)I -/
theorem cd219_0 : code9 219 0 = some (0, .iconst 0, [1], .int 0, []) := rfl
theorem cd219_1 : code9 219 1 = some (0, .istore_n 2, [1], .null, []) := rfl
theorem cd219_2 : code9 219 2 = some (0, .iconst 0, [1], .int 0, []) := rfl
theorem cd219_3 : code9 219 3 = some (0, .istore_n 3, [1], .null, []) := rfl
theorem cd219_4 : code9 219 4 = some (5, .iload_n 3, [1], .null, []) := rfl
theorem cd219_5 : code9 219 5 = some (0, .aload_n 0, [1], .null, []) := rfl
theorem cd219_6 : code9 219 6 = some (0, .getfield 98, [3, 12, 14, 2], .null, []) := rfl
theorem cd219_9 : code9 219 9 = some (0, .iconst 1, [1], .int 1, []) := rfl
theorem cd219_10 : code9 219 10 = some (0, .iaload, [1], .null, []) := rfl
theorem cd219_11 : code9 219 11 = some (0, .if_icmp .ge 29, [3, 40], .null, []) := rfl
theorem cd219_14 : code9 219 14 = some (0, .aload_n 0, [1], .null, []) := rfl
theorem cd219_15 : code9 219 15 = some (0, .getfield 98, [3, 12, 14, 2], .null, []) := rfl
theorem cd219_18 : code9 219 18 = some (0, .sipush 135, [3], .int 135, []) := rfl
theorem cd219_21 : code9 219 21 = some (0, .iload_n 3, [1], .null, []) := rfl
theorem cd219_22 : code9 219 22 = some (0, .iadd, [1], .null, []) := rfl
theorem cd219_23 : code9 219 23 = some (0, .iaload, [1], .null, []) := rfl
theorem cd219_24 : code9 219 24 = some (0, .iload_n 1, [1], .null, []) := rfl
theorem cd219_25 : code9 219 25 = some (0, .if_icmp .ne 9, [3, 34], .null, []) := rfl
theorem cd219_28 : code9 219 28 = some (0, .iload_n 2, [1], .null, []) := rfl
theorem cd219_29 : code9 219 29 = some (0, .iconst 1, [1], .int 1, []) := rfl
theorem cd219_30 : code9 219 30 = some (0, .iload_n 3, [1], .null, []) := rfl
theorem cd219_31 : code9 219 31 = some (0, .ishl, [1], .null, []) := rfl
theorem cd219_32 : code9 219 32 = some (0, .ior, [1], .null, []) := rfl
theorem cd219_33 : code9 219 33 = some (0, .istore_n 2, [1], .null, []) := rfl
theorem cd219_34 : code9 219 34 = some (5, .iinc 3 1, [3], .int 1, []) := rfl
theorem cd219_37 : code9 219 37 = some (0, .goto (-33), [3, 4, 4], .null, []) := rfl
theorem cd219_40 : code9 219 40 = some (0, .iload_n 2, [1], .null, []) := rfl
theorem cd219_41 : code9 219 41 = some (0, .ireturn, [1, 1], .null, []) := rfl
def Mod_those_4 (N : Nat) : Nat → Int32 → Int32 → Int32 → FI → Option (Int32)
  | 0 => fun _ _ _ _ => none
  | n + 1 => fun l1 l2 l3 I => if (I 206 ((1 : Int32).toNatClampNeg)) ≤ l3 then (some l2) else (if in9 (135 + l3) 451 then (if (I 206 ((135 + l3).toNatClampNeg)) = l1 then (Mod_those_4 N n l1 (l2 ||| (1 <<< (l3 &&& 31))) (l3 + 1) I) else (Mod_those_4 N n l1 l2 (l3 + 1) I)) else none)
def Mod_those (N : Nat) (l1 : Int32) (I : FI) : Option (Int32) := Mod_those_4 N N l1 0 0 I
set_option maxRecDepth 8000 in
theorem t_Mod_those_4 {d : Nat} {N : Nat} {c : Nat × Nat} {S : Nat → Nat × Nat} {P : Nat → Nat → Option Nat} {r : Int32} (hd : 0 ≤ d) (hw : OM S P) : ∀ (n : Nat) (l1 : Int32) (l2 : Int32) (l3 : Int32) (I : FI) (J : FJ), Mod_those_4 N n l1 l2 l3 I = some r → Go d M_Mod_those 4 [some (.ref 204), some (.int l1), some (.int l2), some (.int l3)] [] (c, S, I, J, P) (some (.int r), false, (c, S, I, J, P)) := by
  intro n
  induction n with
  | zero =>
    intro l1 l2 l3 I J h
    cases h
  | succ n ih =>
    intro l1 l2 l3 I J h
    unfold Mod_those_4 at h
    refine g_iload_n cd219_4 rfl rfl ?_
    refine g_aload_n cd219_5 rfl rfl ?_
    refine g_getP cd219_6 rfl (OM.o hw) (OM.p14 hw) ?_
    refine g_iconst cd219_9 rfl ?_
    refine G_iald cd219_10 rfl (OM.s14 hw) (by decide) ?_
    refine g_icmp_ge cd219_11 rfl (fun hb => ?_) (fun hb => ?_)
    · have h := ifpE hb h
      refine g_iload_n cd219_40 rfl rfl ?_
      exact g_iret cd219_41 (Or.inl rfl) (by obtain rfl := Option.some.inj h; rfl)
    · have h := ifnE hb h
      refine g_aload_n cd219_14 rfl rfl ?_
      refine g_getP cd219_15 rfl (OM.o hw) (OM.p14 hw) ?_
      refine g_sipush cd219_18 rfl ?_
      refine g_iload_n cd219_21 rfl rfl ?_
      refine g_iadd cd219_22 rfl ?_
      obtain ⟨hg1, h⟩ := grd h
      refine G_iald cd219_23 rfl (OM.s14 hw) hg1 ?_
      refine g_iload_n cd219_24 rfl rfl ?_
      refine g_icmp_ne cd219_25 rfl (fun hb => ?_) (fun hb => ?_)
      · have h := ifpE hb h
        refine g_iload_n cd219_28 rfl rfl ?_
        refine g_iconst cd219_29 rfl ?_
        refine g_iload_n cd219_30 rfl rfl ?_
        refine g_ishl cd219_31 rfl ?_
        refine g_ior cd219_32 rfl ?_
        refine g_istore_n (ls2 := [some (.ref 204), some (.int l1), some (.int (l2 ||| (1 <<< (l3 &&& 31)))), some (.int l3)]) cd219_33 rfl rfl ?_
        refine g_iinc (ls2 := [some (.ref 204), some (.int l1), some (.int (l2 ||| (1 <<< (l3 &&& 31)))), some (.int (l3 + 1))]) cd219_34 rfl rfl rfl ?_
        refine g_goto (ls2 := [some (.ref 204), some (.int l1), some (.int (l2 ||| (1 <<< (l3 &&& 31)))), some (.int (l3 + 1))]) cd219_37 rfl rfl ?_
        exact ih l1 (l2 ||| (1 <<< (l3 &&& 31))) (l3 + 1) I J h
      · have h := ifnE hb h
        refine g_iinc (ls2 := [some (.ref 204), some (.int l1), some (.int l2), some (.int (l3 + 1))]) cd219_34 rfl rfl rfl ?_
        refine g_goto (ls2 := [some (.ref 204), some (.int l1), some (.int l2), some (.int (l3 + 1))]) cd219_37 rfl rfl ?_
        exact ih l1 l2 (l3 + 1) I J h
set_option maxRecDepth 8000 in
theorem t_Mod_those {d : Nat} {N : Nat} {c : Nat × Nat} {S : Nat → Nat × Nat} {P : Nat → Nat → Option Nat} {I : FI} {J : FJ} {l1 : Int32} {r : Int32} (hd : 0 ≤ d) (hw : OM S P) (h : Mod_those N l1 I = some r) : Go d M_Mod_those 0 [some (.ref 204), some (.int l1), none, none] [] (c, S, I, J, P) (some (.int r), false, (c, S, I, J, P)) := by
  unfold Mod_those at h
  refine g_iconst cd219_0 rfl ?_
  refine g_istore_n (ls2 := [some (.ref 204), some (.int l1), some (.int 0), none]) cd219_1 rfl rfl ?_
  refine g_iconst cd219_2 rfl ?_
  refine g_istore_n (ls2 := [some (.ref 204), some (.int l1), some (.int 0), some (.int 0)]) cd219_3 rfl rfl ?_
  exact t_Mod_those_4 hd hw _ l1 0 0 I J h
/-! HiddenOrLostModel.has(II)Z -/
theorem cd221_0 : code9 221 0 = some (0, .iload_n 0, [1], .null, []) := rfl
theorem cd221_1 : code9 221 1 = some (0, .iload_n 1, [1], .null, []) := rfl
theorem cd221_2 : code9 221 2 = some (0, .ishr, [1], .null, []) := rfl
theorem cd221_3 : code9 221 3 = some (0, .iconst 1, [1], .int 1, []) := rfl
theorem cd221_4 : code9 221 4 = some (0, .iand, [1], .null, []) := rfl
theorem cd221_5 : code9 221 5 = some (0, .iconst 1, [1], .int 1, []) := rfl
theorem cd221_6 : code9 221 6 = some (0, .if_icmp .ne 7, [3, 13], .null, []) := rfl
theorem cd221_9 : code9 221 9 = some (0, .iconst 1, [1], .int 1, []) := rfl
theorem cd221_10 : code9 221 10 = some (0, .goto 4, [3, 14, 2], .null, []) := rfl
theorem cd221_13 : code9 221 13 = some (0, .iconst 0, [1], .int 0, []) := rfl
theorem cd221_14 : code9 221 14 = some (3, .ireturn, [1, 3], .null, []) := rfl
def Mod_has (l0 : Int32) (l1 : Int32) : Bool := if ((l0 >>> (l1 &&& 31)) &&& 1) = 1 then (true) else (false)
set_option maxRecDepth 8000 in
theorem t_Mod_has {d : Nat} {c : Nat × Nat} {S : Nat → Nat × Nat} {P : Nat → Nat → Option Nat} {I : FI} {J : FJ} {l0 : Int32} {l1 : Int32} {r : Bool} (hd : 0 ≤ d) (h : Mod_has l0 l1 = r) : Go d M_Mod_has 0 [some (.int l0), some (.int l1)] [] (c, S, I, J, P) (some (.int (b2i r)), false, (c, S, I, J, P)) := by
  unfold Mod_has at h
  refine g_iload_n cd221_0 rfl rfl ?_
  refine g_iload_n cd221_1 rfl rfl ?_
  refine g_ishr cd221_2 rfl ?_
  refine g_iconst cd221_3 rfl ?_
  refine g_iand cd221_4 rfl ?_
  refine g_iconst cd221_5 rfl ?_
  refine g_icmp_ne cd221_6 rfl (fun hb => ?_) (fun hb => ?_)
  · have h := ifpE hb h
    refine g_iconst cd221_9 rfl ?_
    refine g_goto (ls2 := [some (.int l0), some (.int l1)]) cd221_10 rfl rfl ?_
    exact g_iret cd221_14 (Or.inr ⟨rfl, Or.inr rfl⟩) (by subst h; rfl)
  · have h := ifnE hb h
    refine g_iconst cd221_13 rfl ?_
    exact g_iret cd221_14 (Or.inr ⟨rfl, Or.inl rfl⟩) (by subst h; rfl)
/-! HiddenOrLostModel.valueOf(I)I -/
theorem cd220_0 : code9 220 0 = some (0, .iconst 0, [1], .int 0, []) := rfl
theorem cd220_1 : code9 220 1 = some (0, .istore_n 2, [1], .null, []) := rfl
theorem cd220_2 : code9 220 2 = some (0, .iconst 0, [1], .int 0, []) := rfl
theorem cd220_3 : code9 220 3 = some (0, .istore_n 3, [1], .null, []) := rfl
theorem cd220_4 : code9 220 4 = some (5, .iload_n 3, [1], .null, []) := rfl
theorem cd220_5 : code9 220 5 = some (0, .bipush 10, [2], .int 10, []) := rfl
theorem cd220_7 : code9 220 7 = some (0, .if_icmp .ge 29, [3, 36], .null, []) := rfl
theorem cd220_10 : code9 220 10 = some (0, .iload_n 1, [1], .null, []) := rfl
theorem cd220_11 : code9 220 11 = some (0, .iload_n 3, [1], .null, []) := rfl
theorem cd220_12 : code9 220 12 = some (0, .invokestatic 258, [3, 221, 2, 0, 3, 2, 12, 0], .null, []) := rfl
theorem cd220_15 : code9 220 15 = some (0, .ifCond .eq 15, [3, 30], .null, []) := rfl
theorem cd220_18 : code9 220 18 = some (0, .iload_n 2, [1], .null, []) := rfl
theorem cd220_19 : code9 220 19 = some (0, .aload_n 0, [1], .null, []) := rfl
theorem cd220_20 : code9 220 20 = some (0, .getfield 98, [3, 12, 14, 2], .null, []) := rfl
theorem cd220_23 : code9 220 23 = some (0, .bipush 80, [2], .int 80, []) := rfl
theorem cd220_25 : code9 220 25 = some (0, .iload_n 3, [1], .null, []) := rfl
theorem cd220_26 : code9 220 26 = some (0, .iadd, [1], .null, []) := rfl
theorem cd220_27 : code9 220 27 = some (0, .iaload, [1], .null, []) := rfl
theorem cd220_28 : code9 220 28 = some (0, .iadd, [1], .null, []) := rfl
theorem cd220_29 : code9 220 29 = some (0, .istore_n 2, [1], .null, []) := rfl
theorem cd220_30 : code9 220 30 = some (5, .iinc 3 1, [3], .int 1, []) := rfl
theorem cd220_33 : code9 220 33 = some (0, .goto (-29), [3, 4, 4], .null, []) := rfl
theorem cd220_36 : code9 220 36 = some (0, .iload_n 2, [1], .null, []) := rfl
theorem cd220_37 : code9 220 37 = some (0, .ireturn, [1, 1], .null, []) := rfl
def Mod_valueOf_4 (N : Nat) : Nat → Int32 → Int32 → Int32 → FI → Option (Int32)
  | 0 => fun _ _ _ _ => none
  | n + 1 => fun l1 l2 l3 I => if 10 ≤ l3 then (some l2) else (if (Mod_has l1 l3) then (if in9 (80 + l3) 451 then (Mod_valueOf_4 N n l1 (l2 + (I 206 ((80 + l3).toNatClampNeg))) (l3 + 1) I) else none) else (Mod_valueOf_4 N n l1 l2 (l3 + 1) I))
def Mod_valueOf (N : Nat) (l1 : Int32) (I : FI) : Option (Int32) := Mod_valueOf_4 N N l1 0 0 I
set_option maxRecDepth 8000 in
theorem t_Mod_valueOf_4 {d : Nat} {N : Nat} {c : Nat × Nat} {S : Nat → Nat × Nat} {P : Nat → Nat → Option Nat} {r : Int32} (hd : 1 ≤ (d + 1)) (hw : OM S P) : ∀ (n : Nat) (l1 : Int32) (l2 : Int32) (l3 : Int32) (I : FI) (J : FJ), Mod_valueOf_4 N n l1 l2 l3 I = some r → Go (d + 1) M_Mod_valueOf 4 [some (.ref 204), some (.int l1), some (.int l2), some (.int l3)] [] (c, S, I, J, P) (some (.int r), false, (c, S, I, J, P)) := by
  intro n
  induction n with
  | zero =>
    intro l1 l2 l3 I J h
    cases h
  | succ n ih =>
    intro l1 l2 l3 I J h
    unfold Mod_valueOf_4 at h
    refine g_iload_n cd220_4 rfl rfl ?_
    refine g_bipush cd220_5 rfl ?_
    refine g_icmp_ge cd220_7 rfl (fun hb => ?_) (fun hb => ?_)
    · have h := ifpE hb h
      refine g_iload_n cd220_36 rfl rfl ?_
      exact g_iret cd220_37 (Or.inl rfl) (by obtain rfl := Option.some.inj h; rfl)
    · have h := ifnE hb h
      refine g_iload_n cd220_10 rfl rfl ?_
      refine g_iload_n cd220_11 rfl rfl ?_
      refine g_callSZ (L := [some (.int l1), some (.int l3)]) cd220_12 rfl rfl rfl rfl rfl (t_Mod_has (by omega)  rfl) ?_
      refine g_if_eq cd220_15 rfl (fun hb => ?_) (fun hb => ?_)
      · have h := ifnE (b2i_f hb) h
        refine g_iinc (ls2 := [some (.ref 204), some (.int l1), some (.int l2), some (.int (l3 + 1))]) cd220_30 rfl rfl rfl ?_
        refine g_goto (ls2 := [some (.ref 204), some (.int l1), some (.int l2), some (.int (l3 + 1))]) cd220_33 rfl rfl ?_
        exact ih l1 l2 (l3 + 1) I J h
      · have h := ifpE (b2i_t hb) h
        refine g_iload_n cd220_18 rfl rfl ?_
        refine g_aload_n cd220_19 rfl rfl ?_
        refine g_getP cd220_20 rfl (OM.o hw) (OM.p14 hw) ?_
        refine g_bipush cd220_23 rfl ?_
        refine g_iload_n cd220_25 rfl rfl ?_
        refine g_iadd cd220_26 rfl ?_
        obtain ⟨hg1, h⟩ := grd h
        refine G_iald cd220_27 rfl (OM.s14 hw) hg1 ?_
        refine g_iadd cd220_28 rfl ?_
        refine g_istore_n (ls2 := [some (.ref 204), some (.int l1), some (.int (l2 + (I 206 ((80 + l3).toNatClampNeg)))), some (.int l3)]) cd220_29 rfl rfl ?_
        refine g_iinc (ls2 := [some (.ref 204), some (.int l1), some (.int (l2 + (I 206 ((80 + l3).toNatClampNeg)))), some (.int (l3 + 1))]) cd220_30 rfl rfl rfl ?_
        refine g_goto (ls2 := [some (.ref 204), some (.int l1), some (.int (l2 + (I 206 ((80 + l3).toNatClampNeg)))), some (.int (l3 + 1))]) cd220_33 rfl rfl ?_
        exact ih l1 (l2 + (I 206 ((80 + l3).toNatClampNeg))) (l3 + 1) I J h
set_option maxRecDepth 8000 in
theorem t_Mod_valueOf {d : Nat} {N : Nat} {c : Nat × Nat} {S : Nat → Nat × Nat} {P : Nat → Nat → Option Nat} {I : FI} {J : FJ} {l1 : Int32} {r : Int32} (hd : 1 ≤ d) (hw : OM S P) (h : Mod_valueOf N l1 I = some r) : Go d M_Mod_valueOf 0 [some (.ref 204), some (.int l1), none, none] [] (c, S, I, J, P) (some (.int r), false, (c, S, I, J, P)) := by
  obtain ⟨d, rfl⟩ : ∃ e, d = e + 1 := ⟨d - 1, by omega⟩
  unfold Mod_valueOf at h
  refine g_iconst cd220_0 rfl ?_
  refine g_istore_n (ls2 := [some (.ref 204), some (.int l1), some (.int 0), none]) cd220_1 rfl rfl ?_
  refine g_iconst cd220_2 rfl ?_
  refine g_istore_n (ls2 := [some (.ref 204), some (.int l1), some (.int 0), some (.int 0)]) cd220_3 rfl rfl ?_
  exact t_Mod_valueOf_4 hd hw _ l1 0 0 I J h
/-! HiddenOrLostModel.now(I)I -/
theorem cd218_0 : code9 218 0 = some (0, .aload_n 0, [1], .null, []) := rfl
theorem cd218_1 : code9 218 1 = some (0, .iconst 0, [1], .int 0, []) := rfl
theorem cd218_2 : code9 218 2 = some (0, .putfield 1, [3, 12, 0, 0], .null, []) := rfl
theorem cd218_5 : code9 218 5 = some (0, .iconst 0, [1], .int 0, []) := rfl
theorem cd218_6 : code9 218 6 = some (0, .istore_n 2, [1], .null, []) := rfl
theorem cd218_7 : code9 218 7 = some (0, .iload_n 1, [1], .null, []) := rfl
theorem cd218_8 : code9 218 8 = some (0, .tableswitch 123 0 8 #[52, 60, 60, 60, 60, 68, 97, 105, 115], [52, 131], .null, [(0, 60), (1, 68), (2, 68), (3, 68), (4, 68), (5, 76), (6, 105), (7, 113), (8, 123)]) := rfl
theorem cd218_60 : code9 218 60 = some (0, .aload_n 0, [1], .null, []) := rfl
theorem cd218_61 : code9 218 61 = some (0, .getfield 98, [3, 12, 14, 2], .null, []) := rfl
theorem cd218_64 : code9 218 64 = some (0, .bipush 102, [2], .int 102, []) := rfl
theorem cd218_66 : code9 218 66 = some (0, .iaload, [1], .null, []) := rfl
theorem cd218_67 : code9 218 67 = some (0, .ireturn, [1, 1], .null, []) := rfl
theorem cd218_68 : code9 218 68 = some (0, .aload_n 0, [1], .null, []) := rfl
theorem cd218_69 : code9 218 69 = some (0, .iload_n 1, [1], .null, []) := rfl
theorem cd218_70 : code9 218 70 = some (0, .iconst 1, [1], .int 1, []) := rfl
theorem cd218_71 : code9 218 71 = some (0, .isub, [1], .null, []) := rfl
theorem cd218_72 : code9 218 72 = some (0, .invokevirtual 261, [3, 219, 2, 1, 1, 4, 12, 0], .null, []) := rfl
theorem cd218_75 : code9 218 75 = some (0, .ireturn, [1, 1], .null, []) := rfl
theorem cd218_76 : code9 218 76 = some (0, .iconst 0, [1], .int 0, []) := rfl
theorem cd218_77 : code9 218 77 = some (0, .istore_n 3, [1], .null, []) := rfl
theorem cd218_78 : code9 218 78 = some (5, .iload_n 3, [1], .null, []) := rfl
theorem cd218_79 : code9 218 79 = some (0, .bipush 6, [2], .int 6, []) := rfl
theorem cd218_81 : code9 218 81 = some (0, .if_icmp .ge 22, [3, 103], .null, []) := rfl
theorem cd218_84 : code9 218 84 = some (0, .iload_n 2, [1], .null, []) := rfl
theorem cd218_85 : code9 218 85 = some (0, .aload_n 0, [1], .null, []) := rfl
theorem cd218_86 : code9 218 86 = some (0, .getfield 98, [3, 12, 14, 2], .null, []) := rfl
theorem cd218_89 : code9 218 89 = some (0, .sipush 155, [3], .int 155, []) := rfl
theorem cd218_92 : code9 218 92 = some (0, .iload_n 3, [1], .null, []) := rfl
theorem cd218_93 : code9 218 93 = some (0, .iadd, [1], .null, []) := rfl
theorem cd218_94 : code9 218 94 = some (0, .iaload, [1], .null, []) := rfl
theorem cd218_95 : code9 218 95 = some (0, .iadd, [1], .null, []) := rfl
theorem cd218_96 : code9 218 96 = some (0, .istore_n 2, [1], .null, []) := rfl
theorem cd218_97 : code9 218 97 = some (0, .iinc 3 1, [3], .int 1, []) := rfl
theorem cd218_100 : code9 218 100 = some (0, .goto (-22), [3, 78, 4], .null, []) := rfl
theorem cd218_103 : code9 218 103 = some (0, .iload_n 2, [1], .null, []) := rfl
theorem cd218_104 : code9 218 104 = some (0, .ireturn, [1, 1], .null, []) := rfl
theorem cd218_105 : code9 218 105 = some (0, .aload_n 0, [1], .null, []) := rfl
theorem cd218_106 : code9 218 106 = some (0, .getfield 98, [3, 12, 14, 2], .null, []) := rfl
theorem cd218_109 : code9 218 109 = some (0, .bipush 103, [2], .int 103, []) := rfl
theorem cd218_111 : code9 218 111 = some (0, .iaload, [1], .null, []) := rfl
theorem cd218_112 : code9 218 112 = some (0, .ireturn, [1, 1], .null, []) := rfl
theorem cd218_113 : code9 218 113 = some (0, .aload_n 0, [1], .null, []) := rfl
theorem cd218_114 : code9 218 114 = some (0, .aload_n 0, [1], .null, []) := rfl
theorem cd218_115 : code9 218 115 = some (0, .iconst 2, [1], .int 2, []) := rfl
theorem cd218_116 : code9 218 116 = some (0, .invokevirtual 261, [3, 219, 2, 1, 1, 4, 12, 0], .null, []) := rfl
theorem cd218_119 : code9 218 119 = some (0, .invokevirtual 264, [3, 220, 2, 1, 1, 4, 12, 0], .null, []) := rfl
theorem cd218_122 : code9 218 122 = some (0, .ireturn, [1, 1], .null, []) := rfl
theorem cd218_123 : code9 218 123 = some (0, .aload_n 0, [1], .null, []) := rfl
theorem cd218_124 : code9 218 124 = some (0, .getfield 98, [3, 12, 14, 2], .null, []) := rfl
theorem cd218_127 : code9 218 127 = some (0, .bipush 104, [2], .int 104, []) := rfl
theorem cd218_129 : code9 218 129 = some (0, .iaload, [1], .null, []) := rfl
theorem cd218_130 : code9 218 130 = some (0, .ireturn, [1, 1], .null, []) := rfl
theorem cd218_131 : code9 218 131 = some (0, .iconst (-1), [1], .int (-1), []) := rfl
theorem cd218_132 : code9 218 132 = some (0, .ireturn, [1, 1], .null, []) := rfl
def Mod_now_78 (N : Nat) : Nat → Int32 → Int32 → Int32 → FI → Option (Int32 × FI)
  | 0 => fun _ _ _ _ => none
  | n + 1 => fun l1 l2 l3 I => if 6 ≤ l3 then (some (l2, I)) else (if in9 (155 + l3) 451 then (Mod_now_78 N n l1 (l2 + (I 206 ((155 + l3).toNatClampNeg))) (l3 + 1) I) else none)
def Mod_now (N : Nat) (l1 : Int32) (I : FI) : Option (Int32 × FI) := Option.bind (some (up2 I 204 0 (0 : Int32))) fun I1 => (if l1 = 0 then (some (I1 206 ((102 : Int32).toNatClampNeg), I1)) else (if l1 = 1 then (Option.bind (Mod_those N (l1 - 1) I1) fun x2 => (some (x2, I1))) else (if l1 = 2 then (Option.bind (Mod_those N (l1 - 1) I1) fun x3 => (some (x3, I1))) else (if l1 = 3 then (Option.bind (Mod_those N (l1 - 1) I1) fun x4 => (some (x4, I1))) else (if l1 = 4 then (Option.bind (Mod_those N (l1 - 1) I1) fun x5 => (some (x5, I1))) else (if l1 = 5 then (Mod_now_78 N N l1 0 0 I1) else (if l1 = 6 then (some (I1 206 ((103 : Int32).toNatClampNeg), I1)) else (if l1 = 7 then (Option.bind (Mod_those N 2 I1) fun x7 => (Option.bind (Mod_valueOf N x7 I1) fun x8 => (some (x8, I1)))) else (if l1 = 8 then (some (I1 206 ((104 : Int32).toNatClampNeg), I1)) else (some ((-1), I1)))))))))))
set_option maxRecDepth 8000 in
theorem t_Mod_now_78 {d : Nat} {N : Nat} {c : Nat × Nat} {S : Nat → Nat × Nat} {P : Nat → Nat → Option Nat} {r : Int32 × FI} (hd : 2 ≤ (d + 1)) (hw : OM S P) : ∀ (n : Nat) (l1 : Int32) (l2 : Int32) (l3 : Int32) (I : FI) (J : FJ), Mod_now_78 N n l1 l2 l3 I = some r → Go (d + 1) M_Mod_now 78 [some (.ref 204), some (.int l1), some (.int l2), some (.int l3)] [] (c, S, I, J, P) (some (.int r.1), false, (c, S, r.2, J, P)) := by
  intro n
  induction n with
  | zero =>
    intro l1 l2 l3 I J h
    cases h
  | succ n ih =>
    intro l1 l2 l3 I J h
    unfold Mod_now_78 at h
    refine g_iload_n cd218_78 rfl rfl ?_
    refine g_bipush cd218_79 rfl ?_
    refine g_icmp_ge cd218_81 rfl (fun hb => ?_) (fun hb => ?_)
    · have h := ifpE hb h
      refine g_iload_n cd218_103 rfl rfl ?_
      exact g_iret cd218_104 (Or.inl rfl) (by obtain rfl := Option.some.inj h; rfl)
    · have h := ifnE hb h
      refine g_iload_n cd218_84 rfl rfl ?_
      refine g_aload_n cd218_85 rfl rfl ?_
      refine g_getP cd218_86 rfl (OM.o hw) (OM.p14 hw) ?_
      refine g_sipush cd218_89 rfl ?_
      refine g_iload_n cd218_92 rfl rfl ?_
      refine g_iadd cd218_93 rfl ?_
      obtain ⟨hg6, h⟩ := grd h
      refine G_iald cd218_94 rfl (OM.s14 hw) hg6 ?_
      refine g_iadd cd218_95 rfl ?_
      refine g_istore_n (ls2 := [some (.ref 204), some (.int l1), some (.int (l2 + (I 206 ((155 + l3).toNatClampNeg)))), some (.int l3)]) cd218_96 rfl rfl ?_
      refine g_iinc (ls2 := [some (.ref 204), some (.int l1), some (.int (l2 + (I 206 ((155 + l3).toNatClampNeg)))), some (.int (l3 + 1))]) cd218_97 rfl rfl rfl ?_
      refine g_goto (ls2 := [some (.ref 204), some (.int l1), some (.int (l2 + (I 206 ((155 + l3).toNatClampNeg)))), some (.int (l3 + 1))]) cd218_100 rfl rfl ?_
      exact ih l1 (l2 + (I 206 ((155 + l3).toNatClampNeg))) (l3 + 1) I J h
set_option maxRecDepth 8000 in
theorem t_Mod_now {d : Nat} {N : Nat} {c : Nat × Nat} {S : Nat → Nat × Nat} {P : Nat → Nat → Option Nat} {I : FI} {J : FJ} {l1 : Int32} {r : Int32 × FI} (hd : 2 ≤ d) (hw : OM S P) (h : Mod_now N l1 I = some r) : Go d M_Mod_now 0 [some (.ref 204), some (.int l1), none, none] [] (c, S, I, J, P) (some (.int r.1), false, (c, S, r.2, J, P)) := by
  obtain ⟨d, rfl⟩ : ∃ e, d = e + 1 := ⟨d - 1, by omega⟩
  unfold Mod_now at h
  refine g_aload_n cd218_0 rfl rfl ?_
  refine g_iconst cd218_1 rfl ?_
  obtain ⟨I1, e1, h⟩ := bnd h
  refine G_putI cd218_2 rfl (OM.o hw) (Option.some.inj e1) ?_
  refine g_iconst cd218_5 rfl ?_
  refine g_istore_n (ls2 := [some (.ref 204), some (.int l1), some (.int 0), none]) cd218_6 rfl rfl ?_
  refine g_iload_n cd218_7 rfl rfl ?_
  refine g_tableswitch cd218_8 rfl ?_
  refine ifi (fun hb => ?_) (fun hb => ?_)
  · have h := ifpE hb h
    show Go _ _ 60 [some (.ref 204), some (.int l1), some (.int 0), none] [] _ _
    refine g_aload_n cd218_60 rfl rfl ?_
    refine g_getP cd218_61 rfl (OM.o hw) (OM.p14 hw) ?_
    refine g_bipush cd218_64 rfl ?_
    refine G_iald cd218_66 rfl (OM.s14 hw) (by decide) ?_
    exact g_iret cd218_67 (Or.inl rfl) (by obtain rfl := Option.some.inj h; rfl)
  have h := ifnE hb h
  refine ifi (fun hb => ?_) (fun hb => ?_)
  · have h := ifpE hb h
    show Go _ _ 68 [some (.ref 204), some (.int l1), some (.int 0), none] [] _ _
    refine g_aload_n cd218_68 rfl rfl ?_
    refine g_iload_n cd218_69 rfl rfl ?_
    refine g_iconst cd218_70 rfl ?_
    refine g_isub cd218_71 rfl ?_
    obtain ⟨x2, hx, h⟩ := bnd h
    refine g_callVI (L := [some (.ref 204), some (.int (l1 - 1)), none, none]) cd218_72 rfl rfl rfl rfl rfl (OM.o hw) (t_Mod_those (by omega) hw hx) ?_
    exact g_iret cd218_75 (Or.inl rfl) (by obtain rfl := Option.some.inj h; rfl)
  have h := ifnE hb h
  refine ifi (fun hb => ?_) (fun hb => ?_)
  · have h := ifpE hb h
    show Go _ _ 68 [some (.ref 204), some (.int l1), some (.int 0), none] [] _ _
    refine g_aload_n cd218_68 rfl rfl ?_
    refine g_iload_n cd218_69 rfl rfl ?_
    refine g_iconst cd218_70 rfl ?_
    refine g_isub cd218_71 rfl ?_
    obtain ⟨x3, hx, h⟩ := bnd h
    refine g_callVI (L := [some (.ref 204), some (.int (l1 - 1)), none, none]) cd218_72 rfl rfl rfl rfl rfl (OM.o hw) (t_Mod_those (by omega) hw hx) ?_
    exact g_iret cd218_75 (Or.inl rfl) (by obtain rfl := Option.some.inj h; rfl)
  have h := ifnE hb h
  refine ifi (fun hb => ?_) (fun hb => ?_)
  · have h := ifpE hb h
    show Go _ _ 68 [some (.ref 204), some (.int l1), some (.int 0), none] [] _ _
    refine g_aload_n cd218_68 rfl rfl ?_
    refine g_iload_n cd218_69 rfl rfl ?_
    refine g_iconst cd218_70 rfl ?_
    refine g_isub cd218_71 rfl ?_
    obtain ⟨x4, hx, h⟩ := bnd h
    refine g_callVI (L := [some (.ref 204), some (.int (l1 - 1)), none, none]) cd218_72 rfl rfl rfl rfl rfl (OM.o hw) (t_Mod_those (by omega) hw hx) ?_
    exact g_iret cd218_75 (Or.inl rfl) (by obtain rfl := Option.some.inj h; rfl)
  have h := ifnE hb h
  refine ifi (fun hb => ?_) (fun hb => ?_)
  · have h := ifpE hb h
    show Go _ _ 68 [some (.ref 204), some (.int l1), some (.int 0), none] [] _ _
    refine g_aload_n cd218_68 rfl rfl ?_
    refine g_iload_n cd218_69 rfl rfl ?_
    refine g_iconst cd218_70 rfl ?_
    refine g_isub cd218_71 rfl ?_
    obtain ⟨x5, hx, h⟩ := bnd h
    refine g_callVI (L := [some (.ref 204), some (.int (l1 - 1)), none, none]) cd218_72 rfl rfl rfl rfl rfl (OM.o hw) (t_Mod_those (by omega) hw hx) ?_
    exact g_iret cd218_75 (Or.inl rfl) (by obtain rfl := Option.some.inj h; rfl)
  have h := ifnE hb h
  refine ifi (fun hb => ?_) (fun hb => ?_)
  · have h := ifpE hb h
    show Go _ _ 76 [some (.ref 204), some (.int l1), some (.int 0), none] [] _ _
    refine g_iconst cd218_76 rfl ?_
    refine g_istore_n (ls2 := [some (.ref 204), some (.int l1), some (.int 0), some (.int 0)]) cd218_77 rfl rfl ?_
    exact t_Mod_now_78 hd hw _ l1 0 0 I1 J h
  have h := ifnE hb h
  refine ifi (fun hb => ?_) (fun hb => ?_)
  · have h := ifpE hb h
    show Go _ _ 105 [some (.ref 204), some (.int l1), some (.int 0), none] [] _ _
    refine g_aload_n cd218_105 rfl rfl ?_
    refine g_getP cd218_106 rfl (OM.o hw) (OM.p14 hw) ?_
    refine g_bipush cd218_109 rfl ?_
    refine G_iald cd218_111 rfl (OM.s14 hw) (by decide) ?_
    exact g_iret cd218_112 (Or.inl rfl) (by obtain rfl := Option.some.inj h; rfl)
  have h := ifnE hb h
  refine ifi (fun hb => ?_) (fun hb => ?_)
  · have h := ifpE hb h
    show Go _ _ 113 [some (.ref 204), some (.int l1), some (.int 0), none] [] _ _
    refine g_aload_n cd218_113 rfl rfl ?_
    refine g_aload_n cd218_114 rfl rfl ?_
    refine g_iconst cd218_115 rfl ?_
    obtain ⟨x7, hx, h⟩ := bnd h
    refine g_callVI (L := [some (.ref 204), some (.int 2), none, none]) cd218_116 rfl rfl rfl rfl rfl (OM.o hw) (t_Mod_those (by omega) hw hx) ?_
    obtain ⟨x8, hx, h⟩ := bnd h
    refine g_callVI (L := [some (.ref 204), some (.int x7), none, none]) cd218_119 rfl rfl rfl rfl rfl (OM.o hw) (t_Mod_valueOf (by omega) hw hx) ?_
    exact g_iret cd218_122 (Or.inl rfl) (by obtain rfl := Option.some.inj h; rfl)
  have h := ifnE hb h
  refine ifi (fun hb => ?_) (fun hb => ?_)
  · have h := ifpE hb h
    show Go _ _ 123 [some (.ref 204), some (.int l1), some (.int 0), none] [] _ _
    refine g_aload_n cd218_123 rfl rfl ?_
    refine g_getP cd218_124 rfl (OM.o hw) (OM.p14 hw) ?_
    refine g_bipush cd218_127 rfl ?_
    refine G_iald cd218_129 rfl (OM.s14 hw) (by decide) ?_
    exact g_iret cd218_130 (Or.inl rfl) (by obtain rfl := Option.some.inj h; rfl)
  have h := ifnE hb h
  show Go _ _ 131 [some (.ref 204), some (.int l1), some (.int 0), none] [] _ _
  refine g_iconst cd218_131 rfl ?_
  exact g_iret cd218_132 (Or.inl rfl) (by obtain rfl := Option.some.inj h; rfl)
/-! HiddenOrLostModel.canDig(II)Z -/
theorem cd223_0 : code9 223 0 = some (0, .aload_n 0, [1], .null, []) := rfl
theorem cd223_1 : code9 223 1 = some (0, .getfield 98, [3, 12, 14, 2], .null, []) := rfl
theorem cd223_4 : code9 223 4 = some (0, .sipush 173, [3], .int 173, []) := rfl
theorem cd223_7 : code9 223 7 = some (0, .bipush 6, [2], .int 6, []) := rfl
theorem cd223_9 : code9 223 9 = some (0, .iload_n 2, [1], .null, []) := rfl
theorem cd223_10 : code9 223 10 = some (0, .imul, [1], .null, []) := rfl
theorem cd223_11 : code9 223 11 = some (0, .iadd, [1], .null, []) := rfl
theorem cd223_12 : code9 223 12 = some (0, .iload_n 1, [1], .null, []) := rfl
theorem cd223_13 : code9 223 13 = some (0, .iadd, [1], .null, []) := rfl
theorem cd223_14 : code9 223 14 = some (0, .iaload, [1], .null, []) := rfl
theorem cd223_15 : code9 223 15 = some (0, .bipush 10, [2], .int 10, []) := rfl
theorem cd223_17 : code9 223 17 = some (0, .if_icmp .ge 7, [3, 24], .null, []) := rfl
theorem cd223_20 : code9 223 20 = some (0, .iconst 1, [1], .int 1, []) := rfl
theorem cd223_21 : code9 223 21 = some (0, .goto 4, [3, 25, 3], .null, []) := rfl
theorem cd223_24 : code9 223 24 = some (0, .iconst 0, [1], .int 0, []) := rfl
theorem cd223_25 : code9 223 25 = some (4, .ireturn, [1, 3], .null, []) := rfl
def Mod_canDig (l1 : Int32) (l2 : Int32) (I : FI) : Option (Bool) := if in9 ((173 + (6 * l2)) + l1) 451 then (if 10 ≤ (I 206 (((173 + (6 * l2)) + l1).toNatClampNeg)) then (some false) else (some true)) else none
set_option maxRecDepth 8000 in
theorem t_Mod_canDig {d : Nat} {c : Nat × Nat} {S : Nat → Nat × Nat} {P : Nat → Nat → Option Nat} {I : FI} {J : FJ} {l1 : Int32} {l2 : Int32} {r : Bool} (hd : 0 ≤ d) (hw : OM S P) (h : Mod_canDig l1 l2 I = some r) : Go d M_Mod_canDig 0 [some (.ref 204), some (.int l1), some (.int l2)] [] (c, S, I, J, P) (some (.int (b2i r)), false, (c, S, I, J, P)) := by
  unfold Mod_canDig at h
  refine g_aload_n cd223_0 rfl rfl ?_
  refine g_getP cd223_1 rfl (OM.o hw) (OM.p14 hw) ?_
  refine g_sipush cd223_4 rfl ?_
  refine g_bipush cd223_7 rfl ?_
  refine g_iload_n cd223_9 rfl rfl ?_
  refine g_imul cd223_10 rfl ?_
  refine g_iadd cd223_11 rfl ?_
  refine g_iload_n cd223_12 rfl rfl ?_
  refine g_iadd cd223_13 rfl ?_
  obtain ⟨hg1, h⟩ := grd h
  refine G_iald cd223_14 rfl (OM.s14 hw) hg1 ?_
  refine g_bipush cd223_15 rfl ?_
  refine g_icmp_ge cd223_17 rfl (fun hb => ?_) (fun hb => ?_)
  · have h := ifpE hb h
    refine g_iconst cd223_24 rfl ?_
    exact g_iret cd223_25 (Or.inr ⟨rfl, Or.inl rfl⟩) (by obtain rfl := Option.some.inj h; rfl)
  · have h := ifnE hb h
    refine g_iconst cd223_20 rfl ?_
    refine g_goto (ls2 := [some (.ref 204), some (.int l1), some (.int l2)]) cd223_21 rfl rfl ?_
    exact g_iret cd223_25 (Or.inr ⟨rfl, Or.inr rfl⟩) (by obtain rfl := Option.some.inj h; rfl)
/-! HiddenOrLostModel.snap()V -/
theorem cd224_0 : code9 224 0 = some (0, .aload_n 0, [1], .null, []) := rfl
theorem cd224_1 : code9 224 1 = some (0, .getfield 233, [3, 12, 24, 0], .null, []) := rfl
theorem cd224_4 : code9 224 4 = some (0, .bipush 8, [2], .int 8, []) := rfl
theorem cd224_6 : code9 224 6 = some (0, .if_icmp .ne 43, [3, 49], .null, []) := rfl
theorem cd224_9 : code9 224 9 = some (0, .iconst 0, [1], .int 0, []) := rfl
theorem cd224_10 : code9 224 10 = some (0, .istore_n 1, [1], .null, []) := rfl
theorem cd224_11 : code9 224 11 = some (3, .iload_n 1, [1], .null, []) := rfl
theorem cd224_12 : code9 224 12 = some (0, .sipush 749, [3], .int 749, []) := rfl
theorem cd224_15 : code9 224 15 = some (0, .if_icmp .ge 24, [3, 39], .null, []) := rfl
theorem cd224_18 : code9 224 18 = some (0, .aload_n 0, [1], .null, []) := rfl
theorem cd224_19 : code9 224 19 = some (0, .getfield 107, [3, 12, 17, 2], .null, []) := rfl
theorem cd224_22 : code9 224 22 = some (0, .iload_n 1, [1], .null, []) := rfl
theorem cd224_23 : code9 224 23 = some (0, .aload_n 0, [1], .null, []) := rfl
theorem cd224_24 : code9 224 24 = some (0, .getfield 107, [3, 12, 17, 2], .null, []) := rfl
theorem cd224_27 : code9 224 27 = some (0, .iload_n 1, [1], .null, []) := rfl
theorem cd224_28 : code9 224 28 = some (0, .bipush 107, [2], .int 107, []) := rfl
theorem cd224_30 : code9 224 30 = some (0, .iadd, [1], .null, []) := rfl
theorem cd224_31 : code9 224 31 = some (0, .iaload, [1], .null, []) := rfl
theorem cd224_32 : code9 224 32 = some (0, .iastore, [1], .null, []) := rfl
theorem cd224_33 : code9 224 33 = some (0, .iinc 1 1, [3], .int 1, []) := rfl
theorem cd224_36 : code9 224 36 = some (0, .goto (-25), [3, 11, 2], .null, []) := rfl
theorem cd224_39 : code9 224 39 = some (0, .aload_n 0, [1], .null, []) := rfl
theorem cd224_40 : code9 224 40 = some (0, .dup, [1], .null, []) := rfl
theorem cd224_41 : code9 224 41 = some (0, .getfield 233, [3, 12, 24, 0], .null, []) := rfl
theorem cd224_44 : code9 224 44 = some (0, .iconst 1, [1], .int 1, []) := rfl
theorem cd224_45 : code9 224 45 = some (0, .isub, [1], .null, []) := rfl
theorem cd224_46 : code9 224 46 = some (0, .putfield 233, [3, 12, 24, 0], .null, []) := rfl
theorem cd224_49 : code9 224 49 = some (2, .iconst 0, [1], .int 0, []) := rfl
theorem cd224_50 : code9 224 50 = some (0, .istore_n 1, [1], .null, []) := rfl
theorem cd224_51 : code9 224 51 = some (3, .iload_n 1, [1], .null, []) := rfl
theorem cd224_52 : code9 224 52 = some (0, .bipush 107, [2], .int 107, []) := rfl
theorem cd224_54 : code9 224 54 = some (0, .if_icmp .ge 32, [3, 86], .null, []) := rfl
theorem cd224_57 : code9 224 57 = some (0, .aload_n 0, [1], .null, []) := rfl
theorem cd224_58 : code9 224 58 = some (0, .getfield 107, [3, 12, 17, 2], .null, []) := rfl
theorem cd224_61 : code9 224 61 = some (0, .bipush 107, [2], .int 107, []) := rfl
theorem cd224_63 : code9 224 63 = some (0, .aload_n 0, [1], .null, []) := rfl
theorem cd224_64 : code9 224 64 = some (0, .getfield 233, [3, 12, 24, 0], .null, []) := rfl
theorem cd224_67 : code9 224 67 = some (0, .imul, [1], .null, []) := rfl
theorem cd224_68 : code9 224 68 = some (0, .iload_n 1, [1], .null, []) := rfl
theorem cd224_69 : code9 224 69 = some (0, .iadd, [1], .null, []) := rfl
theorem cd224_70 : code9 224 70 = some (0, .aload_n 0, [1], .null, []) := rfl
theorem cd224_71 : code9 224 71 = some (0, .getfield 98, [3, 12, 14, 2], .null, []) := rfl
theorem cd224_74 : code9 224 74 = some (0, .bipush 102, [2], .int 102, []) := rfl
theorem cd224_76 : code9 224 76 = some (0, .iload_n 1, [1], .null, []) := rfl
theorem cd224_77 : code9 224 77 = some (0, .iadd, [1], .null, []) := rfl
theorem cd224_78 : code9 224 78 = some (0, .iaload, [1], .null, []) := rfl
theorem cd224_79 : code9 224 79 = some (0, .iastore, [1], .null, []) := rfl
theorem cd224_80 : code9 224 80 = some (0, .iinc 1 1, [3], .int 1, []) := rfl
theorem cd224_83 : code9 224 83 = some (0, .goto (-32), [3, 51, 2], .null, []) := rfl
theorem cd224_86 : code9 224 86 = some (0, .aload_n 0, [1], .null, []) := rfl
theorem cd224_87 : code9 224 87 = some (0, .dup, [1], .null, []) := rfl
theorem cd224_88 : code9 224 88 = some (0, .getfield 233, [3, 12, 24, 0], .null, []) := rfl
theorem cd224_91 : code9 224 91 = some (0, .iconst 1, [1], .int 1, []) := rfl
theorem cd224_92 : code9 224 92 = some (0, .iadd, [1], .null, []) := rfl
theorem cd224_93 : code9 224 93 = some (0, .putfield 233, [3, 12, 24, 0], .null, []) := rfl
theorem cd224_96 : code9 224 96 = some (0, .return_, [1], .null, []) := rfl
def Mod_snap_51 (N : Nat) : Nat → Int32 → FI → Option (FI)
  | 0 => fun _ _ => none
  | n + 1 => fun l1 I => if 107 ≤ l1 then (Option.bind (some (up2 I 204 24 ((I 204 24) + 1))) fun I2 => (some I2)) else (if in9 (102 + l1) 451 then (if in9 ((107 * (I 204 24)) + l1) 856 then (Option.bind (some (up2 I 209 (((107 * (I 204 24)) + l1).toNatClampNeg) (I 206 ((102 + l1).toNatClampNeg)))) fun I5 => (Mod_snap_51 N n (l1 + 1) I5)) else none) else none)
def Mod_snap_11 (N : Nat) : Nat → Int32 → FI → Option (FI)
  | 0 => fun _ _ => none
  | n + 1 => fun l1 I => if 749 ≤ l1 then (Option.bind (some (up2 I 204 24 ((I 204 24) - 1))) fun I1 => (Mod_snap_51 N N 0 I1)) else (if in9 (l1 + 107) 856 then (if in9 l1 856 then (Option.bind (some (up2 I 209 l1.toNatClampNeg (I 209 ((l1 + 107).toNatClampNeg)))) fun I8 => (Mod_snap_11 N n (l1 + 1) I8)) else none) else none)
def Mod_snap (N : Nat) (I : FI) : Option (FI) := if (I 204 24) = 8 then (Mod_snap_11 N N 0 I) else (Mod_snap_51 N N 0 I)
set_option maxRecDepth 8000 in
theorem t_Mod_snap_51 {d : Nat} {N : Nat} {c : Nat × Nat} {S : Nat → Nat × Nat} {P : Nat → Nat → Option Nat} {r : FI} (hd : 0 ≤ d) (hw : OM S P) : ∀ (n : Nat) (l1 : Int32) (I : FI) (J : FJ), Mod_snap_51 N n l1 I = some r → Go d M_Mod_snap 51 [some (.ref 204), some (.int l1)] [] (c, S, I, J, P) (none, false, (c, S, r, J, P)) := by
  intro n
  induction n with
  | zero =>
    intro l1 I J h
    cases h
  | succ n ih =>
    intro l1 I J h
    unfold Mod_snap_51 at h
    refine g_iload_n cd224_51 rfl rfl ?_
    refine g_bipush cd224_52 rfl ?_
    refine g_icmp_ge cd224_54 rfl (fun hb => ?_) (fun hb => ?_)
    · have h := ifpE hb h
      refine g_aload_n cd224_86 rfl rfl ?_
      refine g_dupR cd224_87 rfl ?_
      refine g_getI cd224_88 rfl (OM.o hw) ?_
      refine g_iconst cd224_91 rfl ?_
      refine g_iadd cd224_92 rfl ?_
      obtain ⟨I2, e1, h⟩ := bnd h
      refine G_putI cd224_93 rfl (OM.o hw) (Option.some.inj e1) ?_
      exact g_vret cd224_96 (by obtain rfl := Option.some.inj h; rfl)
    · have h := ifnE hb h
      refine g_aload_n cd224_57 rfl rfl ?_
      refine g_getP cd224_58 rfl (OM.o hw) (OM.p17 hw) ?_
      refine g_bipush cd224_61 rfl ?_
      refine g_aload_n cd224_63 rfl rfl ?_
      refine g_getI cd224_64 rfl (OM.o hw) ?_
      refine g_imul cd224_67 rfl ?_
      refine g_iload_n cd224_68 rfl rfl ?_
      refine g_iadd cd224_69 rfl ?_
      refine g_aload_n cd224_70 rfl rfl ?_
      refine g_getP cd224_71 rfl (OM.o hw) (OM.p14 hw) ?_
      refine g_bipush cd224_74 rfl ?_
      refine g_iload_n cd224_76 rfl rfl ?_
      refine g_iadd cd224_77 rfl ?_
      obtain ⟨hg3, h⟩ := grd h
      refine G_iald cd224_78 rfl (OM.s14 hw) hg3 ?_
      obtain ⟨hg4, h⟩ := grd h
      obtain ⟨I5, e1, h⟩ := bnd h
      refine G_iast cd224_79 rfl (OM.s17 hw) hg4 (Option.some.inj e1) ?_
      refine g_iinc (ls2 := [some (.ref 204), some (.int (l1 + 1))]) cd224_80 rfl rfl rfl ?_
      refine g_goto (ls2 := [some (.ref 204), some (.int (l1 + 1))]) cd224_83 rfl rfl ?_
      exact ih (l1 + 1) I5 J h
set_option maxRecDepth 8000 in
theorem t_Mod_snap_11 {d : Nat} {N : Nat} {c : Nat × Nat} {S : Nat → Nat × Nat} {P : Nat → Nat → Option Nat} {r : FI} (hd : 0 ≤ d) (hw : OM S P) : ∀ (n : Nat) (l1 : Int32) (I : FI) (J : FJ), Mod_snap_11 N n l1 I = some r → Go d M_Mod_snap 11 [some (.ref 204), some (.int l1)] [] (c, S, I, J, P) (none, false, (c, S, r, J, P)) := by
  intro n
  induction n with
  | zero =>
    intro l1 I J h
    cases h
  | succ n ih =>
    intro l1 I J h
    unfold Mod_snap_11 at h
    refine g_iload_n cd224_11 rfl rfl ?_
    refine g_sipush cd224_12 rfl ?_
    refine g_icmp_ge cd224_15 rfl (fun hb => ?_) (fun hb => ?_)
    · have h := ifpE hb h
      refine g_aload_n cd224_39 rfl rfl ?_
      refine g_dupR cd224_40 rfl ?_
      refine g_getI cd224_41 rfl (OM.o hw) ?_
      refine g_iconst cd224_44 rfl ?_
      refine g_isub cd224_45 rfl ?_
      obtain ⟨I1, e1, h⟩ := bnd h
      refine G_putI cd224_46 rfl (OM.o hw) (Option.some.inj e1) ?_
      refine go_cut (k := 0) (ls' := [some (.ref 204), none]) cd224_49 rfl ?_
      refine g_iconst cd224_49 rfl ?_
      refine g_istore_n (ls2 := [some (.ref 204), some (.int 0)]) cd224_50 rfl rfl ?_
      exact t_Mod_snap_51 hd hw _ 0 I1 J h
    · have h := ifnE hb h
      refine g_aload_n cd224_18 rfl rfl ?_
      refine g_getP cd224_19 rfl (OM.o hw) (OM.p17 hw) ?_
      refine g_iload_n cd224_22 rfl rfl ?_
      refine g_aload_n cd224_23 rfl rfl ?_
      refine g_getP cd224_24 rfl (OM.o hw) (OM.p17 hw) ?_
      refine g_iload_n cd224_27 rfl rfl ?_
      refine g_bipush cd224_28 rfl ?_
      refine g_iadd cd224_30 rfl ?_
      obtain ⟨hg6, h⟩ := grd h
      refine G_iald cd224_31 rfl (OM.s17 hw) hg6 ?_
      obtain ⟨hg7, h⟩ := grd h
      obtain ⟨I8, e1, h⟩ := bnd h
      refine G_iast cd224_32 rfl (OM.s17 hw) hg7 (Option.some.inj e1) ?_
      refine g_iinc (ls2 := [some (.ref 204), some (.int (l1 + 1))]) cd224_33 rfl rfl rfl ?_
      refine g_goto (ls2 := [some (.ref 204), some (.int (l1 + 1))]) cd224_36 rfl rfl ?_
      exact ih (l1 + 1) I8 J h
set_option maxRecDepth 8000 in
theorem t_Mod_snap {d : Nat} {N : Nat} {c : Nat × Nat} {S : Nat → Nat × Nat} {P : Nat → Nat → Option Nat} {I : FI} {J : FJ} {r : FI} (hd : 0 ≤ d) (hw : OM S P) (h : Mod_snap N I = some r) : Go d M_Mod_snap 0 [some (.ref 204), none] [] (c, S, I, J, P) (none, false, (c, S, r, J, P)) := by
  unfold Mod_snap at h
  refine g_aload_n cd224_0 rfl rfl ?_
  refine g_getI cd224_1 rfl (OM.o hw) ?_
  refine g_bipush cd224_4 rfl ?_
  refine g_icmp_ne cd224_6 rfl (fun hb => ?_) (fun hb => ?_)
  · have h := ifpE hb h
    refine g_iconst cd224_9 rfl ?_
    refine g_istore_n (ls2 := [some (.ref 204), some (.int 0)]) cd224_10 rfl rfl ?_
    exact t_Mod_snap_11 hd hw _ 0 I J h
  · have h := ifnE hb h
    refine g_iconst cd224_49 rfl ?_
    refine g_istore_n (ls2 := [some (.ref 204), some (.int 0)]) cd224_50 rfl rfl ?_
    exact t_Mod_snap_51 hd hw _ 0 I J h
/-! HiddenOrLostModel.doDig(III)I -/
theorem cd225_0 : code9 225 0 = some (0, .sipush 173, [3], .int 173, []) := rfl
theorem cd225_3 : code9 225 3 = some (0, .bipush 6, [2], .int 6, []) := rfl
theorem cd225_5 : code9 225 5 = some (0, .iload_n 3, [1], .null, []) := rfl
theorem cd225_6 : code9 225 6 = some (0, .imul, [1], .null, []) := rfl
theorem cd225_7 : code9 225 7 = some (0, .iadd, [1], .null, []) := rfl
theorem cd225_8 : code9 225 8 = some (0, .iload_n 2, [1], .null, []) := rfl
theorem cd225_9 : code9 225 9 = some (0, .iadd, [1], .null, []) := rfl
theorem cd225_10 : code9 225 10 = some (0, .istore 4, [2], .null, []) := rfl
theorem cd225_12 : code9 225 12 = some (0, .aload_n 0, [1], .null, []) := rfl
theorem cd225_13 : code9 225 13 = some (0, .getfield 98, [3, 12, 14, 2], .null, []) := rfl
theorem cd225_16 : code9 225 16 = some (0, .iload 4, [2], .null, []) := rfl
theorem cd225_18 : code9 225 18 = some (0, .dup2, [1], .null, []) := rfl
theorem cd225_19 : code9 225 19 = some (0, .iaload, [1], .null, []) := rfl
theorem cd225_20 : code9 225 20 = some (0, .iconst 1, [1], .int 1, []) := rfl
theorem cd225_21 : code9 225 21 = some (0, .iadd, [1], .null, []) := rfl
theorem cd225_22 : code9 225 22 = some (0, .iastore, [1], .null, []) := rfl
theorem cd225_23 : code9 225 23 = some (0, .aload_n 0, [1], .null, []) := rfl
theorem cd225_24 : code9 225 24 = some (0, .getfield 98, [3, 12, 14, 2], .null, []) := rfl
theorem cd225_27 : code9 225 27 = some (0, .bipush 103, [2], .int 103, []) := rfl
theorem cd225_29 : code9 225 29 = some (0, .dup2, [1], .null, []) := rfl
theorem cd225_30 : code9 225 30 = some (0, .iaload, [1], .null, []) := rfl
theorem cd225_31 : code9 225 31 = some (0, .iconst 1, [1], .int 1, []) := rfl
theorem cd225_32 : code9 225 32 = some (0, .iadd, [1], .null, []) := rfl
theorem cd225_33 : code9 225 33 = some (0, .iastore, [1], .null, []) := rfl
theorem cd225_34 : code9 225 34 = some (0, .aload_n 0, [1], .null, []) := rfl
theorem cd225_35 : code9 225 35 = some (0, .getfield 98, [3, 12, 14, 2], .null, []) := rfl
theorem cd225_38 : code9 225 38 = some (0, .sipush 161, [3], .int 161, []) := rfl
theorem cd225_41 : code9 225 41 = some (0, .iload_n 1, [1], .null, []) := rfl
theorem cd225_42 : code9 225 42 = some (0, .iadd, [1], .null, []) := rfl
theorem cd225_43 : code9 225 43 = some (0, .dup2, [1], .null, []) := rfl
theorem cd225_44 : code9 225 44 = some (0, .iaload, [1], .null, []) := rfl
theorem cd225_45 : code9 225 45 = some (0, .iconst 1, [1], .int 1, []) := rfl
theorem cd225_46 : code9 225 46 = some (0, .iadd, [1], .null, []) := rfl
theorem cd225_47 : code9 225 47 = some (0, .iastore, [1], .null, []) := rfl
theorem cd225_48 : code9 225 48 = some (0, .iconst 0, [1], .int 0, []) := rfl
theorem cd225_49 : code9 225 49 = some (0, .istore 5, [2], .null, []) := rfl
theorem cd225_51 : code9 225 51 = some (0, .iconst 0, [1], .int 0, []) := rfl
theorem cd225_52 : code9 225 52 = some (0, .istore 6, [2], .null, []) := rfl
theorem cd225_54 : code9 225 54 = some (8, .iload 6, [2], .null, []) := rfl
theorem cd225_56 : code9 225 56 = some (0, .aload_n 0, [1], .null, []) := rfl
theorem cd225_57 : code9 225 57 = some (0, .getfield 98, [3, 12, 14, 2], .null, []) := rfl
theorem cd225_60 : code9 225 60 = some (0, .iconst 1, [1], .int 1, []) := rfl
theorem cd225_61 : code9 225 61 = some (0, .iaload, [1], .null, []) := rfl
theorem cd225_62 : code9 225 62 = some (0, .if_icmp .ge 101, [3, 163], .null, []) := rfl
theorem cd225_65 : code9 225 65 = some (0, .aload_n 0, [1], .null, []) := rfl
theorem cd225_66 : code9 225 66 = some (0, .getfield 98, [3, 12, 14, 2], .null, []) := rfl
theorem cd225_69 : code9 225 69 = some (0, .sipush 135, [3], .int 135, []) := rfl
theorem cd225_72 : code9 225 72 = some (0, .iload 6, [2], .null, []) := rfl
theorem cd225_74 : code9 225 74 = some (0, .iadd, [1], .null, []) := rfl
theorem cd225_75 : code9 225 75 = some (0, .iaload, [1], .null, []) := rfl
theorem cd225_76 : code9 225 76 = some (0, .ifCond .ne 81, [3, 157], .null, []) := rfl
theorem cd225_79 : code9 225 79 = some (0, .aload_n 0, [1], .null, []) := rfl
theorem cd225_80 : code9 225 80 = some (0, .getfield 98, [3, 12, 14, 2], .null, []) := rfl
theorem cd225_83 : code9 225 83 = some (0, .bipush 105, [2], .int 105, []) := rfl
theorem cd225_85 : code9 225 85 = some (0, .iload 6, [2], .null, []) := rfl
theorem cd225_87 : code9 225 87 = some (0, .iadd, [1], .null, []) := rfl
theorem cd225_88 : code9 225 88 = some (0, .iaload, [1], .null, []) := rfl
theorem cd225_89 : code9 225 89 = some (0, .iload_n 2, [1], .null, []) := rfl
theorem cd225_90 : code9 225 90 = some (0, .if_icmp .ne 67, [3, 157], .null, []) := rfl
theorem cd225_93 : code9 225 93 = some (0, .aload_n 0, [1], .null, []) := rfl
theorem cd225_94 : code9 225 94 = some (0, .getfield 98, [3, 12, 14, 2], .null, []) := rfl
theorem cd225_97 : code9 225 97 = some (0, .bipush 115, [2], .int 115, []) := rfl
theorem cd225_99 : code9 225 99 = some (0, .iload 6, [2], .null, []) := rfl
theorem cd225_101 : code9 225 101 = some (0, .iadd, [1], .null, []) := rfl
theorem cd225_102 : code9 225 102 = some (0, .iaload, [1], .null, []) := rfl
theorem cd225_103 : code9 225 103 = some (0, .iload_n 3, [1], .null, []) := rfl
theorem cd225_104 : code9 225 104 = some (0, .if_icmp .ne 53, [3, 157], .null, []) := rfl
theorem cd225_107 : code9 225 107 = some (0, .aload_n 0, [1], .null, []) := rfl
theorem cd225_108 : code9 225 108 = some (0, .getfield 98, [3, 12, 14, 2], .null, []) := rfl
theorem cd225_111 : code9 225 111 = some (0, .bipush 125, [2], .int 125, []) := rfl
theorem cd225_113 : code9 225 113 = some (0, .iload 6, [2], .null, []) := rfl
theorem cd225_115 : code9 225 115 = some (0, .iadd, [1], .null, []) := rfl
theorem cd225_116 : code9 225 116 = some (0, .iaload, [1], .null, []) := rfl
theorem cd225_117 : code9 225 117 = some (0, .aload_n 0, [1], .null, []) := rfl
theorem cd225_118 : code9 225 118 = some (0, .getfield 98, [3, 12, 14, 2], .null, []) := rfl
theorem cd225_121 : code9 225 121 = some (0, .iload 4, [2], .null, []) := rfl
theorem cd225_123 : code9 225 123 = some (0, .iaload, [1], .null, []) := rfl
theorem cd225_124 : code9 225 124 = some (0, .if_icmp .lt 6, [3, 130], .null, []) := rfl
theorem cd225_127 : code9 225 127 = some (0, .goto 30, [3, 157, 7], .null, []) := rfl
theorem cd225_130 : code9 225 130 = some (0, .aload_n 0, [1], .null, []) := rfl
theorem cd225_131 : code9 225 131 = some (0, .getfield 98, [3, 12, 14, 2], .null, []) := rfl
theorem cd225_134 : code9 225 134 = some (0, .sipush 135, [3], .int 135, []) := rfl
theorem cd225_137 : code9 225 137 = some (0, .iload 6, [2], .null, []) := rfl
theorem cd225_139 : code9 225 139 = some (0, .iadd, [1], .null, []) := rfl
theorem cd225_140 : code9 225 140 = some (0, .iconst 1, [1], .int 1, []) := rfl
theorem cd225_141 : code9 225 141 = some (0, .iastore, [1], .null, []) := rfl
theorem cd225_142 : code9 225 142 = some (0, .aload_n 0, [1], .null, []) := rfl
theorem cd225_143 : code9 225 143 = some (0, .getfield 98, [3, 12, 14, 2], .null, []) := rfl
theorem cd225_146 : code9 225 146 = some (0, .sipush 145, [3], .int 145, []) := rfl
theorem cd225_149 : code9 225 149 = some (0, .iload 6, [2], .null, []) := rfl
theorem cd225_151 : code9 225 151 = some (0, .iadd, [1], .null, []) := rfl
theorem cd225_152 : code9 225 152 = some (0, .iload_n 1, [1], .null, []) := rfl
theorem cd225_153 : code9 225 153 = some (0, .iastore, [1], .null, []) := rfl
theorem cd225_154 : code9 225 154 = some (0, .iinc 5 1, [3], .int 1, []) := rfl
theorem cd225_157 : code9 225 157 = some (8, .iinc 6 1, [3], .int 1, []) := rfl
theorem cd225_160 : code9 225 160 = some (0, .goto (-106), [3, 54, 7], .null, []) := rfl
theorem cd225_163 : code9 225 163 = some (0, .aload_n 0, [1], .null, []) := rfl
theorem cd225_164 : code9 225 164 = some (0, .getfield 98, [3, 12, 14, 2], .null, []) := rfl
theorem cd225_167 : code9 225 167 = some (0, .sipush 167, [3], .int 167, []) := rfl
theorem cd225_170 : code9 225 170 = some (0, .iload_n 1, [1], .null, []) := rfl
theorem cd225_171 : code9 225 171 = some (0, .iadd, [1], .null, []) := rfl
theorem cd225_172 : code9 225 172 = some (0, .dup2, [1], .null, []) := rfl
theorem cd225_173 : code9 225 173 = some (0, .iaload, [1], .null, []) := rfl
theorem cd225_174 : code9 225 174 = some (0, .iload 5, [2], .null, []) := rfl
theorem cd225_176 : code9 225 176 = some (0, .iadd, [1], .null, []) := rfl
theorem cd225_177 : code9 225 177 = some (0, .iastore, [1], .null, []) := rfl
theorem cd225_178 : code9 225 178 = some (0, .iload 5, [2], .null, []) := rfl
theorem cd225_180 : code9 225 180 = some (0, .ireturn, [1, 1], .null, []) := rfl
def Mod_doDig_54 (N : Nat) : Nat → Int32 → Int32 → Int32 → Int32 → Int32 → Int32 → FI → Option (Int32 × FI)
  | 0 => fun _ _ _ _ _ _ _ => none
  | n + 1 => fun l1 l2 l3 l4 l5 l6 I => if (I 206 ((1 : Int32).toNatClampNeg)) ≤ l6 then (if in9 (167 + l1) 451 then (Option.bind (some (up2 I 206 ((167 + l1).toNatClampNeg) ((I 206 ((167 + l1).toNatClampNeg)) + l5))) fun I7 => (some (l5, I7))) else none) else (if in9 (135 + l6) 451 then (if (I 206 ((135 + l6).toNatClampNeg)) = 0 then (if in9 (105 + l6) 451 then (if (I 206 ((105 + l6).toNatClampNeg)) = l2 then (if in9 (115 + l6) 451 then (if (I 206 ((115 + l6).toNatClampNeg)) = l3 then (if in9 (125 + l6) 451 then (if in9 l4 451 then (if (I 206 ((125 + l6).toNatClampNeg)) < (I 206 l4.toNatClampNeg) then (Option.bind (some (up2 I 206 ((135 + l6).toNatClampNeg) (1 : Int32))) fun I13 => (if in9 (145 + l6) 451 then (Option.bind (some (up2 I13 206 ((145 + l6).toNatClampNeg) l1)) fun I15 => (Mod_doDig_54 N n l1 l2 l3 l4 (l5 + 1) (l6 + 1) I15)) else none)) else (Mod_doDig_54 N n l1 l2 l3 l4 l5 (l6 + 1) I)) else none) else none) else (Mod_doDig_54 N n l1 l2 l3 l4 l5 (l6 + 1) I)) else none) else (Mod_doDig_54 N n l1 l2 l3 l4 l5 (l6 + 1) I)) else none) else (Mod_doDig_54 N n l1 l2 l3 l4 l5 (l6 + 1) I)) else none)
def Mod_doDig (N : Nat) (l1 : Int32) (l2 : Int32) (l3 : Int32) (I : FI) : Option (Int32 × FI) := if in9 ((173 + (6 * l3)) + l2) 451 then (Option.bind (some (up2 I 206 (((173 + (6 * l3)) + l2).toNatClampNeg) ((I 206 (((173 + (6 * l3)) + l2).toNatClampNeg)) + 1))) fun I2 => (Option.bind (some (up2 I2 206 ((103 : Int32).toNatClampNeg) ((I2 206 ((103 : Int32).toNatClampNeg)) + 1))) fun I3 => (if in9 (161 + l1) 451 then (Option.bind (some (up2 I3 206 ((161 + l1).toNatClampNeg) ((I3 206 ((161 + l1).toNatClampNeg)) + 1))) fun I5 => (Mod_doDig_54 N N l1 l2 l3 ((173 + (6 * l3)) + l2) 0 0 I5)) else none))) else none
set_option maxRecDepth 8000 in
theorem t_Mod_doDig_54 {d : Nat} {N : Nat} {c : Nat × Nat} {S : Nat → Nat × Nat} {P : Nat → Nat → Option Nat} {r : Int32 × FI} (hd : 0 ≤ d) (hw : OM S P) : ∀ (n : Nat) (l1 : Int32) (l2 : Int32) (l3 : Int32) (l4 : Int32) (l5 : Int32) (l6 : Int32) (I : FI) (J : FJ), Mod_doDig_54 N n l1 l2 l3 l4 l5 l6 I = some r → Go d M_Mod_doDig 54 [some (.ref 204), some (.int l1), some (.int l2), some (.int l3), some (.int l4), some (.int l5), some (.int l6)] [] (c, S, I, J, P) (some (.int r.1), false, (c, S, r.2, J, P)) := by
  intro n
  induction n with
  | zero =>
    intro l1 l2 l3 l4 l5 l6 I J h
    cases h
  | succ n ih =>
    intro l1 l2 l3 l4 l5 l6 I J h
    unfold Mod_doDig_54 at h
    refine g_iload cd225_54 rfl rfl ?_
    refine g_aload_n cd225_56 rfl rfl ?_
    refine g_getP cd225_57 rfl (OM.o hw) (OM.p14 hw) ?_
    refine g_iconst cd225_60 rfl ?_
    refine G_iald cd225_61 rfl (OM.s14 hw) (by decide) ?_
    refine g_icmp_ge cd225_62 rfl (fun hb => ?_) (fun hb => ?_)
    · have h := ifpE hb h
      refine g_aload_n cd225_163 rfl rfl ?_
      refine g_getP cd225_164 rfl (OM.o hw) (OM.p14 hw) ?_
      refine g_sipush cd225_167 rfl ?_
      refine g_iload_n cd225_170 rfl rfl ?_
      refine g_iadd cd225_171 rfl ?_
      refine g_dup2R cd225_172 rfl ?_
      obtain ⟨hg6, h⟩ := grd h
      refine G_iald cd225_173 rfl (OM.s14 hw) hg6 ?_
      refine g_iload cd225_174 rfl rfl ?_
      refine g_iadd cd225_176 rfl ?_
      obtain ⟨I7, e1, h⟩ := bnd h
      refine G_iast cd225_177 rfl (OM.s14 hw) hg6 (Option.some.inj e1) ?_
      refine g_iload cd225_178 rfl rfl ?_
      exact g_iret cd225_180 (Or.inl rfl) (by obtain rfl := Option.some.inj h; rfl)
    · have h := ifnE hb h
      refine g_aload_n cd225_65 rfl rfl ?_
      refine g_getP cd225_66 rfl (OM.o hw) (OM.p14 hw) ?_
      refine g_sipush cd225_69 rfl ?_
      refine g_iload cd225_72 rfl rfl ?_
      refine g_iadd cd225_74 rfl ?_
      obtain ⟨hg8, h⟩ := grd h
      refine G_iald cd225_75 rfl (OM.s14 hw) hg8 ?_
      refine g_if_ne cd225_76 rfl (fun hb => ?_) (fun hb => ?_)
      · have h := ifpE hb h
        refine g_aload_n cd225_79 rfl rfl ?_
        refine g_getP cd225_80 rfl (OM.o hw) (OM.p14 hw) ?_
        refine g_bipush cd225_83 rfl ?_
        refine g_iload cd225_85 rfl rfl ?_
        refine g_iadd cd225_87 rfl ?_
        obtain ⟨hg9, h⟩ := grd h
        refine G_iald cd225_88 rfl (OM.s14 hw) hg9 ?_
        refine g_iload_n cd225_89 rfl rfl ?_
        refine g_icmp_ne cd225_90 rfl (fun hb => ?_) (fun hb => ?_)
        · have h := ifpE hb h
          refine g_aload_n cd225_93 rfl rfl ?_
          refine g_getP cd225_94 rfl (OM.o hw) (OM.p14 hw) ?_
          refine g_bipush cd225_97 rfl ?_
          refine g_iload cd225_99 rfl rfl ?_
          refine g_iadd cd225_101 rfl ?_
          obtain ⟨hg10, h⟩ := grd h
          refine G_iald cd225_102 rfl (OM.s14 hw) hg10 ?_
          refine g_iload_n cd225_103 rfl rfl ?_
          refine g_icmp_ne cd225_104 rfl (fun hb => ?_) (fun hb => ?_)
          · have h := ifpE hb h
            refine g_aload_n cd225_107 rfl rfl ?_
            refine g_getP cd225_108 rfl (OM.o hw) (OM.p14 hw) ?_
            refine g_bipush cd225_111 rfl ?_
            refine g_iload cd225_113 rfl rfl ?_
            refine g_iadd cd225_115 rfl ?_
            obtain ⟨hg11, h⟩ := grd h
            refine G_iald cd225_116 rfl (OM.s14 hw) hg11 ?_
            refine g_aload_n cd225_117 rfl rfl ?_
            refine g_getP cd225_118 rfl (OM.o hw) (OM.p14 hw) ?_
            refine g_iload cd225_121 rfl rfl ?_
            obtain ⟨hg12, h⟩ := grd h
            refine G_iald cd225_123 rfl (OM.s14 hw) hg12 ?_
            refine g_icmp_lt cd225_124 rfl (fun hb => ?_) (fun hb => ?_)
            · have h := ifpE hb h
              refine g_aload_n cd225_130 rfl rfl ?_
              refine g_getP cd225_131 rfl (OM.o hw) (OM.p14 hw) ?_
              refine g_sipush cd225_134 rfl ?_
              refine g_iload cd225_137 rfl rfl ?_
              refine g_iadd cd225_139 rfl ?_
              refine g_iconst cd225_140 rfl ?_
              obtain ⟨I13, e1, h⟩ := bnd h
              refine G_iast cd225_141 rfl (OM.s14 hw) hg8 (Option.some.inj e1) ?_
              refine g_aload_n cd225_142 rfl rfl ?_
              refine g_getP cd225_143 rfl (OM.o hw) (OM.p14 hw) ?_
              refine g_sipush cd225_146 rfl ?_
              refine g_iload cd225_149 rfl rfl ?_
              refine g_iadd cd225_151 rfl ?_
              refine g_iload_n cd225_152 rfl rfl ?_
              obtain ⟨hg14, h⟩ := grd h
              obtain ⟨I15, e1, h⟩ := bnd h
              refine G_iast cd225_153 rfl (OM.s14 hw) hg14 (Option.some.inj e1) ?_
              refine g_iinc (ls2 := [some (.ref 204), some (.int l1), some (.int l2), some (.int l3), some (.int l4), some (.int (l5 + 1)), some (.int l6)]) cd225_154 rfl rfl rfl ?_
              refine g_iinc (ls2 := [some (.ref 204), some (.int l1), some (.int l2), some (.int l3), some (.int l4), some (.int (l5 + 1)), some (.int (l6 + 1))]) cd225_157 rfl rfl rfl ?_
              refine g_goto (ls2 := [some (.ref 204), some (.int l1), some (.int l2), some (.int l3), some (.int l4), some (.int (l5 + 1)), some (.int (l6 + 1))]) cd225_160 rfl rfl ?_
              exact ih l1 l2 l3 l4 (l5 + 1) (l6 + 1) I15 J h
            · have h := ifnE hb h
              refine g_goto (ls2 := [some (.ref 204), some (.int l1), some (.int l2), some (.int l3), some (.int l4), some (.int l5), some (.int l6)]) cd225_127 rfl rfl ?_
              refine g_iinc (ls2 := [some (.ref 204), some (.int l1), some (.int l2), some (.int l3), some (.int l4), some (.int l5), some (.int (l6 + 1))]) cd225_157 rfl rfl rfl ?_
              refine g_goto (ls2 := [some (.ref 204), some (.int l1), some (.int l2), some (.int l3), some (.int l4), some (.int l5), some (.int (l6 + 1))]) cd225_160 rfl rfl ?_
              exact ih l1 l2 l3 l4 l5 (l6 + 1) I J h
          · have h := ifnE hb h
            refine g_iinc (ls2 := [some (.ref 204), some (.int l1), some (.int l2), some (.int l3), some (.int l4), some (.int l5), some (.int (l6 + 1))]) cd225_157 rfl rfl rfl ?_
            refine g_goto (ls2 := [some (.ref 204), some (.int l1), some (.int l2), some (.int l3), some (.int l4), some (.int l5), some (.int (l6 + 1))]) cd225_160 rfl rfl ?_
            exact ih l1 l2 l3 l4 l5 (l6 + 1) I J h
        · have h := ifnE hb h
          refine g_iinc (ls2 := [some (.ref 204), some (.int l1), some (.int l2), some (.int l3), some (.int l4), some (.int l5), some (.int (l6 + 1))]) cd225_157 rfl rfl rfl ?_
          refine g_goto (ls2 := [some (.ref 204), some (.int l1), some (.int l2), some (.int l3), some (.int l4), some (.int l5), some (.int (l6 + 1))]) cd225_160 rfl rfl ?_
          exact ih l1 l2 l3 l4 l5 (l6 + 1) I J h
      · have h := ifnE hb h
        refine g_iinc (ls2 := [some (.ref 204), some (.int l1), some (.int l2), some (.int l3), some (.int l4), some (.int l5), some (.int (l6 + 1))]) cd225_157 rfl rfl rfl ?_
        refine g_goto (ls2 := [some (.ref 204), some (.int l1), some (.int l2), some (.int l3), some (.int l4), some (.int l5), some (.int (l6 + 1))]) cd225_160 rfl rfl ?_
        exact ih l1 l2 l3 l4 l5 (l6 + 1) I J h
set_option maxRecDepth 8000 in
theorem t_Mod_doDig {d : Nat} {N : Nat} {c : Nat × Nat} {S : Nat → Nat × Nat} {P : Nat → Nat → Option Nat} {I : FI} {J : FJ} {l1 : Int32} {l2 : Int32} {l3 : Int32} {r : Int32 × FI} (hd : 0 ≤ d) (hw : OM S P) (h : Mod_doDig N l1 l2 l3 I = some r) : Go d M_Mod_doDig 0 [some (.ref 204), some (.int l1), some (.int l2), some (.int l3), none, none, none] [] (c, S, I, J, P) (some (.int r.1), false, (c, S, r.2, J, P)) := by
  unfold Mod_doDig at h
  refine g_sipush cd225_0 rfl ?_
  refine g_bipush cd225_3 rfl ?_
  refine g_iload_n cd225_5 rfl rfl ?_
  refine g_imul cd225_6 rfl ?_
  refine g_iadd cd225_7 rfl ?_
  refine g_iload_n cd225_8 rfl rfl ?_
  refine g_iadd cd225_9 rfl ?_
  refine g_istore (ls2 := [some (.ref 204), some (.int l1), some (.int l2), some (.int l3), some (.int ((173 + (6 * l3)) + l2)), none, none]) cd225_10 rfl rfl ?_
  refine g_aload_n cd225_12 rfl rfl ?_
  refine g_getP cd225_13 rfl (OM.o hw) (OM.p14 hw) ?_
  refine g_iload cd225_16 rfl rfl ?_
  refine g_dup2R cd225_18 rfl ?_
  obtain ⟨hg1, h⟩ := grd h
  refine G_iald cd225_19 rfl (OM.s14 hw) hg1 ?_
  refine g_iconst cd225_20 rfl ?_
  refine g_iadd cd225_21 rfl ?_
  obtain ⟨I2, e1, h⟩ := bnd h
  refine G_iast cd225_22 rfl (OM.s14 hw) hg1 (Option.some.inj e1) ?_
  refine g_aload_n cd225_23 rfl rfl ?_
  refine g_getP cd225_24 rfl (OM.o hw) (OM.p14 hw) ?_
  refine g_bipush cd225_27 rfl ?_
  refine g_dup2R cd225_29 rfl ?_
  refine G_iald cd225_30 rfl (OM.s14 hw) (by decide) ?_
  refine g_iconst cd225_31 rfl ?_
  refine g_iadd cd225_32 rfl ?_
  obtain ⟨I3, e1, h⟩ := bnd h
  refine G_iast cd225_33 rfl (OM.s14 hw) (by decide) (Option.some.inj e1) ?_
  refine g_aload_n cd225_34 rfl rfl ?_
  refine g_getP cd225_35 rfl (OM.o hw) (OM.p14 hw) ?_
  refine g_sipush cd225_38 rfl ?_
  refine g_iload_n cd225_41 rfl rfl ?_
  refine g_iadd cd225_42 rfl ?_
  refine g_dup2R cd225_43 rfl ?_
  obtain ⟨hg4, h⟩ := grd h
  refine G_iald cd225_44 rfl (OM.s14 hw) hg4 ?_
  refine g_iconst cd225_45 rfl ?_
  refine g_iadd cd225_46 rfl ?_
  obtain ⟨I5, e1, h⟩ := bnd h
  refine G_iast cd225_47 rfl (OM.s14 hw) hg4 (Option.some.inj e1) ?_
  refine g_iconst cd225_48 rfl ?_
  refine g_istore (ls2 := [some (.ref 204), some (.int l1), some (.int l2), some (.int l3), some (.int ((173 + (6 * l3)) + l2)), some (.int 0), none]) cd225_49 rfl rfl ?_
  refine g_iconst cd225_51 rfl ?_
  refine g_istore (ls2 := [some (.ref 204), some (.int l1), some (.int l2), some (.int l3), some (.int ((173 + (6 * l3)) + l2)), some (.int 0), some (.int 0)]) cd225_52 rfl rfl ?_
  exact t_Mod_doDig_54 hd hw _ l1 l2 l3 ((173 + (6 * l3)) + l2) 0 0 I5 J h

/-! HiddenOrLostModel.readBookLine()Z -/
theorem cd275_0 : code9 275 0 = some (0, .aload_n 0, [1], .null, []) := rfl
theorem cd275_1 : code9 275 1 = some (0, .bipush 17, [2], .int 17, []) := rfl
theorem cd275_3 : code9 275 3 = some (0, .invokevirtual 177, [3, 184, 2, 1, 3, 2, 12, 0], .null, []) := rfl
theorem cd275_6 : code9 275 6 = some (0, .ifCond .ne 76, [3, 82], .null, []) := rfl
theorem cd275_9 : code9 275 9 = some (0, .aload_n 0, [1], .null, []) := rfl
theorem cd275_10 : code9 275 10 = some (0, .bipush 18, [2], .int 18, []) := rfl
theorem cd275_12 : code9 275 12 = some (0, .invokevirtual 177, [3, 184, 2, 1, 3, 2, 12, 0], .null, []) := rfl
theorem cd275_15 : code9 275 15 = some (0, .ifCond .ne 67, [3, 82], .null, []) := rfl
theorem cd275_18 : code9 275 18 = some (0, .aload_n 0, [1], .null, []) := rfl
theorem cd275_19 : code9 275 19 = some (0, .invokevirtual 169, [3, 196, 1, 1, 3, 2, 12, 0], .null, []) := rfl
theorem cd275_22 : code9 275 22 = some (0, .ifCond .ne 9, [3, 31], .null, []) := rfl
theorem cd275_25 : code9 275 25 = some (0, .aload_n 0, [1], .null, []) := rfl
theorem cd275_26 : code9 275 26 = some (0, .iconst 1, [1], .int 1, []) := rfl
theorem cd275_27 : code9 275 27 = some (0, .invokevirtual 72, [3, 188, 2, 1, 3, 2, 12, 0], .null, []) := rfl
theorem cd275_30 : code9 275 30 = some (0, .ireturn, [1, 3], .null, []) := rfl
theorem cd275_31 : code9 275 31 = some (0, .aload_n 0, [1], .null, []) := rfl
theorem cd275_32 : code9 275 32 = some (0, .getfield 113, [3, 12, 19, 2], .null, []) := rfl
theorem cd275_35 : code9 275 35 = some (0, .iconst 0, [1], .int 0, []) := rfl
theorem cd275_36 : code9 275 36 = some (0, .aload_n 0, [1], .null, []) := rfl
theorem cd275_37 : code9 275 37 = some (0, .getfield 98, [3, 12, 14, 2], .null, []) := rfl
theorem cd275_40 : code9 275 40 = some (0, .iconst 0, [1], .int 0, []) := rfl
theorem cd275_41 : code9 275 41 = some (0, .iaload, [1], .null, []) := rfl
theorem cd275_42 : code9 275 42 = some (0, .aload_n 0, [1], .null, []) := rfl
theorem cd275_43 : code9 275 43 = some (0, .getfield 43, [3, 12, 12, 1], .null, []) := rfl
theorem cd275_46 : code9 275 46 = some (0, .invokestatic 173, [3, 197, 4, 0, 1, 6, 12, 0], .null, []) := rfl
theorem cd275_49 : code9 275 49 = some (0, .iconst (-1), [1], .int (-1), []) := rfl
theorem cd275_50 : code9 275 50 = some (0, .if_icmp .ne 32, [3, 82], .null, []) := rfl
theorem cd275_53 : code9 275 53 = some (0, .aload_n 0, [1], .null, []) := rfl
theorem cd275_54 : code9 275 54 = some (0, .getfield 113, [3, 12, 19, 2], .null, []) := rfl
theorem cd275_57 : code9 275 57 = some (0, .bipush 6, [2], .int 6, []) := rfl
theorem cd275_59 : code9 275 59 = some (0, .aload_n 0, [1], .null, []) := rfl
theorem cd275_60 : code9 275 60 = some (0, .getfield 98, [3, 12, 14, 2], .null, []) := rfl
theorem cd275_63 : code9 275 63 = some (0, .iconst 1, [1], .int 1, []) := rfl
theorem cd275_64 : code9 275 64 = some (0, .iaload, [1], .null, []) := rfl
theorem cd275_65 : code9 275 65 = some (0, .aload_n 0, [1], .null, []) := rfl
theorem cd275_66 : code9 275 66 = some (0, .getfield 43, [3, 12, 12, 1], .null, []) := rfl
theorem cd275_69 : code9 275 69 = some (0, .invokestatic 173, [3, 197, 4, 0, 1, 6, 12, 0], .null, []) := rfl
theorem cd275_72 : code9 275 72 = some (0, .iconst (-1), [1], .int (-1), []) := rfl
theorem cd275_73 : code9 275 73 = some (0, .if_icmp .ne 9, [3, 82], .null, []) := rfl
theorem cd275_76 : code9 275 76 = some (0, .aload_n 0, [1], .null, []) := rfl
theorem cd275_77 : code9 275 77 = some (0, .iconst 3, [1], .int 3, []) := rfl
theorem cd275_78 : code9 275 78 = some (0, .invokevirtual 72, [3, 188, 2, 1, 3, 2, 12, 0], .null, []) := rfl
theorem cd275_81 : code9 275 81 = some (0, .ireturn, [1, 3], .null, []) := rfl
theorem cd275_82 : code9 275 82 = some (2, .aload_n 0, [1], .null, []) := rfl
theorem cd275_83 : code9 275 83 = some (0, .getfield 374, [3, 12, 39, 0], .null, []) := rfl
theorem cd275_86 : code9 275 86 = some (0, .bipush 40, [2], .int 40, []) := rfl
theorem cd275_88 : code9 275 88 = some (0, .if_icmp .ne 9, [3, 97], .null, []) := rfl
theorem cd275_91 : code9 275 91 = some (0, .aload_n 0, [1], .null, []) := rfl
theorem cd275_92 : code9 275 92 = some (0, .iconst 4, [1], .int 4, []) := rfl
theorem cd275_93 : code9 275 93 = some (0, .invokevirtual 72, [3, 188, 2, 1, 3, 2, 12, 0], .null, []) := rfl
theorem cd275_96 : code9 275 96 = some (0, .ireturn, [1, 3], .null, []) := rfl
theorem cd275_97 : code9 275 97 = some (0, .aload_n 0, [1], .null, []) := rfl
theorem cd275_98 : code9 275 98 = some (0, .iconst 4, [1], .int 4, []) := rfl
theorem cd275_99 : code9 275 99 = some (0, .aload_n 0, [1], .null, []) := rfl
theorem cd275_100 : code9 275 100 = some (0, .getfield 374, [3, 12, 39, 0], .null, []) := rfl
theorem cd275_103 : code9 275 103 = some (0, .imul, [1], .null, []) := rfl
theorem cd275_104 : code9 275 104 = some (0, .invokevirtual 377, [3, 276, 2, 1, 3, 4, 12, 0], .null, []) := rfl
theorem cd275_107 : code9 275 107 = some (0, .ifCond .eq 14, [3, 121], .null, []) := rfl
theorem cd275_110 : code9 275 110 = some (0, .aload_n 0, [1], .null, []) := rfl
theorem cd275_111 : code9 275 111 = some (0, .invokevirtual 230, [3, 205, 1, 1, 3, 1, 12, 0], .null, []) := rfl
theorem cd275_114 : code9 275 114 = some (0, .ifCond .eq 7, [3, 121], .null, []) := rfl
theorem cd275_117 : code9 275 117 = some (0, .iconst 1, [1], .int 1, []) := rfl
theorem cd275_118 : code9 275 118 = some (0, .goto 4, [3, 122, 1], .null, []) := rfl
theorem cd275_121 : code9 275 121 = some (2, .iconst 0, [1], .int 0, []) := rfl
theorem cd275_122 : code9 275 122 = some (2, .ireturn, [1, 3], .null, []) := rfl
def Mod_readBookLine (N : Nat) (I : FI) (J : FJ) : Option (Bool × FI × FJ) := if (Mod_isWord 17 I J) then (if (I 204 39) = 40 then (Option.bind (Mod_bad 4 I) fun x15 => (some (x15.1, x15.2, J))) else (Option.bind (Mod_readDoes N (4 * (I 204 39)) I J) fun x16 => (if x16.1 then (Option.bind (Mod_readEnd N x16.2.1 x16.2.2) fun x17 => (if x17.1 then (some (true, x17.2.1, x17.2.2)) else (some (false, x17.2.1, x17.2.2)))) else (some (false, x16.2.1, x16.2.2))))) else (if (Mod_isWord 18 I J) then (if (I 204 39) = 40 then (Option.bind (Mod_bad 4 I) fun x12 => (some (x12.1, x12.2, J))) else (Option.bind (Mod_readDoes N (4 * (I 204 39)) I J) fun x13 => (if x13.1 then (Option.bind (Mod_readEnd N x13.2.1 x13.2.2) fun x14 => (if x14.1 then (some (true, x14.2.1, x14.2.2)) else (some (false, x14.2.1, x14.2.2)))) else (some (false, x13.2.1, x13.2.2))))) else (Option.bind (Mod_isName N I J) fun x1 => (if x1 then (Option.bind (Mod_findIn N 211 22 0 (I 206 ((0 : Int32).toNatClampNeg)) (J 204 12) J) fun x3 => (if x3 = (-1) then (Option.bind (Mod_findIn N 211 22 6 (I 206 ((1 : Int32).toNatClampNeg)) (J 204 12) J) fun x4 => (if x4 = (-1) then (Option.bind (Mod_bad 3 I) fun x5 => (some (x5.1, x5.2, J))) else (if (I 204 39) = 40 then (Option.bind (Mod_bad 4 I) fun x6 => (some (x6.1, x6.2, J))) else (Option.bind (Mod_readDoes N (4 * (I 204 39)) I J) fun x7 => (if x7.1 then (Option.bind (Mod_readEnd N x7.2.1 x7.2.2) fun x8 => (if x8.1 then (some (true, x8.2.1, x8.2.2)) else (some (false, x8.2.1, x8.2.2)))) else (some (false, x7.2.1, x7.2.2))))))) else (if (I 204 39) = 40 then (Option.bind (Mod_bad 4 I) fun x9 => (some (x9.1, x9.2, J))) else (Option.bind (Mod_readDoes N (4 * (I 204 39)) I J) fun x10 => (if x10.1 then (Option.bind (Mod_readEnd N x10.2.1 x10.2.2) fun x11 => (if x11.1 then (some (true, x11.2.1, x11.2.2)) else (some (false, x11.2.1, x11.2.2)))) else (some (false, x10.2.1, x10.2.2))))))) else (Option.bind (Mod_bad 1 I) fun x2 => (some (x2.1, x2.2, J))))))
set_option maxRecDepth 8000 in
theorem t_Mod_readBookLine {d : Nat} {N : Nat} {c : Nat × Nat} {S : Nat → Nat × Nat} {P : Nat → Nat → Option Nat} {I : FI} {J : FJ} {r : Bool × FI × FJ} (hd : 5 ≤ d) (hw : OM S P) (h : Mod_readBookLine N I J = some r) : Go d M_Mod_readBookLine 0 [some (.ref 204)] [] (c, S, I, J, P) (some (.int (b2i r.1)), false, (c, S, r.2.1, r.2.2, P)) := by
  obtain ⟨d, rfl⟩ : ∃ e, d = e + 1 := ⟨d - 1, by omega⟩
  unfold Mod_readBookLine at h
  refine g_aload_n cd275_0 rfl rfl ?_
  refine g_bipush cd275_1 rfl ?_
  refine g_callVZ (L := [some (.ref 204), some (.int 17)]) cd275_3 rfl rfl rfl rfl rfl (OM.o hw) (t_Mod_isWord (by omega) hw rfl) ?_
  refine g_if_ne cd275_6 rfl (fun hb => ?_) (fun hb => ?_)
  · have h := ifnE (b2i_f hb) h
    refine g_aload_n cd275_9 rfl rfl ?_
    refine g_bipush cd275_10 rfl ?_
    refine g_callVZ (L := [some (.ref 204), some (.int 18)]) cd275_12 rfl rfl rfl rfl rfl (OM.o hw) (t_Mod_isWord (by omega) hw rfl) ?_
    refine g_if_ne cd275_15 rfl (fun hb => ?_) (fun hb => ?_)
    · have h := ifnE (b2i_f hb) h
      refine g_aload_n cd275_18 rfl rfl ?_
      obtain ⟨x1, hx, h⟩ := bnd h
      refine g_callVZ (L := [some (.ref 204), none]) cd275_19 rfl rfl rfl rfl rfl (OM.o hw) (t_Mod_isName (by omega) hw hx) ?_
      refine g_if_ne cd275_22 rfl (fun hb => ?_) (fun hb => ?_)
      · have h := ifnE (b2i_f hb) h
        refine g_aload_n cd275_25 rfl rfl ?_
        refine g_iconst cd275_26 rfl ?_
        obtain ⟨x2, hx, h⟩ := bnd h
        refine g_callVZ (L := [some (.ref 204), some (.int 1)]) cd275_27 rfl rfl rfl rfl rfl (OM.o hw) (t_Mod_bad (by omega) hw hx) ?_
        exact g_iret cd275_30 (Or.inr ⟨rfl, b2i_or _⟩) (by obtain rfl := Option.some.inj h; rfl)
      · have h := ifpE (b2i_t hb) h
        refine g_aload_n cd275_31 rfl rfl ?_
        refine g_getP cd275_32 rfl (OM.o hw) (OM.p19 hw) ?_
        refine g_iconst cd275_35 rfl ?_
        refine g_aload_n cd275_36 rfl rfl ?_
        refine g_getP cd275_37 rfl (OM.o hw) (OM.p14 hw) ?_
        refine g_iconst cd275_40 rfl ?_
        refine G_iald cd275_41 rfl (OM.s14 hw) (by decide) ?_
        refine g_aload_n cd275_42 rfl rfl ?_
        refine g_getJ cd275_43 rfl (OM.o hw) ?_
        obtain ⟨x3, hx, h⟩ := bnd h
        refine g_callSI (L := [some (.ref 211), some (.int 0), some (.int (I 206 ((0 : Int32).toNatClampNeg))), some (.long (J 204 12)), none, none]) cd275_46 rfl rfl rfl rfl rfl (t_Mod_findIn (by omega) (OM.s19 hw) hx) ?_
        refine g_iconst cd275_49 rfl ?_
        refine g_icmp_ne cd275_50 rfl (fun hb => ?_) (fun hb => ?_)
        · have h := ifpE hb h
          refine g_aload_n cd275_53 rfl rfl ?_
          refine g_getP cd275_54 rfl (OM.o hw) (OM.p19 hw) ?_
          refine g_bipush cd275_57 rfl ?_
          refine g_aload_n cd275_59 rfl rfl ?_
          refine g_getP cd275_60 rfl (OM.o hw) (OM.p14 hw) ?_
          refine g_iconst cd275_63 rfl ?_
          refine G_iald cd275_64 rfl (OM.s14 hw) (by decide) ?_
          refine g_aload_n cd275_65 rfl rfl ?_
          refine g_getJ cd275_66 rfl (OM.o hw) ?_
          obtain ⟨x4, hx, h⟩ := bnd h
          refine g_callSI (L := [some (.ref 211), some (.int 6), some (.int (I 206 ((1 : Int32).toNatClampNeg))), some (.long (J 204 12)), none, none]) cd275_69 rfl rfl rfl rfl rfl (t_Mod_findIn (by omega) (OM.s19 hw) hx) ?_
          refine g_iconst cd275_72 rfl ?_
          refine g_icmp_ne cd275_73 rfl (fun hb => ?_) (fun hb => ?_)
          · have h := ifpE hb h
            refine g_aload_n cd275_76 rfl rfl ?_
            refine g_iconst cd275_77 rfl ?_
            obtain ⟨x5, hx, h⟩ := bnd h
            refine g_callVZ (L := [some (.ref 204), some (.int 3)]) cd275_78 rfl rfl rfl rfl rfl (OM.o hw) (t_Mod_bad (by omega) hw hx) ?_
            exact g_iret cd275_81 (Or.inr ⟨rfl, b2i_or _⟩) (by obtain rfl := Option.some.inj h; rfl)
          · have h := ifnE hb h
            refine g_aload_n cd275_82 rfl rfl ?_
            refine g_getI cd275_83 rfl (OM.o hw) ?_
            refine g_bipush cd275_86 rfl ?_
            refine g_icmp_ne cd275_88 rfl (fun hb => ?_) (fun hb => ?_)
            · have h := ifpE hb h
              refine g_aload_n cd275_91 rfl rfl ?_
              refine g_iconst cd275_92 rfl ?_
              obtain ⟨x6, hx, h⟩ := bnd h
              refine g_callVZ (L := [some (.ref 204), some (.int 4)]) cd275_93 rfl rfl rfl rfl rfl (OM.o hw) (t_Mod_bad (by omega) hw hx) ?_
              exact g_iret cd275_96 (Or.inr ⟨rfl, b2i_or _⟩) (by obtain rfl := Option.some.inj h; rfl)
            · have h := ifnE hb h
              refine g_aload_n cd275_97 rfl rfl ?_
              refine g_iconst cd275_98 rfl ?_
              refine g_aload_n cd275_99 rfl rfl ?_
              refine g_getI cd275_100 rfl (OM.o hw) ?_
              refine g_imul cd275_103 rfl ?_
              obtain ⟨x7, hx, h⟩ := bnd h
              refine g_callVZ (L := [some (.ref 204), some (.int (4 * (I 204 39))), none, none]) cd275_104 rfl rfl rfl rfl rfl (OM.o hw) (t_Mod_readDoes (by omega) hw hx) ?_
              refine g_if_eq cd275_107 rfl (fun hb => ?_) (fun hb => ?_)
              · have h := ifnE (b2i_f hb) h
                refine g_iconst cd275_121 rfl ?_
                exact g_iret cd275_122 (Or.inr ⟨rfl, Or.inl rfl⟩) (by obtain rfl := Option.some.inj h; rfl)
              · have h := ifpE (b2i_t hb) h
                refine g_aload_n cd275_110 rfl rfl ?_
                obtain ⟨x8, hx, h⟩ := bnd h
                refine g_callVZ (L := [some (.ref 204)]) cd275_111 rfl rfl rfl rfl rfl (OM.o hw) (t_Mod_readEnd (by omega) hw hx) ?_
                refine g_if_eq cd275_114 rfl (fun hb => ?_) (fun hb => ?_)
                · have h := ifnE (b2i_f hb) h
                  refine g_iconst cd275_121 rfl ?_
                  exact g_iret cd275_122 (Or.inr ⟨rfl, Or.inl rfl⟩) (by obtain rfl := Option.some.inj h; rfl)
                · have h := ifpE (b2i_t hb) h
                  refine g_iconst cd275_117 rfl ?_
                  refine g_goto (ls2 := [some (.ref 204)]) cd275_118 rfl rfl ?_
                  exact g_iret cd275_122 (Or.inr ⟨rfl, Or.inr rfl⟩) (by obtain rfl := Option.some.inj h; rfl)
        · have h := ifnE hb h
          refine g_aload_n cd275_82 rfl rfl ?_
          refine g_getI cd275_83 rfl (OM.o hw) ?_
          refine g_bipush cd275_86 rfl ?_
          refine g_icmp_ne cd275_88 rfl (fun hb => ?_) (fun hb => ?_)
          · have h := ifpE hb h
            refine g_aload_n cd275_91 rfl rfl ?_
            refine g_iconst cd275_92 rfl ?_
            obtain ⟨x9, hx, h⟩ := bnd h
            refine g_callVZ (L := [some (.ref 204), some (.int 4)]) cd275_93 rfl rfl rfl rfl rfl (OM.o hw) (t_Mod_bad (by omega) hw hx) ?_
            exact g_iret cd275_96 (Or.inr ⟨rfl, b2i_or _⟩) (by obtain rfl := Option.some.inj h; rfl)
          · have h := ifnE hb h
            refine g_aload_n cd275_97 rfl rfl ?_
            refine g_iconst cd275_98 rfl ?_
            refine g_aload_n cd275_99 rfl rfl ?_
            refine g_getI cd275_100 rfl (OM.o hw) ?_
            refine g_imul cd275_103 rfl ?_
            obtain ⟨x10, hx, h⟩ := bnd h
            refine g_callVZ (L := [some (.ref 204), some (.int (4 * (I 204 39))), none, none]) cd275_104 rfl rfl rfl rfl rfl (OM.o hw) (t_Mod_readDoes (by omega) hw hx) ?_
            refine g_if_eq cd275_107 rfl (fun hb => ?_) (fun hb => ?_)
            · have h := ifnE (b2i_f hb) h
              refine g_iconst cd275_121 rfl ?_
              exact g_iret cd275_122 (Or.inr ⟨rfl, Or.inl rfl⟩) (by obtain rfl := Option.some.inj h; rfl)
            · have h := ifpE (b2i_t hb) h
              refine g_aload_n cd275_110 rfl rfl ?_
              obtain ⟨x11, hx, h⟩ := bnd h
              refine g_callVZ (L := [some (.ref 204)]) cd275_111 rfl rfl rfl rfl rfl (OM.o hw) (t_Mod_readEnd (by omega) hw hx) ?_
              refine g_if_eq cd275_114 rfl (fun hb => ?_) (fun hb => ?_)
              · have h := ifnE (b2i_f hb) h
                refine g_iconst cd275_121 rfl ?_
                exact g_iret cd275_122 (Or.inr ⟨rfl, Or.inl rfl⟩) (by obtain rfl := Option.some.inj h; rfl)
              · have h := ifpE (b2i_t hb) h
                refine g_iconst cd275_117 rfl ?_
                refine g_goto (ls2 := [some (.ref 204)]) cd275_118 rfl rfl ?_
                exact g_iret cd275_122 (Or.inr ⟨rfl, Or.inr rfl⟩) (by obtain rfl := Option.some.inj h; rfl)
    · have h := ifpE (b2i_t hb) h
      refine g_aload_n cd275_82 rfl rfl ?_
      refine g_getI cd275_83 rfl (OM.o hw) ?_
      refine g_bipush cd275_86 rfl ?_
      refine g_icmp_ne cd275_88 rfl (fun hb => ?_) (fun hb => ?_)
      · have h := ifpE hb h
        refine g_aload_n cd275_91 rfl rfl ?_
        refine g_iconst cd275_92 rfl ?_
        obtain ⟨x12, hx, h⟩ := bnd h
        refine g_callVZ (L := [some (.ref 204), some (.int 4)]) cd275_93 rfl rfl rfl rfl rfl (OM.o hw) (t_Mod_bad (by omega) hw hx) ?_
        exact g_iret cd275_96 (Or.inr ⟨rfl, b2i_or _⟩) (by obtain rfl := Option.some.inj h; rfl)
      · have h := ifnE hb h
        refine g_aload_n cd275_97 rfl rfl ?_
        refine g_iconst cd275_98 rfl ?_
        refine g_aload_n cd275_99 rfl rfl ?_
        refine g_getI cd275_100 rfl (OM.o hw) ?_
        refine g_imul cd275_103 rfl ?_
        obtain ⟨x13, hx, h⟩ := bnd h
        refine g_callVZ (L := [some (.ref 204), some (.int (4 * (I 204 39))), none, none]) cd275_104 rfl rfl rfl rfl rfl (OM.o hw) (t_Mod_readDoes (by omega) hw hx) ?_
        refine g_if_eq cd275_107 rfl (fun hb => ?_) (fun hb => ?_)
        · have h := ifnE (b2i_f hb) h
          refine g_iconst cd275_121 rfl ?_
          exact g_iret cd275_122 (Or.inr ⟨rfl, Or.inl rfl⟩) (by obtain rfl := Option.some.inj h; rfl)
        · have h := ifpE (b2i_t hb) h
          refine g_aload_n cd275_110 rfl rfl ?_
          obtain ⟨x14, hx, h⟩ := bnd h
          refine g_callVZ (L := [some (.ref 204)]) cd275_111 rfl rfl rfl rfl rfl (OM.o hw) (t_Mod_readEnd (by omega) hw hx) ?_
          refine g_if_eq cd275_114 rfl (fun hb => ?_) (fun hb => ?_)
          · have h := ifnE (b2i_f hb) h
            refine g_iconst cd275_121 rfl ?_
            exact g_iret cd275_122 (Or.inr ⟨rfl, Or.inl rfl⟩) (by obtain rfl := Option.some.inj h; rfl)
          · have h := ifpE (b2i_t hb) h
            refine g_iconst cd275_117 rfl ?_
            refine g_goto (ls2 := [some (.ref 204)]) cd275_118 rfl rfl ?_
            exact g_iret cd275_122 (Or.inr ⟨rfl, Or.inr rfl⟩) (by obtain rfl := Option.some.inj h; rfl)
  · have h := ifpE (b2i_t hb) h
    refine g_aload_n cd275_82 rfl rfl ?_
    refine g_getI cd275_83 rfl (OM.o hw) ?_
    refine g_bipush cd275_86 rfl ?_
    refine g_icmp_ne cd275_88 rfl (fun hb => ?_) (fun hb => ?_)
    · have h := ifpE hb h
      refine g_aload_n cd275_91 rfl rfl ?_
      refine g_iconst cd275_92 rfl ?_
      obtain ⟨x15, hx, h⟩ := bnd h
      refine g_callVZ (L := [some (.ref 204), some (.int 4)]) cd275_93 rfl rfl rfl rfl rfl (OM.o hw) (t_Mod_bad (by omega) hw hx) ?_
      exact g_iret cd275_96 (Or.inr ⟨rfl, b2i_or _⟩) (by obtain rfl := Option.some.inj h; rfl)
    · have h := ifnE hb h
      refine g_aload_n cd275_97 rfl rfl ?_
      refine g_iconst cd275_98 rfl ?_
      refine g_aload_n cd275_99 rfl rfl ?_
      refine g_getI cd275_100 rfl (OM.o hw) ?_
      refine g_imul cd275_103 rfl ?_
      obtain ⟨x16, hx, h⟩ := bnd h
      refine g_callVZ (L := [some (.ref 204), some (.int (4 * (I 204 39))), none, none]) cd275_104 rfl rfl rfl rfl rfl (OM.o hw) (t_Mod_readDoes (by omega) hw hx) ?_
      refine g_if_eq cd275_107 rfl (fun hb => ?_) (fun hb => ?_)
      · have h := ifnE (b2i_f hb) h
        refine g_iconst cd275_121 rfl ?_
        exact g_iret cd275_122 (Or.inr ⟨rfl, Or.inl rfl⟩) (by obtain rfl := Option.some.inj h; rfl)
      · have h := ifpE (b2i_t hb) h
        refine g_aload_n cd275_110 rfl rfl ?_
        obtain ⟨x17, hx, h⟩ := bnd h
        refine g_callVZ (L := [some (.ref 204)]) cd275_111 rfl rfl rfl rfl rfl (OM.o hw) (t_Mod_readEnd (by omega) hw hx) ?_
        refine g_if_eq cd275_114 rfl (fun hb => ?_) (fun hb => ?_)
        · have h := ifnE (b2i_f hb) h
          refine g_iconst cd275_121 rfl ?_
          exact g_iret cd275_122 (Or.inr ⟨rfl, Or.inl rfl⟩) (by obtain rfl := Option.some.inj h; rfl)
        · have h := ifpE (b2i_t hb) h
          refine g_iconst cd275_117 rfl ?_
          refine g_goto (ls2 := [some (.ref 204)]) cd275_118 rfl rfl ?_
          exact g_iret cd275_122 (Or.inr ⟨rfl, Or.inr rfl⟩) (by obtain rfl := Option.some.inj h; rfl)
/-! HiddenOrLostModel.whyLine(I)I -/
theorem cd279_0 : code9 279 0 = some (0, .aload_n 0, [1], .null, []) := rfl
theorem cd279_1 : code9 279 1 = some (0, .getfield 154, [3, 12, 37, 2], .null, []) := rfl
theorem cd279_4 : code9 279 4 = some (0, .iload_n 1, [1], .null, []) := rfl
theorem cd279_5 : code9 279 5 = some (0, .iconst 1, [1], .int 1, []) := rfl
theorem cd279_6 : code9 279 6 = some (0, .iadd, [1], .null, []) := rfl
theorem cd279_7 : code9 279 7 = some (0, .iaload, [1], .null, []) := rfl
theorem cd279_8 : code9 279 8 = some (0, .istore_n 2, [1], .null, []) := rfl
theorem cd279_9 : code9 279 9 = some (0, .aload_n 0, [1], .null, []) := rfl
theorem cd279_10 : code9 279 10 = some (0, .getfield 154, [3, 12, 37, 2], .null, []) := rfl
theorem cd279_13 : code9 279 13 = some (0, .iload_n 1, [1], .null, []) := rfl
theorem cd279_14 : code9 279 14 = some (0, .iconst 2, [1], .int 2, []) := rfl
theorem cd279_15 : code9 279 15 = some (0, .iadd, [1], .null, []) := rfl
theorem cd279_16 : code9 279 16 = some (0, .iaload, [1], .null, []) := rfl
theorem cd279_17 : code9 279 17 = some (0, .istore_n 3, [1], .null, []) := rfl
theorem cd279_18 : code9 279 18 = some (0, .aload_n 0, [1], .null, []) := rfl
theorem cd279_19 : code9 279 19 = some (0, .getfield 154, [3, 12, 37, 2], .null, []) := rfl
theorem cd279_22 : code9 279 22 = some (0, .iload_n 1, [1], .null, []) := rfl
theorem cd279_23 : code9 279 23 = some (0, .iaload, [1], .null, []) := rfl
theorem cd279_24 : code9 279 24 = some (0, .tableswitch 199 0 5 #[40, 83, 83, 97, 132, 164], [40, 223], .null, [(0, 64), (1, 107), (2, 107), (3, 121), (4, 156), (5, 188)]) := rfl
theorem cd279_64 : code9 279 64 = some (0, .aload_n 0, [1], .null, []) := rfl
theorem cd279_65 : code9 279 65 = some (0, .iload_n 3, [1], .null, []) := rfl
theorem cd279_66 : code9 279 66 = some (0, .aload_n 0, [1], .null, []) := rfl
theorem cd279_67 : code9 279 67 = some (0, .getfield 154, [3, 12, 37, 2], .null, []) := rfl
theorem cd279_70 : code9 279 70 = some (0, .iload_n 1, [1], .null, []) := rfl
theorem cd279_71 : code9 279 71 = some (0, .iconst 3, [1], .int 3, []) := rfl
theorem cd279_72 : code9 279 72 = some (0, .iadd, [1], .null, []) := rfl
theorem cd279_73 : code9 279 73 = some (0, .iaload, [1], .null, []) := rfl
theorem cd279_74 : code9 279 74 = some (0, .invokevirtual 251, [3, 214, 3, 1, 3, 3, 12, 0], .null, []) := rfl
theorem cd279_77 : code9 279 77 = some (0, .ifCond .ne 8, [3, 85], .null, []) := rfl
theorem cd279_80 : code9 279 80 = some (0, .bipush 9, [2], .int 9, []) := rfl
theorem cd279_82 : code9 279 82 = some (0, .goto 24, [3, 106, 4], .null, []) := rfl
theorem cd279_85 : code9 279 85 = some (0, .aload_n 0, [1], .null, []) := rfl
theorem cd279_86 : code9 279 86 = some (0, .iload_n 3, [1], .null, []) := rfl
theorem cd279_87 : code9 279 87 = some (0, .aload_n 0, [1], .null, []) := rfl
theorem cd279_88 : code9 279 88 = some (0, .getfield 154, [3, 12, 37, 2], .null, []) := rfl
theorem cd279_91 : code9 279 91 = some (0, .iload_n 1, [1], .null, []) := rfl
theorem cd279_92 : code9 279 92 = some (0, .iconst 3, [1], .int 3, []) := rfl
theorem cd279_93 : code9 279 93 = some (0, .iadd, [1], .null, []) := rfl
theorem cd279_94 : code9 279 94 = some (0, .iaload, [1], .null, []) := rfl
theorem cd279_95 : code9 279 95 = some (0, .invokevirtual 274, [3, 223, 3, 1, 3, 3, 12, 0], .null, []) := rfl
theorem cd279_98 : code9 279 98 = some (0, .ifCond .eq 7, [3, 105], .null, []) := rfl
theorem cd279_101 : code9 279 101 = some (0, .iconst 0, [1], .int 0, []) := rfl
theorem cd279_102 : code9 279 102 = some (0, .goto 4, [3, 106, 4], .null, []) := rfl
theorem cd279_105 : code9 279 105 = some (0, .iconst 1, [1], .int 1, []) := rfl
theorem cd279_106 : code9 279 106 = some (5, .ireturn, [1, 1], .null, []) := rfl
theorem cd279_107 : code9 279 107 = some (0, .aload_n 0, [1], .null, []) := rfl
theorem cd279_108 : code9 279 108 = some (0, .iload_n 2, [1], .null, []) := rfl
theorem cd279_109 : code9 279 109 = some (0, .invokevirtual 284, [3, 227, 2, 1, 3, 2, 12, 0], .null, []) := rfl
theorem cd279_112 : code9 279 112 = some (0, .ifCond .eq 7, [3, 119], .null, []) := rfl
theorem cd279_115 : code9 279 115 = some (0, .iconst 0, [1], .int 0, []) := rfl
theorem cd279_116 : code9 279 116 = some (0, .goto 4, [3, 120, 4], .null, []) := rfl
theorem cd279_119 : code9 279 119 = some (0, .iconst 1, [1], .int 1, []) := rfl
theorem cd279_120 : code9 279 120 = some (5, .ireturn, [1, 1], .null, []) := rfl
theorem cd279_121 : code9 279 121 = some (0, .aload_n 0, [1], .null, []) := rfl
theorem cd279_122 : code9 279 122 = some (0, .iload_n 3, [1], .null, []) := rfl
theorem cd279_123 : code9 279 123 = some (0, .aload_n 0, [1], .null, []) := rfl
theorem cd279_124 : code9 279 124 = some (0, .getfield 154, [3, 12, 37, 2], .null, []) := rfl
theorem cd279_127 : code9 279 127 = some (0, .iload_n 1, [1], .null, []) := rfl
theorem cd279_128 : code9 279 128 = some (0, .iconst 3, [1], .int 3, []) := rfl
theorem cd279_129 : code9 279 129 = some (0, .iadd, [1], .null, []) := rfl
theorem cd279_130 : code9 279 130 = some (0, .iaload, [1], .null, []) := rfl
theorem cd279_131 : code9 279 131 = some (0, .invokevirtual 251, [3, 214, 3, 1, 3, 3, 12, 0], .null, []) := rfl
theorem cd279_134 : code9 279 134 = some (0, .ifCond .ne 8, [3, 142], .null, []) := rfl
theorem cd279_137 : code9 279 137 = some (0, .bipush 9, [2], .int 9, []) := rfl
theorem cd279_139 : code9 279 139 = some (0, .goto 16, [3, 155, 4], .null, []) := rfl
theorem cd279_142 : code9 279 142 = some (0, .aload_n 0, [1], .null, []) := rfl
theorem cd279_143 : code9 279 143 = some (0, .iload_n 2, [1], .null, []) := rfl
theorem cd279_144 : code9 279 144 = some (0, .invokevirtual 284, [3, 227, 2, 1, 3, 2, 12, 0], .null, []) := rfl
theorem cd279_147 : code9 279 147 = some (0, .ifCond .eq 7, [3, 154], .null, []) := rfl
theorem cd279_150 : code9 279 150 = some (0, .iconst 0, [1], .int 0, []) := rfl
theorem cd279_151 : code9 279 151 = some (0, .goto 4, [3, 155, 4], .null, []) := rfl
theorem cd279_154 : code9 279 154 = some (0, .iconst 1, [1], .int 1, []) := rfl
theorem cd279_155 : code9 279 155 = some (5, .ireturn, [1, 1], .null, []) := rfl
theorem cd279_156 : code9 279 156 = some (0, .aload_n 0, [1], .null, []) := rfl
theorem cd279_157 : code9 279 157 = some (0, .iload_n 2, [1], .null, []) := rfl
theorem cd279_158 : code9 279 158 = some (0, .invokevirtual 284, [3, 227, 2, 1, 3, 2, 12, 0], .null, []) := rfl
theorem cd279_161 : code9 279 161 = some (0, .ifCond .ne 7, [3, 168], .null, []) := rfl
theorem cd279_164 : code9 279 164 = some (0, .iconst 1, [1], .int 1, []) := rfl
theorem cd279_165 : code9 279 165 = some (0, .goto 22, [3, 187, 4], .null, []) := rfl
theorem cd279_168 : code9 279 168 = some (0, .aload_n 0, [1], .null, []) := rfl
theorem cd279_169 : code9 279 169 = some (0, .getfield 98, [3, 12, 14, 2], .null, []) := rfl
theorem cd279_172 : code9 279 172 = some (0, .sipush 145, [3], .int 145, []) := rfl
theorem cd279_175 : code9 279 175 = some (0, .iload_n 2, [1], .null, []) := rfl
theorem cd279_176 : code9 279 176 = some (0, .iadd, [1], .null, []) := rfl
theorem cd279_177 : code9 279 177 = some (0, .iaload, [1], .null, []) := rfl
theorem cd279_178 : code9 279 178 = some (0, .iload_n 3, [1], .null, []) := rfl
theorem cd279_179 : code9 279 179 = some (0, .if_icmp .ne 7, [3, 186], .null, []) := rfl
theorem cd279_182 : code9 279 182 = some (0, .iconst 2, [1], .int 2, []) := rfl
theorem cd279_183 : code9 279 183 = some (0, .goto 4, [3, 187, 4], .null, []) := rfl
theorem cd279_186 : code9 279 186 = some (0, .iconst 0, [1], .int 0, []) := rfl
theorem cd279_187 : code9 279 187 = some (5, .ireturn, [1, 1], .null, []) := rfl
theorem cd279_188 : code9 279 188 = some (0, .aload_n 0, [1], .null, []) := rfl
theorem cd279_189 : code9 279 189 = some (0, .getfield 98, [3, 12, 14, 2], .null, []) := rfl
theorem cd279_192 : code9 279 192 = some (0, .iconst 0, [1], .int 0, []) := rfl
theorem cd279_193 : code9 279 193 = some (0, .iaload, [1], .null, []) := rfl
theorem cd279_194 : code9 279 194 = some (0, .ifCond .ne 8, [3, 202], .null, []) := rfl
theorem cd279_197 : code9 279 197 = some (0, .bipush 9, [2], .int 9, []) := rfl
theorem cd279_199 : code9 279 199 = some (0, .goto 23, [3, 222, 4], .null, []) := rfl
theorem cd279_202 : code9 279 202 = some (0, .aload_n 0, [1], .null, []) := rfl
theorem cd279_203 : code9 279 203 = some (0, .getfield 98, [3, 12, 14, 2], .null, []) := rfl
theorem cd279_206 : code9 279 206 = some (0, .bipush 102, [2], .int 102, []) := rfl
theorem cd279_208 : code9 279 208 = some (0, .iaload, [1], .null, []) := rfl
theorem cd279_209 : code9 279 209 = some (0, .iload_n 3, [1], .null, []) := rfl
theorem cd279_210 : code9 279 210 = some (0, .iadd, [1], .null, []) := rfl
theorem cd279_211 : code9 279 211 = some (0, .sipush 400, [3], .int 400, []) := rfl
theorem cd279_214 : code9 279 214 = some (0, .if_icmp .le 7, [3, 221], .null, []) := rfl
theorem cd279_217 : code9 279 217 = some (0, .iconst 1, [1], .int 1, []) := rfl
theorem cd279_218 : code9 279 218 = some (0, .goto 4, [3, 222, 4], .null, []) := rfl
theorem cd279_221 : code9 279 221 = some (0, .iconst 0, [1], .int 0, []) := rfl
theorem cd279_222 : code9 279 222 = some (5, .ireturn, [1, 1], .null, []) := rfl
theorem cd279_223 : code9 279 223 = some (0, .iconst 0, [1], .int 0, []) := rfl
theorem cd279_224 : code9 279 224 = some (0, .ireturn, [1, 1], .null, []) := rfl
def Mod_whyLine (l1 : Int32) (I : FI) : Option (Int32) := if in9 (l1 + 1) 160 then (if in9 (l1 + 2) 160 then (if in9 l1 160 then (if (I 222 l1.toNatClampNeg) = 0 then (if in9 (l1 + 3) 160 then (Option.bind (Mod_isCell (I 222 ((l1 + 2).toNatClampNeg)) (I 222 ((l1 + 3).toNatClampNeg)) I) fun x5 => (if x5 then (Option.bind (Mod_canDig (I 222 ((l1 + 2).toNatClampNeg)) (I 222 ((l1 + 3).toNatClampNeg)) I) fun x6 => (if x6 then (some 0) else (some 1))) else (some 9))) else none) else (if (I 222 l1.toNatClampNeg) = 1 then (Option.bind (Mod_isHad (I 222 ((l1 + 1).toNatClampNeg)) I) fun x7 => (if x7 then (some 0) else (some 1))) else (if (I 222 l1.toNatClampNeg) = 2 then (Option.bind (Mod_isHad (I 222 ((l1 + 1).toNatClampNeg)) I) fun x8 => (if x8 then (some 0) else (some 1))) else (if (I 222 l1.toNatClampNeg) = 3 then (if in9 (l1 + 3) 160 then (Option.bind (Mod_isCell (I 222 ((l1 + 2).toNatClampNeg)) (I 222 ((l1 + 3).toNatClampNeg)) I) fun x10 => (if x10 then (Option.bind (Mod_isHad (I 222 ((l1 + 1).toNatClampNeg)) I) fun x11 => (if x11 then (some 0) else (some 1))) else (some 9))) else none) else (if (I 222 l1.toNatClampNeg) = 4 then (Option.bind (Mod_isHad (I 222 ((l1 + 1).toNatClampNeg)) I) fun x12 => (if x12 then (if in9 (145 + (I 222 ((l1 + 1).toNatClampNeg))) 451 then (if (I 206 ((145 + (I 222 ((l1 + 1).toNatClampNeg))).toNatClampNeg)) = (I 222 ((l1 + 2).toNatClampNeg)) then (some 2) else (some 0)) else none) else (some 1))) else (if (I 222 l1.toNatClampNeg) = 5 then (if (I 206 ((0 : Int32).toNatClampNeg)) = 0 then (some 9) else (if ((I 206 ((102 : Int32).toNatClampNeg)) + (I 222 ((l1 + 2).toNatClampNeg))) ≤ 400 then (some 0) else (some 1))) else (some 0))))))) else none) else none) else none
set_option maxRecDepth 8000 in
theorem t_Mod_whyLine {d : Nat} {c : Nat × Nat} {S : Nat → Nat × Nat} {P : Nat → Nat → Option Nat} {I : FI} {J : FJ} {l1 : Int32} {r : Int32} (hd : 2 ≤ d) (hw : OM S P) (h : Mod_whyLine l1 I = some r) : Go d M_Mod_whyLine 0 [some (.ref 204), some (.int l1), none, none] [] (c, S, I, J, P) (some (.int r), false, (c, S, I, J, P)) := by
  obtain ⟨d, rfl⟩ : ∃ e, d = e + 1 := ⟨d - 1, by omega⟩
  unfold Mod_whyLine at h
  refine g_aload_n cd279_0 rfl rfl ?_
  refine g_getP cd279_1 rfl (OM.o hw) (OM.p37 hw) ?_
  refine g_iload_n cd279_4 rfl rfl ?_
  refine g_iconst cd279_5 rfl ?_
  refine g_iadd cd279_6 rfl ?_
  obtain ⟨hg1, h⟩ := grd h
  refine G_iald cd279_7 rfl (OM.s37 hw) hg1 ?_
  refine g_istore_n (ls2 := [some (.ref 204), some (.int l1), some (.int (I 222 ((l1 + 1).toNatClampNeg))), none]) cd279_8 rfl rfl ?_
  refine g_aload_n cd279_9 rfl rfl ?_
  refine g_getP cd279_10 rfl (OM.o hw) (OM.p37 hw) ?_
  refine g_iload_n cd279_13 rfl rfl ?_
  refine g_iconst cd279_14 rfl ?_
  refine g_iadd cd279_15 rfl ?_
  obtain ⟨hg2, h⟩ := grd h
  refine G_iald cd279_16 rfl (OM.s37 hw) hg2 ?_
  refine g_istore_n (ls2 := [some (.ref 204), some (.int l1), some (.int (I 222 ((l1 + 1).toNatClampNeg))), some (.int (I 222 ((l1 + 2).toNatClampNeg)))]) cd279_17 rfl rfl ?_
  refine g_aload_n cd279_18 rfl rfl ?_
  refine g_getP cd279_19 rfl (OM.o hw) (OM.p37 hw) ?_
  refine g_iload_n cd279_22 rfl rfl ?_
  obtain ⟨hg3, h⟩ := grd h
  refine G_iald cd279_23 rfl (OM.s37 hw) hg3 ?_
  refine g_tableswitch cd279_24 rfl ?_
  refine ifi (fun hb => ?_) (fun hb => ?_)
  · have h := ifpE hb h
    show Go _ _ 64 [some (.ref 204), some (.int l1), some (.int (I 222 ((l1 + 1).toNatClampNeg))), some (.int (I 222 ((l1 + 2).toNatClampNeg)))] [] _ _
    refine g_aload_n cd279_64 rfl rfl ?_
    refine g_iload_n cd279_65 rfl rfl ?_
    refine g_aload_n cd279_66 rfl rfl ?_
    refine g_getP cd279_67 rfl (OM.o hw) (OM.p37 hw) ?_
    refine g_iload_n cd279_70 rfl rfl ?_
    refine g_iconst cd279_71 rfl ?_
    refine g_iadd cd279_72 rfl ?_
    obtain ⟨hg4, h⟩ := grd h
    refine G_iald cd279_73 rfl (OM.s37 hw) hg4 ?_
    obtain ⟨x5, hx, h⟩ := bnd h
    refine g_callVZ (L := [some (.ref 204), some (.int (I 222 ((l1 + 2).toNatClampNeg))), some (.int (I 222 ((l1 + 3).toNatClampNeg)))]) cd279_74 rfl rfl rfl rfl rfl (OM.o hw) (t_Mod_isCell (by omega) hw hx) ?_
    refine g_if_ne cd279_77 rfl (fun hb => ?_) (fun hb => ?_)
    · have h := ifnE (b2i_f hb) h
      refine g_bipush cd279_80 rfl ?_
      refine g_goto (ls2 := [some (.ref 204), some (.int l1), some (.int (I 222 ((l1 + 1).toNatClampNeg))), some (.int (I 222 ((l1 + 2).toNatClampNeg)))]) cd279_82 rfl rfl ?_
      exact g_iret cd279_106 (Or.inl rfl) (by obtain rfl := Option.some.inj h; rfl)
    · have h := ifpE (b2i_t hb) h
      refine g_aload_n cd279_85 rfl rfl ?_
      refine g_iload_n cd279_86 rfl rfl ?_
      refine g_aload_n cd279_87 rfl rfl ?_
      refine g_getP cd279_88 rfl (OM.o hw) (OM.p37 hw) ?_
      refine g_iload_n cd279_91 rfl rfl ?_
      refine g_iconst cd279_92 rfl ?_
      refine g_iadd cd279_93 rfl ?_
      refine G_iald cd279_94 rfl (OM.s37 hw) hg4 ?_
      obtain ⟨x6, hx, h⟩ := bnd h
      refine g_callVZ (L := [some (.ref 204), some (.int (I 222 ((l1 + 2).toNatClampNeg))), some (.int (I 222 ((l1 + 3).toNatClampNeg)))]) cd279_95 rfl rfl rfl rfl rfl (OM.o hw) (t_Mod_canDig (by omega) hw hx) ?_
      refine g_if_eq cd279_98 rfl (fun hb => ?_) (fun hb => ?_)
      · have h := ifnE (b2i_f hb) h
        refine g_iconst cd279_105 rfl ?_
        exact g_iret cd279_106 (Or.inl rfl) (by obtain rfl := Option.some.inj h; rfl)
      · have h := ifpE (b2i_t hb) h
        refine g_iconst cd279_101 rfl ?_
        refine g_goto (ls2 := [some (.ref 204), some (.int l1), some (.int (I 222 ((l1 + 1).toNatClampNeg))), some (.int (I 222 ((l1 + 2).toNatClampNeg)))]) cd279_102 rfl rfl ?_
        exact g_iret cd279_106 (Or.inl rfl) (by obtain rfl := Option.some.inj h; rfl)
  have h := ifnE hb h
  refine ifi (fun hb => ?_) (fun hb => ?_)
  · have h := ifpE hb h
    show Go _ _ 107 [some (.ref 204), some (.int l1), some (.int (I 222 ((l1 + 1).toNatClampNeg))), some (.int (I 222 ((l1 + 2).toNatClampNeg)))] [] _ _
    refine g_aload_n cd279_107 rfl rfl ?_
    refine g_iload_n cd279_108 rfl rfl ?_
    obtain ⟨x7, hx, h⟩ := bnd h
    refine g_callVZ (L := [some (.ref 204), some (.int (I 222 ((l1 + 1).toNatClampNeg)))]) cd279_109 rfl rfl rfl rfl rfl (OM.o hw) (t_Mod_isHad (by omega) hw hx) ?_
    refine g_if_eq cd279_112 rfl (fun hb => ?_) (fun hb => ?_)
    · have h := ifnE (b2i_f hb) h
      refine g_iconst cd279_119 rfl ?_
      exact g_iret cd279_120 (Or.inl rfl) (by obtain rfl := Option.some.inj h; rfl)
    · have h := ifpE (b2i_t hb) h
      refine g_iconst cd279_115 rfl ?_
      refine g_goto (ls2 := [some (.ref 204), some (.int l1), some (.int (I 222 ((l1 + 1).toNatClampNeg))), some (.int (I 222 ((l1 + 2).toNatClampNeg)))]) cd279_116 rfl rfl ?_
      exact g_iret cd279_120 (Or.inl rfl) (by obtain rfl := Option.some.inj h; rfl)
  have h := ifnE hb h
  refine ifi (fun hb => ?_) (fun hb => ?_)
  · have h := ifpE hb h
    show Go _ _ 107 [some (.ref 204), some (.int l1), some (.int (I 222 ((l1 + 1).toNatClampNeg))), some (.int (I 222 ((l1 + 2).toNatClampNeg)))] [] _ _
    refine g_aload_n cd279_107 rfl rfl ?_
    refine g_iload_n cd279_108 rfl rfl ?_
    obtain ⟨x8, hx, h⟩ := bnd h
    refine g_callVZ (L := [some (.ref 204), some (.int (I 222 ((l1 + 1).toNatClampNeg)))]) cd279_109 rfl rfl rfl rfl rfl (OM.o hw) (t_Mod_isHad (by omega) hw hx) ?_
    refine g_if_eq cd279_112 rfl (fun hb => ?_) (fun hb => ?_)
    · have h := ifnE (b2i_f hb) h
      refine g_iconst cd279_119 rfl ?_
      exact g_iret cd279_120 (Or.inl rfl) (by obtain rfl := Option.some.inj h; rfl)
    · have h := ifpE (b2i_t hb) h
      refine g_iconst cd279_115 rfl ?_
      refine g_goto (ls2 := [some (.ref 204), some (.int l1), some (.int (I 222 ((l1 + 1).toNatClampNeg))), some (.int (I 222 ((l1 + 2).toNatClampNeg)))]) cd279_116 rfl rfl ?_
      exact g_iret cd279_120 (Or.inl rfl) (by obtain rfl := Option.some.inj h; rfl)
  have h := ifnE hb h
  refine ifi (fun hb => ?_) (fun hb => ?_)
  · have h := ifpE hb h
    show Go _ _ 121 [some (.ref 204), some (.int l1), some (.int (I 222 ((l1 + 1).toNatClampNeg))), some (.int (I 222 ((l1 + 2).toNatClampNeg)))] [] _ _
    refine g_aload_n cd279_121 rfl rfl ?_
    refine g_iload_n cd279_122 rfl rfl ?_
    refine g_aload_n cd279_123 rfl rfl ?_
    refine g_getP cd279_124 rfl (OM.o hw) (OM.p37 hw) ?_
    refine g_iload_n cd279_127 rfl rfl ?_
    refine g_iconst cd279_128 rfl ?_
    refine g_iadd cd279_129 rfl ?_
    obtain ⟨hg9, h⟩ := grd h
    refine G_iald cd279_130 rfl (OM.s37 hw) hg9 ?_
    obtain ⟨x10, hx, h⟩ := bnd h
    refine g_callVZ (L := [some (.ref 204), some (.int (I 222 ((l1 + 2).toNatClampNeg))), some (.int (I 222 ((l1 + 3).toNatClampNeg)))]) cd279_131 rfl rfl rfl rfl rfl (OM.o hw) (t_Mod_isCell (by omega) hw hx) ?_
    refine g_if_ne cd279_134 rfl (fun hb => ?_) (fun hb => ?_)
    · have h := ifnE (b2i_f hb) h
      refine g_bipush cd279_137 rfl ?_
      refine g_goto (ls2 := [some (.ref 204), some (.int l1), some (.int (I 222 ((l1 + 1).toNatClampNeg))), some (.int (I 222 ((l1 + 2).toNatClampNeg)))]) cd279_139 rfl rfl ?_
      exact g_iret cd279_155 (Or.inl rfl) (by obtain rfl := Option.some.inj h; rfl)
    · have h := ifpE (b2i_t hb) h
      refine g_aload_n cd279_142 rfl rfl ?_
      refine g_iload_n cd279_143 rfl rfl ?_
      obtain ⟨x11, hx, h⟩ := bnd h
      refine g_callVZ (L := [some (.ref 204), some (.int (I 222 ((l1 + 1).toNatClampNeg)))]) cd279_144 rfl rfl rfl rfl rfl (OM.o hw) (t_Mod_isHad (by omega) hw hx) ?_
      refine g_if_eq cd279_147 rfl (fun hb => ?_) (fun hb => ?_)
      · have h := ifnE (b2i_f hb) h
        refine g_iconst cd279_154 rfl ?_
        exact g_iret cd279_155 (Or.inl rfl) (by obtain rfl := Option.some.inj h; rfl)
      · have h := ifpE (b2i_t hb) h
        refine g_iconst cd279_150 rfl ?_
        refine g_goto (ls2 := [some (.ref 204), some (.int l1), some (.int (I 222 ((l1 + 1).toNatClampNeg))), some (.int (I 222 ((l1 + 2).toNatClampNeg)))]) cd279_151 rfl rfl ?_
        exact g_iret cd279_155 (Or.inl rfl) (by obtain rfl := Option.some.inj h; rfl)
  have h := ifnE hb h
  refine ifi (fun hb => ?_) (fun hb => ?_)
  · have h := ifpE hb h
    show Go _ _ 156 [some (.ref 204), some (.int l1), some (.int (I 222 ((l1 + 1).toNatClampNeg))), some (.int (I 222 ((l1 + 2).toNatClampNeg)))] [] _ _
    refine g_aload_n cd279_156 rfl rfl ?_
    refine g_iload_n cd279_157 rfl rfl ?_
    obtain ⟨x12, hx, h⟩ := bnd h
    refine g_callVZ (L := [some (.ref 204), some (.int (I 222 ((l1 + 1).toNatClampNeg)))]) cd279_158 rfl rfl rfl rfl rfl (OM.o hw) (t_Mod_isHad (by omega) hw hx) ?_
    refine g_if_ne cd279_161 rfl (fun hb => ?_) (fun hb => ?_)
    · have h := ifnE (b2i_f hb) h
      refine g_iconst cd279_164 rfl ?_
      refine g_goto (ls2 := [some (.ref 204), some (.int l1), some (.int (I 222 ((l1 + 1).toNatClampNeg))), some (.int (I 222 ((l1 + 2).toNatClampNeg)))]) cd279_165 rfl rfl ?_
      exact g_iret cd279_187 (Or.inl rfl) (by obtain rfl := Option.some.inj h; rfl)
    · have h := ifpE (b2i_t hb) h
      refine g_aload_n cd279_168 rfl rfl ?_
      refine g_getP cd279_169 rfl (OM.o hw) (OM.p14 hw) ?_
      refine g_sipush cd279_172 rfl ?_
      refine g_iload_n cd279_175 rfl rfl ?_
      refine g_iadd cd279_176 rfl ?_
      obtain ⟨hg13, h⟩ := grd h
      refine G_iald cd279_177 rfl (OM.s14 hw) hg13 ?_
      refine g_iload_n cd279_178 rfl rfl ?_
      refine g_icmp_ne cd279_179 rfl (fun hb => ?_) (fun hb => ?_)
      · have h := ifpE hb h
        refine g_iconst cd279_182 rfl ?_
        refine g_goto (ls2 := [some (.ref 204), some (.int l1), some (.int (I 222 ((l1 + 1).toNatClampNeg))), some (.int (I 222 ((l1 + 2).toNatClampNeg)))]) cd279_183 rfl rfl ?_
        exact g_iret cd279_187 (Or.inl rfl) (by obtain rfl := Option.some.inj h; rfl)
      · have h := ifnE hb h
        refine g_iconst cd279_186 rfl ?_
        exact g_iret cd279_187 (Or.inl rfl) (by obtain rfl := Option.some.inj h; rfl)
  have h := ifnE hb h
  refine ifi (fun hb => ?_) (fun hb => ?_)
  · have h := ifpE hb h
    show Go _ _ 188 [some (.ref 204), some (.int l1), some (.int (I 222 ((l1 + 1).toNatClampNeg))), some (.int (I 222 ((l1 + 2).toNatClampNeg)))] [] _ _
    refine g_aload_n cd279_188 rfl rfl ?_
    refine g_getP cd279_189 rfl (OM.o hw) (OM.p14 hw) ?_
    refine g_iconst cd279_192 rfl ?_
    refine G_iald cd279_193 rfl (OM.s14 hw) (by decide) ?_
    refine g_if_ne cd279_194 rfl (fun hb => ?_) (fun hb => ?_)
    · have h := ifpE hb h
      refine g_bipush cd279_197 rfl ?_
      refine g_goto (ls2 := [some (.ref 204), some (.int l1), some (.int (I 222 ((l1 + 1).toNatClampNeg))), some (.int (I 222 ((l1 + 2).toNatClampNeg)))]) cd279_199 rfl rfl ?_
      exact g_iret cd279_222 (Or.inl rfl) (by obtain rfl := Option.some.inj h; rfl)
    · have h := ifnE hb h
      refine g_aload_n cd279_202 rfl rfl ?_
      refine g_getP cd279_203 rfl (OM.o hw) (OM.p14 hw) ?_
      refine g_bipush cd279_206 rfl ?_
      refine G_iald cd279_208 rfl (OM.s14 hw) (by decide) ?_
      refine g_iload_n cd279_209 rfl rfl ?_
      refine g_iadd cd279_210 rfl ?_
      refine g_sipush cd279_211 rfl ?_
      refine g_icmp_le cd279_214 rfl (fun hb => ?_) (fun hb => ?_)
      · have h := ifpE hb h
        refine g_iconst cd279_221 rfl ?_
        exact g_iret cd279_222 (Or.inl rfl) (by obtain rfl := Option.some.inj h; rfl)
      · have h := ifnE hb h
        refine g_iconst cd279_217 rfl ?_
        refine g_goto (ls2 := [some (.ref 204), some (.int l1), some (.int (I 222 ((l1 + 1).toNatClampNeg))), some (.int (I 222 ((l1 + 2).toNatClampNeg)))]) cd279_218 rfl rfl ?_
        exact g_iret cd279_222 (Or.inl rfl) (by obtain rfl := Option.some.inj h; rfl)
  have h := ifnE hb h
  show Go _ _ 223 [some (.ref 204), some (.int l1), some (.int (I 222 ((l1 + 1).toNatClampNeg))), some (.int (I 222 ((l1 + 2).toNatClampNeg)))] [] _ _
  refine g_iconst cd279_223 rfl ?_
  exact g_iret cd279_224 (Or.inl rfl) (by obtain rfl := Option.some.inj h; rfl)
/-! HiddenOrLostModel.live(I)V -/
theorem cd280_0 : code9 280 0 = some (0, .aload_n 0, [1], .null, []) := rfl
theorem cd280_1 : code9 280 1 = some (0, .getfield 154, [3, 12, 37, 2], .null, []) := rfl
theorem cd280_4 : code9 280 4 = some (0, .iload_n 1, [1], .null, []) := rfl
theorem cd280_5 : code9 280 5 = some (0, .iconst 1, [1], .int 1, []) := rfl
theorem cd280_6 : code9 280 6 = some (0, .iadd, [1], .null, []) := rfl
theorem cd280_7 : code9 280 7 = some (0, .iaload, [1], .null, []) := rfl
theorem cd280_8 : code9 280 8 = some (0, .istore_n 2, [1], .null, []) := rfl
theorem cd280_9 : code9 280 9 = some (0, .aload_n 0, [1], .null, []) := rfl
theorem cd280_10 : code9 280 10 = some (0, .getfield 154, [3, 12, 37, 2], .null, []) := rfl
theorem cd280_13 : code9 280 13 = some (0, .iload_n 1, [1], .null, []) := rfl
theorem cd280_14 : code9 280 14 = some (0, .iconst 2, [1], .int 2, []) := rfl
theorem cd280_15 : code9 280 15 = some (0, .iadd, [1], .null, []) := rfl
theorem cd280_16 : code9 280 16 = some (0, .iaload, [1], .null, []) := rfl
theorem cd280_17 : code9 280 17 = some (0, .istore_n 3, [1], .null, []) := rfl
theorem cd280_18 : code9 280 18 = some (0, .aload_n 0, [1], .null, []) := rfl
theorem cd280_19 : code9 280 19 = some (0, .getfield 154, [3, 12, 37, 2], .null, []) := rfl
theorem cd280_22 : code9 280 22 = some (0, .iload_n 1, [1], .null, []) := rfl
theorem cd280_23 : code9 280 23 = some (0, .iconst 3, [1], .int 3, []) := rfl
theorem cd280_24 : code9 280 24 = some (0, .iadd, [1], .null, []) := rfl
theorem cd280_25 : code9 280 25 = some (0, .iaload, [1], .null, []) := rfl
theorem cd280_26 : code9 280 26 = some (0, .istore 4, [2], .null, []) := rfl
theorem cd280_28 : code9 280 28 = some (0, .aload_n 0, [1], .null, []) := rfl
theorem cd280_29 : code9 280 29 = some (0, .getfield 154, [3, 12, 37, 2], .null, []) := rfl
theorem cd280_32 : code9 280 32 = some (0, .iload_n 1, [1], .null, []) := rfl
theorem cd280_33 : code9 280 33 = some (0, .iaload, [1], .null, []) := rfl
theorem cd280_34 : code9 280 34 = some (0, .tableswitch 95 0 5 #[38, 48, 60, 66, 75, 87], [38, 129], .null, [(0, 72), (1, 82), (2, 94), (3, 100), (4, 109), (5, 121)]) := rfl
theorem cd280_72 : code9 280 72 = some (0, .aload_n 0, [1], .null, []) := rfl
theorem cd280_73 : code9 280 73 = some (0, .iload_n 2, [1], .null, []) := rfl
theorem cd280_74 : code9 280 74 = some (0, .iload_n 3, [1], .null, []) := rfl
theorem cd280_75 : code9 280 75 = some (0, .iload 4, [2], .null, []) := rfl
theorem cd280_77 : code9 280 77 = some (0, .invokevirtual 280, [3, 225, 4, 1, 1, 7, 12, 0], .null, []) := rfl
theorem cd280_80 : code9 280 80 = some (0, .pop, [1], .null, []) := rfl
theorem cd280_81 : code9 280 81 = some (0, .return_, [1], .null, []) := rfl
theorem cd280_82 : code9 280 82 = some (0, .aload_n 0, [1], .null, []) := rfl
theorem cd280_83 : code9 280 83 = some (0, .getfield 98, [3, 12, 14, 2], .null, []) := rfl
theorem cd280_86 : code9 280 86 = some (0, .sipush 135, [3], .int 135, []) := rfl
theorem cd280_89 : code9 280 89 = some (0, .iload_n 2, [1], .null, []) := rfl
theorem cd280_90 : code9 280 90 = some (0, .iadd, [1], .null, []) := rfl
theorem cd280_91 : code9 280 91 = some (0, .iconst 2, [1], .int 2, []) := rfl
theorem cd280_92 : code9 280 92 = some (0, .iastore, [1], .null, []) := rfl
theorem cd280_93 : code9 280 93 = some (0, .return_, [1], .null, []) := rfl
theorem cd280_94 : code9 280 94 = some (0, .aload_n 0, [1], .null, []) := rfl
theorem cd280_95 : code9 280 95 = some (0, .iload_n 2, [1], .null, []) := rfl
theorem cd280_96 : code9 280 96 = some (0, .invokevirtual 287, [3, 229, 2, 1, 0, 2, 12, 0], .null, []) := rfl
theorem cd280_99 : code9 280 99 = some (0, .return_, [1], .null, []) := rfl
theorem cd280_100 : code9 280 100 = some (0, .aload_n 0, [1], .null, []) := rfl
theorem cd280_101 : code9 280 101 = some (0, .iload_n 2, [1], .null, []) := rfl
theorem cd280_102 : code9 280 102 = some (0, .iload_n 3, [1], .null, []) := rfl
theorem cd280_103 : code9 280 103 = some (0, .iload 4, [2], .null, []) := rfl
theorem cd280_105 : code9 280 105 = some (0, .invokevirtual 290, [3, 231, 4, 1, 0, 4, 12, 0], .null, []) := rfl
theorem cd280_108 : code9 280 108 = some (0, .return_, [1], .null, []) := rfl
theorem cd280_109 : code9 280 109 = some (0, .aload_n 0, [1], .null, []) := rfl
theorem cd280_110 : code9 280 110 = some (0, .getfield 98, [3, 12, 14, 2], .null, []) := rfl
theorem cd280_113 : code9 280 113 = some (0, .sipush 145, [3], .int 145, []) := rfl
theorem cd280_116 : code9 280 116 = some (0, .iload_n 2, [1], .null, []) := rfl
theorem cd280_117 : code9 280 117 = some (0, .iadd, [1], .null, []) := rfl
theorem cd280_118 : code9 280 118 = some (0, .iload_n 3, [1], .null, []) := rfl
theorem cd280_119 : code9 280 119 = some (0, .iastore, [1], .null, []) := rfl
theorem cd280_120 : code9 280 120 = some (0, .return_, [1], .null, []) := rfl
theorem cd280_121 : code9 280 121 = some (0, .aload_n 0, [1], .null, []) := rfl
theorem cd280_122 : code9 280 122 = some (0, .iload_n 3, [1], .null, []) := rfl
theorem cd280_123 : code9 280 123 = some (0, .iload_n 3, [1], .null, []) := rfl
theorem cd280_124 : code9 280 124 = some (0, .invokevirtual 303, [3, 238, 3, 1, 1, 5, 12, 0], .null, []) := rfl
theorem cd280_127 : code9 280 127 = some (0, .pop, [1], .null, []) := rfl
theorem cd280_128 : code9 280 128 = some (0, .return_, [1], .null, []) := rfl
theorem cd280_129 : code9 280 129 = some (0, .aload_n 0, [1], .null, []) := rfl
theorem cd280_130 : code9 280 130 = some (0, .iload_n 3, [1], .null, []) := rfl
theorem cd280_131 : code9 280 131 = some (0, .putfield 267, [3, 12, 25, 0], .null, []) := rfl
theorem cd280_134 : code9 280 134 = some (0, .aload_n 0, [1], .null, []) := rfl
theorem cd280_135 : code9 280 135 = some (0, .invokevirtual 294, [3, 234, 1, 1, 1, 6, 12, 0], .null, []) := rfl
theorem cd280_138 : code9 280 138 = some (0, .pop, [1], .null, []) := rfl
theorem cd280_139 : code9 280 139 = some (0, .return_, [1], .null, []) := rfl
def Mod_live (N : Nat) (l1 : Int32) (I : FI) : Option (FI) := if in9 (l1 + 1) 160 then (if in9 (l1 + 2) 160 then (if in9 (l1 + 3) 160 then (if in9 l1 160 then (if (I 222 l1.toNatClampNeg) = 0 then (Option.bind (Mod_doDig N (I 222 ((l1 + 1).toNatClampNeg)) (I 222 ((l1 + 2).toNatClampNeg)) (I 222 ((l1 + 3).toNatClampNeg)) I) fun x5 => (some x5.2)) else (if (I 222 l1.toNatClampNeg) = 1 then (if in9 (135 + (I 222 ((l1 + 1).toNatClampNeg))) 451 then (Option.bind (some (up2 I 206 ((135 + (I 222 ((l1 + 1).toNatClampNeg))).toNatClampNeg) (2 : Int32))) fun I7 => (some I7)) else none) else (if (I 222 l1.toNatClampNeg) = 2 then (Option.bind (Mod_doSell (I 222 ((l1 + 1).toNatClampNeg)) I) fun x8 => (some x8)) else (if (I 222 l1.toNatClampNeg) = 3 then (Option.bind (Mod_doLay (I 222 ((l1 + 1).toNatClampNeg)) (I 222 ((l1 + 2).toNatClampNeg)) (I 222 ((l1 + 3).toNatClampNeg)) I) fun x9 => (some x9)) else (if (I 222 l1.toNatClampNeg) = 4 then (if in9 (145 + (I 222 ((l1 + 1).toNatClampNeg))) 451 then (Option.bind (some (up2 I 206 ((145 + (I 222 ((l1 + 1).toNatClampNeg))).toNatClampNeg) (I 222 ((l1 + 2).toNatClampNeg)))) fun I11 => (some I11)) else none) else (if (I 222 l1.toNatClampNeg) = 5 then (Option.bind (Mod_passNights N (I 222 ((l1 + 2).toNatClampNeg)) (I 222 ((l1 + 2).toNatClampNeg)) I) fun x12 => (some x12.2)) else (Option.bind (some (up2 I 204 25 (I 222 ((l1 + 2).toNatClampNeg)))) fun I13 => (Option.bind (Mod_doPlough N I13) fun x14 => (some x14.2))))))))) else none) else none) else none) else none
set_option maxRecDepth 8000 in
theorem t_Mod_live {d : Nat} {N : Nat} {c : Nat × Nat} {S : Nat → Nat × Nat} {P : Nat → Nat → Option Nat} {I : FI} {J : FJ} {l1 : Int32} {r : FI} (hd : 3 ≤ d) (hw : OM S P) (h : Mod_live N l1 I = some r) : Go d M_Mod_live 0 [some (.ref 204), some (.int l1), none, none, none] [] (c, S, I, J, P) (none, false, (c, S, r, J, P)) := by
  obtain ⟨d, rfl⟩ : ∃ e, d = e + 1 := ⟨d - 1, by omega⟩
  unfold Mod_live at h
  refine g_aload_n cd280_0 rfl rfl ?_
  refine g_getP cd280_1 rfl (OM.o hw) (OM.p37 hw) ?_
  refine g_iload_n cd280_4 rfl rfl ?_
  refine g_iconst cd280_5 rfl ?_
  refine g_iadd cd280_6 rfl ?_
  obtain ⟨hg1, h⟩ := grd h
  refine G_iald cd280_7 rfl (OM.s37 hw) hg1 ?_
  refine g_istore_n (ls2 := [some (.ref 204), some (.int l1), some (.int (I 222 ((l1 + 1).toNatClampNeg))), none, none]) cd280_8 rfl rfl ?_
  refine g_aload_n cd280_9 rfl rfl ?_
  refine g_getP cd280_10 rfl (OM.o hw) (OM.p37 hw) ?_
  refine g_iload_n cd280_13 rfl rfl ?_
  refine g_iconst cd280_14 rfl ?_
  refine g_iadd cd280_15 rfl ?_
  obtain ⟨hg2, h⟩ := grd h
  refine G_iald cd280_16 rfl (OM.s37 hw) hg2 ?_
  refine g_istore_n (ls2 := [some (.ref 204), some (.int l1), some (.int (I 222 ((l1 + 1).toNatClampNeg))), some (.int (I 222 ((l1 + 2).toNatClampNeg))), none]) cd280_17 rfl rfl ?_
  refine g_aload_n cd280_18 rfl rfl ?_
  refine g_getP cd280_19 rfl (OM.o hw) (OM.p37 hw) ?_
  refine g_iload_n cd280_22 rfl rfl ?_
  refine g_iconst cd280_23 rfl ?_
  refine g_iadd cd280_24 rfl ?_
  obtain ⟨hg3, h⟩ := grd h
  refine G_iald cd280_25 rfl (OM.s37 hw) hg3 ?_
  refine g_istore (ls2 := [some (.ref 204), some (.int l1), some (.int (I 222 ((l1 + 1).toNatClampNeg))), some (.int (I 222 ((l1 + 2).toNatClampNeg))), some (.int (I 222 ((l1 + 3).toNatClampNeg)))]) cd280_26 rfl rfl ?_
  refine g_aload_n cd280_28 rfl rfl ?_
  refine g_getP cd280_29 rfl (OM.o hw) (OM.p37 hw) ?_
  refine g_iload_n cd280_32 rfl rfl ?_
  obtain ⟨hg4, h⟩ := grd h
  refine G_iald cd280_33 rfl (OM.s37 hw) hg4 ?_
  refine g_tableswitch cd280_34 rfl ?_
  refine ifi (fun hb => ?_) (fun hb => ?_)
  · have h := ifpE hb h
    show Go _ _ 72 [some (.ref 204), some (.int l1), some (.int (I 222 ((l1 + 1).toNatClampNeg))), some (.int (I 222 ((l1 + 2).toNatClampNeg))), some (.int (I 222 ((l1 + 3).toNatClampNeg)))] [] _ _
    refine g_aload_n cd280_72 rfl rfl ?_
    refine g_iload_n cd280_73 rfl rfl ?_
    refine g_iload_n cd280_74 rfl rfl ?_
    refine g_iload cd280_75 rfl rfl ?_
    obtain ⟨x5, hx, h⟩ := bnd h
    refine g_callVI (L := [some (.ref 204), some (.int (I 222 ((l1 + 1).toNatClampNeg))), some (.int (I 222 ((l1 + 2).toNatClampNeg))), some (.int (I 222 ((l1 + 3).toNatClampNeg))), none, none, none]) cd280_77 rfl rfl rfl rfl rfl (OM.o hw) (t_Mod_doDig (by omega) hw hx) ?_
    refine g_popI cd280_80 rfl ?_
    exact g_vret cd280_81 (by obtain rfl := Option.some.inj h; rfl)
  have h := ifnE hb h
  refine ifi (fun hb => ?_) (fun hb => ?_)
  · have h := ifpE hb h
    show Go _ _ 82 [some (.ref 204), some (.int l1), some (.int (I 222 ((l1 + 1).toNatClampNeg))), some (.int (I 222 ((l1 + 2).toNatClampNeg))), some (.int (I 222 ((l1 + 3).toNatClampNeg)))] [] _ _
    refine g_aload_n cd280_82 rfl rfl ?_
    refine g_getP cd280_83 rfl (OM.o hw) (OM.p14 hw) ?_
    refine g_sipush cd280_86 rfl ?_
    refine g_iload_n cd280_89 rfl rfl ?_
    refine g_iadd cd280_90 rfl ?_
    refine g_iconst cd280_91 rfl ?_
    obtain ⟨hg6, h⟩ := grd h
    obtain ⟨I7, e1, h⟩ := bnd h
    refine G_iast cd280_92 rfl (OM.s14 hw) hg6 (Option.some.inj e1) ?_
    exact g_vret cd280_93 (by obtain rfl := Option.some.inj h; rfl)
  have h := ifnE hb h
  refine ifi (fun hb => ?_) (fun hb => ?_)
  · have h := ifpE hb h
    show Go _ _ 94 [some (.ref 204), some (.int l1), some (.int (I 222 ((l1 + 1).toNatClampNeg))), some (.int (I 222 ((l1 + 2).toNatClampNeg))), some (.int (I 222 ((l1 + 3).toNatClampNeg)))] [] _ _
    refine g_aload_n cd280_94 rfl rfl ?_
    refine g_iload_n cd280_95 rfl rfl ?_
    obtain ⟨x8, hx, h⟩ := bnd h
    refine g_callVV (L := [some (.ref 204), some (.int (I 222 ((l1 + 1).toNatClampNeg)))]) cd280_96 rfl rfl rfl rfl rfl (OM.o hw) (t_Mod_doSell (by omega) hw hx) ?_
    exact g_vret cd280_99 (by obtain rfl := Option.some.inj h; rfl)
  have h := ifnE hb h
  refine ifi (fun hb => ?_) (fun hb => ?_)
  · have h := ifpE hb h
    show Go _ _ 100 [some (.ref 204), some (.int l1), some (.int (I 222 ((l1 + 1).toNatClampNeg))), some (.int (I 222 ((l1 + 2).toNatClampNeg))), some (.int (I 222 ((l1 + 3).toNatClampNeg)))] [] _ _
    refine g_aload_n cd280_100 rfl rfl ?_
    refine g_iload_n cd280_101 rfl rfl ?_
    refine g_iload_n cd280_102 rfl rfl ?_
    refine g_iload cd280_103 rfl rfl ?_
    obtain ⟨x9, hx, h⟩ := bnd h
    refine g_callVV (L := [some (.ref 204), some (.int (I 222 ((l1 + 1).toNatClampNeg))), some (.int (I 222 ((l1 + 2).toNatClampNeg))), some (.int (I 222 ((l1 + 3).toNatClampNeg)))]) cd280_105 rfl rfl rfl rfl rfl (OM.o hw) (t_Mod_doLay (by omega) hw hx) ?_
    exact g_vret cd280_108 (by obtain rfl := Option.some.inj h; rfl)
  have h := ifnE hb h
  refine ifi (fun hb => ?_) (fun hb => ?_)
  · have h := ifpE hb h
    show Go _ _ 109 [some (.ref 204), some (.int l1), some (.int (I 222 ((l1 + 1).toNatClampNeg))), some (.int (I 222 ((l1 + 2).toNatClampNeg))), some (.int (I 222 ((l1 + 3).toNatClampNeg)))] [] _ _
    refine g_aload_n cd280_109 rfl rfl ?_
    refine g_getP cd280_110 rfl (OM.o hw) (OM.p14 hw) ?_
    refine g_sipush cd280_113 rfl ?_
    refine g_iload_n cd280_116 rfl rfl ?_
    refine g_iadd cd280_117 rfl ?_
    refine g_iload_n cd280_118 rfl rfl ?_
    obtain ⟨hg10, h⟩ := grd h
    obtain ⟨I11, e1, h⟩ := bnd h
    refine G_iast cd280_119 rfl (OM.s14 hw) hg10 (Option.some.inj e1) ?_
    exact g_vret cd280_120 (by obtain rfl := Option.some.inj h; rfl)
  have h := ifnE hb h
  refine ifi (fun hb => ?_) (fun hb => ?_)
  · have h := ifpE hb h
    show Go _ _ 121 [some (.ref 204), some (.int l1), some (.int (I 222 ((l1 + 1).toNatClampNeg))), some (.int (I 222 ((l1 + 2).toNatClampNeg))), some (.int (I 222 ((l1 + 3).toNatClampNeg)))] [] _ _
    refine g_aload_n cd280_121 rfl rfl ?_
    refine g_iload_n cd280_122 rfl rfl ?_
    refine g_iload_n cd280_123 rfl rfl ?_
    obtain ⟨x12, hx, h⟩ := bnd h
    refine g_callVI (L := [some (.ref 204), some (.int (I 222 ((l1 + 2).toNatClampNeg))), some (.int (I 222 ((l1 + 2).toNatClampNeg))), none, none]) cd280_124 rfl rfl rfl rfl rfl (OM.o hw) (t_Mod_passNights (by omega) hw hx) ?_
    refine g_popI cd280_127 rfl ?_
    exact g_vret cd280_128 (by obtain rfl := Option.some.inj h; rfl)
  have h := ifnE hb h
  show Go _ _ 129 [some (.ref 204), some (.int l1), some (.int (I 222 ((l1 + 1).toNatClampNeg))), some (.int (I 222 ((l1 + 2).toNatClampNeg))), some (.int (I 222 ((l1 + 3).toNatClampNeg)))] [] _ _
  refine g_aload_n cd280_129 rfl rfl ?_
  refine g_iload_n cd280_130 rfl rfl ?_
  obtain ⟨I13, e1, h⟩ := bnd h
  refine G_putI cd280_131 rfl (OM.o hw) (Option.some.inj e1) ?_
  refine g_aload_n cd280_134 rfl rfl ?_
  obtain ⟨x14, hx, h⟩ := bnd h
  refine g_callVI (L := [some (.ref 204), none, none, none, none, none]) cd280_135 rfl rfl rfl rfl rfl (OM.o hw) (t_Mod_doPlough (by omega) hw hx) ?_
  refine g_popI cd280_138 rfl ?_
  exact g_vret cd280_139 (by obtain rfl := Option.some.inj h; rfl)
/-! HiddenOrLostModel.stay(Z)V -/
theorem cd281_0 : code9 281 0 = some (0, .iconst 0, [1], .int 0, []) := rfl
theorem cd281_1 : code9 281 1 = some (0, .istore_n 2, [1], .null, []) := rfl
theorem cd281_2 : code9 281 2 = some (4, .iload_n 2, [1], .null, []) := rfl
theorem cd281_3 : code9 281 3 = some (0, .bipush 107, [2], .int 107, []) := rfl
theorem cd281_5 : code9 281 5 = some (0, .if_icmp .ge 41, [3, 46], .null, []) := rfl
theorem cd281_8 : code9 281 8 = some (0, .aload_n 0, [1], .null, []) := rfl
theorem cd281_9 : code9 281 9 = some (0, .getfield 98, [3, 12, 14, 2], .null, []) := rfl
theorem cd281_12 : code9 281 12 = some (0, .bipush 102, [2], .int 102, []) := rfl
theorem cd281_14 : code9 281 14 = some (0, .iload_n 2, [1], .null, []) := rfl
theorem cd281_15 : code9 281 15 = some (0, .iadd, [1], .null, []) := rfl
theorem cd281_16 : code9 281 16 = some (0, .iaload, [1], .null, []) := rfl
theorem cd281_17 : code9 281 17 = some (0, .istore_n 3, [1], .null, []) := rfl
theorem cd281_18 : code9 281 18 = some (0, .aload_n 0, [1], .null, []) := rfl
theorem cd281_19 : code9 281 19 = some (0, .getfield 98, [3, 12, 14, 2], .null, []) := rfl
theorem cd281_22 : code9 281 22 = some (0, .bipush 102, [2], .int 102, []) := rfl
theorem cd281_24 : code9 281 24 = some (0, .iload_n 2, [1], .null, []) := rfl
theorem cd281_25 : code9 281 25 = some (0, .iadd, [1], .null, []) := rfl
theorem cd281_26 : code9 281 26 = some (0, .aload_n 0, [1], .null, []) := rfl
theorem cd281_27 : code9 281 27 = some (0, .getfield 110, [3, 12, 18, 2], .null, []) := rfl
theorem cd281_30 : code9 281 30 = some (0, .iload_n 2, [1], .null, []) := rfl
theorem cd281_31 : code9 281 31 = some (0, .iaload, [1], .null, []) := rfl
theorem cd281_32 : code9 281 32 = some (0, .iastore, [1], .null, []) := rfl
theorem cd281_33 : code9 281 33 = some (0, .aload_n 0, [1], .null, []) := rfl
theorem cd281_34 : code9 281 34 = some (0, .getfield 110, [3, 12, 18, 2], .null, []) := rfl
theorem cd281_37 : code9 281 37 = some (0, .iload_n 2, [1], .null, []) := rfl
theorem cd281_38 : code9 281 38 = some (0, .iload_n 3, [1], .null, []) := rfl
theorem cd281_39 : code9 281 39 = some (0, .iastore, [1], .null, []) := rfl
theorem cd281_40 : code9 281 40 = some (0, .iinc 2 1, [3], .int 1, []) := rfl
theorem cd281_43 : code9 281 43 = some (0, .goto (-41), [3, 2, 3], .null, []) := rfl
theorem cd281_46 : code9 281 46 = some (0, .iload_n 1, [1], .null, []) := rfl
theorem cd281_47 : code9 281 47 = some (0, .ifCond .ne 4, [3, 51], .null, []) := rfl
theorem cd281_50 : code9 281 50 = some (0, .return_, [1], .null, []) := rfl
theorem cd281_51 : code9 281 51 = some (0, .aload_n 0, [1], .null, []) := rfl
theorem cd281_52 : code9 281 52 = some (0, .invokevirtual 277, [3, 224, 1, 1, 0, 2, 12, 0], .null, []) := rfl
theorem cd281_55 : code9 281 55 = some (0, .aload_n 0, [1], .null, []) := rfl
theorem cd281_56 : code9 281 56 = some (0, .invokevirtual 348, [3, 260, 1, 1, 0, 2, 12, 0], .null, []) := rfl
theorem cd281_59 : code9 281 59 = some (0, .return_, [1], .null, []) := rfl
def Mod_stay_2 (N : Nat) (b1 : Bool) : Nat → Int32 → FI → Option (FI)
  | 0 => fun _ _ => none
  | n + 1 => fun l2 I => if 107 ≤ l2 then (if b1 then (Option.bind (Mod_snap N I) fun x1 => (Option.bind (Mod_takeBack N x1) fun x2 => (some x2))) else (some I)) else (if in9 (102 + l2) 451 then (if in9 l2 107 then (Option.bind (some (up2 I 206 ((102 + l2).toNatClampNeg) (I 210 l2.toNatClampNeg))) fun I5 => (Option.bind (some (up2 I5 210 l2.toNatClampNeg (I 206 ((102 + l2).toNatClampNeg)))) fun I6 => (Mod_stay_2 N b1 n (l2 + 1) I6))) else none) else none)
def Mod_stay (N : Nat) (b1 : Bool) (I : FI) : Option (FI) := Mod_stay_2 N b1 N 0 I
set_option maxRecDepth 8000 in
theorem t_Mod_stay_2 {d : Nat} {N : Nat} {c : Nat × Nat} {S : Nat → Nat × Nat} {P : Nat → Nat → Option Nat} {b1 : Bool} {r : FI} (hd : 1 ≤ (d + 1)) (hw : OM S P) : ∀ (n : Nat) (l2 : Int32) (I : FI) (J : FJ), Mod_stay_2 N b1 n l2 I = some r → Go (d + 1) M_Mod_stay 2 [some (.ref 204), some (.int (b2i b1)), some (.int l2), none] [] (c, S, I, J, P) (none, false, (c, S, r, J, P)) := by
  intro n
  induction n with
  | zero =>
    intro l2 I J h
    cases h
  | succ n ih =>
    intro l2 I J h
    unfold Mod_stay_2 at h
    refine g_iload_n cd281_2 rfl rfl ?_
    refine g_bipush cd281_3 rfl ?_
    refine g_icmp_ge cd281_5 rfl (fun hb => ?_) (fun hb => ?_)
    · have h := ifpE hb h
      refine g_iload_n cd281_46 rfl rfl ?_
      refine g_if_ne cd281_47 rfl (fun hb => ?_) (fun hb => ?_)
      · have h := ifnE (b2i_f hb) h
        exact g_vret cd281_50 (by obtain rfl := Option.some.inj h; rfl)
      · have h := ifpE (b2i_t hb) h
        refine g_aload_n cd281_51 rfl rfl ?_
        obtain ⟨x1, hx, h⟩ := bnd h
        refine g_callVV (L := [some (.ref 204), none]) cd281_52 rfl rfl rfl rfl rfl (OM.o hw) (t_Mod_snap (by omega) hw hx) ?_
        refine g_aload_n cd281_55 rfl rfl ?_
        obtain ⟨x2, hx, h⟩ := bnd h
        refine g_callVV (L := [some (.ref 204), none]) cd281_56 rfl rfl rfl rfl rfl (OM.o hw) (t_Mod_takeBack (by omega) hw hx) ?_
        exact g_vret cd281_59 (by obtain rfl := Option.some.inj h; rfl)
    · have h := ifnE hb h
      refine g_aload_n cd281_8 rfl rfl ?_
      refine g_getP cd281_9 rfl (OM.o hw) (OM.p14 hw) ?_
      refine g_bipush cd281_12 rfl ?_
      refine g_iload_n cd281_14 rfl rfl ?_
      refine g_iadd cd281_15 rfl ?_
      obtain ⟨hg3, h⟩ := grd h
      refine G_iald cd281_16 rfl (OM.s14 hw) hg3 ?_
      refine g_istore_n (ls2 := [some (.ref 204), some (.int (b2i b1)), some (.int l2), some (.int (I 206 ((102 + l2).toNatClampNeg)))]) cd281_17 rfl rfl ?_
      refine g_aload_n cd281_18 rfl rfl ?_
      refine g_getP cd281_19 rfl (OM.o hw) (OM.p14 hw) ?_
      refine g_bipush cd281_22 rfl ?_
      refine g_iload_n cd281_24 rfl rfl ?_
      refine g_iadd cd281_25 rfl ?_
      refine g_aload_n cd281_26 rfl rfl ?_
      refine g_getP cd281_27 rfl (OM.o hw) (OM.p18 hw) ?_
      refine g_iload_n cd281_30 rfl rfl ?_
      obtain ⟨hg4, h⟩ := grd h
      refine G_iald cd281_31 rfl (OM.s18 hw) hg4 ?_
      obtain ⟨I5, e1, h⟩ := bnd h
      refine G_iast cd281_32 rfl (OM.s14 hw) hg3 (Option.some.inj e1) ?_
      refine g_aload_n cd281_33 rfl rfl ?_
      refine g_getP cd281_34 rfl (OM.o hw) (OM.p18 hw) ?_
      refine g_iload_n cd281_37 rfl rfl ?_
      refine g_iload_n cd281_38 rfl rfl ?_
      obtain ⟨I6, e1, h⟩ := bnd h
      refine G_iast cd281_39 rfl (OM.s18 hw) hg4 (Option.some.inj e1) ?_
      refine g_iinc (ls2 := [some (.ref 204), some (.int (b2i b1)), some (.int (l2 + 1)), some (.int (I 206 ((102 + l2).toNatClampNeg)))]) cd281_40 rfl rfl rfl ?_
      refine g_goto (ls2 := [some (.ref 204), some (.int (b2i b1)), some (.int (l2 + 1)), none]) cd281_43 rfl rfl ?_
      exact ih (l2 + 1) I6 J h
set_option maxRecDepth 8000 in
theorem t_Mod_stay {d : Nat} {N : Nat} {c : Nat × Nat} {S : Nat → Nat × Nat} {P : Nat → Nat → Option Nat} {I : FI} {J : FJ} {b1 : Bool} {r : FI} (hd : 1 ≤ d) (hw : OM S P) (h : Mod_stay N b1 I = some r) : Go d M_Mod_stay 0 [some (.ref 204), some (.int (b2i b1)), none, none] [] (c, S, I, J, P) (none, false, (c, S, r, J, P)) := by
  obtain ⟨d, rfl⟩ : ∃ e, d = e + 1 := ⟨d - 1, by omega⟩
  unfold Mod_stay at h
  refine g_iconst cd281_0 rfl ?_
  refine g_istore_n (ls2 := [some (.ref 204), some (.int (b2i b1)), some (.int 0), none]) cd281_1 rfl rfl ?_
  exact t_Mod_stay_2 hd hw _ 0 I J h
/-! HiddenOrLostModel.book(I)I -/
theorem cd274_0 : code9 274 0 = some (0, .aload_n 0, [1], .null, []) := rfl
theorem cd274_1 : code9 274 1 = some (0, .iconst 0, [1], .int 0, []) := rfl
theorem cd274_2 : code9 274 2 = some (0, .putfield 1, [3, 12, 0, 0], .null, []) := rfl
theorem cd274_5 : code9 274 5 = some (0, .iload_n 1, [1], .null, []) := rfl
theorem cd274_6 : code9 274 6 = some (0, .iconst 0, [1], .int 0, []) := rfl
theorem cd274_7 : code9 274 7 = some (0, .iconst 1, [1], .int 1, []) := rfl
theorem cd274_8 : code9 274 8 = some (0, .invokestatic 75, [3, 191, 3, 0, 3, 3, 12, 0], .null, []) := rfl
theorem cd274_11 : code9 274 11 = some (0, .ifCond .ne 7, [3, 18], .null, []) := rfl
theorem cd274_14 : code9 274 14 = some (0, .sipush (-1000), [3], .int (-1000), []) := rfl
theorem cd274_17 : code9 274 17 = some (0, .ireturn, [1, 1], .null, []) := rfl
theorem cd274_18 : code9 274 18 = some (0, .aload_n 0, [1], .null, []) := rfl
theorem cd274_19 : code9 274 19 = some (0, .sipush 400, [3], .int 400, []) := rfl
theorem cd274_22 : code9 274 22 = some (0, .invokevirtual 224, [3, 177, 2, 1, 0, 2, 12, 0], .null, []) := rfl
theorem cd274_25 : code9 274 25 = some (0, .aload_n 0, [1], .null, []) := rfl
theorem cd274_26 : code9 274 26 = some (0, .iconst 0, [1], .int 0, []) := rfl
theorem cd274_27 : code9 274 27 = some (0, .putfield 374, [3, 12, 39, 0], .null, []) := rfl
theorem cd274_30 : code9 274 30 = some (3, .aload_n 0, [1], .null, []) := rfl
theorem cd274_31 : code9 274 31 = some (0, .getfield 30, [3, 12, 7, 0], .null, []) := rfl
theorem cd274_34 : code9 274 34 = some (0, .ifCond .eq 31, [3, 65], .null, []) := rfl
theorem cd274_37 : code9 274 37 = some (0, .aload_n 0, [1], .null, []) := rfl
theorem cd274_38 : code9 274 38 = some (0, .invokevirtual 380, [3, 275, 1, 1, 3, 1, 12, 0], .null, []) := rfl
theorem cd274_41 : code9 274 41 = some (0, .ifCond .ne 11, [3, 52], .null, []) := rfl
theorem cd274_44 : code9 274 44 = some (0, .bipush (-2), [2], .int (-2), []) := rfl
theorem cd274_46 : code9 274 46 = some (0, .aload_n 0, [1], .null, []) := rfl
theorem cd274_47 : code9 274 47 = some (0, .getfield 69, [3, 12, 11, 0], .null, []) := rfl
theorem cd274_50 : code9 274 50 = some (0, .isub, [1], .null, []) := rfl
theorem cd274_51 : code9 274 51 = some (0, .ireturn, [1, 1], .null, []) := rfl
theorem cd274_52 : code9 274 52 = some (0, .aload_n 0, [1], .null, []) := rfl
theorem cd274_53 : code9 274 53 = some (0, .dup, [1], .null, []) := rfl
theorem cd274_54 : code9 274 54 = some (0, .getfield 374, [3, 12, 39, 0], .null, []) := rfl
theorem cd274_57 : code9 274 57 = some (0, .iconst 1, [1], .int 1, []) := rfl
theorem cd274_58 : code9 274 58 = some (0, .iadd, [1], .null, []) := rfl
theorem cd274_59 : code9 274 59 = some (0, .putfield 374, [3, 12, 39, 0], .null, []) := rfl
theorem cd274_62 : code9 274 62 = some (0, .goto (-32), [3, 30, 2], .null, []) := rfl
theorem cd274_65 : code9 274 65 = some (0, .aload_n 0, [1], .null, []) := rfl
theorem cd274_66 : code9 274 66 = some (0, .invokevirtual 345, [3, 259, 1, 1, 0, 2, 12, 0], .null, []) := rfl
theorem cd274_69 : code9 274 69 = some (0, .iconst 0, [1], .int 0, []) := rfl
theorem cd274_70 : code9 274 70 = some (0, .istore_n 2, [1], .null, []) := rfl
theorem cd274_71 : code9 274 71 = some (0, .iconst 0, [1], .int 0, []) := rfl
theorem cd274_72 : code9 274 72 = some (0, .istore_n 3, [1], .null, []) := rfl
theorem cd274_73 : code9 274 73 = some (5, .iload_n 2, [1], .null, []) := rfl
theorem cd274_74 : code9 274 74 = some (0, .aload_n 0, [1], .null, []) := rfl
theorem cd274_75 : code9 274 75 = some (0, .getfield 374, [3, 12, 39, 0], .null, []) := rfl
theorem cd274_78 : code9 274 78 = some (0, .if_icmp .ge 49, [3, 127], .null, []) := rfl
theorem cd274_81 : code9 274 81 = some (0, .iload_n 3, [1], .null, []) := rfl
theorem cd274_82 : code9 274 82 = some (0, .ifCond .ne 45, [3, 127], .null, []) := rfl
theorem cd274_85 : code9 274 85 = some (0, .aload_n 0, [1], .null, []) := rfl
theorem cd274_86 : code9 274 86 = some (0, .iconst 4, [1], .int 4, []) := rfl
theorem cd274_87 : code9 274 87 = some (0, .iload_n 2, [1], .null, []) := rfl
theorem cd274_88 : code9 274 88 = some (0, .imul, [1], .null, []) := rfl
theorem cd274_89 : code9 274 89 = some (0, .invokevirtual 383, [3, 279, 2, 1, 1, 4, 12, 0], .null, []) := rfl
theorem cd274_92 : code9 274 92 = some (0, .istore_n 3, [1], .null, []) := rfl
theorem cd274_93 : code9 274 93 = some (0, .iload_n 3, [1], .null, []) := rfl
theorem cd274_94 : code9 274 94 = some (0, .ifCond .eq 20, [3, 114], .null, []) := rfl
theorem cd274_97 : code9 274 97 = some (0, .iload_n 3, [1], .null, []) := rfl
theorem cd274_98 : code9 274 98 = some (0, .bipush 10, [2], .int 10, []) := rfl
theorem cd274_100 : code9 274 100 = some (0, .aload_n 0, [1], .null, []) := rfl
theorem cd274_101 : code9 274 101 = some (0, .getfield 154, [3, 12, 37, 2], .null, []) := rfl
theorem cd274_104 : code9 274 104 = some (0, .iconst 4, [1], .int 4, []) := rfl
theorem cd274_105 : code9 274 105 = some (0, .iload_n 2, [1], .null, []) := rfl
theorem cd274_106 : code9 274 106 = some (0, .imul, [1], .null, []) := rfl
theorem cd274_107 : code9 274 107 = some (0, .iaload, [1], .null, []) := rfl
theorem cd274_108 : code9 274 108 = some (0, .imul, [1], .null, []) := rfl
theorem cd274_109 : code9 274 109 = some (0, .iadd, [1], .null, []) := rfl
theorem cd274_110 : code9 274 110 = some (0, .istore_n 3, [1], .null, []) := rfl
theorem cd274_111 : code9 274 111 = some (0, .goto (-38), [3, 73, 4], .null, []) := rfl
theorem cd274_114 : code9 274 114 = some (0, .aload_n 0, [1], .null, []) := rfl
theorem cd274_115 : code9 274 115 = some (0, .iconst 4, [1], .int 4, []) := rfl
theorem cd274_116 : code9 274 116 = some (0, .iload_n 2, [1], .null, []) := rfl
theorem cd274_117 : code9 274 117 = some (0, .imul, [1], .null, []) := rfl
theorem cd274_118 : code9 274 118 = some (0, .invokevirtual 386, [3, 280, 2, 1, 0, 5, 12, 0], .null, []) := rfl
theorem cd274_121 : code9 274 121 = some (0, .iinc 2 1, [3], .int 1, []) := rfl
theorem cd274_124 : code9 274 124 = some (0, .goto (-51), [3, 73, 4], .null, []) := rfl
theorem cd274_127 : code9 274 127 = some (5, .aload_n 0, [1], .null, []) := rfl
theorem cd274_128 : code9 274 128 = some (0, .getfield 157, [3, 12, 38, 2], .null, []) := rfl
theorem cd274_131 : code9 274 131 = some (0, .iconst 0, [1], .int 0, []) := rfl
theorem cd274_132 : code9 274 132 = some (0, .iload_n 3, [1], .null, []) := rfl
theorem cd274_133 : code9 274 133 = some (0, .iastore, [1], .null, []) := rfl
theorem cd274_134 : code9 274 134 = some (0, .aload_n 0, [1], .null, []) := rfl
theorem cd274_135 : code9 274 135 = some (0, .getfield 157, [3, 12, 38, 2], .null, []) := rfl
theorem cd274_138 : code9 274 138 = some (0, .iconst 1, [1], .int 1, []) := rfl
theorem cd274_139 : code9 274 139 = some (0, .iload_n 2, [1], .null, []) := rfl
theorem cd274_140 : code9 274 140 = some (0, .iastore, [1], .null, []) := rfl
theorem cd274_141 : code9 274 141 = some (0, .aload_n 0, [1], .null, []) := rfl
theorem cd274_142 : code9 274 142 = some (0, .getfield 157, [3, 12, 38, 2], .null, []) := rfl
theorem cd274_145 : code9 274 145 = some (0, .iconst 2, [1], .int 2, []) := rfl
theorem cd274_146 : code9 274 146 = some (0, .aload_n 0, [1], .null, []) := rfl
theorem cd274_147 : code9 274 147 = some (0, .getfield 98, [3, 12, 14, 2], .null, []) := rfl
theorem cd274_150 : code9 274 150 = some (0, .bipush 102, [2], .int 102, []) := rfl
theorem cd274_152 : code9 274 152 = some (0, .iaload, [1], .null, []) := rfl
theorem cd274_153 : code9 274 153 = some (0, .iastore, [1], .null, []) := rfl
theorem cd274_154 : code9 274 154 = some (0, .aload_n 0, [1], .null, []) := rfl
theorem cd274_155 : code9 274 155 = some (0, .getfield 157, [3, 12, 38, 2], .null, []) := rfl
theorem cd274_158 : code9 274 158 = some (0, .iconst 3, [1], .int 3, []) := rfl
theorem cd274_159 : code9 274 159 = some (0, .aload_n 0, [1], .null, []) := rfl
theorem cd274_160 : code9 274 160 = some (0, .iconst 2, [1], .int 2, []) := rfl
theorem cd274_161 : code9 274 161 = some (0, .invokevirtual 261, [3, 219, 2, 1, 1, 4, 12, 0], .null, []) := rfl
theorem cd274_164 : code9 274 164 = some (0, .iastore, [1], .null, []) := rfl
theorem cd274_165 : code9 274 165 = some (0, .aload_n 0, [1], .null, []) := rfl
theorem cd274_166 : code9 274 166 = some (0, .iconst 1, [1], .int 1, []) := rfl
theorem cd274_167 : code9 274 167 = some (0, .putfield 389, [3, 12, 40, 3], .null, []) := rfl
theorem cd274_170 : code9 274 170 = some (0, .aload_n 0, [1], .null, []) := rfl
theorem cd274_171 : code9 274 171 = some (0, .iload_n 1, [1], .null, []) := rfl
theorem cd274_172 : code9 274 172 = some (0, .iconst 1, [1], .int 1, []) := rfl
theorem cd274_173 : code9 274 173 = some (0, .if_icmp .ne 11, [3, 184], .null, []) := rfl
theorem cd274_176 : code9 274 176 = some (0, .iload_n 2, [1], .null, []) := rfl
theorem cd274_177 : code9 274 177 = some (0, .ifCond .le 7, [3, 184], .null, []) := rfl
theorem cd274_180 : code9 274 180 = some (0, .iconst 1, [1], .int 1, []) := rfl
theorem cd274_181 : code9 274 181 = some (0, .goto 4, [3, 185, 4], .null, []) := rfl
theorem cd274_184 : code9 274 184 = some (5, .iconst 0, [1], .int 0, []) := rfl
theorem cd274_185 : code9 274 185 = some (5, .invokevirtual 393, [3, 281, 2, 1, 0, 4, 12, 0], .null, []) := rfl
theorem cd274_188 : code9 274 188 = some (0, .iload_n 3, [1], .null, []) := rfl
theorem cd274_189 : code9 274 189 = some (0, .ifCond .ne 7, [3, 196], .null, []) := rfl
theorem cd274_192 : code9 274 192 = some (0, .iconst (-1), [1], .int (-1), []) := rfl
theorem cd274_193 : code9 274 193 = some (0, .goto 4, [3, 197, 4], .null, []) := rfl
theorem cd274_196 : code9 274 196 = some (0, .iload_n 2, [1], .null, []) := rfl
theorem cd274_197 : code9 274 197 = some (5, .ireturn, [1, 1], .null, []) := rfl
def Mod_book_73 (N : Nat) : Nat → Int32 → Int32 → Int32 → FI → FJ → Option (Int32 × FI × FJ)
  | 0 => fun _ _ _ _ _ => none
  | n + 1 => fun l1 l2 l3 I J => if (I 204 39) ≤ l2 then (Option.bind (some (up2 I 223 ((0 : Int32).toNatClampNeg) l3)) fun I5 => (Option.bind (some (up2 I5 223 ((1 : Int32).toNatClampNeg) l2)) fun I6 => (Option.bind (some (up2 I6 223 ((2 : Int32).toNatClampNeg) (I6 206 ((102 : Int32).toNatClampNeg)))) fun I7 => (Option.bind (Mod_those N 2 I7) fun x8 => (Option.bind (some (up2 I7 223 ((3 : Int32).toNatClampNeg) x8)) fun I9 => (Option.bind (some (up2 I9 204 40 (1 : Int32))) fun I10 => (if l1 = 1 then (if l2 ≤ 0 then (Option.bind (Mod_stay N false I10) fun x11 => (if l3 = 0 then (some ((-1), x11, J)) else (some (l2, x11, J)))) else (Option.bind (Mod_stay N true I10) fun x12 => (if l3 = 0 then (some ((-1), x12, J)) else (some (l2, x12, J))))) else (Option.bind (Mod_stay N false I10) fun x13 => (if l3 = 0 then (some ((-1), x13, J)) else (some (l2, x13, J))))))))))) else (if l3 = 0 then (Option.bind (Mod_whyLine (4 * l2) I) fun x14 => (if x14 = 0 then (Option.bind (Mod_live N (4 * l2) I) fun x15 => (Mod_book_73 N n l1 (l2 + 1) x14 x15 J)) else (if in9 (4 * l2) 160 then (Mod_book_73 N n l1 l2 (x14 + (10 * (I 222 ((4 * l2).toNatClampNeg)))) I J) else none))) else (Option.bind (some (up2 I 223 ((0 : Int32).toNatClampNeg) l3)) fun I17 => (Option.bind (some (up2 I17 223 ((1 : Int32).toNatClampNeg) l2)) fun I18 => (Option.bind (some (up2 I18 223 ((2 : Int32).toNatClampNeg) (I18 206 ((102 : Int32).toNatClampNeg)))) fun I19 => (Option.bind (Mod_those N 2 I19) fun x20 => (Option.bind (some (up2 I19 223 ((3 : Int32).toNatClampNeg) x20)) fun I21 => (Option.bind (some (up2 I21 204 40 (1 : Int32))) fun I22 => (if l1 = 1 then (if l2 ≤ 0 then (Option.bind (Mod_stay N false I22) fun x23 => (if l3 = 0 then (some ((-1), x23, J)) else (some (l2, x23, J)))) else (Option.bind (Mod_stay N true I22) fun x24 => (if l3 = 0 then (some ((-1), x24, J)) else (some (l2, x24, J))))) else (Option.bind (Mod_stay N false I22) fun x25 => (if l3 = 0 then (some ((-1), x25, J)) else (some (l2, x25, J))))))))))))
def Mod_book_30 (N : Nat) : Nat → Int32 → FI → FJ → Option (Int32 × FI × FJ)
  | 0 => fun _ _ _ => none
  | n + 1 => fun l1 I J => if (I 204 7) = 0 then (Option.bind (Mod_layAside N I) fun x4 => (Mod_book_73 N N l1 0 0 x4 J)) else (Option.bind (Mod_readBookLine N I J) fun x26 => (if x26.1 then (Option.bind (some (up2 x26.2.1 204 39 ((x26.2.1 204 39) + 1))) fun I27 => (Mod_book_30 N n l1 I27 x26.2.2)) else (some ((-2) - (x26.2.1 204 11), x26.2.1, x26.2.2))))
def Mod_book (N : Nat) (l1 : Int32) (I : FI) (J : FJ) : Option (Int32 × FI × FJ) := Option.bind (some (up2 I 204 0 (0 : Int32))) fun I1 => (if (Mod_isIn l1 0 1) then (Option.bind (Mod_begin N 400 I1 J) fun x2 => (Option.bind (some (up2 x2.1 204 39 (0 : Int32))) fun I3 => (Mod_book_30 N N l1 I3 x2.2))) else (some ((-1000), I1, J)))
set_option maxRecDepth 8000 in
theorem t_Mod_book_73 {d : Nat} {N : Nat} {c : Nat × Nat} {S : Nat → Nat × Nat} {P : Nat → Nat → Option Nat} {r : Int32 × FI × FJ} (hd : 6 ≤ (d + 1)) (hw : OM S P) : ∀ (n : Nat) (l1 : Int32) (l2 : Int32) (l3 : Int32) (I : FI) (J : FJ), Mod_book_73 N n l1 l2 l3 I J = some r → Go (d + 1) M_Mod_book 73 [some (.ref 204), some (.int l1), some (.int l2), some (.int l3)] [] (c, S, I, J, P) (some (.int r.1), false, (c, S, r.2.1, r.2.2, P)) := by
  intro n
  induction n with
  | zero =>
    intro l1 l2 l3 I J h
    cases h
  | succ n ih =>
    intro l1 l2 l3 I J h
    unfold Mod_book_73 at h
    refine g_iload_n cd274_73 rfl rfl ?_
    refine g_aload_n cd274_74 rfl rfl ?_
    refine g_getI cd274_75 rfl (OM.o hw) ?_
    refine g_icmp_ge cd274_78 rfl (fun hb => ?_) (fun hb => ?_)
    · have h := ifpE hb h
      refine g_aload_n cd274_127 rfl rfl ?_
      refine g_getP cd274_128 rfl (OM.o hw) (OM.p38 hw) ?_
      refine g_iconst cd274_131 rfl ?_
      refine g_iload_n cd274_132 rfl rfl ?_
      obtain ⟨I5, e1, h⟩ := bnd h
      refine G_iast cd274_133 rfl (OM.s38 hw) (by decide) (Option.some.inj e1) ?_
      refine g_aload_n cd274_134 rfl rfl ?_
      refine g_getP cd274_135 rfl (OM.o hw) (OM.p38 hw) ?_
      refine g_iconst cd274_138 rfl ?_
      refine g_iload_n cd274_139 rfl rfl ?_
      obtain ⟨I6, e1, h⟩ := bnd h
      refine G_iast cd274_140 rfl (OM.s38 hw) (by decide) (Option.some.inj e1) ?_
      refine g_aload_n cd274_141 rfl rfl ?_
      refine g_getP cd274_142 rfl (OM.o hw) (OM.p38 hw) ?_
      refine g_iconst cd274_145 rfl ?_
      refine g_aload_n cd274_146 rfl rfl ?_
      refine g_getP cd274_147 rfl (OM.o hw) (OM.p14 hw) ?_
      refine g_bipush cd274_150 rfl ?_
      refine G_iald cd274_152 rfl (OM.s14 hw) (by decide) ?_
      obtain ⟨I7, e1, h⟩ := bnd h
      refine G_iast cd274_153 rfl (OM.s38 hw) (by decide) (Option.some.inj e1) ?_
      refine g_aload_n cd274_154 rfl rfl ?_
      refine g_getP cd274_155 rfl (OM.o hw) (OM.p38 hw) ?_
      refine g_iconst cd274_158 rfl ?_
      refine g_aload_n cd274_159 rfl rfl ?_
      refine g_iconst cd274_160 rfl ?_
      obtain ⟨x8, hx, h⟩ := bnd h
      refine g_callVI (L := [some (.ref 204), some (.int 2), none, none]) cd274_161 rfl rfl rfl rfl rfl (OM.o hw) (t_Mod_those (by omega) hw hx) ?_
      obtain ⟨I9, e1, h⟩ := bnd h
      refine G_iast cd274_164 rfl (OM.s38 hw) (by decide) (Option.some.inj e1) ?_
      refine g_aload_n cd274_165 rfl rfl ?_
      refine g_iconst cd274_166 rfl ?_
      obtain ⟨I10, e1, h⟩ := bnd h
      refine G_putZ cd274_167 rfl (OM.o hw) (Or.inr rfl) (Option.some.inj e1) ?_
      refine g_aload_n cd274_170 rfl rfl ?_
      refine g_iload_n cd274_171 rfl rfl ?_
      refine g_iconst cd274_172 rfl ?_
      refine g_icmp_ne cd274_173 rfl (fun hb => ?_) (fun hb => ?_)
      · have h := ifpE hb h
        refine g_iload_n cd274_176 rfl rfl ?_
        refine g_if_le cd274_177 rfl (fun hb => ?_) (fun hb => ?_)
        · have h := ifpE hb h
          refine g_iconst cd274_184 rfl ?_
          obtain ⟨x11, hx, h⟩ := bnd h
          refine g_callVV (L := [some (.ref 204), some (.int 0), none, none]) cd274_185 rfl rfl rfl rfl rfl (OM.o hw) (t_Mod_stay (by omega) hw hx) ?_
          refine g_iload_n cd274_188 rfl rfl ?_
          refine g_if_ne cd274_189 rfl (fun hb => ?_) (fun hb => ?_)
          · have h := ifpE hb h
            refine g_iconst cd274_192 rfl ?_
            refine g_goto (ls2 := [some (.ref 204), some (.int l1), some (.int l2), some (.int l3)]) cd274_193 rfl rfl ?_
            exact g_iret cd274_197 (Or.inl rfl) (by obtain rfl := Option.some.inj h; rfl)
          · have h := ifnE hb h
            refine g_iload_n cd274_196 rfl rfl ?_
            exact g_iret cd274_197 (Or.inl rfl) (by obtain rfl := Option.some.inj h; rfl)
        · have h := ifnE hb h
          refine g_iconst cd274_180 rfl ?_
          refine g_goto (ls2 := [some (.ref 204), some (.int l1), some (.int l2), some (.int l3)]) cd274_181 rfl rfl ?_
          obtain ⟨x12, hx, h⟩ := bnd h
          refine g_callVV (L := [some (.ref 204), some (.int 1), none, none]) cd274_185 rfl rfl rfl rfl rfl (OM.o hw) (t_Mod_stay (by omega) hw hx) ?_
          refine g_iload_n cd274_188 rfl rfl ?_
          refine g_if_ne cd274_189 rfl (fun hb => ?_) (fun hb => ?_)
          · have h := ifpE hb h
            refine g_iconst cd274_192 rfl ?_
            refine g_goto (ls2 := [some (.ref 204), some (.int l1), some (.int l2), some (.int l3)]) cd274_193 rfl rfl ?_
            exact g_iret cd274_197 (Or.inl rfl) (by obtain rfl := Option.some.inj h; rfl)
          · have h := ifnE hb h
            refine g_iload_n cd274_196 rfl rfl ?_
            exact g_iret cd274_197 (Or.inl rfl) (by obtain rfl := Option.some.inj h; rfl)
      · have h := ifnE hb h
        refine g_iconst cd274_184 rfl ?_
        obtain ⟨x13, hx, h⟩ := bnd h
        refine g_callVV (L := [some (.ref 204), some (.int 0), none, none]) cd274_185 rfl rfl rfl rfl rfl (OM.o hw) (t_Mod_stay (by omega) hw hx) ?_
        refine g_iload_n cd274_188 rfl rfl ?_
        refine g_if_ne cd274_189 rfl (fun hb => ?_) (fun hb => ?_)
        · have h := ifpE hb h
          refine g_iconst cd274_192 rfl ?_
          refine g_goto (ls2 := [some (.ref 204), some (.int l1), some (.int l2), some (.int l3)]) cd274_193 rfl rfl ?_
          exact g_iret cd274_197 (Or.inl rfl) (by obtain rfl := Option.some.inj h; rfl)
        · have h := ifnE hb h
          refine g_iload_n cd274_196 rfl rfl ?_
          exact g_iret cd274_197 (Or.inl rfl) (by obtain rfl := Option.some.inj h; rfl)
    · have h := ifnE hb h
      refine g_iload_n cd274_81 rfl rfl ?_
      refine g_if_ne cd274_82 rfl (fun hb => ?_) (fun hb => ?_)
      · have h := ifpE hb h
        refine g_aload_n cd274_85 rfl rfl ?_
        refine g_iconst cd274_86 rfl ?_
        refine g_iload_n cd274_87 rfl rfl ?_
        refine g_imul cd274_88 rfl ?_
        obtain ⟨x14, hx, h⟩ := bnd h
        refine g_callVI (L := [some (.ref 204), some (.int (4 * l2)), none, none]) cd274_89 rfl rfl rfl rfl rfl (OM.o hw) (t_Mod_whyLine (by omega) hw hx) ?_
        refine g_istore_n (ls2 := [some (.ref 204), some (.int l1), some (.int l2), some (.int x14)]) cd274_92 rfl rfl ?_
        refine g_iload_n cd274_93 rfl rfl ?_
        refine g_if_eq cd274_94 rfl (fun hb => ?_) (fun hb => ?_)
        · have h := ifpE hb h
          refine g_aload_n cd274_114 rfl rfl ?_
          refine g_iconst cd274_115 rfl ?_
          refine g_iload_n cd274_116 rfl rfl ?_
          refine g_imul cd274_117 rfl ?_
          obtain ⟨x15, hx, h⟩ := bnd h
          refine g_callVV (L := [some (.ref 204), some (.int (4 * l2)), none, none, none]) cd274_118 rfl rfl rfl rfl rfl (OM.o hw) (t_Mod_live (by omega) hw hx) ?_
          refine g_iinc (ls2 := [some (.ref 204), some (.int l1), some (.int (l2 + 1)), some (.int x14)]) cd274_121 rfl rfl rfl ?_
          refine g_goto (ls2 := [some (.ref 204), some (.int l1), some (.int (l2 + 1)), some (.int x14)]) cd274_124 rfl rfl ?_
          exact ih l1 (l2 + 1) x14 x15 J h
        · have h := ifnE hb h
          refine g_iload_n cd274_97 rfl rfl ?_
          refine g_bipush cd274_98 rfl ?_
          refine g_aload_n cd274_100 rfl rfl ?_
          refine g_getP cd274_101 rfl (OM.o hw) (OM.p37 hw) ?_
          refine g_iconst cd274_104 rfl ?_
          refine g_iload_n cd274_105 rfl rfl ?_
          refine g_imul cd274_106 rfl ?_
          obtain ⟨hg16, h⟩ := grd h
          refine G_iald cd274_107 rfl (OM.s37 hw) hg16 ?_
          refine g_imul cd274_108 rfl ?_
          refine g_iadd cd274_109 rfl ?_
          refine g_istore_n (ls2 := [some (.ref 204), some (.int l1), some (.int l2), some (.int (x14 + (10 * (I 222 ((4 * l2).toNatClampNeg)))))]) cd274_110 rfl rfl ?_
          refine g_goto (ls2 := [some (.ref 204), some (.int l1), some (.int l2), some (.int (x14 + (10 * (I 222 ((4 * l2).toNatClampNeg)))))]) cd274_111 rfl rfl ?_
          exact ih l1 l2 (x14 + (10 * (I 222 ((4 * l2).toNatClampNeg)))) I J h
      · have h := ifnE hb h
        refine g_aload_n cd274_127 rfl rfl ?_
        refine g_getP cd274_128 rfl (OM.o hw) (OM.p38 hw) ?_
        refine g_iconst cd274_131 rfl ?_
        refine g_iload_n cd274_132 rfl rfl ?_
        obtain ⟨I17, e1, h⟩ := bnd h
        refine G_iast cd274_133 rfl (OM.s38 hw) (by decide) (Option.some.inj e1) ?_
        refine g_aload_n cd274_134 rfl rfl ?_
        refine g_getP cd274_135 rfl (OM.o hw) (OM.p38 hw) ?_
        refine g_iconst cd274_138 rfl ?_
        refine g_iload_n cd274_139 rfl rfl ?_
        obtain ⟨I18, e1, h⟩ := bnd h
        refine G_iast cd274_140 rfl (OM.s38 hw) (by decide) (Option.some.inj e1) ?_
        refine g_aload_n cd274_141 rfl rfl ?_
        refine g_getP cd274_142 rfl (OM.o hw) (OM.p38 hw) ?_
        refine g_iconst cd274_145 rfl ?_
        refine g_aload_n cd274_146 rfl rfl ?_
        refine g_getP cd274_147 rfl (OM.o hw) (OM.p14 hw) ?_
        refine g_bipush cd274_150 rfl ?_
        refine G_iald cd274_152 rfl (OM.s14 hw) (by decide) ?_
        obtain ⟨I19, e1, h⟩ := bnd h
        refine G_iast cd274_153 rfl (OM.s38 hw) (by decide) (Option.some.inj e1) ?_
        refine g_aload_n cd274_154 rfl rfl ?_
        refine g_getP cd274_155 rfl (OM.o hw) (OM.p38 hw) ?_
        refine g_iconst cd274_158 rfl ?_
        refine g_aload_n cd274_159 rfl rfl ?_
        refine g_iconst cd274_160 rfl ?_
        obtain ⟨x20, hx, h⟩ := bnd h
        refine g_callVI (L := [some (.ref 204), some (.int 2), none, none]) cd274_161 rfl rfl rfl rfl rfl (OM.o hw) (t_Mod_those (by omega) hw hx) ?_
        obtain ⟨I21, e1, h⟩ := bnd h
        refine G_iast cd274_164 rfl (OM.s38 hw) (by decide) (Option.some.inj e1) ?_
        refine g_aload_n cd274_165 rfl rfl ?_
        refine g_iconst cd274_166 rfl ?_
        obtain ⟨I22, e1, h⟩ := bnd h
        refine G_putZ cd274_167 rfl (OM.o hw) (Or.inr rfl) (Option.some.inj e1) ?_
        refine g_aload_n cd274_170 rfl rfl ?_
        refine g_iload_n cd274_171 rfl rfl ?_
        refine g_iconst cd274_172 rfl ?_
        refine g_icmp_ne cd274_173 rfl (fun hb => ?_) (fun hb => ?_)
        · have h := ifpE hb h
          refine g_iload_n cd274_176 rfl rfl ?_
          refine g_if_le cd274_177 rfl (fun hb => ?_) (fun hb => ?_)
          · have h := ifpE hb h
            refine g_iconst cd274_184 rfl ?_
            obtain ⟨x23, hx, h⟩ := bnd h
            refine g_callVV (L := [some (.ref 204), some (.int 0), none, none]) cd274_185 rfl rfl rfl rfl rfl (OM.o hw) (t_Mod_stay (by omega) hw hx) ?_
            refine g_iload_n cd274_188 rfl rfl ?_
            refine g_if_ne cd274_189 rfl (fun hb => ?_) (fun hb => ?_)
            · have h := ifpE hb h
              refine g_iconst cd274_192 rfl ?_
              refine g_goto (ls2 := [some (.ref 204), some (.int l1), some (.int l2), some (.int l3)]) cd274_193 rfl rfl ?_
              exact g_iret cd274_197 (Or.inl rfl) (by obtain rfl := Option.some.inj h; rfl)
            · have h := ifnE hb h
              refine g_iload_n cd274_196 rfl rfl ?_
              exact g_iret cd274_197 (Or.inl rfl) (by obtain rfl := Option.some.inj h; rfl)
          · have h := ifnE hb h
            refine g_iconst cd274_180 rfl ?_
            refine g_goto (ls2 := [some (.ref 204), some (.int l1), some (.int l2), some (.int l3)]) cd274_181 rfl rfl ?_
            obtain ⟨x24, hx, h⟩ := bnd h
            refine g_callVV (L := [some (.ref 204), some (.int 1), none, none]) cd274_185 rfl rfl rfl rfl rfl (OM.o hw) (t_Mod_stay (by omega) hw hx) ?_
            refine g_iload_n cd274_188 rfl rfl ?_
            refine g_if_ne cd274_189 rfl (fun hb => ?_) (fun hb => ?_)
            · have h := ifpE hb h
              refine g_iconst cd274_192 rfl ?_
              refine g_goto (ls2 := [some (.ref 204), some (.int l1), some (.int l2), some (.int l3)]) cd274_193 rfl rfl ?_
              exact g_iret cd274_197 (Or.inl rfl) (by obtain rfl := Option.some.inj h; rfl)
            · have h := ifnE hb h
              refine g_iload_n cd274_196 rfl rfl ?_
              exact g_iret cd274_197 (Or.inl rfl) (by obtain rfl := Option.some.inj h; rfl)
        · have h := ifnE hb h
          refine g_iconst cd274_184 rfl ?_
          obtain ⟨x25, hx, h⟩ := bnd h
          refine g_callVV (L := [some (.ref 204), some (.int 0), none, none]) cd274_185 rfl rfl rfl rfl rfl (OM.o hw) (t_Mod_stay (by omega) hw hx) ?_
          refine g_iload_n cd274_188 rfl rfl ?_
          refine g_if_ne cd274_189 rfl (fun hb => ?_) (fun hb => ?_)
          · have h := ifpE hb h
            refine g_iconst cd274_192 rfl ?_
            refine g_goto (ls2 := [some (.ref 204), some (.int l1), some (.int l2), some (.int l3)]) cd274_193 rfl rfl ?_
            exact g_iret cd274_197 (Or.inl rfl) (by obtain rfl := Option.some.inj h; rfl)
          · have h := ifnE hb h
            refine g_iload_n cd274_196 rfl rfl ?_
            exact g_iret cd274_197 (Or.inl rfl) (by obtain rfl := Option.some.inj h; rfl)
set_option maxRecDepth 8000 in
theorem t_Mod_book_30 {d : Nat} {N : Nat} {c : Nat × Nat} {S : Nat → Nat × Nat} {P : Nat → Nat → Option Nat} {r : Int32 × FI × FJ} (hd : 6 ≤ (d + 1)) (hw : OM S P) : ∀ (n : Nat) (l1 : Int32) (I : FI) (J : FJ), Mod_book_30 N n l1 I J = some r → Go (d + 1) M_Mod_book 30 [some (.ref 204), some (.int l1), none, none] [] (c, S, I, J, P) (some (.int r.1), false, (c, S, r.2.1, r.2.2, P)) := by
  intro n
  induction n with
  | zero =>
    intro l1 I J h
    cases h
  | succ n ih =>
    intro l1 I J h
    unfold Mod_book_30 at h
    refine g_aload_n cd274_30 rfl rfl ?_
    refine g_getI cd274_31 rfl (OM.o hw) ?_
    refine g_if_eq cd274_34 rfl (fun hb => ?_) (fun hb => ?_)
    · have h := ifpE hb h
      refine g_aload_n cd274_65 rfl rfl ?_
      obtain ⟨x4, hx, h⟩ := bnd h
      refine g_callVV (L := [some (.ref 204), none]) cd274_66 rfl rfl rfl rfl rfl (OM.o hw) (t_Mod_layAside (by omega) hw hx) ?_
      refine g_iconst cd274_69 rfl ?_
      refine g_istore_n (ls2 := [some (.ref 204), some (.int l1), some (.int 0), none]) cd274_70 rfl rfl ?_
      refine g_iconst cd274_71 rfl ?_
      refine g_istore_n (ls2 := [some (.ref 204), some (.int l1), some (.int 0), some (.int 0)]) cd274_72 rfl rfl ?_
      exact t_Mod_book_73 hd hw _ l1 0 0 x4 J h
    · have h := ifnE hb h
      refine g_aload_n cd274_37 rfl rfl ?_
      obtain ⟨x26, hx, h⟩ := bnd h
      refine g_callVZ (L := [some (.ref 204)]) cd274_38 rfl rfl rfl rfl rfl (OM.o hw) (t_Mod_readBookLine (by omega) hw hx) ?_
      refine g_if_ne cd274_41 rfl (fun hb => ?_) (fun hb => ?_)
      · have h := ifnE (b2i_f hb) h
        refine g_bipush cd274_44 rfl ?_
        refine g_aload_n cd274_46 rfl rfl ?_
        refine g_getI cd274_47 rfl (OM.o hw) ?_
        refine g_isub cd274_50 rfl ?_
        exact g_iret cd274_51 (Or.inl rfl) (by obtain rfl := Option.some.inj h; rfl)
      · have h := ifpE (b2i_t hb) h
        refine g_aload_n cd274_52 rfl rfl ?_
        refine g_dupR cd274_53 rfl ?_
        refine g_getI cd274_54 rfl (OM.o hw) ?_
        refine g_iconst cd274_57 rfl ?_
        refine g_iadd cd274_58 rfl ?_
        obtain ⟨I27, e1, h⟩ := bnd h
        refine G_putI cd274_59 rfl (OM.o hw) (Option.some.inj e1) ?_
        refine g_goto (ls2 := [some (.ref 204), some (.int l1), none, none]) cd274_62 rfl rfl ?_
        exact ih l1 I27 x26.2.2 h
set_option maxRecDepth 8000 in
theorem t_Mod_book {d : Nat} {N : Nat} {c : Nat × Nat} {S : Nat → Nat × Nat} {P : Nat → Nat → Option Nat} {I : FI} {J : FJ} {l1 : Int32} {r : Int32 × FI × FJ} (hd : 6 ≤ d) (hw : OM S P) (h : Mod_book N l1 I J = some r) : Go d M_Mod_book 0 [some (.ref 204), some (.int l1), none, none] [] (c, S, I, J, P) (some (.int r.1), false, (c, S, r.2.1, r.2.2, P)) := by
  obtain ⟨d, rfl⟩ : ∃ e, d = e + 1 := ⟨d - 1, by omega⟩
  unfold Mod_book at h
  refine g_aload_n cd274_0 rfl rfl ?_
  refine g_iconst cd274_1 rfl ?_
  obtain ⟨I1, e1, h⟩ := bnd h
  refine G_putI cd274_2 rfl (OM.o hw) (Option.some.inj e1) ?_
  refine g_iload_n cd274_5 rfl rfl ?_
  refine g_iconst cd274_6 rfl ?_
  refine g_iconst cd274_7 rfl ?_
  refine g_callSZ (L := [some (.int l1), some (.int 0), some (.int 1)]) cd274_8 rfl rfl rfl rfl rfl (t_Mod_isIn (by omega)  rfl) ?_
  refine g_if_ne cd274_11 rfl (fun hb => ?_) (fun hb => ?_)
  · have h := ifnE (b2i_f hb) h
    refine g_sipush cd274_14 rfl ?_
    exact g_iret cd274_17 (Or.inl rfl) (by obtain rfl := Option.some.inj h; rfl)
  · have h := ifpE (b2i_t hb) h
    refine g_aload_n cd274_18 rfl rfl ?_
    refine g_sipush cd274_19 rfl ?_
    obtain ⟨x2, hx, h⟩ := bnd h
    refine g_callVV (L := [some (.ref 204), some (.int 400)]) cd274_22 rfl rfl rfl rfl rfl (OM.o hw) (t_Mod_begin (by omega) hw hx) ?_
    refine g_aload_n cd274_25 rfl rfl ?_
    refine g_iconst cd274_26 rfl ?_
    obtain ⟨I3, e1, h⟩ := bnd h
    refine G_putI cd274_27 rfl (OM.o hw) (Option.some.inj e1) ?_
    exact t_Mod_book_30 hd hw _ l1 I3 x2.2 h
/-! HiddenOrLostModel.told(I)I -/
theorem cd282_0 : code9 282 0 = some (0, .aload_n 0, [1], .null, []) := rfl
theorem cd282_1 : code9 282 1 = some (0, .iconst 0, [1], .int 0, []) := rfl
theorem cd282_2 : code9 282 2 = some (0, .putfield 1, [3, 12, 0, 0], .null, []) := rfl
theorem cd282_5 : code9 282 5 = some (0, .aload_n 0, [1], .null, []) := rfl
theorem cd282_6 : code9 282 6 = some (0, .getfield 389, [3, 12, 40, 0], .null, []) := rfl
theorem cd282_9 : code9 282 9 = some (0, .ifCond .eq 21, [3, 30], .null, []) := rfl
theorem cd282_12 : code9 282 12 = some (0, .iload_n 1, [1], .null, []) := rfl
theorem cd282_13 : code9 282 13 = some (0, .iconst 0, [1], .int 0, []) := rfl
theorem cd282_14 : code9 282 14 = some (0, .iconst 3, [1], .int 3, []) := rfl
theorem cd282_15 : code9 282 15 = some (0, .invokestatic 75, [3, 191, 3, 0, 3, 3, 12, 0], .null, []) := rfl
theorem cd282_18 : code9 282 18 = some (0, .ifCond .eq 12, [3, 30], .null, []) := rfl
theorem cd282_21 : code9 282 21 = some (0, .aload_n 0, [1], .null, []) := rfl
theorem cd282_22 : code9 282 22 = some (0, .getfield 157, [3, 12, 38, 2], .null, []) := rfl
theorem cd282_25 : code9 282 25 = some (0, .iload_n 1, [1], .null, []) := rfl
theorem cd282_26 : code9 282 26 = some (0, .iaload, [1], .null, []) := rfl
theorem cd282_27 : code9 282 27 = some (0, .goto 4, [3, 31, 2], .null, []) := rfl
theorem cd282_30 : code9 282 30 = some (3, .iconst (-1), [1], .int (-1), []) := rfl
theorem cd282_31 : code9 282 31 = some (3, .ireturn, [1, 1], .null, []) := rfl
def Mod_told (l1 : Int32) (I : FI) : Option (Int32 × FI) := Option.bind (some (up2 I 204 0 (0 : Int32))) fun I1 => (if (I1 204 40) = 0 then (some ((-1), I1)) else (if (Mod_isIn l1 0 3) then (if in9 l1 4 then (some (I1 223 l1.toNatClampNeg, I1)) else none) else (some ((-1), I1))))
set_option maxRecDepth 8000 in
theorem t_Mod_told {d : Nat} {c : Nat × Nat} {S : Nat → Nat × Nat} {P : Nat → Nat → Option Nat} {I : FI} {J : FJ} {l1 : Int32} {r : Int32 × FI} (hd : 1 ≤ d) (hw : OM S P) (h : Mod_told l1 I = some r) : Go d M_Mod_told 0 [some (.ref 204), some (.int l1)] [] (c, S, I, J, P) (some (.int r.1), false, (c, S, r.2, J, P)) := by
  obtain ⟨d, rfl⟩ : ∃ e, d = e + 1 := ⟨d - 1, by omega⟩
  unfold Mod_told at h
  refine g_aload_n cd282_0 rfl rfl ?_
  refine g_iconst cd282_1 rfl ?_
  obtain ⟨I1, e1, h⟩ := bnd h
  refine G_putI cd282_2 rfl (OM.o hw) (Option.some.inj e1) ?_
  refine g_aload_n cd282_5 rfl rfl ?_
  refine g_getI cd282_6 rfl (OM.o hw) ?_
  refine g_if_eq cd282_9 rfl (fun hb => ?_) (fun hb => ?_)
  · have h := ifpE hb h
    refine g_iconst cd282_30 rfl ?_
    exact g_iret cd282_31 (Or.inl rfl) (by obtain rfl := Option.some.inj h; rfl)
  · have h := ifnE hb h
    refine g_iload_n cd282_12 rfl rfl ?_
    refine g_iconst cd282_13 rfl ?_
    refine g_iconst cd282_14 rfl ?_
    refine g_callSZ (L := [some (.int l1), some (.int 0), some (.int 3)]) cd282_15 rfl rfl rfl rfl rfl (t_Mod_isIn (by omega)  rfl) ?_
    refine g_if_eq cd282_18 rfl (fun hb => ?_) (fun hb => ?_)
    · have h := ifnE (b2i_f hb) h
      refine g_iconst cd282_30 rfl ?_
      exact g_iret cd282_31 (Or.inl rfl) (by obtain rfl := Option.some.inj h; rfl)
    · have h := ifpE (b2i_t hb) h
      refine g_aload_n cd282_21 rfl rfl ?_
      refine g_getP cd282_22 rfl (OM.o hw) (OM.p38 hw) ?_
      refine g_iload_n cd282_25 rfl rfl ?_
      obtain ⟨hg2, h⟩ := grd h
      refine G_iald cd282_26 rfl (OM.s38 hw) hg2 ?_
      refine g_goto (ls2 := [some (.ref 204), some (.int l1)]) cd282_27 rfl rfl ?_
      exact g_iret cd282_31 (Or.inl rfl) (by obtain rfl := Option.some.inj h; rfl)
/-! HiddenOrLostModel.saysOne(IIII)I -/
theorem cd289_0 : code9 289 0 = some (0, .iconst 4, [1], .int 4, []) := rfl
theorem cd289_1 : code9 289 1 = some (0, .aload_n 0, [1], .null, []) := rfl
theorem cd289_2 : code9 289 2 = some (0, .getfield 397, [3, 12, 42, 0], .null, []) := rfl
theorem cd289_5 : code9 289 5 = some (0, .imul, [1], .null, []) := rfl
theorem cd289_6 : code9 289 6 = some (0, .istore 5, [2], .null, []) := rfl
theorem cd289_8 : code9 289 8 = some (0, .aload_n 0, [1], .null, []) := rfl
theorem cd289_9 : code9 289 9 = some (0, .getfield 160, [3, 12, 41, 2], .null, []) := rfl
theorem cd289_12 : code9 289 12 = some (0, .iload 5, [2], .null, []) := rfl
theorem cd289_14 : code9 289 14 = some (0, .iload_n 1, [1], .null, []) := rfl
theorem cd289_15 : code9 289 15 = some (0, .iastore, [1], .null, []) := rfl
theorem cd289_16 : code9 289 16 = some (0, .aload_n 0, [1], .null, []) := rfl
theorem cd289_17 : code9 289 17 = some (0, .getfield 160, [3, 12, 41, 2], .null, []) := rfl
theorem cd289_20 : code9 289 20 = some (0, .iload 5, [2], .null, []) := rfl
theorem cd289_22 : code9 289 22 = some (0, .iconst 1, [1], .int 1, []) := rfl
theorem cd289_23 : code9 289 23 = some (0, .iadd, [1], .null, []) := rfl
theorem cd289_24 : code9 289 24 = some (0, .iload_n 2, [1], .null, []) := rfl
theorem cd289_25 : code9 289 25 = some (0, .iastore, [1], .null, []) := rfl
theorem cd289_26 : code9 289 26 = some (0, .aload_n 0, [1], .null, []) := rfl
theorem cd289_27 : code9 289 27 = some (0, .getfield 160, [3, 12, 41, 2], .null, []) := rfl
theorem cd289_30 : code9 289 30 = some (0, .iload 5, [2], .null, []) := rfl
theorem cd289_32 : code9 289 32 = some (0, .iconst 2, [1], .int 2, []) := rfl
theorem cd289_33 : code9 289 33 = some (0, .iadd, [1], .null, []) := rfl
theorem cd289_34 : code9 289 34 = some (0, .iload_n 3, [1], .null, []) := rfl
theorem cd289_35 : code9 289 35 = some (0, .iastore, [1], .null, []) := rfl
theorem cd289_36 : code9 289 36 = some (0, .aload_n 0, [1], .null, []) := rfl
theorem cd289_37 : code9 289 37 = some (0, .getfield 160, [3, 12, 41, 2], .null, []) := rfl
theorem cd289_40 : code9 289 40 = some (0, .iload 5, [2], .null, []) := rfl
theorem cd289_42 : code9 289 42 = some (0, .iconst 3, [1], .int 3, []) := rfl
theorem cd289_43 : code9 289 43 = some (0, .iadd, [1], .null, []) := rfl
theorem cd289_44 : code9 289 44 = some (0, .iload 4, [2], .null, []) := rfl
theorem cd289_46 : code9 289 46 = some (0, .iastore, [1], .null, []) := rfl
theorem cd289_47 : code9 289 47 = some (0, .aload_n 0, [1], .null, []) := rfl
theorem cd289_48 : code9 289 48 = some (0, .dup, [1], .null, []) := rfl
theorem cd289_49 : code9 289 49 = some (0, .getfield 397, [3, 12, 42, 0], .null, []) := rfl
theorem cd289_52 : code9 289 52 = some (0, .iconst 1, [1], .int 1, []) := rfl
theorem cd289_53 : code9 289 53 = some (0, .iadd, [1], .null, []) := rfl
theorem cd289_54 : code9 289 54 = some (0, .putfield 397, [3, 12, 42, 0], .null, []) := rfl
theorem cd289_57 : code9 289 57 = some (0, .aload_n 0, [1], .null, []) := rfl
theorem cd289_58 : code9 289 58 = some (0, .getfield 397, [3, 12, 42, 0], .null, []) := rfl
theorem cd289_61 : code9 289 61 = some (0, .iconst 1, [1], .int 1, []) := rfl
theorem cd289_62 : code9 289 62 = some (0, .isub, [1], .null, []) := rfl
theorem cd289_63 : code9 289 63 = some (0, .ireturn, [1, 1], .null, []) := rfl
def Mod_saysOne (l1 : Int32) (l2 : Int32) (l3 : Int32) (l4 : Int32) (I : FI) : Option (Int32 × FI) := if in9 (4 * (I 204 42)) 240 then (Option.bind (some (up2 I 224 ((4 * (I 204 42)).toNatClampNeg) l1)) fun I2 => (if in9 ((4 * (I 204 42)) + 1) 240 then (Option.bind (some (up2 I2 224 (((4 * (I 204 42)) + 1).toNatClampNeg) l2)) fun I4 => (if in9 ((4 * (I 204 42)) + 2) 240 then (Option.bind (some (up2 I4 224 (((4 * (I 204 42)) + 2).toNatClampNeg) l3)) fun I6 => (if in9 ((4 * (I 204 42)) + 3) 240 then (Option.bind (some (up2 I6 224 (((4 * (I 204 42)) + 3).toNatClampNeg) l4)) fun I8 => (Option.bind (some (up2 I8 204 42 ((I8 204 42) + 1))) fun I9 => (some ((I9 204 42) - 1, I9)))) else none)) else none)) else none)) else none
set_option maxRecDepth 8000 in
theorem t_Mod_saysOne {d : Nat} {c : Nat × Nat} {S : Nat → Nat × Nat} {P : Nat → Nat → Option Nat} {I : FI} {J : FJ} {l1 : Int32} {l2 : Int32} {l3 : Int32} {l4 : Int32} {r : Int32 × FI} (hd : 0 ≤ d) (hw : OM S P) (h : Mod_saysOne l1 l2 l3 l4 I = some r) : Go d M_Mod_saysOne 0 [some (.ref 204), some (.int l1), some (.int l2), some (.int l3), some (.int l4), none] [] (c, S, I, J, P) (some (.int r.1), false, (c, S, r.2, J, P)) := by
  unfold Mod_saysOne at h
  refine g_iconst cd289_0 rfl ?_
  refine g_aload_n cd289_1 rfl rfl ?_
  refine g_getI cd289_2 rfl (OM.o hw) ?_
  refine g_imul cd289_5 rfl ?_
  refine g_istore (ls2 := [some (.ref 204), some (.int l1), some (.int l2), some (.int l3), some (.int l4), some (.int (4 * (I 204 42)))]) cd289_6 rfl rfl ?_
  refine g_aload_n cd289_8 rfl rfl ?_
  refine g_getP cd289_9 rfl (OM.o hw) (OM.p41 hw) ?_
  refine g_iload cd289_12 rfl rfl ?_
  refine g_iload_n cd289_14 rfl rfl ?_
  obtain ⟨hg1, h⟩ := grd h
  obtain ⟨I2, e1, h⟩ := bnd h
  refine G_iast cd289_15 rfl (OM.s41 hw) hg1 (Option.some.inj e1) ?_
  refine g_aload_n cd289_16 rfl rfl ?_
  refine g_getP cd289_17 rfl (OM.o hw) (OM.p41 hw) ?_
  refine g_iload cd289_20 rfl rfl ?_
  refine g_iconst cd289_22 rfl ?_
  refine g_iadd cd289_23 rfl ?_
  refine g_iload_n cd289_24 rfl rfl ?_
  obtain ⟨hg3, h⟩ := grd h
  obtain ⟨I4, e1, h⟩ := bnd h
  refine G_iast cd289_25 rfl (OM.s41 hw) hg3 (Option.some.inj e1) ?_
  refine g_aload_n cd289_26 rfl rfl ?_
  refine g_getP cd289_27 rfl (OM.o hw) (OM.p41 hw) ?_
  refine g_iload cd289_30 rfl rfl ?_
  refine g_iconst cd289_32 rfl ?_
  refine g_iadd cd289_33 rfl ?_
  refine g_iload_n cd289_34 rfl rfl ?_
  obtain ⟨hg5, h⟩ := grd h
  obtain ⟨I6, e1, h⟩ := bnd h
  refine G_iast cd289_35 rfl (OM.s41 hw) hg5 (Option.some.inj e1) ?_
  refine g_aload_n cd289_36 rfl rfl ?_
  refine g_getP cd289_37 rfl (OM.o hw) (OM.p41 hw) ?_
  refine g_iload cd289_40 rfl rfl ?_
  refine g_iconst cd289_42 rfl ?_
  refine g_iadd cd289_43 rfl ?_
  refine g_iload cd289_44 rfl rfl ?_
  obtain ⟨hg7, h⟩ := grd h
  obtain ⟨I8, e1, h⟩ := bnd h
  refine G_iast cd289_46 rfl (OM.s41 hw) hg7 (Option.some.inj e1) ?_
  refine g_aload_n cd289_47 rfl rfl ?_
  refine g_dupR cd289_48 rfl ?_
  refine g_getI cd289_49 rfl (OM.o hw) ?_
  refine g_iconst cd289_52 rfl ?_
  refine g_iadd cd289_53 rfl ?_
  obtain ⟨I9, e1, h⟩ := bnd h
  refine G_putI cd289_54 rfl (OM.o hw) (Option.some.inj e1) ?_
  refine g_aload_n cd289_57 rfl rfl ?_
  refine g_getI cd289_58 rfl (OM.o hw) ?_
  refine g_iconst cd289_61 rfl ?_
  refine g_isub cd289_62 rfl ?_
  exact g_iret cd289_63 (Or.inl rfl) (by obtain rfl := Option.some.inj h; rfl)
/-! HiddenOrLostModel.readAnd()Z -/
theorem cd285_0 : code9 285 0 = some (0, .aload_n 0, [1], .null, []) := rfl
theorem cd285_1 : code9 285 1 = some (0, .invokevirtual 409, [3, 286, 1, 1, 3, 4, 12, 0], .null, []) := rfl
theorem cd285_4 : code9 285 4 = some (0, .ifCond .ne 5, [3, 9], .null, []) := rfl
theorem cd285_7 : code9 285 7 = some (0, .iconst 0, [1], .int 0, []) := rfl
theorem cd285_8 : code9 285 8 = some (0, .ireturn, [1, 3], .null, []) := rfl
theorem cd285_9 : code9 285 9 = some (0, .aload_n 0, [1], .null, []) := rfl
theorem cd285_10 : code9 285 10 = some (0, .getfield 403, [3, 12, 45, 0], .null, []) := rfl
theorem cd285_13 : code9 285 13 = some (0, .istore_n 1, [1], .null, []) := rfl
theorem cd285_14 : code9 285 14 = some (3, .aload_n 0, [1], .null, []) := rfl
theorem cd285_15 : code9 285 15 = some (0, .bipush 20, [2], .int 20, []) := rfl
theorem cd285_17 : code9 285 17 = some (0, .invokevirtual 177, [3, 184, 2, 1, 3, 2, 12, 0], .null, []) := rfl
theorem cd285_20 : code9 285 20 = some (0, .ifCond .eq 31, [3, 51], .null, []) := rfl
theorem cd285_23 : code9 285 23 = some (0, .aload_n 0, [1], .null, []) := rfl
theorem cd285_24 : code9 285 24 = some (0, .invokevirtual 82, [3, 179, 1, 1, 0, 5, 12, 0], .null, []) := rfl
theorem cd285_27 : code9 285 27 = some (0, .aload_n 0, [1], .null, []) := rfl
theorem cd285_28 : code9 285 28 = some (0, .invokevirtual 409, [3, 286, 1, 1, 3, 4, 12, 0], .null, []) := rfl
theorem cd285_31 : code9 285 31 = some (0, .ifCond .ne 5, [3, 36], .null, []) := rfl
theorem cd285_34 : code9 285 34 = some (0, .iconst 0, [1], .int 0, []) := rfl
theorem cd285_35 : code9 285 35 = some (0, .ireturn, [1, 3], .null, []) := rfl
theorem cd285_36 : code9 285 36 = some (0, .aload_n 0, [1], .null, []) := rfl
theorem cd285_37 : code9 285 37 = some (0, .iconst 2, [1], .int 2, []) := rfl
theorem cd285_38 : code9 285 38 = some (0, .iload_n 1, [1], .null, []) := rfl
theorem cd285_39 : code9 285 39 = some (0, .aload_n 0, [1], .null, []) := rfl
theorem cd285_40 : code9 285 40 = some (0, .getfield 403, [3, 12, 45, 0], .null, []) := rfl
theorem cd285_43 : code9 285 43 = some (0, .iconst 0, [1], .int 0, []) := rfl
theorem cd285_44 : code9 285 44 = some (0, .invokevirtual 406, [3, 289, 5, 1, 1, 6, 12, 0], .null, []) := rfl
theorem cd285_47 : code9 285 47 = some (0, .istore_n 1, [1], .null, []) := rfl
theorem cd285_48 : code9 285 48 = some (0, .goto (-34), [3, 14, 2], .null, []) := rfl
theorem cd285_51 : code9 285 51 = some (0, .aload_n 0, [1], .null, []) := rfl
theorem cd285_52 : code9 285 52 = some (0, .iload_n 1, [1], .null, []) := rfl
theorem cd285_53 : code9 285 53 = some (0, .putfield 403, [3, 12, 45, 0], .null, []) := rfl
theorem cd285_56 : code9 285 56 = some (0, .iconst 1, [1], .int 1, []) := rfl
theorem cd285_57 : code9 285 57 = some (0, .ireturn, [1, 3], .null, []) := rfl
def Mod_readAnd_14 (R : FI → FJ → Option (Bool × FI × FJ)) (N : Nat) : Nat → Int32 → FI → FJ → Option (Bool × FI × FJ)
  | 0 => fun _ _ _ => none
  | n + 1 => fun l1 I J => if (Mod_isWord 20 I J) then (Option.bind (Mod_go N I J) fun x3 => (Option.bind (R x3.1 x3.2) fun x4 => (if x4.1 then (Option.bind (Mod_saysOne 2 l1 (x4.2.1 204 45) 0 x4.2.1) fun x5 => (Mod_readAnd_14 R N n x5.1 x5.2 x4.2.2)) else (some (false, x4.2.1, x4.2.2))))) else (Option.bind (some (up2 I 204 45 l1)) fun I2 => (some (true, I2, J)))
def Mod_readAnd (R : FI → FJ → Option (Bool × FI × FJ)) (N : Nat) (I : FI) (J : FJ) : Option (Bool × FI × FJ) := Option.bind (R I J) fun x1 => (if x1.1 then (Mod_readAnd_14 R N N (x1.2.1 204 45) x1.2.1 x1.2.2) else (some (false, x1.2.1, x1.2.2)))
set_option maxRecDepth 8000 in
theorem t_Mod_readAnd_14 {d : Nat} {D : Nat} {R : FI → FJ → Option (Bool × FI × FJ)} {N : Nat} {c : Nat × Nat} {S : Nat → Nat × Nat} {P : Nat → Nat → Option Nat} {r : Bool × FI × FJ} (hd : D + 3 ≤ (d + 1)) (hR : ∀ {d : Nat} {I : FI} {J : FJ} {r : Bool × FI × FJ}, D ≤ d → OM S P → R I J = some r → Go d M_Mod_readSaid 0 [some (.ref 204), none, none, none] [] (c, S, I, J, P) (some (.int (b2i r.1)), false, (c, S, r.2.1, r.2.2, P))) (hw : OM S P) : ∀ (n : Nat) (l1 : Int32) (I : FI) (J : FJ), Mod_readAnd_14 R N n l1 I J = some r → Go (d + 1) M_Mod_readAnd 14 [some (.ref 204), some (.int l1)] [] (c, S, I, J, P) (some (.int (b2i r.1)), false, (c, S, r.2.1, r.2.2, P)) := by
  intro n
  induction n with
  | zero =>
    intro l1 I J h
    cases h
  | succ n ih =>
    intro l1 I J h
    unfold Mod_readAnd_14 at h
    refine g_aload_n cd285_14 rfl rfl ?_
    refine g_bipush cd285_15 rfl ?_
    refine g_callVZ (L := [some (.ref 204), some (.int 20)]) cd285_17 rfl rfl rfl rfl rfl (OM.o hw) (t_Mod_isWord (by omega) hw rfl) ?_
    refine g_if_eq cd285_20 rfl (fun hb => ?_) (fun hb => ?_)
    · have h := ifnE (b2i_f hb) h
      refine g_aload_n cd285_51 rfl rfl ?_
      refine g_iload_n cd285_52 rfl rfl ?_
      obtain ⟨I2, e1, h⟩ := bnd h
      refine G_putI cd285_53 rfl (OM.o hw) (Option.some.inj e1) ?_
      refine g_iconst cd285_56 rfl ?_
      exact g_iret cd285_57 (Or.inr ⟨rfl, Or.inr rfl⟩) (by obtain rfl := Option.some.inj h; rfl)
    · have h := ifpE (b2i_t hb) h
      refine g_aload_n cd285_23 rfl rfl ?_
      obtain ⟨x3, hx, h⟩ := bnd h
      refine g_callVV (L := [some (.ref 204), none, none, none, none]) cd285_24 rfl rfl rfl rfl rfl (OM.o hw) (t_Mod_go (by omega) hw hx) ?_
      refine g_aload_n cd285_27 rfl rfl ?_
      obtain ⟨x4, hx, h⟩ := bnd h
      refine g_callVZ (L := [some (.ref 204), none, none, none]) cd285_28 rfl rfl rfl rfl rfl (OM.o hw) (hR (by omega) hw hx) ?_
      refine g_if_ne cd285_31 rfl (fun hb => ?_) (fun hb => ?_)
      · have h := ifnE (b2i_f hb) h
        refine g_iconst cd285_34 rfl ?_
        exact g_iret cd285_35 (Or.inr ⟨rfl, Or.inl rfl⟩) (by obtain rfl := Option.some.inj h; rfl)
      · have h := ifpE (b2i_t hb) h
        refine g_aload_n cd285_36 rfl rfl ?_
        refine g_iconst cd285_37 rfl ?_
        refine g_iload_n cd285_38 rfl rfl ?_
        refine g_aload_n cd285_39 rfl rfl ?_
        refine g_getI cd285_40 rfl (OM.o hw) ?_
        refine g_iconst cd285_43 rfl ?_
        obtain ⟨x5, hx, h⟩ := bnd h
        refine g_callVI (L := [some (.ref 204), some (.int 2), some (.int l1), some (.int (x4.2.1 204 45)), some (.int 0), none]) cd285_44 rfl rfl rfl rfl rfl (OM.o hw) (t_Mod_saysOne (by omega) hw hx) ?_
        refine g_istore_n (ls2 := [some (.ref 204), some (.int x5.1)]) cd285_47 rfl rfl ?_
        refine g_goto (ls2 := [some (.ref 204), some (.int x5.1)]) cd285_48 rfl rfl ?_
        exact ih x5.1 x5.2 x4.2.2 h
set_option maxRecDepth 8000 in
theorem t_Mod_readAnd {d : Nat} {D : Nat} {R : FI → FJ → Option (Bool × FI × FJ)} {N : Nat} {c : Nat × Nat} {S : Nat → Nat × Nat} {P : Nat → Nat → Option Nat} {I : FI} {J : FJ} {r : Bool × FI × FJ} (hd : D + 3 ≤ d) (hR : ∀ {d : Nat} {I : FI} {J : FJ} {r : Bool × FI × FJ}, D ≤ d → OM S P → R I J = some r → Go d M_Mod_readSaid 0 [some (.ref 204), none, none, none] [] (c, S, I, J, P) (some (.int (b2i r.1)), false, (c, S, r.2.1, r.2.2, P))) (hw : OM S P) (h : Mod_readAnd R N I J = some r) : Go d M_Mod_readAnd 0 [some (.ref 204), none] [] (c, S, I, J, P) (some (.int (b2i r.1)), false, (c, S, r.2.1, r.2.2, P)) := by
  obtain ⟨d, rfl⟩ : ∃ e, d = e + 1 := ⟨d - 1, by omega⟩
  unfold Mod_readAnd at h
  refine g_aload_n cd285_0 rfl rfl ?_
  obtain ⟨x1, hx, h⟩ := bnd h
  refine g_callVZ (L := [some (.ref 204), none, none, none]) cd285_1 rfl rfl rfl rfl rfl (OM.o hw) (hR (by omega) hw hx) ?_
  refine g_if_ne cd285_4 rfl (fun hb => ?_) (fun hb => ?_)
  · have h := ifnE (b2i_f hb) h
    refine g_iconst cd285_7 rfl ?_
    exact g_iret cd285_8 (Or.inr ⟨rfl, Or.inl rfl⟩) (by obtain rfl := Option.some.inj h; rfl)
  · have h := ifpE (b2i_t hb) h
    refine g_aload_n cd285_9 rfl rfl ?_
    refine g_getI cd285_10 rfl (OM.o hw) ?_
    refine g_istore_n (ls2 := [some (.ref 204), some (.int (x1.2.1 204 45))]) cd285_13 rfl rfl ?_
    exact t_Mod_readAnd_14 hd hR hw _ (x1.2.1 204 45) x1.2.1 x1.2.2 h
/-! HiddenOrLostModel.readOr()Z -/
theorem cd284_0 : code9 284 0 = some (0, .aload_n 0, [1], .null, []) := rfl
theorem cd284_1 : code9 284 1 = some (0, .invokevirtual 400, [3, 285, 1, 1, 3, 2, 12, 0], .null, []) := rfl
theorem cd284_4 : code9 284 4 = some (0, .ifCond .ne 5, [3, 9], .null, []) := rfl
theorem cd284_7 : code9 284 7 = some (0, .iconst 0, [1], .int 0, []) := rfl
theorem cd284_8 : code9 284 8 = some (0, .ireturn, [1, 3], .null, []) := rfl
theorem cd284_9 : code9 284 9 = some (0, .aload_n 0, [1], .null, []) := rfl
theorem cd284_10 : code9 284 10 = some (0, .getfield 403, [3, 12, 45, 0], .null, []) := rfl
theorem cd284_13 : code9 284 13 = some (0, .istore_n 1, [1], .null, []) := rfl
theorem cd284_14 : code9 284 14 = some (3, .aload_n 0, [1], .null, []) := rfl
theorem cd284_15 : code9 284 15 = some (0, .bipush 19, [2], .int 19, []) := rfl
theorem cd284_17 : code9 284 17 = some (0, .invokevirtual 177, [3, 184, 2, 1, 3, 2, 12, 0], .null, []) := rfl
theorem cd284_20 : code9 284 20 = some (0, .ifCond .eq 31, [3, 51], .null, []) := rfl
theorem cd284_23 : code9 284 23 = some (0, .aload_n 0, [1], .null, []) := rfl
theorem cd284_24 : code9 284 24 = some (0, .invokevirtual 82, [3, 179, 1, 1, 0, 5, 12, 0], .null, []) := rfl
theorem cd284_27 : code9 284 27 = some (0, .aload_n 0, [1], .null, []) := rfl
theorem cd284_28 : code9 284 28 = some (0, .invokevirtual 400, [3, 285, 1, 1, 3, 2, 12, 0], .null, []) := rfl
theorem cd284_31 : code9 284 31 = some (0, .ifCond .ne 5, [3, 36], .null, []) := rfl
theorem cd284_34 : code9 284 34 = some (0, .iconst 0, [1], .int 0, []) := rfl
theorem cd284_35 : code9 284 35 = some (0, .ireturn, [1, 3], .null, []) := rfl
theorem cd284_36 : code9 284 36 = some (0, .aload_n 0, [1], .null, []) := rfl
theorem cd284_37 : code9 284 37 = some (0, .iconst 3, [1], .int 3, []) := rfl
theorem cd284_38 : code9 284 38 = some (0, .iload_n 1, [1], .null, []) := rfl
theorem cd284_39 : code9 284 39 = some (0, .aload_n 0, [1], .null, []) := rfl
theorem cd284_40 : code9 284 40 = some (0, .getfield 403, [3, 12, 45, 0], .null, []) := rfl
theorem cd284_43 : code9 284 43 = some (0, .iconst 0, [1], .int 0, []) := rfl
theorem cd284_44 : code9 284 44 = some (0, .invokevirtual 406, [3, 289, 5, 1, 1, 6, 12, 0], .null, []) := rfl
theorem cd284_47 : code9 284 47 = some (0, .istore_n 1, [1], .null, []) := rfl
theorem cd284_48 : code9 284 48 = some (0, .goto (-34), [3, 14, 2], .null, []) := rfl
theorem cd284_51 : code9 284 51 = some (0, .aload_n 0, [1], .null, []) := rfl
theorem cd284_52 : code9 284 52 = some (0, .iload_n 1, [1], .null, []) := rfl
theorem cd284_53 : code9 284 53 = some (0, .putfield 403, [3, 12, 45, 0], .null, []) := rfl
theorem cd284_56 : code9 284 56 = some (0, .iconst 1, [1], .int 1, []) := rfl
theorem cd284_57 : code9 284 57 = some (0, .ireturn, [1, 3], .null, []) := rfl
def Mod_readOr_14 (R : FI → FJ → Option (Bool × FI × FJ)) (N : Nat) : Nat → Int32 → FI → FJ → Option (Bool × FI × FJ)
  | 0 => fun _ _ _ => none
  | n + 1 => fun l1 I J => if (Mod_isWord 19 I J) then (Option.bind (Mod_go N I J) fun x3 => (Option.bind (Mod_readAnd R N x3.1 x3.2) fun x4 => (if x4.1 then (Option.bind (Mod_saysOne 3 l1 (x4.2.1 204 45) 0 x4.2.1) fun x5 => (Mod_readOr_14 R N n x5.1 x5.2 x4.2.2)) else (some (false, x4.2.1, x4.2.2))))) else (Option.bind (some (up2 I 204 45 l1)) fun I2 => (some (true, I2, J)))
def Mod_readOr (R : FI → FJ → Option (Bool × FI × FJ)) (N : Nat) (I : FI) (J : FJ) : Option (Bool × FI × FJ) := Option.bind (Mod_readAnd R N I J) fun x1 => (if x1.1 then (Mod_readOr_14 R N N (x1.2.1 204 45) x1.2.1 x1.2.2) else (some (false, x1.2.1, x1.2.2)))
set_option maxRecDepth 8000 in
theorem t_Mod_readOr_14 {d : Nat} {D : Nat} {R : FI → FJ → Option (Bool × FI × FJ)} {N : Nat} {c : Nat × Nat} {S : Nat → Nat × Nat} {P : Nat → Nat → Option Nat} {r : Bool × FI × FJ} (hd : D + 4 ≤ (d + 1)) (hR : ∀ {d : Nat} {I : FI} {J : FJ} {r : Bool × FI × FJ}, D ≤ d → OM S P → R I J = some r → Go d M_Mod_readSaid 0 [some (.ref 204), none, none, none] [] (c, S, I, J, P) (some (.int (b2i r.1)), false, (c, S, r.2.1, r.2.2, P))) (hw : OM S P) : ∀ (n : Nat) (l1 : Int32) (I : FI) (J : FJ), Mod_readOr_14 R N n l1 I J = some r → Go (d + 1) M_Mod_readOr 14 [some (.ref 204), some (.int l1)] [] (c, S, I, J, P) (some (.int (b2i r.1)), false, (c, S, r.2.1, r.2.2, P)) := by
  intro n
  induction n with
  | zero =>
    intro l1 I J h
    cases h
  | succ n ih =>
    intro l1 I J h
    unfold Mod_readOr_14 at h
    refine g_aload_n cd284_14 rfl rfl ?_
    refine g_bipush cd284_15 rfl ?_
    refine g_callVZ (L := [some (.ref 204), some (.int 19)]) cd284_17 rfl rfl rfl rfl rfl (OM.o hw) (t_Mod_isWord (by omega) hw rfl) ?_
    refine g_if_eq cd284_20 rfl (fun hb => ?_) (fun hb => ?_)
    · have h := ifnE (b2i_f hb) h
      refine g_aload_n cd284_51 rfl rfl ?_
      refine g_iload_n cd284_52 rfl rfl ?_
      obtain ⟨I2, e1, h⟩ := bnd h
      refine G_putI cd284_53 rfl (OM.o hw) (Option.some.inj e1) ?_
      refine g_iconst cd284_56 rfl ?_
      exact g_iret cd284_57 (Or.inr ⟨rfl, Or.inr rfl⟩) (by obtain rfl := Option.some.inj h; rfl)
    · have h := ifpE (b2i_t hb) h
      refine g_aload_n cd284_23 rfl rfl ?_
      obtain ⟨x3, hx, h⟩ := bnd h
      refine g_callVV (L := [some (.ref 204), none, none, none, none]) cd284_24 rfl rfl rfl rfl rfl (OM.o hw) (t_Mod_go (by omega) hw hx) ?_
      refine g_aload_n cd284_27 rfl rfl ?_
      obtain ⟨x4, hx, h⟩ := bnd h
      refine g_callVZ (L := [some (.ref 204), none]) cd284_28 rfl rfl rfl rfl rfl (OM.o hw) (t_Mod_readAnd (by omega) hR hw hx) ?_
      refine g_if_ne cd284_31 rfl (fun hb => ?_) (fun hb => ?_)
      · have h := ifnE (b2i_f hb) h
        refine g_iconst cd284_34 rfl ?_
        exact g_iret cd284_35 (Or.inr ⟨rfl, Or.inl rfl⟩) (by obtain rfl := Option.some.inj h; rfl)
      · have h := ifpE (b2i_t hb) h
        refine g_aload_n cd284_36 rfl rfl ?_
        refine g_iconst cd284_37 rfl ?_
        refine g_iload_n cd284_38 rfl rfl ?_
        refine g_aload_n cd284_39 rfl rfl ?_
        refine g_getI cd284_40 rfl (OM.o hw) ?_
        refine g_iconst cd284_43 rfl ?_
        obtain ⟨x5, hx, h⟩ := bnd h
        refine g_callVI (L := [some (.ref 204), some (.int 3), some (.int l1), some (.int (x4.2.1 204 45)), some (.int 0), none]) cd284_44 rfl rfl rfl rfl rfl (OM.o hw) (t_Mod_saysOne (by omega) hw hx) ?_
        refine g_istore_n (ls2 := [some (.ref 204), some (.int x5.1)]) cd284_47 rfl rfl ?_
        refine g_goto (ls2 := [some (.ref 204), some (.int x5.1)]) cd284_48 rfl rfl ?_
        exact ih x5.1 x5.2 x4.2.2 h
set_option maxRecDepth 8000 in
theorem t_Mod_readOr {d : Nat} {D : Nat} {R : FI → FJ → Option (Bool × FI × FJ)} {N : Nat} {c : Nat × Nat} {S : Nat → Nat × Nat} {P : Nat → Nat → Option Nat} {I : FI} {J : FJ} {r : Bool × FI × FJ} (hd : D + 4 ≤ d) (hR : ∀ {d : Nat} {I : FI} {J : FJ} {r : Bool × FI × FJ}, D ≤ d → OM S P → R I J = some r → Go d M_Mod_readSaid 0 [some (.ref 204), none, none, none] [] (c, S, I, J, P) (some (.int (b2i r.1)), false, (c, S, r.2.1, r.2.2, P))) (hw : OM S P) (h : Mod_readOr R N I J = some r) : Go d M_Mod_readOr 0 [some (.ref 204), none] [] (c, S, I, J, P) (some (.int (b2i r.1)), false, (c, S, r.2.1, r.2.2, P)) := by
  obtain ⟨d, rfl⟩ : ∃ e, d = e + 1 := ⟨d - 1, by omega⟩
  unfold Mod_readOr at h
  refine g_aload_n cd284_0 rfl rfl ?_
  obtain ⟨x1, hx, h⟩ := bnd h
  refine g_callVZ (L := [some (.ref 204), none]) cd284_1 rfl rfl rfl rfl rfl (OM.o hw) (t_Mod_readAnd (by omega) hR hw hx) ?_
  refine g_if_ne cd284_4 rfl (fun hb => ?_) (fun hb => ?_)
  · have h := ifnE (b2i_f hb) h
    refine g_iconst cd284_7 rfl ?_
    exact g_iret cd284_8 (Or.inr ⟨rfl, Or.inl rfl⟩) (by obtain rfl := Option.some.inj h; rfl)
  · have h := ifpE (b2i_t hb) h
    refine g_aload_n cd284_9 rfl rfl ?_
    refine g_getI cd284_10 rfl (OM.o hw) ?_
    refine g_istore_n (ls2 := [some (.ref 204), some (.int (x1.2.1 204 45))]) cd284_13 rfl rfl ?_
    exact t_Mod_readOr_14 hd hR hw _ (x1.2.1 204 45) x1.2.1 x1.2.2 h
/-! HiddenOrLostModel.readBracket()Z -/
theorem cd287_0 : code9 287 0 = some (0, .aload_n 0, [1], .null, []) := rfl
theorem cd287_1 : code9 287 1 = some (0, .invokevirtual 430, [3, 284, 1, 1, 3, 2, 12, 0], .null, []) := rfl
theorem cd287_4 : code9 287 4 = some (0, .ifCond .ne 5, [3, 9], .null, []) := rfl
theorem cd287_7 : code9 287 7 = some (0, .iconst 0, [1], .int 0, []) := rfl
theorem cd287_8 : code9 287 8 = some (0, .ireturn, [1, 3], .null, []) := rfl
theorem cd287_9 : code9 287 9 = some (0, .aload_n 0, [1], .null, []) := rfl
theorem cd287_10 : code9 287 10 = some (0, .bipush 41, [2], .int 41, []) := rfl
theorem cd287_12 : code9 287 12 = some (0, .invokevirtual 86, [3, 206, 2, 1, 3, 2, 12, 0], .null, []) := rfl
theorem cd287_15 : code9 287 15 = some (0, .ifCond .ne 9, [3, 24], .null, []) := rfl
theorem cd287_18 : code9 287 18 = some (0, .aload_n 0, [1], .null, []) := rfl
theorem cd287_19 : code9 287 19 = some (0, .iconst 1, [1], .int 1, []) := rfl
theorem cd287_20 : code9 287 20 = some (0, .invokevirtual 72, [3, 188, 2, 1, 3, 2, 12, 0], .null, []) := rfl
theorem cd287_23 : code9 287 23 = some (0, .ireturn, [1, 3], .null, []) := rfl
theorem cd287_24 : code9 287 24 = some (0, .aload_n 0, [1], .null, []) := rfl
theorem cd287_25 : code9 287 25 = some (0, .invokevirtual 82, [3, 179, 1, 1, 0, 5, 12, 0], .null, []) := rfl
theorem cd287_28 : code9 287 28 = some (0, .iconst 1, [1], .int 1, []) := rfl
theorem cd287_29 : code9 287 29 = some (0, .ireturn, [1, 3], .null, []) := rfl
def Mod_readBracket (R : FI → FJ → Option (Bool × FI × FJ)) (N : Nat) (I : FI) (J : FJ) : Option (Bool × FI × FJ) := Option.bind (Mod_readOr R N I J) fun x1 => (if x1.1 then (if (Mod_isSign 41 x1.2.1) then (Option.bind (Mod_go N x1.2.1 x1.2.2) fun x3 => (some (true, x3.1, x3.2))) else (Option.bind (Mod_bad 1 x1.2.1) fun x2 => (some (x2.1, x2.2, x1.2.2)))) else (some (false, x1.2.1, x1.2.2)))
set_option maxRecDepth 8000 in
theorem t_Mod_readBracket {d : Nat} {D : Nat} {R : FI → FJ → Option (Bool × FI × FJ)} {N : Nat} {c : Nat × Nat} {S : Nat → Nat × Nat} {P : Nat → Nat → Option Nat} {I : FI} {J : FJ} {r : Bool × FI × FJ} (hd : D + 5 ≤ d) (hR : ∀ {d : Nat} {I : FI} {J : FJ} {r : Bool × FI × FJ}, D ≤ d → OM S P → R I J = some r → Go d M_Mod_readSaid 0 [some (.ref 204), none, none, none] [] (c, S, I, J, P) (some (.int (b2i r.1)), false, (c, S, r.2.1, r.2.2, P))) (hw : OM S P) (h : Mod_readBracket R N I J = some r) : Go d M_Mod_readBracket 0 [some (.ref 204)] [] (c, S, I, J, P) (some (.int (b2i r.1)), false, (c, S, r.2.1, r.2.2, P)) := by
  obtain ⟨d, rfl⟩ : ∃ e, d = e + 1 := ⟨d - 1, by omega⟩
  unfold Mod_readBracket at h
  refine g_aload_n cd287_0 rfl rfl ?_
  obtain ⟨x1, hx, h⟩ := bnd h
  refine g_callVZ (L := [some (.ref 204), none]) cd287_1 rfl rfl rfl rfl rfl (OM.o hw) (t_Mod_readOr (by omega) hR hw hx) ?_
  refine g_if_ne cd287_4 rfl (fun hb => ?_) (fun hb => ?_)
  · have h := ifnE (b2i_f hb) h
    refine g_iconst cd287_7 rfl ?_
    exact g_iret cd287_8 (Or.inr ⟨rfl, Or.inl rfl⟩) (by obtain rfl := Option.some.inj h; rfl)
  · have h := ifpE (b2i_t hb) h
    refine g_aload_n cd287_9 rfl rfl ?_
    refine g_bipush cd287_10 rfl ?_
    refine g_callVZ (L := [some (.ref 204), some (.int 41)]) cd287_12 rfl rfl rfl rfl rfl (OM.o hw) (t_Mod_isSign (by omega) hw rfl) ?_
    refine g_if_ne cd287_15 rfl (fun hb => ?_) (fun hb => ?_)
    · have h := ifnE (b2i_f hb) h
      refine g_aload_n cd287_18 rfl rfl ?_
      refine g_iconst cd287_19 rfl ?_
      obtain ⟨x2, hx, h⟩ := bnd h
      refine g_callVZ (L := [some (.ref 204), some (.int 1)]) cd287_20 rfl rfl rfl rfl rfl (OM.o hw) (t_Mod_bad (by omega) hw hx) ?_
      exact g_iret cd287_23 (Or.inr ⟨rfl, b2i_or _⟩) (by obtain rfl := Option.some.inj h; rfl)
    · have h := ifpE (b2i_t hb) h
      refine g_aload_n cd287_24 rfl rfl ?_
      obtain ⟨x3, hx, h⟩ := bnd h
      refine g_callVV (L := [some (.ref 204), none, none, none, none]) cd287_25 rfl rfl rfl rfl rfl (OM.o hw) (t_Mod_go (by omega) hw hx) ?_
      refine g_iconst cd287_28 rfl ?_
      exact g_iret cd287_29 (Or.inr ⟨rfl, Or.inr rfl⟩) (by obtain rfl := Option.some.inj h; rfl)
/-! HiddenOrLostModel.readNot()Z -/
theorem cd288_0 : code9 288 0 = some (0, .aload_n 0, [1], .null, []) := rfl
theorem cd288_1 : code9 288 1 = some (0, .invokevirtual 409, [3, 286, 1, 1, 3, 4, 12, 0], .null, []) := rfl
theorem cd288_4 : code9 288 4 = some (0, .ifCond .ne 5, [3, 9], .null, []) := rfl
theorem cd288_7 : code9 288 7 = some (0, .iconst 0, [1], .int 0, []) := rfl
theorem cd288_8 : code9 288 8 = some (0, .ireturn, [1, 3], .null, []) := rfl
theorem cd288_9 : code9 288 9 = some (0, .aload_n 0, [1], .null, []) := rfl
theorem cd288_10 : code9 288 10 = some (0, .aload_n 0, [1], .null, []) := rfl
theorem cd288_11 : code9 288 11 = some (0, .iconst 1, [1], .int 1, []) := rfl
theorem cd288_12 : code9 288 12 = some (0, .aload_n 0, [1], .null, []) := rfl
theorem cd288_13 : code9 288 13 = some (0, .getfield 403, [3, 12, 45, 0], .null, []) := rfl
theorem cd288_16 : code9 288 16 = some (0, .iconst 0, [1], .int 0, []) := rfl
theorem cd288_17 : code9 288 17 = some (0, .iconst 0, [1], .int 0, []) := rfl
theorem cd288_18 : code9 288 18 = some (0, .invokevirtual 406, [3, 289, 5, 1, 1, 6, 12, 0], .null, []) := rfl
theorem cd288_21 : code9 288 21 = some (0, .putfield 403, [3, 12, 45, 0], .null, []) := rfl
theorem cd288_24 : code9 288 24 = some (0, .iconst 1, [1], .int 1, []) := rfl
theorem cd288_25 : code9 288 25 = some (0, .ireturn, [1, 3], .null, []) := rfl
def Mod_readNot (R : FI → FJ → Option (Bool × FI × FJ)) (N : Nat) (I : FI) (J : FJ) : Option (Bool × FI × FJ) := Option.bind (R I J) fun x1 => (if x1.1 then (Option.bind (Mod_saysOne 1 (x1.2.1 204 45) 0 0 x1.2.1) fun x2 => (Option.bind (some (up2 x2.2 204 45 x2.1)) fun I3 => (some (true, I3, x1.2.2)))) else (some (false, x1.2.1, x1.2.2)))
set_option maxRecDepth 8000 in
theorem t_Mod_readNot {d : Nat} {D : Nat} {R : FI → FJ → Option (Bool × FI × FJ)} {N : Nat} {c : Nat × Nat} {S : Nat → Nat × Nat} {P : Nat → Nat → Option Nat} {I : FI} {J : FJ} {r : Bool × FI × FJ} (hd : D + 1 ≤ d) (hR : ∀ {d : Nat} {I : FI} {J : FJ} {r : Bool × FI × FJ}, D ≤ d → OM S P → R I J = some r → Go d M_Mod_readSaid 0 [some (.ref 204), none, none, none] [] (c, S, I, J, P) (some (.int (b2i r.1)), false, (c, S, r.2.1, r.2.2, P))) (hw : OM S P) (h : Mod_readNot R N I J = some r) : Go d M_Mod_readNot 0 [some (.ref 204)] [] (c, S, I, J, P) (some (.int (b2i r.1)), false, (c, S, r.2.1, r.2.2, P)) := by
  obtain ⟨d, rfl⟩ : ∃ e, d = e + 1 := ⟨d - 1, by omega⟩
  unfold Mod_readNot at h
  refine g_aload_n cd288_0 rfl rfl ?_
  obtain ⟨x1, hx, h⟩ := bnd h
  refine g_callVZ (L := [some (.ref 204), none, none, none]) cd288_1 rfl rfl rfl rfl rfl (OM.o hw) (hR (by omega) hw hx) ?_
  refine g_if_ne cd288_4 rfl (fun hb => ?_) (fun hb => ?_)
  · have h := ifnE (b2i_f hb) h
    refine g_iconst cd288_7 rfl ?_
    exact g_iret cd288_8 (Or.inr ⟨rfl, Or.inl rfl⟩) (by obtain rfl := Option.some.inj h; rfl)
  · have h := ifpE (b2i_t hb) h
    refine g_aload_n cd288_9 rfl rfl ?_
    refine g_aload_n cd288_10 rfl rfl ?_
    refine g_iconst cd288_11 rfl ?_
    refine g_aload_n cd288_12 rfl rfl ?_
    refine g_getI cd288_13 rfl (OM.o hw) ?_
    refine g_iconst cd288_16 rfl ?_
    refine g_iconst cd288_17 rfl ?_
    obtain ⟨x2, hx, h⟩ := bnd h
    refine g_callVI (L := [some (.ref 204), some (.int 1), some (.int (x1.2.1 204 45)), some (.int 0), some (.int 0), none]) cd288_18 rfl rfl rfl rfl rfl (OM.o hw) (t_Mod_saysOne (by omega) hw hx) ?_
    obtain ⟨I3, e1, h⟩ := bnd h
    refine G_putI cd288_21 rfl (OM.o hw) (Option.some.inj e1) ?_
    refine g_iconst cd288_24 rfl ?_
    exact g_iret cd288_25 (Or.inr ⟨rfl, Or.inr rfl⟩) (by obtain rfl := Option.some.inj h; rfl)
/-! HiddenOrLostModel.readWhom()Z -/
theorem cd291_0 : code9 291 0 = some (0, .aload_n 0, [1], .null, []) := rfl
theorem cd291_1 : code9 291 1 = some (0, .invokevirtual 169, [3, 196, 1, 1, 3, 2, 12, 0], .null, []) := rfl
theorem cd291_4 : code9 291 4 = some (0, .ifCond .ne 9, [3, 13], .null, []) := rfl
theorem cd291_7 : code9 291 7 = some (0, .aload_n 0, [1], .null, []) := rfl
theorem cd291_8 : code9 291 8 = some (0, .iconst 1, [1], .int 1, []) := rfl
theorem cd291_9 : code9 291 9 = some (0, .invokevirtual 72, [3, 188, 2, 1, 3, 2, 12, 0], .null, []) := rfl
theorem cd291_12 : code9 291 12 = some (0, .ireturn, [1, 3], .null, []) := rfl
theorem cd291_13 : code9 291 13 = some (0, .aload_n 0, [1], .null, []) := rfl
theorem cd291_14 : code9 291 14 = some (0, .aload_n 0, [1], .null, []) := rfl
theorem cd291_15 : code9 291 15 = some (0, .getfield 113, [3, 12, 19, 2], .null, []) := rfl
theorem cd291_18 : code9 291 18 = some (0, .iconst 0, [1], .int 0, []) := rfl
theorem cd291_19 : code9 291 19 = some (0, .aload_n 0, [1], .null, []) := rfl
theorem cd291_20 : code9 291 20 = some (0, .getfield 98, [3, 12, 14, 2], .null, []) := rfl
theorem cd291_23 : code9 291 23 = some (0, .iconst 0, [1], .int 0, []) := rfl
theorem cd291_24 : code9 291 24 = some (0, .iaload, [1], .null, []) := rfl
theorem cd291_25 : code9 291 25 = some (0, .aload_n 0, [1], .null, []) := rfl
theorem cd291_26 : code9 291 26 = some (0, .getfield 43, [3, 12, 12, 1], .null, []) := rfl
theorem cd291_29 : code9 291 29 = some (0, .invokestatic 173, [3, 197, 4, 0, 1, 6, 12, 0], .null, []) := rfl
theorem cd291_32 : code9 291 32 = some (0, .putfield 79, [3, 12, 13, 0], .null, []) := rfl
theorem cd291_35 : code9 291 35 = some (0, .aload_n 0, [1], .null, []) := rfl
theorem cd291_36 : code9 291 36 = some (0, .getfield 79, [3, 12, 13, 0], .null, []) := rfl
theorem cd291_39 : code9 291 39 = some (0, .iconst (-1), [1], .int (-1), []) := rfl
theorem cd291_40 : code9 291 40 = some (0, .if_icmp .ne 9, [3, 49], .null, []) := rfl
theorem cd291_43 : code9 291 43 = some (0, .aload_n 0, [1], .null, []) := rfl
theorem cd291_44 : code9 291 44 = some (0, .iconst 3, [1], .int 3, []) := rfl
theorem cd291_45 : code9 291 45 = some (0, .invokevirtual 72, [3, 188, 2, 1, 3, 2, 12, 0], .null, []) := rfl
theorem cd291_48 : code9 291 48 = some (0, .ireturn, [1, 3], .null, []) := rfl
theorem cd291_49 : code9 291 49 = some (0, .aload_n 0, [1], .null, []) := rfl
theorem cd291_50 : code9 291 50 = some (0, .invokevirtual 82, [3, 179, 1, 1, 0, 5, 12, 0], .null, []) := rfl
theorem cd291_53 : code9 291 53 = some (0, .iconst 1, [1], .int 1, []) := rfl
theorem cd291_54 : code9 291 54 = some (0, .ireturn, [1, 3], .null, []) := rfl
def Mod_readWhom (N : Nat) (I : FI) (J : FJ) : Option (Bool × FI × FJ) := Option.bind (Mod_isName N I J) fun x1 => (if x1 then (Option.bind (Mod_findIn N 211 22 0 (I 206 ((0 : Int32).toNatClampNeg)) (J 204 12) J) fun x3 => (Option.bind (some (up2 I 204 13 x3)) fun I4 => (if (I4 204 13) = (-1) then (Option.bind (Mod_bad 3 I4) fun x5 => (some (x5.1, x5.2, J))) else (Option.bind (Mod_go N I4 J) fun x6 => (some (true, x6.1, x6.2)))))) else (Option.bind (Mod_bad 1 I) fun x2 => (some (x2.1, x2.2, J))))
set_option maxRecDepth 8000 in
theorem t_Mod_readWhom {d : Nat} {N : Nat} {c : Nat × Nat} {S : Nat → Nat × Nat} {P : Nat → Nat → Option Nat} {I : FI} {J : FJ} {r : Bool × FI × FJ} (hd : 3 ≤ d) (hw : OM S P) (h : Mod_readWhom N I J = some r) : Go d M_Mod_readWhom 0 [some (.ref 204)] [] (c, S, I, J, P) (some (.int (b2i r.1)), false, (c, S, r.2.1, r.2.2, P)) := by
  obtain ⟨d, rfl⟩ : ∃ e, d = e + 1 := ⟨d - 1, by omega⟩
  unfold Mod_readWhom at h
  refine g_aload_n cd291_0 rfl rfl ?_
  obtain ⟨x1, hx, h⟩ := bnd h
  refine g_callVZ (L := [some (.ref 204), none]) cd291_1 rfl rfl rfl rfl rfl (OM.o hw) (t_Mod_isName (by omega) hw hx) ?_
  refine g_if_ne cd291_4 rfl (fun hb => ?_) (fun hb => ?_)
  · have h := ifnE (b2i_f hb) h
    refine g_aload_n cd291_7 rfl rfl ?_
    refine g_iconst cd291_8 rfl ?_
    obtain ⟨x2, hx, h⟩ := bnd h
    refine g_callVZ (L := [some (.ref 204), some (.int 1)]) cd291_9 rfl rfl rfl rfl rfl (OM.o hw) (t_Mod_bad (by omega) hw hx) ?_
    exact g_iret cd291_12 (Or.inr ⟨rfl, b2i_or _⟩) (by obtain rfl := Option.some.inj h; rfl)
  · have h := ifpE (b2i_t hb) h
    refine g_aload_n cd291_13 rfl rfl ?_
    refine g_aload_n cd291_14 rfl rfl ?_
    refine g_getP cd291_15 rfl (OM.o hw) (OM.p19 hw) ?_
    refine g_iconst cd291_18 rfl ?_
    refine g_aload_n cd291_19 rfl rfl ?_
    refine g_getP cd291_20 rfl (OM.o hw) (OM.p14 hw) ?_
    refine g_iconst cd291_23 rfl ?_
    refine G_iald cd291_24 rfl (OM.s14 hw) (by decide) ?_
    refine g_aload_n cd291_25 rfl rfl ?_
    refine g_getJ cd291_26 rfl (OM.o hw) ?_
    obtain ⟨x3, hx, h⟩ := bnd h
    refine g_callSI (L := [some (.ref 211), some (.int 0), some (.int (I 206 ((0 : Int32).toNatClampNeg))), some (.long (J 204 12)), none, none]) cd291_29 rfl rfl rfl rfl rfl (t_Mod_findIn (by omega) (OM.s19 hw) hx) ?_
    obtain ⟨I4, e1, h⟩ := bnd h
    refine G_putI cd291_32 rfl (OM.o hw) (Option.some.inj e1) ?_
    refine g_aload_n cd291_35 rfl rfl ?_
    refine g_getI cd291_36 rfl (OM.o hw) ?_
    refine g_iconst cd291_39 rfl ?_
    refine g_icmp_ne cd291_40 rfl (fun hb => ?_) (fun hb => ?_)
    · have h := ifpE hb h
      refine g_aload_n cd291_43 rfl rfl ?_
      refine g_iconst cd291_44 rfl ?_
      obtain ⟨x5, hx, h⟩ := bnd h
      refine g_callVZ (L := [some (.ref 204), some (.int 3)]) cd291_45 rfl rfl rfl rfl rfl (OM.o hw) (t_Mod_bad (by omega) hw hx) ?_
      exact g_iret cd291_48 (Or.inr ⟨rfl, b2i_or _⟩) (by obtain rfl := Option.some.inj h; rfl)
    · have h := ifnE hb h
      refine g_aload_n cd291_49 rfl rfl ?_
      obtain ⟨x6, hx, h⟩ := bnd h
      refine g_callVV (L := [some (.ref 204), none, none, none, none]) cd291_50 rfl rfl rfl rfl rfl (OM.o hw) (t_Mod_go (by omega) hw hx) ?_
      refine g_iconst cd291_53 rfl ?_
      exact g_iret cd291_54 (Or.inr ⟨rfl, Or.inr rfl⟩) (by obtain rfl := Option.some.inj h; rfl)
/-! HiddenOrLostModel.readOf(I)Z -/
theorem cd290_0 : code9 290 0 = some (0, .aload_n 0, [1], .null, []) := rfl
theorem cd290_1 : code9 290 1 = some (0, .invokevirtual 433, [3, 291, 1, 1, 3, 1, 12, 0], .null, []) := rfl
theorem cd290_4 : code9 290 4 = some (0, .ifCond .ne 5, [3, 9], .null, []) := rfl
theorem cd290_7 : code9 290 7 = some (0, .iconst 0, [1], .int 0, []) := rfl
theorem cd290_8 : code9 290 8 = some (0, .ireturn, [1, 3], .null, []) := rfl
theorem cd290_9 : code9 290 9 = some (0, .aload_n 0, [1], .null, []) := rfl
theorem cd290_10 : code9 290 10 = some (0, .aload_n 0, [1], .null, []) := rfl
theorem cd290_11 : code9 290 11 = some (0, .bipush 50, [2], .int 50, []) := rfl
theorem cd290_13 : code9 290 13 = some (0, .iload_n 1, [1], .null, []) := rfl
theorem cd290_14 : code9 290 14 = some (0, .iadd, [1], .null, []) := rfl
theorem cd290_15 : code9 290 15 = some (0, .aload_n 0, [1], .null, []) := rfl
theorem cd290_16 : code9 290 16 = some (0, .getfield 79, [3, 12, 13, 0], .null, []) := rfl
theorem cd290_19 : code9 290 19 = some (0, .iconst 0, [1], .int 0, []) := rfl
theorem cd290_20 : code9 290 20 = some (0, .iconst 0, [1], .int 0, []) := rfl
theorem cd290_21 : code9 290 21 = some (0, .invokevirtual 406, [3, 289, 5, 1, 1, 6, 12, 0], .null, []) := rfl
theorem cd290_24 : code9 290 24 = some (0, .putfield 403, [3, 12, 45, 0], .null, []) := rfl
theorem cd290_27 : code9 290 27 = some (0, .iconst 1, [1], .int 1, []) := rfl
theorem cd290_28 : code9 290 28 = some (0, .ireturn, [1, 3], .null, []) := rfl
def Mod_readOf (N : Nat) (l1 : Int32) (I : FI) (J : FJ) : Option (Bool × FI × FJ) := Option.bind (Mod_readWhom N I J) fun x1 => (if x1.1 then (Option.bind (Mod_saysOne (50 + l1) (x1.2.1 204 13) 0 0 x1.2.1) fun x2 => (Option.bind (some (up2 x2.2 204 45 x2.1)) fun I3 => (some (true, I3, x1.2.2)))) else (some (false, x1.2.1, x1.2.2)))
set_option maxRecDepth 8000 in
theorem t_Mod_readOf {d : Nat} {N : Nat} {c : Nat × Nat} {S : Nat → Nat × Nat} {P : Nat → Nat → Option Nat} {I : FI} {J : FJ} {l1 : Int32} {r : Bool × FI × FJ} (hd : 4 ≤ d) (hw : OM S P) (h : Mod_readOf N l1 I J = some r) : Go d M_Mod_readOf 0 [some (.ref 204), some (.int l1)] [] (c, S, I, J, P) (some (.int (b2i r.1)), false, (c, S, r.2.1, r.2.2, P)) := by
  obtain ⟨d, rfl⟩ : ∃ e, d = e + 1 := ⟨d - 1, by omega⟩
  unfold Mod_readOf at h
  refine g_aload_n cd290_0 rfl rfl ?_
  obtain ⟨x1, hx, h⟩ := bnd h
  refine g_callVZ (L := [some (.ref 204)]) cd290_1 rfl rfl rfl rfl rfl (OM.o hw) (t_Mod_readWhom (by omega) hw hx) ?_
  refine g_if_ne cd290_4 rfl (fun hb => ?_) (fun hb => ?_)
  · have h := ifnE (b2i_f hb) h
    refine g_iconst cd290_7 rfl ?_
    exact g_iret cd290_8 (Or.inr ⟨rfl, Or.inl rfl⟩) (by obtain rfl := Option.some.inj h; rfl)
  · have h := ifpE (b2i_t hb) h
    refine g_aload_n cd290_9 rfl rfl ?_
    refine g_aload_n cd290_10 rfl rfl ?_
    refine g_bipush cd290_11 rfl ?_
    refine g_iload_n cd290_13 rfl rfl ?_
    refine g_iadd cd290_14 rfl ?_
    refine g_aload_n cd290_15 rfl rfl ?_
    refine g_getI cd290_16 rfl (OM.o hw) ?_
    refine g_iconst cd290_19 rfl ?_
    refine g_iconst cd290_20 rfl ?_
    obtain ⟨x2, hx, h⟩ := bnd h
    refine g_callVI (L := [some (.ref 204), some (.int (50 + l1)), some (.int (x1.2.1 204 13)), some (.int 0), some (.int 0), none]) cd290_21 rfl rfl rfl rfl rfl (OM.o hw) (t_Mod_saysOne (by omega) hw hx) ?_
    obtain ⟨I3, e1, h⟩ := bnd h
    refine G_putI cd290_24 rfl (OM.o hw) (Option.some.inj e1) ?_
    refine g_iconst cd290_27 rfl ?_
    exact g_iret cd290_28 (Or.inr ⟨rfl, Or.inr rfl⟩) (by obtain rfl := Option.some.inj h; rfl)
/-! HiddenOrLostModel.readCompare(I)Z -/
theorem cd292_0 : code9 292 0 = some (0, .aload_n 0, [1], .null, []) := rfl
theorem cd292_1 : code9 292 1 = some (0, .bipush 60, [2], .int 60, []) := rfl
theorem cd292_3 : code9 292 3 = some (0, .invokevirtual 86, [3, 206, 2, 1, 3, 2, 12, 0], .null, []) := rfl
theorem cd292_6 : code9 292 6 = some (0, .ifCond .ne 27, [3, 33], .null, []) := rfl
theorem cd292_9 : code9 292 9 = some (0, .aload_n 0, [1], .null, []) := rfl
theorem cd292_10 : code9 292 10 = some (0, .bipush 61, [2], .int 61, []) := rfl
theorem cd292_12 : code9 292 12 = some (0, .invokevirtual 86, [3, 206, 2, 1, 3, 2, 12, 0], .null, []) := rfl
theorem cd292_15 : code9 292 15 = some (0, .ifCond .ne 18, [3, 33], .null, []) := rfl
theorem cd292_18 : code9 292 18 = some (0, .aload_n 0, [1], .null, []) := rfl
theorem cd292_19 : code9 292 19 = some (0, .bipush 62, [2], .int 62, []) := rfl
theorem cd292_21 : code9 292 21 = some (0, .invokevirtual 86, [3, 206, 2, 1, 3, 2, 12, 0], .null, []) := rfl
theorem cd292_24 : code9 292 24 = some (0, .ifCond .ne 9, [3, 33], .null, []) := rfl
theorem cd292_27 : code9 292 27 = some (0, .aload_n 0, [1], .null, []) := rfl
theorem cd292_28 : code9 292 28 = some (0, .iconst 1, [1], .int 1, []) := rfl
theorem cd292_29 : code9 292 29 = some (0, .invokevirtual 72, [3, 188, 2, 1, 3, 2, 12, 0], .null, []) := rfl
theorem cd292_32 : code9 292 32 = some (0, .ireturn, [1, 3], .null, []) := rfl
theorem cd292_33 : code9 292 33 = some (3, .aload_n 0, [1], .null, []) := rfl
theorem cd292_34 : code9 292 34 = some (0, .getfield 40, [3, 12, 9, 0], .null, []) := rfl
theorem cd292_37 : code9 292 37 = some (0, .istore_n 2, [1], .null, []) := rfl
theorem cd292_38 : code9 292 38 = some (0, .aload_n 0, [1], .null, []) := rfl
theorem cd292_39 : code9 292 39 = some (0, .invokevirtual 82, [3, 179, 1, 1, 0, 5, 12, 0], .null, []) := rfl
theorem cd292_42 : code9 292 42 = some (0, .aload_n 0, [1], .null, []) := rfl
theorem cd292_43 : code9 292 43 = some (0, .iconst 0, [1], .int 0, []) := rfl
theorem cd292_44 : code9 292 44 = some (0, .sipush 999, [3], .int 999, []) := rfl
theorem cd292_47 : code9 292 47 = some (0, .invokevirtual 183, [3, 190, 3, 1, 3, 3, 12, 0], .null, []) := rfl
theorem cd292_50 : code9 292 50 = some (0, .ifCond .ne 5, [3, 55], .null, []) := rfl
theorem cd292_53 : code9 292 53 = some (0, .iconst 0, [1], .int 0, []) := rfl
theorem cd292_54 : code9 292 54 = some (0, .ireturn, [1, 3], .null, []) := rfl
theorem cd292_55 : code9 292 55 = some (0, .aload_n 0, [1], .null, []) := rfl
theorem cd292_56 : code9 292 56 = some (0, .aload_n 0, [1], .null, []) := rfl
theorem cd292_57 : code9 292 57 = some (0, .bipush 50, [2], .int 50, []) := rfl
theorem cd292_59 : code9 292 59 = some (0, .iload_n 1, [1], .null, []) := rfl
theorem cd292_60 : code9 292 60 = some (0, .iadd, [1], .null, []) := rfl
theorem cd292_61 : code9 292 61 = some (0, .iconst 0, [1], .int 0, []) := rfl
theorem cd292_62 : code9 292 62 = some (0, .aload_n 0, [1], .null, []) := rfl
theorem cd292_63 : code9 292 63 = some (0, .getfield 79, [3, 12, 13, 0], .null, []) := rfl
theorem cd292_66 : code9 292 66 = some (0, .iload_n 2, [1], .null, []) := rfl
theorem cd292_67 : code9 292 67 = some (0, .invokevirtual 406, [3, 289, 5, 1, 1, 6, 12, 0], .null, []) := rfl
theorem cd292_70 : code9 292 70 = some (0, .putfield 403, [3, 12, 45, 0], .null, []) := rfl
theorem cd292_73 : code9 292 73 = some (0, .iconst 1, [1], .int 1, []) := rfl
theorem cd292_74 : code9 292 74 = some (0, .ireturn, [1, 3], .null, []) := rfl
def Mod_readCompare (N : Nat) (l1 : Int32) (I : FI) (J : FJ) : Option (Bool × FI × FJ) := if (Mod_isSign 60 I) then (Option.bind (Mod_go N I J) fun x10 => (Option.bind (Mod_readNumber N 0 999 x10.1 x10.2) fun x11 => (if x11.1 then (Option.bind (Mod_saysOne (50 + l1) 0 (x11.2.1 204 13) (I 204 9) x11.2.1) fun x12 => (Option.bind (some (up2 x12.2 204 45 x12.1)) fun I13 => (some (true, I13, x11.2.2)))) else (some (false, x11.2.1, x11.2.2))))) else (if (Mod_isSign 61 I) then (Option.bind (Mod_go N I J) fun x6 => (Option.bind (Mod_readNumber N 0 999 x6.1 x6.2) fun x7 => (if x7.1 then (Option.bind (Mod_saysOne (50 + l1) 0 (x7.2.1 204 13) (I 204 9) x7.2.1) fun x8 => (Option.bind (some (up2 x8.2 204 45 x8.1)) fun I9 => (some (true, I9, x7.2.2)))) else (some (false, x7.2.1, x7.2.2))))) else (if (Mod_isSign 62 I) then (Option.bind (Mod_go N I J) fun x2 => (Option.bind (Mod_readNumber N 0 999 x2.1 x2.2) fun x3 => (if x3.1 then (Option.bind (Mod_saysOne (50 + l1) 0 (x3.2.1 204 13) (I 204 9) x3.2.1) fun x4 => (Option.bind (some (up2 x4.2 204 45 x4.1)) fun I5 => (some (true, I5, x3.2.2)))) else (some (false, x3.2.1, x3.2.2))))) else (Option.bind (Mod_bad 1 I) fun x1 => (some (x1.1, x1.2, J)))))
set_option maxRecDepth 8000 in
theorem t_Mod_readCompare {d : Nat} {N : Nat} {c : Nat × Nat} {S : Nat → Nat × Nat} {P : Nat → Nat → Option Nat} {I : FI} {J : FJ} {l1 : Int32} {r : Bool × FI × FJ} (hd : 3 ≤ d) (hw : OM S P) (h : Mod_readCompare N l1 I J = some r) : Go d M_Mod_readCompare 0 [some (.ref 204), some (.int l1), none] [] (c, S, I, J, P) (some (.int (b2i r.1)), false, (c, S, r.2.1, r.2.2, P)) := by
  obtain ⟨d, rfl⟩ : ∃ e, d = e + 1 := ⟨d - 1, by omega⟩
  unfold Mod_readCompare at h
  refine g_aload_n cd292_0 rfl rfl ?_
  refine g_bipush cd292_1 rfl ?_
  refine g_callVZ (L := [some (.ref 204), some (.int 60)]) cd292_3 rfl rfl rfl rfl rfl (OM.o hw) (t_Mod_isSign (by omega) hw rfl) ?_
  refine g_if_ne cd292_6 rfl (fun hb => ?_) (fun hb => ?_)
  · have h := ifnE (b2i_f hb) h
    refine g_aload_n cd292_9 rfl rfl ?_
    refine g_bipush cd292_10 rfl ?_
    refine g_callVZ (L := [some (.ref 204), some (.int 61)]) cd292_12 rfl rfl rfl rfl rfl (OM.o hw) (t_Mod_isSign (by omega) hw rfl) ?_
    refine g_if_ne cd292_15 rfl (fun hb => ?_) (fun hb => ?_)
    · have h := ifnE (b2i_f hb) h
      refine g_aload_n cd292_18 rfl rfl ?_
      refine g_bipush cd292_19 rfl ?_
      refine g_callVZ (L := [some (.ref 204), some (.int 62)]) cd292_21 rfl rfl rfl rfl rfl (OM.o hw) (t_Mod_isSign (by omega) hw rfl) ?_
      refine g_if_ne cd292_24 rfl (fun hb => ?_) (fun hb => ?_)
      · have h := ifnE (b2i_f hb) h
        refine g_aload_n cd292_27 rfl rfl ?_
        refine g_iconst cd292_28 rfl ?_
        obtain ⟨x1, hx, h⟩ := bnd h
        refine g_callVZ (L := [some (.ref 204), some (.int 1)]) cd292_29 rfl rfl rfl rfl rfl (OM.o hw) (t_Mod_bad (by omega) hw hx) ?_
        exact g_iret cd292_32 (Or.inr ⟨rfl, b2i_or _⟩) (by obtain rfl := Option.some.inj h; rfl)
      · have h := ifpE (b2i_t hb) h
        refine g_aload_n cd292_33 rfl rfl ?_
        refine g_getI cd292_34 rfl (OM.o hw) ?_
        refine g_istore_n (ls2 := [some (.ref 204), some (.int l1), some (.int (I 204 9))]) cd292_37 rfl rfl ?_
        refine g_aload_n cd292_38 rfl rfl ?_
        obtain ⟨x2, hx, h⟩ := bnd h
        refine g_callVV (L := [some (.ref 204), none, none, none, none]) cd292_39 rfl rfl rfl rfl rfl (OM.o hw) (t_Mod_go (by omega) hw hx) ?_
        refine g_aload_n cd292_42 rfl rfl ?_
        refine g_iconst cd292_43 rfl ?_
        refine g_sipush cd292_44 rfl ?_
        obtain ⟨x3, hx, h⟩ := bnd h
        refine g_callVZ (L := [some (.ref 204), some (.int 0), some (.int 999)]) cd292_47 rfl rfl rfl rfl rfl (OM.o hw) (t_Mod_readNumber (by omega) hw hx) ?_
        refine g_if_ne cd292_50 rfl (fun hb => ?_) (fun hb => ?_)
        · have h := ifnE (b2i_f hb) h
          refine g_iconst cd292_53 rfl ?_
          exact g_iret cd292_54 (Or.inr ⟨rfl, Or.inl rfl⟩) (by obtain rfl := Option.some.inj h; rfl)
        · have h := ifpE (b2i_t hb) h
          refine g_aload_n cd292_55 rfl rfl ?_
          refine g_aload_n cd292_56 rfl rfl ?_
          refine g_bipush cd292_57 rfl ?_
          refine g_iload_n cd292_59 rfl rfl ?_
          refine g_iadd cd292_60 rfl ?_
          refine g_iconst cd292_61 rfl ?_
          refine g_aload_n cd292_62 rfl rfl ?_
          refine g_getI cd292_63 rfl (OM.o hw) ?_
          refine g_iload_n cd292_66 rfl rfl ?_
          obtain ⟨x4, hx, h⟩ := bnd h
          refine g_callVI (L := [some (.ref 204), some (.int (50 + l1)), some (.int 0), some (.int (x3.2.1 204 13)), some (.int (I 204 9)), none]) cd292_67 rfl rfl rfl rfl rfl (OM.o hw) (t_Mod_saysOne (by omega) hw hx) ?_
          obtain ⟨I5, e1, h⟩ := bnd h
          refine G_putI cd292_70 rfl (OM.o hw) (Option.some.inj e1) ?_
          refine g_iconst cd292_73 rfl ?_
          exact g_iret cd292_74 (Or.inr ⟨rfl, Or.inr rfl⟩) (by obtain rfl := Option.some.inj h; rfl)
    · have h := ifpE (b2i_t hb) h
      refine g_aload_n cd292_33 rfl rfl ?_
      refine g_getI cd292_34 rfl (OM.o hw) ?_
      refine g_istore_n (ls2 := [some (.ref 204), some (.int l1), some (.int (I 204 9))]) cd292_37 rfl rfl ?_
      refine g_aload_n cd292_38 rfl rfl ?_
      obtain ⟨x6, hx, h⟩ := bnd h
      refine g_callVV (L := [some (.ref 204), none, none, none, none]) cd292_39 rfl rfl rfl rfl rfl (OM.o hw) (t_Mod_go (by omega) hw hx) ?_
      refine g_aload_n cd292_42 rfl rfl ?_
      refine g_iconst cd292_43 rfl ?_
      refine g_sipush cd292_44 rfl ?_
      obtain ⟨x7, hx, h⟩ := bnd h
      refine g_callVZ (L := [some (.ref 204), some (.int 0), some (.int 999)]) cd292_47 rfl rfl rfl rfl rfl (OM.o hw) (t_Mod_readNumber (by omega) hw hx) ?_
      refine g_if_ne cd292_50 rfl (fun hb => ?_) (fun hb => ?_)
      · have h := ifnE (b2i_f hb) h
        refine g_iconst cd292_53 rfl ?_
        exact g_iret cd292_54 (Or.inr ⟨rfl, Or.inl rfl⟩) (by obtain rfl := Option.some.inj h; rfl)
      · have h := ifpE (b2i_t hb) h
        refine g_aload_n cd292_55 rfl rfl ?_
        refine g_aload_n cd292_56 rfl rfl ?_
        refine g_bipush cd292_57 rfl ?_
        refine g_iload_n cd292_59 rfl rfl ?_
        refine g_iadd cd292_60 rfl ?_
        refine g_iconst cd292_61 rfl ?_
        refine g_aload_n cd292_62 rfl rfl ?_
        refine g_getI cd292_63 rfl (OM.o hw) ?_
        refine g_iload_n cd292_66 rfl rfl ?_
        obtain ⟨x8, hx, h⟩ := bnd h
        refine g_callVI (L := [some (.ref 204), some (.int (50 + l1)), some (.int 0), some (.int (x7.2.1 204 13)), some (.int (I 204 9)), none]) cd292_67 rfl rfl rfl rfl rfl (OM.o hw) (t_Mod_saysOne (by omega) hw hx) ?_
        obtain ⟨I9, e1, h⟩ := bnd h
        refine G_putI cd292_70 rfl (OM.o hw) (Option.some.inj e1) ?_
        refine g_iconst cd292_73 rfl ?_
        exact g_iret cd292_74 (Or.inr ⟨rfl, Or.inr rfl⟩) (by obtain rfl := Option.some.inj h; rfl)
  · have h := ifpE (b2i_t hb) h
    refine g_aload_n cd292_33 rfl rfl ?_
    refine g_getI cd292_34 rfl (OM.o hw) ?_
    refine g_istore_n (ls2 := [some (.ref 204), some (.int l1), some (.int (I 204 9))]) cd292_37 rfl rfl ?_
    refine g_aload_n cd292_38 rfl rfl ?_
    obtain ⟨x10, hx, h⟩ := bnd h
    refine g_callVV (L := [some (.ref 204), none, none, none, none]) cd292_39 rfl rfl rfl rfl rfl (OM.o hw) (t_Mod_go (by omega) hw hx) ?_
    refine g_aload_n cd292_42 rfl rfl ?_
    refine g_iconst cd292_43 rfl ?_
    refine g_sipush cd292_44 rfl ?_
    obtain ⟨x11, hx, h⟩ := bnd h
    refine g_callVZ (L := [some (.ref 204), some (.int 0), some (.int 999)]) cd292_47 rfl rfl rfl rfl rfl (OM.o hw) (t_Mod_readNumber (by omega) hw hx) ?_
    refine g_if_ne cd292_50 rfl (fun hb => ?_) (fun hb => ?_)
    · have h := ifnE (b2i_f hb) h
      refine g_iconst cd292_53 rfl ?_
      exact g_iret cd292_54 (Or.inr ⟨rfl, Or.inl rfl⟩) (by obtain rfl := Option.some.inj h; rfl)
    · have h := ifpE (b2i_t hb) h
      refine g_aload_n cd292_55 rfl rfl ?_
      refine g_aload_n cd292_56 rfl rfl ?_
      refine g_bipush cd292_57 rfl ?_
      refine g_iload_n cd292_59 rfl rfl ?_
      refine g_iadd cd292_60 rfl ?_
      refine g_iconst cd292_61 rfl ?_
      refine g_aload_n cd292_62 rfl rfl ?_
      refine g_getI cd292_63 rfl (OM.o hw) ?_
      refine g_iload_n cd292_66 rfl rfl ?_
      obtain ⟨x12, hx, h⟩ := bnd h
      refine g_callVI (L := [some (.ref 204), some (.int (50 + l1)), some (.int 0), some (.int (x11.2.1 204 13)), some (.int (I 204 9)), none]) cd292_67 rfl rfl rfl rfl rfl (OM.o hw) (t_Mod_saysOne (by omega) hw hx) ?_
      obtain ⟨I13, e1, h⟩ := bnd h
      refine G_putI cd292_70 rfl (OM.o hw) (Option.some.inj e1) ?_
      refine g_iconst cd292_73 rfl ?_
      exact g_iret cd292_74 (Or.inr ⟨rfl, Or.inr rfl⟩) (by obtain rfl := Option.some.inj h; rfl)
/-! HiddenOrLostModel.readSaid()Z -/
theorem cd286_0 : code9 286 0 = some (0, .aload_n 0, [1], .null, []) := rfl
theorem cd286_1 : code9 286 1 = some (0, .bipush 40, [2], .int 40, []) := rfl
theorem cd286_3 : code9 286 3 = some (0, .invokevirtual 86, [3, 206, 2, 1, 3, 2, 12, 0], .null, []) := rfl
theorem cd286_6 : code9 286 6 = some (0, .istore_n 1, [1], .null, []) := rfl
theorem cd286_7 : code9 286 7 = some (0, .bipush 21, [2], .int 21, []) := rfl
theorem cd286_9 : code9 286 9 = some (0, .istore_n 2, [1], .null, []) := rfl
theorem cd286_10 : code9 286 10 = some (4, .iload_n 2, [1], .null, []) := rfl
theorem cd286_11 : code9 286 11 = some (0, .bipush 34, [2], .int 34, []) := rfl
theorem cd286_13 : code9 286 13 = some (0, .if_icmp .gt 17, [3, 30], .null, []) := rfl
theorem cd286_16 : code9 286 16 = some (0, .aload_n 0, [1], .null, []) := rfl
theorem cd286_17 : code9 286 17 = some (0, .iload_n 2, [1], .null, []) := rfl
theorem cd286_18 : code9 286 18 = some (0, .invokevirtual 177, [3, 184, 2, 1, 3, 2, 12, 0], .null, []) := rfl
theorem cd286_21 : code9 286 21 = some (0, .ifCond .ne 9, [3, 30], .null, []) := rfl
theorem cd286_24 : code9 286 24 = some (0, .iinc 2 1, [3], .int 1, []) := rfl
theorem cd286_27 : code9 286 27 = some (0, .goto (-17), [3, 10, 3], .null, []) := rfl
theorem cd286_30 : code9 286 30 = some (4, .iload_n 1, [1], .null, []) := rfl
theorem cd286_31 : code9 286 31 = some (0, .ifCond .ne 15, [3, 46], .null, []) := rfl
theorem cd286_34 : code9 286 34 = some (0, .iload_n 2, [1], .null, []) := rfl
theorem cd286_35 : code9 286 35 = some (0, .bipush 34, [2], .int 34, []) := rfl
theorem cd286_37 : code9 286 37 = some (0, .if_icmp .le 9, [3, 46], .null, []) := rfl
theorem cd286_40 : code9 286 40 = some (0, .aload_n 0, [1], .null, []) := rfl
theorem cd286_41 : code9 286 41 = some (0, .iconst 1, [1], .int 1, []) := rfl
theorem cd286_42 : code9 286 42 = some (0, .invokevirtual 72, [3, 188, 2, 1, 3, 2, 12, 0], .null, []) := rfl
theorem cd286_45 : code9 286 45 = some (0, .ireturn, [1, 3], .null, []) := rfl
theorem cd286_46 : code9 286 46 = some (4, .aload_n 0, [1], .null, []) := rfl
theorem cd286_47 : code9 286 47 = some (0, .getfield 412, [3, 12, 43, 0], .null, []) := rfl
theorem cd286_50 : code9 286 50 = some (0, .bipush 20, [2], .int 20, []) := rfl
theorem cd286_52 : code9 286 52 = some (0, .if_icmp .eq 12, [3, 64], .null, []) := rfl
theorem cd286_55 : code9 286 55 = some (0, .aload_n 0, [1], .null, []) := rfl
theorem cd286_56 : code9 286 56 = some (0, .getfield 415, [3, 12, 44, 0], .null, []) := rfl
theorem cd286_59 : code9 286 59 = some (0, .bipush 8, [2], .int 8, []) := rfl
theorem cd286_61 : code9 286 61 = some (0, .if_icmp .ne 9, [3, 70], .null, []) := rfl
theorem cd286_64 : code9 286 64 = some (4, .aload_n 0, [1], .null, []) := rfl
theorem cd286_65 : code9 286 65 = some (0, .iconst 4, [1], .int 4, []) := rfl
theorem cd286_66 : code9 286 66 = some (0, .invokevirtual 72, [3, 188, 2, 1, 3, 2, 12, 0], .null, []) := rfl
theorem cd286_69 : code9 286 69 = some (0, .ireturn, [1, 3], .null, []) := rfl
theorem cd286_70 : code9 286 70 = some (0, .aload_n 0, [1], .null, []) := rfl
theorem cd286_71 : code9 286 71 = some (0, .dup, [1], .null, []) := rfl
theorem cd286_72 : code9 286 72 = some (0, .getfield 412, [3, 12, 43, 0], .null, []) := rfl
theorem cd286_75 : code9 286 75 = some (0, .iconst 1, [1], .int 1, []) := rfl
theorem cd286_76 : code9 286 76 = some (0, .iadd, [1], .null, []) := rfl
theorem cd286_77 : code9 286 77 = some (0, .putfield 412, [3, 12, 43, 0], .null, []) := rfl
theorem cd286_80 : code9 286 80 = some (0, .aload_n 0, [1], .null, []) := rfl
theorem cd286_81 : code9 286 81 = some (0, .dup, [1], .null, []) := rfl
theorem cd286_82 : code9 286 82 = some (0, .getfield 415, [3, 12, 44, 0], .null, []) := rfl
theorem cd286_85 : code9 286 85 = some (0, .iconst 1, [1], .int 1, []) := rfl
theorem cd286_86 : code9 286 86 = some (0, .iadd, [1], .null, []) := rfl
theorem cd286_87 : code9 286 87 = some (0, .putfield 415, [3, 12, 44, 0], .null, []) := rfl
theorem cd286_90 : code9 286 90 = some (0, .aload_n 0, [1], .null, []) := rfl
theorem cd286_91 : code9 286 91 = some (0, .invokevirtual 82, [3, 179, 1, 1, 0, 5, 12, 0], .null, []) := rfl
theorem cd286_94 : code9 286 94 = some (0, .iconst 1, [1], .int 1, []) := rfl
theorem cd286_95 : code9 286 95 = some (0, .istore_n 3, [1], .null, []) := rfl
theorem cd286_96 : code9 286 96 = some (0, .iload_n 1, [1], .null, []) := rfl
theorem cd286_97 : code9 286 97 = some (0, .ifCond .eq 11, [3, 108], .null, []) := rfl
theorem cd286_100 : code9 286 100 = some (0, .aload_n 0, [1], .null, []) := rfl
theorem cd286_101 : code9 286 101 = some (0, .invokevirtual 418, [3, 287, 1, 1, 3, 1, 12, 0], .null, []) := rfl
theorem cd286_104 : code9 286 104 = some (0, .istore_n 3, [1], .null, []) := rfl
theorem cd286_105 : code9 286 105 = some (0, .goto 61, [3, 166, 4], .null, []) := rfl
theorem cd286_108 : code9 286 108 = some (0, .iload_n 2, [1], .null, []) := rfl
theorem cd286_109 : code9 286 109 = some (0, .bipush 21, [2], .int 21, []) := rfl
theorem cd286_111 : code9 286 111 = some (0, .if_icmp .ne 11, [3, 122], .null, []) := rfl
theorem cd286_114 : code9 286 114 = some (0, .aload_n 0, [1], .null, []) := rfl
theorem cd286_115 : code9 286 115 = some (0, .invokevirtual 421, [3, 288, 1, 1, 3, 1, 12, 0], .null, []) := rfl
theorem cd286_118 : code9 286 118 = some (0, .istore_n 3, [1], .null, []) := rfl
theorem cd286_119 : code9 286 119 = some (0, .goto 47, [3, 166, 4], .null, []) := rfl
theorem cd286_122 : code9 286 122 = some (0, .iload_n 2, [1], .null, []) := rfl
theorem cd286_123 : code9 286 123 = some (0, .bipush 30, [2], .int 30, []) := rfl
theorem cd286_125 : code9 286 125 = some (0, .if_icmp .ge 21, [3, 146], .null, []) := rfl
theorem cd286_128 : code9 286 128 = some (0, .aload_n 0, [1], .null, []) := rfl
theorem cd286_129 : code9 286 129 = some (0, .aload_n 0, [1], .null, []) := rfl
theorem cd286_130 : code9 286 130 = some (0, .bipush 50, [2], .int 50, []) := rfl
theorem cd286_132 : code9 286 132 = some (0, .iload_n 2, [1], .null, []) := rfl
theorem cd286_133 : code9 286 133 = some (0, .iadd, [1], .null, []) := rfl
theorem cd286_134 : code9 286 134 = some (0, .iconst 0, [1], .int 0, []) := rfl
theorem cd286_135 : code9 286 135 = some (0, .iconst 0, [1], .int 0, []) := rfl
theorem cd286_136 : code9 286 136 = some (0, .iconst 0, [1], .int 0, []) := rfl
theorem cd286_137 : code9 286 137 = some (0, .invokevirtual 406, [3, 289, 5, 1, 1, 6, 12, 0], .null, []) := rfl
theorem cd286_140 : code9 286 140 = some (0, .putfield 403, [3, 12, 45, 0], .null, []) := rfl
theorem cd286_143 : code9 286 143 = some (0, .goto 23, [3, 166, 4], .null, []) := rfl
theorem cd286_146 : code9 286 146 = some (0, .iload_n 2, [1], .null, []) := rfl
theorem cd286_147 : code9 286 147 = some (0, .bipush 31, [2], .int 31, []) := rfl
theorem cd286_149 : code9 286 149 = some (0, .if_icmp .ge 11, [3, 160], .null, []) := rfl
theorem cd286_152 : code9 286 152 = some (0, .aload_n 0, [1], .null, []) := rfl
theorem cd286_153 : code9 286 153 = some (0, .iload_n 2, [1], .null, []) := rfl
theorem cd286_154 : code9 286 154 = some (0, .invokevirtual 424, [3, 290, 2, 1, 3, 2, 12, 0], .null, []) := rfl
theorem cd286_157 : code9 286 157 = some (0, .goto 8, [3, 165, 4], .null, []) := rfl
theorem cd286_160 : code9 286 160 = some (0, .aload_n 0, [1], .null, []) := rfl
theorem cd286_161 : code9 286 161 = some (0, .iload_n 2, [1], .null, []) := rfl
theorem cd286_162 : code9 286 162 = some (0, .invokevirtual 427, [3, 292, 2, 1, 3, 3, 12, 0], .null, []) := rfl
theorem cd286_165 : code9 286 165 = some (5, .istore_n 3, [1], .null, []) := rfl
theorem cd286_166 : code9 286 166 = some (5, .aload_n 0, [1], .null, []) := rfl
theorem cd286_167 : code9 286 167 = some (0, .dup, [1], .null, []) := rfl
theorem cd286_168 : code9 286 168 = some (0, .getfield 415, [3, 12, 44, 0], .null, []) := rfl
theorem cd286_171 : code9 286 171 = some (0, .iconst 1, [1], .int 1, []) := rfl
theorem cd286_172 : code9 286 172 = some (0, .isub, [1], .null, []) := rfl
theorem cd286_173 : code9 286 173 = some (0, .putfield 415, [3, 12, 44, 0], .null, []) := rfl
theorem cd286_176 : code9 286 176 = some (0, .iload_n 3, [1], .null, []) := rfl
theorem cd286_177 : code9 286 177 = some (0, .ireturn, [1, 3], .null, []) := rfl
def Mod_readSaid_10 (R : FI → FJ → Option (Bool × FI × FJ)) (N : Nat) : Nat → Int32 → Int32 → FI → FJ → Option (Bool × FI × FJ)
  | 0 => fun _ _ _ _ => none
  | n + 1 => fun l1 l2 I J => if 34 < l2 then (if l1 = 0 then (if l2 ≤ 34 then (if (I 204 43) = 20 then (Option.bind (Mod_bad 4 I) fun x1 => (some (x1.1, x1.2, J))) else (if (I 204 44) = 8 then (Option.bind (Mod_bad 4 I) fun x2 => (some (x2.1, x2.2, J))) else (Option.bind (some (up2 I 204 43 ((I 204 43) + 1))) fun I3 => (Option.bind (some (up2 I3 204 44 ((I3 204 44) + 1))) fun I4 => (Option.bind (Mod_go N I4 J) fun x5 => (if l1 = 0 then (if l2 = 21 then (Option.bind (Mod_readNot R N x5.1 x5.2) fun x6 => (Option.bind (some (up2 x6.2.1 204 44 ((x6.2.1 204 44) - 1))) fun I7 => (some (x6.1, I7, x6.2.2)))) else (if 30 ≤ l2 then (if 31 ≤ l2 then (Option.bind (Mod_readCompare N l2 x5.1 x5.2) fun x8 => (Option.bind (some (up2 x8.2.1 204 44 ((x8.2.1 204 44) - 1))) fun I9 => (some (x8.1, I9, x8.2.2)))) else (Option.bind (Mod_readOf N l2 x5.1 x5.2) fun x10 => (Option.bind (some (up2 x10.2.1 204 44 ((x10.2.1 204 44) - 1))) fun I11 => (some (x10.1, I11, x10.2.2))))) else (Option.bind (Mod_saysOne (50 + l2) 0 0 0 x5.1) fun x12 => (Option.bind (some (up2 x12.2 204 45 x12.1)) fun I13 => (Option.bind (some (up2 I13 204 44 ((I13 204 44) - 1))) fun I14 => (some (true, I14, x5.2))))))) else (Option.bind (Mod_readBracket R N x5.1 x5.2) fun x15 => (Option.bind (some (up2 x15.2.1 204 44 ((x15.2.1 204 44) - 1))) fun I16 => (some (x15.1, I16, x15.2.2)))))))))) else (Option.bind (Mod_bad 1 I) fun x17 => (some (x17.1, x17.2, J)))) else (if (I 204 43) = 20 then (Option.bind (Mod_bad 4 I) fun x18 => (some (x18.1, x18.2, J))) else (if (I 204 44) = 8 then (Option.bind (Mod_bad 4 I) fun x19 => (some (x19.1, x19.2, J))) else (Option.bind (some (up2 I 204 43 ((I 204 43) + 1))) fun I20 => (Option.bind (some (up2 I20 204 44 ((I20 204 44) + 1))) fun I21 => (Option.bind (Mod_go N I21 J) fun x22 => (if l1 = 0 then (if l2 = 21 then (Option.bind (Mod_readNot R N x22.1 x22.2) fun x23 => (Option.bind (some (up2 x23.2.1 204 44 ((x23.2.1 204 44) - 1))) fun I24 => (some (x23.1, I24, x23.2.2)))) else (if 30 ≤ l2 then (if 31 ≤ l2 then (Option.bind (Mod_readCompare N l2 x22.1 x22.2) fun x25 => (Option.bind (some (up2 x25.2.1 204 44 ((x25.2.1 204 44) - 1))) fun I26 => (some (x25.1, I26, x25.2.2)))) else (Option.bind (Mod_readOf N l2 x22.1 x22.2) fun x27 => (Option.bind (some (up2 x27.2.1 204 44 ((x27.2.1 204 44) - 1))) fun I28 => (some (x27.1, I28, x27.2.2))))) else (Option.bind (Mod_saysOne (50 + l2) 0 0 0 x22.1) fun x29 => (Option.bind (some (up2 x29.2 204 45 x29.1)) fun I30 => (Option.bind (some (up2 I30 204 44 ((I30 204 44) - 1))) fun I31 => (some (true, I31, x22.2))))))) else (Option.bind (Mod_readBracket R N x22.1 x22.2) fun x32 => (Option.bind (some (up2 x32.2.1 204 44 ((x32.2.1 204 44) - 1))) fun I33 => (some (x32.1, I33, x32.2.2))))))))))) else (if (Mod_isWord l2 I J) then (if l1 = 0 then (if l2 ≤ 34 then (if (I 204 43) = 20 then (Option.bind (Mod_bad 4 I) fun x34 => (some (x34.1, x34.2, J))) else (if (I 204 44) = 8 then (Option.bind (Mod_bad 4 I) fun x35 => (some (x35.1, x35.2, J))) else (Option.bind (some (up2 I 204 43 ((I 204 43) + 1))) fun I36 => (Option.bind (some (up2 I36 204 44 ((I36 204 44) + 1))) fun I37 => (Option.bind (Mod_go N I37 J) fun x38 => (if l1 = 0 then (if l2 = 21 then (Option.bind (Mod_readNot R N x38.1 x38.2) fun x39 => (Option.bind (some (up2 x39.2.1 204 44 ((x39.2.1 204 44) - 1))) fun I40 => (some (x39.1, I40, x39.2.2)))) else (if 30 ≤ l2 then (if 31 ≤ l2 then (Option.bind (Mod_readCompare N l2 x38.1 x38.2) fun x41 => (Option.bind (some (up2 x41.2.1 204 44 ((x41.2.1 204 44) - 1))) fun I42 => (some (x41.1, I42, x41.2.2)))) else (Option.bind (Mod_readOf N l2 x38.1 x38.2) fun x43 => (Option.bind (some (up2 x43.2.1 204 44 ((x43.2.1 204 44) - 1))) fun I44 => (some (x43.1, I44, x43.2.2))))) else (Option.bind (Mod_saysOne (50 + l2) 0 0 0 x38.1) fun x45 => (Option.bind (some (up2 x45.2 204 45 x45.1)) fun I46 => (Option.bind (some (up2 I46 204 44 ((I46 204 44) - 1))) fun I47 => (some (true, I47, x38.2))))))) else (Option.bind (Mod_readBracket R N x38.1 x38.2) fun x48 => (Option.bind (some (up2 x48.2.1 204 44 ((x48.2.1 204 44) - 1))) fun I49 => (some (x48.1, I49, x48.2.2)))))))))) else (Option.bind (Mod_bad 1 I) fun x50 => (some (x50.1, x50.2, J)))) else (if (I 204 43) = 20 then (Option.bind (Mod_bad 4 I) fun x51 => (some (x51.1, x51.2, J))) else (if (I 204 44) = 8 then (Option.bind (Mod_bad 4 I) fun x52 => (some (x52.1, x52.2, J))) else (Option.bind (some (up2 I 204 43 ((I 204 43) + 1))) fun I53 => (Option.bind (some (up2 I53 204 44 ((I53 204 44) + 1))) fun I54 => (Option.bind (Mod_go N I54 J) fun x55 => (if l1 = 0 then (if l2 = 21 then (Option.bind (Mod_readNot R N x55.1 x55.2) fun x56 => (Option.bind (some (up2 x56.2.1 204 44 ((x56.2.1 204 44) - 1))) fun I57 => (some (x56.1, I57, x56.2.2)))) else (if 30 ≤ l2 then (if 31 ≤ l2 then (Option.bind (Mod_readCompare N l2 x55.1 x55.2) fun x58 => (Option.bind (some (up2 x58.2.1 204 44 ((x58.2.1 204 44) - 1))) fun I59 => (some (x58.1, I59, x58.2.2)))) else (Option.bind (Mod_readOf N l2 x55.1 x55.2) fun x60 => (Option.bind (some (up2 x60.2.1 204 44 ((x60.2.1 204 44) - 1))) fun I61 => (some (x60.1, I61, x60.2.2))))) else (Option.bind (Mod_saysOne (50 + l2) 0 0 0 x55.1) fun x62 => (Option.bind (some (up2 x62.2 204 45 x62.1)) fun I63 => (Option.bind (some (up2 I63 204 44 ((I63 204 44) - 1))) fun I64 => (some (true, I64, x55.2))))))) else (Option.bind (Mod_readBracket R N x55.1 x55.2) fun x65 => (Option.bind (some (up2 x65.2.1 204 44 ((x65.2.1 204 44) - 1))) fun I66 => (some (x65.1, I66, x65.2.2))))))))))) else (Mod_readSaid_10 R N n l1 (l2 + 1) I J))
def Mod_readSaid (R : FI → FJ → Option (Bool × FI × FJ)) (N : Nat) (I : FI) (J : FJ) : Option (Bool × FI × FJ) := Mod_readSaid_10 R N N (b2i (Mod_isSign 40 I)) 21 I J
def Mod_readSaid_R (N : Nat) : Nat → FI → FJ → Option (Bool × FI × FJ)
  | 0 => fun _ _ => none
  | k + 1 => fun I J => Mod_readSaid (Mod_readSaid_R N k) N I J
set_option maxRecDepth 8000 in
theorem t_Mod_readSaid_10 {d : Nat} {D : Nat} {R : FI → FJ → Option (Bool × FI × FJ)} {N : Nat} {c : Nat × Nat} {S : Nat → Nat × Nat} {P : Nat → Nat → Option Nat} {r : Bool × FI × FJ} (hd : D + 6 ≤ (d + 1)) (hR : ∀ {d : Nat} {I : FI} {J : FJ} {r : Bool × FI × FJ}, D ≤ d → OM S P → R I J = some r → Go d M_Mod_readSaid 0 [some (.ref 204), none, none, none] [] (c, S, I, J, P) (some (.int (b2i r.1)), false, (c, S, r.2.1, r.2.2, P))) (hw : OM S P) : ∀ (n : Nat) (l1 : Int32) (l2 : Int32) (I : FI) (J : FJ), Mod_readSaid_10 R N n l1 l2 I J = some r → Go (d + 1) M_Mod_readSaid 10 [some (.ref 204), some (.int l1), some (.int l2), none] [] (c, S, I, J, P) (some (.int (b2i r.1)), false, (c, S, r.2.1, r.2.2, P)) := by
  intro n
  induction n with
  | zero =>
    intro l1 l2 I J h
    cases h
  | succ n ih =>
    intro l1 l2 I J h
    unfold Mod_readSaid_10 at h
    refine g_iload_n cd286_10 rfl rfl ?_
    refine g_bipush cd286_11 rfl ?_
    refine g_icmp_gt cd286_13 rfl (fun hb => ?_) (fun hb => ?_)
    · have h := ifpE hb h
      refine g_iload_n cd286_30 rfl rfl ?_
      refine g_if_ne cd286_31 rfl (fun hb => ?_) (fun hb => ?_)
      · have h := ifpE hb h
        refine g_iload_n cd286_34 rfl rfl ?_
        refine g_bipush cd286_35 rfl ?_
        refine g_icmp_le cd286_37 rfl (fun hb => ?_) (fun hb => ?_)
        · have h := ifpE hb h
          refine g_aload_n cd286_46 rfl rfl ?_
          refine g_getI cd286_47 rfl (OM.o hw) ?_
          refine g_bipush cd286_50 rfl ?_
          refine g_icmp_eq cd286_52 rfl (fun hb => ?_) (fun hb => ?_)
          · have h := ifpE hb h
            refine g_aload_n cd286_64 rfl rfl ?_
            refine g_iconst cd286_65 rfl ?_
            obtain ⟨x1, hx, h⟩ := bnd h
            refine g_callVZ (L := [some (.ref 204), some (.int 4)]) cd286_66 rfl rfl rfl rfl rfl (OM.o hw) (t_Mod_bad (by omega) hw hx) ?_
            exact g_iret cd286_69 (Or.inr ⟨rfl, b2i_or _⟩) (by obtain rfl := Option.some.inj h; rfl)
          · have h := ifnE hb h
            refine g_aload_n cd286_55 rfl rfl ?_
            refine g_getI cd286_56 rfl (OM.o hw) ?_
            refine g_bipush cd286_59 rfl ?_
            refine g_icmp_ne cd286_61 rfl (fun hb => ?_) (fun hb => ?_)
            · have h := ifpE hb h
              refine g_aload_n cd286_64 rfl rfl ?_
              refine g_iconst cd286_65 rfl ?_
              obtain ⟨x2, hx, h⟩ := bnd h
              refine g_callVZ (L := [some (.ref 204), some (.int 4)]) cd286_66 rfl rfl rfl rfl rfl (OM.o hw) (t_Mod_bad (by omega) hw hx) ?_
              exact g_iret cd286_69 (Or.inr ⟨rfl, b2i_or _⟩) (by obtain rfl := Option.some.inj h; rfl)
            · have h := ifnE hb h
              refine g_aload_n cd286_70 rfl rfl ?_
              refine g_dupR cd286_71 rfl ?_
              refine g_getI cd286_72 rfl (OM.o hw) ?_
              refine g_iconst cd286_75 rfl ?_
              refine g_iadd cd286_76 rfl ?_
              obtain ⟨I3, e1, h⟩ := bnd h
              refine G_putI cd286_77 rfl (OM.o hw) (Option.some.inj e1) ?_
              refine g_aload_n cd286_80 rfl rfl ?_
              refine g_dupR cd286_81 rfl ?_
              refine g_getI cd286_82 rfl (OM.o hw) ?_
              refine g_iconst cd286_85 rfl ?_
              refine g_iadd cd286_86 rfl ?_
              obtain ⟨I4, e1, h⟩ := bnd h
              refine G_putI cd286_87 rfl (OM.o hw) (Option.some.inj e1) ?_
              refine g_aload_n cd286_90 rfl rfl ?_
              obtain ⟨x5, hx, h⟩ := bnd h
              refine g_callVV (L := [some (.ref 204), none, none, none, none]) cd286_91 rfl rfl rfl rfl rfl (OM.o hw) (t_Mod_go (by omega) hw hx) ?_
              refine g_iconst cd286_94 rfl ?_
              refine g_istore_n (ls2 := [some (.ref 204), some (.int l1), some (.int l2), some (.int 1)]) cd286_95 rfl rfl ?_
              refine g_iload_n cd286_96 rfl rfl ?_
              refine g_if_eq cd286_97 rfl (fun hb => ?_) (fun hb => ?_)
              · have h := ifpE hb h
                refine g_iload_n cd286_108 rfl rfl ?_
                refine g_bipush cd286_109 rfl ?_
                refine g_icmp_ne cd286_111 rfl (fun hb => ?_) (fun hb => ?_)
                · have h := ifpE hb h
                  refine g_aload_n cd286_114 rfl rfl ?_
                  obtain ⟨x6, hx, h⟩ := bnd h
                  refine g_callVZ (L := [some (.ref 204)]) cd286_115 rfl rfl rfl rfl rfl (OM.o hw) (t_Mod_readNot (by omega) hR hw hx) ?_
                  refine g_istore_n (ls2 := [some (.ref 204), some (.int l1), some (.int l2), some (.int (b2i x6.1))]) cd286_118 rfl rfl ?_
                  refine g_goto (ls2 := [some (.ref 204), some (.int l1), some (.int l2), some (.int (b2i x6.1))]) cd286_119 rfl rfl ?_
                  refine g_aload_n cd286_166 rfl rfl ?_
                  refine g_dupR cd286_167 rfl ?_
                  refine g_getI cd286_168 rfl (OM.o hw) ?_
                  refine g_iconst cd286_171 rfl ?_
                  refine g_isub cd286_172 rfl ?_
                  obtain ⟨I7, e1, h⟩ := bnd h
                  refine G_putI cd286_173 rfl (OM.o hw) (Option.some.inj e1) ?_
                  refine g_iload_n cd286_176 rfl rfl ?_
                  exact g_iret cd286_177 (Or.inr ⟨rfl, b2i_or _⟩) (by obtain rfl := Option.some.inj h; rfl)
                · have h := ifnE hb h
                  refine g_iload_n cd286_122 rfl rfl ?_
                  refine g_bipush cd286_123 rfl ?_
                  refine g_icmp_ge cd286_125 rfl (fun hb => ?_) (fun hb => ?_)
                  · have h := ifpE hb h
                    refine g_iload_n cd286_146 rfl rfl ?_
                    refine g_bipush cd286_147 rfl ?_
                    refine g_icmp_ge cd286_149 rfl (fun hb => ?_) (fun hb => ?_)
                    · have h := ifpE hb h
                      refine g_aload_n cd286_160 rfl rfl ?_
                      refine g_iload_n cd286_161 rfl rfl ?_
                      obtain ⟨x8, hx, h⟩ := bnd h
                      refine g_callVZ (L := [some (.ref 204), some (.int l2), none]) cd286_162 rfl rfl rfl rfl rfl (OM.o hw) (t_Mod_readCompare (by omega) hw hx) ?_
                      refine g_istore_n (ls2 := [some (.ref 204), some (.int l1), some (.int l2), some (.int (b2i x8.1))]) cd286_165 rfl rfl ?_
                      refine g_aload_n cd286_166 rfl rfl ?_
                      refine g_dupR cd286_167 rfl ?_
                      refine g_getI cd286_168 rfl (OM.o hw) ?_
                      refine g_iconst cd286_171 rfl ?_
                      refine g_isub cd286_172 rfl ?_
                      obtain ⟨I9, e1, h⟩ := bnd h
                      refine G_putI cd286_173 rfl (OM.o hw) (Option.some.inj e1) ?_
                      refine g_iload_n cd286_176 rfl rfl ?_
                      exact g_iret cd286_177 (Or.inr ⟨rfl, b2i_or _⟩) (by obtain rfl := Option.some.inj h; rfl)
                    · have h := ifnE hb h
                      refine g_aload_n cd286_152 rfl rfl ?_
                      refine g_iload_n cd286_153 rfl rfl ?_
                      obtain ⟨x10, hx, h⟩ := bnd h
                      refine g_callVZ (L := [some (.ref 204), some (.int l2)]) cd286_154 rfl rfl rfl rfl rfl (OM.o hw) (t_Mod_readOf (by omega) hw hx) ?_
                      refine g_goto (ls2 := [some (.ref 204), some (.int l1), some (.int l2), some (.int 1)]) cd286_157 rfl rfl ?_
                      refine g_istore_n (ls2 := [some (.ref 204), some (.int l1), some (.int l2), some (.int (b2i x10.1))]) cd286_165 rfl rfl ?_
                      refine g_aload_n cd286_166 rfl rfl ?_
                      refine g_dupR cd286_167 rfl ?_
                      refine g_getI cd286_168 rfl (OM.o hw) ?_
                      refine g_iconst cd286_171 rfl ?_
                      refine g_isub cd286_172 rfl ?_
                      obtain ⟨I11, e1, h⟩ := bnd h
                      refine G_putI cd286_173 rfl (OM.o hw) (Option.some.inj e1) ?_
                      refine g_iload_n cd286_176 rfl rfl ?_
                      exact g_iret cd286_177 (Or.inr ⟨rfl, b2i_or _⟩) (by obtain rfl := Option.some.inj h; rfl)
                  · have h := ifnE hb h
                    refine g_aload_n cd286_128 rfl rfl ?_
                    refine g_aload_n cd286_129 rfl rfl ?_
                    refine g_bipush cd286_130 rfl ?_
                    refine g_iload_n cd286_132 rfl rfl ?_
                    refine g_iadd cd286_133 rfl ?_
                    refine g_iconst cd286_134 rfl ?_
                    refine g_iconst cd286_135 rfl ?_
                    refine g_iconst cd286_136 rfl ?_
                    obtain ⟨x12, hx, h⟩ := bnd h
                    refine g_callVI (L := [some (.ref 204), some (.int (50 + l2)), some (.int 0), some (.int 0), some (.int 0), none]) cd286_137 rfl rfl rfl rfl rfl (OM.o hw) (t_Mod_saysOne (by omega) hw hx) ?_
                    obtain ⟨I13, e1, h⟩ := bnd h
                    refine G_putI cd286_140 rfl (OM.o hw) (Option.some.inj e1) ?_
                    refine g_goto (ls2 := [some (.ref 204), some (.int l1), some (.int l2), some (.int 1)]) cd286_143 rfl rfl ?_
                    refine g_aload_n cd286_166 rfl rfl ?_
                    refine g_dupR cd286_167 rfl ?_
                    refine g_getI cd286_168 rfl (OM.o hw) ?_
                    refine g_iconst cd286_171 rfl ?_
                    refine g_isub cd286_172 rfl ?_
                    obtain ⟨I14, e1, h⟩ := bnd h
                    refine G_putI cd286_173 rfl (OM.o hw) (Option.some.inj e1) ?_
                    refine g_iload_n cd286_176 rfl rfl ?_
                    exact g_iret cd286_177 (Or.inr ⟨rfl, Or.inr rfl⟩) (by obtain rfl := Option.some.inj h; rfl)
              · have h := ifnE hb h
                refine g_aload_n cd286_100 rfl rfl ?_
                obtain ⟨x15, hx, h⟩ := bnd h
                refine g_callVZ (L := [some (.ref 204)]) cd286_101 rfl rfl rfl rfl rfl (OM.o hw) (t_Mod_readBracket (by omega) hR hw hx) ?_
                refine g_istore_n (ls2 := [some (.ref 204), some (.int l1), some (.int l2), some (.int (b2i x15.1))]) cd286_104 rfl rfl ?_
                refine g_goto (ls2 := [some (.ref 204), some (.int l1), some (.int l2), some (.int (b2i x15.1))]) cd286_105 rfl rfl ?_
                refine g_aload_n cd286_166 rfl rfl ?_
                refine g_dupR cd286_167 rfl ?_
                refine g_getI cd286_168 rfl (OM.o hw) ?_
                refine g_iconst cd286_171 rfl ?_
                refine g_isub cd286_172 rfl ?_
                obtain ⟨I16, e1, h⟩ := bnd h
                refine G_putI cd286_173 rfl (OM.o hw) (Option.some.inj e1) ?_
                refine g_iload_n cd286_176 rfl rfl ?_
                exact g_iret cd286_177 (Or.inr ⟨rfl, b2i_or _⟩) (by obtain rfl := Option.some.inj h; rfl)
        · have h := ifnE hb h
          refine g_aload_n cd286_40 rfl rfl ?_
          refine g_iconst cd286_41 rfl ?_
          obtain ⟨x17, hx, h⟩ := bnd h
          refine g_callVZ (L := [some (.ref 204), some (.int 1)]) cd286_42 rfl rfl rfl rfl rfl (OM.o hw) (t_Mod_bad (by omega) hw hx) ?_
          exact g_iret cd286_45 (Or.inr ⟨rfl, b2i_or _⟩) (by obtain rfl := Option.some.inj h; rfl)
      · have h := ifnE hb h
        refine g_aload_n cd286_46 rfl rfl ?_
        refine g_getI cd286_47 rfl (OM.o hw) ?_
        refine g_bipush cd286_50 rfl ?_
        refine g_icmp_eq cd286_52 rfl (fun hb => ?_) (fun hb => ?_)
        · have h := ifpE hb h
          refine g_aload_n cd286_64 rfl rfl ?_
          refine g_iconst cd286_65 rfl ?_
          obtain ⟨x18, hx, h⟩ := bnd h
          refine g_callVZ (L := [some (.ref 204), some (.int 4)]) cd286_66 rfl rfl rfl rfl rfl (OM.o hw) (t_Mod_bad (by omega) hw hx) ?_
          exact g_iret cd286_69 (Or.inr ⟨rfl, b2i_or _⟩) (by obtain rfl := Option.some.inj h; rfl)
        · have h := ifnE hb h
          refine g_aload_n cd286_55 rfl rfl ?_
          refine g_getI cd286_56 rfl (OM.o hw) ?_
          refine g_bipush cd286_59 rfl ?_
          refine g_icmp_ne cd286_61 rfl (fun hb => ?_) (fun hb => ?_)
          · have h := ifpE hb h
            refine g_aload_n cd286_64 rfl rfl ?_
            refine g_iconst cd286_65 rfl ?_
            obtain ⟨x19, hx, h⟩ := bnd h
            refine g_callVZ (L := [some (.ref 204), some (.int 4)]) cd286_66 rfl rfl rfl rfl rfl (OM.o hw) (t_Mod_bad (by omega) hw hx) ?_
            exact g_iret cd286_69 (Or.inr ⟨rfl, b2i_or _⟩) (by obtain rfl := Option.some.inj h; rfl)
          · have h := ifnE hb h
            refine g_aload_n cd286_70 rfl rfl ?_
            refine g_dupR cd286_71 rfl ?_
            refine g_getI cd286_72 rfl (OM.o hw) ?_
            refine g_iconst cd286_75 rfl ?_
            refine g_iadd cd286_76 rfl ?_
            obtain ⟨I20, e1, h⟩ := bnd h
            refine G_putI cd286_77 rfl (OM.o hw) (Option.some.inj e1) ?_
            refine g_aload_n cd286_80 rfl rfl ?_
            refine g_dupR cd286_81 rfl ?_
            refine g_getI cd286_82 rfl (OM.o hw) ?_
            refine g_iconst cd286_85 rfl ?_
            refine g_iadd cd286_86 rfl ?_
            obtain ⟨I21, e1, h⟩ := bnd h
            refine G_putI cd286_87 rfl (OM.o hw) (Option.some.inj e1) ?_
            refine g_aload_n cd286_90 rfl rfl ?_
            obtain ⟨x22, hx, h⟩ := bnd h
            refine g_callVV (L := [some (.ref 204), none, none, none, none]) cd286_91 rfl rfl rfl rfl rfl (OM.o hw) (t_Mod_go (by omega) hw hx) ?_
            refine g_iconst cd286_94 rfl ?_
            refine g_istore_n (ls2 := [some (.ref 204), some (.int l1), some (.int l2), some (.int 1)]) cd286_95 rfl rfl ?_
            refine g_iload_n cd286_96 rfl rfl ?_
            refine g_if_eq cd286_97 rfl (fun hb => ?_) (fun hb => ?_)
            · have h := ifpE hb h
              refine g_iload_n cd286_108 rfl rfl ?_
              refine g_bipush cd286_109 rfl ?_
              refine g_icmp_ne cd286_111 rfl (fun hb => ?_) (fun hb => ?_)
              · have h := ifpE hb h
                refine g_aload_n cd286_114 rfl rfl ?_
                obtain ⟨x23, hx, h⟩ := bnd h
                refine g_callVZ (L := [some (.ref 204)]) cd286_115 rfl rfl rfl rfl rfl (OM.o hw) (t_Mod_readNot (by omega) hR hw hx) ?_
                refine g_istore_n (ls2 := [some (.ref 204), some (.int l1), some (.int l2), some (.int (b2i x23.1))]) cd286_118 rfl rfl ?_
                refine g_goto (ls2 := [some (.ref 204), some (.int l1), some (.int l2), some (.int (b2i x23.1))]) cd286_119 rfl rfl ?_
                refine g_aload_n cd286_166 rfl rfl ?_
                refine g_dupR cd286_167 rfl ?_
                refine g_getI cd286_168 rfl (OM.o hw) ?_
                refine g_iconst cd286_171 rfl ?_
                refine g_isub cd286_172 rfl ?_
                obtain ⟨I24, e1, h⟩ := bnd h
                refine G_putI cd286_173 rfl (OM.o hw) (Option.some.inj e1) ?_
                refine g_iload_n cd286_176 rfl rfl ?_
                exact g_iret cd286_177 (Or.inr ⟨rfl, b2i_or _⟩) (by obtain rfl := Option.some.inj h; rfl)
              · have h := ifnE hb h
                refine g_iload_n cd286_122 rfl rfl ?_
                refine g_bipush cd286_123 rfl ?_
                refine g_icmp_ge cd286_125 rfl (fun hb => ?_) (fun hb => ?_)
                · have h := ifpE hb h
                  refine g_iload_n cd286_146 rfl rfl ?_
                  refine g_bipush cd286_147 rfl ?_
                  refine g_icmp_ge cd286_149 rfl (fun hb => ?_) (fun hb => ?_)
                  · have h := ifpE hb h
                    refine g_aload_n cd286_160 rfl rfl ?_
                    refine g_iload_n cd286_161 rfl rfl ?_
                    obtain ⟨x25, hx, h⟩ := bnd h
                    refine g_callVZ (L := [some (.ref 204), some (.int l2), none]) cd286_162 rfl rfl rfl rfl rfl (OM.o hw) (t_Mod_readCompare (by omega) hw hx) ?_
                    refine g_istore_n (ls2 := [some (.ref 204), some (.int l1), some (.int l2), some (.int (b2i x25.1))]) cd286_165 rfl rfl ?_
                    refine g_aload_n cd286_166 rfl rfl ?_
                    refine g_dupR cd286_167 rfl ?_
                    refine g_getI cd286_168 rfl (OM.o hw) ?_
                    refine g_iconst cd286_171 rfl ?_
                    refine g_isub cd286_172 rfl ?_
                    obtain ⟨I26, e1, h⟩ := bnd h
                    refine G_putI cd286_173 rfl (OM.o hw) (Option.some.inj e1) ?_
                    refine g_iload_n cd286_176 rfl rfl ?_
                    exact g_iret cd286_177 (Or.inr ⟨rfl, b2i_or _⟩) (by obtain rfl := Option.some.inj h; rfl)
                  · have h := ifnE hb h
                    refine g_aload_n cd286_152 rfl rfl ?_
                    refine g_iload_n cd286_153 rfl rfl ?_
                    obtain ⟨x27, hx, h⟩ := bnd h
                    refine g_callVZ (L := [some (.ref 204), some (.int l2)]) cd286_154 rfl rfl rfl rfl rfl (OM.o hw) (t_Mod_readOf (by omega) hw hx) ?_
                    refine g_goto (ls2 := [some (.ref 204), some (.int l1), some (.int l2), some (.int 1)]) cd286_157 rfl rfl ?_
                    refine g_istore_n (ls2 := [some (.ref 204), some (.int l1), some (.int l2), some (.int (b2i x27.1))]) cd286_165 rfl rfl ?_
                    refine g_aload_n cd286_166 rfl rfl ?_
                    refine g_dupR cd286_167 rfl ?_
                    refine g_getI cd286_168 rfl (OM.o hw) ?_
                    refine g_iconst cd286_171 rfl ?_
                    refine g_isub cd286_172 rfl ?_
                    obtain ⟨I28, e1, h⟩ := bnd h
                    refine G_putI cd286_173 rfl (OM.o hw) (Option.some.inj e1) ?_
                    refine g_iload_n cd286_176 rfl rfl ?_
                    exact g_iret cd286_177 (Or.inr ⟨rfl, b2i_or _⟩) (by obtain rfl := Option.some.inj h; rfl)
                · have h := ifnE hb h
                  refine g_aload_n cd286_128 rfl rfl ?_
                  refine g_aload_n cd286_129 rfl rfl ?_
                  refine g_bipush cd286_130 rfl ?_
                  refine g_iload_n cd286_132 rfl rfl ?_
                  refine g_iadd cd286_133 rfl ?_
                  refine g_iconst cd286_134 rfl ?_
                  refine g_iconst cd286_135 rfl ?_
                  refine g_iconst cd286_136 rfl ?_
                  obtain ⟨x29, hx, h⟩ := bnd h
                  refine g_callVI (L := [some (.ref 204), some (.int (50 + l2)), some (.int 0), some (.int 0), some (.int 0), none]) cd286_137 rfl rfl rfl rfl rfl (OM.o hw) (t_Mod_saysOne (by omega) hw hx) ?_
                  obtain ⟨I30, e1, h⟩ := bnd h
                  refine G_putI cd286_140 rfl (OM.o hw) (Option.some.inj e1) ?_
                  refine g_goto (ls2 := [some (.ref 204), some (.int l1), some (.int l2), some (.int 1)]) cd286_143 rfl rfl ?_
                  refine g_aload_n cd286_166 rfl rfl ?_
                  refine g_dupR cd286_167 rfl ?_
                  refine g_getI cd286_168 rfl (OM.o hw) ?_
                  refine g_iconst cd286_171 rfl ?_
                  refine g_isub cd286_172 rfl ?_
                  obtain ⟨I31, e1, h⟩ := bnd h
                  refine G_putI cd286_173 rfl (OM.o hw) (Option.some.inj e1) ?_
                  refine g_iload_n cd286_176 rfl rfl ?_
                  exact g_iret cd286_177 (Or.inr ⟨rfl, Or.inr rfl⟩) (by obtain rfl := Option.some.inj h; rfl)
            · have h := ifnE hb h
              refine g_aload_n cd286_100 rfl rfl ?_
              obtain ⟨x32, hx, h⟩ := bnd h
              refine g_callVZ (L := [some (.ref 204)]) cd286_101 rfl rfl rfl rfl rfl (OM.o hw) (t_Mod_readBracket (by omega) hR hw hx) ?_
              refine g_istore_n (ls2 := [some (.ref 204), some (.int l1), some (.int l2), some (.int (b2i x32.1))]) cd286_104 rfl rfl ?_
              refine g_goto (ls2 := [some (.ref 204), some (.int l1), some (.int l2), some (.int (b2i x32.1))]) cd286_105 rfl rfl ?_
              refine g_aload_n cd286_166 rfl rfl ?_
              refine g_dupR cd286_167 rfl ?_
              refine g_getI cd286_168 rfl (OM.o hw) ?_
              refine g_iconst cd286_171 rfl ?_
              refine g_isub cd286_172 rfl ?_
              obtain ⟨I33, e1, h⟩ := bnd h
              refine G_putI cd286_173 rfl (OM.o hw) (Option.some.inj e1) ?_
              refine g_iload_n cd286_176 rfl rfl ?_
              exact g_iret cd286_177 (Or.inr ⟨rfl, b2i_or _⟩) (by obtain rfl := Option.some.inj h; rfl)
    · have h := ifnE hb h
      refine g_aload_n cd286_16 rfl rfl ?_
      refine g_iload_n cd286_17 rfl rfl ?_
      refine g_callVZ (L := [some (.ref 204), some (.int l2)]) cd286_18 rfl rfl rfl rfl rfl (OM.o hw) (t_Mod_isWord (by omega) hw rfl) ?_
      refine g_if_ne cd286_21 rfl (fun hb => ?_) (fun hb => ?_)
      · have h := ifnE (b2i_f hb) h
        refine g_iinc (ls2 := [some (.ref 204), some (.int l1), some (.int (l2 + 1)), none]) cd286_24 rfl rfl rfl ?_
        refine g_goto (ls2 := [some (.ref 204), some (.int l1), some (.int (l2 + 1)), none]) cd286_27 rfl rfl ?_
        exact ih l1 (l2 + 1) I J h
      · have h := ifpE (b2i_t hb) h
        refine g_iload_n cd286_30 rfl rfl ?_
        refine g_if_ne cd286_31 rfl (fun hb => ?_) (fun hb => ?_)
        · have h := ifpE hb h
          refine g_iload_n cd286_34 rfl rfl ?_
          refine g_bipush cd286_35 rfl ?_
          refine g_icmp_le cd286_37 rfl (fun hb => ?_) (fun hb => ?_)
          · have h := ifpE hb h
            refine g_aload_n cd286_46 rfl rfl ?_
            refine g_getI cd286_47 rfl (OM.o hw) ?_
            refine g_bipush cd286_50 rfl ?_
            refine g_icmp_eq cd286_52 rfl (fun hb => ?_) (fun hb => ?_)
            · have h := ifpE hb h
              refine g_aload_n cd286_64 rfl rfl ?_
              refine g_iconst cd286_65 rfl ?_
              obtain ⟨x34, hx, h⟩ := bnd h
              refine g_callVZ (L := [some (.ref 204), some (.int 4)]) cd286_66 rfl rfl rfl rfl rfl (OM.o hw) (t_Mod_bad (by omega) hw hx) ?_
              exact g_iret cd286_69 (Or.inr ⟨rfl, b2i_or _⟩) (by obtain rfl := Option.some.inj h; rfl)
            · have h := ifnE hb h
              refine g_aload_n cd286_55 rfl rfl ?_
              refine g_getI cd286_56 rfl (OM.o hw) ?_
              refine g_bipush cd286_59 rfl ?_
              refine g_icmp_ne cd286_61 rfl (fun hb => ?_) (fun hb => ?_)
              · have h := ifpE hb h
                refine g_aload_n cd286_64 rfl rfl ?_
                refine g_iconst cd286_65 rfl ?_
                obtain ⟨x35, hx, h⟩ := bnd h
                refine g_callVZ (L := [some (.ref 204), some (.int 4)]) cd286_66 rfl rfl rfl rfl rfl (OM.o hw) (t_Mod_bad (by omega) hw hx) ?_
                exact g_iret cd286_69 (Or.inr ⟨rfl, b2i_or _⟩) (by obtain rfl := Option.some.inj h; rfl)
              · have h := ifnE hb h
                refine g_aload_n cd286_70 rfl rfl ?_
                refine g_dupR cd286_71 rfl ?_
                refine g_getI cd286_72 rfl (OM.o hw) ?_
                refine g_iconst cd286_75 rfl ?_
                refine g_iadd cd286_76 rfl ?_
                obtain ⟨I36, e1, h⟩ := bnd h
                refine G_putI cd286_77 rfl (OM.o hw) (Option.some.inj e1) ?_
                refine g_aload_n cd286_80 rfl rfl ?_
                refine g_dupR cd286_81 rfl ?_
                refine g_getI cd286_82 rfl (OM.o hw) ?_
                refine g_iconst cd286_85 rfl ?_
                refine g_iadd cd286_86 rfl ?_
                obtain ⟨I37, e1, h⟩ := bnd h
                refine G_putI cd286_87 rfl (OM.o hw) (Option.some.inj e1) ?_
                refine g_aload_n cd286_90 rfl rfl ?_
                obtain ⟨x38, hx, h⟩ := bnd h
                refine g_callVV (L := [some (.ref 204), none, none, none, none]) cd286_91 rfl rfl rfl rfl rfl (OM.o hw) (t_Mod_go (by omega) hw hx) ?_
                refine g_iconst cd286_94 rfl ?_
                refine g_istore_n (ls2 := [some (.ref 204), some (.int l1), some (.int l2), some (.int 1)]) cd286_95 rfl rfl ?_
                refine g_iload_n cd286_96 rfl rfl ?_
                refine g_if_eq cd286_97 rfl (fun hb => ?_) (fun hb => ?_)
                · have h := ifpE hb h
                  refine g_iload_n cd286_108 rfl rfl ?_
                  refine g_bipush cd286_109 rfl ?_
                  refine g_icmp_ne cd286_111 rfl (fun hb => ?_) (fun hb => ?_)
                  · have h := ifpE hb h
                    refine g_aload_n cd286_114 rfl rfl ?_
                    obtain ⟨x39, hx, h⟩ := bnd h
                    refine g_callVZ (L := [some (.ref 204)]) cd286_115 rfl rfl rfl rfl rfl (OM.o hw) (t_Mod_readNot (by omega) hR hw hx) ?_
                    refine g_istore_n (ls2 := [some (.ref 204), some (.int l1), some (.int l2), some (.int (b2i x39.1))]) cd286_118 rfl rfl ?_
                    refine g_goto (ls2 := [some (.ref 204), some (.int l1), some (.int l2), some (.int (b2i x39.1))]) cd286_119 rfl rfl ?_
                    refine g_aload_n cd286_166 rfl rfl ?_
                    refine g_dupR cd286_167 rfl ?_
                    refine g_getI cd286_168 rfl (OM.o hw) ?_
                    refine g_iconst cd286_171 rfl ?_
                    refine g_isub cd286_172 rfl ?_
                    obtain ⟨I40, e1, h⟩ := bnd h
                    refine G_putI cd286_173 rfl (OM.o hw) (Option.some.inj e1) ?_
                    refine g_iload_n cd286_176 rfl rfl ?_
                    exact g_iret cd286_177 (Or.inr ⟨rfl, b2i_or _⟩) (by obtain rfl := Option.some.inj h; rfl)
                  · have h := ifnE hb h
                    refine g_iload_n cd286_122 rfl rfl ?_
                    refine g_bipush cd286_123 rfl ?_
                    refine g_icmp_ge cd286_125 rfl (fun hb => ?_) (fun hb => ?_)
                    · have h := ifpE hb h
                      refine g_iload_n cd286_146 rfl rfl ?_
                      refine g_bipush cd286_147 rfl ?_
                      refine g_icmp_ge cd286_149 rfl (fun hb => ?_) (fun hb => ?_)
                      · have h := ifpE hb h
                        refine g_aload_n cd286_160 rfl rfl ?_
                        refine g_iload_n cd286_161 rfl rfl ?_
                        obtain ⟨x41, hx, h⟩ := bnd h
                        refine g_callVZ (L := [some (.ref 204), some (.int l2), none]) cd286_162 rfl rfl rfl rfl rfl (OM.o hw) (t_Mod_readCompare (by omega) hw hx) ?_
                        refine g_istore_n (ls2 := [some (.ref 204), some (.int l1), some (.int l2), some (.int (b2i x41.1))]) cd286_165 rfl rfl ?_
                        refine g_aload_n cd286_166 rfl rfl ?_
                        refine g_dupR cd286_167 rfl ?_
                        refine g_getI cd286_168 rfl (OM.o hw) ?_
                        refine g_iconst cd286_171 rfl ?_
                        refine g_isub cd286_172 rfl ?_
                        obtain ⟨I42, e1, h⟩ := bnd h
                        refine G_putI cd286_173 rfl (OM.o hw) (Option.some.inj e1) ?_
                        refine g_iload_n cd286_176 rfl rfl ?_
                        exact g_iret cd286_177 (Or.inr ⟨rfl, b2i_or _⟩) (by obtain rfl := Option.some.inj h; rfl)
                      · have h := ifnE hb h
                        refine g_aload_n cd286_152 rfl rfl ?_
                        refine g_iload_n cd286_153 rfl rfl ?_
                        obtain ⟨x43, hx, h⟩ := bnd h
                        refine g_callVZ (L := [some (.ref 204), some (.int l2)]) cd286_154 rfl rfl rfl rfl rfl (OM.o hw) (t_Mod_readOf (by omega) hw hx) ?_
                        refine g_goto (ls2 := [some (.ref 204), some (.int l1), some (.int l2), some (.int 1)]) cd286_157 rfl rfl ?_
                        refine g_istore_n (ls2 := [some (.ref 204), some (.int l1), some (.int l2), some (.int (b2i x43.1))]) cd286_165 rfl rfl ?_
                        refine g_aload_n cd286_166 rfl rfl ?_
                        refine g_dupR cd286_167 rfl ?_
                        refine g_getI cd286_168 rfl (OM.o hw) ?_
                        refine g_iconst cd286_171 rfl ?_
                        refine g_isub cd286_172 rfl ?_
                        obtain ⟨I44, e1, h⟩ := bnd h
                        refine G_putI cd286_173 rfl (OM.o hw) (Option.some.inj e1) ?_
                        refine g_iload_n cd286_176 rfl rfl ?_
                        exact g_iret cd286_177 (Or.inr ⟨rfl, b2i_or _⟩) (by obtain rfl := Option.some.inj h; rfl)
                    · have h := ifnE hb h
                      refine g_aload_n cd286_128 rfl rfl ?_
                      refine g_aload_n cd286_129 rfl rfl ?_
                      refine g_bipush cd286_130 rfl ?_
                      refine g_iload_n cd286_132 rfl rfl ?_
                      refine g_iadd cd286_133 rfl ?_
                      refine g_iconst cd286_134 rfl ?_
                      refine g_iconst cd286_135 rfl ?_
                      refine g_iconst cd286_136 rfl ?_
                      obtain ⟨x45, hx, h⟩ := bnd h
                      refine g_callVI (L := [some (.ref 204), some (.int (50 + l2)), some (.int 0), some (.int 0), some (.int 0), none]) cd286_137 rfl rfl rfl rfl rfl (OM.o hw) (t_Mod_saysOne (by omega) hw hx) ?_
                      obtain ⟨I46, e1, h⟩ := bnd h
                      refine G_putI cd286_140 rfl (OM.o hw) (Option.some.inj e1) ?_
                      refine g_goto (ls2 := [some (.ref 204), some (.int l1), some (.int l2), some (.int 1)]) cd286_143 rfl rfl ?_
                      refine g_aload_n cd286_166 rfl rfl ?_
                      refine g_dupR cd286_167 rfl ?_
                      refine g_getI cd286_168 rfl (OM.o hw) ?_
                      refine g_iconst cd286_171 rfl ?_
                      refine g_isub cd286_172 rfl ?_
                      obtain ⟨I47, e1, h⟩ := bnd h
                      refine G_putI cd286_173 rfl (OM.o hw) (Option.some.inj e1) ?_
                      refine g_iload_n cd286_176 rfl rfl ?_
                      exact g_iret cd286_177 (Or.inr ⟨rfl, Or.inr rfl⟩) (by obtain rfl := Option.some.inj h; rfl)
                · have h := ifnE hb h
                  refine g_aload_n cd286_100 rfl rfl ?_
                  obtain ⟨x48, hx, h⟩ := bnd h
                  refine g_callVZ (L := [some (.ref 204)]) cd286_101 rfl rfl rfl rfl rfl (OM.o hw) (t_Mod_readBracket (by omega) hR hw hx) ?_
                  refine g_istore_n (ls2 := [some (.ref 204), some (.int l1), some (.int l2), some (.int (b2i x48.1))]) cd286_104 rfl rfl ?_
                  refine g_goto (ls2 := [some (.ref 204), some (.int l1), some (.int l2), some (.int (b2i x48.1))]) cd286_105 rfl rfl ?_
                  refine g_aload_n cd286_166 rfl rfl ?_
                  refine g_dupR cd286_167 rfl ?_
                  refine g_getI cd286_168 rfl (OM.o hw) ?_
                  refine g_iconst cd286_171 rfl ?_
                  refine g_isub cd286_172 rfl ?_
                  obtain ⟨I49, e1, h⟩ := bnd h
                  refine G_putI cd286_173 rfl (OM.o hw) (Option.some.inj e1) ?_
                  refine g_iload_n cd286_176 rfl rfl ?_
                  exact g_iret cd286_177 (Or.inr ⟨rfl, b2i_or _⟩) (by obtain rfl := Option.some.inj h; rfl)
          · have h := ifnE hb h
            refine g_aload_n cd286_40 rfl rfl ?_
            refine g_iconst cd286_41 rfl ?_
            obtain ⟨x50, hx, h⟩ := bnd h
            refine g_callVZ (L := [some (.ref 204), some (.int 1)]) cd286_42 rfl rfl rfl rfl rfl (OM.o hw) (t_Mod_bad (by omega) hw hx) ?_
            exact g_iret cd286_45 (Or.inr ⟨rfl, b2i_or _⟩) (by obtain rfl := Option.some.inj h; rfl)
        · have h := ifnE hb h
          refine g_aload_n cd286_46 rfl rfl ?_
          refine g_getI cd286_47 rfl (OM.o hw) ?_
          refine g_bipush cd286_50 rfl ?_
          refine g_icmp_eq cd286_52 rfl (fun hb => ?_) (fun hb => ?_)
          · have h := ifpE hb h
            refine g_aload_n cd286_64 rfl rfl ?_
            refine g_iconst cd286_65 rfl ?_
            obtain ⟨x51, hx, h⟩ := bnd h
            refine g_callVZ (L := [some (.ref 204), some (.int 4)]) cd286_66 rfl rfl rfl rfl rfl (OM.o hw) (t_Mod_bad (by omega) hw hx) ?_
            exact g_iret cd286_69 (Or.inr ⟨rfl, b2i_or _⟩) (by obtain rfl := Option.some.inj h; rfl)
          · have h := ifnE hb h
            refine g_aload_n cd286_55 rfl rfl ?_
            refine g_getI cd286_56 rfl (OM.o hw) ?_
            refine g_bipush cd286_59 rfl ?_
            refine g_icmp_ne cd286_61 rfl (fun hb => ?_) (fun hb => ?_)
            · have h := ifpE hb h
              refine g_aload_n cd286_64 rfl rfl ?_
              refine g_iconst cd286_65 rfl ?_
              obtain ⟨x52, hx, h⟩ := bnd h
              refine g_callVZ (L := [some (.ref 204), some (.int 4)]) cd286_66 rfl rfl rfl rfl rfl (OM.o hw) (t_Mod_bad (by omega) hw hx) ?_
              exact g_iret cd286_69 (Or.inr ⟨rfl, b2i_or _⟩) (by obtain rfl := Option.some.inj h; rfl)
            · have h := ifnE hb h
              refine g_aload_n cd286_70 rfl rfl ?_
              refine g_dupR cd286_71 rfl ?_
              refine g_getI cd286_72 rfl (OM.o hw) ?_
              refine g_iconst cd286_75 rfl ?_
              refine g_iadd cd286_76 rfl ?_
              obtain ⟨I53, e1, h⟩ := bnd h
              refine G_putI cd286_77 rfl (OM.o hw) (Option.some.inj e1) ?_
              refine g_aload_n cd286_80 rfl rfl ?_
              refine g_dupR cd286_81 rfl ?_
              refine g_getI cd286_82 rfl (OM.o hw) ?_
              refine g_iconst cd286_85 rfl ?_
              refine g_iadd cd286_86 rfl ?_
              obtain ⟨I54, e1, h⟩ := bnd h
              refine G_putI cd286_87 rfl (OM.o hw) (Option.some.inj e1) ?_
              refine g_aload_n cd286_90 rfl rfl ?_
              obtain ⟨x55, hx, h⟩ := bnd h
              refine g_callVV (L := [some (.ref 204), none, none, none, none]) cd286_91 rfl rfl rfl rfl rfl (OM.o hw) (t_Mod_go (by omega) hw hx) ?_
              refine g_iconst cd286_94 rfl ?_
              refine g_istore_n (ls2 := [some (.ref 204), some (.int l1), some (.int l2), some (.int 1)]) cd286_95 rfl rfl ?_
              refine g_iload_n cd286_96 rfl rfl ?_
              refine g_if_eq cd286_97 rfl (fun hb => ?_) (fun hb => ?_)
              · have h := ifpE hb h
                refine g_iload_n cd286_108 rfl rfl ?_
                refine g_bipush cd286_109 rfl ?_
                refine g_icmp_ne cd286_111 rfl (fun hb => ?_) (fun hb => ?_)
                · have h := ifpE hb h
                  refine g_aload_n cd286_114 rfl rfl ?_
                  obtain ⟨x56, hx, h⟩ := bnd h
                  refine g_callVZ (L := [some (.ref 204)]) cd286_115 rfl rfl rfl rfl rfl (OM.o hw) (t_Mod_readNot (by omega) hR hw hx) ?_
                  refine g_istore_n (ls2 := [some (.ref 204), some (.int l1), some (.int l2), some (.int (b2i x56.1))]) cd286_118 rfl rfl ?_
                  refine g_goto (ls2 := [some (.ref 204), some (.int l1), some (.int l2), some (.int (b2i x56.1))]) cd286_119 rfl rfl ?_
                  refine g_aload_n cd286_166 rfl rfl ?_
                  refine g_dupR cd286_167 rfl ?_
                  refine g_getI cd286_168 rfl (OM.o hw) ?_
                  refine g_iconst cd286_171 rfl ?_
                  refine g_isub cd286_172 rfl ?_
                  obtain ⟨I57, e1, h⟩ := bnd h
                  refine G_putI cd286_173 rfl (OM.o hw) (Option.some.inj e1) ?_
                  refine g_iload_n cd286_176 rfl rfl ?_
                  exact g_iret cd286_177 (Or.inr ⟨rfl, b2i_or _⟩) (by obtain rfl := Option.some.inj h; rfl)
                · have h := ifnE hb h
                  refine g_iload_n cd286_122 rfl rfl ?_
                  refine g_bipush cd286_123 rfl ?_
                  refine g_icmp_ge cd286_125 rfl (fun hb => ?_) (fun hb => ?_)
                  · have h := ifpE hb h
                    refine g_iload_n cd286_146 rfl rfl ?_
                    refine g_bipush cd286_147 rfl ?_
                    refine g_icmp_ge cd286_149 rfl (fun hb => ?_) (fun hb => ?_)
                    · have h := ifpE hb h
                      refine g_aload_n cd286_160 rfl rfl ?_
                      refine g_iload_n cd286_161 rfl rfl ?_
                      obtain ⟨x58, hx, h⟩ := bnd h
                      refine g_callVZ (L := [some (.ref 204), some (.int l2), none]) cd286_162 rfl rfl rfl rfl rfl (OM.o hw) (t_Mod_readCompare (by omega) hw hx) ?_
                      refine g_istore_n (ls2 := [some (.ref 204), some (.int l1), some (.int l2), some (.int (b2i x58.1))]) cd286_165 rfl rfl ?_
                      refine g_aload_n cd286_166 rfl rfl ?_
                      refine g_dupR cd286_167 rfl ?_
                      refine g_getI cd286_168 rfl (OM.o hw) ?_
                      refine g_iconst cd286_171 rfl ?_
                      refine g_isub cd286_172 rfl ?_
                      obtain ⟨I59, e1, h⟩ := bnd h
                      refine G_putI cd286_173 rfl (OM.o hw) (Option.some.inj e1) ?_
                      refine g_iload_n cd286_176 rfl rfl ?_
                      exact g_iret cd286_177 (Or.inr ⟨rfl, b2i_or _⟩) (by obtain rfl := Option.some.inj h; rfl)
                    · have h := ifnE hb h
                      refine g_aload_n cd286_152 rfl rfl ?_
                      refine g_iload_n cd286_153 rfl rfl ?_
                      obtain ⟨x60, hx, h⟩ := bnd h
                      refine g_callVZ (L := [some (.ref 204), some (.int l2)]) cd286_154 rfl rfl rfl rfl rfl (OM.o hw) (t_Mod_readOf (by omega) hw hx) ?_
                      refine g_goto (ls2 := [some (.ref 204), some (.int l1), some (.int l2), some (.int 1)]) cd286_157 rfl rfl ?_
                      refine g_istore_n (ls2 := [some (.ref 204), some (.int l1), some (.int l2), some (.int (b2i x60.1))]) cd286_165 rfl rfl ?_
                      refine g_aload_n cd286_166 rfl rfl ?_
                      refine g_dupR cd286_167 rfl ?_
                      refine g_getI cd286_168 rfl (OM.o hw) ?_
                      refine g_iconst cd286_171 rfl ?_
                      refine g_isub cd286_172 rfl ?_
                      obtain ⟨I61, e1, h⟩ := bnd h
                      refine G_putI cd286_173 rfl (OM.o hw) (Option.some.inj e1) ?_
                      refine g_iload_n cd286_176 rfl rfl ?_
                      exact g_iret cd286_177 (Or.inr ⟨rfl, b2i_or _⟩) (by obtain rfl := Option.some.inj h; rfl)
                  · have h := ifnE hb h
                    refine g_aload_n cd286_128 rfl rfl ?_
                    refine g_aload_n cd286_129 rfl rfl ?_
                    refine g_bipush cd286_130 rfl ?_
                    refine g_iload_n cd286_132 rfl rfl ?_
                    refine g_iadd cd286_133 rfl ?_
                    refine g_iconst cd286_134 rfl ?_
                    refine g_iconst cd286_135 rfl ?_
                    refine g_iconst cd286_136 rfl ?_
                    obtain ⟨x62, hx, h⟩ := bnd h
                    refine g_callVI (L := [some (.ref 204), some (.int (50 + l2)), some (.int 0), some (.int 0), some (.int 0), none]) cd286_137 rfl rfl rfl rfl rfl (OM.o hw) (t_Mod_saysOne (by omega) hw hx) ?_
                    obtain ⟨I63, e1, h⟩ := bnd h
                    refine G_putI cd286_140 rfl (OM.o hw) (Option.some.inj e1) ?_
                    refine g_goto (ls2 := [some (.ref 204), some (.int l1), some (.int l2), some (.int 1)]) cd286_143 rfl rfl ?_
                    refine g_aload_n cd286_166 rfl rfl ?_
                    refine g_dupR cd286_167 rfl ?_
                    refine g_getI cd286_168 rfl (OM.o hw) ?_
                    refine g_iconst cd286_171 rfl ?_
                    refine g_isub cd286_172 rfl ?_
                    obtain ⟨I64, e1, h⟩ := bnd h
                    refine G_putI cd286_173 rfl (OM.o hw) (Option.some.inj e1) ?_
                    refine g_iload_n cd286_176 rfl rfl ?_
                    exact g_iret cd286_177 (Or.inr ⟨rfl, Or.inr rfl⟩) (by obtain rfl := Option.some.inj h; rfl)
              · have h := ifnE hb h
                refine g_aload_n cd286_100 rfl rfl ?_
                obtain ⟨x65, hx, h⟩ := bnd h
                refine g_callVZ (L := [some (.ref 204)]) cd286_101 rfl rfl rfl rfl rfl (OM.o hw) (t_Mod_readBracket (by omega) hR hw hx) ?_
                refine g_istore_n (ls2 := [some (.ref 204), some (.int l1), some (.int l2), some (.int (b2i x65.1))]) cd286_104 rfl rfl ?_
                refine g_goto (ls2 := [some (.ref 204), some (.int l1), some (.int l2), some (.int (b2i x65.1))]) cd286_105 rfl rfl ?_
                refine g_aload_n cd286_166 rfl rfl ?_
                refine g_dupR cd286_167 rfl ?_
                refine g_getI cd286_168 rfl (OM.o hw) ?_
                refine g_iconst cd286_171 rfl ?_
                refine g_isub cd286_172 rfl ?_
                obtain ⟨I66, e1, h⟩ := bnd h
                refine G_putI cd286_173 rfl (OM.o hw) (Option.some.inj e1) ?_
                refine g_iload_n cd286_176 rfl rfl ?_
                exact g_iret cd286_177 (Or.inr ⟨rfl, b2i_or _⟩) (by obtain rfl := Option.some.inj h; rfl)
set_option maxRecDepth 8000 in
theorem t_Mod_readSaid {d : Nat} {D : Nat} {R : FI → FJ → Option (Bool × FI × FJ)} {N : Nat} {c : Nat × Nat} {S : Nat → Nat × Nat} {P : Nat → Nat → Option Nat} {I : FI} {J : FJ} {r : Bool × FI × FJ} (hd : D + 6 ≤ d) (hR : ∀ {d : Nat} {I : FI} {J : FJ} {r : Bool × FI × FJ}, D ≤ d → OM S P → R I J = some r → Go d M_Mod_readSaid 0 [some (.ref 204), none, none, none] [] (c, S, I, J, P) (some (.int (b2i r.1)), false, (c, S, r.2.1, r.2.2, P))) (hw : OM S P) (h : Mod_readSaid R N I J = some r) : Go d M_Mod_readSaid 0 [some (.ref 204), none, none, none] [] (c, S, I, J, P) (some (.int (b2i r.1)), false, (c, S, r.2.1, r.2.2, P)) := by
  obtain ⟨d, rfl⟩ : ∃ e, d = e + 1 := ⟨d - 1, by omega⟩
  unfold Mod_readSaid at h
  refine g_aload_n cd286_0 rfl rfl ?_
  refine g_bipush cd286_1 rfl ?_
  refine g_callVZ (L := [some (.ref 204), some (.int 40)]) cd286_3 rfl rfl rfl rfl rfl (OM.o hw) (t_Mod_isSign (by omega) hw rfl) ?_
  refine g_istore_n (ls2 := [some (.ref 204), some (.int (b2i (Mod_isSign 40 I))), none, none]) cd286_6 rfl rfl ?_
  refine g_bipush cd286_7 rfl ?_
  refine g_istore_n (ls2 := [some (.ref 204), some (.int (b2i (Mod_isSign 40 I))), some (.int 21), none]) cd286_9 rfl rfl ?_
  exact t_Mod_readSaid_10 hd hR hw _ (b2i (Mod_isSign 40 I)) 21 I J h
set_option maxRecDepth 8000 in
theorem t_Mod_readSaid_R {N : Nat} {c : Nat × Nat} {S : Nat → Nat × Nat} {P : Nat → Nat → Option Nat} : ∀ (k D : Nat), 6 * k ≤ D → ∀ {d : Nat} {I : FI} {J : FJ} {r : Bool × FI × FJ}, D ≤ d → OM S P → Mod_readSaid_R N k I J = some r → Go d M_Mod_readSaid 0 [some (.ref 204), none, none, none] [] (c, S, I, J, P) (some (.int (b2i r.1)), false, (c, S, r.2.1, r.2.2, P)) := by
  intro k
  induction k with
  | zero =>
    intro D hD d  I J r hd hw h
    cases h
  | succ k ih =>
    intro D hD d  I J r hd hw h
    exact t_Mod_readSaid (D := 6 * k) (N := N) (by omega) (ih (6 * k) (Nat.le_refl _)) hw h

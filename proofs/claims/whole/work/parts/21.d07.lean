/-! HiddenOrLost.restore(I)Z -/
theorem cd163_0 : code9 163 0 = some (0, .iload_n 1, [1], .null, []) := rfl
theorem cd163_1 : code9 163 1 = some (0, .ifCond .eq 10, [3, 11], .null, []) := rfl
theorem cd163_4 : code9 163 4 = some (0, .iload_n 1, [1], .null, []) := rfl
theorem cd163_5 : code9 163 5 = some (0, .iconst 1, [1], .int 1, []) := rfl
theorem cd163_6 : code9 163 6 = some (0, .if_icmp .eq 5, [3, 11], .null, []) := rfl
theorem cd163_9 : code9 163 9 = some (0, .iconst 0, [1], .int 0, []) := rfl
theorem cd163_10 : code9 163 10 = some (0, .ireturn, [1, 3], .null, []) := rfl
theorem cd163_11 : code9 163 11 = some (3, .iload_n 1, [1], .null, []) := rfl
theorem cd163_12 : code9 163 12 = some (0, .ifCond .ne 10, [3, 22], .null, []) := rfl
theorem cd163_15 : code9 163 15 = some (0, .aload_n 0, [1], .null, []) := rfl
theorem cd163_16 : code9 163 16 = some (0, .getfield 63, [3, 11, 9, 2], .null, []) := rfl
theorem cd163_19 : code9 163 19 = some (0, .goto 7, [3, 26, 2], .null, []) := rfl
theorem cd163_22 : code9 163 22 = some (0, .aload_n 0, [1], .null, []) := rfl
theorem cd163_23 : code9 163 23 = some (0, .getfield 67, [3, 11, 10, 2], .null, []) := rfl
theorem cd163_26 : code9 163 26 = some (3, .astore_n 2, [1], .null, []) := rfl
theorem cd163_27 : code9 163 27 = some (0, .aload_n 2, [1], .null, []) := rfl
theorem cd163_28 : code9 163 28 = some (0, .getfield 386, [3, 4, 3, 0], .null, []) := rfl
theorem cd163_31 : code9 163 31 = some (0, .ifCond .ne 5, [3, 36], .null, []) := rfl
theorem cd163_34 : code9 163 34 = some (0, .iconst 0, [1], .int 0, []) := rfl
theorem cd163_35 : code9 163 35 = some (0, .ireturn, [1, 3], .null, []) := rfl
theorem cd163_36 : code9 163 36 = some (0, .aload_n 0, [1], .null, []) := rfl
theorem cd163_37 : code9 163 37 = some (0, .getfield 19, [3, 11, 1, 2], .null, []) := rfl
theorem cd163_40 : code9 163 40 = some (0, .aload_n 2, [1], .null, []) := rfl
theorem cd163_41 : code9 163 41 = some (0, .getfield 376, [3, 4, 0, 2], .null, []) := rfl
theorem cd163_44 : code9 163 44 = some (0, .invokevirtual 377, [3, 60, 2, 1, 0, 2, 6, 0], .null, []) := rfl
theorem cd163_47 : code9 163 47 = some (0, .aload_n 0, [1], .null, []) := rfl
theorem cd163_48 : code9 163 48 = some (0, .getfield 29, [3, 11, 3, 2], .null, []) := rfl
theorem cd163_51 : code9 163 51 = some (0, .aload_n 2, [1], .null, []) := rfl
theorem cd163_52 : code9 163 52 = some (0, .getfield 379, [3, 4, 1, 2], .null, []) := rfl
theorem cd163_55 : code9 163 55 = some (0, .invokevirtual 348, [3, 89, 2, 1, 0, 2, 9, 0], .null, []) := rfl
theorem cd163_58 : code9 163 58 = some (0, .aload_n 0, [1], .null, []) := rfl
theorem cd163_59 : code9 163 59 = some (0, .getfield 39, [3, 11, 5, 2], .null, []) := rfl
theorem cd163_62 : code9 163 62 = some (0, .aload_n 2, [1], .null, []) := rfl
theorem cd163_63 : code9 163 63 = some (0, .getfield 380, [3, 4, 2, 2], .null, []) := rfl
theorem cd163_66 : code9 163 66 = some (0, .invokevirtual 383, [3, 79, 2, 1, 0, 2, 8, 0], .null, []) := rfl
theorem cd163_69 : code9 163 69 = some (0, .aload_n 0, [1], .null, []) := rfl
theorem cd163_70 : code9 163 70 = some (0, .getfield 56, [3, 11, 8, 2], .null, []) := rfl
theorem cd163_73 : code9 163 73 = some (0, .invokevirtual 137, [3, 24, 1, 1, 0, 1, 3, 0], .null, []) := rfl
theorem cd163_76 : code9 163 76 = some (0, .iconst 1, [1], .int 1, []) := rfl
theorem cd163_77 : code9 163 77 = some (0, .ireturn, [1, 3], .null, []) := rfl
def Hol_restore (ln sp sn ss : Nat) (l1 : Int32) (I : FI) (J : FJ) : Option (Bool × FI × FJ) := if l1 = 0 then (if l1 = 0 then (if (I 142 3) = 0 then (some (false, I, J)) else (Option.bind (Land_copy ln 143 I J) fun x1 => (Option.bind (State_copy 25 152 x1.1) fun x2 => (Option.bind (Sentence_copy sn 162 x2) fun x3 => (Option.bind (History_clear 60 x3) fun x4 => (some (true, x4, x1.2))))))) else (if (I 167 3) = 0 then (some (false, I, J)) else (Option.bind (Land_copy ln 168 I J) fun x5 => (Option.bind (State_copy 25 177 x5.1) fun x6 => (Option.bind (Sentence_copy sn 187 x6) fun x7 => (Option.bind (History_clear 60 x7) fun x8 => (some (true, x8, x5.2)))))))) else (if l1 = 1 then (if l1 = 0 then (if (I 142 3) = 0 then (some (false, I, J)) else (Option.bind (Land_copy ln 143 I J) fun x9 => (Option.bind (State_copy 25 152 x9.1) fun x10 => (Option.bind (Sentence_copy sn 162 x10) fun x11 => (Option.bind (History_clear 60 x11) fun x12 => (some (true, x12, x9.2))))))) else (if (I 167 3) = 0 then (some (false, I, J)) else (Option.bind (Land_copy ln 168 I J) fun x13 => (Option.bind (State_copy 25 177 x13.1) fun x14 => (Option.bind (Sentence_copy sn 187 x14) fun x15 => (Option.bind (History_clear 60 x15) fun x16 => (some (true, x16, x13.2)))))))) else (some (false, I, J)))
set_option maxRecDepth 8000 in
theorem t_Hol_restore {d : Nat} {ln sp sn ss : Nat} {c : Nat × Nat} {S : Nat → Nat × Nat} {P : Nat → Nat → Option Nat} {I : FI} {J : FJ} {l1 : Int32} {r : Bool × FI × FJ} (hd : 2 ≤ d) (hw : OH S P ln sp sn ss) (h : Hol_restore ln sp sn ss l1 I J = some r) : Go d M_Hol_restore 0 [some (.ref 0), some (.int l1), none] [] (c, S, I, J, P) (some (.int (b2i r.1)), false, (c, S, r.2.1, r.2.2, P)) := by
  obtain ⟨d, rfl⟩ : ∃ e, d = e + 1 := ⟨d - 1, by omega⟩
  unfold Hol_restore at h
  refine g_iload_n cd163_0 rfl rfl ?_
  refine g_if_eq cd163_1 rfl (fun hb => ?_) (fun hb => ?_)
  · have h := ifpE hb h
    refine g_iload_n cd163_11 rfl rfl ?_
    refine g_if_ne cd163_12 rfl (fun hb => ?_) (fun hb => ?_)
    · have h := ifpE hb h
      refine g_aload_n cd163_15 rfl rfl ?_
      refine g_getP cd163_16 rfl (OH.o hw) (OH.p9 hw) ?_
      refine g_goto (ls2 := [some (.ref 0), some (.int l1), none]) cd163_19 rfl rfl ?_
      refine g_astore_n (ls2 := [some (.ref 0), some (.int l1), some (.ref 142)]) cd163_26 rfl rfl ?_
      refine g_aload_n cd163_27 rfl rfl ?_
      refine g_getI cd163_28 rfl (O4.o (OH.q9 hw)) ?_
      refine g_if_ne cd163_31 rfl (fun hb => ?_) (fun hb => ?_)
      · have h := ifpE hb h
        refine g_iconst cd163_34 rfl ?_
        exact g_iret cd163_35 (Or.inr ⟨rfl, Or.inl rfl⟩) (by obtain rfl := Option.some.inj h; rfl)
      · have h := ifnE hb h
        refine g_aload_n cd163_36 rfl rfl ?_
        refine g_getP cd163_37 rfl (OH.o hw) (OH.p1 hw) ?_
        refine g_aload_n cd163_40 rfl rfl ?_
        refine g_getP cd163_41 rfl (O4.o (OH.q9 hw)) (show P 142 0 = some 143 from O4.p0 (OH.q9 hw)) ?_
        obtain ⟨x1, hx, h⟩ := bnd h
        refine g_callVV (L := [some (.ref ln), some (.ref 143)]) cd163_44 rfl rfl rfl rfl rfl (O6.o (OH.q1 hw)) (t_Land_copy (by omega) (OH.q1 hw) (show O6 S P 143 from O4.q0 (OH.q9 hw)) hx) ?_
        refine g_aload_n cd163_47 rfl rfl ?_
        refine g_getP cd163_48 rfl (OH.o hw) (OH.p3 hw) ?_
        refine g_aload_n cd163_51 rfl rfl ?_
        refine g_getP cd163_52 rfl (O4.o (OH.q9 hw)) (show P 142 1 = some 152 from O4.p1 (OH.q9 hw)) ?_
        obtain ⟨x2, hx, h⟩ := bnd h
        refine g_callVV (L := [some (.ref 25), some (.ref 152)]) cd163_55 rfl rfl rfl rfl rfl (O9.o (OH.q3 hw)) (t_State_copy (by omega) (OH.q3 hw) (show O9 S P 152 from O4.q1 (OH.q9 hw)) hx) ?_
        refine g_aload_n cd163_58 rfl rfl ?_
        refine g_getP cd163_59 rfl (OH.o hw) (OH.p5 hw) ?_
        refine g_aload_n cd163_62 rfl rfl ?_
        refine g_getP cd163_63 rfl (O4.o (OH.q9 hw)) (show P 142 2 = some 162 from O4.p2 (OH.q9 hw)) ?_
        obtain ⟨x3, hx, h⟩ := bnd h
        refine g_callVV (L := [some (.ref sn), some (.ref 162)]) cd163_66 rfl rfl rfl rfl rfl (O8.o (OH.q5 hw)) (t_Sentence_copy (by omega) (OH.q5 hw) (show O8 S P 162 from O4.q2 (OH.q9 hw)) hx) ?_
        refine g_aload_n cd163_69 rfl rfl ?_
        refine g_getP cd163_70 rfl (OH.o hw) (OH.p8 hw) ?_
        obtain ⟨x4, hx, h⟩ := bnd h
        refine g_callVV (L := [some (.ref 60)]) cd163_73 rfl rfl rfl rfl rfl (O3.o (OH.q8 hw)) (t_History_clear (by omega) (OH.q8 hw) hx) ?_
        refine g_iconst cd163_76 rfl ?_
        exact g_iret cd163_77 (Or.inr ⟨rfl, Or.inr rfl⟩) (by obtain rfl := Option.some.inj h; rfl)
    · have h := ifnE hb h
      refine g_aload_n cd163_22 rfl rfl ?_
      refine g_getP cd163_23 rfl (OH.o hw) (OH.p10 hw) ?_
      refine g_astore_n (ls2 := [some (.ref 0), some (.int l1), some (.ref 167)]) cd163_26 rfl rfl ?_
      refine g_aload_n cd163_27 rfl rfl ?_
      refine g_getI cd163_28 rfl (O4.o (OH.q10 hw)) ?_
      refine g_if_ne cd163_31 rfl (fun hb => ?_) (fun hb => ?_)
      · have h := ifpE hb h
        refine g_iconst cd163_34 rfl ?_
        exact g_iret cd163_35 (Or.inr ⟨rfl, Or.inl rfl⟩) (by obtain rfl := Option.some.inj h; rfl)
      · have h := ifnE hb h
        refine g_aload_n cd163_36 rfl rfl ?_
        refine g_getP cd163_37 rfl (OH.o hw) (OH.p1 hw) ?_
        refine g_aload_n cd163_40 rfl rfl ?_
        refine g_getP cd163_41 rfl (O4.o (OH.q10 hw)) (show P 167 0 = some 168 from O4.p0 (OH.q10 hw)) ?_
        obtain ⟨x5, hx, h⟩ := bnd h
        refine g_callVV (L := [some (.ref ln), some (.ref 168)]) cd163_44 rfl rfl rfl rfl rfl (O6.o (OH.q1 hw)) (t_Land_copy (by omega) (OH.q1 hw) (show O6 S P 168 from O4.q0 (OH.q10 hw)) hx) ?_
        refine g_aload_n cd163_47 rfl rfl ?_
        refine g_getP cd163_48 rfl (OH.o hw) (OH.p3 hw) ?_
        refine g_aload_n cd163_51 rfl rfl ?_
        refine g_getP cd163_52 rfl (O4.o (OH.q10 hw)) (show P 167 1 = some 177 from O4.p1 (OH.q10 hw)) ?_
        obtain ⟨x6, hx, h⟩ := bnd h
        refine g_callVV (L := [some (.ref 25), some (.ref 177)]) cd163_55 rfl rfl rfl rfl rfl (O9.o (OH.q3 hw)) (t_State_copy (by omega) (OH.q3 hw) (show O9 S P 177 from O4.q1 (OH.q10 hw)) hx) ?_
        refine g_aload_n cd163_58 rfl rfl ?_
        refine g_getP cd163_59 rfl (OH.o hw) (OH.p5 hw) ?_
        refine g_aload_n cd163_62 rfl rfl ?_
        refine g_getP cd163_63 rfl (O4.o (OH.q10 hw)) (show P 167 2 = some 187 from O4.p2 (OH.q10 hw)) ?_
        obtain ⟨x7, hx, h⟩ := bnd h
        refine g_callVV (L := [some (.ref sn), some (.ref 187)]) cd163_66 rfl rfl rfl rfl rfl (O8.o (OH.q5 hw)) (t_Sentence_copy (by omega) (OH.q5 hw) (show O8 S P 187 from O4.q2 (OH.q10 hw)) hx) ?_
        refine g_aload_n cd163_69 rfl rfl ?_
        refine g_getP cd163_70 rfl (OH.o hw) (OH.p8 hw) ?_
        obtain ⟨x8, hx, h⟩ := bnd h
        refine g_callVV (L := [some (.ref 60)]) cd163_73 rfl rfl rfl rfl rfl (O3.o (OH.q8 hw)) (t_History_clear (by omega) (OH.q8 hw) hx) ?_
        refine g_iconst cd163_76 rfl ?_
        exact g_iret cd163_77 (Or.inr ⟨rfl, Or.inr rfl⟩) (by obtain rfl := Option.some.inj h; rfl)
  · have h := ifnE hb h
    refine g_iload_n cd163_4 rfl rfl ?_
    refine g_iconst cd163_5 rfl ?_
    refine g_icmp_eq cd163_6 rfl (fun hb => ?_) (fun hb => ?_)
    · have h := ifpE hb h
      refine g_iload_n cd163_11 rfl rfl ?_
      refine g_if_ne cd163_12 rfl (fun hb => ?_) (fun hb => ?_)
      · have h := ifpE hb h
        refine g_aload_n cd163_15 rfl rfl ?_
        refine g_getP cd163_16 rfl (OH.o hw) (OH.p9 hw) ?_
        refine g_goto (ls2 := [some (.ref 0), some (.int l1), none]) cd163_19 rfl rfl ?_
        refine g_astore_n (ls2 := [some (.ref 0), some (.int l1), some (.ref 142)]) cd163_26 rfl rfl ?_
        refine g_aload_n cd163_27 rfl rfl ?_
        refine g_getI cd163_28 rfl (O4.o (OH.q9 hw)) ?_
        refine g_if_ne cd163_31 rfl (fun hb => ?_) (fun hb => ?_)
        · have h := ifpE hb h
          refine g_iconst cd163_34 rfl ?_
          exact g_iret cd163_35 (Or.inr ⟨rfl, Or.inl rfl⟩) (by obtain rfl := Option.some.inj h; rfl)
        · have h := ifnE hb h
          refine g_aload_n cd163_36 rfl rfl ?_
          refine g_getP cd163_37 rfl (OH.o hw) (OH.p1 hw) ?_
          refine g_aload_n cd163_40 rfl rfl ?_
          refine g_getP cd163_41 rfl (O4.o (OH.q9 hw)) (show P 142 0 = some 143 from O4.p0 (OH.q9 hw)) ?_
          obtain ⟨x9, hx, h⟩ := bnd h
          refine g_callVV (L := [some (.ref ln), some (.ref 143)]) cd163_44 rfl rfl rfl rfl rfl (O6.o (OH.q1 hw)) (t_Land_copy (by omega) (OH.q1 hw) (show O6 S P 143 from O4.q0 (OH.q9 hw)) hx) ?_
          refine g_aload_n cd163_47 rfl rfl ?_
          refine g_getP cd163_48 rfl (OH.o hw) (OH.p3 hw) ?_
          refine g_aload_n cd163_51 rfl rfl ?_
          refine g_getP cd163_52 rfl (O4.o (OH.q9 hw)) (show P 142 1 = some 152 from O4.p1 (OH.q9 hw)) ?_
          obtain ⟨x10, hx, h⟩ := bnd h
          refine g_callVV (L := [some (.ref 25), some (.ref 152)]) cd163_55 rfl rfl rfl rfl rfl (O9.o (OH.q3 hw)) (t_State_copy (by omega) (OH.q3 hw) (show O9 S P 152 from O4.q1 (OH.q9 hw)) hx) ?_
          refine g_aload_n cd163_58 rfl rfl ?_
          refine g_getP cd163_59 rfl (OH.o hw) (OH.p5 hw) ?_
          refine g_aload_n cd163_62 rfl rfl ?_
          refine g_getP cd163_63 rfl (O4.o (OH.q9 hw)) (show P 142 2 = some 162 from O4.p2 (OH.q9 hw)) ?_
          obtain ⟨x11, hx, h⟩ := bnd h
          refine g_callVV (L := [some (.ref sn), some (.ref 162)]) cd163_66 rfl rfl rfl rfl rfl (O8.o (OH.q5 hw)) (t_Sentence_copy (by omega) (OH.q5 hw) (show O8 S P 162 from O4.q2 (OH.q9 hw)) hx) ?_
          refine g_aload_n cd163_69 rfl rfl ?_
          refine g_getP cd163_70 rfl (OH.o hw) (OH.p8 hw) ?_
          obtain ⟨x12, hx, h⟩ := bnd h
          refine g_callVV (L := [some (.ref 60)]) cd163_73 rfl rfl rfl rfl rfl (O3.o (OH.q8 hw)) (t_History_clear (by omega) (OH.q8 hw) hx) ?_
          refine g_iconst cd163_76 rfl ?_
          exact g_iret cd163_77 (Or.inr ⟨rfl, Or.inr rfl⟩) (by obtain rfl := Option.some.inj h; rfl)
      · have h := ifnE hb h
        refine g_aload_n cd163_22 rfl rfl ?_
        refine g_getP cd163_23 rfl (OH.o hw) (OH.p10 hw) ?_
        refine g_astore_n (ls2 := [some (.ref 0), some (.int l1), some (.ref 167)]) cd163_26 rfl rfl ?_
        refine g_aload_n cd163_27 rfl rfl ?_
        refine g_getI cd163_28 rfl (O4.o (OH.q10 hw)) ?_
        refine g_if_ne cd163_31 rfl (fun hb => ?_) (fun hb => ?_)
        · have h := ifpE hb h
          refine g_iconst cd163_34 rfl ?_
          exact g_iret cd163_35 (Or.inr ⟨rfl, Or.inl rfl⟩) (by obtain rfl := Option.some.inj h; rfl)
        · have h := ifnE hb h
          refine g_aload_n cd163_36 rfl rfl ?_
          refine g_getP cd163_37 rfl (OH.o hw) (OH.p1 hw) ?_
          refine g_aload_n cd163_40 rfl rfl ?_
          refine g_getP cd163_41 rfl (O4.o (OH.q10 hw)) (show P 167 0 = some 168 from O4.p0 (OH.q10 hw)) ?_
          obtain ⟨x13, hx, h⟩ := bnd h
          refine g_callVV (L := [some (.ref ln), some (.ref 168)]) cd163_44 rfl rfl rfl rfl rfl (O6.o (OH.q1 hw)) (t_Land_copy (by omega) (OH.q1 hw) (show O6 S P 168 from O4.q0 (OH.q10 hw)) hx) ?_
          refine g_aload_n cd163_47 rfl rfl ?_
          refine g_getP cd163_48 rfl (OH.o hw) (OH.p3 hw) ?_
          refine g_aload_n cd163_51 rfl rfl ?_
          refine g_getP cd163_52 rfl (O4.o (OH.q10 hw)) (show P 167 1 = some 177 from O4.p1 (OH.q10 hw)) ?_
          obtain ⟨x14, hx, h⟩ := bnd h
          refine g_callVV (L := [some (.ref 25), some (.ref 177)]) cd163_55 rfl rfl rfl rfl rfl (O9.o (OH.q3 hw)) (t_State_copy (by omega) (OH.q3 hw) (show O9 S P 177 from O4.q1 (OH.q10 hw)) hx) ?_
          refine g_aload_n cd163_58 rfl rfl ?_
          refine g_getP cd163_59 rfl (OH.o hw) (OH.p5 hw) ?_
          refine g_aload_n cd163_62 rfl rfl ?_
          refine g_getP cd163_63 rfl (O4.o (OH.q10 hw)) (show P 167 2 = some 187 from O4.p2 (OH.q10 hw)) ?_
          obtain ⟨x15, hx, h⟩ := bnd h
          refine g_callVV (L := [some (.ref sn), some (.ref 187)]) cd163_66 rfl rfl rfl rfl rfl (O8.o (OH.q5 hw)) (t_Sentence_copy (by omega) (OH.q5 hw) (show O8 S P 187 from O4.q2 (OH.q10 hw)) hx) ?_
          refine g_aload_n cd163_69 rfl rfl ?_
          refine g_getP cd163_70 rfl (OH.o hw) (OH.p8 hw) ?_
          obtain ⟨x16, hx, h⟩ := bnd h
          refine g_callVV (L := [some (.ref 60)]) cd163_73 rfl rfl rfl rfl rfl (O3.o (OH.q8 hw)) (t_History_clear (by omega) (OH.q8 hw) hx) ?_
          refine g_iconst cd163_76 rfl ?_
          exact g_iret cd163_77 (Or.inr ⟨rfl, Or.inr rfl⟩) (by obtain rfl := Option.some.inj h; rfl)
    · have h := ifnE hb h
      refine g_iconst cd163_9 rfl ?_
      exact g_iret cd163_10 (Or.inr ⟨rfl, Or.inl rfl⟩) (by obtain rfl := Option.some.inj h; rfl)
/-! HiddenOrLost.count(I)I -/
theorem cd164_0 : code9 164 0 = some (0, .iload_n 1, [1], .null, []) := rfl
theorem cd164_1 : code9 164 1 = some (0, .tableswitch 99 0 6 #[43, 51, 59, 67, 75, 83, 91], [43, 100], .null, [(0, 44), (1, 52), (2, 60), (3, 68), (4, 76), (5, 84), (6, 92)]) := rfl
theorem cd164_44 : code9 164 44 = some (0, .aload_n 0, [1], .null, []) := rfl
theorem cd164_45 : code9 164 45 = some (0, .getfield 19, [3, 11, 1, 2], .null, []) := rfl
theorem cd164_48 : code9 164 48 = some (0, .getfield 246, [3, 6, 11, 0], .null, []) := rfl
theorem cd164_51 : code9 164 51 = some (0, .ireturn, [1, 1], .null, []) := rfl
theorem cd164_52 : code9 164 52 = some (0, .aload_n 0, [1], .null, []) := rfl
theorem cd164_53 : code9 164 53 = some (0, .getfield 19, [3, 11, 1, 2], .null, []) := rfl
theorem cd164_56 : code9 164 56 = some (0, .getfield 373, [3, 6, 12, 0], .null, []) := rfl
theorem cd164_59 : code9 164 59 = some (0, .ireturn, [1, 1], .null, []) := rfl
theorem cd164_60 : code9 164 60 = some (0, .aload_n 0, [1], .null, []) := rfl
theorem cd164_61 : code9 164 61 = some (0, .getfield 19, [3, 11, 1, 2], .null, []) := rfl
theorem cd164_64 : code9 164 64 = some (0, .getfield 317, [3, 6, 13, 0], .null, []) := rfl
theorem cd164_67 : code9 164 67 = some (0, .ireturn, [1, 1], .null, []) := rfl
theorem cd164_68 : code9 164 68 = some (0, .aload_n 0, [1], .null, []) := rfl
theorem cd164_69 : code9 164 69 = some (0, .getfield 19, [3, 11, 1, 2], .null, []) := rfl
theorem cd164_72 : code9 164 72 = some (0, .getfield 390, [3, 6, 8, 0], .null, []) := rfl
theorem cd164_75 : code9 164 75 = some (0, .ireturn, [1, 1], .null, []) := rfl
theorem cd164_76 : code9 164 76 = some (0, .aload_n 0, [1], .null, []) := rfl
theorem cd164_77 : code9 164 77 = some (0, .getfield 19, [3, 11, 1, 2], .null, []) := rfl
theorem cd164_80 : code9 164 80 = some (0, .getfield 393, [3, 6, 9, 0], .null, []) := rfl
theorem cd164_83 : code9 164 83 = some (0, .ireturn, [1, 1], .null, []) := rfl
theorem cd164_84 : code9 164 84 = some (0, .aload_n 0, [1], .null, []) := rfl
theorem cd164_85 : code9 164 85 = some (0, .getfield 19, [3, 11, 1, 2], .null, []) := rfl
theorem cd164_88 : code9 164 88 = some (0, .getfield 396, [3, 6, 10, 0], .null, []) := rfl
theorem cd164_91 : code9 164 91 = some (0, .ireturn, [1, 1], .null, []) := rfl
theorem cd164_92 : code9 164 92 = some (0, .aload_n 0, [1], .null, []) := rfl
theorem cd164_93 : code9 164 93 = some (0, .getfield 10, [3, 11, 0, 2], .null, []) := rfl
theorem cd164_96 : code9 164 96 = some (0, .getfield 115, [3, 10, 5, 0], .null, []) := rfl
theorem cd164_99 : code9 164 99 = some (0, .ireturn, [1, 1], .null, []) := rfl
theorem cd164_100 : code9 164 100 = some (0, .iconst (-1), [1], .int (-1), []) := rfl
theorem cd164_101 : code9 164 101 = some (0, .ireturn, [1, 1], .null, []) := rfl
def Hol_count (ln sp sn ss : Nat) (l1 : Int32) (I : FI) : Int32 := if l1 = 0 then (I ln 11) else (if l1 = 1 then (I ln 12) else (if l1 = 2 then (I ln 13) else (if l1 = 3 then (I ln 8) else (if l1 = 4 then (I ln 9) else (if l1 = 5 then (I ln 10) else (if l1 = 6 then (I 1 5) else ((-1))))))))
set_option maxRecDepth 8000 in
theorem t_Hol_count {d : Nat} {ln sp sn ss : Nat} {c : Nat × Nat} {S : Nat → Nat × Nat} {P : Nat → Nat → Option Nat} {I : FI} {J : FJ} {l1 : Int32} {r : Int32} (hd : 0 ≤ d) (hw : OH S P ln sp sn ss) (h : Hol_count ln sp sn ss l1 I = r) : Go d M_Hol_count 0 [some (.ref 0), some (.int l1)] [] (c, S, I, J, P) (some (.int r), false, (c, S, I, J, P)) := by
  unfold Hol_count at h
  refine g_iload_n cd164_0 rfl rfl ?_
  refine g_tableswitch cd164_1 rfl ?_
  refine ifi (fun hb => ?_) (fun hb => ?_)
  · have h := ifpE hb h
    show Go _ _ 44 [some (.ref 0), some (.int l1)] [] _ _
    refine g_aload_n cd164_44 rfl rfl ?_
    refine g_getP cd164_45 rfl (OH.o hw) (OH.p1 hw) ?_
    refine g_getI cd164_48 rfl (O6.o (OH.q1 hw)) ?_
    exact g_iret cd164_51 (Or.inl rfl) (by subst h; rfl)
  have h := ifnE hb h
  refine ifi (fun hb => ?_) (fun hb => ?_)
  · have h := ifpE hb h
    show Go _ _ 52 [some (.ref 0), some (.int l1)] [] _ _
    refine g_aload_n cd164_52 rfl rfl ?_
    refine g_getP cd164_53 rfl (OH.o hw) (OH.p1 hw) ?_
    refine g_getI cd164_56 rfl (O6.o (OH.q1 hw)) ?_
    exact g_iret cd164_59 (Or.inl rfl) (by subst h; rfl)
  have h := ifnE hb h
  refine ifi (fun hb => ?_) (fun hb => ?_)
  · have h := ifpE hb h
    show Go _ _ 60 [some (.ref 0), some (.int l1)] [] _ _
    refine g_aload_n cd164_60 rfl rfl ?_
    refine g_getP cd164_61 rfl (OH.o hw) (OH.p1 hw) ?_
    refine g_getI cd164_64 rfl (O6.o (OH.q1 hw)) ?_
    exact g_iret cd164_67 (Or.inl rfl) (by subst h; rfl)
  have h := ifnE hb h
  refine ifi (fun hb => ?_) (fun hb => ?_)
  · have h := ifpE hb h
    show Go _ _ 68 [some (.ref 0), some (.int l1)] [] _ _
    refine g_aload_n cd164_68 rfl rfl ?_
    refine g_getP cd164_69 rfl (OH.o hw) (OH.p1 hw) ?_
    refine g_getI cd164_72 rfl (O6.o (OH.q1 hw)) ?_
    exact g_iret cd164_75 (Or.inl rfl) (by subst h; rfl)
  have h := ifnE hb h
  refine ifi (fun hb => ?_) (fun hb => ?_)
  · have h := ifpE hb h
    show Go _ _ 76 [some (.ref 0), some (.int l1)] [] _ _
    refine g_aload_n cd164_76 rfl rfl ?_
    refine g_getP cd164_77 rfl (OH.o hw) (OH.p1 hw) ?_
    refine g_getI cd164_80 rfl (O6.o (OH.q1 hw)) ?_
    exact g_iret cd164_83 (Or.inl rfl) (by subst h; rfl)
  have h := ifnE hb h
  refine ifi (fun hb => ?_) (fun hb => ?_)
  · have h := ifpE hb h
    show Go _ _ 84 [some (.ref 0), some (.int l1)] [] _ _
    refine g_aload_n cd164_84 rfl rfl ?_
    refine g_getP cd164_85 rfl (OH.o hw) (OH.p1 hw) ?_
    refine g_getI cd164_88 rfl (O6.o (OH.q1 hw)) ?_
    exact g_iret cd164_91 (Or.inl rfl) (by subst h; rfl)
  have h := ifnE hb h
  refine ifi (fun hb => ?_) (fun hb => ?_)
  · have h := ifpE hb h
    show Go _ _ 92 [some (.ref 0), some (.int l1)] [] _ _
    refine g_aload_n cd164_92 rfl rfl ?_
    refine g_getP cd164_93 rfl (OH.o hw) (OH.p0 hw) ?_
    refine g_getI cd164_96 rfl (O10.o (OH.q0 hw)) ?_
    exact g_iret cd164_99 (Or.inl rfl) (by subst h; rfl)
  have h := ifnE hb h
  show Go _ _ 100 [some (.ref 0), some (.int l1)] [] _ _
  refine g_iconst cd164_100 rfl ?_
  exact g_iret cd164_101 (Or.inl rfl) (by subst h; rfl)
/-! HiddenOrLost.find(II)I -/
theorem cd165_0 : code9 165 0 = some (0, .aload_n 0, [1], .null, []) := rfl
theorem cd165_1 : code9 165 1 = some (0, .getfield 19, [3, 11, 1, 2], .null, []) := rfl
theorem cd165_4 : code9 165 4 = some (0, .iload_n 1, [1], .null, []) := rfl
theorem cd165_5 : code9 165 5 = some (0, .invokevirtual 141, [3, 55, 2, 1, 3, 2, 6, 0], .null, []) := rfl
theorem cd165_8 : code9 165 8 = some (0, .ifCond .eq 13, [3, 21], .null, []) := rfl
theorem cd165_11 : code9 165 11 = some (0, .iload_n 2, [1], .null, []) := rfl
theorem cd165_12 : code9 165 12 = some (0, .ifCond .lt 9, [3, 21], .null, []) := rfl
theorem cd165_15 : code9 165 15 = some (0, .iload_n 2, [1], .null, []) := rfl
theorem cd165_16 : code9 165 16 = some (0, .bipush 7, [2], .int 7, []) := rfl
theorem cd165_18 : code9 165 18 = some (0, .if_icmp .le 11, [3, 29], .null, []) := rfl
theorem cd165_21 : code9 165 21 = some (4, .new 145, [3, 13, 6, 1], .null, []) := rfl
theorem cd165_29 : code9 165 29 = some (0, .iload_n 2, [1], .null, []) := rfl
theorem cd165_30 : code9 165 30 = some (0, .tableswitch 92 1 7 #[42, 52, 62, 92, 92, 72, 82], [42, 122], .null, [(1, 72), (2, 82), (3, 92), (4, 122), (5, 122), (6, 102), (7, 112)]) := rfl
theorem cd165_72 : code9 165 72 = some (0, .aload_n 0, [1], .null, []) := rfl
theorem cd165_73 : code9 165 73 = some (0, .getfield 29, [3, 11, 3, 2], .null, []) := rfl
theorem cd165_76 : code9 165 76 = some (0, .getfield 148, [3, 9, 0, 2], .null, []) := rfl
theorem cd165_79 : code9 165 79 = some (0, .iload_n 1, [1], .null, []) := rfl
theorem cd165_80 : code9 165 80 = some (0, .iaload, [1], .null, []) := rfl
theorem cd165_81 : code9 165 81 = some (0, .ireturn, [1, 1], .null, []) := rfl
theorem cd165_82 : code9 165 82 = some (0, .aload_n 0, [1], .null, []) := rfl
theorem cd165_83 : code9 165 83 = some (0, .getfield 29, [3, 11, 3, 2], .null, []) := rfl
theorem cd165_86 : code9 165 86 = some (0, .getfield 151, [3, 9, 1, 2], .null, []) := rfl
theorem cd165_89 : code9 165 89 = some (0, .iload_n 1, [1], .null, []) := rfl
theorem cd165_90 : code9 165 90 = some (0, .iaload, [1], .null, []) := rfl
theorem cd165_91 : code9 165 91 = some (0, .ireturn, [1, 1], .null, []) := rfl
theorem cd165_92 : code9 165 92 = some (0, .aload_n 0, [1], .null, []) := rfl
theorem cd165_93 : code9 165 93 = some (0, .getfield 29, [3, 11, 3, 2], .null, []) := rfl
theorem cd165_96 : code9 165 96 = some (0, .getfield 154, [3, 9, 2, 2], .null, []) := rfl
theorem cd165_99 : code9 165 99 = some (0, .iload_n 1, [1], .null, []) := rfl
theorem cd165_100 : code9 165 100 = some (0, .iaload, [1], .null, []) := rfl
theorem cd165_101 : code9 165 101 = some (0, .ireturn, [1, 1], .null, []) := rfl
theorem cd165_102 : code9 165 102 = some (0, .aload_n 0, [1], .null, []) := rfl
theorem cd165_103 : code9 165 103 = some (0, .getfield 29, [3, 11, 3, 2], .null, []) := rfl
theorem cd165_106 : code9 165 106 = some (0, .getfield 157, [3, 9, 3, 2], .null, []) := rfl
theorem cd165_109 : code9 165 109 = some (0, .iload_n 1, [1], .null, []) := rfl
theorem cd165_110 : code9 165 110 = some (0, .iaload, [1], .null, []) := rfl
theorem cd165_111 : code9 165 111 = some (0, .ireturn, [1, 1], .null, []) := rfl
theorem cd165_112 : code9 165 112 = some (0, .aload_n 0, [1], .null, []) := rfl
theorem cd165_113 : code9 165 113 = some (0, .getfield 29, [3, 11, 3, 2], .null, []) := rfl
theorem cd165_116 : code9 165 116 = some (0, .getfield 160, [3, 9, 4, 2], .null, []) := rfl
theorem cd165_119 : code9 165 119 = some (0, .iload_n 1, [1], .null, []) := rfl
theorem cd165_120 : code9 165 120 = some (0, .iaload, [1], .null, []) := rfl
theorem cd165_121 : code9 165 121 = some (0, .ireturn, [1, 1], .null, []) := rfl
theorem cd165_122 : code9 165 122 = some (0, .aload_n 0, [1], .null, []) := rfl
theorem cd165_123 : code9 165 123 = some (0, .getfield 19, [3, 11, 1, 2], .null, []) := rfl
theorem cd165_126 : code9 165 126 = some (0, .iload_n 1, [1], .null, []) := rfl
theorem cd165_127 : code9 165 127 = some (0, .iload_n 2, [1], .null, []) := rfl
theorem cd165_128 : code9 165 128 = some (0, .invokevirtual 163, [3, 51, 3, 1, 1, 3, 6, 0], .null, []) := rfl
theorem cd165_131 : code9 165 131 = some (0, .ireturn, [1, 1], .null, []) := rfl
def Hol_find (ln sp sn ss : Nat) (l1 : Int32) (l2 : Int32) (I : FI) : Option ((Option Int32)) := if (Land_hasFind ln l1 I) then (if l2 < 0 then (some (none)) else (if l2 ≤ 7 then (if l2 = 1 then (if in9 l1 10 then (some (some (I 26 l1.toNatClampNeg))) else none) else (if l2 = 2 then (if in9 l1 10 then (some (some (I 27 l1.toNatClampNeg))) else none) else (if l2 = 3 then (if in9 l1 10 then (some (some (I 28 l1.toNatClampNeg))) else none) else (if l2 = 4 then (Option.bind (Land_factOf ln l1 l2 I) fun x4 => (some (some x4))) else (if l2 = 5 then (Option.bind (Land_factOf ln l1 l2 I) fun x5 => (some (some x5))) else (if l2 = 6 then (if in9 l1 10 then (some (some (I 29 l1.toNatClampNeg))) else none) else (if l2 = 7 then (if in9 l1 10 then (some (some (I 30 l1.toNatClampNeg))) else none) else (Option.bind (Land_factOf ln l1 l2 I) fun x8 => (some (some x8)))))))))) else (some (none)))) else (some (none))
set_option maxRecDepth 8000 in
theorem t_Hol_find {d : Nat} {ln sp sn ss : Nat} {c : Nat × Nat} {S : Nat → Nat × Nat} {P : Nat → Nat → Option Nat} {I : FI} {J : FJ} {l1 : Int32} {l2 : Int32} {r : (Option Int32)} (hd : 8 ≤ d) (hc : c.1 < oFF) (hw : OH S P ln sp sn ss) (h : Hol_find ln sp sn ss l1 l2 I = some r) : Go d M_Hol_find 0 [some (.ref 0), some (.int l1), some (.int l2)] [] (c, S, I, J, P) (match r with | some v => (some (.int v), false, (c, S, I, J, P)) | none => (none, true, mNew (c, S, I, J, P) (9, 0) 6)) := by
  obtain ⟨d, rfl⟩ : ∃ e, d = e + 1 := ⟨d - 1, by omega⟩
  unfold Hol_find at h
  refine g_aload_n cd165_0 rfl rfl ?_
  refine g_getP cd165_1 rfl (OH.o hw) (OH.p1 hw) ?_
  refine g_iload_n cd165_4 rfl rfl ?_
  refine g_callVZ (L := [some (.ref ln), some (.int l1)]) cd165_5 rfl rfl rfl rfl rfl (O6.o (OH.q1 hw)) (t_Land_hasFind (by omega) (OH.q1 hw) rfl) ?_
  refine g_if_eq cd165_8 rfl (fun hb => ?_) (fun hb => ?_)
  · have h := ifnE (b2i_f hb) h
    exact g_throw cd165_21 rfl hc (by obtain rfl := Option.some.inj h; rfl)
  · have h := ifpE (b2i_t hb) h
    refine g_iload_n cd165_11 rfl rfl ?_
    refine g_if_lt cd165_12 rfl (fun hb => ?_) (fun hb => ?_)
    · have h := ifpE hb h
      exact g_throw cd165_21 rfl hc (by obtain rfl := Option.some.inj h; rfl)
    · have h := ifnE hb h
      refine g_iload_n cd165_15 rfl rfl ?_
      refine g_bipush cd165_16 rfl ?_
      refine g_icmp_le cd165_18 rfl (fun hb => ?_) (fun hb => ?_)
      · have h := ifpE hb h
        refine g_iload_n cd165_29 rfl rfl ?_
        refine g_tableswitch cd165_30 rfl ?_
        refine ifi (fun hb => ?_) (fun hb => ?_)
        · have h := ifpE hb h
          show Go _ _ 72 [some (.ref 0), some (.int l1), some (.int l2)] [] _ _
          refine g_aload_n cd165_72 rfl rfl ?_
          refine g_getP cd165_73 rfl (OH.o hw) (OH.p3 hw) ?_
          refine g_getP cd165_76 rfl (O9.o (OH.q3 hw)) (show P 25 0 = some 26 from O9.p0 (OH.q3 hw)) ?_
          refine g_iload_n cd165_79 rfl rfl ?_
          obtain ⟨hg1, h⟩ := grd h
          refine G_iald cd165_80 rfl (show S 26 = (1, 10) from O9.s0 (OH.q3 hw)) hg1 ?_
          exact g_iret cd165_81 (Or.inl rfl) (by obtain rfl := Option.some.inj h; rfl)
        have h := ifnE hb h
        refine ifi (fun hb => ?_) (fun hb => ?_)
        · have h := ifpE hb h
          show Go _ _ 82 [some (.ref 0), some (.int l1), some (.int l2)] [] _ _
          refine g_aload_n cd165_82 rfl rfl ?_
          refine g_getP cd165_83 rfl (OH.o hw) (OH.p3 hw) ?_
          refine g_getP cd165_86 rfl (O9.o (OH.q3 hw)) (show P 25 1 = some 27 from O9.p1 (OH.q3 hw)) ?_
          refine g_iload_n cd165_89 rfl rfl ?_
          obtain ⟨hg2, h⟩ := grd h
          refine G_iald cd165_90 rfl (show S 27 = (1, 10) from O9.s1 (OH.q3 hw)) hg2 ?_
          exact g_iret cd165_91 (Or.inl rfl) (by obtain rfl := Option.some.inj h; rfl)
        have h := ifnE hb h
        refine ifi (fun hb => ?_) (fun hb => ?_)
        · have h := ifpE hb h
          show Go _ _ 92 [some (.ref 0), some (.int l1), some (.int l2)] [] _ _
          refine g_aload_n cd165_92 rfl rfl ?_
          refine g_getP cd165_93 rfl (OH.o hw) (OH.p3 hw) ?_
          refine g_getP cd165_96 rfl (O9.o (OH.q3 hw)) (show P 25 2 = some 28 from O9.p2 (OH.q3 hw)) ?_
          refine g_iload_n cd165_99 rfl rfl ?_
          obtain ⟨hg3, h⟩ := grd h
          refine G_iald cd165_100 rfl (show S 28 = (1, 10) from O9.s2 (OH.q3 hw)) hg3 ?_
          exact g_iret cd165_101 (Or.inl rfl) (by obtain rfl := Option.some.inj h; rfl)
        have h := ifnE hb h
        refine ifi (fun hb => ?_) (fun hb => ?_)
        · have h := ifpE hb h
          show Go _ _ 122 [some (.ref 0), some (.int l1), some (.int l2)] [] _ _
          refine g_aload_n cd165_122 rfl rfl ?_
          refine g_getP cd165_123 rfl (OH.o hw) (OH.p1 hw) ?_
          refine g_iload_n cd165_126 rfl rfl ?_
          refine g_iload_n cd165_127 rfl rfl ?_
          obtain ⟨x4, hx, h⟩ := bnd h
          refine g_callVI (L := [some (.ref ln), some (.int l1), some (.int l2)]) cd165_128 rfl rfl rfl rfl rfl (O6.o (OH.q1 hw)) (t_Land_factOf (by omega) (OH.q1 hw) hx) ?_
          exact g_iret cd165_131 (Or.inl rfl) (by obtain rfl := Option.some.inj h; rfl)
        have h := ifnE hb h
        refine ifi (fun hb => ?_) (fun hb => ?_)
        · have h := ifpE hb h
          show Go _ _ 122 [some (.ref 0), some (.int l1), some (.int l2)] [] _ _
          refine g_aload_n cd165_122 rfl rfl ?_
          refine g_getP cd165_123 rfl (OH.o hw) (OH.p1 hw) ?_
          refine g_iload_n cd165_126 rfl rfl ?_
          refine g_iload_n cd165_127 rfl rfl ?_
          obtain ⟨x5, hx, h⟩ := bnd h
          refine g_callVI (L := [some (.ref ln), some (.int l1), some (.int l2)]) cd165_128 rfl rfl rfl rfl rfl (O6.o (OH.q1 hw)) (t_Land_factOf (by omega) (OH.q1 hw) hx) ?_
          exact g_iret cd165_131 (Or.inl rfl) (by obtain rfl := Option.some.inj h; rfl)
        have h := ifnE hb h
        refine ifi (fun hb => ?_) (fun hb => ?_)
        · have h := ifpE hb h
          show Go _ _ 102 [some (.ref 0), some (.int l1), some (.int l2)] [] _ _
          refine g_aload_n cd165_102 rfl rfl ?_
          refine g_getP cd165_103 rfl (OH.o hw) (OH.p3 hw) ?_
          refine g_getP cd165_106 rfl (O9.o (OH.q3 hw)) (show P 25 3 = some 29 from O9.p3 (OH.q3 hw)) ?_
          refine g_iload_n cd165_109 rfl rfl ?_
          obtain ⟨hg6, h⟩ := grd h
          refine G_iald cd165_110 rfl (show S 29 = (1, 10) from O9.s3 (OH.q3 hw)) hg6 ?_
          exact g_iret cd165_111 (Or.inl rfl) (by obtain rfl := Option.some.inj h; rfl)
        have h := ifnE hb h
        refine ifi (fun hb => ?_) (fun hb => ?_)
        · have h := ifpE hb h
          show Go _ _ 112 [some (.ref 0), some (.int l1), some (.int l2)] [] _ _
          refine g_aload_n cd165_112 rfl rfl ?_
          refine g_getP cd165_113 rfl (OH.o hw) (OH.p3 hw) ?_
          refine g_getP cd165_116 rfl (O9.o (OH.q3 hw)) (show P 25 4 = some 30 from O9.p4 (OH.q3 hw)) ?_
          refine g_iload_n cd165_119 rfl rfl ?_
          obtain ⟨hg7, h⟩ := grd h
          refine G_iald cd165_120 rfl (show S 30 = (1, 10) from O9.s4 (OH.q3 hw)) hg7 ?_
          exact g_iret cd165_121 (Or.inl rfl) (by obtain rfl := Option.some.inj h; rfl)
        have h := ifnE hb h
        show Go _ _ 122 [some (.ref 0), some (.int l1), some (.int l2)] [] _ _
        refine g_aload_n cd165_122 rfl rfl ?_
        refine g_getP cd165_123 rfl (OH.o hw) (OH.p1 hw) ?_
        refine g_iload_n cd165_126 rfl rfl ?_
        refine g_iload_n cd165_127 rfl rfl ?_
        obtain ⟨x8, hx, h⟩ := bnd h
        refine g_callVI (L := [some (.ref ln), some (.int l1), some (.int l2)]) cd165_128 rfl rfl rfl rfl rfl (O6.o (OH.q1 hw)) (t_Land_factOf (by omega) (OH.q1 hw) hx) ?_
        exact g_iret cd165_131 (Or.inl rfl) (by obtain rfl := Option.some.inj h; rfl)
      · have h := ifnE hb h
        exact g_throw cd165_21 rfl hc (by obtain rfl := Option.some.inj h; rfl)
/-! HiddenOrLost.belief(II)J -/
theorem cd166_0 : code9 166 0 = some (0, .iload_n 1, [1], .null, []) := rfl
theorem cd166_1 : code9 166 1 = some (0, .ifCond .lt 17, [3, 18], .null, []) := rfl
theorem cd166_4 : code9 166 4 = some (0, .iload_n 1, [1], .null, []) := rfl
theorem cd166_5 : code9 166 5 = some (0, .iconst 3, [1], .int 3, []) := rfl
theorem cd166_6 : code9 166 6 = some (0, .if_icmp .ge 12, [3, 18], .null, []) := rfl
theorem cd166_9 : code9 166 9 = some (0, .iload_n 2, [1], .null, []) := rfl
theorem cd166_10 : code9 166 10 = some (0, .ifCond .lt 8, [3, 18], .null, []) := rfl
theorem cd166_13 : code9 166 13 = some (0, .iload_n 2, [1], .null, []) := rfl
theorem cd166_14 : code9 166 14 = some (0, .iconst 1, [1], .int 1, []) := rfl
theorem cd166_15 : code9 166 15 = some (0, .if_icmp .le 11, [3, 26], .null, []) := rfl
theorem cd166_18 : code9 166 18 = some (4, .new 145, [3, 13, 6, 1], .null, []) := rfl
theorem cd166_26 : code9 166 26 = some (0, .aload_n 0, [1], .null, []) := rfl
theorem cd166_27 : code9 166 27 = some (0, .getfield 80, [3, 11, 12, 2], .null, []) := rfl
theorem cd166_30 : code9 166 30 = some (0, .aload_n 0, [1], .null, []) := rfl
theorem cd166_31 : code9 166 31 = some (0, .getfield 19, [3, 11, 1, 2], .null, []) := rfl
theorem cd166_34 : code9 166 34 = some (0, .aload_n 0, [1], .null, []) := rfl
theorem cd166_35 : code9 166 35 = some (0, .getfield 29, [3, 11, 3, 2], .null, []) := rfl
theorem cd166_38 : code9 166 38 = some (0, .iconst (-1), [1], .int (-1), []) := rfl
theorem cd166_39 : code9 166 39 = some (0, .invokevirtual 260, [3, 1, 4, 1, 0, 8, 0, 0], .null, []) := rfl
theorem cd166_42 : code9 166 42 = some (0, .aload_n 0, [1], .null, []) := rfl
theorem cd166_43 : code9 166 43 = some (0, .getfield 80, [3, 11, 12, 2], .null, []) := rfl
theorem cd166_46 : code9 166 46 = some (0, .getfield 264, [3, 0, 0, 2], .null, []) := rfl
theorem cd166_49 : code9 166 49 = some (0, .iload_n 1, [1], .null, []) := rfl
theorem cd166_50 : code9 166 50 = some (0, .laload, [1], .null, []) := rfl
theorem cd166_51 : code9 166 51 = some (0, .aload_n 0, [1], .null, []) := rfl
theorem cd166_52 : code9 166 52 = some (0, .getfield 80, [3, 11, 12, 2], .null, []) := rfl
theorem cd166_55 : code9 166 55 = some (0, .getfield 268, [3, 0, 1, 1], .null, []) := rfl
theorem cd166_58 : code9 166 58 = some (0, .iload_n 2, [1], .null, []) := rfl
theorem cd166_59 : code9 166 59 = some (0, .invokestatic 272, [3, 7, 3, 0, 2, 7, 0, 0], .null, []) := rfl
theorem cd166_62 : code9 166 62 = some (0, .lreturn, [1], .null, []) := rfl
def Hol_belief (N : Nat) (ln sp sn ss : Nat) (l1 : Int32) (l2 : Int32) (I : FI) (J : FJ) : Option ((Option Int64) × FJ) := if l1 < 0 then (some (none, J)) else (if 3 ≤ l1 then (some (none, J)) else (if l2 < 0 then (some (none, J)) else (if l2 ≤ 1 then (Option.bind (Beliefs_weigh N 193 ln 25 (-1) I J) fun x1 => (if in9 l1 3 then (Option.bind (Beliefs_termOf N (x1 194 l1.toNatClampNeg) (x1 193 1) l2) fun x3 => (some ((some x3), x1))) else none)) else (some (none, J)))))
set_option maxRecDepth 8000 in
theorem t_Hol_belief {d : Nat} {N : Nat} {ln sp sn ss : Nat} {c : Nat × Nat} {S : Nat → Nat × Nat} {P : Nat → Nat → Option Nat} {I : FI} {J : FJ} {l1 : Int32} {l2 : Int32} {r : (Option Int64) × FJ} (hd : 8 ≤ d) (hc : c.1 < oFF) (hw : OH S P ln sp sn ss) (h : Hol_belief N ln sp sn ss l1 l2 I J = some r) : Go d M_Hol_belief 0 [some (.ref 0), some (.int l1), some (.int l2)] [] (c, S, I, J, P) (match r.1 with | some v => (some (.long v), false, (c, S, I, r.2, P)) | none => (none, true, mNew (c, S, I, r.2, P) (9, 0) 6)) := by
  obtain ⟨d, rfl⟩ : ∃ e, d = e + 1 := ⟨d - 1, by omega⟩
  unfold Hol_belief at h
  refine g_iload_n cd166_0 rfl rfl ?_
  refine g_if_lt cd166_1 rfl (fun hb => ?_) (fun hb => ?_)
  · have h := ifpE hb h
    exact g_throw cd166_18 rfl hc (by obtain rfl := Option.some.inj h; rfl)
  · have h := ifnE hb h
    refine g_iload_n cd166_4 rfl rfl ?_
    refine g_iconst cd166_5 rfl ?_
    refine g_icmp_ge cd166_6 rfl (fun hb => ?_) (fun hb => ?_)
    · have h := ifpE hb h
      exact g_throw cd166_18 rfl hc (by obtain rfl := Option.some.inj h; rfl)
    · have h := ifnE hb h
      refine g_iload_n cd166_9 rfl rfl ?_
      refine g_if_lt cd166_10 rfl (fun hb => ?_) (fun hb => ?_)
      · have h := ifpE hb h
        exact g_throw cd166_18 rfl hc (by obtain rfl := Option.some.inj h; rfl)
      · have h := ifnE hb h
        refine g_iload_n cd166_13 rfl rfl ?_
        refine g_iconst cd166_14 rfl ?_
        refine g_icmp_le cd166_15 rfl (fun hb => ?_) (fun hb => ?_)
        · have h := ifpE hb h
          refine g_aload_n cd166_26 rfl rfl ?_
          refine g_getP cd166_27 rfl (OH.o hw) (OH.p12 hw) ?_
          refine g_aload_n cd166_30 rfl rfl ?_
          refine g_getP cd166_31 rfl (OH.o hw) (OH.p1 hw) ?_
          refine g_aload_n cd166_34 rfl rfl ?_
          refine g_getP cd166_35 rfl (OH.o hw) (OH.p3 hw) ?_
          refine g_iconst cd166_38 rfl ?_
          obtain ⟨x1, hx, h⟩ := bnd h
          refine g_callVV (L := [some (.ref 193), some (.ref ln), some (.ref 25), some (.int (-1)), none, none, none, none]) cd166_39 rfl rfl rfl rfl rfl (O0.o (OH.q12 hw)) (t_Beliefs_weigh (by omega) (OH.q12 hw) (OH.q1 hw) (OH.q3 hw) hx) ?_
          refine g_aload_n cd166_42 rfl rfl ?_
          refine g_getP cd166_43 rfl (OH.o hw) (OH.p12 hw) ?_
          refine g_getP cd166_46 rfl (O0.o (OH.q12 hw)) (show P 193 0 = some 194 from O0.p0 (OH.q12 hw)) ?_
          refine g_iload_n cd166_49 rfl rfl ?_
          obtain ⟨hg2, h⟩ := grd h
          refine G_lald cd166_50 rfl (show S 194 = (4, 3) from O0.s0 (OH.q12 hw)) hg2 ?_
          refine g_aload_n cd166_51 rfl rfl ?_
          refine g_getP cd166_52 rfl (OH.o hw) (OH.p12 hw) ?_
          refine g_getJ cd166_55 rfl (O0.o (OH.q12 hw)) ?_
          refine g_iload_n cd166_58 rfl rfl ?_
          obtain ⟨x3, hx, h⟩ := bnd h
          refine g_callSJ (L := [some (.long (x1 194 l1.toNatClampNeg)), none, some (.long (x1 193 1)), none, some (.int l2), none, none]) cd166_59 rfl rfl rfl rfl rfl (t_Beliefs_termOf (by omega)  hx) ?_
          exact g_lret cd166_62 (by obtain rfl := Option.some.inj h; rfl)
        · have h := ifnE hb h
          exact g_throw cd166_18 rfl hc (by obtain rfl := Option.some.inj h; rfl)
/-! HiddenOrLost.sure(II)J -/
theorem cd167_0 : code9 167 0 = some (0, .iload_n 1, [1], .null, []) := rfl
theorem cd167_1 : code9 167 1 = some (0, .ifCond .lt 17, [3, 18], .null, []) := rfl
theorem cd167_4 : code9 167 4 = some (0, .iload_n 1, [1], .null, []) := rfl
theorem cd167_5 : code9 167 5 = some (0, .iconst 4, [1], .int 4, []) := rfl
theorem cd167_6 : code9 167 6 = some (0, .if_icmp .ge 12, [3, 18], .null, []) := rfl
theorem cd167_9 : code9 167 9 = some (0, .iload_n 2, [1], .null, []) := rfl
theorem cd167_10 : code9 167 10 = some (0, .ifCond .lt 8, [3, 18], .null, []) := rfl
theorem cd167_13 : code9 167 13 = some (0, .iload_n 2, [1], .null, []) := rfl
theorem cd167_14 : code9 167 14 = some (0, .iconst 1, [1], .int 1, []) := rfl
theorem cd167_15 : code9 167 15 = some (0, .if_icmp .le 11, [3, 26], .null, []) := rfl
theorem cd167_18 : code9 167 18 = some (4, .new 145, [3, 13, 6, 1], .null, []) := rfl
theorem cd167_26 : code9 167 26 = some (0, .aload_n 0, [1], .null, []) := rfl
theorem cd167_27 : code9 167 27 = some (0, .getfield 80, [3, 11, 12, 2], .null, []) := rfl
theorem cd167_30 : code9 167 30 = some (0, .aload_n 0, [1], .null, []) := rfl
theorem cd167_31 : code9 167 31 = some (0, .getfield 19, [3, 11, 1, 2], .null, []) := rfl
theorem cd167_34 : code9 167 34 = some (0, .aload_n 0, [1], .null, []) := rfl
theorem cd167_35 : code9 167 35 = some (0, .getfield 29, [3, 11, 3, 2], .null, []) := rfl
theorem cd167_38 : code9 167 38 = some (0, .iconst (-1), [1], .int (-1), []) := rfl
theorem cd167_39 : code9 167 39 = some (0, .invokevirtual 260, [3, 1, 4, 1, 0, 8, 0, 0], .null, []) := rfl
theorem cd167_42 : code9 167 42 = some (0, .aload_n 0, [1], .null, []) := rfl
theorem cd167_43 : code9 167 43 = some (0, .getfield 80, [3, 11, 12, 2], .null, []) := rfl
theorem cd167_46 : code9 167 46 = some (0, .aload_n 0, [1], .null, []) := rfl
theorem cd167_47 : code9 167 47 = some (0, .getfield 19, [3, 11, 1, 2], .null, []) := rfl
theorem cd167_50 : code9 167 50 = some (0, .iload_n 1, [1], .null, []) := rfl
theorem cd167_51 : code9 167 51 = some (0, .invokevirtual 280, [3, 4, 3, 1, 2, 9, 0, 0], .null, []) := rfl
theorem cd167_54 : code9 167 54 = some (0, .ldc2_w 284, [3], .long 12, []) := rfl
theorem cd167_57 : code9 167 57 = some (0, .aload_n 0, [1], .null, []) := rfl
theorem cd167_58 : code9 167 58 = some (0, .getfield 80, [3, 11, 12, 2], .null, []) := rfl
theorem cd167_61 : code9 167 61 = some (0, .getfield 268, [3, 0, 1, 1], .null, []) := rfl
theorem cd167_64 : code9 167 64 = some (0, .lmul, [1], .null, []) := rfl
theorem cd167_65 : code9 167 65 = some (0, .iload_n 2, [1], .null, []) := rfl
theorem cd167_66 : code9 167 66 = some (0, .invokestatic 272, [3, 7, 3, 0, 2, 7, 0, 0], .null, []) := rfl
theorem cd167_69 : code9 167 69 = some (0, .lreturn, [1], .null, []) := rfl
def Hol_sure (N : Nat) (ln sp sn ss : Nat) (l1 : Int32) (l2 : Int32) (I : FI) (J : FJ) : Option ((Option Int64) × FJ) := if l1 < 0 then (some (none, J)) else (if 4 ≤ l1 then (some (none, J)) else (if l2 < 0 then (some (none, J)) else (if l2 ≤ 1 then (Option.bind (Beliefs_weigh N 193 ln 25 (-1) I J) fun x1 => (Option.bind (Beliefs_rightGuesses N 193 ln l1 I x1) fun x2 => (Option.bind (Beliefs_termOf N x2 (12 * (x1 193 1)) l2) fun x3 => (some ((some x3), x1))))) else (some (none, J)))))
set_option maxRecDepth 8000 in
theorem t_Hol_sure {d : Nat} {N : Nat} {ln sp sn ss : Nat} {c : Nat × Nat} {S : Nat → Nat × Nat} {P : Nat → Nat → Option Nat} {I : FI} {J : FJ} {l1 : Int32} {l2 : Int32} {r : (Option Int64) × FJ} (hd : 8 ≤ d) (hc : c.1 < oFF) (hw : OH S P ln sp sn ss) (h : Hol_sure N ln sp sn ss l1 l2 I J = some r) : Go d M_Hol_sure 0 [some (.ref 0), some (.int l1), some (.int l2)] [] (c, S, I, J, P) (match r.1 with | some v => (some (.long v), false, (c, S, I, r.2, P)) | none => (none, true, mNew (c, S, I, r.2, P) (9, 0) 6)) := by
  obtain ⟨d, rfl⟩ : ∃ e, d = e + 1 := ⟨d - 1, by omega⟩
  unfold Hol_sure at h
  refine g_iload_n cd167_0 rfl rfl ?_
  refine g_if_lt cd167_1 rfl (fun hb => ?_) (fun hb => ?_)
  · have h := ifpE hb h
    exact g_throw cd167_18 rfl hc (by obtain rfl := Option.some.inj h; rfl)
  · have h := ifnE hb h
    refine g_iload_n cd167_4 rfl rfl ?_
    refine g_iconst cd167_5 rfl ?_
    refine g_icmp_ge cd167_6 rfl (fun hb => ?_) (fun hb => ?_)
    · have h := ifpE hb h
      exact g_throw cd167_18 rfl hc (by obtain rfl := Option.some.inj h; rfl)
    · have h := ifnE hb h
      refine g_iload_n cd167_9 rfl rfl ?_
      refine g_if_lt cd167_10 rfl (fun hb => ?_) (fun hb => ?_)
      · have h := ifpE hb h
        exact g_throw cd167_18 rfl hc (by obtain rfl := Option.some.inj h; rfl)
      · have h := ifnE hb h
        refine g_iload_n cd167_13 rfl rfl ?_
        refine g_iconst cd167_14 rfl ?_
        refine g_icmp_le cd167_15 rfl (fun hb => ?_) (fun hb => ?_)
        · have h := ifpE hb h
          refine g_aload_n cd167_26 rfl rfl ?_
          refine g_getP cd167_27 rfl (OH.o hw) (OH.p12 hw) ?_
          refine g_aload_n cd167_30 rfl rfl ?_
          refine g_getP cd167_31 rfl (OH.o hw) (OH.p1 hw) ?_
          refine g_aload_n cd167_34 rfl rfl ?_
          refine g_getP cd167_35 rfl (OH.o hw) (OH.p3 hw) ?_
          refine g_iconst cd167_38 rfl ?_
          obtain ⟨x1, hx, h⟩ := bnd h
          refine g_callVV (L := [some (.ref 193), some (.ref ln), some (.ref 25), some (.int (-1)), none, none, none, none]) cd167_39 rfl rfl rfl rfl rfl (O0.o (OH.q12 hw)) (t_Beliefs_weigh (by omega) (OH.q12 hw) (OH.q1 hw) (OH.q3 hw) hx) ?_
          refine g_aload_n cd167_42 rfl rfl ?_
          refine g_getP cd167_43 rfl (OH.o hw) (OH.p12 hw) ?_
          refine g_aload_n cd167_46 rfl rfl ?_
          refine g_getP cd167_47 rfl (OH.o hw) (OH.p1 hw) ?_
          refine g_iload_n cd167_50 rfl rfl ?_
          obtain ⟨x2, hx, h⟩ := bnd h
          refine g_callVJ (L := [some (.ref 193), some (.ref ln), some (.int l1), none, none, none, none, none, none]) cd167_51 rfl rfl rfl rfl rfl (O0.o (OH.q12 hw)) (t_Beliefs_rightGuesses (by omega) (OH.q12 hw) (OH.q1 hw) hx) ?_
          refine g_ldc2_w cd167_54 rfl ?_
          refine g_aload_n cd167_57 rfl rfl ?_
          refine g_getP cd167_58 rfl (OH.o hw) (OH.p12 hw) ?_
          refine g_getJ cd167_61 rfl (O0.o (OH.q12 hw)) ?_
          refine g_lmul cd167_64 rfl ?_
          refine g_iload_n cd167_65 rfl rfl ?_
          obtain ⟨x3, hx, h⟩ := bnd h
          refine g_callSJ (L := [some (.long x2), none, some (.long (12 * (x1 193 1))), none, some (.int l2), none, none]) cd167_66 rfl rfl rfl rfl rfl (t_Beliefs_termOf (by omega)  hx) ?_
          exact g_lret cd167_69 (by obtain rfl := Option.some.inj h; rfl)
        · have h := ifnE hb h
          exact g_throw cd167_18 rfl hc (by obtain rfl := Option.some.inj h; rfl)
/-! HiddenOrLost.gains(II)J -/
theorem cd168_0 : code9 168 0 = some (0, .iload_n 1, [1], .null, []) := rfl
theorem cd168_1 : code9 168 1 = some (0, .ifCond .lt 17, [3, 18], .null, []) := rfl
theorem cd168_4 : code9 168 4 = some (0, .iload_n 1, [1], .null, []) := rfl
theorem cd168_5 : code9 168 5 = some (0, .iconst 3, [1], .int 3, []) := rfl
theorem cd168_6 : code9 168 6 = some (0, .if_icmp .ge 12, [3, 18], .null, []) := rfl
theorem cd168_9 : code9 168 9 = some (0, .iload_n 2, [1], .null, []) := rfl
theorem cd168_10 : code9 168 10 = some (0, .ifCond .lt 8, [3, 18], .null, []) := rfl
theorem cd168_13 : code9 168 13 = some (0, .iload_n 2, [1], .null, []) := rfl
theorem cd168_14 : code9 168 14 = some (0, .iconst 1, [1], .int 1, []) := rfl
theorem cd168_15 : code9 168 15 = some (0, .if_icmp .le 11, [3, 26], .null, []) := rfl
theorem cd168_18 : code9 168 18 = some (4, .new 145, [3, 13, 6, 1], .null, []) := rfl
theorem cd168_26 : code9 168 26 = some (0, .aload_n 0, [1], .null, []) := rfl
theorem cd168_27 : code9 168 27 = some (0, .getfield 80, [3, 11, 12, 2], .null, []) := rfl
theorem cd168_30 : code9 168 30 = some (0, .aload_n 0, [1], .null, []) := rfl
theorem cd168_31 : code9 168 31 = some (0, .getfield 19, [3, 11, 1, 2], .null, []) := rfl
theorem cd168_34 : code9 168 34 = some (0, .aload_n 0, [1], .null, []) := rfl
theorem cd168_35 : code9 168 35 = some (0, .getfield 29, [3, 11, 3, 2], .null, []) := rfl
theorem cd168_38 : code9 168 38 = some (0, .iconst (-1), [1], .int (-1), []) := rfl
theorem cd168_39 : code9 168 39 = some (0, .invokevirtual 260, [3, 1, 4, 1, 0, 8, 0, 0], .null, []) := rfl
theorem cd168_42 : code9 168 42 = some (0, .aload_n 0, [1], .null, []) := rfl
theorem cd168_43 : code9 168 43 = some (0, .getfield 29, [3, 11, 3, 2], .null, []) := rfl
theorem cd168_46 : code9 168 46 = some (0, .aload_n 0, [1], .null, []) := rfl
theorem cd168_47 : code9 168 47 = some (0, .getfield 19, [3, 11, 1, 2], .null, []) := rfl
theorem cd168_50 : code9 168 50 = some (0, .invokevirtual 207, [3, 88, 2, 1, 1, 2, 9, 0], .null, []) := rfl
theorem cd168_53 : code9 168 53 = some (0, .i2l, [1], .null, []) := rfl
theorem cd168_54 : code9 168 54 = some (0, .aload_n 0, [1], .null, []) := rfl
theorem cd168_55 : code9 168 55 = some (0, .getfield 80, [3, 11, 12, 2], .null, []) := rfl
theorem cd168_58 : code9 168 58 = some (0, .aload_n 0, [1], .null, []) := rfl
theorem cd168_59 : code9 168 59 = some (0, .getfield 19, [3, 11, 1, 2], .null, []) := rfl
theorem cd168_62 : code9 168 62 = some (0, .iload_n 1, [1], .null, []) := rfl
theorem cd168_63 : code9 168 63 = some (0, .invokevirtual 289, [3, 6, 3, 1, 2, 6, 0, 0], .null, []) := rfl
theorem cd168_66 : code9 168 66 = some (0, .lmul, [1], .null, []) := rfl
theorem cd168_67 : code9 168 67 = some (0, .lstore_n 3, [1], .null, []) := rfl
theorem cd168_68 : code9 168 68 = some (0, .lload_n 3, [1], .null, []) := rfl
theorem cd168_69 : code9 168 69 = some (0, .ldc2_w 284, [3], .long 12, []) := rfl
theorem cd168_72 : code9 168 72 = some (0, .aload_n 0, [1], .null, []) := rfl
theorem cd168_73 : code9 168 73 = some (0, .getfield 80, [3, 11, 12, 2], .null, []) := rfl
theorem cd168_76 : code9 168 76 = some (0, .getfield 268, [3, 0, 1, 1], .null, []) := rfl
theorem cd168_79 : code9 168 79 = some (0, .lmul, [1], .null, []) := rfl
theorem cd168_80 : code9 168 80 = some (0, .iload_n 2, [1], .null, []) := rfl
theorem cd168_81 : code9 168 81 = some (0, .invokestatic 272, [3, 7, 3, 0, 2, 7, 0, 0], .null, []) := rfl
theorem cd168_84 : code9 168 84 = some (0, .lreturn, [1], .null, []) := rfl
def Hol_gains (N : Nat) (ln sp sn ss : Nat) (l1 : Int32) (l2 : Int32) (I : FI) (J : FJ) : Option ((Option Int64) × FJ) := if l1 < 0 then (some (none, J)) else (if 3 ≤ l1 then (some (none, J)) else (if l2 < 0 then (some (none, J)) else (if l2 ≤ 1 then (Option.bind (Beliefs_weigh N 193 ln 25 (-1) I J) fun x1 => (Option.bind (State_toldValue N 25 ln I) fun x2 => (Option.bind (Beliefs_shareOf N 193 ln l1 I x1) fun x3 => (Option.bind (Beliefs_termOf N (x2.toInt64 * x3) (12 * (x1 193 1)) l2) fun x4 => (some ((some x4), x1)))))) else (some (none, J)))))
set_option maxRecDepth 8000 in
theorem t_Hol_gains {d : Nat} {N : Nat} {ln sp sn ss : Nat} {c : Nat × Nat} {S : Nat → Nat × Nat} {P : Nat → Nat → Option Nat} {I : FI} {J : FJ} {l1 : Int32} {l2 : Int32} {r : (Option Int64) × FJ} (hd : 8 ≤ d) (hc : c.1 < oFF) (hw : OH S P ln sp sn ss) (h : Hol_gains N ln sp sn ss l1 l2 I J = some r) : Go d M_Hol_gains 0 [some (.ref 0), some (.int l1), some (.int l2), none, none] [] (c, S, I, J, P) (match r.1 with | some v => (some (.long v), false, (c, S, I, r.2, P)) | none => (none, true, mNew (c, S, I, r.2, P) (9, 0) 6)) := by
  obtain ⟨d, rfl⟩ : ∃ e, d = e + 1 := ⟨d - 1, by omega⟩
  unfold Hol_gains at h
  refine g_iload_n cd168_0 rfl rfl ?_
  refine g_if_lt cd168_1 rfl (fun hb => ?_) (fun hb => ?_)
  · have h := ifpE hb h
    exact g_throw cd168_18 rfl hc (by obtain rfl := Option.some.inj h; rfl)
  · have h := ifnE hb h
    refine g_iload_n cd168_4 rfl rfl ?_
    refine g_iconst cd168_5 rfl ?_
    refine g_icmp_ge cd168_6 rfl (fun hb => ?_) (fun hb => ?_)
    · have h := ifpE hb h
      exact g_throw cd168_18 rfl hc (by obtain rfl := Option.some.inj h; rfl)
    · have h := ifnE hb h
      refine g_iload_n cd168_9 rfl rfl ?_
      refine g_if_lt cd168_10 rfl (fun hb => ?_) (fun hb => ?_)
      · have h := ifpE hb h
        exact g_throw cd168_18 rfl hc (by obtain rfl := Option.some.inj h; rfl)
      · have h := ifnE hb h
        refine g_iload_n cd168_13 rfl rfl ?_
        refine g_iconst cd168_14 rfl ?_
        refine g_icmp_le cd168_15 rfl (fun hb => ?_) (fun hb => ?_)
        · have h := ifpE hb h
          refine g_aload_n cd168_26 rfl rfl ?_
          refine g_getP cd168_27 rfl (OH.o hw) (OH.p12 hw) ?_
          refine g_aload_n cd168_30 rfl rfl ?_
          refine g_getP cd168_31 rfl (OH.o hw) (OH.p1 hw) ?_
          refine g_aload_n cd168_34 rfl rfl ?_
          refine g_getP cd168_35 rfl (OH.o hw) (OH.p3 hw) ?_
          refine g_iconst cd168_38 rfl ?_
          obtain ⟨x1, hx, h⟩ := bnd h
          refine g_callVV (L := [some (.ref 193), some (.ref ln), some (.ref 25), some (.int (-1)), none, none, none, none]) cd168_39 rfl rfl rfl rfl rfl (O0.o (OH.q12 hw)) (t_Beliefs_weigh (by omega) (OH.q12 hw) (OH.q1 hw) (OH.q3 hw) hx) ?_
          refine g_aload_n cd168_42 rfl rfl ?_
          refine g_getP cd168_43 rfl (OH.o hw) (OH.p3 hw) ?_
          refine g_aload_n cd168_46 rfl rfl ?_
          refine g_getP cd168_47 rfl (OH.o hw) (OH.p1 hw) ?_
          obtain ⟨x2, hx, h⟩ := bnd h
          refine g_callVI (L := [some (.ref 25), some (.ref ln)]) cd168_50 rfl rfl rfl rfl rfl (O9.o (OH.q3 hw)) (t_State_toldValue (by omega) (OH.q3 hw) (OH.q1 hw) hx) ?_
          refine g_i2l cd168_53 rfl ?_
          refine g_aload_n cd168_54 rfl rfl ?_
          refine g_getP cd168_55 rfl (OH.o hw) (OH.p12 hw) ?_
          refine g_aload_n cd168_58 rfl rfl ?_
          refine g_getP cd168_59 rfl (OH.o hw) (OH.p1 hw) ?_
          refine g_iload_n cd168_62 rfl rfl ?_
          obtain ⟨x3, hx, h⟩ := bnd h
          refine g_callVJ (L := [some (.ref 193), some (.ref ln), some (.int l1), none, none, none]) cd168_63 rfl rfl rfl rfl rfl (O0.o (OH.q12 hw)) (t_Beliefs_shareOf (by omega) (OH.q12 hw) (OH.q1 hw) hx) ?_
          refine g_lmul cd168_66 rfl ?_
          refine g_lstore_n (ls2 := [some (.ref 0), some (.int l1), some (.int l2), some (.long (x2.toInt64 * x3)), none]) cd168_67 rfl rfl ?_
          refine g_lload_n cd168_68 rfl rfl ?_
          refine g_ldc2_w cd168_69 rfl ?_
          refine g_aload_n cd168_72 rfl rfl ?_
          refine g_getP cd168_73 rfl (OH.o hw) (OH.p12 hw) ?_
          refine g_getJ cd168_76 rfl (O0.o (OH.q12 hw)) ?_
          refine g_lmul cd168_79 rfl ?_
          refine g_iload_n cd168_80 rfl rfl ?_
          obtain ⟨x4, hx, h⟩ := bnd h
          refine g_callSJ (L := [some (.long (x2.toInt64 * x3)), none, some (.long (12 * (x1 193 1))), none, some (.int l2), none, none]) cd168_81 rfl rfl rfl rfl rfl (t_Beliefs_termOf (by omega)  hx) ?_
          exact g_lret cd168_84 (by obtain rfl := Option.some.inj h; rfl)
        · have h := ifnE hb h
          exact g_throw cd168_18 rfl hc (by obtain rfl := Option.some.inj h; rfl)
/-! HiddenOrLostModel.thrown()I -/
theorem cd169_0 : code9 169 0 = some (0, .aload_n 0, [1], .null, []) := rfl
theorem cd169_1 : code9 169 1 = some (0, .getfield 1, [3, 12, 0, 0], .null, []) := rfl
theorem cd169_4 : code9 169 4 = some (0, .ireturn, [1, 1], .null, []) := rfl
def Mod_thrown (I : FI) : Int32 := I 204 0
set_option maxRecDepth 8000 in
theorem t_Mod_thrown {d : Nat} {c : Nat × Nat} {S : Nat → Nat × Nat} {P : Nat → Nat → Option Nat} {I : FI} {J : FJ} {r : Int32} (hd : 0 ≤ d) (hw : OM S P) (h : Mod_thrown I = r) : Go d M_Mod_thrown 0 [some (.ref 204)] [] (c, S, I, J, P) (some (.int r), false, (c, S, I, J, P)) := by
  unfold Mod_thrown at h
  refine g_aload_n cd169_0 rfl rfl ?_
  refine g_getI cd169_1 rfl (OM.o hw) ?_
  exact g_iret cd169_4 (Or.inl rfl) (by subst h; rfl)
/-! HiddenOrLostModel.come(I)V -/
theorem cd171_0 : code9 171 0 = some (0, .bipush 24, [2], .int 24, []) := rfl
theorem cd171_2 : code9 171 2 = some (0, .istore_n 2, [1], .null, []) := rfl
theorem cd171_3 : code9 171 3 = some (4, .iload_n 2, [1], .null, []) := rfl
theorem cd171_4 : code9 171 4 = some (0, .ifCond .lt 35, [3, 39], .null, []) := rfl
theorem cd171_7 : code9 171 7 = some (0, .aload_n 0, [1], .null, []) := rfl
theorem cd171_8 : code9 171 8 = some (0, .getfield 7, [3, 12, 1, 2], .null, []) := rfl
theorem cd171_11 : code9 171 11 = some (0, .aload_n 0, [1], .null, []) := rfl
theorem cd171_12 : code9 171 12 = some (0, .getfield 11, [3, 12, 2, 0], .null, []) := rfl
theorem cd171_15 : code9 171 15 = some (0, .iload_n 1, [1], .null, []) := rfl
theorem cd171_16 : code9 171 16 = some (0, .iload_n 2, [1], .null, []) := rfl
theorem cd171_17 : code9 171 17 = some (0, .iushr, [1], .null, []) := rfl
theorem cd171_18 : code9 171 18 = some (0, .sipush 255, [3], .int 255, []) := rfl
theorem cd171_21 : code9 171 21 = some (0, .iand, [1], .null, []) := rfl
theorem cd171_22 : code9 171 22 = some (0, .iastore, [1], .null, []) := rfl
theorem cd171_23 : code9 171 23 = some (0, .aload_n 0, [1], .null, []) := rfl
theorem cd171_24 : code9 171 24 = some (0, .dup, [1], .null, []) := rfl
theorem cd171_25 : code9 171 25 = some (0, .getfield 11, [3, 12, 2, 0], .null, []) := rfl
theorem cd171_28 : code9 171 28 = some (0, .iconst 1, [1], .int 1, []) := rfl
theorem cd171_29 : code9 171 29 = some (0, .iadd, [1], .null, []) := rfl
theorem cd171_30 : code9 171 30 = some (0, .putfield 11, [3, 12, 2, 0], .null, []) := rfl
theorem cd171_33 : code9 171 33 = some (0, .iinc 2 (-8), [3], .int (-8), []) := rfl
theorem cd171_36 : code9 171 36 = some (0, .goto (-33), [3, 3, 3], .null, []) := rfl
theorem cd171_39 : code9 171 39 = some (0, .return_, [1], .null, []) := rfl
def Mod_come_3 (N : Nat) : Nat → Int32 → Int32 → FI → Option (FI)
  | 0 => fun _ _ _ => none
  | n + 1 => fun l1 l2 I => if l2 < 0 then (some I) else (if in9 (I 204 2) 940 then (Option.bind (some (up2 I 205 ((I 204 2).toNatClampNeg) (((l1.toUInt32 >>> (l2.toUInt32 &&& Int32.toUInt32 31)).toInt32) &&& 255))) fun I2 => (Option.bind (some (up2 I2 204 2 ((I2 204 2) + 1))) fun I3 => (Mod_come_3 N n l1 (l2 + (-8)) I3))) else none)
def Mod_come (N : Nat) (l1 : Int32) (I : FI) : Option (FI) := Mod_come_3 N N l1 24 I
set_option maxRecDepth 8000 in
theorem t_Mod_come_3 {d : Nat} {N : Nat} {c : Nat × Nat} {S : Nat → Nat × Nat} {P : Nat → Nat → Option Nat} {r : FI} (hd : 0 ≤ d) (hw : OM S P) : ∀ (n : Nat) (l1 : Int32) (l2 : Int32) (I : FI) (J : FJ), Mod_come_3 N n l1 l2 I = some r → Go d M_Mod_come 3 [some (.ref 204), some (.int l1), some (.int l2)] [] (c, S, I, J, P) (none, false, (c, S, r, J, P)) := by
  intro n
  induction n with
  | zero =>
    intro l1 l2 I J h
    cases h
  | succ n ih =>
    intro l1 l2 I J h
    unfold Mod_come_3 at h
    refine g_iload_n cd171_3 rfl rfl ?_
    refine g_if_lt cd171_4 rfl (fun hb => ?_) (fun hb => ?_)
    · have h := ifpE hb h
      exact g_vret cd171_39 (by obtain rfl := Option.some.inj h; rfl)
    · have h := ifnE hb h
      refine g_aload_n cd171_7 rfl rfl ?_
      refine g_getP cd171_8 rfl (OM.o hw) (OM.p1 hw) ?_
      refine g_aload_n cd171_11 rfl rfl ?_
      refine g_getI cd171_12 rfl (OM.o hw) ?_
      refine g_iload_n cd171_15 rfl rfl ?_
      refine g_iload_n cd171_16 rfl rfl ?_
      refine g_iushr cd171_17 rfl ?_
      refine g_sipush cd171_18 rfl ?_
      refine g_iand cd171_21 rfl ?_
      obtain ⟨hg1, h⟩ := grd h
      obtain ⟨I2, e1, h⟩ := bnd h
      refine G_iast cd171_22 rfl (OM.s1 hw) hg1 (Option.some.inj e1) ?_
      refine g_aload_n cd171_23 rfl rfl ?_
      refine g_dupR cd171_24 rfl ?_
      refine g_getI cd171_25 rfl (OM.o hw) ?_
      refine g_iconst cd171_28 rfl ?_
      refine g_iadd cd171_29 rfl ?_
      obtain ⟨I3, e1, h⟩ := bnd h
      refine G_putI cd171_30 rfl (OM.o hw) (Option.some.inj e1) ?_
      refine g_iinc (ls2 := [some (.ref 204), some (.int l1), some (.int (l2 + (-8)))]) cd171_33 rfl rfl rfl ?_
      refine g_goto (ls2 := [some (.ref 204), some (.int l1), some (.int (l2 + (-8)))]) cd171_36 rfl rfl ?_
      exact ih l1 (l2 + (-8)) I3 J h
set_option maxRecDepth 8000 in
theorem t_Mod_come {d : Nat} {N : Nat} {c : Nat × Nat} {S : Nat → Nat × Nat} {P : Nat → Nat → Option Nat} {I : FI} {J : FJ} {l1 : Int32} {r : FI} (hd : 0 ≤ d) (hw : OM S P) (h : Mod_come N l1 I = some r) : Go d M_Mod_come 0 [some (.ref 204), some (.int l1), none] [] (c, S, I, J, P) (none, false, (c, S, r, J, P)) := by
  unfold Mod_come at h
  refine g_bipush cd171_0 rfl ?_
  refine g_istore_n (ls2 := [some (.ref 204), some (.int l1), some (.int 24)]) cd171_2 rfl rfl ?_
  exact t_Mod_come_3 hd hw _ l1 24 I J h
/-! HiddenOrLostModel.feed(IIIII)I -/
theorem cd170_0 : code9 170 0 = some (0, .aload_n 0, [1], .null, []) := rfl
theorem cd170_1 : code9 170 1 = some (0, .iconst 0, [1], .int 0, []) := rfl
theorem cd170_2 : code9 170 2 = some (0, .putfield 1, [3, 12, 0, 0], .null, []) := rfl
theorem cd170_5 : code9 170 5 = some (0, .aload_n 0, [1], .null, []) := rfl
theorem cd170_6 : code9 170 6 = some (0, .getfield 11, [3, 12, 2, 0], .null, []) := rfl
theorem cd170_9 : code9 170 9 = some (0, .bipush 20, [2], .int 20, []) := rfl
theorem cd170_11 : code9 170 11 = some (0, .iadd, [1], .null, []) := rfl
theorem cd170_12 : code9 170 12 = some (0, .sipush 940, [3], .int 940, []) := rfl
theorem cd170_15 : code9 170 15 = some (0, .if_icmp .le 5, [3, 20], .null, []) := rfl
theorem cd170_18 : code9 170 18 = some (0, .iconst (-1), [1], .int (-1), []) := rfl
theorem cd170_19 : code9 170 19 = some (0, .ireturn, [1, 1], .null, []) := rfl
theorem cd170_20 : code9 170 20 = some (0, .aload_n 0, [1], .null, []) := rfl
theorem cd170_21 : code9 170 21 = some (0, .iload_n 1, [1], .null, []) := rfl
theorem cd170_22 : code9 170 22 = some (0, .invokevirtual 14, [3, 171, 2, 1, 0, 3, 12, 0], .null, []) := rfl
theorem cd170_25 : code9 170 25 = some (0, .aload_n 0, [1], .null, []) := rfl
theorem cd170_26 : code9 170 26 = some (0, .iload_n 2, [1], .null, []) := rfl
theorem cd170_27 : code9 170 27 = some (0, .invokevirtual 14, [3, 171, 2, 1, 0, 3, 12, 0], .null, []) := rfl
theorem cd170_30 : code9 170 30 = some (0, .aload_n 0, [1], .null, []) := rfl
theorem cd170_31 : code9 170 31 = some (0, .iload_n 3, [1], .null, []) := rfl
theorem cd170_32 : code9 170 32 = some (0, .invokevirtual 14, [3, 171, 2, 1, 0, 3, 12, 0], .null, []) := rfl
theorem cd170_35 : code9 170 35 = some (0, .aload_n 0, [1], .null, []) := rfl
theorem cd170_36 : code9 170 36 = some (0, .iload 4, [2], .null, []) := rfl
theorem cd170_38 : code9 170 38 = some (0, .invokevirtual 14, [3, 171, 2, 1, 0, 3, 12, 0], .null, []) := rfl
theorem cd170_41 : code9 170 41 = some (0, .aload_n 0, [1], .null, []) := rfl
theorem cd170_42 : code9 170 42 = some (0, .iload 5, [2], .null, []) := rfl
theorem cd170_44 : code9 170 44 = some (0, .invokevirtual 14, [3, 171, 2, 1, 0, 3, 12, 0], .null, []) := rfl
theorem cd170_47 : code9 170 47 = some (0, .aload_n 0, [1], .null, []) := rfl
theorem cd170_48 : code9 170 48 = some (0, .getfield 11, [3, 12, 2, 0], .null, []) := rfl
theorem cd170_51 : code9 170 51 = some (0, .ireturn, [1, 1], .null, []) := rfl
def Mod_feed (N : Nat) (l1 : Int32) (l2 : Int32) (l3 : Int32) (l4 : Int32) (l5 : Int32) (I : FI) : Option (Int32 × FI) := Option.bind (some (up2 I 204 0 (0 : Int32))) fun I1 => (if ((I1 204 2) + 20) ≤ 940 then (Option.bind (Mod_come N l1 I1) fun x2 => (Option.bind (Mod_come N l2 x2) fun x3 => (Option.bind (Mod_come N l3 x3) fun x4 => (Option.bind (Mod_come N l4 x4) fun x5 => (Option.bind (Mod_come N l5 x5) fun x6 => (some (x6 204 2, x6))))))) else (some ((-1), I1)))
set_option maxRecDepth 8000 in
theorem t_Mod_feed {d : Nat} {N : Nat} {c : Nat × Nat} {S : Nat → Nat × Nat} {P : Nat → Nat → Option Nat} {I : FI} {J : FJ} {l1 : Int32} {l2 : Int32} {l3 : Int32} {l4 : Int32} {l5 : Int32} {r : Int32 × FI} (hd : 1 ≤ d) (hw : OM S P) (h : Mod_feed N l1 l2 l3 l4 l5 I = some r) : Go d M_Mod_feed 0 [some (.ref 204), some (.int l1), some (.int l2), some (.int l3), some (.int l4), some (.int l5)] [] (c, S, I, J, P) (some (.int r.1), false, (c, S, r.2, J, P)) := by
  obtain ⟨d, rfl⟩ : ∃ e, d = e + 1 := ⟨d - 1, by omega⟩
  unfold Mod_feed at h
  refine g_aload_n cd170_0 rfl rfl ?_
  refine g_iconst cd170_1 rfl ?_
  obtain ⟨I1, e1, h⟩ := bnd h
  refine G_putI cd170_2 rfl (OM.o hw) (Option.some.inj e1) ?_
  refine g_aload_n cd170_5 rfl rfl ?_
  refine g_getI cd170_6 rfl (OM.o hw) ?_
  refine g_bipush cd170_9 rfl ?_
  refine g_iadd cd170_11 rfl ?_
  refine g_sipush cd170_12 rfl ?_
  refine g_icmp_le cd170_15 rfl (fun hb => ?_) (fun hb => ?_)
  · have h := ifpE hb h
    refine g_aload_n cd170_20 rfl rfl ?_
    refine g_iload_n cd170_21 rfl rfl ?_
    obtain ⟨x2, hx, h⟩ := bnd h
    refine g_callVV (L := [some (.ref 204), some (.int l1), none]) cd170_22 rfl rfl rfl rfl rfl (OM.o hw) (t_Mod_come (by omega) hw hx) ?_
    refine g_aload_n cd170_25 rfl rfl ?_
    refine g_iload_n cd170_26 rfl rfl ?_
    obtain ⟨x3, hx, h⟩ := bnd h
    refine g_callVV (L := [some (.ref 204), some (.int l2), none]) cd170_27 rfl rfl rfl rfl rfl (OM.o hw) (t_Mod_come (by omega) hw hx) ?_
    refine g_aload_n cd170_30 rfl rfl ?_
    refine g_iload_n cd170_31 rfl rfl ?_
    obtain ⟨x4, hx, h⟩ := bnd h
    refine g_callVV (L := [some (.ref 204), some (.int l3), none]) cd170_32 rfl rfl rfl rfl rfl (OM.o hw) (t_Mod_come (by omega) hw hx) ?_
    refine g_aload_n cd170_35 rfl rfl ?_
    refine g_iload cd170_36 rfl rfl ?_
    obtain ⟨x5, hx, h⟩ := bnd h
    refine g_callVV (L := [some (.ref 204), some (.int l4), none]) cd170_38 rfl rfl rfl rfl rfl (OM.o hw) (t_Mod_come (by omega) hw hx) ?_
    refine g_aload_n cd170_41 rfl rfl ?_
    refine g_iload cd170_42 rfl rfl ?_
    obtain ⟨x6, hx, h⟩ := bnd h
    refine g_callVV (L := [some (.ref 204), some (.int l5), none]) cd170_44 rfl rfl rfl rfl rfl (OM.o hw) (t_Mod_come (by omega) hw hx) ?_
    refine g_aload_n cd170_47 rfl rfl ?_
    refine g_getI cd170_48 rfl (OM.o hw) ?_
    exact g_iret cd170_51 (Or.inl rfl) (by obtain rfl := Option.some.inj h; rfl)
  · have h := ifnE hb h
    refine g_iconst cd170_18 rfl ?_
    exact g_iret cd170_19 (Or.inl rfl) (by obtain rfl := Option.some.inj h; rfl)
/-! HiddenOrLostModel.end(I)Z -/
theorem cd172_0 : code9 172 0 = some (0, .aload_n 0, [1], .null, []) := rfl
theorem cd172_1 : code9 172 1 = some (0, .iconst 0, [1], .int 0, []) := rfl
theorem cd172_2 : code9 172 2 = some (0, .putfield 1, [3, 12, 0, 0], .null, []) := rfl
theorem cd172_5 : code9 172 5 = some (0, .iload_n 1, [1], .null, []) := rfl
theorem cd172_6 : code9 172 6 = some (0, .ifCond .lt 11, [3, 17], .null, []) := rfl
theorem cd172_9 : code9 172 9 = some (0, .iload_n 1, [1], .null, []) := rfl
theorem cd172_10 : code9 172 10 = some (0, .aload_n 0, [1], .null, []) := rfl
theorem cd172_11 : code9 172 11 = some (0, .getfield 11, [3, 12, 2, 0], .null, []) := rfl
theorem cd172_14 : code9 172 14 = some (0, .if_icmp .le 5, [3, 19], .null, []) := rfl
theorem cd172_17 : code9 172 17 = some (3, .iconst 0, [1], .int 0, []) := rfl
theorem cd172_18 : code9 172 18 = some (0, .ireturn, [1, 3], .null, []) := rfl
theorem cd172_19 : code9 172 19 = some (0, .aload_n 0, [1], .null, []) := rfl
theorem cd172_20 : code9 172 20 = some (0, .iload_n 1, [1], .null, []) := rfl
theorem cd172_21 : code9 172 21 = some (0, .putfield 11, [3, 12, 2, 0], .null, []) := rfl
theorem cd172_24 : code9 172 24 = some (0, .iconst 1, [1], .int 1, []) := rfl
theorem cd172_25 : code9 172 25 = some (0, .ireturn, [1, 3], .null, []) := rfl
def Mod_end (l1 : Int32) (I : FI) : Option (Bool × FI) := Option.bind (some (up2 I 204 0 (0 : Int32))) fun I1 => (if l1 < 0 then (some (false, I1)) else (if l1 ≤ (I1 204 2) then (Option.bind (some (up2 I1 204 2 l1)) fun I2 => (some (true, I2))) else (some (false, I1))))
set_option maxRecDepth 8000 in
theorem t_Mod_end {d : Nat} {c : Nat × Nat} {S : Nat → Nat × Nat} {P : Nat → Nat → Option Nat} {I : FI} {J : FJ} {l1 : Int32} {r : Bool × FI} (hd : 0 ≤ d) (hw : OM S P) (h : Mod_end l1 I = some r) : Go d M_Mod_end 0 [some (.ref 204), some (.int l1)] [] (c, S, I, J, P) (some (.int (b2i r.1)), false, (c, S, r.2, J, P)) := by
  unfold Mod_end at h
  refine g_aload_n cd172_0 rfl rfl ?_
  refine g_iconst cd172_1 rfl ?_
  obtain ⟨I1, e1, h⟩ := bnd h
  refine G_putI cd172_2 rfl (OM.o hw) (Option.some.inj e1) ?_
  refine g_iload_n cd172_5 rfl rfl ?_
  refine g_if_lt cd172_6 rfl (fun hb => ?_) (fun hb => ?_)
  · have h := ifpE hb h
    refine g_iconst cd172_17 rfl ?_
    exact g_iret cd172_18 (Or.inr ⟨rfl, Or.inl rfl⟩) (by obtain rfl := Option.some.inj h; rfl)
  · have h := ifnE hb h
    refine g_iload_n cd172_9 rfl rfl ?_
    refine g_aload_n cd172_10 rfl rfl ?_
    refine g_getI cd172_11 rfl (OM.o hw) ?_
    refine g_icmp_le cd172_14 rfl (fun hb => ?_) (fun hb => ?_)
    · have h := ifpE hb h
      refine g_aload_n cd172_19 rfl rfl ?_
      refine g_iload_n cd172_20 rfl rfl ?_
      obtain ⟨I2, e1, h⟩ := bnd h
      refine G_putI cd172_21 rfl (OM.o hw) (Option.some.inj e1) ?_
      refine g_iconst cd172_24 rfl ?_
      exact g_iret cd172_25 (Or.inr ⟨rfl, Or.inr rfl⟩) (by obtain rfl := Option.some.inj h; rfl)
    · have h := ifnE hb h
      refine g_iconst cd172_17 rfl ?_
      exact g_iret cd172_18 (Or.inr ⟨rfl, Or.inl rfl⟩) (by obtain rfl := Option.some.inj h; rfl)
/-! HiddenOrLostModel.startRead()V -/
theorem cd174_0 : code9 174 0 = some (0, .iconst 0, [1], .int 0, []) := rfl
theorem cd174_1 : code9 174 1 = some (0, .istore_n 1, [1], .null, []) := rfl
theorem cd174_2 : code9 174 2 = some (3, .iload_n 1, [1], .null, []) := rfl
theorem cd174_3 : code9 174 3 = some (0, .bipush 102, [2], .int 102, []) := rfl
theorem cd174_5 : code9 174 5 = some (0, .if_icmp .ge 16, [3, 21], .null, []) := rfl
theorem cd174_8 : code9 174 8 = some (0, .aload_n 0, [1], .null, []) := rfl
theorem cd174_9 : code9 174 9 = some (0, .getfield 101, [3, 12, 15, 2], .null, []) := rfl
theorem cd174_12 : code9 174 12 = some (0, .iload_n 1, [1], .null, []) := rfl
theorem cd174_13 : code9 174 13 = some (0, .iconst 0, [1], .int 0, []) := rfl
theorem cd174_14 : code9 174 14 = some (0, .iastore, [1], .null, []) := rfl
theorem cd174_15 : code9 174 15 = some (0, .iinc 1 1, [3], .int 1, []) := rfl
theorem cd174_18 : code9 174 18 = some (0, .goto (-16), [3, 2, 2], .null, []) := rfl
theorem cd174_21 : code9 174 21 = some (0, .iconst 0, [1], .int 0, []) := rfl
theorem cd174_22 : code9 174 22 = some (0, .istore_n 1, [1], .null, []) := rfl
theorem cd174_23 : code9 174 23 = some (3, .iload_n 1, [1], .null, []) := rfl
theorem cd174_24 : code9 174 24 = some (0, .bipush 64, [2], .int 64, []) := rfl
theorem cd174_26 : code9 174 26 = some (0, .if_icmp .ge 16, [3, 42], .null, []) := rfl
theorem cd174_29 : code9 174 29 = some (0, .aload_n 0, [1], .null, []) := rfl
theorem cd174_30 : code9 174 30 = some (0, .getfield 127, [3, 12, 23, 2], .null, []) := rfl
theorem cd174_33 : code9 174 33 = some (0, .iload_n 1, [1], .null, []) := rfl
theorem cd174_34 : code9 174 34 = some (0, .iconst 0, [1], .int 0, []) := rfl
theorem cd174_35 : code9 174 35 = some (0, .bastore, [1], .null, []) := rfl
theorem cd174_36 : code9 174 36 = some (0, .iinc 1 1, [3], .int 1, []) := rfl
theorem cd174_39 : code9 174 39 = some (0, .goto (-16), [3, 23, 2], .null, []) := rfl
theorem cd174_42 : code9 174 42 = some (0, .iconst 0, [1], .int 0, []) := rfl
theorem cd174_43 : code9 174 43 = some (0, .istore_n 1, [1], .null, []) := rfl
theorem cd174_44 : code9 174 44 = some (3, .iload_n 1, [1], .null, []) := rfl
theorem cd174_45 : code9 174 45 = some (0, .bipush 12, [2], .int 12, []) := rfl
theorem cd174_47 : code9 174 47 = some (0, .if_icmp .ge 20, [3, 67], .null, []) := rfl
theorem cd174_50 : code9 174 50 = some (0, .aload_n 0, [1], .null, []) := rfl
theorem cd174_51 : code9 174 51 = some (0, .getfield 101, [3, 12, 15, 2], .null, []) := rfl
theorem cd174_54 : code9 174 54 = some (0, .bipush 6, [2], .int 6, []) := rfl
theorem cd174_56 : code9 174 56 = some (0, .iload_n 1, [1], .null, []) := rfl
theorem cd174_57 : code9 174 57 = some (0, .iadd, [1], .null, []) := rfl
theorem cd174_58 : code9 174 58 = some (0, .bipush 6, [2], .int 6, []) := rfl
theorem cd174_60 : code9 174 60 = some (0, .iastore, [1], .null, []) := rfl
theorem cd174_61 : code9 174 61 = some (0, .iinc 1 1, [3], .int 1, []) := rfl
theorem cd174_64 : code9 174 64 = some (0, .goto (-20), [3, 44, 2], .null, []) := rfl
theorem cd174_67 : code9 174 67 = some (0, .iconst 0, [1], .int 0, []) := rfl
theorem cd174_68 : code9 174 68 = some (0, .istore_n 1, [1], .null, []) := rfl
theorem cd174_69 : code9 174 69 = some (3, .iload_n 1, [1], .null, []) := rfl
theorem cd174_70 : code9 174 70 = some (0, .iconst 3, [1], .int 3, []) := rfl
theorem cd174_71 : code9 174 71 = some (0, .if_icmp .ge 19, [3, 90], .null, []) := rfl
theorem cd174_74 : code9 174 74 = some (0, .aload_n 0, [1], .null, []) := rfl
theorem cd174_75 : code9 174 75 = some (0, .getfield 101, [3, 12, 15, 2], .null, []) := rfl
theorem cd174_78 : code9 174 78 = some (0, .bipush 18, [2], .int 18, []) := rfl
theorem cd174_80 : code9 174 80 = some (0, .iload_n 1, [1], .null, []) := rfl
theorem cd174_81 : code9 174 81 = some (0, .iadd, [1], .null, []) := rfl
theorem cd174_82 : code9 174 82 = some (0, .iconst 1, [1], .int 1, []) := rfl
theorem cd174_83 : code9 174 83 = some (0, .iastore, [1], .null, []) := rfl
theorem cd174_84 : code9 174 84 = some (0, .iinc 1 1, [3], .int 1, []) := rfl
theorem cd174_87 : code9 174 87 = some (0, .goto (-18), [3, 69, 2], .null, []) := rfl
theorem cd174_90 : code9 174 90 = some (0, .iconst 0, [1], .int 0, []) := rfl
theorem cd174_91 : code9 174 91 = some (0, .istore_n 1, [1], .null, []) := rfl
theorem cd174_92 : code9 174 92 = some (3, .iload_n 1, [1], .null, []) := rfl
theorem cd174_93 : code9 174 93 = some (0, .bipush 9, [2], .int 9, []) := rfl
theorem cd174_95 : code9 174 95 = some (0, .if_icmp .ge 19, [3, 114], .null, []) := rfl
theorem cd174_98 : code9 174 98 = some (0, .aload_n 0, [1], .null, []) := rfl
theorem cd174_99 : code9 174 99 = some (0, .getfield 101, [3, 12, 15, 2], .null, []) := rfl
theorem cd174_102 : code9 174 102 = some (0, .bipush 21, [2], .int 21, []) := rfl
theorem cd174_104 : code9 174 104 = some (0, .iload_n 1, [1], .null, []) := rfl
theorem cd174_105 : code9 174 105 = some (0, .iadd, [1], .null, []) := rfl
theorem cd174_106 : code9 174 106 = some (0, .iconst 4, [1], .int 4, []) := rfl
theorem cd174_107 : code9 174 107 = some (0, .iastore, [1], .null, []) := rfl
theorem cd174_108 : code9 174 108 = some (0, .iinc 1 1, [3], .int 1, []) := rfl
theorem cd174_111 : code9 174 111 = some (0, .goto (-19), [3, 92, 2], .null, []) := rfl
theorem cd174_114 : code9 174 114 = some (0, .aload_n 0, [1], .null, []) := rfl
theorem cd174_115 : code9 174 115 = some (0, .getfield 101, [3, 12, 15, 2], .null, []) := rfl
theorem cd174_118 : code9 174 118 = some (0, .iconst 3, [1], .int 3, []) := rfl
theorem cd174_119 : code9 174 119 = some (0, .iconst 4, [1], .int 4, []) := rfl
theorem cd174_120 : code9 174 120 = some (0, .iastore, [1], .null, []) := rfl
theorem cd174_121 : code9 174 121 = some (0, .aload_n 0, [1], .null, []) := rfl
theorem cd174_122 : code9 174 122 = some (0, .getfield 101, [3, 12, 15, 2], .null, []) := rfl
theorem cd174_125 : code9 174 125 = some (0, .iconst 4, [1], .int 4, []) := rfl
theorem cd174_126 : code9 174 126 = some (0, .iconst 4, [1], .int 4, []) := rfl
theorem cd174_127 : code9 174 127 = some (0, .iastore, [1], .null, []) := rfl
theorem cd174_128 : code9 174 128 = some (0, .aload_n 0, [1], .null, []) := rfl
theorem cd174_129 : code9 174 129 = some (0, .getfield 101, [3, 12, 15, 2], .null, []) := rfl
theorem cd174_132 : code9 174 132 = some (0, .iconst 5, [1], .int 5, []) := rfl
theorem cd174_133 : code9 174 133 = some (0, .iconst 3, [1], .int 3, []) := rfl
theorem cd174_134 : code9 174 134 = some (0, .iastore, [1], .null, []) := rfl
theorem cd174_135 : code9 174 135 = some (0, .return_, [1], .null, []) := rfl
def Mod_startRead_92 (N : Nat) : Nat → Int32 → FI → Option (FI)
  | 0 => fun _ _ => none
  | n + 1 => fun l1 I => if 9 ≤ l1 then (Option.bind (some (up2 I 207 ((3 : Int32).toNatClampNeg) (4 : Int32))) fun I1 => (Option.bind (some (up2 I1 207 ((4 : Int32).toNatClampNeg) (4 : Int32))) fun I2 => (Option.bind (some (up2 I2 207 ((5 : Int32).toNatClampNeg) (3 : Int32))) fun I3 => (some I3)))) else (if in9 (21 + l1) 102 then (Option.bind (some (up2 I 207 ((21 + l1).toNatClampNeg) (4 : Int32))) fun I5 => (Mod_startRead_92 N n (l1 + 1) I5)) else none)
def Mod_startRead_69 (N : Nat) : Nat → Int32 → FI → Option (FI)
  | 0 => fun _ _ => none
  | n + 1 => fun l1 I => if 3 ≤ l1 then (Mod_startRead_92 N N 0 I) else (if in9 (18 + l1) 102 then (Option.bind (some (up2 I 207 ((18 + l1).toNatClampNeg) (1 : Int32))) fun I7 => (Mod_startRead_69 N n (l1 + 1) I7)) else none)
def Mod_startRead_44 (N : Nat) : Nat → Int32 → FI → Option (FI)
  | 0 => fun _ _ => none
  | n + 1 => fun l1 I => if 12 ≤ l1 then (Mod_startRead_69 N N 0 I) else (if in9 (6 + l1) 102 then (Option.bind (some (up2 I 207 ((6 + l1).toNatClampNeg) (6 : Int32))) fun I9 => (Mod_startRead_44 N n (l1 + 1) I9)) else none)
def Mod_startRead_23 (N : Nat) : Nat → Int32 → FI → Option (FI)
  | 0 => fun _ _ => none
  | n + 1 => fun l1 I => if 64 ≤ l1 then (Mod_startRead_44 N N 0 I) else (if in9 l1 64 then (Option.bind (some (up2 I 215 l1.toNatClampNeg (vp_nar .boolean (0 : Int32)))) fun I11 => (Mod_startRead_23 N n (l1 + 1) I11)) else none)
def Mod_startRead_2 (N : Nat) : Nat → Int32 → FI → Option (FI)
  | 0 => fun _ _ => none
  | n + 1 => fun l1 I => if 102 ≤ l1 then (Mod_startRead_23 N N 0 I) else (if in9 l1 102 then (Option.bind (some (up2 I 207 l1.toNatClampNeg (0 : Int32))) fun I13 => (Mod_startRead_2 N n (l1 + 1) I13)) else none)
def Mod_startRead (N : Nat) (I : FI) : Option (FI) := Mod_startRead_2 N N 0 I
set_option maxRecDepth 8000 in
theorem t_Mod_startRead_92 {d : Nat} {N : Nat} {c : Nat × Nat} {S : Nat → Nat × Nat} {P : Nat → Nat → Option Nat} {r : FI} (hd : 0 ≤ d) (hw : OM S P) : ∀ (n : Nat) (l1 : Int32) (I : FI) (J : FJ), Mod_startRead_92 N n l1 I = some r → Go d M_Mod_startRead 92 [some (.ref 204), some (.int l1)] [] (c, S, I, J, P) (none, false, (c, S, r, J, P)) := by
  intro n
  induction n with
  | zero =>
    intro l1 I J h
    cases h
  | succ n ih =>
    intro l1 I J h
    unfold Mod_startRead_92 at h
    refine g_iload_n cd174_92 rfl rfl ?_
    refine g_bipush cd174_93 rfl ?_
    refine g_icmp_ge cd174_95 rfl (fun hb => ?_) (fun hb => ?_)
    · have h := ifpE hb h
      refine g_aload_n cd174_114 rfl rfl ?_
      refine g_getP cd174_115 rfl (OM.o hw) (OM.p15 hw) ?_
      refine g_iconst cd174_118 rfl ?_
      refine g_iconst cd174_119 rfl ?_
      obtain ⟨I1, e1, h⟩ := bnd h
      refine G_iast cd174_120 rfl (OM.s15 hw) (by decide) (Option.some.inj e1) ?_
      refine g_aload_n cd174_121 rfl rfl ?_
      refine g_getP cd174_122 rfl (OM.o hw) (OM.p15 hw) ?_
      refine g_iconst cd174_125 rfl ?_
      refine g_iconst cd174_126 rfl ?_
      obtain ⟨I2, e1, h⟩ := bnd h
      refine G_iast cd174_127 rfl (OM.s15 hw) (by decide) (Option.some.inj e1) ?_
      refine g_aload_n cd174_128 rfl rfl ?_
      refine g_getP cd174_129 rfl (OM.o hw) (OM.p15 hw) ?_
      refine g_iconst cd174_132 rfl ?_
      refine g_iconst cd174_133 rfl ?_
      obtain ⟨I3, e1, h⟩ := bnd h
      refine G_iast cd174_134 rfl (OM.s15 hw) (by decide) (Option.some.inj e1) ?_
      exact g_vret cd174_135 (by obtain rfl := Option.some.inj h; rfl)
    · have h := ifnE hb h
      refine g_aload_n cd174_98 rfl rfl ?_
      refine g_getP cd174_99 rfl (OM.o hw) (OM.p15 hw) ?_
      refine g_bipush cd174_102 rfl ?_
      refine g_iload_n cd174_104 rfl rfl ?_
      refine g_iadd cd174_105 rfl ?_
      refine g_iconst cd174_106 rfl ?_
      obtain ⟨hg4, h⟩ := grd h
      obtain ⟨I5, e1, h⟩ := bnd h
      refine G_iast cd174_107 rfl (OM.s15 hw) hg4 (Option.some.inj e1) ?_
      refine g_iinc (ls2 := [some (.ref 204), some (.int (l1 + 1))]) cd174_108 rfl rfl rfl ?_
      refine g_goto (ls2 := [some (.ref 204), some (.int (l1 + 1))]) cd174_111 rfl rfl ?_
      exact ih (l1 + 1) I5 J h
set_option maxRecDepth 8000 in
theorem t_Mod_startRead_69 {d : Nat} {N : Nat} {c : Nat × Nat} {S : Nat → Nat × Nat} {P : Nat → Nat → Option Nat} {r : FI} (hd : 0 ≤ d) (hw : OM S P) : ∀ (n : Nat) (l1 : Int32) (I : FI) (J : FJ), Mod_startRead_69 N n l1 I = some r → Go d M_Mod_startRead 69 [some (.ref 204), some (.int l1)] [] (c, S, I, J, P) (none, false, (c, S, r, J, P)) := by
  intro n
  induction n with
  | zero =>
    intro l1 I J h
    cases h
  | succ n ih =>
    intro l1 I J h
    unfold Mod_startRead_69 at h
    refine g_iload_n cd174_69 rfl rfl ?_
    refine g_iconst cd174_70 rfl ?_
    refine g_icmp_ge cd174_71 rfl (fun hb => ?_) (fun hb => ?_)
    · have h := ifpE hb h
      refine g_iconst cd174_90 rfl ?_
      refine g_istore_n (ls2 := [some (.ref 204), some (.int 0)]) cd174_91 rfl rfl ?_
      exact t_Mod_startRead_92 hd hw _ 0 I J h
    · have h := ifnE hb h
      refine g_aload_n cd174_74 rfl rfl ?_
      refine g_getP cd174_75 rfl (OM.o hw) (OM.p15 hw) ?_
      refine g_bipush cd174_78 rfl ?_
      refine g_iload_n cd174_80 rfl rfl ?_
      refine g_iadd cd174_81 rfl ?_
      refine g_iconst cd174_82 rfl ?_
      obtain ⟨hg6, h⟩ := grd h
      obtain ⟨I7, e1, h⟩ := bnd h
      refine G_iast cd174_83 rfl (OM.s15 hw) hg6 (Option.some.inj e1) ?_
      refine g_iinc (ls2 := [some (.ref 204), some (.int (l1 + 1))]) cd174_84 rfl rfl rfl ?_
      refine g_goto (ls2 := [some (.ref 204), some (.int (l1 + 1))]) cd174_87 rfl rfl ?_
      exact ih (l1 + 1) I7 J h
set_option maxRecDepth 8000 in
theorem t_Mod_startRead_44 {d : Nat} {N : Nat} {c : Nat × Nat} {S : Nat → Nat × Nat} {P : Nat → Nat → Option Nat} {r : FI} (hd : 0 ≤ d) (hw : OM S P) : ∀ (n : Nat) (l1 : Int32) (I : FI) (J : FJ), Mod_startRead_44 N n l1 I = some r → Go d M_Mod_startRead 44 [some (.ref 204), some (.int l1)] [] (c, S, I, J, P) (none, false, (c, S, r, J, P)) := by
  intro n
  induction n with
  | zero =>
    intro l1 I J h
    cases h
  | succ n ih =>
    intro l1 I J h
    unfold Mod_startRead_44 at h
    refine g_iload_n cd174_44 rfl rfl ?_
    refine g_bipush cd174_45 rfl ?_
    refine g_icmp_ge cd174_47 rfl (fun hb => ?_) (fun hb => ?_)
    · have h := ifpE hb h
      refine g_iconst cd174_67 rfl ?_
      refine g_istore_n (ls2 := [some (.ref 204), some (.int 0)]) cd174_68 rfl rfl ?_
      exact t_Mod_startRead_69 hd hw _ 0 I J h
    · have h := ifnE hb h
      refine g_aload_n cd174_50 rfl rfl ?_
      refine g_getP cd174_51 rfl (OM.o hw) (OM.p15 hw) ?_
      refine g_bipush cd174_54 rfl ?_
      refine g_iload_n cd174_56 rfl rfl ?_
      refine g_iadd cd174_57 rfl ?_
      refine g_bipush cd174_58 rfl ?_
      obtain ⟨hg8, h⟩ := grd h
      obtain ⟨I9, e1, h⟩ := bnd h
      refine G_iast cd174_60 rfl (OM.s15 hw) hg8 (Option.some.inj e1) ?_
      refine g_iinc (ls2 := [some (.ref 204), some (.int (l1 + 1))]) cd174_61 rfl rfl rfl ?_
      refine g_goto (ls2 := [some (.ref 204), some (.int (l1 + 1))]) cd174_64 rfl rfl ?_
      exact ih (l1 + 1) I9 J h
set_option maxRecDepth 8000 in
theorem t_Mod_startRead_23 {d : Nat} {N : Nat} {c : Nat × Nat} {S : Nat → Nat × Nat} {P : Nat → Nat → Option Nat} {r : FI} (hd : 0 ≤ d) (hw : OM S P) : ∀ (n : Nat) (l1 : Int32) (I : FI) (J : FJ), Mod_startRead_23 N n l1 I = some r → Go d M_Mod_startRead 23 [some (.ref 204), some (.int l1)] [] (c, S, I, J, P) (none, false, (c, S, r, J, P)) := by
  intro n
  induction n with
  | zero =>
    intro l1 I J h
    cases h
  | succ n ih =>
    intro l1 I J h
    unfold Mod_startRead_23 at h
    refine g_iload_n cd174_23 rfl rfl ?_
    refine g_bipush cd174_24 rfl ?_
    refine g_icmp_ge cd174_26 rfl (fun hb => ?_) (fun hb => ?_)
    · have h := ifpE hb h
      refine g_iconst cd174_42 rfl ?_
      refine g_istore_n (ls2 := [some (.ref 204), some (.int 0)]) cd174_43 rfl rfl ?_
      exact t_Mod_startRead_44 hd hw _ 0 I J h
    · have h := ifnE hb h
      refine g_aload_n cd174_29 rfl rfl ?_
      refine g_getP cd174_30 rfl (OM.o hw) (OM.p23 hw) ?_
      refine g_iload_n cd174_33 rfl rfl ?_
      refine g_iconst cd174_34 rfl ?_
      obtain ⟨hg10, h⟩ := grd h
      obtain ⟨I11, e1, h⟩ := bnd h
      refine G_bastZ cd174_35 rfl (OM.s23 hw) hg10 (Option.some.inj e1) ?_
      refine g_iinc (ls2 := [some (.ref 204), some (.int (l1 + 1))]) cd174_36 rfl rfl rfl ?_
      refine g_goto (ls2 := [some (.ref 204), some (.int (l1 + 1))]) cd174_39 rfl rfl ?_
      exact ih (l1 + 1) I11 J h
set_option maxRecDepth 8000 in
theorem t_Mod_startRead_2 {d : Nat} {N : Nat} {c : Nat × Nat} {S : Nat → Nat × Nat} {P : Nat → Nat → Option Nat} {r : FI} (hd : 0 ≤ d) (hw : OM S P) : ∀ (n : Nat) (l1 : Int32) (I : FI) (J : FJ), Mod_startRead_2 N n l1 I = some r → Go d M_Mod_startRead 2 [some (.ref 204), some (.int l1)] [] (c, S, I, J, P) (none, false, (c, S, r, J, P)) := by
  intro n
  induction n with
  | zero =>
    intro l1 I J h
    cases h
  | succ n ih =>
    intro l1 I J h
    unfold Mod_startRead_2 at h
    refine g_iload_n cd174_2 rfl rfl ?_
    refine g_bipush cd174_3 rfl ?_
    refine g_icmp_ge cd174_5 rfl (fun hb => ?_) (fun hb => ?_)
    · have h := ifpE hb h
      refine g_iconst cd174_21 rfl ?_
      refine g_istore_n (ls2 := [some (.ref 204), some (.int 0)]) cd174_22 rfl rfl ?_
      exact t_Mod_startRead_23 hd hw _ 0 I J h
    · have h := ifnE hb h
      refine g_aload_n cd174_8 rfl rfl ?_
      refine g_getP cd174_9 rfl (OM.o hw) (OM.p15 hw) ?_
      refine g_iload_n cd174_12 rfl rfl ?_
      refine g_iconst cd174_13 rfl ?_
      obtain ⟨hg12, h⟩ := grd h
      obtain ⟨I13, e1, h⟩ := bnd h
      refine G_iast cd174_14 rfl (OM.s15 hw) hg12 (Option.some.inj e1) ?_
      refine g_iinc (ls2 := [some (.ref 204), some (.int (l1 + 1))]) cd174_15 rfl rfl rfl ?_
      refine g_goto (ls2 := [some (.ref 204), some (.int (l1 + 1))]) cd174_18 rfl rfl ?_
      exact ih (l1 + 1) I13 J h
set_option maxRecDepth 8000 in
theorem t_Mod_startRead {d : Nat} {N : Nat} {c : Nat × Nat} {S : Nat → Nat × Nat} {P : Nat → Nat → Option Nat} {I : FI} {J : FJ} {r : FI} (hd : 0 ≤ d) (hw : OM S P) (h : Mod_startRead N I = some r) : Go d M_Mod_startRead 0 [some (.ref 204), none] [] (c, S, I, J, P) (none, false, (c, S, r, J, P)) := by
  unfold Mod_startRead at h
  refine g_iconst cd174_0 rfl ?_
  refine g_istore_n (ls2 := [some (.ref 204), some (.int 0)]) cd174_1 rfl rfl ?_
  exact t_Mod_startRead_2 hd hw _ 0 I J h
/-! HiddenOrLostModel.startSo()V -/
theorem cd175_0 : code9 175 0 = some (0, .bipush 102, [2], .int 102, []) := rfl
theorem cd175_2 : code9 175 2 = some (0, .istore_n 1, [1], .null, []) := rfl
theorem cd175_3 : code9 175 3 = some (3, .iload_n 1, [1], .null, []) := rfl
theorem cd175_4 : code9 175 4 = some (0, .sipush 451, [3], .int 451, []) := rfl
theorem cd175_7 : code9 175 7 = some (0, .if_icmp .ge 16, [3, 23], .null, []) := rfl
theorem cd175_10 : code9 175 10 = some (0, .aload_n 0, [1], .null, []) := rfl
theorem cd175_11 : code9 175 11 = some (0, .getfield 98, [3, 12, 14, 2], .null, []) := rfl
theorem cd175_14 : code9 175 14 = some (0, .iload_n 1, [1], .null, []) := rfl
theorem cd175_15 : code9 175 15 = some (0, .iconst 0, [1], .int 0, []) := rfl
theorem cd175_16 : code9 175 16 = some (0, .iastore, [1], .null, []) := rfl
theorem cd175_17 : code9 175 17 = some (0, .iinc 1 1, [3], .int 1, []) := rfl
theorem cd175_20 : code9 175 20 = some (0, .goto (-17), [3, 3, 2], .null, []) := rfl
theorem cd175_23 : code9 175 23 = some (0, .iconst 0, [1], .int 0, []) := rfl
theorem cd175_24 : code9 175 24 = some (0, .istore_n 1, [1], .null, []) := rfl
theorem cd175_25 : code9 175 25 = some (3, .iload_n 1, [1], .null, []) := rfl
theorem cd175_26 : code9 175 26 = some (0, .bipush 10, [2], .int 10, []) := rfl
theorem cd175_28 : code9 175 28 = some (0, .if_icmp .ge 74, [3, 102], .null, []) := rfl
theorem cd175_31 : code9 175 31 = some (0, .aload_n 0, [1], .null, []) := rfl
theorem cd175_32 : code9 175 32 = some (0, .getfield 98, [3, 12, 14, 2], .null, []) := rfl
theorem cd175_35 : code9 175 35 = some (0, .bipush 105, [2], .int 105, []) := rfl
theorem cd175_37 : code9 175 37 = some (0, .iload_n 1, [1], .null, []) := rfl
theorem cd175_38 : code9 175 38 = some (0, .iadd, [1], .null, []) := rfl
theorem cd175_39 : code9 175 39 = some (0, .aload_n 0, [1], .null, []) := rfl
theorem cd175_40 : code9 175 40 = some (0, .getfield 98, [3, 12, 14, 2], .null, []) := rfl
theorem cd175_43 : code9 175 43 = some (0, .bipush 40, [2], .int 40, []) := rfl
theorem cd175_45 : code9 175 45 = some (0, .iload_n 1, [1], .null, []) := rfl
theorem cd175_46 : code9 175 46 = some (0, .iadd, [1], .null, []) := rfl
theorem cd175_47 : code9 175 47 = some (0, .iaload, [1], .null, []) := rfl
theorem cd175_48 : code9 175 48 = some (0, .iastore, [1], .null, []) := rfl
theorem cd175_49 : code9 175 49 = some (0, .aload_n 0, [1], .null, []) := rfl
theorem cd175_50 : code9 175 50 = some (0, .getfield 98, [3, 12, 14, 2], .null, []) := rfl
theorem cd175_53 : code9 175 53 = some (0, .bipush 115, [2], .int 115, []) := rfl
theorem cd175_55 : code9 175 55 = some (0, .iload_n 1, [1], .null, []) := rfl
theorem cd175_56 : code9 175 56 = some (0, .iadd, [1], .null, []) := rfl
theorem cd175_57 : code9 175 57 = some (0, .aload_n 0, [1], .null, []) := rfl
theorem cd175_58 : code9 175 58 = some (0, .getfield 98, [3, 12, 14, 2], .null, []) := rfl
theorem cd175_61 : code9 175 61 = some (0, .bipush 50, [2], .int 50, []) := rfl
theorem cd175_63 : code9 175 63 = some (0, .iload_n 1, [1], .null, []) := rfl
theorem cd175_64 : code9 175 64 = some (0, .iadd, [1], .null, []) := rfl
theorem cd175_65 : code9 175 65 = some (0, .iaload, [1], .null, []) := rfl
theorem cd175_66 : code9 175 66 = some (0, .iastore, [1], .null, []) := rfl
theorem cd175_67 : code9 175 67 = some (0, .aload_n 0, [1], .null, []) := rfl
theorem cd175_68 : code9 175 68 = some (0, .getfield 98, [3, 12, 14, 2], .null, []) := rfl
theorem cd175_71 : code9 175 71 = some (0, .bipush 125, [2], .int 125, []) := rfl
theorem cd175_73 : code9 175 73 = some (0, .iload_n 1, [1], .null, []) := rfl
theorem cd175_74 : code9 175 74 = some (0, .iadd, [1], .null, []) := rfl
theorem cd175_75 : code9 175 75 = some (0, .aload_n 0, [1], .null, []) := rfl
theorem cd175_76 : code9 175 76 = some (0, .getfield 98, [3, 12, 14, 2], .null, []) := rfl
theorem cd175_79 : code9 175 79 = some (0, .bipush 60, [2], .int 60, []) := rfl
theorem cd175_81 : code9 175 81 = some (0, .iload_n 1, [1], .null, []) := rfl
theorem cd175_82 : code9 175 82 = some (0, .iadd, [1], .null, []) := rfl
theorem cd175_83 : code9 175 83 = some (0, .iaload, [1], .null, []) := rfl
theorem cd175_84 : code9 175 84 = some (0, .iastore, [1], .null, []) := rfl
theorem cd175_85 : code9 175 85 = some (0, .aload_n 0, [1], .null, []) := rfl
theorem cd175_86 : code9 175 86 = some (0, .getfield 98, [3, 12, 14, 2], .null, []) := rfl
theorem cd175_89 : code9 175 89 = some (0, .sipush 145, [3], .int 145, []) := rfl
theorem cd175_92 : code9 175 92 = some (0, .iload_n 1, [1], .null, []) := rfl
theorem cd175_93 : code9 175 93 = some (0, .iadd, [1], .null, []) := rfl
theorem cd175_94 : code9 175 94 = some (0, .iconst (-1), [1], .int (-1), []) := rfl
theorem cd175_95 : code9 175 95 = some (0, .iastore, [1], .null, []) := rfl
theorem cd175_96 : code9 175 96 = some (0, .iinc 1 1, [3], .int 1, []) := rfl
theorem cd175_99 : code9 175 99 = some (0, .goto (-74), [3, 25, 2], .null, []) := rfl
theorem cd175_102 : code9 175 102 = some (0, .return_, [1], .null, []) := rfl
def Mod_startSo_25 (N : Nat) : Nat → Int32 → FI → Option (FI)
  | 0 => fun _ _ => none
  | n + 1 => fun l1 I => if 10 ≤ l1 then (some I) else (if in9 (40 + l1) 451 then (if in9 (105 + l1) 451 then (Option.bind (some (up2 I 206 ((105 + l1).toNatClampNeg) (I 206 ((40 + l1).toNatClampNeg)))) fun I3 => (if in9 (50 + l1) 451 then (if in9 (115 + l1) 451 then (Option.bind (some (up2 I3 206 ((115 + l1).toNatClampNeg) (I3 206 ((50 + l1).toNatClampNeg)))) fun I6 => (if in9 (60 + l1) 451 then (if in9 (125 + l1) 451 then (Option.bind (some (up2 I6 206 ((125 + l1).toNatClampNeg) (I6 206 ((60 + l1).toNatClampNeg)))) fun I9 => (if in9 (145 + l1) 451 then (Option.bind (some (up2 I9 206 ((145 + l1).toNatClampNeg) (-1 : Int32))) fun I11 => (Mod_startSo_25 N n (l1 + 1) I11)) else none)) else none) else none)) else none) else none)) else none) else none)
def Mod_startSo_3 (N : Nat) : Nat → Int32 → FI → Option (FI)
  | 0 => fun _ _ => none
  | n + 1 => fun l1 I => if 451 ≤ l1 then (Mod_startSo_25 N N 0 I) else (if in9 l1 451 then (Option.bind (some (up2 I 206 l1.toNatClampNeg (0 : Int32))) fun I13 => (Mod_startSo_3 N n (l1 + 1) I13)) else none)
def Mod_startSo (N : Nat) (I : FI) : Option (FI) := Mod_startSo_3 N N 102 I
set_option maxRecDepth 8000 in
theorem t_Mod_startSo_25 {d : Nat} {N : Nat} {c : Nat × Nat} {S : Nat → Nat × Nat} {P : Nat → Nat → Option Nat} {r : FI} (hd : 0 ≤ d) (hw : OM S P) : ∀ (n : Nat) (l1 : Int32) (I : FI) (J : FJ), Mod_startSo_25 N n l1 I = some r → Go d M_Mod_startSo 25 [some (.ref 204), some (.int l1)] [] (c, S, I, J, P) (none, false, (c, S, r, J, P)) := by
  intro n
  induction n with
  | zero =>
    intro l1 I J h
    cases h
  | succ n ih =>
    intro l1 I J h
    unfold Mod_startSo_25 at h
    refine g_iload_n cd175_25 rfl rfl ?_
    refine g_bipush cd175_26 rfl ?_
    refine g_icmp_ge cd175_28 rfl (fun hb => ?_) (fun hb => ?_)
    · have h := ifpE hb h
      exact g_vret cd175_102 (by obtain rfl := Option.some.inj h; rfl)
    · have h := ifnE hb h
      refine g_aload_n cd175_31 rfl rfl ?_
      refine g_getP cd175_32 rfl (OM.o hw) (OM.p14 hw) ?_
      refine g_bipush cd175_35 rfl ?_
      refine g_iload_n cd175_37 rfl rfl ?_
      refine g_iadd cd175_38 rfl ?_
      refine g_aload_n cd175_39 rfl rfl ?_
      refine g_getP cd175_40 rfl (OM.o hw) (OM.p14 hw) ?_
      refine g_bipush cd175_43 rfl ?_
      refine g_iload_n cd175_45 rfl rfl ?_
      refine g_iadd cd175_46 rfl ?_
      obtain ⟨hg1, h⟩ := grd h
      refine G_iald cd175_47 rfl (OM.s14 hw) hg1 ?_
      obtain ⟨hg2, h⟩ := grd h
      obtain ⟨I3, e1, h⟩ := bnd h
      refine G_iast cd175_48 rfl (OM.s14 hw) hg2 (Option.some.inj e1) ?_
      refine g_aload_n cd175_49 rfl rfl ?_
      refine g_getP cd175_50 rfl (OM.o hw) (OM.p14 hw) ?_
      refine g_bipush cd175_53 rfl ?_
      refine g_iload_n cd175_55 rfl rfl ?_
      refine g_iadd cd175_56 rfl ?_
      refine g_aload_n cd175_57 rfl rfl ?_
      refine g_getP cd175_58 rfl (OM.o hw) (OM.p14 hw) ?_
      refine g_bipush cd175_61 rfl ?_
      refine g_iload_n cd175_63 rfl rfl ?_
      refine g_iadd cd175_64 rfl ?_
      obtain ⟨hg4, h⟩ := grd h
      refine G_iald cd175_65 rfl (OM.s14 hw) hg4 ?_
      obtain ⟨hg5, h⟩ := grd h
      obtain ⟨I6, e1, h⟩ := bnd h
      refine G_iast cd175_66 rfl (OM.s14 hw) hg5 (Option.some.inj e1) ?_
      refine g_aload_n cd175_67 rfl rfl ?_
      refine g_getP cd175_68 rfl (OM.o hw) (OM.p14 hw) ?_
      refine g_bipush cd175_71 rfl ?_
      refine g_iload_n cd175_73 rfl rfl ?_
      refine g_iadd cd175_74 rfl ?_
      refine g_aload_n cd175_75 rfl rfl ?_
      refine g_getP cd175_76 rfl (OM.o hw) (OM.p14 hw) ?_
      refine g_bipush cd175_79 rfl ?_
      refine g_iload_n cd175_81 rfl rfl ?_
      refine g_iadd cd175_82 rfl ?_
      obtain ⟨hg7, h⟩ := grd h
      refine G_iald cd175_83 rfl (OM.s14 hw) hg7 ?_
      obtain ⟨hg8, h⟩ := grd h
      obtain ⟨I9, e1, h⟩ := bnd h
      refine G_iast cd175_84 rfl (OM.s14 hw) hg8 (Option.some.inj e1) ?_
      refine g_aload_n cd175_85 rfl rfl ?_
      refine g_getP cd175_86 rfl (OM.o hw) (OM.p14 hw) ?_
      refine g_sipush cd175_89 rfl ?_
      refine g_iload_n cd175_92 rfl rfl ?_
      refine g_iadd cd175_93 rfl ?_
      refine g_iconst cd175_94 rfl ?_
      obtain ⟨hg10, h⟩ := grd h
      obtain ⟨I11, e1, h⟩ := bnd h
      refine G_iast cd175_95 rfl (OM.s14 hw) hg10 (Option.some.inj e1) ?_
      refine g_iinc (ls2 := [some (.ref 204), some (.int (l1 + 1))]) cd175_96 rfl rfl rfl ?_
      refine g_goto (ls2 := [some (.ref 204), some (.int (l1 + 1))]) cd175_99 rfl rfl ?_
      exact ih (l1 + 1) I11 J h
set_option maxRecDepth 8000 in
theorem t_Mod_startSo_3 {d : Nat} {N : Nat} {c : Nat × Nat} {S : Nat → Nat × Nat} {P : Nat → Nat → Option Nat} {r : FI} (hd : 0 ≤ d) (hw : OM S P) : ∀ (n : Nat) (l1 : Int32) (I : FI) (J : FJ), Mod_startSo_3 N n l1 I = some r → Go d M_Mod_startSo 3 [some (.ref 204), some (.int l1)] [] (c, S, I, J, P) (none, false, (c, S, r, J, P)) := by
  intro n
  induction n with
  | zero =>
    intro l1 I J h
    cases h
  | succ n ih =>
    intro l1 I J h
    unfold Mod_startSo_3 at h
    refine g_iload_n cd175_3 rfl rfl ?_
    refine g_sipush cd175_4 rfl ?_
    refine g_icmp_ge cd175_7 rfl (fun hb => ?_) (fun hb => ?_)
    · have h := ifpE hb h
      refine g_iconst cd175_23 rfl ?_
      refine g_istore_n (ls2 := [some (.ref 204), some (.int 0)]) cd175_24 rfl rfl ?_
      exact t_Mod_startSo_25 hd hw _ 0 I J h
    · have h := ifnE hb h
      refine g_aload_n cd175_10 rfl rfl ?_
      refine g_getP cd175_11 rfl (OM.o hw) (OM.p14 hw) ?_
      refine g_iload_n cd175_14 rfl rfl ?_
      refine g_iconst cd175_15 rfl ?_
      obtain ⟨hg12, h⟩ := grd h
      obtain ⟨I13, e1, h⟩ := bnd h
      refine G_iast cd175_16 rfl (OM.s14 hw) hg12 (Option.some.inj e1) ?_
      refine g_iinc (ls2 := [some (.ref 204), some (.int (l1 + 1))]) cd175_17 rfl rfl rfl ?_
      refine g_goto (ls2 := [some (.ref 204), some (.int (l1 + 1))]) cd175_20 rfl rfl ?_
      exact ih (l1 + 1) I13 J h
set_option maxRecDepth 8000 in
theorem t_Mod_startSo {d : Nat} {N : Nat} {c : Nat × Nat} {S : Nat → Nat × Nat} {P : Nat → Nat → Option Nat} {I : FI} {J : FJ} {r : FI} (hd : 0 ≤ d) (hw : OM S P) (h : Mod_startSo N I = some r) : Go d M_Mod_startSo 0 [some (.ref 204), none] [] (c, S, I, J, P) (none, false, (c, S, r, J, P)) := by
  unfold Mod_startSo at h
  refine g_bipush cd175_0 rfl ?_
  refine g_istore_n (ls2 := [some (.ref 204), some (.int 102)]) cd175_2 rfl rfl ?_
  exact t_Mod_startSo_3 hd hw _ 102 I J h
/-! HiddenOrLostModel.take()I -/
theorem cd178_0 : code9 178 0 = some (0, .aload_n 0, [1], .null, []) := rfl
theorem cd178_1 : code9 178 1 = some (0, .getfield 11, [3, 12, 2, 0], .null, []) := rfl
theorem cd178_4 : code9 178 4 = some (0, .istore_n 1, [1], .null, []) := rfl
theorem cd178_5 : code9 178 5 = some (0, .aload_n 0, [1], .null, []) := rfl
theorem cd178_6 : code9 178 6 = some (0, .iconst 0, [1], .int 0, []) := rfl
theorem cd178_7 : code9 178 7 = some (0, .putfield 11, [3, 12, 2, 0], .null, []) := rfl
theorem cd178_10 : code9 178 10 = some (0, .iload_n 1, [1], .null, []) := rfl
theorem cd178_11 : code9 178 11 = some (0, .ireturn, [1, 1], .null, []) := rfl
def Mod_take (I : FI) : Option (Int32 × FI) := Option.bind (some (up2 I 204 2 (0 : Int32))) fun I1 => (some (I 204 2, I1))
set_option maxRecDepth 8000 in
theorem t_Mod_take {d : Nat} {c : Nat × Nat} {S : Nat → Nat × Nat} {P : Nat → Nat → Option Nat} {I : FI} {J : FJ} {r : Int32 × FI} (hd : 0 ≤ d) (hw : OM S P) (h : Mod_take I = some r) : Go d M_Mod_take 0 [some (.ref 204), none] [] (c, S, I, J, P) (some (.int r.1), false, (c, S, r.2, J, P)) := by
  unfold Mod_take at h
  refine g_aload_n cd178_0 rfl rfl ?_
  refine g_getI cd178_1 rfl (OM.o hw) ?_
  refine g_istore_n (ls2 := [some (.ref 204), some (.int (I 204 2))]) cd178_4 rfl rfl ?_
  refine g_aload_n cd178_5 rfl rfl ?_
  refine g_iconst cd178_6 rfl ?_
  obtain ⟨I1, e1, h⟩ := bnd h
  refine G_putI cd178_7 rfl (OM.o hw) (Option.some.inj e1) ?_
  refine g_iload_n cd178_10 rfl rfl ?_
  exact g_iret cd178_11 (Or.inl rfl) (by obtain rfl := Option.some.inj h; rfl)
/-! HiddenOrLostModel.isLetter(I)Z -/
theorem cd180_0 : code9 180 0 = some (0, .iload_n 0, [1], .null, []) := rfl
theorem cd180_1 : code9 180 1 = some (0, .bipush 97, [2], .int 97, []) := rfl
theorem cd180_3 : code9 180 3 = some (0, .if_icmp .lt 13, [3, 16], .null, []) := rfl
theorem cd180_6 : code9 180 6 = some (0, .iload_n 0, [1], .null, []) := rfl
theorem cd180_7 : code9 180 7 = some (0, .bipush 122, [2], .int 122, []) := rfl
theorem cd180_9 : code9 180 9 = some (0, .if_icmp .gt 7, [3, 16], .null, []) := rfl
theorem cd180_12 : code9 180 12 = some (0, .iconst 1, [1], .int 1, []) := rfl
theorem cd180_13 : code9 180 13 = some (0, .goto 4, [3, 17, 1], .null, []) := rfl
theorem cd180_16 : code9 180 16 = some (2, .iconst 0, [1], .int 0, []) := rfl
theorem cd180_17 : code9 180 17 = some (2, .ireturn, [1, 3], .null, []) := rfl
def Mod_isLetter (l0 : Int32) : Bool := if l0 < 97 then (false) else (if 122 < l0 then (false) else (true))
set_option maxRecDepth 8000 in
theorem t_Mod_isLetter {d : Nat} {c : Nat × Nat} {S : Nat → Nat × Nat} {P : Nat → Nat → Option Nat} {I : FI} {J : FJ} {l0 : Int32} {r : Bool} (hd : 0 ≤ d) (h : Mod_isLetter l0 = r) : Go d M_Mod_isLetter 0 [some (.int l0)] [] (c, S, I, J, P) (some (.int (b2i r)), false, (c, S, I, J, P)) := by
  unfold Mod_isLetter at h
  refine g_iload_n cd180_0 rfl rfl ?_
  refine g_bipush cd180_1 rfl ?_
  refine g_icmp_lt cd180_3 rfl (fun hb => ?_) (fun hb => ?_)
  · have h := ifpE hb h
    refine g_iconst cd180_16 rfl ?_
    exact g_iret cd180_17 (Or.inr ⟨rfl, Or.inl rfl⟩) (by subst h; rfl)
  · have h := ifnE hb h
    refine g_iload_n cd180_6 rfl rfl ?_
    refine g_bipush cd180_7 rfl ?_
    refine g_icmp_gt cd180_9 rfl (fun hb => ?_) (fun hb => ?_)
    · have h := ifpE hb h
      refine g_iconst cd180_16 rfl ?_
      exact g_iret cd180_17 (Or.inr ⟨rfl, Or.inl rfl⟩) (by subst h; rfl)
    · have h := ifnE hb h
      refine g_iconst cd180_12 rfl ?_
      refine g_goto (ls2 := [some (.int l0)]) cd180_13 rfl rfl ?_
      exact g_iret cd180_17 (Or.inr ⟨rfl, Or.inr rfl⟩) (by subst h; rfl)
/-! HiddenOrLostModel.isDigit(I)Z -/
theorem cd181_0 : code9 181 0 = some (0, .iload_n 0, [1], .null, []) := rfl
theorem cd181_1 : code9 181 1 = some (0, .bipush 48, [2], .int 48, []) := rfl
theorem cd181_3 : code9 181 3 = some (0, .if_icmp .lt 13, [3, 16], .null, []) := rfl
theorem cd181_6 : code9 181 6 = some (0, .iload_n 0, [1], .null, []) := rfl
theorem cd181_7 : code9 181 7 = some (0, .bipush 57, [2], .int 57, []) := rfl
theorem cd181_9 : code9 181 9 = some (0, .if_icmp .gt 7, [3, 16], .null, []) := rfl
theorem cd181_12 : code9 181 12 = some (0, .iconst 1, [1], .int 1, []) := rfl
theorem cd181_13 : code9 181 13 = some (0, .goto 4, [3, 17, 1], .null, []) := rfl
theorem cd181_16 : code9 181 16 = some (2, .iconst 0, [1], .int 0, []) := rfl
theorem cd181_17 : code9 181 17 = some (2, .ireturn, [1, 3], .null, []) := rfl
def Mod_isDigit (l0 : Int32) : Bool := if l0 < 48 then (false) else (if 57 < l0 then (false) else (true))
set_option maxRecDepth 8000 in
theorem t_Mod_isDigit {d : Nat} {c : Nat × Nat} {S : Nat → Nat × Nat} {P : Nat → Nat → Option Nat} {I : FI} {J : FJ} {l0 : Int32} {r : Bool} (hd : 0 ≤ d) (h : Mod_isDigit l0 = r) : Go d M_Mod_isDigit 0 [some (.int l0)] [] (c, S, I, J, P) (some (.int (b2i r)), false, (c, S, I, J, P)) := by
  unfold Mod_isDigit at h
  refine g_iload_n cd181_0 rfl rfl ?_
  refine g_bipush cd181_1 rfl ?_
  refine g_icmp_lt cd181_3 rfl (fun hb => ?_) (fun hb => ?_)
  · have h := ifpE hb h
    refine g_iconst cd181_16 rfl ?_
    exact g_iret cd181_17 (Or.inr ⟨rfl, Or.inl rfl⟩) (by subst h; rfl)
  · have h := ifnE hb h
    refine g_iload_n cd181_6 rfl rfl ?_
    refine g_bipush cd181_7 rfl ?_
    refine g_icmp_gt cd181_9 rfl (fun hb => ?_) (fun hb => ?_)
    · have h := ifpE hb h
      refine g_iconst cd181_16 rfl ?_
      exact g_iret cd181_17 (Or.inr ⟨rfl, Or.inl rfl⟩) (by subst h; rfl)
    · have h := ifnE hb h
      refine g_iconst cd181_12 rfl ?_
      refine g_goto (ls2 := [some (.int l0)]) cd181_13 rfl rfl ?_
      exact g_iret cd181_17 (Or.inr ⟨rfl, Or.inr rfl⟩) (by subst h; rfl)
/-! HiddenOrLostModel.tapeAt(I)I -/
theorem cd182_0 : code9 182 0 = some (0, .iload_n 1, [1], .null, []) := rfl
theorem cd182_1 : code9 182 1 = some (0, .aload_n 0, [1], .null, []) := rfl
theorem cd182_2 : code9 182 2 = some (0, .getfield 18, [3, 12, 3, 0], .null, []) := rfl
theorem cd182_5 : code9 182 5 = some (0, .if_icmp .ge 12, [3, 17], .null, []) := rfl
theorem cd182_8 : code9 182 8 = some (0, .aload_n 0, [1], .null, []) := rfl
theorem cd182_9 : code9 182 9 = some (0, .getfield 7, [3, 12, 1, 2], .null, []) := rfl
theorem cd182_12 : code9 182 12 = some (0, .iload_n 1, [1], .null, []) := rfl
theorem cd182_13 : code9 182 13 = some (0, .iaload, [1], .null, []) := rfl
theorem cd182_14 : code9 182 14 = some (0, .goto 4, [3, 18, 2], .null, []) := rfl
theorem cd182_17 : code9 182 17 = some (0, .iconst 0, [1], .int 0, []) := rfl
theorem cd182_18 : code9 182 18 = some (3, .ireturn, [1, 1], .null, []) := rfl
def Mod_tapeAt (l1 : Int32) (I : FI) : Option (Int32) := if (I 204 3) ≤ l1 then (some 0) else (if in9 l1 940 then (some (I 205 l1.toNatClampNeg)) else none)
set_option maxRecDepth 8000 in
theorem t_Mod_tapeAt {d : Nat} {c : Nat × Nat} {S : Nat → Nat × Nat} {P : Nat → Nat → Option Nat} {I : FI} {J : FJ} {l1 : Int32} {r : Int32} (hd : 0 ≤ d) (hw : OM S P) (h : Mod_tapeAt l1 I = some r) : Go d M_Mod_tapeAt 0 [some (.ref 204), some (.int l1)] [] (c, S, I, J, P) (some (.int r), false, (c, S, I, J, P)) := by
  unfold Mod_tapeAt at h
  refine g_iload_n cd182_0 rfl rfl ?_
  refine g_aload_n cd182_1 rfl rfl ?_
  refine g_getI cd182_2 rfl (OM.o hw) ?_
  refine g_icmp_ge cd182_5 rfl (fun hb => ?_) (fun hb => ?_)
  · have h := ifpE hb h
    refine g_iconst cd182_17 rfl ?_
    exact g_iret cd182_18 (Or.inl rfl) (by obtain rfl := Option.some.inj h; rfl)
  · have h := ifnE hb h
    refine g_aload_n cd182_8 rfl rfl ?_
    refine g_getP cd182_9 rfl (OM.o hw) (OM.p1 hw) ?_
    refine g_iload_n cd182_12 rfl rfl ?_
    obtain ⟨hg1, h⟩ := grd h
    refine G_iald cd182_13 rfl (OM.s1 hw) hg1 ?_
    refine g_goto (ls2 := [some (.ref 204), some (.int l1)]) cd182_14 rfl rfl ?_
    exact g_iret cd182_18 (Or.inl rfl) (by obtain rfl := Option.some.inj h; rfl)
/-! HiddenOrLostModel.go()V -/
theorem cd179_0 : code9 179 0 = some (2, .aload_n 0, [1], .null, []) := rfl
theorem cd179_1 : code9 179 1 = some (0, .getfield 21, [3, 12, 5, 0], .null, []) := rfl
theorem cd179_4 : code9 179 4 = some (0, .aload_n 0, [1], .null, []) := rfl
theorem cd179_5 : code9 179 5 = some (0, .getfield 18, [3, 12, 3, 0], .null, []) := rfl
theorem cd179_8 : code9 179 8 = some (0, .if_icmp .ge 44, [3, 52], .null, []) := rfl
theorem cd179_11 : code9 179 11 = some (0, .aload_n 0, [1], .null, []) := rfl
theorem cd179_12 : code9 179 12 = some (0, .getfield 7, [3, 12, 1, 2], .null, []) := rfl
theorem cd179_15 : code9 179 15 = some (0, .aload_n 0, [1], .null, []) := rfl
theorem cd179_16 : code9 179 16 = some (0, .getfield 21, [3, 12, 5, 0], .null, []) := rfl
theorem cd179_19 : code9 179 19 = some (0, .iaload, [1], .null, []) := rfl
theorem cd179_20 : code9 179 20 = some (0, .bipush 32, [2], .int 32, []) := rfl
theorem cd179_22 : code9 179 22 = some (0, .if_icmp .eq 17, [3, 39], .null, []) := rfl
theorem cd179_25 : code9 179 25 = some (0, .aload_n 0, [1], .null, []) := rfl
theorem cd179_26 : code9 179 26 = some (0, .getfield 7, [3, 12, 1, 2], .null, []) := rfl
theorem cd179_29 : code9 179 29 = some (0, .aload_n 0, [1], .null, []) := rfl
theorem cd179_30 : code9 179 30 = some (0, .getfield 21, [3, 12, 5, 0], .null, []) := rfl
theorem cd179_33 : code9 179 33 = some (0, .iaload, [1], .null, []) := rfl
theorem cd179_34 : code9 179 34 = some (0, .bipush 10, [2], .int 10, []) := rfl
theorem cd179_36 : code9 179 36 = some (0, .if_icmp .ne 16, [3, 52], .null, []) := rfl
theorem cd179_39 : code9 179 39 = some (2, .aload_n 0, [1], .null, []) := rfl
theorem cd179_40 : code9 179 40 = some (0, .dup, [1], .null, []) := rfl
theorem cd179_41 : code9 179 41 = some (0, .getfield 21, [3, 12, 5, 0], .null, []) := rfl
theorem cd179_44 : code9 179 44 = some (0, .iconst 1, [1], .int 1, []) := rfl
theorem cd179_45 : code9 179 45 = some (0, .iadd, [1], .null, []) := rfl
theorem cd179_46 : code9 179 46 = some (0, .putfield 21, [3, 12, 5, 0], .null, []) := rfl
theorem cd179_49 : code9 179 49 = some (0, .goto (-49), [3, 0, 1], .null, []) := rfl
theorem cd179_52 : code9 179 52 = some (2, .aload_n 0, [1], .null, []) := rfl
theorem cd179_53 : code9 179 53 = some (0, .aload_n 0, [1], .null, []) := rfl
theorem cd179_54 : code9 179 54 = some (0, .getfield 21, [3, 12, 5, 0], .null, []) := rfl
theorem cd179_57 : code9 179 57 = some (0, .putfield 24, [3, 12, 6, 0], .null, []) := rfl
theorem cd179_60 : code9 179 60 = some (0, .aload_n 0, [1], .null, []) := rfl
theorem cd179_61 : code9 179 61 = some (0, .getfield 18, [3, 12, 3, 0], .null, []) := rfl
theorem cd179_64 : code9 179 64 = some (0, .aload_n 0, [1], .null, []) := rfl
theorem cd179_65 : code9 179 65 = some (0, .getfield 27, [3, 12, 4, 0], .null, []) := rfl
theorem cd179_68 : code9 179 68 = some (0, .if_icmp .le 28, [3, 96], .null, []) := rfl
theorem cd179_71 : code9 179 71 = some (0, .aload_n 0, [1], .null, []) := rfl
theorem cd179_72 : code9 179 72 = some (0, .getfield 24, [3, 12, 6, 0], .null, []) := rfl
theorem cd179_75 : code9 179 75 = some (0, .aload_n 0, [1], .null, []) := rfl
theorem cd179_76 : code9 179 76 = some (0, .getfield 27, [3, 12, 4, 0], .null, []) := rfl
theorem cd179_79 : code9 179 79 = some (0, .if_icmp .lt 17, [3, 96], .null, []) := rfl
theorem cd179_82 : code9 179 82 = some (0, .aload_n 0, [1], .null, []) := rfl
theorem cd179_83 : code9 179 83 = some (0, .aload_n 0, [1], .null, []) := rfl
theorem cd179_84 : code9 179 84 = some (0, .getfield 27, [3, 12, 4, 0], .null, []) := rfl
theorem cd179_87 : code9 179 87 = some (0, .putfield 24, [3, 12, 6, 0], .null, []) := rfl
theorem cd179_90 : code9 179 90 = some (0, .aload_n 0, [1], .null, []) := rfl
theorem cd179_91 : code9 179 91 = some (0, .iconst 1, [1], .int 1, []) := rfl
theorem cd179_92 : code9 179 92 = some (0, .putfield 30, [3, 12, 7, 0], .null, []) := rfl
theorem cd179_95 : code9 179 95 = some (0, .return_, [1], .null, []) := rfl
theorem cd179_96 : code9 179 96 = some (2, .aload_n 0, [1], .null, []) := rfl
theorem cd179_97 : code9 179 97 = some (0, .getfield 21, [3, 12, 5, 0], .null, []) := rfl
theorem cd179_100 : code9 179 100 = some (0, .aload_n 0, [1], .null, []) := rfl
theorem cd179_101 : code9 179 101 = some (0, .getfield 18, [3, 12, 3, 0], .null, []) := rfl
theorem cd179_104 : code9 179 104 = some (0, .if_icmp .lt 9, [3, 113], .null, []) := rfl
theorem cd179_107 : code9 179 107 = some (0, .aload_n 0, [1], .null, []) := rfl
theorem cd179_108 : code9 179 108 = some (0, .iconst 0, [1], .int 0, []) := rfl
theorem cd179_109 : code9 179 109 = some (0, .putfield 30, [3, 12, 7, 0], .null, []) := rfl
theorem cd179_112 : code9 179 112 = some (0, .return_, [1], .null, []) := rfl
theorem cd179_113 : code9 179 113 = some (0, .aload_n 0, [1], .null, []) := rfl
theorem cd179_114 : code9 179 114 = some (0, .getfield 7, [3, 12, 1, 2], .null, []) := rfl
theorem cd179_117 : code9 179 117 = some (0, .aload_n 0, [1], .null, []) := rfl
theorem cd179_118 : code9 179 118 = some (0, .getfield 21, [3, 12, 5, 0], .null, []) := rfl
theorem cd179_121 : code9 179 121 = some (0, .iaload, [1], .null, []) := rfl
theorem cd179_122 : code9 179 122 = some (0, .istore_n 1, [1], .null, []) := rfl
theorem cd179_123 : code9 179 123 = some (0, .iload_n 1, [1], .null, []) := rfl
theorem cd179_124 : code9 179 124 = some (0, .invokestatic 33, [3, 180, 1, 0, 3, 1, 12, 0], .null, []) := rfl
theorem cd179_127 : code9 179 127 = some (0, .ifCond .ne 71, [3, 198], .null, []) := rfl
theorem cd179_130 : code9 179 130 = some (0, .iload_n 1, [1], .null, []) := rfl
theorem cd179_131 : code9 179 131 = some (0, .invokestatic 37, [3, 181, 1, 0, 3, 1, 12, 0], .null, []) := rfl
theorem cd179_134 : code9 179 134 = some (0, .ifCond .ne 64, [3, 198], .null, []) := rfl
theorem cd179_137 : code9 179 137 = some (0, .aload_n 0, [1], .null, []) := rfl
theorem cd179_138 : code9 179 138 = some (0, .iload_n 1, [1], .null, []) := rfl
theorem cd179_139 : code9 179 139 = some (0, .bipush 59, [2], .int 59, []) := rfl
theorem cd179_141 : code9 179 141 = some (0, .if_icmp .eq 33, [3, 174], .null, []) := rfl
theorem cd179_144 : code9 179 144 = some (0, .iload_n 1, [1], .null, []) := rfl
theorem cd179_145 : code9 179 145 = some (0, .bipush 60, [2], .int 60, []) := rfl
theorem cd179_147 : code9 179 147 = some (0, .if_icmp .eq 27, [3, 174], .null, []) := rfl
theorem cd179_150 : code9 179 150 = some (0, .iload_n 1, [1], .null, []) := rfl
theorem cd179_151 : code9 179 151 = some (0, .bipush 61, [2], .int 61, []) := rfl
theorem cd179_153 : code9 179 153 = some (0, .if_icmp .eq 21, [3, 174], .null, []) := rfl
theorem cd179_156 : code9 179 156 = some (0, .iload_n 1, [1], .null, []) := rfl
theorem cd179_157 : code9 179 157 = some (0, .bipush 62, [2], .int 62, []) := rfl
theorem cd179_159 : code9 179 159 = some (0, .if_icmp .eq 15, [3, 174], .null, []) := rfl
theorem cd179_162 : code9 179 162 = some (0, .iload_n 1, [1], .null, []) := rfl
theorem cd179_163 : code9 179 163 = some (0, .bipush 40, [2], .int 40, []) := rfl
theorem cd179_165 : code9 179 165 = some (0, .if_icmp .eq 9, [3, 174], .null, []) := rfl
theorem cd179_168 : code9 179 168 = some (0, .iload_n 1, [1], .null, []) := rfl
theorem cd179_169 : code9 179 169 = some (0, .bipush 41, [2], .int 41, []) := rfl
theorem cd179_171 : code9 179 171 = some (0, .if_icmp .ne 7, [3, 178], .null, []) := rfl
theorem cd179_174 : code9 179 174 = some (3, .iconst 4, [1], .int 4, []) := rfl
theorem cd179_175 : code9 179 175 = some (0, .goto 4, [3, 179, 2], .null, []) := rfl
theorem cd179_178 : code9 179 178 = some (0, .iconst 1, [1], .int 1, []) := rfl
theorem cd179_179 : code9 179 179 = some (3, .putfield 30, [3, 12, 7, 0], .null, []) := rfl
theorem cd179_182 : code9 179 182 = some (0, .aload_n 0, [1], .null, []) := rfl
theorem cd179_183 : code9 179 183 = some (0, .iload_n 1, [1], .null, []) := rfl
theorem cd179_184 : code9 179 184 = some (0, .putfield 40, [3, 12, 9, 0], .null, []) := rfl
theorem cd179_187 : code9 179 187 = some (0, .aload_n 0, [1], .null, []) := rfl
theorem cd179_188 : code9 179 188 = some (0, .dup, [1], .null, []) := rfl
theorem cd179_189 : code9 179 189 = some (0, .getfield 21, [3, 12, 5, 0], .null, []) := rfl
theorem cd179_192 : code9 179 192 = some (0, .iconst 1, [1], .int 1, []) := rfl
theorem cd179_193 : code9 179 193 = some (0, .iadd, [1], .null, []) := rfl
theorem cd179_194 : code9 179 194 = some (0, .putfield 21, [3, 12, 5, 0], .null, []) := rfl
theorem cd179_197 : code9 179 197 = some (0, .return_, [1], .null, []) := rfl
theorem cd179_198 : code9 179 198 = some (3, .iload_n 1, [1], .null, []) := rfl
theorem cd179_199 : code9 179 199 = some (0, .invokestatic 33, [3, 180, 1, 0, 3, 1, 12, 0], .null, []) := rfl
theorem cd179_202 : code9 179 202 = some (0, .istore_n 2, [1], .null, []) := rfl
theorem cd179_203 : code9 179 203 = some (0, .iconst 1, [1], .int 1, []) := rfl
theorem cd179_204 : code9 179 204 = some (0, .istore_n 3, [1], .null, []) := rfl
theorem cd179_205 : code9 179 205 = some (0, .aload_n 0, [1], .null, []) := rfl
theorem cd179_206 : code9 179 206 = some (0, .lconst 0, [1], .long 0, []) := rfl
theorem cd179_207 : code9 179 207 = some (0, .putfield 43, [3, 12, 12, 1], .null, []) := rfl
theorem cd179_210 : code9 179 210 = some (0, .aload_n 0, [1], .null, []) := rfl
theorem cd179_211 : code9 179 211 = some (0, .iconst 0, [1], .int 0, []) := rfl
theorem cd179_212 : code9 179 212 = some (0, .putfield 47, [3, 12, 8, 0], .null, []) := rfl
theorem cd179_215 : code9 179 215 = some (5, .aload_n 0, [1], .null, []) := rfl
theorem cd179_216 : code9 179 216 = some (0, .aload_n 0, [1], .null, []) := rfl
theorem cd179_217 : code9 179 217 = some (0, .getfield 21, [3, 12, 5, 0], .null, []) := rfl
theorem cd179_220 : code9 179 220 = some (0, .invokevirtual 50, [3, 182, 2, 1, 1, 2, 12, 0], .null, []) := rfl
theorem cd179_223 : code9 179 223 = some (0, .invokestatic 33, [3, 180, 1, 0, 3, 1, 12, 0], .null, []) := rfl
theorem cd179_226 : code9 179 226 = some (0, .ifCond .ne 17, [3, 243], .null, []) := rfl
theorem cd179_229 : code9 179 229 = some (0, .aload_n 0, [1], .null, []) := rfl
theorem cd179_230 : code9 179 230 = some (0, .aload_n 0, [1], .null, []) := rfl
theorem cd179_231 : code9 179 231 = some (0, .getfield 21, [3, 12, 5, 0], .null, []) := rfl
theorem cd179_234 : code9 179 234 = some (0, .invokevirtual 50, [3, 182, 2, 1, 1, 2, 12, 0], .null, []) := rfl
theorem cd179_237 : code9 179 237 = some (0, .invokestatic 37, [3, 181, 1, 0, 3, 1, 12, 0], .null, []) := rfl
theorem cd179_240 : code9 179 240 = some (0, .ifCond .eq 110, [3, 350], .null, []) := rfl
theorem cd179_243 : code9 179 243 = some (5, .aload_n 0, [1], .null, []) := rfl
theorem cd179_244 : code9 179 244 = some (0, .getfield 7, [3, 12, 1, 2], .null, []) := rfl
theorem cd179_247 : code9 179 247 = some (0, .aload_n 0, [1], .null, []) := rfl
theorem cd179_248 : code9 179 248 = some (0, .getfield 21, [3, 12, 5, 0], .null, []) := rfl
theorem cd179_251 : code9 179 251 = some (0, .iaload, [1], .null, []) := rfl
theorem cd179_252 : code9 179 252 = some (0, .istore 4, [2], .null, []) := rfl
theorem cd179_254 : code9 179 254 = some (0, .iload_n 3, [1], .null, []) := rfl
theorem cd179_255 : code9 179 255 = some (0, .ifCond .eq 16, [3, 271], .null, []) := rfl
theorem cd179_258 : code9 179 258 = some (0, .iload 4, [2], .null, []) := rfl
theorem cd179_260 : code9 179 260 = some (0, .invokestatic 33, [3, 180, 1, 0, 3, 1, 12, 0], .null, []) := rfl
theorem cd179_263 : code9 179 263 = some (0, .iload_n 2, [1], .null, []) := rfl
theorem cd179_264 : code9 179 264 = some (0, .if_icmp .ne 7, [3, 271], .null, []) := rfl
theorem cd179_267 : code9 179 267 = some (0, .iconst 1, [1], .int 1, []) := rfl
theorem cd179_268 : code9 179 268 = some (0, .goto 4, [3, 272, 5], .null, []) := rfl
theorem cd179_271 : code9 179 271 = some (6, .iconst 0, [1], .int 0, []) := rfl
theorem cd179_272 : code9 179 272 = some (6, .istore_n 3, [1], .null, []) := rfl
theorem cd179_273 : code9 179 273 = some (0, .aload_n 0, [1], .null, []) := rfl
theorem cd179_274 : code9 179 274 = some (0, .getfield 21, [3, 12, 5, 0], .null, []) := rfl
theorem cd179_277 : code9 179 277 = some (0, .aload_n 0, [1], .null, []) := rfl
theorem cd179_278 : code9 179 278 = some (0, .getfield 24, [3, 12, 6, 0], .null, []) := rfl
theorem cd179_281 : code9 179 281 = some (0, .isub, [1], .null, []) := rfl
theorem cd179_282 : code9 179 282 = some (0, .bipush 7, [2], .int 7, []) := rfl
theorem cd179_284 : code9 179 284 = some (0, .if_icmp .ge 23, [3, 307], .null, []) := rfl
theorem cd179_287 : code9 179 287 = some (0, .aload_n 0, [1], .null, []) := rfl
theorem cd179_288 : code9 179 288 = some (0, .ldc2_w 54, [3], .long 27, []) := rfl
theorem cd179_291 : code9 179 291 = some (0, .aload_n 0, [1], .null, []) := rfl
theorem cd179_292 : code9 179 292 = some (0, .getfield 43, [3, 12, 12, 1], .null, []) := rfl
theorem cd179_295 : code9 179 295 = some (0, .lmul, [1], .null, []) := rfl
theorem cd179_296 : code9 179 296 = some (0, .iload 4, [2], .null, []) := rfl
theorem cd179_298 : code9 179 298 = some (0, .i2l, [1], .null, []) := rfl
theorem cd179_299 : code9 179 299 = some (0, .ladd, [1], .null, []) := rfl
theorem cd179_300 : code9 179 300 = some (0, .ldc2_w 56, [3], .long 96, []) := rfl
theorem cd179_303 : code9 179 303 = some (0, .lsub, [1], .null, []) := rfl
theorem cd179_304 : code9 179 304 = some (0, .putfield 43, [3, 12, 12, 1], .null, []) := rfl
theorem cd179_307 : code9 179 307 = some (6, .aload_n 0, [1], .null, []) := rfl
theorem cd179_308 : code9 179 308 = some (0, .getfield 21, [3, 12, 5, 0], .null, []) := rfl
theorem cd179_311 : code9 179 311 = some (0, .aload_n 0, [1], .null, []) := rfl
theorem cd179_312 : code9 179 312 = some (0, .getfield 24, [3, 12, 6, 0], .null, []) := rfl
theorem cd179_315 : code9 179 315 = some (0, .isub, [1], .null, []) := rfl
theorem cd179_316 : code9 179 316 = some (0, .iconst 3, [1], .int 3, []) := rfl
theorem cd179_317 : code9 179 317 = some (0, .if_icmp .ge 20, [3, 337], .null, []) := rfl
theorem cd179_320 : code9 179 320 = some (0, .aload_n 0, [1], .null, []) := rfl
theorem cd179_321 : code9 179 321 = some (0, .bipush 10, [2], .int 10, []) := rfl
theorem cd179_323 : code9 179 323 = some (0, .aload_n 0, [1], .null, []) := rfl
theorem cd179_324 : code9 179 324 = some (0, .getfield 47, [3, 12, 8, 0], .null, []) := rfl
theorem cd179_327 : code9 179 327 = some (0, .imul, [1], .null, []) := rfl
theorem cd179_328 : code9 179 328 = some (0, .iload 4, [2], .null, []) := rfl
theorem cd179_330 : code9 179 330 = some (0, .iadd, [1], .null, []) := rfl
theorem cd179_331 : code9 179 331 = some (0, .bipush 48, [2], .int 48, []) := rfl
theorem cd179_333 : code9 179 333 = some (0, .isub, [1], .null, []) := rfl
theorem cd179_334 : code9 179 334 = some (0, .putfield 47, [3, 12, 8, 0], .null, []) := rfl
theorem cd179_337 : code9 179 337 = some (6, .aload_n 0, [1], .null, []) := rfl
theorem cd179_338 : code9 179 338 = some (0, .dup, [1], .null, []) := rfl
theorem cd179_339 : code9 179 339 = some (0, .getfield 21, [3, 12, 5, 0], .null, []) := rfl
theorem cd179_342 : code9 179 342 = some (0, .iconst 1, [1], .int 1, []) := rfl
theorem cd179_343 : code9 179 343 = some (0, .iadd, [1], .null, []) := rfl
theorem cd179_344 : code9 179 344 = some (0, .putfield 21, [3, 12, 5, 0], .null, []) := rfl
theorem cd179_347 : code9 179 347 = some (0, .goto (-132), [3, 215, 4], .null, []) := rfl
theorem cd179_350 : code9 179 350 = some (0, .aload_n 0, [1], .null, []) := rfl
theorem cd179_351 : code9 179 351 = some (0, .iload_n 3, [1], .null, []) := rfl
theorem cd179_352 : code9 179 352 = some (0, .ifCond .eq 25, [3, 377], .null, []) := rfl
theorem cd179_355 : code9 179 355 = some (0, .aload_n 0, [1], .null, []) := rfl
theorem cd179_356 : code9 179 356 = some (0, .getfield 21, [3, 12, 5, 0], .null, []) := rfl
theorem cd179_359 : code9 179 359 = some (0, .aload_n 0, [1], .null, []) := rfl
theorem cd179_360 : code9 179 360 = some (0, .getfield 24, [3, 12, 6, 0], .null, []) := rfl
theorem cd179_363 : code9 179 363 = some (0, .isub, [1], .null, []) := rfl
theorem cd179_364 : code9 179 364 = some (0, .iload_n 2, [1], .null, []) := rfl
theorem cd179_365 : code9 179 365 = some (0, .ifCond .eq 8, [3, 373], .null, []) := rfl
theorem cd179_368 : code9 179 368 = some (0, .bipush 7, [2], .int 7, []) := rfl
theorem cd179_370 : code9 179 370 = some (0, .goto 4, [3, 374, 4], .null, []) := rfl
theorem cd179_373 : code9 179 373 = some (0, .iconst 3, [1], .int 3, []) := rfl
theorem cd179_374 : code9 179 374 = some (5, .if_icmp .le 7, [3, 381], .null, []) := rfl
theorem cd179_377 : code9 179 377 = some (5, .iconst 1, [1], .int 1, []) := rfl
theorem cd179_378 : code9 179 378 = some (0, .goto 12, [3, 390, 4], .null, []) := rfl
theorem cd179_381 : code9 179 381 = some (0, .iload_n 2, [1], .null, []) := rfl
theorem cd179_382 : code9 179 382 = some (0, .ifCond .eq 7, [3, 389], .null, []) := rfl
theorem cd179_385 : code9 179 385 = some (0, .iconst 2, [1], .int 2, []) := rfl
theorem cd179_386 : code9 179 386 = some (0, .goto 4, [3, 390, 4], .null, []) := rfl
theorem cd179_389 : code9 179 389 = some (0, .iconst 3, [1], .int 3, []) := rfl
theorem cd179_390 : code9 179 390 = some (5, .putfield 30, [3, 12, 7, 0], .null, []) := rfl
theorem cd179_393 : code9 179 393 = some (0, .return_, [1], .null, []) := rfl
def Mod_go_215 (N : Nat) : Nat → Int32 → Int32 → Int32 → FI → FJ → Option (FI × FJ)
  | 0 => fun _ _ _ _ _ => none
  | n + 1 => fun l1 l2 l3 I J => Option.bind (Mod_tapeAt (I 204 5) I) fun x26 => (if (Mod_isLetter x26) then (if in9 (I 204 5) 940 then (if l3 = 0 then (if 7 ≤ ((I 204 5) - (I 204 6)) then (if 3 ≤ ((I 204 5) - (I 204 6)) then (Option.bind (some (up2 I 204 5 ((I 204 5) + 1))) fun I58 => (Mod_go_215 N n l1 l2 0 I58 J)) else (Option.bind (some (up2 I 204 8 (((10 * (I 204 8)) + (I 205 ((I 204 5).toNatClampNeg))) - 48))) fun I59 => (Option.bind (some (up2 I59 204 5 ((I59 204 5) + 1))) fun I60 => (Mod_go_215 N n l1 l2 0 I60 J)))) else (Option.bind (some (up2 J 204 12 (((27 * (J 204 12)) + ((I 205 ((I 204 5).toNatClampNeg)).toInt64)) - 96))) fun J61 => (if 3 ≤ ((I 204 5) - (I 204 6)) then (Option.bind (some (up2 I 204 5 ((I 204 5) + 1))) fun I62 => (Mod_go_215 N n l1 l2 0 I62 J61)) else (Option.bind (some (up2 I 204 8 (((10 * (I 204 8)) + (I 205 ((I 204 5).toNatClampNeg))) - 48))) fun I63 => (Option.bind (some (up2 I63 204 5 ((I63 204 5) + 1))) fun I64 => (Mod_go_215 N n l1 l2 0 I64 J61)))))) else (if (b2i (Mod_isLetter (I 205 ((I 204 5).toNatClampNeg)))) = l2 then (if 7 ≤ ((I 204 5) - (I 204 6)) then (if 3 ≤ ((I 204 5) - (I 204 6)) then (Option.bind (some (up2 I 204 5 ((I 204 5) + 1))) fun I65 => (Mod_go_215 N n l1 l2 1 I65 J)) else (Option.bind (some (up2 I 204 8 (((10 * (I 204 8)) + (I 205 ((I 204 5).toNatClampNeg))) - 48))) fun I66 => (Option.bind (some (up2 I66 204 5 ((I66 204 5) + 1))) fun I67 => (Mod_go_215 N n l1 l2 1 I67 J)))) else (Option.bind (some (up2 J 204 12 (((27 * (J 204 12)) + ((I 205 ((I 204 5).toNatClampNeg)).toInt64)) - 96))) fun J68 => (if 3 ≤ ((I 204 5) - (I 204 6)) then (Option.bind (some (up2 I 204 5 ((I 204 5) + 1))) fun I69 => (Mod_go_215 N n l1 l2 1 I69 J68)) else (Option.bind (some (up2 I 204 8 (((10 * (I 204 8)) + (I 205 ((I 204 5).toNatClampNeg))) - 48))) fun I70 => (Option.bind (some (up2 I70 204 5 ((I70 204 5) + 1))) fun I71 => (Mod_go_215 N n l1 l2 1 I71 J68)))))) else (if 7 ≤ ((I 204 5) - (I 204 6)) then (if 3 ≤ ((I 204 5) - (I 204 6)) then (Option.bind (some (up2 I 204 5 ((I 204 5) + 1))) fun I72 => (Mod_go_215 N n l1 l2 0 I72 J)) else (Option.bind (some (up2 I 204 8 (((10 * (I 204 8)) + (I 205 ((I 204 5).toNatClampNeg))) - 48))) fun I73 => (Option.bind (some (up2 I73 204 5 ((I73 204 5) + 1))) fun I74 => (Mod_go_215 N n l1 l2 0 I74 J)))) else (Option.bind (some (up2 J 204 12 (((27 * (J 204 12)) + ((I 205 ((I 204 5).toNatClampNeg)).toInt64)) - 96))) fun J75 => (if 3 ≤ ((I 204 5) - (I 204 6)) then (Option.bind (some (up2 I 204 5 ((I 204 5) + 1))) fun I76 => (Mod_go_215 N n l1 l2 0 I76 J75)) else (Option.bind (some (up2 I 204 8 (((10 * (I 204 8)) + (I 205 ((I 204 5).toNatClampNeg))) - 48))) fun I77 => (Option.bind (some (up2 I77 204 5 ((I77 204 5) + 1))) fun I78 => (Mod_go_215 N n l1 l2 0 I78 J75)))))))) else none) else (Option.bind (Mod_tapeAt (I 204 5) I) fun x27 => (if (Mod_isDigit x27) then (if in9 (I 204 5) 940 then (if l3 = 0 then (if 7 ≤ ((I 204 5) - (I 204 6)) then (if 3 ≤ ((I 204 5) - (I 204 6)) then (Option.bind (some (up2 I 204 5 ((I 204 5) + 1))) fun I36 => (Mod_go_215 N n l1 l2 0 I36 J)) else (Option.bind (some (up2 I 204 8 (((10 * (I 204 8)) + (I 205 ((I 204 5).toNatClampNeg))) - 48))) fun I37 => (Option.bind (some (up2 I37 204 5 ((I37 204 5) + 1))) fun I38 => (Mod_go_215 N n l1 l2 0 I38 J)))) else (Option.bind (some (up2 J 204 12 (((27 * (J 204 12)) + ((I 205 ((I 204 5).toNatClampNeg)).toInt64)) - 96))) fun J39 => (if 3 ≤ ((I 204 5) - (I 204 6)) then (Option.bind (some (up2 I 204 5 ((I 204 5) + 1))) fun I40 => (Mod_go_215 N n l1 l2 0 I40 J39)) else (Option.bind (some (up2 I 204 8 (((10 * (I 204 8)) + (I 205 ((I 204 5).toNatClampNeg))) - 48))) fun I41 => (Option.bind (some (up2 I41 204 5 ((I41 204 5) + 1))) fun I42 => (Mod_go_215 N n l1 l2 0 I42 J39)))))) else (if (b2i (Mod_isLetter (I 205 ((I 204 5).toNatClampNeg)))) = l2 then (if 7 ≤ ((I 204 5) - (I 204 6)) then (if 3 ≤ ((I 204 5) - (I 204 6)) then (Option.bind (some (up2 I 204 5 ((I 204 5) + 1))) fun I43 => (Mod_go_215 N n l1 l2 1 I43 J)) else (Option.bind (some (up2 I 204 8 (((10 * (I 204 8)) + (I 205 ((I 204 5).toNatClampNeg))) - 48))) fun I44 => (Option.bind (some (up2 I44 204 5 ((I44 204 5) + 1))) fun I45 => (Mod_go_215 N n l1 l2 1 I45 J)))) else (Option.bind (some (up2 J 204 12 (((27 * (J 204 12)) + ((I 205 ((I 204 5).toNatClampNeg)).toInt64)) - 96))) fun J46 => (if 3 ≤ ((I 204 5) - (I 204 6)) then (Option.bind (some (up2 I 204 5 ((I 204 5) + 1))) fun I47 => (Mod_go_215 N n l1 l2 1 I47 J46)) else (Option.bind (some (up2 I 204 8 (((10 * (I 204 8)) + (I 205 ((I 204 5).toNatClampNeg))) - 48))) fun I48 => (Option.bind (some (up2 I48 204 5 ((I48 204 5) + 1))) fun I49 => (Mod_go_215 N n l1 l2 1 I49 J46)))))) else (if 7 ≤ ((I 204 5) - (I 204 6)) then (if 3 ≤ ((I 204 5) - (I 204 6)) then (Option.bind (some (up2 I 204 5 ((I 204 5) + 1))) fun I50 => (Mod_go_215 N n l1 l2 0 I50 J)) else (Option.bind (some (up2 I 204 8 (((10 * (I 204 8)) + (I 205 ((I 204 5).toNatClampNeg))) - 48))) fun I51 => (Option.bind (some (up2 I51 204 5 ((I51 204 5) + 1))) fun I52 => (Mod_go_215 N n l1 l2 0 I52 J)))) else (Option.bind (some (up2 J 204 12 (((27 * (J 204 12)) + ((I 205 ((I 204 5).toNatClampNeg)).toInt64)) - 96))) fun J53 => (if 3 ≤ ((I 204 5) - (I 204 6)) then (Option.bind (some (up2 I 204 5 ((I 204 5) + 1))) fun I54 => (Mod_go_215 N n l1 l2 0 I54 J53)) else (Option.bind (some (up2 I 204 8 (((10 * (I 204 8)) + (I 205 ((I 204 5).toNatClampNeg))) - 48))) fun I55 => (Option.bind (some (up2 I55 204 5 ((I55 204 5) + 1))) fun I56 => (Mod_go_215 N n l1 l2 0 I56 J53)))))))) else none) else (if l3 = 0 then (Option.bind (some (up2 I 204 7 (1 : Int32))) fun I28 => (some (I28, J))) else (if l2 = 0 then (if ((I 204 5) - (I 204 6)) ≤ 3 then (if l2 = 0 then (Option.bind (some (up2 I 204 7 (3 : Int32))) fun I29 => (some (I29, J))) else (Option.bind (some (up2 I 204 7 (2 : Int32))) fun I30 => (some (I30, J)))) else (Option.bind (some (up2 I 204 7 (1 : Int32))) fun I31 => (some (I31, J)))) else (if ((I 204 5) - (I 204 6)) ≤ 7 then (if l2 = 0 then (Option.bind (some (up2 I 204 7 (3 : Int32))) fun I32 => (some (I32, J))) else (Option.bind (some (up2 I 204 7 (2 : Int32))) fun I33 => (some (I33, J)))) else (Option.bind (some (up2 I 204 7 (1 : Int32))) fun I34 => (some (I34, J)))))))))
def Mod_go_0 (N : Nat) : Nat → FI → FJ → Option (FI × FJ)
  | 0 => fun _ _ => none
  | n + 1 => fun I J => if (I 204 3) ≤ (I 204 5) then (Option.bind (some (up2 I 204 6 (I 204 5))) fun I113 => (if (I113 204 3) ≤ (I113 204 4) then (if (I113 204 5) < (I113 204 3) then (if in9 (I113 204 5) 940 then (if (Mod_isLetter (I113 205 ((I113 204 5).toNatClampNeg))) then (Option.bind (some (up2 J 204 12 (0 : Int64))) fun J138 => (Option.bind (some (up2 I113 204 8 (0 : Int32))) fun I139 => (Mod_go_215 N N (I113 205 ((I113 204 5).toNatClampNeg)) (b2i (Mod_isLetter (I113 205 ((I113 204 5).toNatClampNeg)))) 1 I139 J138))) else (if (Mod_isDigit (I113 205 ((I113 204 5).toNatClampNeg))) then (Option.bind (some (up2 J 204 12 (0 : Int64))) fun J136 => (Option.bind (some (up2 I113 204 8 (0 : Int32))) fun I137 => (Mod_go_215 N N (I113 205 ((I113 204 5).toNatClampNeg)) (b2i (Mod_isLetter (I113 205 ((I113 204 5).toNatClampNeg)))) 1 I137 J136))) else (if (I113 205 ((I113 204 5).toNatClampNeg)) = 59 then (Option.bind (some (up2 I113 204 7 (4 : Int32))) fun I115 => (Option.bind (some (up2 I115 204 9 (I113 205 ((I113 204 5).toNatClampNeg)))) fun I116 => (Option.bind (some (up2 I116 204 5 ((I116 204 5) + 1))) fun I117 => (some (I117, J))))) else (if (I113 205 ((I113 204 5).toNatClampNeg)) = 60 then (Option.bind (some (up2 I113 204 7 (4 : Int32))) fun I118 => (Option.bind (some (up2 I118 204 9 (I113 205 ((I113 204 5).toNatClampNeg)))) fun I119 => (Option.bind (some (up2 I119 204 5 ((I119 204 5) + 1))) fun I120 => (some (I120, J))))) else (if (I113 205 ((I113 204 5).toNatClampNeg)) = 61 then (Option.bind (some (up2 I113 204 7 (4 : Int32))) fun I121 => (Option.bind (some (up2 I121 204 9 (I113 205 ((I113 204 5).toNatClampNeg)))) fun I122 => (Option.bind (some (up2 I122 204 5 ((I122 204 5) + 1))) fun I123 => (some (I123, J))))) else (if (I113 205 ((I113 204 5).toNatClampNeg)) = 62 then (Option.bind (some (up2 I113 204 7 (4 : Int32))) fun I124 => (Option.bind (some (up2 I124 204 9 (I113 205 ((I113 204 5).toNatClampNeg)))) fun I125 => (Option.bind (some (up2 I125 204 5 ((I125 204 5) + 1))) fun I126 => (some (I126, J))))) else (if (I113 205 ((I113 204 5).toNatClampNeg)) = 40 then (Option.bind (some (up2 I113 204 7 (4 : Int32))) fun I127 => (Option.bind (some (up2 I127 204 9 (I113 205 ((I113 204 5).toNatClampNeg)))) fun I128 => (Option.bind (some (up2 I128 204 5 ((I128 204 5) + 1))) fun I129 => (some (I129, J))))) else (if (I113 205 ((I113 204 5).toNatClampNeg)) = 41 then (Option.bind (some (up2 I113 204 7 (4 : Int32))) fun I130 => (Option.bind (some (up2 I130 204 9 (I113 205 ((I113 204 5).toNatClampNeg)))) fun I131 => (Option.bind (some (up2 I131 204 5 ((I131 204 5) + 1))) fun I132 => (some (I132, J))))) else (Option.bind (some (up2 I113 204 7 (1 : Int32))) fun I133 => (Option.bind (some (up2 I133 204 9 (I113 205 ((I113 204 5).toNatClampNeg)))) fun I134 => (Option.bind (some (up2 I134 204 5 ((I134 204 5) + 1))) fun I135 => (some (I135, J))))))))))))) else none) else (Option.bind (some (up2 I113 204 7 (0 : Int32))) fun I140 => (some (I140, J)))) else (if (I113 204 6) < (I113 204 4) then (if (I113 204 5) < (I113 204 3) then (if in9 (I113 204 5) 940 then (if (Mod_isLetter (I113 205 ((I113 204 5).toNatClampNeg))) then (Option.bind (some (up2 J 204 12 (0 : Int64))) fun J165 => (Option.bind (some (up2 I113 204 8 (0 : Int32))) fun I166 => (Mod_go_215 N N (I113 205 ((I113 204 5).toNatClampNeg)) (b2i (Mod_isLetter (I113 205 ((I113 204 5).toNatClampNeg)))) 1 I166 J165))) else (if (Mod_isDigit (I113 205 ((I113 204 5).toNatClampNeg))) then (Option.bind (some (up2 J 204 12 (0 : Int64))) fun J163 => (Option.bind (some (up2 I113 204 8 (0 : Int32))) fun I164 => (Mod_go_215 N N (I113 205 ((I113 204 5).toNatClampNeg)) (b2i (Mod_isLetter (I113 205 ((I113 204 5).toNatClampNeg)))) 1 I164 J163))) else (if (I113 205 ((I113 204 5).toNatClampNeg)) = 59 then (Option.bind (some (up2 I113 204 7 (4 : Int32))) fun I142 => (Option.bind (some (up2 I142 204 9 (I113 205 ((I113 204 5).toNatClampNeg)))) fun I143 => (Option.bind (some (up2 I143 204 5 ((I143 204 5) + 1))) fun I144 => (some (I144, J))))) else (if (I113 205 ((I113 204 5).toNatClampNeg)) = 60 then (Option.bind (some (up2 I113 204 7 (4 : Int32))) fun I145 => (Option.bind (some (up2 I145 204 9 (I113 205 ((I113 204 5).toNatClampNeg)))) fun I146 => (Option.bind (some (up2 I146 204 5 ((I146 204 5) + 1))) fun I147 => (some (I147, J))))) else (if (I113 205 ((I113 204 5).toNatClampNeg)) = 61 then (Option.bind (some (up2 I113 204 7 (4 : Int32))) fun I148 => (Option.bind (some (up2 I148 204 9 (I113 205 ((I113 204 5).toNatClampNeg)))) fun I149 => (Option.bind (some (up2 I149 204 5 ((I149 204 5) + 1))) fun I150 => (some (I150, J))))) else (if (I113 205 ((I113 204 5).toNatClampNeg)) = 62 then (Option.bind (some (up2 I113 204 7 (4 : Int32))) fun I151 => (Option.bind (some (up2 I151 204 9 (I113 205 ((I113 204 5).toNatClampNeg)))) fun I152 => (Option.bind (some (up2 I152 204 5 ((I152 204 5) + 1))) fun I153 => (some (I153, J))))) else (if (I113 205 ((I113 204 5).toNatClampNeg)) = 40 then (Option.bind (some (up2 I113 204 7 (4 : Int32))) fun I154 => (Option.bind (some (up2 I154 204 9 (I113 205 ((I113 204 5).toNatClampNeg)))) fun I155 => (Option.bind (some (up2 I155 204 5 ((I155 204 5) + 1))) fun I156 => (some (I156, J))))) else (if (I113 205 ((I113 204 5).toNatClampNeg)) = 41 then (Option.bind (some (up2 I113 204 7 (4 : Int32))) fun I157 => (Option.bind (some (up2 I157 204 9 (I113 205 ((I113 204 5).toNatClampNeg)))) fun I158 => (Option.bind (some (up2 I158 204 5 ((I158 204 5) + 1))) fun I159 => (some (I159, J))))) else (Option.bind (some (up2 I113 204 7 (1 : Int32))) fun I160 => (Option.bind (some (up2 I160 204 9 (I113 205 ((I113 204 5).toNatClampNeg)))) fun I161 => (Option.bind (some (up2 I161 204 5 ((I161 204 5) + 1))) fun I162 => (some (I162, J))))))))))))) else none) else (Option.bind (some (up2 I113 204 7 (0 : Int32))) fun I167 => (some (I167, J)))) else (Option.bind (some (up2 I113 204 6 (I113 204 4))) fun I168 => (Option.bind (some (up2 I168 204 7 (1 : Int32))) fun I169 => (some (I169, J))))))) else (if in9 (I 204 5) 940 then (if (I 205 ((I 204 5).toNatClampNeg)) = 32 then (Option.bind (some (up2 I 204 5 ((I 204 5) + 1))) fun I171 => (Mod_go_0 N n I171 J)) else (if (I 205 ((I 204 5).toNatClampNeg)) = 10 then (Option.bind (some (up2 I 204 5 ((I 204 5) + 1))) fun I172 => (Mod_go_0 N n I172 J)) else (Option.bind (some (up2 I 204 6 (I 204 5))) fun I173 => (if (I173 204 3) ≤ (I173 204 4) then (if (I173 204 5) < (I173 204 3) then (if in9 (I173 204 5) 940 then (if (Mod_isLetter (I173 205 ((I173 204 5).toNatClampNeg))) then (Option.bind (some (up2 J 204 12 (0 : Int64))) fun J198 => (Option.bind (some (up2 I173 204 8 (0 : Int32))) fun I199 => (Mod_go_215 N N (I173 205 ((I173 204 5).toNatClampNeg)) (b2i (Mod_isLetter (I173 205 ((I173 204 5).toNatClampNeg)))) 1 I199 J198))) else (if (Mod_isDigit (I173 205 ((I173 204 5).toNatClampNeg))) then (Option.bind (some (up2 J 204 12 (0 : Int64))) fun J196 => (Option.bind (some (up2 I173 204 8 (0 : Int32))) fun I197 => (Mod_go_215 N N (I173 205 ((I173 204 5).toNatClampNeg)) (b2i (Mod_isLetter (I173 205 ((I173 204 5).toNatClampNeg)))) 1 I197 J196))) else (if (I173 205 ((I173 204 5).toNatClampNeg)) = 59 then (Option.bind (some (up2 I173 204 7 (4 : Int32))) fun I175 => (Option.bind (some (up2 I175 204 9 (I173 205 ((I173 204 5).toNatClampNeg)))) fun I176 => (Option.bind (some (up2 I176 204 5 ((I176 204 5) + 1))) fun I177 => (some (I177, J))))) else (if (I173 205 ((I173 204 5).toNatClampNeg)) = 60 then (Option.bind (some (up2 I173 204 7 (4 : Int32))) fun I178 => (Option.bind (some (up2 I178 204 9 (I173 205 ((I173 204 5).toNatClampNeg)))) fun I179 => (Option.bind (some (up2 I179 204 5 ((I179 204 5) + 1))) fun I180 => (some (I180, J))))) else (if (I173 205 ((I173 204 5).toNatClampNeg)) = 61 then (Option.bind (some (up2 I173 204 7 (4 : Int32))) fun I181 => (Option.bind (some (up2 I181 204 9 (I173 205 ((I173 204 5).toNatClampNeg)))) fun I182 => (Option.bind (some (up2 I182 204 5 ((I182 204 5) + 1))) fun I183 => (some (I183, J))))) else (if (I173 205 ((I173 204 5).toNatClampNeg)) = 62 then (Option.bind (some (up2 I173 204 7 (4 : Int32))) fun I184 => (Option.bind (some (up2 I184 204 9 (I173 205 ((I173 204 5).toNatClampNeg)))) fun I185 => (Option.bind (some (up2 I185 204 5 ((I185 204 5) + 1))) fun I186 => (some (I186, J))))) else (if (I173 205 ((I173 204 5).toNatClampNeg)) = 40 then (Option.bind (some (up2 I173 204 7 (4 : Int32))) fun I187 => (Option.bind (some (up2 I187 204 9 (I173 205 ((I173 204 5).toNatClampNeg)))) fun I188 => (Option.bind (some (up2 I188 204 5 ((I188 204 5) + 1))) fun I189 => (some (I189, J))))) else (if (I173 205 ((I173 204 5).toNatClampNeg)) = 41 then (Option.bind (some (up2 I173 204 7 (4 : Int32))) fun I190 => (Option.bind (some (up2 I190 204 9 (I173 205 ((I173 204 5).toNatClampNeg)))) fun I191 => (Option.bind (some (up2 I191 204 5 ((I191 204 5) + 1))) fun I192 => (some (I192, J))))) else (Option.bind (some (up2 I173 204 7 (1 : Int32))) fun I193 => (Option.bind (some (up2 I193 204 9 (I173 205 ((I173 204 5).toNatClampNeg)))) fun I194 => (Option.bind (some (up2 I194 204 5 ((I194 204 5) + 1))) fun I195 => (some (I195, J))))))))))))) else none) else (Option.bind (some (up2 I173 204 7 (0 : Int32))) fun I200 => (some (I200, J)))) else (if (I173 204 6) < (I173 204 4) then (if (I173 204 5) < (I173 204 3) then (if in9 (I173 204 5) 940 then (if (Mod_isLetter (I173 205 ((I173 204 5).toNatClampNeg))) then (Option.bind (some (up2 J 204 12 (0 : Int64))) fun J225 => (Option.bind (some (up2 I173 204 8 (0 : Int32))) fun I226 => (Mod_go_215 N N (I173 205 ((I173 204 5).toNatClampNeg)) (b2i (Mod_isLetter (I173 205 ((I173 204 5).toNatClampNeg)))) 1 I226 J225))) else (if (Mod_isDigit (I173 205 ((I173 204 5).toNatClampNeg))) then (Option.bind (some (up2 J 204 12 (0 : Int64))) fun J223 => (Option.bind (some (up2 I173 204 8 (0 : Int32))) fun I224 => (Mod_go_215 N N (I173 205 ((I173 204 5).toNatClampNeg)) (b2i (Mod_isLetter (I173 205 ((I173 204 5).toNatClampNeg)))) 1 I224 J223))) else (if (I173 205 ((I173 204 5).toNatClampNeg)) = 59 then (Option.bind (some (up2 I173 204 7 (4 : Int32))) fun I202 => (Option.bind (some (up2 I202 204 9 (I173 205 ((I173 204 5).toNatClampNeg)))) fun I203 => (Option.bind (some (up2 I203 204 5 ((I203 204 5) + 1))) fun I204 => (some (I204, J))))) else (if (I173 205 ((I173 204 5).toNatClampNeg)) = 60 then (Option.bind (some (up2 I173 204 7 (4 : Int32))) fun I205 => (Option.bind (some (up2 I205 204 9 (I173 205 ((I173 204 5).toNatClampNeg)))) fun I206 => (Option.bind (some (up2 I206 204 5 ((I206 204 5) + 1))) fun I207 => (some (I207, J))))) else (if (I173 205 ((I173 204 5).toNatClampNeg)) = 61 then (Option.bind (some (up2 I173 204 7 (4 : Int32))) fun I208 => (Option.bind (some (up2 I208 204 9 (I173 205 ((I173 204 5).toNatClampNeg)))) fun I209 => (Option.bind (some (up2 I209 204 5 ((I209 204 5) + 1))) fun I210 => (some (I210, J))))) else (if (I173 205 ((I173 204 5).toNatClampNeg)) = 62 then (Option.bind (some (up2 I173 204 7 (4 : Int32))) fun I211 => (Option.bind (some (up2 I211 204 9 (I173 205 ((I173 204 5).toNatClampNeg)))) fun I212 => (Option.bind (some (up2 I212 204 5 ((I212 204 5) + 1))) fun I213 => (some (I213, J))))) else (if (I173 205 ((I173 204 5).toNatClampNeg)) = 40 then (Option.bind (some (up2 I173 204 7 (4 : Int32))) fun I214 => (Option.bind (some (up2 I214 204 9 (I173 205 ((I173 204 5).toNatClampNeg)))) fun I215 => (Option.bind (some (up2 I215 204 5 ((I215 204 5) + 1))) fun I216 => (some (I216, J))))) else (if (I173 205 ((I173 204 5).toNatClampNeg)) = 41 then (Option.bind (some (up2 I173 204 7 (4 : Int32))) fun I217 => (Option.bind (some (up2 I217 204 9 (I173 205 ((I173 204 5).toNatClampNeg)))) fun I218 => (Option.bind (some (up2 I218 204 5 ((I218 204 5) + 1))) fun I219 => (some (I219, J))))) else (Option.bind (some (up2 I173 204 7 (1 : Int32))) fun I220 => (Option.bind (some (up2 I220 204 9 (I173 205 ((I173 204 5).toNatClampNeg)))) fun I221 => (Option.bind (some (up2 I221 204 5 ((I221 204 5) + 1))) fun I222 => (some (I222, J))))))))))))) else none) else (Option.bind (some (up2 I173 204 7 (0 : Int32))) fun I227 => (some (I227, J)))) else (Option.bind (some (up2 I173 204 6 (I173 204 4))) fun I228 => (Option.bind (some (up2 I228 204 7 (1 : Int32))) fun I229 => (some (I229, J))))))))) else none)
def Mod_go (N : Nat) (I : FI) (J : FJ) : Option (FI × FJ) := if (I 204 3) ≤ (I 204 5) then (Option.bind (some (up2 I 204 6 (I 204 5))) fun I1 => (if (I1 204 3) ≤ (I1 204 4) then (if (I1 204 5) < (I1 204 3) then (if in9 (I1 204 5) 940 then (if (Mod_isLetter (I1 205 ((I1 204 5).toNatClampNeg))) then (Option.bind (some (up2 J 204 12 (0 : Int64))) fun J79 => (Option.bind (some (up2 I1 204 8 (0 : Int32))) fun I80 => (Mod_go_215 N N (I1 205 ((I1 204 5).toNatClampNeg)) (b2i (Mod_isLetter (I1 205 ((I1 204 5).toNatClampNeg)))) 1 I80 J79))) else (if (Mod_isDigit (I1 205 ((I1 204 5).toNatClampNeg))) then (Option.bind (some (up2 J 204 12 (0 : Int64))) fun J24 => (Option.bind (some (up2 I1 204 8 (0 : Int32))) fun I25 => (Mod_go_215 N N (I1 205 ((I1 204 5).toNatClampNeg)) (b2i (Mod_isLetter (I1 205 ((I1 204 5).toNatClampNeg)))) 1 I25 J24))) else (if (I1 205 ((I1 204 5).toNatClampNeg)) = 59 then (Option.bind (some (up2 I1 204 7 (4 : Int32))) fun I3 => (Option.bind (some (up2 I3 204 9 (I1 205 ((I1 204 5).toNatClampNeg)))) fun I4 => (Option.bind (some (up2 I4 204 5 ((I4 204 5) + 1))) fun I5 => (some (I5, J))))) else (if (I1 205 ((I1 204 5).toNatClampNeg)) = 60 then (Option.bind (some (up2 I1 204 7 (4 : Int32))) fun I6 => (Option.bind (some (up2 I6 204 9 (I1 205 ((I1 204 5).toNatClampNeg)))) fun I7 => (Option.bind (some (up2 I7 204 5 ((I7 204 5) + 1))) fun I8 => (some (I8, J))))) else (if (I1 205 ((I1 204 5).toNatClampNeg)) = 61 then (Option.bind (some (up2 I1 204 7 (4 : Int32))) fun I9 => (Option.bind (some (up2 I9 204 9 (I1 205 ((I1 204 5).toNatClampNeg)))) fun I10 => (Option.bind (some (up2 I10 204 5 ((I10 204 5) + 1))) fun I11 => (some (I11, J))))) else (if (I1 205 ((I1 204 5).toNatClampNeg)) = 62 then (Option.bind (some (up2 I1 204 7 (4 : Int32))) fun I12 => (Option.bind (some (up2 I12 204 9 (I1 205 ((I1 204 5).toNatClampNeg)))) fun I13 => (Option.bind (some (up2 I13 204 5 ((I13 204 5) + 1))) fun I14 => (some (I14, J))))) else (if (I1 205 ((I1 204 5).toNatClampNeg)) = 40 then (Option.bind (some (up2 I1 204 7 (4 : Int32))) fun I15 => (Option.bind (some (up2 I15 204 9 (I1 205 ((I1 204 5).toNatClampNeg)))) fun I16 => (Option.bind (some (up2 I16 204 5 ((I16 204 5) + 1))) fun I17 => (some (I17, J))))) else (if (I1 205 ((I1 204 5).toNatClampNeg)) = 41 then (Option.bind (some (up2 I1 204 7 (4 : Int32))) fun I18 => (Option.bind (some (up2 I18 204 9 (I1 205 ((I1 204 5).toNatClampNeg)))) fun I19 => (Option.bind (some (up2 I19 204 5 ((I19 204 5) + 1))) fun I20 => (some (I20, J))))) else (Option.bind (some (up2 I1 204 7 (1 : Int32))) fun I21 => (Option.bind (some (up2 I21 204 9 (I1 205 ((I1 204 5).toNatClampNeg)))) fun I22 => (Option.bind (some (up2 I22 204 5 ((I22 204 5) + 1))) fun I23 => (some (I23, J))))))))))))) else none) else (Option.bind (some (up2 I1 204 7 (0 : Int32))) fun I81 => (some (I81, J)))) else (if (I1 204 6) < (I1 204 4) then (if (I1 204 5) < (I1 204 3) then (if in9 (I1 204 5) 940 then (if (Mod_isLetter (I1 205 ((I1 204 5).toNatClampNeg))) then (Option.bind (some (up2 J 204 12 (0 : Int64))) fun J106 => (Option.bind (some (up2 I1 204 8 (0 : Int32))) fun I107 => (Mod_go_215 N N (I1 205 ((I1 204 5).toNatClampNeg)) (b2i (Mod_isLetter (I1 205 ((I1 204 5).toNatClampNeg)))) 1 I107 J106))) else (if (Mod_isDigit (I1 205 ((I1 204 5).toNatClampNeg))) then (Option.bind (some (up2 J 204 12 (0 : Int64))) fun J104 => (Option.bind (some (up2 I1 204 8 (0 : Int32))) fun I105 => (Mod_go_215 N N (I1 205 ((I1 204 5).toNatClampNeg)) (b2i (Mod_isLetter (I1 205 ((I1 204 5).toNatClampNeg)))) 1 I105 J104))) else (if (I1 205 ((I1 204 5).toNatClampNeg)) = 59 then (Option.bind (some (up2 I1 204 7 (4 : Int32))) fun I83 => (Option.bind (some (up2 I83 204 9 (I1 205 ((I1 204 5).toNatClampNeg)))) fun I84 => (Option.bind (some (up2 I84 204 5 ((I84 204 5) + 1))) fun I85 => (some (I85, J))))) else (if (I1 205 ((I1 204 5).toNatClampNeg)) = 60 then (Option.bind (some (up2 I1 204 7 (4 : Int32))) fun I86 => (Option.bind (some (up2 I86 204 9 (I1 205 ((I1 204 5).toNatClampNeg)))) fun I87 => (Option.bind (some (up2 I87 204 5 ((I87 204 5) + 1))) fun I88 => (some (I88, J))))) else (if (I1 205 ((I1 204 5).toNatClampNeg)) = 61 then (Option.bind (some (up2 I1 204 7 (4 : Int32))) fun I89 => (Option.bind (some (up2 I89 204 9 (I1 205 ((I1 204 5).toNatClampNeg)))) fun I90 => (Option.bind (some (up2 I90 204 5 ((I90 204 5) + 1))) fun I91 => (some (I91, J))))) else (if (I1 205 ((I1 204 5).toNatClampNeg)) = 62 then (Option.bind (some (up2 I1 204 7 (4 : Int32))) fun I92 => (Option.bind (some (up2 I92 204 9 (I1 205 ((I1 204 5).toNatClampNeg)))) fun I93 => (Option.bind (some (up2 I93 204 5 ((I93 204 5) + 1))) fun I94 => (some (I94, J))))) else (if (I1 205 ((I1 204 5).toNatClampNeg)) = 40 then (Option.bind (some (up2 I1 204 7 (4 : Int32))) fun I95 => (Option.bind (some (up2 I95 204 9 (I1 205 ((I1 204 5).toNatClampNeg)))) fun I96 => (Option.bind (some (up2 I96 204 5 ((I96 204 5) + 1))) fun I97 => (some (I97, J))))) else (if (I1 205 ((I1 204 5).toNatClampNeg)) = 41 then (Option.bind (some (up2 I1 204 7 (4 : Int32))) fun I98 => (Option.bind (some (up2 I98 204 9 (I1 205 ((I1 204 5).toNatClampNeg)))) fun I99 => (Option.bind (some (up2 I99 204 5 ((I99 204 5) + 1))) fun I100 => (some (I100, J))))) else (Option.bind (some (up2 I1 204 7 (1 : Int32))) fun I101 => (Option.bind (some (up2 I101 204 9 (I1 205 ((I1 204 5).toNatClampNeg)))) fun I102 => (Option.bind (some (up2 I102 204 5 ((I102 204 5) + 1))) fun I103 => (some (I103, J))))))))))))) else none) else (Option.bind (some (up2 I1 204 7 (0 : Int32))) fun I108 => (some (I108, J)))) else (Option.bind (some (up2 I1 204 6 (I1 204 4))) fun I109 => (Option.bind (some (up2 I109 204 7 (1 : Int32))) fun I110 => (some (I110, J))))))) else (if in9 (I 204 5) 940 then (if (I 205 ((I 204 5).toNatClampNeg)) = 32 then (Option.bind (some (up2 I 204 5 ((I 204 5) + 1))) fun I112 => (Mod_go_0 N N I112 J)) else (if (I 205 ((I 204 5).toNatClampNeg)) = 10 then (Option.bind (some (up2 I 204 5 ((I 204 5) + 1))) fun I230 => (Mod_go_0 N N I230 J)) else (Option.bind (some (up2 I 204 6 (I 204 5))) fun I231 => (if (I231 204 3) ≤ (I231 204 4) then (if (I231 204 5) < (I231 204 3) then (if in9 (I231 204 5) 940 then (if (Mod_isLetter (I231 205 ((I231 204 5).toNatClampNeg))) then (Option.bind (some (up2 J 204 12 (0 : Int64))) fun J256 => (Option.bind (some (up2 I231 204 8 (0 : Int32))) fun I257 => (Mod_go_215 N N (I231 205 ((I231 204 5).toNatClampNeg)) (b2i (Mod_isLetter (I231 205 ((I231 204 5).toNatClampNeg)))) 1 I257 J256))) else (if (Mod_isDigit (I231 205 ((I231 204 5).toNatClampNeg))) then (Option.bind (some (up2 J 204 12 (0 : Int64))) fun J254 => (Option.bind (some (up2 I231 204 8 (0 : Int32))) fun I255 => (Mod_go_215 N N (I231 205 ((I231 204 5).toNatClampNeg)) (b2i (Mod_isLetter (I231 205 ((I231 204 5).toNatClampNeg)))) 1 I255 J254))) else (if (I231 205 ((I231 204 5).toNatClampNeg)) = 59 then (Option.bind (some (up2 I231 204 7 (4 : Int32))) fun I233 => (Option.bind (some (up2 I233 204 9 (I231 205 ((I231 204 5).toNatClampNeg)))) fun I234 => (Option.bind (some (up2 I234 204 5 ((I234 204 5) + 1))) fun I235 => (some (I235, J))))) else (if (I231 205 ((I231 204 5).toNatClampNeg)) = 60 then (Option.bind (some (up2 I231 204 7 (4 : Int32))) fun I236 => (Option.bind (some (up2 I236 204 9 (I231 205 ((I231 204 5).toNatClampNeg)))) fun I237 => (Option.bind (some (up2 I237 204 5 ((I237 204 5) + 1))) fun I238 => (some (I238, J))))) else (if (I231 205 ((I231 204 5).toNatClampNeg)) = 61 then (Option.bind (some (up2 I231 204 7 (4 : Int32))) fun I239 => (Option.bind (some (up2 I239 204 9 (I231 205 ((I231 204 5).toNatClampNeg)))) fun I240 => (Option.bind (some (up2 I240 204 5 ((I240 204 5) + 1))) fun I241 => (some (I241, J))))) else (if (I231 205 ((I231 204 5).toNatClampNeg)) = 62 then (Option.bind (some (up2 I231 204 7 (4 : Int32))) fun I242 => (Option.bind (some (up2 I242 204 9 (I231 205 ((I231 204 5).toNatClampNeg)))) fun I243 => (Option.bind (some (up2 I243 204 5 ((I243 204 5) + 1))) fun I244 => (some (I244, J))))) else (if (I231 205 ((I231 204 5).toNatClampNeg)) = 40 then (Option.bind (some (up2 I231 204 7 (4 : Int32))) fun I245 => (Option.bind (some (up2 I245 204 9 (I231 205 ((I231 204 5).toNatClampNeg)))) fun I246 => (Option.bind (some (up2 I246 204 5 ((I246 204 5) + 1))) fun I247 => (some (I247, J))))) else (if (I231 205 ((I231 204 5).toNatClampNeg)) = 41 then (Option.bind (some (up2 I231 204 7 (4 : Int32))) fun I248 => (Option.bind (some (up2 I248 204 9 (I231 205 ((I231 204 5).toNatClampNeg)))) fun I249 => (Option.bind (some (up2 I249 204 5 ((I249 204 5) + 1))) fun I250 => (some (I250, J))))) else (Option.bind (some (up2 I231 204 7 (1 : Int32))) fun I251 => (Option.bind (some (up2 I251 204 9 (I231 205 ((I231 204 5).toNatClampNeg)))) fun I252 => (Option.bind (some (up2 I252 204 5 ((I252 204 5) + 1))) fun I253 => (some (I253, J))))))))))))) else none) else (Option.bind (some (up2 I231 204 7 (0 : Int32))) fun I258 => (some (I258, J)))) else (if (I231 204 6) < (I231 204 4) then (if (I231 204 5) < (I231 204 3) then (if in9 (I231 204 5) 940 then (if (Mod_isLetter (I231 205 ((I231 204 5).toNatClampNeg))) then (Option.bind (some (up2 J 204 12 (0 : Int64))) fun J283 => (Option.bind (some (up2 I231 204 8 (0 : Int32))) fun I284 => (Mod_go_215 N N (I231 205 ((I231 204 5).toNatClampNeg)) (b2i (Mod_isLetter (I231 205 ((I231 204 5).toNatClampNeg)))) 1 I284 J283))) else (if (Mod_isDigit (I231 205 ((I231 204 5).toNatClampNeg))) then (Option.bind (some (up2 J 204 12 (0 : Int64))) fun J281 => (Option.bind (some (up2 I231 204 8 (0 : Int32))) fun I282 => (Mod_go_215 N N (I231 205 ((I231 204 5).toNatClampNeg)) (b2i (Mod_isLetter (I231 205 ((I231 204 5).toNatClampNeg)))) 1 I282 J281))) else (if (I231 205 ((I231 204 5).toNatClampNeg)) = 59 then (Option.bind (some (up2 I231 204 7 (4 : Int32))) fun I260 => (Option.bind (some (up2 I260 204 9 (I231 205 ((I231 204 5).toNatClampNeg)))) fun I261 => (Option.bind (some (up2 I261 204 5 ((I261 204 5) + 1))) fun I262 => (some (I262, J))))) else (if (I231 205 ((I231 204 5).toNatClampNeg)) = 60 then (Option.bind (some (up2 I231 204 7 (4 : Int32))) fun I263 => (Option.bind (some (up2 I263 204 9 (I231 205 ((I231 204 5).toNatClampNeg)))) fun I264 => (Option.bind (some (up2 I264 204 5 ((I264 204 5) + 1))) fun I265 => (some (I265, J))))) else (if (I231 205 ((I231 204 5).toNatClampNeg)) = 61 then (Option.bind (some (up2 I231 204 7 (4 : Int32))) fun I266 => (Option.bind (some (up2 I266 204 9 (I231 205 ((I231 204 5).toNatClampNeg)))) fun I267 => (Option.bind (some (up2 I267 204 5 ((I267 204 5) + 1))) fun I268 => (some (I268, J))))) else (if (I231 205 ((I231 204 5).toNatClampNeg)) = 62 then (Option.bind (some (up2 I231 204 7 (4 : Int32))) fun I269 => (Option.bind (some (up2 I269 204 9 (I231 205 ((I231 204 5).toNatClampNeg)))) fun I270 => (Option.bind (some (up2 I270 204 5 ((I270 204 5) + 1))) fun I271 => (some (I271, J))))) else (if (I231 205 ((I231 204 5).toNatClampNeg)) = 40 then (Option.bind (some (up2 I231 204 7 (4 : Int32))) fun I272 => (Option.bind (some (up2 I272 204 9 (I231 205 ((I231 204 5).toNatClampNeg)))) fun I273 => (Option.bind (some (up2 I273 204 5 ((I273 204 5) + 1))) fun I274 => (some (I274, J))))) else (if (I231 205 ((I231 204 5).toNatClampNeg)) = 41 then (Option.bind (some (up2 I231 204 7 (4 : Int32))) fun I275 => (Option.bind (some (up2 I275 204 9 (I231 205 ((I231 204 5).toNatClampNeg)))) fun I276 => (Option.bind (some (up2 I276 204 5 ((I276 204 5) + 1))) fun I277 => (some (I277, J))))) else (Option.bind (some (up2 I231 204 7 (1 : Int32))) fun I278 => (Option.bind (some (up2 I278 204 9 (I231 205 ((I231 204 5).toNatClampNeg)))) fun I279 => (Option.bind (some (up2 I279 204 5 ((I279 204 5) + 1))) fun I280 => (some (I280, J))))))))))))) else none) else (Option.bind (some (up2 I231 204 7 (0 : Int32))) fun I285 => (some (I285, J)))) else (Option.bind (some (up2 I231 204 6 (I231 204 4))) fun I286 => (Option.bind (some (up2 I286 204 7 (1 : Int32))) fun I287 => (some (I287, J))))))))) else none)
set_option maxRecDepth 8000 in
theorem t_Mod_go_215 {d : Nat} {N : Nat} {c : Nat × Nat} {S : Nat → Nat × Nat} {P : Nat → Nat → Option Nat} {r : FI × FJ} (hd : 1 ≤ (d + 1)) (hw : OM S P) : ∀ (n : Nat) (l1 : Int32) (l2 : Int32) (l3 : Int32) (I : FI) (J : FJ), Mod_go_215 N n l1 l2 l3 I J = some r → Go (d + 1) M_Mod_go 215 [some (.ref 204), some (.int l1), some (.int l2), some (.int l3), none] [] (c, S, I, J, P) (none, false, (c, S, r.1, r.2, P)) := by
  intro n
  induction n with
  | zero =>
    intro l1 l2 l3 I J h
    cases h
  | succ n ih =>
    intro l1 l2 l3 I J h
    unfold Mod_go_215 at h
    refine g_aload_n cd179_215 rfl rfl ?_
    refine g_aload_n cd179_216 rfl rfl ?_
    refine g_getI cd179_217 rfl (OM.o hw) ?_
    obtain ⟨x26, hx, h⟩ := bnd h
    refine g_callVI (L := [some (.ref 204), some (.int (I 204 5))]) cd179_220 rfl rfl rfl rfl rfl (OM.o hw) (t_Mod_tapeAt (by omega) hw hx) ?_
    refine g_callSZ (L := [some (.int x26)]) cd179_223 rfl rfl rfl rfl rfl (t_Mod_isLetter (by omega)  rfl) ?_
    refine g_if_ne cd179_226 rfl (fun hb => ?_) (fun hb => ?_)
    · have h := ifnE (b2i_f hb) h
      refine g_aload_n cd179_229 rfl rfl ?_
      refine g_aload_n cd179_230 rfl rfl ?_
      refine g_getI cd179_231 rfl (OM.o hw) ?_
      obtain ⟨x27, hx, h⟩ := bnd h
      refine g_callVI (L := [some (.ref 204), some (.int (I 204 5))]) cd179_234 rfl rfl rfl rfl rfl (OM.o hw) (t_Mod_tapeAt (by omega) hw hx) ?_
      refine g_callSZ (L := [some (.int x27)]) cd179_237 rfl rfl rfl rfl rfl (t_Mod_isDigit (by omega)  rfl) ?_
      refine g_if_eq cd179_240 rfl (fun hb => ?_) (fun hb => ?_)
      · have h := ifnE (b2i_f hb) h
        refine g_aload_n cd179_350 rfl rfl ?_
        refine g_iload_n cd179_351 rfl rfl ?_
        refine g_if_eq cd179_352 rfl (fun hb => ?_) (fun hb => ?_)
        · have h := ifpE hb h
          refine g_iconst cd179_377 rfl ?_
          refine g_goto (ls2 := [some (.ref 204), some (.int l1), some (.int l2), some (.int l3), none]) cd179_378 rfl rfl ?_
          obtain ⟨I28, e1, h⟩ := bnd h
          refine G_putI cd179_390 rfl (OM.o hw) (Option.some.inj e1) ?_
          exact g_vret cd179_393 (by obtain rfl := Option.some.inj h; rfl)
        · have h := ifnE hb h
          refine g_aload_n cd179_355 rfl rfl ?_
          refine g_getI cd179_356 rfl (OM.o hw) ?_
          refine g_aload_n cd179_359 rfl rfl ?_
          refine g_getI cd179_360 rfl (OM.o hw) ?_
          refine g_isub cd179_363 rfl ?_
          refine g_iload_n cd179_364 rfl rfl ?_
          refine g_if_eq cd179_365 rfl (fun hb => ?_) (fun hb => ?_)
          · have h := ifpE hb h
            refine g_iconst cd179_373 rfl ?_
            refine g_icmp_le cd179_374 rfl (fun hb => ?_) (fun hb => ?_)
            · have h := ifpE hb h
              refine g_iload_n cd179_381 rfl rfl ?_
              refine g_if_eq cd179_382 rfl (fun hb => ?_) (fun hb => ?_)
              · have h := ifpE hb h
                refine g_iconst cd179_389 rfl ?_
                obtain ⟨I29, e1, h⟩ := bnd h
                refine G_putI cd179_390 rfl (OM.o hw) (Option.some.inj e1) ?_
                exact g_vret cd179_393 (by obtain rfl := Option.some.inj h; rfl)
              · have h := ifnE hb h
                refine g_iconst cd179_385 rfl ?_
                refine g_goto (ls2 := [some (.ref 204), some (.int l1), some (.int l2), some (.int l3), none]) cd179_386 rfl rfl ?_
                obtain ⟨I30, e1, h⟩ := bnd h
                refine G_putI cd179_390 rfl (OM.o hw) (Option.some.inj e1) ?_
                exact g_vret cd179_393 (by obtain rfl := Option.some.inj h; rfl)
            · have h := ifnE hb h
              refine g_iconst cd179_377 rfl ?_
              refine g_goto (ls2 := [some (.ref 204), some (.int l1), some (.int l2), some (.int l3), none]) cd179_378 rfl rfl ?_
              obtain ⟨I31, e1, h⟩ := bnd h
              refine G_putI cd179_390 rfl (OM.o hw) (Option.some.inj e1) ?_
              exact g_vret cd179_393 (by obtain rfl := Option.some.inj h; rfl)
          · have h := ifnE hb h
            refine g_bipush cd179_368 rfl ?_
            refine g_goto (ls2 := [some (.ref 204), some (.int l1), some (.int l2), some (.int l3), none]) cd179_370 rfl rfl ?_
            refine g_icmp_le cd179_374 rfl (fun hb => ?_) (fun hb => ?_)
            · have h := ifpE hb h
              refine g_iload_n cd179_381 rfl rfl ?_
              refine g_if_eq cd179_382 rfl (fun hb => ?_) (fun hb => ?_)
              · have h := ifpE hb h
                refine g_iconst cd179_389 rfl ?_
                obtain ⟨I32, e1, h⟩ := bnd h
                refine G_putI cd179_390 rfl (OM.o hw) (Option.some.inj e1) ?_
                exact g_vret cd179_393 (by obtain rfl := Option.some.inj h; rfl)
              · have h := ifnE hb h
                refine g_iconst cd179_385 rfl ?_
                refine g_goto (ls2 := [some (.ref 204), some (.int l1), some (.int l2), some (.int l3), none]) cd179_386 rfl rfl ?_
                obtain ⟨I33, e1, h⟩ := bnd h
                refine G_putI cd179_390 rfl (OM.o hw) (Option.some.inj e1) ?_
                exact g_vret cd179_393 (by obtain rfl := Option.some.inj h; rfl)
            · have h := ifnE hb h
              refine g_iconst cd179_377 rfl ?_
              refine g_goto (ls2 := [some (.ref 204), some (.int l1), some (.int l2), some (.int l3), none]) cd179_378 rfl rfl ?_
              obtain ⟨I34, e1, h⟩ := bnd h
              refine G_putI cd179_390 rfl (OM.o hw) (Option.some.inj e1) ?_
              exact g_vret cd179_393 (by obtain rfl := Option.some.inj h; rfl)
      · have h := ifpE (b2i_t hb) h
        refine g_aload_n cd179_243 rfl rfl ?_
        refine g_getP cd179_244 rfl (OM.o hw) (OM.p1 hw) ?_
        refine g_aload_n cd179_247 rfl rfl ?_
        refine g_getI cd179_248 rfl (OM.o hw) ?_
        obtain ⟨hg35, h⟩ := grd h
        refine G_iald cd179_251 rfl (OM.s1 hw) hg35 ?_
        refine g_istore (ls2 := [some (.ref 204), some (.int l1), some (.int l2), some (.int l3), some (.int (I 205 ((I 204 5).toNatClampNeg)))]) cd179_252 rfl rfl ?_
        refine g_iload_n cd179_254 rfl rfl ?_
        refine g_if_eq cd179_255 rfl (fun hb => ?_) (fun hb => ?_)
        · have h := ifpE hb h
          refine g_iconst cd179_271 rfl ?_
          refine g_istore_n (ls2 := [some (.ref 204), some (.int l1), some (.int l2), some (.int 0), some (.int (I 205 ((I 204 5).toNatClampNeg)))]) cd179_272 rfl rfl ?_
          refine g_aload_n cd179_273 rfl rfl ?_
          refine g_getI cd179_274 rfl (OM.o hw) ?_
          refine g_aload_n cd179_277 rfl rfl ?_
          refine g_getI cd179_278 rfl (OM.o hw) ?_
          refine g_isub cd179_281 rfl ?_
          refine g_bipush cd179_282 rfl ?_
          refine g_icmp_ge cd179_284 rfl (fun hb => ?_) (fun hb => ?_)
          · have h := ifpE hb h
            refine g_aload_n cd179_307 rfl rfl ?_
            refine g_getI cd179_308 rfl (OM.o hw) ?_
            refine g_aload_n cd179_311 rfl rfl ?_
            refine g_getI cd179_312 rfl (OM.o hw) ?_
            refine g_isub cd179_315 rfl ?_
            refine g_iconst cd179_316 rfl ?_
            refine g_icmp_ge cd179_317 rfl (fun hb => ?_) (fun hb => ?_)
            · have h := ifpE hb h
              refine g_aload_n cd179_337 rfl rfl ?_
              refine g_dupR cd179_338 rfl ?_
              refine g_getI cd179_339 rfl (OM.o hw) ?_
              refine g_iconst cd179_342 rfl ?_
              refine g_iadd cd179_343 rfl ?_
              obtain ⟨I36, e1, h⟩ := bnd h
              refine G_putI cd179_344 rfl (OM.o hw) (Option.some.inj e1) ?_
              refine g_goto (ls2 := [some (.ref 204), some (.int l1), some (.int l2), some (.int 0), none]) cd179_347 rfl rfl ?_
              exact ih l1 l2 0 I36 J h
            · have h := ifnE hb h
              refine g_aload_n cd179_320 rfl rfl ?_
              refine g_bipush cd179_321 rfl ?_
              refine g_aload_n cd179_323 rfl rfl ?_
              refine g_getI cd179_324 rfl (OM.o hw) ?_
              refine g_imul cd179_327 rfl ?_
              refine g_iload cd179_328 rfl rfl ?_
              refine g_iadd cd179_330 rfl ?_
              refine g_bipush cd179_331 rfl ?_
              refine g_isub cd179_333 rfl ?_
              obtain ⟨I37, e1, h⟩ := bnd h
              refine G_putI cd179_334 rfl (OM.o hw) (Option.some.inj e1) ?_
              refine g_aload_n cd179_337 rfl rfl ?_
              refine g_dupR cd179_338 rfl ?_
              refine g_getI cd179_339 rfl (OM.o hw) ?_
              refine g_iconst cd179_342 rfl ?_
              refine g_iadd cd179_343 rfl ?_
              obtain ⟨I38, e1, h⟩ := bnd h
              refine G_putI cd179_344 rfl (OM.o hw) (Option.some.inj e1) ?_
              refine g_goto (ls2 := [some (.ref 204), some (.int l1), some (.int l2), some (.int 0), none]) cd179_347 rfl rfl ?_
              exact ih l1 l2 0 I38 J h
          · have h := ifnE hb h
            refine g_aload_n cd179_287 rfl rfl ?_
            refine g_ldc2_w cd179_288 rfl ?_
            refine g_aload_n cd179_291 rfl rfl ?_
            refine g_getJ cd179_292 rfl (OM.o hw) ?_
            refine g_lmul cd179_295 rfl ?_
            refine g_iload cd179_296 rfl rfl ?_
            refine g_i2l cd179_298 rfl ?_
            refine g_ladd cd179_299 rfl ?_
            refine g_ldc2_w cd179_300 rfl ?_
            refine g_lsub cd179_303 rfl ?_
            obtain ⟨J39, e1, h⟩ := bnd h
            refine G_putJ cd179_304 rfl (OM.o hw) (Option.some.inj e1) ?_
            refine g_aload_n cd179_307 rfl rfl ?_
            refine g_getI cd179_308 rfl (OM.o hw) ?_
            refine g_aload_n cd179_311 rfl rfl ?_
            refine g_getI cd179_312 rfl (OM.o hw) ?_
            refine g_isub cd179_315 rfl ?_
            refine g_iconst cd179_316 rfl ?_
            refine g_icmp_ge cd179_317 rfl (fun hb => ?_) (fun hb => ?_)
            · have h := ifpE hb h
              refine g_aload_n cd179_337 rfl rfl ?_
              refine g_dupR cd179_338 rfl ?_
              refine g_getI cd179_339 rfl (OM.o hw) ?_
              refine g_iconst cd179_342 rfl ?_
              refine g_iadd cd179_343 rfl ?_
              obtain ⟨I40, e1, h⟩ := bnd h
              refine G_putI cd179_344 rfl (OM.o hw) (Option.some.inj e1) ?_
              refine g_goto (ls2 := [some (.ref 204), some (.int l1), some (.int l2), some (.int 0), none]) cd179_347 rfl rfl ?_
              exact ih l1 l2 0 I40 J39 h
            · have h := ifnE hb h
              refine g_aload_n cd179_320 rfl rfl ?_
              refine g_bipush cd179_321 rfl ?_
              refine g_aload_n cd179_323 rfl rfl ?_
              refine g_getI cd179_324 rfl (OM.o hw) ?_
              refine g_imul cd179_327 rfl ?_
              refine g_iload cd179_328 rfl rfl ?_
              refine g_iadd cd179_330 rfl ?_
              refine g_bipush cd179_331 rfl ?_
              refine g_isub cd179_333 rfl ?_
              obtain ⟨I41, e1, h⟩ := bnd h
              refine G_putI cd179_334 rfl (OM.o hw) (Option.some.inj e1) ?_
              refine g_aload_n cd179_337 rfl rfl ?_
              refine g_dupR cd179_338 rfl ?_
              refine g_getI cd179_339 rfl (OM.o hw) ?_
              refine g_iconst cd179_342 rfl ?_
              refine g_iadd cd179_343 rfl ?_
              obtain ⟨I42, e1, h⟩ := bnd h
              refine G_putI cd179_344 rfl (OM.o hw) (Option.some.inj e1) ?_
              refine g_goto (ls2 := [some (.ref 204), some (.int l1), some (.int l2), some (.int 0), none]) cd179_347 rfl rfl ?_
              exact ih l1 l2 0 I42 J39 h
        · have h := ifnE hb h
          refine g_iload cd179_258 rfl rfl ?_
          refine g_callSZ (L := [some (.int (I 205 ((I 204 5).toNatClampNeg)))]) cd179_260 rfl rfl rfl rfl rfl (t_Mod_isLetter (by omega)  rfl) ?_
          refine g_iload_n cd179_263 rfl rfl ?_
          refine g_icmp_ne cd179_264 rfl (fun hb => ?_) (fun hb => ?_)
          · have h := ifpE hb h
            refine g_iconst cd179_267 rfl ?_
            refine g_goto (ls2 := [some (.ref 204), some (.int l1), some (.int l2), some (.int l3), some (.int (I 205 ((I 204 5).toNatClampNeg)))]) cd179_268 rfl rfl ?_
            refine g_istore_n (ls2 := [some (.ref 204), some (.int l1), some (.int l2), some (.int 1), some (.int (I 205 ((I 204 5).toNatClampNeg)))]) cd179_272 rfl rfl ?_
            refine g_aload_n cd179_273 rfl rfl ?_
            refine g_getI cd179_274 rfl (OM.o hw) ?_
            refine g_aload_n cd179_277 rfl rfl ?_
            refine g_getI cd179_278 rfl (OM.o hw) ?_
            refine g_isub cd179_281 rfl ?_
            refine g_bipush cd179_282 rfl ?_
            refine g_icmp_ge cd179_284 rfl (fun hb => ?_) (fun hb => ?_)
            · have h := ifpE hb h
              refine g_aload_n cd179_307 rfl rfl ?_
              refine g_getI cd179_308 rfl (OM.o hw) ?_
              refine g_aload_n cd179_311 rfl rfl ?_
              refine g_getI cd179_312 rfl (OM.o hw) ?_
              refine g_isub cd179_315 rfl ?_
              refine g_iconst cd179_316 rfl ?_
              refine g_icmp_ge cd179_317 rfl (fun hb => ?_) (fun hb => ?_)
              · have h := ifpE hb h
                refine g_aload_n cd179_337 rfl rfl ?_
                refine g_dupR cd179_338 rfl ?_
                refine g_getI cd179_339 rfl (OM.o hw) ?_
                refine g_iconst cd179_342 rfl ?_
                refine g_iadd cd179_343 rfl ?_
                obtain ⟨I43, e1, h⟩ := bnd h
                refine G_putI cd179_344 rfl (OM.o hw) (Option.some.inj e1) ?_
                refine g_goto (ls2 := [some (.ref 204), some (.int l1), some (.int l2), some (.int 1), none]) cd179_347 rfl rfl ?_
                exact ih l1 l2 1 I43 J h
              · have h := ifnE hb h
                refine g_aload_n cd179_320 rfl rfl ?_
                refine g_bipush cd179_321 rfl ?_
                refine g_aload_n cd179_323 rfl rfl ?_
                refine g_getI cd179_324 rfl (OM.o hw) ?_
                refine g_imul cd179_327 rfl ?_
                refine g_iload cd179_328 rfl rfl ?_
                refine g_iadd cd179_330 rfl ?_
                refine g_bipush cd179_331 rfl ?_
                refine g_isub cd179_333 rfl ?_
                obtain ⟨I44, e1, h⟩ := bnd h
                refine G_putI cd179_334 rfl (OM.o hw) (Option.some.inj e1) ?_
                refine g_aload_n cd179_337 rfl rfl ?_
                refine g_dupR cd179_338 rfl ?_
                refine g_getI cd179_339 rfl (OM.o hw) ?_
                refine g_iconst cd179_342 rfl ?_
                refine g_iadd cd179_343 rfl ?_
                obtain ⟨I45, e1, h⟩ := bnd h
                refine G_putI cd179_344 rfl (OM.o hw) (Option.some.inj e1) ?_
                refine g_goto (ls2 := [some (.ref 204), some (.int l1), some (.int l2), some (.int 1), none]) cd179_347 rfl rfl ?_
                exact ih l1 l2 1 I45 J h
            · have h := ifnE hb h
              refine g_aload_n cd179_287 rfl rfl ?_
              refine g_ldc2_w cd179_288 rfl ?_
              refine g_aload_n cd179_291 rfl rfl ?_
              refine g_getJ cd179_292 rfl (OM.o hw) ?_
              refine g_lmul cd179_295 rfl ?_
              refine g_iload cd179_296 rfl rfl ?_
              refine g_i2l cd179_298 rfl ?_
              refine g_ladd cd179_299 rfl ?_
              refine g_ldc2_w cd179_300 rfl ?_
              refine g_lsub cd179_303 rfl ?_
              obtain ⟨J46, e1, h⟩ := bnd h
              refine G_putJ cd179_304 rfl (OM.o hw) (Option.some.inj e1) ?_
              refine g_aload_n cd179_307 rfl rfl ?_
              refine g_getI cd179_308 rfl (OM.o hw) ?_
              refine g_aload_n cd179_311 rfl rfl ?_
              refine g_getI cd179_312 rfl (OM.o hw) ?_
              refine g_isub cd179_315 rfl ?_
              refine g_iconst cd179_316 rfl ?_
              refine g_icmp_ge cd179_317 rfl (fun hb => ?_) (fun hb => ?_)
              · have h := ifpE hb h
                refine g_aload_n cd179_337 rfl rfl ?_
                refine g_dupR cd179_338 rfl ?_
                refine g_getI cd179_339 rfl (OM.o hw) ?_
                refine g_iconst cd179_342 rfl ?_
                refine g_iadd cd179_343 rfl ?_
                obtain ⟨I47, e1, h⟩ := bnd h
                refine G_putI cd179_344 rfl (OM.o hw) (Option.some.inj e1) ?_
                refine g_goto (ls2 := [some (.ref 204), some (.int l1), some (.int l2), some (.int 1), none]) cd179_347 rfl rfl ?_
                exact ih l1 l2 1 I47 J46 h
              · have h := ifnE hb h
                refine g_aload_n cd179_320 rfl rfl ?_
                refine g_bipush cd179_321 rfl ?_
                refine g_aload_n cd179_323 rfl rfl ?_
                refine g_getI cd179_324 rfl (OM.o hw) ?_
                refine g_imul cd179_327 rfl ?_
                refine g_iload cd179_328 rfl rfl ?_
                refine g_iadd cd179_330 rfl ?_
                refine g_bipush cd179_331 rfl ?_
                refine g_isub cd179_333 rfl ?_
                obtain ⟨I48, e1, h⟩ := bnd h
                refine G_putI cd179_334 rfl (OM.o hw) (Option.some.inj e1) ?_
                refine g_aload_n cd179_337 rfl rfl ?_
                refine g_dupR cd179_338 rfl ?_
                refine g_getI cd179_339 rfl (OM.o hw) ?_
                refine g_iconst cd179_342 rfl ?_
                refine g_iadd cd179_343 rfl ?_
                obtain ⟨I49, e1, h⟩ := bnd h
                refine G_putI cd179_344 rfl (OM.o hw) (Option.some.inj e1) ?_
                refine g_goto (ls2 := [some (.ref 204), some (.int l1), some (.int l2), some (.int 1), none]) cd179_347 rfl rfl ?_
                exact ih l1 l2 1 I49 J46 h
          · have h := ifnE hb h
            refine g_iconst cd179_271 rfl ?_
            refine g_istore_n (ls2 := [some (.ref 204), some (.int l1), some (.int l2), some (.int 0), some (.int (I 205 ((I 204 5).toNatClampNeg)))]) cd179_272 rfl rfl ?_
            refine g_aload_n cd179_273 rfl rfl ?_
            refine g_getI cd179_274 rfl (OM.o hw) ?_
            refine g_aload_n cd179_277 rfl rfl ?_
            refine g_getI cd179_278 rfl (OM.o hw) ?_
            refine g_isub cd179_281 rfl ?_
            refine g_bipush cd179_282 rfl ?_
            refine g_icmp_ge cd179_284 rfl (fun hb => ?_) (fun hb => ?_)
            · have h := ifpE hb h
              refine g_aload_n cd179_307 rfl rfl ?_
              refine g_getI cd179_308 rfl (OM.o hw) ?_
              refine g_aload_n cd179_311 rfl rfl ?_
              refine g_getI cd179_312 rfl (OM.o hw) ?_
              refine g_isub cd179_315 rfl ?_
              refine g_iconst cd179_316 rfl ?_
              refine g_icmp_ge cd179_317 rfl (fun hb => ?_) (fun hb => ?_)
              · have h := ifpE hb h
                refine g_aload_n cd179_337 rfl rfl ?_
                refine g_dupR cd179_338 rfl ?_
                refine g_getI cd179_339 rfl (OM.o hw) ?_
                refine g_iconst cd179_342 rfl ?_
                refine g_iadd cd179_343 rfl ?_
                obtain ⟨I50, e1, h⟩ := bnd h
                refine G_putI cd179_344 rfl (OM.o hw) (Option.some.inj e1) ?_
                refine g_goto (ls2 := [some (.ref 204), some (.int l1), some (.int l2), some (.int 0), none]) cd179_347 rfl rfl ?_
                exact ih l1 l2 0 I50 J h
              · have h := ifnE hb h
                refine g_aload_n cd179_320 rfl rfl ?_
                refine g_bipush cd179_321 rfl ?_
                refine g_aload_n cd179_323 rfl rfl ?_
                refine g_getI cd179_324 rfl (OM.o hw) ?_
                refine g_imul cd179_327 rfl ?_
                refine g_iload cd179_328 rfl rfl ?_
                refine g_iadd cd179_330 rfl ?_
                refine g_bipush cd179_331 rfl ?_
                refine g_isub cd179_333 rfl ?_
                obtain ⟨I51, e1, h⟩ := bnd h
                refine G_putI cd179_334 rfl (OM.o hw) (Option.some.inj e1) ?_
                refine g_aload_n cd179_337 rfl rfl ?_
                refine g_dupR cd179_338 rfl ?_
                refine g_getI cd179_339 rfl (OM.o hw) ?_
                refine g_iconst cd179_342 rfl ?_
                refine g_iadd cd179_343 rfl ?_
                obtain ⟨I52, e1, h⟩ := bnd h
                refine G_putI cd179_344 rfl (OM.o hw) (Option.some.inj e1) ?_
                refine g_goto (ls2 := [some (.ref 204), some (.int l1), some (.int l2), some (.int 0), none]) cd179_347 rfl rfl ?_
                exact ih l1 l2 0 I52 J h
            · have h := ifnE hb h
              refine g_aload_n cd179_287 rfl rfl ?_
              refine g_ldc2_w cd179_288 rfl ?_
              refine g_aload_n cd179_291 rfl rfl ?_
              refine g_getJ cd179_292 rfl (OM.o hw) ?_
              refine g_lmul cd179_295 rfl ?_
              refine g_iload cd179_296 rfl rfl ?_
              refine g_i2l cd179_298 rfl ?_
              refine g_ladd cd179_299 rfl ?_
              refine g_ldc2_w cd179_300 rfl ?_
              refine g_lsub cd179_303 rfl ?_
              obtain ⟨J53, e1, h⟩ := bnd h
              refine G_putJ cd179_304 rfl (OM.o hw) (Option.some.inj e1) ?_
              refine g_aload_n cd179_307 rfl rfl ?_
              refine g_getI cd179_308 rfl (OM.o hw) ?_
              refine g_aload_n cd179_311 rfl rfl ?_
              refine g_getI cd179_312 rfl (OM.o hw) ?_
              refine g_isub cd179_315 rfl ?_
              refine g_iconst cd179_316 rfl ?_
              refine g_icmp_ge cd179_317 rfl (fun hb => ?_) (fun hb => ?_)
              · have h := ifpE hb h
                refine g_aload_n cd179_337 rfl rfl ?_
                refine g_dupR cd179_338 rfl ?_
                refine g_getI cd179_339 rfl (OM.o hw) ?_
                refine g_iconst cd179_342 rfl ?_
                refine g_iadd cd179_343 rfl ?_
                obtain ⟨I54, e1, h⟩ := bnd h
                refine G_putI cd179_344 rfl (OM.o hw) (Option.some.inj e1) ?_
                refine g_goto (ls2 := [some (.ref 204), some (.int l1), some (.int l2), some (.int 0), none]) cd179_347 rfl rfl ?_
                exact ih l1 l2 0 I54 J53 h
              · have h := ifnE hb h
                refine g_aload_n cd179_320 rfl rfl ?_
                refine g_bipush cd179_321 rfl ?_
                refine g_aload_n cd179_323 rfl rfl ?_
                refine g_getI cd179_324 rfl (OM.o hw) ?_
                refine g_imul cd179_327 rfl ?_
                refine g_iload cd179_328 rfl rfl ?_
                refine g_iadd cd179_330 rfl ?_
                refine g_bipush cd179_331 rfl ?_
                refine g_isub cd179_333 rfl ?_
                obtain ⟨I55, e1, h⟩ := bnd h
                refine G_putI cd179_334 rfl (OM.o hw) (Option.some.inj e1) ?_
                refine g_aload_n cd179_337 rfl rfl ?_
                refine g_dupR cd179_338 rfl ?_
                refine g_getI cd179_339 rfl (OM.o hw) ?_
                refine g_iconst cd179_342 rfl ?_
                refine g_iadd cd179_343 rfl ?_
                obtain ⟨I56, e1, h⟩ := bnd h
                refine G_putI cd179_344 rfl (OM.o hw) (Option.some.inj e1) ?_
                refine g_goto (ls2 := [some (.ref 204), some (.int l1), some (.int l2), some (.int 0), none]) cd179_347 rfl rfl ?_
                exact ih l1 l2 0 I56 J53 h
    · have h := ifpE (b2i_t hb) h
      refine g_aload_n cd179_243 rfl rfl ?_
      refine g_getP cd179_244 rfl (OM.o hw) (OM.p1 hw) ?_
      refine g_aload_n cd179_247 rfl rfl ?_
      refine g_getI cd179_248 rfl (OM.o hw) ?_
      obtain ⟨hg57, h⟩ := grd h
      refine G_iald cd179_251 rfl (OM.s1 hw) hg57 ?_
      refine g_istore (ls2 := [some (.ref 204), some (.int l1), some (.int l2), some (.int l3), some (.int (I 205 ((I 204 5).toNatClampNeg)))]) cd179_252 rfl rfl ?_
      refine g_iload_n cd179_254 rfl rfl ?_
      refine g_if_eq cd179_255 rfl (fun hb => ?_) (fun hb => ?_)
      · have h := ifpE hb h
        refine g_iconst cd179_271 rfl ?_
        refine g_istore_n (ls2 := [some (.ref 204), some (.int l1), some (.int l2), some (.int 0), some (.int (I 205 ((I 204 5).toNatClampNeg)))]) cd179_272 rfl rfl ?_
        refine g_aload_n cd179_273 rfl rfl ?_
        refine g_getI cd179_274 rfl (OM.o hw) ?_
        refine g_aload_n cd179_277 rfl rfl ?_
        refine g_getI cd179_278 rfl (OM.o hw) ?_
        refine g_isub cd179_281 rfl ?_
        refine g_bipush cd179_282 rfl ?_
        refine g_icmp_ge cd179_284 rfl (fun hb => ?_) (fun hb => ?_)
        · have h := ifpE hb h
          refine g_aload_n cd179_307 rfl rfl ?_
          refine g_getI cd179_308 rfl (OM.o hw) ?_
          refine g_aload_n cd179_311 rfl rfl ?_
          refine g_getI cd179_312 rfl (OM.o hw) ?_
          refine g_isub cd179_315 rfl ?_
          refine g_iconst cd179_316 rfl ?_
          refine g_icmp_ge cd179_317 rfl (fun hb => ?_) (fun hb => ?_)
          · have h := ifpE hb h
            refine g_aload_n cd179_337 rfl rfl ?_
            refine g_dupR cd179_338 rfl ?_
            refine g_getI cd179_339 rfl (OM.o hw) ?_
            refine g_iconst cd179_342 rfl ?_
            refine g_iadd cd179_343 rfl ?_
            obtain ⟨I58, e1, h⟩ := bnd h
            refine G_putI cd179_344 rfl (OM.o hw) (Option.some.inj e1) ?_
            refine g_goto (ls2 := [some (.ref 204), some (.int l1), some (.int l2), some (.int 0), none]) cd179_347 rfl rfl ?_
            exact ih l1 l2 0 I58 J h
          · have h := ifnE hb h
            refine g_aload_n cd179_320 rfl rfl ?_
            refine g_bipush cd179_321 rfl ?_
            refine g_aload_n cd179_323 rfl rfl ?_
            refine g_getI cd179_324 rfl (OM.o hw) ?_
            refine g_imul cd179_327 rfl ?_
            refine g_iload cd179_328 rfl rfl ?_
            refine g_iadd cd179_330 rfl ?_
            refine g_bipush cd179_331 rfl ?_
            refine g_isub cd179_333 rfl ?_
            obtain ⟨I59, e1, h⟩ := bnd h
            refine G_putI cd179_334 rfl (OM.o hw) (Option.some.inj e1) ?_
            refine g_aload_n cd179_337 rfl rfl ?_
            refine g_dupR cd179_338 rfl ?_
            refine g_getI cd179_339 rfl (OM.o hw) ?_
            refine g_iconst cd179_342 rfl ?_
            refine g_iadd cd179_343 rfl ?_
            obtain ⟨I60, e1, h⟩ := bnd h
            refine G_putI cd179_344 rfl (OM.o hw) (Option.some.inj e1) ?_
            refine g_goto (ls2 := [some (.ref 204), some (.int l1), some (.int l2), some (.int 0), none]) cd179_347 rfl rfl ?_
            exact ih l1 l2 0 I60 J h
        · have h := ifnE hb h
          refine g_aload_n cd179_287 rfl rfl ?_
          refine g_ldc2_w cd179_288 rfl ?_
          refine g_aload_n cd179_291 rfl rfl ?_
          refine g_getJ cd179_292 rfl (OM.o hw) ?_
          refine g_lmul cd179_295 rfl ?_
          refine g_iload cd179_296 rfl rfl ?_
          refine g_i2l cd179_298 rfl ?_
          refine g_ladd cd179_299 rfl ?_
          refine g_ldc2_w cd179_300 rfl ?_
          refine g_lsub cd179_303 rfl ?_
          obtain ⟨J61, e1, h⟩ := bnd h
          refine G_putJ cd179_304 rfl (OM.o hw) (Option.some.inj e1) ?_
          refine g_aload_n cd179_307 rfl rfl ?_
          refine g_getI cd179_308 rfl (OM.o hw) ?_
          refine g_aload_n cd179_311 rfl rfl ?_
          refine g_getI cd179_312 rfl (OM.o hw) ?_
          refine g_isub cd179_315 rfl ?_
          refine g_iconst cd179_316 rfl ?_
          refine g_icmp_ge cd179_317 rfl (fun hb => ?_) (fun hb => ?_)
          · have h := ifpE hb h
            refine g_aload_n cd179_337 rfl rfl ?_
            refine g_dupR cd179_338 rfl ?_
            refine g_getI cd179_339 rfl (OM.o hw) ?_
            refine g_iconst cd179_342 rfl ?_
            refine g_iadd cd179_343 rfl ?_
            obtain ⟨I62, e1, h⟩ := bnd h
            refine G_putI cd179_344 rfl (OM.o hw) (Option.some.inj e1) ?_
            refine g_goto (ls2 := [some (.ref 204), some (.int l1), some (.int l2), some (.int 0), none]) cd179_347 rfl rfl ?_
            exact ih l1 l2 0 I62 J61 h
          · have h := ifnE hb h
            refine g_aload_n cd179_320 rfl rfl ?_
            refine g_bipush cd179_321 rfl ?_
            refine g_aload_n cd179_323 rfl rfl ?_
            refine g_getI cd179_324 rfl (OM.o hw) ?_
            refine g_imul cd179_327 rfl ?_
            refine g_iload cd179_328 rfl rfl ?_
            refine g_iadd cd179_330 rfl ?_
            refine g_bipush cd179_331 rfl ?_
            refine g_isub cd179_333 rfl ?_
            obtain ⟨I63, e1, h⟩ := bnd h
            refine G_putI cd179_334 rfl (OM.o hw) (Option.some.inj e1) ?_
            refine g_aload_n cd179_337 rfl rfl ?_
            refine g_dupR cd179_338 rfl ?_
            refine g_getI cd179_339 rfl (OM.o hw) ?_
            refine g_iconst cd179_342 rfl ?_
            refine g_iadd cd179_343 rfl ?_
            obtain ⟨I64, e1, h⟩ := bnd h
            refine G_putI cd179_344 rfl (OM.o hw) (Option.some.inj e1) ?_
            refine g_goto (ls2 := [some (.ref 204), some (.int l1), some (.int l2), some (.int 0), none]) cd179_347 rfl rfl ?_
            exact ih l1 l2 0 I64 J61 h
      · have h := ifnE hb h
        refine g_iload cd179_258 rfl rfl ?_
        refine g_callSZ (L := [some (.int (I 205 ((I 204 5).toNatClampNeg)))]) cd179_260 rfl rfl rfl rfl rfl (t_Mod_isLetter (by omega)  rfl) ?_
        refine g_iload_n cd179_263 rfl rfl ?_
        refine g_icmp_ne cd179_264 rfl (fun hb => ?_) (fun hb => ?_)
        · have h := ifpE hb h
          refine g_iconst cd179_267 rfl ?_
          refine g_goto (ls2 := [some (.ref 204), some (.int l1), some (.int l2), some (.int l3), some (.int (I 205 ((I 204 5).toNatClampNeg)))]) cd179_268 rfl rfl ?_
          refine g_istore_n (ls2 := [some (.ref 204), some (.int l1), some (.int l2), some (.int 1), some (.int (I 205 ((I 204 5).toNatClampNeg)))]) cd179_272 rfl rfl ?_
          refine g_aload_n cd179_273 rfl rfl ?_
          refine g_getI cd179_274 rfl (OM.o hw) ?_
          refine g_aload_n cd179_277 rfl rfl ?_
          refine g_getI cd179_278 rfl (OM.o hw) ?_
          refine g_isub cd179_281 rfl ?_
          refine g_bipush cd179_282 rfl ?_
          refine g_icmp_ge cd179_284 rfl (fun hb => ?_) (fun hb => ?_)
          · have h := ifpE hb h
            refine g_aload_n cd179_307 rfl rfl ?_
            refine g_getI cd179_308 rfl (OM.o hw) ?_
            refine g_aload_n cd179_311 rfl rfl ?_
            refine g_getI cd179_312 rfl (OM.o hw) ?_
            refine g_isub cd179_315 rfl ?_
            refine g_iconst cd179_316 rfl ?_
            refine g_icmp_ge cd179_317 rfl (fun hb => ?_) (fun hb => ?_)
            · have h := ifpE hb h
              refine g_aload_n cd179_337 rfl rfl ?_
              refine g_dupR cd179_338 rfl ?_
              refine g_getI cd179_339 rfl (OM.o hw) ?_
              refine g_iconst cd179_342 rfl ?_
              refine g_iadd cd179_343 rfl ?_
              obtain ⟨I65, e1, h⟩ := bnd h
              refine G_putI cd179_344 rfl (OM.o hw) (Option.some.inj e1) ?_
              refine g_goto (ls2 := [some (.ref 204), some (.int l1), some (.int l2), some (.int 1), none]) cd179_347 rfl rfl ?_
              exact ih l1 l2 1 I65 J h
            · have h := ifnE hb h
              refine g_aload_n cd179_320 rfl rfl ?_
              refine g_bipush cd179_321 rfl ?_
              refine g_aload_n cd179_323 rfl rfl ?_
              refine g_getI cd179_324 rfl (OM.o hw) ?_
              refine g_imul cd179_327 rfl ?_
              refine g_iload cd179_328 rfl rfl ?_
              refine g_iadd cd179_330 rfl ?_
              refine g_bipush cd179_331 rfl ?_
              refine g_isub cd179_333 rfl ?_
              obtain ⟨I66, e1, h⟩ := bnd h
              refine G_putI cd179_334 rfl (OM.o hw) (Option.some.inj e1) ?_
              refine g_aload_n cd179_337 rfl rfl ?_
              refine g_dupR cd179_338 rfl ?_
              refine g_getI cd179_339 rfl (OM.o hw) ?_
              refine g_iconst cd179_342 rfl ?_
              refine g_iadd cd179_343 rfl ?_
              obtain ⟨I67, e1, h⟩ := bnd h
              refine G_putI cd179_344 rfl (OM.o hw) (Option.some.inj e1) ?_
              refine g_goto (ls2 := [some (.ref 204), some (.int l1), some (.int l2), some (.int 1), none]) cd179_347 rfl rfl ?_
              exact ih l1 l2 1 I67 J h
          · have h := ifnE hb h
            refine g_aload_n cd179_287 rfl rfl ?_
            refine g_ldc2_w cd179_288 rfl ?_
            refine g_aload_n cd179_291 rfl rfl ?_
            refine g_getJ cd179_292 rfl (OM.o hw) ?_
            refine g_lmul cd179_295 rfl ?_
            refine g_iload cd179_296 rfl rfl ?_
            refine g_i2l cd179_298 rfl ?_
            refine g_ladd cd179_299 rfl ?_
            refine g_ldc2_w cd179_300 rfl ?_
            refine g_lsub cd179_303 rfl ?_
            obtain ⟨J68, e1, h⟩ := bnd h
            refine G_putJ cd179_304 rfl (OM.o hw) (Option.some.inj e1) ?_
            refine g_aload_n cd179_307 rfl rfl ?_
            refine g_getI cd179_308 rfl (OM.o hw) ?_
            refine g_aload_n cd179_311 rfl rfl ?_
            refine g_getI cd179_312 rfl (OM.o hw) ?_
            refine g_isub cd179_315 rfl ?_
            refine g_iconst cd179_316 rfl ?_
            refine g_icmp_ge cd179_317 rfl (fun hb => ?_) (fun hb => ?_)
            · have h := ifpE hb h
              refine g_aload_n cd179_337 rfl rfl ?_
              refine g_dupR cd179_338 rfl ?_
              refine g_getI cd179_339 rfl (OM.o hw) ?_
              refine g_iconst cd179_342 rfl ?_
              refine g_iadd cd179_343 rfl ?_
              obtain ⟨I69, e1, h⟩ := bnd h
              refine G_putI cd179_344 rfl (OM.o hw) (Option.some.inj e1) ?_
              refine g_goto (ls2 := [some (.ref 204), some (.int l1), some (.int l2), some (.int 1), none]) cd179_347 rfl rfl ?_
              exact ih l1 l2 1 I69 J68 h
            · have h := ifnE hb h
              refine g_aload_n cd179_320 rfl rfl ?_
              refine g_bipush cd179_321 rfl ?_
              refine g_aload_n cd179_323 rfl rfl ?_
              refine g_getI cd179_324 rfl (OM.o hw) ?_
              refine g_imul cd179_327 rfl ?_
              refine g_iload cd179_328 rfl rfl ?_
              refine g_iadd cd179_330 rfl ?_
              refine g_bipush cd179_331 rfl ?_
              refine g_isub cd179_333 rfl ?_
              obtain ⟨I70, e1, h⟩ := bnd h
              refine G_putI cd179_334 rfl (OM.o hw) (Option.some.inj e1) ?_
              refine g_aload_n cd179_337 rfl rfl ?_
              refine g_dupR cd179_338 rfl ?_
              refine g_getI cd179_339 rfl (OM.o hw) ?_
              refine g_iconst cd179_342 rfl ?_
              refine g_iadd cd179_343 rfl ?_
              obtain ⟨I71, e1, h⟩ := bnd h
              refine G_putI cd179_344 rfl (OM.o hw) (Option.some.inj e1) ?_
              refine g_goto (ls2 := [some (.ref 204), some (.int l1), some (.int l2), some (.int 1), none]) cd179_347 rfl rfl ?_
              exact ih l1 l2 1 I71 J68 h
        · have h := ifnE hb h
          refine g_iconst cd179_271 rfl ?_
          refine g_istore_n (ls2 := [some (.ref 204), some (.int l1), some (.int l2), some (.int 0), some (.int (I 205 ((I 204 5).toNatClampNeg)))]) cd179_272 rfl rfl ?_
          refine g_aload_n cd179_273 rfl rfl ?_
          refine g_getI cd179_274 rfl (OM.o hw) ?_
          refine g_aload_n cd179_277 rfl rfl ?_
          refine g_getI cd179_278 rfl (OM.o hw) ?_
          refine g_isub cd179_281 rfl ?_
          refine g_bipush cd179_282 rfl ?_
          refine g_icmp_ge cd179_284 rfl (fun hb => ?_) (fun hb => ?_)
          · have h := ifpE hb h
            refine g_aload_n cd179_307 rfl rfl ?_
            refine g_getI cd179_308 rfl (OM.o hw) ?_
            refine g_aload_n cd179_311 rfl rfl ?_
            refine g_getI cd179_312 rfl (OM.o hw) ?_
            refine g_isub cd179_315 rfl ?_
            refine g_iconst cd179_316 rfl ?_
            refine g_icmp_ge cd179_317 rfl (fun hb => ?_) (fun hb => ?_)
            · have h := ifpE hb h
              refine g_aload_n cd179_337 rfl rfl ?_
              refine g_dupR cd179_338 rfl ?_
              refine g_getI cd179_339 rfl (OM.o hw) ?_
              refine g_iconst cd179_342 rfl ?_
              refine g_iadd cd179_343 rfl ?_
              obtain ⟨I72, e1, h⟩ := bnd h
              refine G_putI cd179_344 rfl (OM.o hw) (Option.some.inj e1) ?_
              refine g_goto (ls2 := [some (.ref 204), some (.int l1), some (.int l2), some (.int 0), none]) cd179_347 rfl rfl ?_
              exact ih l1 l2 0 I72 J h
            · have h := ifnE hb h
              refine g_aload_n cd179_320 rfl rfl ?_
              refine g_bipush cd179_321 rfl ?_
              refine g_aload_n cd179_323 rfl rfl ?_
              refine g_getI cd179_324 rfl (OM.o hw) ?_
              refine g_imul cd179_327 rfl ?_
              refine g_iload cd179_328 rfl rfl ?_
              refine g_iadd cd179_330 rfl ?_
              refine g_bipush cd179_331 rfl ?_
              refine g_isub cd179_333 rfl ?_
              obtain ⟨I73, e1, h⟩ := bnd h
              refine G_putI cd179_334 rfl (OM.o hw) (Option.some.inj e1) ?_
              refine g_aload_n cd179_337 rfl rfl ?_
              refine g_dupR cd179_338 rfl ?_
              refine g_getI cd179_339 rfl (OM.o hw) ?_
              refine g_iconst cd179_342 rfl ?_
              refine g_iadd cd179_343 rfl ?_
              obtain ⟨I74, e1, h⟩ := bnd h
              refine G_putI cd179_344 rfl (OM.o hw) (Option.some.inj e1) ?_
              refine g_goto (ls2 := [some (.ref 204), some (.int l1), some (.int l2), some (.int 0), none]) cd179_347 rfl rfl ?_
              exact ih l1 l2 0 I74 J h
          · have h := ifnE hb h
            refine g_aload_n cd179_287 rfl rfl ?_
            refine g_ldc2_w cd179_288 rfl ?_
            refine g_aload_n cd179_291 rfl rfl ?_
            refine g_getJ cd179_292 rfl (OM.o hw) ?_
            refine g_lmul cd179_295 rfl ?_
            refine g_iload cd179_296 rfl rfl ?_
            refine g_i2l cd179_298 rfl ?_
            refine g_ladd cd179_299 rfl ?_
            refine g_ldc2_w cd179_300 rfl ?_
            refine g_lsub cd179_303 rfl ?_
            obtain ⟨J75, e1, h⟩ := bnd h
            refine G_putJ cd179_304 rfl (OM.o hw) (Option.some.inj e1) ?_
            refine g_aload_n cd179_307 rfl rfl ?_
            refine g_getI cd179_308 rfl (OM.o hw) ?_
            refine g_aload_n cd179_311 rfl rfl ?_
            refine g_getI cd179_312 rfl (OM.o hw) ?_
            refine g_isub cd179_315 rfl ?_
            refine g_iconst cd179_316 rfl ?_
            refine g_icmp_ge cd179_317 rfl (fun hb => ?_) (fun hb => ?_)
            · have h := ifpE hb h
              refine g_aload_n cd179_337 rfl rfl ?_
              refine g_dupR cd179_338 rfl ?_
              refine g_getI cd179_339 rfl (OM.o hw) ?_
              refine g_iconst cd179_342 rfl ?_
              refine g_iadd cd179_343 rfl ?_
              obtain ⟨I76, e1, h⟩ := bnd h
              refine G_putI cd179_344 rfl (OM.o hw) (Option.some.inj e1) ?_
              refine g_goto (ls2 := [some (.ref 204), some (.int l1), some (.int l2), some (.int 0), none]) cd179_347 rfl rfl ?_
              exact ih l1 l2 0 I76 J75 h
            · have h := ifnE hb h
              refine g_aload_n cd179_320 rfl rfl ?_
              refine g_bipush cd179_321 rfl ?_
              refine g_aload_n cd179_323 rfl rfl ?_
              refine g_getI cd179_324 rfl (OM.o hw) ?_
              refine g_imul cd179_327 rfl ?_
              refine g_iload cd179_328 rfl rfl ?_
              refine g_iadd cd179_330 rfl ?_
              refine g_bipush cd179_331 rfl ?_
              refine g_isub cd179_333 rfl ?_
              obtain ⟨I77, e1, h⟩ := bnd h
              refine G_putI cd179_334 rfl (OM.o hw) (Option.some.inj e1) ?_
              refine g_aload_n cd179_337 rfl rfl ?_
              refine g_dupR cd179_338 rfl ?_
              refine g_getI cd179_339 rfl (OM.o hw) ?_
              refine g_iconst cd179_342 rfl ?_
              refine g_iadd cd179_343 rfl ?_
              obtain ⟨I78, e1, h⟩ := bnd h
              refine G_putI cd179_344 rfl (OM.o hw) (Option.some.inj e1) ?_
              refine g_goto (ls2 := [some (.ref 204), some (.int l1), some (.int l2), some (.int 0), none]) cd179_347 rfl rfl ?_
              exact ih l1 l2 0 I78 J75 h
set_option maxRecDepth 8000 in
theorem t_Mod_go_0 {d : Nat} {N : Nat} {c : Nat × Nat} {S : Nat → Nat × Nat} {P : Nat → Nat → Option Nat} {r : FI × FJ} (hd : 1 ≤ (d + 1)) (hw : OM S P) : ∀ (n : Nat) (I : FI) (J : FJ), Mod_go_0 N n I J = some r → Go (d + 1) M_Mod_go 0 [some (.ref 204), none, none, none, none] [] (c, S, I, J, P) (none, false, (c, S, r.1, r.2, P)) := by
  intro n
  induction n with
  | zero =>
    intro  I J h
    cases h
  | succ n ih =>
    intro  I J h
    unfold Mod_go_0 at h
    refine g_aload_n cd179_0 rfl rfl ?_
    refine g_getI cd179_1 rfl (OM.o hw) ?_
    refine g_aload_n cd179_4 rfl rfl ?_
    refine g_getI cd179_5 rfl (OM.o hw) ?_
    refine g_icmp_ge cd179_8 rfl (fun hb => ?_) (fun hb => ?_)
    · have h := ifpE hb h
      refine g_aload_n cd179_52 rfl rfl ?_
      refine g_aload_n cd179_53 rfl rfl ?_
      refine g_getI cd179_54 rfl (OM.o hw) ?_
      obtain ⟨I113, e1, h⟩ := bnd h
      refine G_putI cd179_57 rfl (OM.o hw) (Option.some.inj e1) ?_
      refine g_aload_n cd179_60 rfl rfl ?_
      refine g_getI cd179_61 rfl (OM.o hw) ?_
      refine g_aload_n cd179_64 rfl rfl ?_
      refine g_getI cd179_65 rfl (OM.o hw) ?_
      refine g_icmp_le cd179_68 rfl (fun hb => ?_) (fun hb => ?_)
      · have h := ifpE hb h
        refine g_aload_n cd179_96 rfl rfl ?_
        refine g_getI cd179_97 rfl (OM.o hw) ?_
        refine g_aload_n cd179_100 rfl rfl ?_
        refine g_getI cd179_101 rfl (OM.o hw) ?_
        refine g_icmp_lt cd179_104 rfl (fun hb => ?_) (fun hb => ?_)
        · have h := ifpE hb h
          refine g_aload_n cd179_113 rfl rfl ?_
          refine g_getP cd179_114 rfl (OM.o hw) (OM.p1 hw) ?_
          refine g_aload_n cd179_117 rfl rfl ?_
          refine g_getI cd179_118 rfl (OM.o hw) ?_
          obtain ⟨hg114, h⟩ := grd h
          refine G_iald cd179_121 rfl (OM.s1 hw) hg114 ?_
          refine g_istore_n (ls2 := [some (.ref 204), some (.int (I113 205 ((I113 204 5).toNatClampNeg))), none, none, none]) cd179_122 rfl rfl ?_
          refine g_iload_n cd179_123 rfl rfl ?_
          refine g_callSZ (L := [some (.int (I113 205 ((I113 204 5).toNatClampNeg)))]) cd179_124 rfl rfl rfl rfl rfl (t_Mod_isLetter (by omega)  rfl) ?_
          refine g_if_ne cd179_127 rfl (fun hb => ?_) (fun hb => ?_)
          · have h := ifnE (b2i_f hb) h
            refine g_iload_n cd179_130 rfl rfl ?_
            refine g_callSZ (L := [some (.int (I113 205 ((I113 204 5).toNatClampNeg)))]) cd179_131 rfl rfl rfl rfl rfl (t_Mod_isDigit (by omega)  rfl) ?_
            refine g_if_ne cd179_134 rfl (fun hb => ?_) (fun hb => ?_)
            · have h := ifnE (b2i_f hb) h
              refine g_aload_n cd179_137 rfl rfl ?_
              refine g_iload_n cd179_138 rfl rfl ?_
              refine g_bipush cd179_139 rfl ?_
              refine g_icmp_eq cd179_141 rfl (fun hb => ?_) (fun hb => ?_)
              · have h := ifpE hb h
                refine g_iconst cd179_174 rfl ?_
                refine g_goto (ls2 := [some (.ref 204), some (.int (I113 205 ((I113 204 5).toNatClampNeg))), none, none, none]) cd179_175 rfl rfl ?_
                obtain ⟨I115, e1, h⟩ := bnd h
                refine G_putI cd179_179 rfl (OM.o hw) (Option.some.inj e1) ?_
                refine g_aload_n cd179_182 rfl rfl ?_
                refine g_iload_n cd179_183 rfl rfl ?_
                obtain ⟨I116, e1, h⟩ := bnd h
                refine G_putI cd179_184 rfl (OM.o hw) (Option.some.inj e1) ?_
                refine g_aload_n cd179_187 rfl rfl ?_
                refine g_dupR cd179_188 rfl ?_
                refine g_getI cd179_189 rfl (OM.o hw) ?_
                refine g_iconst cd179_192 rfl ?_
                refine g_iadd cd179_193 rfl ?_
                obtain ⟨I117, e1, h⟩ := bnd h
                refine G_putI cd179_194 rfl (OM.o hw) (Option.some.inj e1) ?_
                exact g_vret cd179_197 (by obtain rfl := Option.some.inj h; rfl)
              · have h := ifnE hb h
                refine g_iload_n cd179_144 rfl rfl ?_
                refine g_bipush cd179_145 rfl ?_
                refine g_icmp_eq cd179_147 rfl (fun hb => ?_) (fun hb => ?_)
                · have h := ifpE hb h
                  refine g_iconst cd179_174 rfl ?_
                  refine g_goto (ls2 := [some (.ref 204), some (.int (I113 205 ((I113 204 5).toNatClampNeg))), none, none, none]) cd179_175 rfl rfl ?_
                  obtain ⟨I118, e1, h⟩ := bnd h
                  refine G_putI cd179_179 rfl (OM.o hw) (Option.some.inj e1) ?_
                  refine g_aload_n cd179_182 rfl rfl ?_
                  refine g_iload_n cd179_183 rfl rfl ?_
                  obtain ⟨I119, e1, h⟩ := bnd h
                  refine G_putI cd179_184 rfl (OM.o hw) (Option.some.inj e1) ?_
                  refine g_aload_n cd179_187 rfl rfl ?_
                  refine g_dupR cd179_188 rfl ?_
                  refine g_getI cd179_189 rfl (OM.o hw) ?_
                  refine g_iconst cd179_192 rfl ?_
                  refine g_iadd cd179_193 rfl ?_
                  obtain ⟨I120, e1, h⟩ := bnd h
                  refine G_putI cd179_194 rfl (OM.o hw) (Option.some.inj e1) ?_
                  exact g_vret cd179_197 (by obtain rfl := Option.some.inj h; rfl)
                · have h := ifnE hb h
                  refine g_iload_n cd179_150 rfl rfl ?_
                  refine g_bipush cd179_151 rfl ?_
                  refine g_icmp_eq cd179_153 rfl (fun hb => ?_) (fun hb => ?_)
                  · have h := ifpE hb h
                    refine g_iconst cd179_174 rfl ?_
                    refine g_goto (ls2 := [some (.ref 204), some (.int (I113 205 ((I113 204 5).toNatClampNeg))), none, none, none]) cd179_175 rfl rfl ?_
                    obtain ⟨I121, e1, h⟩ := bnd h
                    refine G_putI cd179_179 rfl (OM.o hw) (Option.some.inj e1) ?_
                    refine g_aload_n cd179_182 rfl rfl ?_
                    refine g_iload_n cd179_183 rfl rfl ?_
                    obtain ⟨I122, e1, h⟩ := bnd h
                    refine G_putI cd179_184 rfl (OM.o hw) (Option.some.inj e1) ?_
                    refine g_aload_n cd179_187 rfl rfl ?_
                    refine g_dupR cd179_188 rfl ?_
                    refine g_getI cd179_189 rfl (OM.o hw) ?_
                    refine g_iconst cd179_192 rfl ?_
                    refine g_iadd cd179_193 rfl ?_
                    obtain ⟨I123, e1, h⟩ := bnd h
                    refine G_putI cd179_194 rfl (OM.o hw) (Option.some.inj e1) ?_
                    exact g_vret cd179_197 (by obtain rfl := Option.some.inj h; rfl)
                  · have h := ifnE hb h
                    refine g_iload_n cd179_156 rfl rfl ?_
                    refine g_bipush cd179_157 rfl ?_
                    refine g_icmp_eq cd179_159 rfl (fun hb => ?_) (fun hb => ?_)
                    · have h := ifpE hb h
                      refine g_iconst cd179_174 rfl ?_
                      refine g_goto (ls2 := [some (.ref 204), some (.int (I113 205 ((I113 204 5).toNatClampNeg))), none, none, none]) cd179_175 rfl rfl ?_
                      obtain ⟨I124, e1, h⟩ := bnd h
                      refine G_putI cd179_179 rfl (OM.o hw) (Option.some.inj e1) ?_
                      refine g_aload_n cd179_182 rfl rfl ?_
                      refine g_iload_n cd179_183 rfl rfl ?_
                      obtain ⟨I125, e1, h⟩ := bnd h
                      refine G_putI cd179_184 rfl (OM.o hw) (Option.some.inj e1) ?_
                      refine g_aload_n cd179_187 rfl rfl ?_
                      refine g_dupR cd179_188 rfl ?_
                      refine g_getI cd179_189 rfl (OM.o hw) ?_
                      refine g_iconst cd179_192 rfl ?_
                      refine g_iadd cd179_193 rfl ?_
                      obtain ⟨I126, e1, h⟩ := bnd h
                      refine G_putI cd179_194 rfl (OM.o hw) (Option.some.inj e1) ?_
                      exact g_vret cd179_197 (by obtain rfl := Option.some.inj h; rfl)
                    · have h := ifnE hb h
                      refine g_iload_n cd179_162 rfl rfl ?_
                      refine g_bipush cd179_163 rfl ?_
                      refine g_icmp_eq cd179_165 rfl (fun hb => ?_) (fun hb => ?_)
                      · have h := ifpE hb h
                        refine g_iconst cd179_174 rfl ?_
                        refine g_goto (ls2 := [some (.ref 204), some (.int (I113 205 ((I113 204 5).toNatClampNeg))), none, none, none]) cd179_175 rfl rfl ?_
                        obtain ⟨I127, e1, h⟩ := bnd h
                        refine G_putI cd179_179 rfl (OM.o hw) (Option.some.inj e1) ?_
                        refine g_aload_n cd179_182 rfl rfl ?_
                        refine g_iload_n cd179_183 rfl rfl ?_
                        obtain ⟨I128, e1, h⟩ := bnd h
                        refine G_putI cd179_184 rfl (OM.o hw) (Option.some.inj e1) ?_
                        refine g_aload_n cd179_187 rfl rfl ?_
                        refine g_dupR cd179_188 rfl ?_
                        refine g_getI cd179_189 rfl (OM.o hw) ?_
                        refine g_iconst cd179_192 rfl ?_
                        refine g_iadd cd179_193 rfl ?_
                        obtain ⟨I129, e1, h⟩ := bnd h
                        refine G_putI cd179_194 rfl (OM.o hw) (Option.some.inj e1) ?_
                        exact g_vret cd179_197 (by obtain rfl := Option.some.inj h; rfl)
                      · have h := ifnE hb h
                        refine g_iload_n cd179_168 rfl rfl ?_
                        refine g_bipush cd179_169 rfl ?_
                        refine g_icmp_ne cd179_171 rfl (fun hb => ?_) (fun hb => ?_)
                        · have h := ifpE hb h
                          refine g_iconst cd179_174 rfl ?_
                          refine g_goto (ls2 := [some (.ref 204), some (.int (I113 205 ((I113 204 5).toNatClampNeg))), none, none, none]) cd179_175 rfl rfl ?_
                          obtain ⟨I130, e1, h⟩ := bnd h
                          refine G_putI cd179_179 rfl (OM.o hw) (Option.some.inj e1) ?_
                          refine g_aload_n cd179_182 rfl rfl ?_
                          refine g_iload_n cd179_183 rfl rfl ?_
                          obtain ⟨I131, e1, h⟩ := bnd h
                          refine G_putI cd179_184 rfl (OM.o hw) (Option.some.inj e1) ?_
                          refine g_aload_n cd179_187 rfl rfl ?_
                          refine g_dupR cd179_188 rfl ?_
                          refine g_getI cd179_189 rfl (OM.o hw) ?_
                          refine g_iconst cd179_192 rfl ?_
                          refine g_iadd cd179_193 rfl ?_
                          obtain ⟨I132, e1, h⟩ := bnd h
                          refine G_putI cd179_194 rfl (OM.o hw) (Option.some.inj e1) ?_
                          exact g_vret cd179_197 (by obtain rfl := Option.some.inj h; rfl)
                        · have h := ifnE hb h
                          refine g_iconst cd179_178 rfl ?_
                          obtain ⟨I133, e1, h⟩ := bnd h
                          refine G_putI cd179_179 rfl (OM.o hw) (Option.some.inj e1) ?_
                          refine g_aload_n cd179_182 rfl rfl ?_
                          refine g_iload_n cd179_183 rfl rfl ?_
                          obtain ⟨I134, e1, h⟩ := bnd h
                          refine G_putI cd179_184 rfl (OM.o hw) (Option.some.inj e1) ?_
                          refine g_aload_n cd179_187 rfl rfl ?_
                          refine g_dupR cd179_188 rfl ?_
                          refine g_getI cd179_189 rfl (OM.o hw) ?_
                          refine g_iconst cd179_192 rfl ?_
                          refine g_iadd cd179_193 rfl ?_
                          obtain ⟨I135, e1, h⟩ := bnd h
                          refine G_putI cd179_194 rfl (OM.o hw) (Option.some.inj e1) ?_
                          exact g_vret cd179_197 (by obtain rfl := Option.some.inj h; rfl)
            · have h := ifpE (b2i_t hb) h
              refine g_iload_n cd179_198 rfl rfl ?_
              refine g_callSZ (L := [some (.int (I113 205 ((I113 204 5).toNatClampNeg)))]) cd179_199 rfl rfl rfl rfl rfl (t_Mod_isLetter (by omega)  rfl) ?_
              refine g_istore_n (ls2 := [some (.ref 204), some (.int (I113 205 ((I113 204 5).toNatClampNeg))), some (.int (b2i (Mod_isLetter (I113 205 ((I113 204 5).toNatClampNeg))))), none, none]) cd179_202 rfl rfl ?_
              refine g_iconst cd179_203 rfl ?_
              refine g_istore_n (ls2 := [some (.ref 204), some (.int (I113 205 ((I113 204 5).toNatClampNeg))), some (.int (b2i (Mod_isLetter (I113 205 ((I113 204 5).toNatClampNeg))))), some (.int 1), none]) cd179_204 rfl rfl ?_
              refine g_aload_n cd179_205 rfl rfl ?_
              refine g_lconst cd179_206 rfl ?_
              obtain ⟨J136, e1, h⟩ := bnd h
              refine G_putJ cd179_207 rfl (OM.o hw) (Option.some.inj e1) ?_
              refine g_aload_n cd179_210 rfl rfl ?_
              refine g_iconst cd179_211 rfl ?_
              obtain ⟨I137, e1, h⟩ := bnd h
              refine G_putI cd179_212 rfl (OM.o hw) (Option.some.inj e1) ?_
              exact t_Mod_go_215 hd hw _ (I113 205 ((I113 204 5).toNatClampNeg)) (b2i (Mod_isLetter (I113 205 ((I113 204 5).toNatClampNeg)))) 1 I137 J136 h
          · have h := ifpE (b2i_t hb) h
            refine g_iload_n cd179_198 rfl rfl ?_
            refine g_callSZ (L := [some (.int (I113 205 ((I113 204 5).toNatClampNeg)))]) cd179_199 rfl rfl rfl rfl rfl (t_Mod_isLetter (by omega)  rfl) ?_
            refine g_istore_n (ls2 := [some (.ref 204), some (.int (I113 205 ((I113 204 5).toNatClampNeg))), some (.int (b2i (Mod_isLetter (I113 205 ((I113 204 5).toNatClampNeg))))), none, none]) cd179_202 rfl rfl ?_
            refine g_iconst cd179_203 rfl ?_
            refine g_istore_n (ls2 := [some (.ref 204), some (.int (I113 205 ((I113 204 5).toNatClampNeg))), some (.int (b2i (Mod_isLetter (I113 205 ((I113 204 5).toNatClampNeg))))), some (.int 1), none]) cd179_204 rfl rfl ?_
            refine g_aload_n cd179_205 rfl rfl ?_
            refine g_lconst cd179_206 rfl ?_
            obtain ⟨J138, e1, h⟩ := bnd h
            refine G_putJ cd179_207 rfl (OM.o hw) (Option.some.inj e1) ?_
            refine g_aload_n cd179_210 rfl rfl ?_
            refine g_iconst cd179_211 rfl ?_
            obtain ⟨I139, e1, h⟩ := bnd h
            refine G_putI cd179_212 rfl (OM.o hw) (Option.some.inj e1) ?_
            exact t_Mod_go_215 hd hw _ (I113 205 ((I113 204 5).toNatClampNeg)) (b2i (Mod_isLetter (I113 205 ((I113 204 5).toNatClampNeg)))) 1 I139 J138 h
        · have h := ifnE hb h
          refine g_aload_n cd179_107 rfl rfl ?_
          refine g_iconst cd179_108 rfl ?_
          obtain ⟨I140, e1, h⟩ := bnd h
          refine G_putI cd179_109 rfl (OM.o hw) (Option.some.inj e1) ?_
          exact g_vret cd179_112 (by obtain rfl := Option.some.inj h; rfl)
      · have h := ifnE hb h
        refine g_aload_n cd179_71 rfl rfl ?_
        refine g_getI cd179_72 rfl (OM.o hw) ?_
        refine g_aload_n cd179_75 rfl rfl ?_
        refine g_getI cd179_76 rfl (OM.o hw) ?_
        refine g_icmp_lt cd179_79 rfl (fun hb => ?_) (fun hb => ?_)
        · have h := ifpE hb h
          refine g_aload_n cd179_96 rfl rfl ?_
          refine g_getI cd179_97 rfl (OM.o hw) ?_
          refine g_aload_n cd179_100 rfl rfl ?_
          refine g_getI cd179_101 rfl (OM.o hw) ?_
          refine g_icmp_lt cd179_104 rfl (fun hb => ?_) (fun hb => ?_)
          · have h := ifpE hb h
            refine g_aload_n cd179_113 rfl rfl ?_
            refine g_getP cd179_114 rfl (OM.o hw) (OM.p1 hw) ?_
            refine g_aload_n cd179_117 rfl rfl ?_
            refine g_getI cd179_118 rfl (OM.o hw) ?_
            obtain ⟨hg141, h⟩ := grd h
            refine G_iald cd179_121 rfl (OM.s1 hw) hg141 ?_
            refine g_istore_n (ls2 := [some (.ref 204), some (.int (I113 205 ((I113 204 5).toNatClampNeg))), none, none, none]) cd179_122 rfl rfl ?_
            refine g_iload_n cd179_123 rfl rfl ?_
            refine g_callSZ (L := [some (.int (I113 205 ((I113 204 5).toNatClampNeg)))]) cd179_124 rfl rfl rfl rfl rfl (t_Mod_isLetter (by omega)  rfl) ?_
            refine g_if_ne cd179_127 rfl (fun hb => ?_) (fun hb => ?_)
            · have h := ifnE (b2i_f hb) h
              refine g_iload_n cd179_130 rfl rfl ?_
              refine g_callSZ (L := [some (.int (I113 205 ((I113 204 5).toNatClampNeg)))]) cd179_131 rfl rfl rfl rfl rfl (t_Mod_isDigit (by omega)  rfl) ?_
              refine g_if_ne cd179_134 rfl (fun hb => ?_) (fun hb => ?_)
              · have h := ifnE (b2i_f hb) h
                refine g_aload_n cd179_137 rfl rfl ?_
                refine g_iload_n cd179_138 rfl rfl ?_
                refine g_bipush cd179_139 rfl ?_
                refine g_icmp_eq cd179_141 rfl (fun hb => ?_) (fun hb => ?_)
                · have h := ifpE hb h
                  refine g_iconst cd179_174 rfl ?_
                  refine g_goto (ls2 := [some (.ref 204), some (.int (I113 205 ((I113 204 5).toNatClampNeg))), none, none, none]) cd179_175 rfl rfl ?_
                  obtain ⟨I142, e1, h⟩ := bnd h
                  refine G_putI cd179_179 rfl (OM.o hw) (Option.some.inj e1) ?_
                  refine g_aload_n cd179_182 rfl rfl ?_
                  refine g_iload_n cd179_183 rfl rfl ?_
                  obtain ⟨I143, e1, h⟩ := bnd h
                  refine G_putI cd179_184 rfl (OM.o hw) (Option.some.inj e1) ?_
                  refine g_aload_n cd179_187 rfl rfl ?_
                  refine g_dupR cd179_188 rfl ?_
                  refine g_getI cd179_189 rfl (OM.o hw) ?_
                  refine g_iconst cd179_192 rfl ?_
                  refine g_iadd cd179_193 rfl ?_
                  obtain ⟨I144, e1, h⟩ := bnd h
                  refine G_putI cd179_194 rfl (OM.o hw) (Option.some.inj e1) ?_
                  exact g_vret cd179_197 (by obtain rfl := Option.some.inj h; rfl)
                · have h := ifnE hb h
                  refine g_iload_n cd179_144 rfl rfl ?_
                  refine g_bipush cd179_145 rfl ?_
                  refine g_icmp_eq cd179_147 rfl (fun hb => ?_) (fun hb => ?_)
                  · have h := ifpE hb h
                    refine g_iconst cd179_174 rfl ?_
                    refine g_goto (ls2 := [some (.ref 204), some (.int (I113 205 ((I113 204 5).toNatClampNeg))), none, none, none]) cd179_175 rfl rfl ?_
                    obtain ⟨I145, e1, h⟩ := bnd h
                    refine G_putI cd179_179 rfl (OM.o hw) (Option.some.inj e1) ?_
                    refine g_aload_n cd179_182 rfl rfl ?_
                    refine g_iload_n cd179_183 rfl rfl ?_
                    obtain ⟨I146, e1, h⟩ := bnd h
                    refine G_putI cd179_184 rfl (OM.o hw) (Option.some.inj e1) ?_
                    refine g_aload_n cd179_187 rfl rfl ?_
                    refine g_dupR cd179_188 rfl ?_
                    refine g_getI cd179_189 rfl (OM.o hw) ?_
                    refine g_iconst cd179_192 rfl ?_
                    refine g_iadd cd179_193 rfl ?_
                    obtain ⟨I147, e1, h⟩ := bnd h
                    refine G_putI cd179_194 rfl (OM.o hw) (Option.some.inj e1) ?_
                    exact g_vret cd179_197 (by obtain rfl := Option.some.inj h; rfl)
                  · have h := ifnE hb h
                    refine g_iload_n cd179_150 rfl rfl ?_
                    refine g_bipush cd179_151 rfl ?_
                    refine g_icmp_eq cd179_153 rfl (fun hb => ?_) (fun hb => ?_)
                    · have h := ifpE hb h
                      refine g_iconst cd179_174 rfl ?_
                      refine g_goto (ls2 := [some (.ref 204), some (.int (I113 205 ((I113 204 5).toNatClampNeg))), none, none, none]) cd179_175 rfl rfl ?_
                      obtain ⟨I148, e1, h⟩ := bnd h
                      refine G_putI cd179_179 rfl (OM.o hw) (Option.some.inj e1) ?_
                      refine g_aload_n cd179_182 rfl rfl ?_
                      refine g_iload_n cd179_183 rfl rfl ?_
                      obtain ⟨I149, e1, h⟩ := bnd h
                      refine G_putI cd179_184 rfl (OM.o hw) (Option.some.inj e1) ?_
                      refine g_aload_n cd179_187 rfl rfl ?_
                      refine g_dupR cd179_188 rfl ?_
                      refine g_getI cd179_189 rfl (OM.o hw) ?_
                      refine g_iconst cd179_192 rfl ?_
                      refine g_iadd cd179_193 rfl ?_
                      obtain ⟨I150, e1, h⟩ := bnd h
                      refine G_putI cd179_194 rfl (OM.o hw) (Option.some.inj e1) ?_
                      exact g_vret cd179_197 (by obtain rfl := Option.some.inj h; rfl)
                    · have h := ifnE hb h
                      refine g_iload_n cd179_156 rfl rfl ?_
                      refine g_bipush cd179_157 rfl ?_
                      refine g_icmp_eq cd179_159 rfl (fun hb => ?_) (fun hb => ?_)
                      · have h := ifpE hb h
                        refine g_iconst cd179_174 rfl ?_
                        refine g_goto (ls2 := [some (.ref 204), some (.int (I113 205 ((I113 204 5).toNatClampNeg))), none, none, none]) cd179_175 rfl rfl ?_
                        obtain ⟨I151, e1, h⟩ := bnd h
                        refine G_putI cd179_179 rfl (OM.o hw) (Option.some.inj e1) ?_
                        refine g_aload_n cd179_182 rfl rfl ?_
                        refine g_iload_n cd179_183 rfl rfl ?_
                        obtain ⟨I152, e1, h⟩ := bnd h
                        refine G_putI cd179_184 rfl (OM.o hw) (Option.some.inj e1) ?_
                        refine g_aload_n cd179_187 rfl rfl ?_
                        refine g_dupR cd179_188 rfl ?_
                        refine g_getI cd179_189 rfl (OM.o hw) ?_
                        refine g_iconst cd179_192 rfl ?_
                        refine g_iadd cd179_193 rfl ?_
                        obtain ⟨I153, e1, h⟩ := bnd h
                        refine G_putI cd179_194 rfl (OM.o hw) (Option.some.inj e1) ?_
                        exact g_vret cd179_197 (by obtain rfl := Option.some.inj h; rfl)
                      · have h := ifnE hb h
                        refine g_iload_n cd179_162 rfl rfl ?_
                        refine g_bipush cd179_163 rfl ?_
                        refine g_icmp_eq cd179_165 rfl (fun hb => ?_) (fun hb => ?_)
                        · have h := ifpE hb h
                          refine g_iconst cd179_174 rfl ?_
                          refine g_goto (ls2 := [some (.ref 204), some (.int (I113 205 ((I113 204 5).toNatClampNeg))), none, none, none]) cd179_175 rfl rfl ?_
                          obtain ⟨I154, e1, h⟩ := bnd h
                          refine G_putI cd179_179 rfl (OM.o hw) (Option.some.inj e1) ?_
                          refine g_aload_n cd179_182 rfl rfl ?_
                          refine g_iload_n cd179_183 rfl rfl ?_
                          obtain ⟨I155, e1, h⟩ := bnd h
                          refine G_putI cd179_184 rfl (OM.o hw) (Option.some.inj e1) ?_
                          refine g_aload_n cd179_187 rfl rfl ?_
                          refine g_dupR cd179_188 rfl ?_
                          refine g_getI cd179_189 rfl (OM.o hw) ?_
                          refine g_iconst cd179_192 rfl ?_
                          refine g_iadd cd179_193 rfl ?_
                          obtain ⟨I156, e1, h⟩ := bnd h
                          refine G_putI cd179_194 rfl (OM.o hw) (Option.some.inj e1) ?_
                          exact g_vret cd179_197 (by obtain rfl := Option.some.inj h; rfl)
                        · have h := ifnE hb h
                          refine g_iload_n cd179_168 rfl rfl ?_
                          refine g_bipush cd179_169 rfl ?_
                          refine g_icmp_ne cd179_171 rfl (fun hb => ?_) (fun hb => ?_)
                          · have h := ifpE hb h
                            refine g_iconst cd179_174 rfl ?_
                            refine g_goto (ls2 := [some (.ref 204), some (.int (I113 205 ((I113 204 5).toNatClampNeg))), none, none, none]) cd179_175 rfl rfl ?_
                            obtain ⟨I157, e1, h⟩ := bnd h
                            refine G_putI cd179_179 rfl (OM.o hw) (Option.some.inj e1) ?_
                            refine g_aload_n cd179_182 rfl rfl ?_
                            refine g_iload_n cd179_183 rfl rfl ?_
                            obtain ⟨I158, e1, h⟩ := bnd h
                            refine G_putI cd179_184 rfl (OM.o hw) (Option.some.inj e1) ?_
                            refine g_aload_n cd179_187 rfl rfl ?_
                            refine g_dupR cd179_188 rfl ?_
                            refine g_getI cd179_189 rfl (OM.o hw) ?_
                            refine g_iconst cd179_192 rfl ?_
                            refine g_iadd cd179_193 rfl ?_
                            obtain ⟨I159, e1, h⟩ := bnd h
                            refine G_putI cd179_194 rfl (OM.o hw) (Option.some.inj e1) ?_
                            exact g_vret cd179_197 (by obtain rfl := Option.some.inj h; rfl)
                          · have h := ifnE hb h
                            refine g_iconst cd179_178 rfl ?_
                            obtain ⟨I160, e1, h⟩ := bnd h
                            refine G_putI cd179_179 rfl (OM.o hw) (Option.some.inj e1) ?_
                            refine g_aload_n cd179_182 rfl rfl ?_
                            refine g_iload_n cd179_183 rfl rfl ?_
                            obtain ⟨I161, e1, h⟩ := bnd h
                            refine G_putI cd179_184 rfl (OM.o hw) (Option.some.inj e1) ?_
                            refine g_aload_n cd179_187 rfl rfl ?_
                            refine g_dupR cd179_188 rfl ?_
                            refine g_getI cd179_189 rfl (OM.o hw) ?_
                            refine g_iconst cd179_192 rfl ?_
                            refine g_iadd cd179_193 rfl ?_
                            obtain ⟨I162, e1, h⟩ := bnd h
                            refine G_putI cd179_194 rfl (OM.o hw) (Option.some.inj e1) ?_
                            exact g_vret cd179_197 (by obtain rfl := Option.some.inj h; rfl)
              · have h := ifpE (b2i_t hb) h
                refine g_iload_n cd179_198 rfl rfl ?_
                refine g_callSZ (L := [some (.int (I113 205 ((I113 204 5).toNatClampNeg)))]) cd179_199 rfl rfl rfl rfl rfl (t_Mod_isLetter (by omega)  rfl) ?_
                refine g_istore_n (ls2 := [some (.ref 204), some (.int (I113 205 ((I113 204 5).toNatClampNeg))), some (.int (b2i (Mod_isLetter (I113 205 ((I113 204 5).toNatClampNeg))))), none, none]) cd179_202 rfl rfl ?_
                refine g_iconst cd179_203 rfl ?_
                refine g_istore_n (ls2 := [some (.ref 204), some (.int (I113 205 ((I113 204 5).toNatClampNeg))), some (.int (b2i (Mod_isLetter (I113 205 ((I113 204 5).toNatClampNeg))))), some (.int 1), none]) cd179_204 rfl rfl ?_
                refine g_aload_n cd179_205 rfl rfl ?_
                refine g_lconst cd179_206 rfl ?_
                obtain ⟨J163, e1, h⟩ := bnd h
                refine G_putJ cd179_207 rfl (OM.o hw) (Option.some.inj e1) ?_
                refine g_aload_n cd179_210 rfl rfl ?_
                refine g_iconst cd179_211 rfl ?_
                obtain ⟨I164, e1, h⟩ := bnd h
                refine G_putI cd179_212 rfl (OM.o hw) (Option.some.inj e1) ?_
                exact t_Mod_go_215 hd hw _ (I113 205 ((I113 204 5).toNatClampNeg)) (b2i (Mod_isLetter (I113 205 ((I113 204 5).toNatClampNeg)))) 1 I164 J163 h
            · have h := ifpE (b2i_t hb) h
              refine g_iload_n cd179_198 rfl rfl ?_
              refine g_callSZ (L := [some (.int (I113 205 ((I113 204 5).toNatClampNeg)))]) cd179_199 rfl rfl rfl rfl rfl (t_Mod_isLetter (by omega)  rfl) ?_
              refine g_istore_n (ls2 := [some (.ref 204), some (.int (I113 205 ((I113 204 5).toNatClampNeg))), some (.int (b2i (Mod_isLetter (I113 205 ((I113 204 5).toNatClampNeg))))), none, none]) cd179_202 rfl rfl ?_
              refine g_iconst cd179_203 rfl ?_
              refine g_istore_n (ls2 := [some (.ref 204), some (.int (I113 205 ((I113 204 5).toNatClampNeg))), some (.int (b2i (Mod_isLetter (I113 205 ((I113 204 5).toNatClampNeg))))), some (.int 1), none]) cd179_204 rfl rfl ?_
              refine g_aload_n cd179_205 rfl rfl ?_
              refine g_lconst cd179_206 rfl ?_
              obtain ⟨J165, e1, h⟩ := bnd h
              refine G_putJ cd179_207 rfl (OM.o hw) (Option.some.inj e1) ?_
              refine g_aload_n cd179_210 rfl rfl ?_
              refine g_iconst cd179_211 rfl ?_
              obtain ⟨I166, e1, h⟩ := bnd h
              refine G_putI cd179_212 rfl (OM.o hw) (Option.some.inj e1) ?_
              exact t_Mod_go_215 hd hw _ (I113 205 ((I113 204 5).toNatClampNeg)) (b2i (Mod_isLetter (I113 205 ((I113 204 5).toNatClampNeg)))) 1 I166 J165 h
          · have h := ifnE hb h
            refine g_aload_n cd179_107 rfl rfl ?_
            refine g_iconst cd179_108 rfl ?_
            obtain ⟨I167, e1, h⟩ := bnd h
            refine G_putI cd179_109 rfl (OM.o hw) (Option.some.inj e1) ?_
            exact g_vret cd179_112 (by obtain rfl := Option.some.inj h; rfl)
        · have h := ifnE hb h
          refine g_aload_n cd179_82 rfl rfl ?_
          refine g_aload_n cd179_83 rfl rfl ?_
          refine g_getI cd179_84 rfl (OM.o hw) ?_
          obtain ⟨I168, e1, h⟩ := bnd h
          refine G_putI cd179_87 rfl (OM.o hw) (Option.some.inj e1) ?_
          refine g_aload_n cd179_90 rfl rfl ?_
          refine g_iconst cd179_91 rfl ?_
          obtain ⟨I169, e1, h⟩ := bnd h
          refine G_putI cd179_92 rfl (OM.o hw) (Option.some.inj e1) ?_
          exact g_vret cd179_95 (by obtain rfl := Option.some.inj h; rfl)
    · have h := ifnE hb h
      refine g_aload_n cd179_11 rfl rfl ?_
      refine g_getP cd179_12 rfl (OM.o hw) (OM.p1 hw) ?_
      refine g_aload_n cd179_15 rfl rfl ?_
      refine g_getI cd179_16 rfl (OM.o hw) ?_
      obtain ⟨hg170, h⟩ := grd h
      refine G_iald cd179_19 rfl (OM.s1 hw) hg170 ?_
      refine g_bipush cd179_20 rfl ?_
      refine g_icmp_eq cd179_22 rfl (fun hb => ?_) (fun hb => ?_)
      · have h := ifpE hb h
        refine g_aload_n cd179_39 rfl rfl ?_
        refine g_dupR cd179_40 rfl ?_
        refine g_getI cd179_41 rfl (OM.o hw) ?_
        refine g_iconst cd179_44 rfl ?_
        refine g_iadd cd179_45 rfl ?_
        obtain ⟨I171, e1, h⟩ := bnd h
        refine G_putI cd179_46 rfl (OM.o hw) (Option.some.inj e1) ?_
        refine g_goto (ls2 := [some (.ref 204), none, none, none, none]) cd179_49 rfl rfl ?_
        exact ih  I171 J h
      · have h := ifnE hb h
        refine g_aload_n cd179_25 rfl rfl ?_
        refine g_getP cd179_26 rfl (OM.o hw) (OM.p1 hw) ?_
        refine g_aload_n cd179_29 rfl rfl ?_
        refine g_getI cd179_30 rfl (OM.o hw) ?_
        refine G_iald cd179_33 rfl (OM.s1 hw) hg170 ?_
        refine g_bipush cd179_34 rfl ?_
        refine g_icmp_ne cd179_36 rfl (fun hb => ?_) (fun hb => ?_)
        · have h := ifpE hb h
          refine g_aload_n cd179_39 rfl rfl ?_
          refine g_dupR cd179_40 rfl ?_
          refine g_getI cd179_41 rfl (OM.o hw) ?_
          refine g_iconst cd179_44 rfl ?_
          refine g_iadd cd179_45 rfl ?_
          obtain ⟨I172, e1, h⟩ := bnd h
          refine G_putI cd179_46 rfl (OM.o hw) (Option.some.inj e1) ?_
          refine g_goto (ls2 := [some (.ref 204), none, none, none, none]) cd179_49 rfl rfl ?_
          exact ih  I172 J h
        · have h := ifnE hb h
          refine g_aload_n cd179_52 rfl rfl ?_
          refine g_aload_n cd179_53 rfl rfl ?_
          refine g_getI cd179_54 rfl (OM.o hw) ?_
          obtain ⟨I173, e1, h⟩ := bnd h
          refine G_putI cd179_57 rfl (OM.o hw) (Option.some.inj e1) ?_
          refine g_aload_n cd179_60 rfl rfl ?_
          refine g_getI cd179_61 rfl (OM.o hw) ?_
          refine g_aload_n cd179_64 rfl rfl ?_
          refine g_getI cd179_65 rfl (OM.o hw) ?_
          refine g_icmp_le cd179_68 rfl (fun hb => ?_) (fun hb => ?_)
          · have h := ifpE hb h
            refine g_aload_n cd179_96 rfl rfl ?_
            refine g_getI cd179_97 rfl (OM.o hw) ?_
            refine g_aload_n cd179_100 rfl rfl ?_
            refine g_getI cd179_101 rfl (OM.o hw) ?_
            refine g_icmp_lt cd179_104 rfl (fun hb => ?_) (fun hb => ?_)
            · have h := ifpE hb h
              refine g_aload_n cd179_113 rfl rfl ?_
              refine g_getP cd179_114 rfl (OM.o hw) (OM.p1 hw) ?_
              refine g_aload_n cd179_117 rfl rfl ?_
              refine g_getI cd179_118 rfl (OM.o hw) ?_
              obtain ⟨hg174, h⟩ := grd h
              refine G_iald cd179_121 rfl (OM.s1 hw) hg174 ?_
              refine g_istore_n (ls2 := [some (.ref 204), some (.int (I173 205 ((I173 204 5).toNatClampNeg))), none, none, none]) cd179_122 rfl rfl ?_
              refine g_iload_n cd179_123 rfl rfl ?_
              refine g_callSZ (L := [some (.int (I173 205 ((I173 204 5).toNatClampNeg)))]) cd179_124 rfl rfl rfl rfl rfl (t_Mod_isLetter (by omega)  rfl) ?_
              refine g_if_ne cd179_127 rfl (fun hb => ?_) (fun hb => ?_)
              · have h := ifnE (b2i_f hb) h
                refine g_iload_n cd179_130 rfl rfl ?_
                refine g_callSZ (L := [some (.int (I173 205 ((I173 204 5).toNatClampNeg)))]) cd179_131 rfl rfl rfl rfl rfl (t_Mod_isDigit (by omega)  rfl) ?_
                refine g_if_ne cd179_134 rfl (fun hb => ?_) (fun hb => ?_)
                · have h := ifnE (b2i_f hb) h
                  refine g_aload_n cd179_137 rfl rfl ?_
                  refine g_iload_n cd179_138 rfl rfl ?_
                  refine g_bipush cd179_139 rfl ?_
                  refine g_icmp_eq cd179_141 rfl (fun hb => ?_) (fun hb => ?_)
                  · have h := ifpE hb h
                    refine g_iconst cd179_174 rfl ?_
                    refine g_goto (ls2 := [some (.ref 204), some (.int (I173 205 ((I173 204 5).toNatClampNeg))), none, none, none]) cd179_175 rfl rfl ?_
                    obtain ⟨I175, e1, h⟩ := bnd h
                    refine G_putI cd179_179 rfl (OM.o hw) (Option.some.inj e1) ?_
                    refine g_aload_n cd179_182 rfl rfl ?_
                    refine g_iload_n cd179_183 rfl rfl ?_
                    obtain ⟨I176, e1, h⟩ := bnd h
                    refine G_putI cd179_184 rfl (OM.o hw) (Option.some.inj e1) ?_
                    refine g_aload_n cd179_187 rfl rfl ?_
                    refine g_dupR cd179_188 rfl ?_
                    refine g_getI cd179_189 rfl (OM.o hw) ?_
                    refine g_iconst cd179_192 rfl ?_
                    refine g_iadd cd179_193 rfl ?_
                    obtain ⟨I177, e1, h⟩ := bnd h
                    refine G_putI cd179_194 rfl (OM.o hw) (Option.some.inj e1) ?_
                    exact g_vret cd179_197 (by obtain rfl := Option.some.inj h; rfl)
                  · have h := ifnE hb h
                    refine g_iload_n cd179_144 rfl rfl ?_
                    refine g_bipush cd179_145 rfl ?_
                    refine g_icmp_eq cd179_147 rfl (fun hb => ?_) (fun hb => ?_)
                    · have h := ifpE hb h
                      refine g_iconst cd179_174 rfl ?_
                      refine g_goto (ls2 := [some (.ref 204), some (.int (I173 205 ((I173 204 5).toNatClampNeg))), none, none, none]) cd179_175 rfl rfl ?_
                      obtain ⟨I178, e1, h⟩ := bnd h
                      refine G_putI cd179_179 rfl (OM.o hw) (Option.some.inj e1) ?_
                      refine g_aload_n cd179_182 rfl rfl ?_
                      refine g_iload_n cd179_183 rfl rfl ?_
                      obtain ⟨I179, e1, h⟩ := bnd h
                      refine G_putI cd179_184 rfl (OM.o hw) (Option.some.inj e1) ?_
                      refine g_aload_n cd179_187 rfl rfl ?_
                      refine g_dupR cd179_188 rfl ?_
                      refine g_getI cd179_189 rfl (OM.o hw) ?_
                      refine g_iconst cd179_192 rfl ?_
                      refine g_iadd cd179_193 rfl ?_
                      obtain ⟨I180, e1, h⟩ := bnd h
                      refine G_putI cd179_194 rfl (OM.o hw) (Option.some.inj e1) ?_
                      exact g_vret cd179_197 (by obtain rfl := Option.some.inj h; rfl)
                    · have h := ifnE hb h
                      refine g_iload_n cd179_150 rfl rfl ?_
                      refine g_bipush cd179_151 rfl ?_
                      refine g_icmp_eq cd179_153 rfl (fun hb => ?_) (fun hb => ?_)
                      · have h := ifpE hb h
                        refine g_iconst cd179_174 rfl ?_
                        refine g_goto (ls2 := [some (.ref 204), some (.int (I173 205 ((I173 204 5).toNatClampNeg))), none, none, none]) cd179_175 rfl rfl ?_
                        obtain ⟨I181, e1, h⟩ := bnd h
                        refine G_putI cd179_179 rfl (OM.o hw) (Option.some.inj e1) ?_
                        refine g_aload_n cd179_182 rfl rfl ?_
                        refine g_iload_n cd179_183 rfl rfl ?_
                        obtain ⟨I182, e1, h⟩ := bnd h
                        refine G_putI cd179_184 rfl (OM.o hw) (Option.some.inj e1) ?_
                        refine g_aload_n cd179_187 rfl rfl ?_
                        refine g_dupR cd179_188 rfl ?_
                        refine g_getI cd179_189 rfl (OM.o hw) ?_
                        refine g_iconst cd179_192 rfl ?_
                        refine g_iadd cd179_193 rfl ?_
                        obtain ⟨I183, e1, h⟩ := bnd h
                        refine G_putI cd179_194 rfl (OM.o hw) (Option.some.inj e1) ?_
                        exact g_vret cd179_197 (by obtain rfl := Option.some.inj h; rfl)
                      · have h := ifnE hb h
                        refine g_iload_n cd179_156 rfl rfl ?_
                        refine g_bipush cd179_157 rfl ?_
                        refine g_icmp_eq cd179_159 rfl (fun hb => ?_) (fun hb => ?_)
                        · have h := ifpE hb h
                          refine g_iconst cd179_174 rfl ?_
                          refine g_goto (ls2 := [some (.ref 204), some (.int (I173 205 ((I173 204 5).toNatClampNeg))), none, none, none]) cd179_175 rfl rfl ?_
                          obtain ⟨I184, e1, h⟩ := bnd h
                          refine G_putI cd179_179 rfl (OM.o hw) (Option.some.inj e1) ?_
                          refine g_aload_n cd179_182 rfl rfl ?_
                          refine g_iload_n cd179_183 rfl rfl ?_
                          obtain ⟨I185, e1, h⟩ := bnd h
                          refine G_putI cd179_184 rfl (OM.o hw) (Option.some.inj e1) ?_
                          refine g_aload_n cd179_187 rfl rfl ?_
                          refine g_dupR cd179_188 rfl ?_
                          refine g_getI cd179_189 rfl (OM.o hw) ?_
                          refine g_iconst cd179_192 rfl ?_
                          refine g_iadd cd179_193 rfl ?_
                          obtain ⟨I186, e1, h⟩ := bnd h
                          refine G_putI cd179_194 rfl (OM.o hw) (Option.some.inj e1) ?_
                          exact g_vret cd179_197 (by obtain rfl := Option.some.inj h; rfl)
                        · have h := ifnE hb h
                          refine g_iload_n cd179_162 rfl rfl ?_
                          refine g_bipush cd179_163 rfl ?_
                          refine g_icmp_eq cd179_165 rfl (fun hb => ?_) (fun hb => ?_)
                          · have h := ifpE hb h
                            refine g_iconst cd179_174 rfl ?_
                            refine g_goto (ls2 := [some (.ref 204), some (.int (I173 205 ((I173 204 5).toNatClampNeg))), none, none, none]) cd179_175 rfl rfl ?_
                            obtain ⟨I187, e1, h⟩ := bnd h
                            refine G_putI cd179_179 rfl (OM.o hw) (Option.some.inj e1) ?_
                            refine g_aload_n cd179_182 rfl rfl ?_
                            refine g_iload_n cd179_183 rfl rfl ?_
                            obtain ⟨I188, e1, h⟩ := bnd h
                            refine G_putI cd179_184 rfl (OM.o hw) (Option.some.inj e1) ?_
                            refine g_aload_n cd179_187 rfl rfl ?_
                            refine g_dupR cd179_188 rfl ?_
                            refine g_getI cd179_189 rfl (OM.o hw) ?_
                            refine g_iconst cd179_192 rfl ?_
                            refine g_iadd cd179_193 rfl ?_
                            obtain ⟨I189, e1, h⟩ := bnd h
                            refine G_putI cd179_194 rfl (OM.o hw) (Option.some.inj e1) ?_
                            exact g_vret cd179_197 (by obtain rfl := Option.some.inj h; rfl)
                          · have h := ifnE hb h
                            refine g_iload_n cd179_168 rfl rfl ?_
                            refine g_bipush cd179_169 rfl ?_
                            refine g_icmp_ne cd179_171 rfl (fun hb => ?_) (fun hb => ?_)
                            · have h := ifpE hb h
                              refine g_iconst cd179_174 rfl ?_
                              refine g_goto (ls2 := [some (.ref 204), some (.int (I173 205 ((I173 204 5).toNatClampNeg))), none, none, none]) cd179_175 rfl rfl ?_
                              obtain ⟨I190, e1, h⟩ := bnd h
                              refine G_putI cd179_179 rfl (OM.o hw) (Option.some.inj e1) ?_
                              refine g_aload_n cd179_182 rfl rfl ?_
                              refine g_iload_n cd179_183 rfl rfl ?_
                              obtain ⟨I191, e1, h⟩ := bnd h
                              refine G_putI cd179_184 rfl (OM.o hw) (Option.some.inj e1) ?_
                              refine g_aload_n cd179_187 rfl rfl ?_
                              refine g_dupR cd179_188 rfl ?_
                              refine g_getI cd179_189 rfl (OM.o hw) ?_
                              refine g_iconst cd179_192 rfl ?_
                              refine g_iadd cd179_193 rfl ?_
                              obtain ⟨I192, e1, h⟩ := bnd h
                              refine G_putI cd179_194 rfl (OM.o hw) (Option.some.inj e1) ?_
                              exact g_vret cd179_197 (by obtain rfl := Option.some.inj h; rfl)
                            · have h := ifnE hb h
                              refine g_iconst cd179_178 rfl ?_
                              obtain ⟨I193, e1, h⟩ := bnd h
                              refine G_putI cd179_179 rfl (OM.o hw) (Option.some.inj e1) ?_
                              refine g_aload_n cd179_182 rfl rfl ?_
                              refine g_iload_n cd179_183 rfl rfl ?_
                              obtain ⟨I194, e1, h⟩ := bnd h
                              refine G_putI cd179_184 rfl (OM.o hw) (Option.some.inj e1) ?_
                              refine g_aload_n cd179_187 rfl rfl ?_
                              refine g_dupR cd179_188 rfl ?_
                              refine g_getI cd179_189 rfl (OM.o hw) ?_
                              refine g_iconst cd179_192 rfl ?_
                              refine g_iadd cd179_193 rfl ?_
                              obtain ⟨I195, e1, h⟩ := bnd h
                              refine G_putI cd179_194 rfl (OM.o hw) (Option.some.inj e1) ?_
                              exact g_vret cd179_197 (by obtain rfl := Option.some.inj h; rfl)
                · have h := ifpE (b2i_t hb) h
                  refine g_iload_n cd179_198 rfl rfl ?_
                  refine g_callSZ (L := [some (.int (I173 205 ((I173 204 5).toNatClampNeg)))]) cd179_199 rfl rfl rfl rfl rfl (t_Mod_isLetter (by omega)  rfl) ?_
                  refine g_istore_n (ls2 := [some (.ref 204), some (.int (I173 205 ((I173 204 5).toNatClampNeg))), some (.int (b2i (Mod_isLetter (I173 205 ((I173 204 5).toNatClampNeg))))), none, none]) cd179_202 rfl rfl ?_
                  refine g_iconst cd179_203 rfl ?_
                  refine g_istore_n (ls2 := [some (.ref 204), some (.int (I173 205 ((I173 204 5).toNatClampNeg))), some (.int (b2i (Mod_isLetter (I173 205 ((I173 204 5).toNatClampNeg))))), some (.int 1), none]) cd179_204 rfl rfl ?_
                  refine g_aload_n cd179_205 rfl rfl ?_
                  refine g_lconst cd179_206 rfl ?_
                  obtain ⟨J196, e1, h⟩ := bnd h
                  refine G_putJ cd179_207 rfl (OM.o hw) (Option.some.inj e1) ?_
                  refine g_aload_n cd179_210 rfl rfl ?_
                  refine g_iconst cd179_211 rfl ?_
                  obtain ⟨I197, e1, h⟩ := bnd h
                  refine G_putI cd179_212 rfl (OM.o hw) (Option.some.inj e1) ?_
                  exact t_Mod_go_215 hd hw _ (I173 205 ((I173 204 5).toNatClampNeg)) (b2i (Mod_isLetter (I173 205 ((I173 204 5).toNatClampNeg)))) 1 I197 J196 h
              · have h := ifpE (b2i_t hb) h
                refine g_iload_n cd179_198 rfl rfl ?_
                refine g_callSZ (L := [some (.int (I173 205 ((I173 204 5).toNatClampNeg)))]) cd179_199 rfl rfl rfl rfl rfl (t_Mod_isLetter (by omega)  rfl) ?_
                refine g_istore_n (ls2 := [some (.ref 204), some (.int (I173 205 ((I173 204 5).toNatClampNeg))), some (.int (b2i (Mod_isLetter (I173 205 ((I173 204 5).toNatClampNeg))))), none, none]) cd179_202 rfl rfl ?_
                refine g_iconst cd179_203 rfl ?_
                refine g_istore_n (ls2 := [some (.ref 204), some (.int (I173 205 ((I173 204 5).toNatClampNeg))), some (.int (b2i (Mod_isLetter (I173 205 ((I173 204 5).toNatClampNeg))))), some (.int 1), none]) cd179_204 rfl rfl ?_
                refine g_aload_n cd179_205 rfl rfl ?_
                refine g_lconst cd179_206 rfl ?_
                obtain ⟨J198, e1, h⟩ := bnd h
                refine G_putJ cd179_207 rfl (OM.o hw) (Option.some.inj e1) ?_
                refine g_aload_n cd179_210 rfl rfl ?_
                refine g_iconst cd179_211 rfl ?_
                obtain ⟨I199, e1, h⟩ := bnd h
                refine G_putI cd179_212 rfl (OM.o hw) (Option.some.inj e1) ?_
                exact t_Mod_go_215 hd hw _ (I173 205 ((I173 204 5).toNatClampNeg)) (b2i (Mod_isLetter (I173 205 ((I173 204 5).toNatClampNeg)))) 1 I199 J198 h
            · have h := ifnE hb h
              refine g_aload_n cd179_107 rfl rfl ?_
              refine g_iconst cd179_108 rfl ?_
              obtain ⟨I200, e1, h⟩ := bnd h
              refine G_putI cd179_109 rfl (OM.o hw) (Option.some.inj e1) ?_
              exact g_vret cd179_112 (by obtain rfl := Option.some.inj h; rfl)
          · have h := ifnE hb h
            refine g_aload_n cd179_71 rfl rfl ?_
            refine g_getI cd179_72 rfl (OM.o hw) ?_
            refine g_aload_n cd179_75 rfl rfl ?_
            refine g_getI cd179_76 rfl (OM.o hw) ?_
            refine g_icmp_lt cd179_79 rfl (fun hb => ?_) (fun hb => ?_)
            · have h := ifpE hb h
              refine g_aload_n cd179_96 rfl rfl ?_
              refine g_getI cd179_97 rfl (OM.o hw) ?_
              refine g_aload_n cd179_100 rfl rfl ?_
              refine g_getI cd179_101 rfl (OM.o hw) ?_
              refine g_icmp_lt cd179_104 rfl (fun hb => ?_) (fun hb => ?_)
              · have h := ifpE hb h
                refine g_aload_n cd179_113 rfl rfl ?_
                refine g_getP cd179_114 rfl (OM.o hw) (OM.p1 hw) ?_
                refine g_aload_n cd179_117 rfl rfl ?_
                refine g_getI cd179_118 rfl (OM.o hw) ?_
                obtain ⟨hg201, h⟩ := grd h
                refine G_iald cd179_121 rfl (OM.s1 hw) hg201 ?_
                refine g_istore_n (ls2 := [some (.ref 204), some (.int (I173 205 ((I173 204 5).toNatClampNeg))), none, none, none]) cd179_122 rfl rfl ?_
                refine g_iload_n cd179_123 rfl rfl ?_
                refine g_callSZ (L := [some (.int (I173 205 ((I173 204 5).toNatClampNeg)))]) cd179_124 rfl rfl rfl rfl rfl (t_Mod_isLetter (by omega)  rfl) ?_
                refine g_if_ne cd179_127 rfl (fun hb => ?_) (fun hb => ?_)
                · have h := ifnE (b2i_f hb) h
                  refine g_iload_n cd179_130 rfl rfl ?_
                  refine g_callSZ (L := [some (.int (I173 205 ((I173 204 5).toNatClampNeg)))]) cd179_131 rfl rfl rfl rfl rfl (t_Mod_isDigit (by omega)  rfl) ?_
                  refine g_if_ne cd179_134 rfl (fun hb => ?_) (fun hb => ?_)
                  · have h := ifnE (b2i_f hb) h
                    refine g_aload_n cd179_137 rfl rfl ?_
                    refine g_iload_n cd179_138 rfl rfl ?_
                    refine g_bipush cd179_139 rfl ?_
                    refine g_icmp_eq cd179_141 rfl (fun hb => ?_) (fun hb => ?_)
                    · have h := ifpE hb h
                      refine g_iconst cd179_174 rfl ?_
                      refine g_goto (ls2 := [some (.ref 204), some (.int (I173 205 ((I173 204 5).toNatClampNeg))), none, none, none]) cd179_175 rfl rfl ?_
                      obtain ⟨I202, e1, h⟩ := bnd h
                      refine G_putI cd179_179 rfl (OM.o hw) (Option.some.inj e1) ?_
                      refine g_aload_n cd179_182 rfl rfl ?_
                      refine g_iload_n cd179_183 rfl rfl ?_
                      obtain ⟨I203, e1, h⟩ := bnd h
                      refine G_putI cd179_184 rfl (OM.o hw) (Option.some.inj e1) ?_
                      refine g_aload_n cd179_187 rfl rfl ?_
                      refine g_dupR cd179_188 rfl ?_
                      refine g_getI cd179_189 rfl (OM.o hw) ?_
                      refine g_iconst cd179_192 rfl ?_
                      refine g_iadd cd179_193 rfl ?_
                      obtain ⟨I204, e1, h⟩ := bnd h
                      refine G_putI cd179_194 rfl (OM.o hw) (Option.some.inj e1) ?_
                      exact g_vret cd179_197 (by obtain rfl := Option.some.inj h; rfl)
                    · have h := ifnE hb h
                      refine g_iload_n cd179_144 rfl rfl ?_
                      refine g_bipush cd179_145 rfl ?_
                      refine g_icmp_eq cd179_147 rfl (fun hb => ?_) (fun hb => ?_)
                      · have h := ifpE hb h
                        refine g_iconst cd179_174 rfl ?_
                        refine g_goto (ls2 := [some (.ref 204), some (.int (I173 205 ((I173 204 5).toNatClampNeg))), none, none, none]) cd179_175 rfl rfl ?_
                        obtain ⟨I205, e1, h⟩ := bnd h
                        refine G_putI cd179_179 rfl (OM.o hw) (Option.some.inj e1) ?_
                        refine g_aload_n cd179_182 rfl rfl ?_
                        refine g_iload_n cd179_183 rfl rfl ?_
                        obtain ⟨I206, e1, h⟩ := bnd h
                        refine G_putI cd179_184 rfl (OM.o hw) (Option.some.inj e1) ?_
                        refine g_aload_n cd179_187 rfl rfl ?_
                        refine g_dupR cd179_188 rfl ?_
                        refine g_getI cd179_189 rfl (OM.o hw) ?_
                        refine g_iconst cd179_192 rfl ?_
                        refine g_iadd cd179_193 rfl ?_
                        obtain ⟨I207, e1, h⟩ := bnd h
                        refine G_putI cd179_194 rfl (OM.o hw) (Option.some.inj e1) ?_
                        exact g_vret cd179_197 (by obtain rfl := Option.some.inj h; rfl)
                      · have h := ifnE hb h
                        refine g_iload_n cd179_150 rfl rfl ?_
                        refine g_bipush cd179_151 rfl ?_
                        refine g_icmp_eq cd179_153 rfl (fun hb => ?_) (fun hb => ?_)
                        · have h := ifpE hb h
                          refine g_iconst cd179_174 rfl ?_
                          refine g_goto (ls2 := [some (.ref 204), some (.int (I173 205 ((I173 204 5).toNatClampNeg))), none, none, none]) cd179_175 rfl rfl ?_
                          obtain ⟨I208, e1, h⟩ := bnd h
                          refine G_putI cd179_179 rfl (OM.o hw) (Option.some.inj e1) ?_
                          refine g_aload_n cd179_182 rfl rfl ?_
                          refine g_iload_n cd179_183 rfl rfl ?_
                          obtain ⟨I209, e1, h⟩ := bnd h
                          refine G_putI cd179_184 rfl (OM.o hw) (Option.some.inj e1) ?_
                          refine g_aload_n cd179_187 rfl rfl ?_
                          refine g_dupR cd179_188 rfl ?_
                          refine g_getI cd179_189 rfl (OM.o hw) ?_
                          refine g_iconst cd179_192 rfl ?_
                          refine g_iadd cd179_193 rfl ?_
                          obtain ⟨I210, e1, h⟩ := bnd h
                          refine G_putI cd179_194 rfl (OM.o hw) (Option.some.inj e1) ?_
                          exact g_vret cd179_197 (by obtain rfl := Option.some.inj h; rfl)
                        · have h := ifnE hb h
                          refine g_iload_n cd179_156 rfl rfl ?_
                          refine g_bipush cd179_157 rfl ?_
                          refine g_icmp_eq cd179_159 rfl (fun hb => ?_) (fun hb => ?_)
                          · have h := ifpE hb h
                            refine g_iconst cd179_174 rfl ?_
                            refine g_goto (ls2 := [some (.ref 204), some (.int (I173 205 ((I173 204 5).toNatClampNeg))), none, none, none]) cd179_175 rfl rfl ?_
                            obtain ⟨I211, e1, h⟩ := bnd h
                            refine G_putI cd179_179 rfl (OM.o hw) (Option.some.inj e1) ?_
                            refine g_aload_n cd179_182 rfl rfl ?_
                            refine g_iload_n cd179_183 rfl rfl ?_
                            obtain ⟨I212, e1, h⟩ := bnd h
                            refine G_putI cd179_184 rfl (OM.o hw) (Option.some.inj e1) ?_
                            refine g_aload_n cd179_187 rfl rfl ?_
                            refine g_dupR cd179_188 rfl ?_
                            refine g_getI cd179_189 rfl (OM.o hw) ?_
                            refine g_iconst cd179_192 rfl ?_
                            refine g_iadd cd179_193 rfl ?_
                            obtain ⟨I213, e1, h⟩ := bnd h
                            refine G_putI cd179_194 rfl (OM.o hw) (Option.some.inj e1) ?_
                            exact g_vret cd179_197 (by obtain rfl := Option.some.inj h; rfl)
                          · have h := ifnE hb h
                            refine g_iload_n cd179_162 rfl rfl ?_
                            refine g_bipush cd179_163 rfl ?_
                            refine g_icmp_eq cd179_165 rfl (fun hb => ?_) (fun hb => ?_)
                            · have h := ifpE hb h
                              refine g_iconst cd179_174 rfl ?_
                              refine g_goto (ls2 := [some (.ref 204), some (.int (I173 205 ((I173 204 5).toNatClampNeg))), none, none, none]) cd179_175 rfl rfl ?_
                              obtain ⟨I214, e1, h⟩ := bnd h
                              refine G_putI cd179_179 rfl (OM.o hw) (Option.some.inj e1) ?_
                              refine g_aload_n cd179_182 rfl rfl ?_
                              refine g_iload_n cd179_183 rfl rfl ?_
                              obtain ⟨I215, e1, h⟩ := bnd h
                              refine G_putI cd179_184 rfl (OM.o hw) (Option.some.inj e1) ?_
                              refine g_aload_n cd179_187 rfl rfl ?_
                              refine g_dupR cd179_188 rfl ?_
                              refine g_getI cd179_189 rfl (OM.o hw) ?_
                              refine g_iconst cd179_192 rfl ?_
                              refine g_iadd cd179_193 rfl ?_
                              obtain ⟨I216, e1, h⟩ := bnd h
                              refine G_putI cd179_194 rfl (OM.o hw) (Option.some.inj e1) ?_
                              exact g_vret cd179_197 (by obtain rfl := Option.some.inj h; rfl)
                            · have h := ifnE hb h
                              refine g_iload_n cd179_168 rfl rfl ?_
                              refine g_bipush cd179_169 rfl ?_
                              refine g_icmp_ne cd179_171 rfl (fun hb => ?_) (fun hb => ?_)
                              · have h := ifpE hb h
                                refine g_iconst cd179_174 rfl ?_
                                refine g_goto (ls2 := [some (.ref 204), some (.int (I173 205 ((I173 204 5).toNatClampNeg))), none, none, none]) cd179_175 rfl rfl ?_
                                obtain ⟨I217, e1, h⟩ := bnd h
                                refine G_putI cd179_179 rfl (OM.o hw) (Option.some.inj e1) ?_
                                refine g_aload_n cd179_182 rfl rfl ?_
                                refine g_iload_n cd179_183 rfl rfl ?_
                                obtain ⟨I218, e1, h⟩ := bnd h
                                refine G_putI cd179_184 rfl (OM.o hw) (Option.some.inj e1) ?_
                                refine g_aload_n cd179_187 rfl rfl ?_
                                refine g_dupR cd179_188 rfl ?_
                                refine g_getI cd179_189 rfl (OM.o hw) ?_
                                refine g_iconst cd179_192 rfl ?_
                                refine g_iadd cd179_193 rfl ?_
                                obtain ⟨I219, e1, h⟩ := bnd h
                                refine G_putI cd179_194 rfl (OM.o hw) (Option.some.inj e1) ?_
                                exact g_vret cd179_197 (by obtain rfl := Option.some.inj h; rfl)
                              · have h := ifnE hb h
                                refine g_iconst cd179_178 rfl ?_
                                obtain ⟨I220, e1, h⟩ := bnd h
                                refine G_putI cd179_179 rfl (OM.o hw) (Option.some.inj e1) ?_
                                refine g_aload_n cd179_182 rfl rfl ?_
                                refine g_iload_n cd179_183 rfl rfl ?_
                                obtain ⟨I221, e1, h⟩ := bnd h
                                refine G_putI cd179_184 rfl (OM.o hw) (Option.some.inj e1) ?_
                                refine g_aload_n cd179_187 rfl rfl ?_
                                refine g_dupR cd179_188 rfl ?_
                                refine g_getI cd179_189 rfl (OM.o hw) ?_
                                refine g_iconst cd179_192 rfl ?_
                                refine g_iadd cd179_193 rfl ?_
                                obtain ⟨I222, e1, h⟩ := bnd h
                                refine G_putI cd179_194 rfl (OM.o hw) (Option.some.inj e1) ?_
                                exact g_vret cd179_197 (by obtain rfl := Option.some.inj h; rfl)
                  · have h := ifpE (b2i_t hb) h
                    refine g_iload_n cd179_198 rfl rfl ?_
                    refine g_callSZ (L := [some (.int (I173 205 ((I173 204 5).toNatClampNeg)))]) cd179_199 rfl rfl rfl rfl rfl (t_Mod_isLetter (by omega)  rfl) ?_
                    refine g_istore_n (ls2 := [some (.ref 204), some (.int (I173 205 ((I173 204 5).toNatClampNeg))), some (.int (b2i (Mod_isLetter (I173 205 ((I173 204 5).toNatClampNeg))))), none, none]) cd179_202 rfl rfl ?_
                    refine g_iconst cd179_203 rfl ?_
                    refine g_istore_n (ls2 := [some (.ref 204), some (.int (I173 205 ((I173 204 5).toNatClampNeg))), some (.int (b2i (Mod_isLetter (I173 205 ((I173 204 5).toNatClampNeg))))), some (.int 1), none]) cd179_204 rfl rfl ?_
                    refine g_aload_n cd179_205 rfl rfl ?_
                    refine g_lconst cd179_206 rfl ?_
                    obtain ⟨J223, e1, h⟩ := bnd h
                    refine G_putJ cd179_207 rfl (OM.o hw) (Option.some.inj e1) ?_
                    refine g_aload_n cd179_210 rfl rfl ?_
                    refine g_iconst cd179_211 rfl ?_
                    obtain ⟨I224, e1, h⟩ := bnd h
                    refine G_putI cd179_212 rfl (OM.o hw) (Option.some.inj e1) ?_
                    exact t_Mod_go_215 hd hw _ (I173 205 ((I173 204 5).toNatClampNeg)) (b2i (Mod_isLetter (I173 205 ((I173 204 5).toNatClampNeg)))) 1 I224 J223 h
                · have h := ifpE (b2i_t hb) h
                  refine g_iload_n cd179_198 rfl rfl ?_
                  refine g_callSZ (L := [some (.int (I173 205 ((I173 204 5).toNatClampNeg)))]) cd179_199 rfl rfl rfl rfl rfl (t_Mod_isLetter (by omega)  rfl) ?_
                  refine g_istore_n (ls2 := [some (.ref 204), some (.int (I173 205 ((I173 204 5).toNatClampNeg))), some (.int (b2i (Mod_isLetter (I173 205 ((I173 204 5).toNatClampNeg))))), none, none]) cd179_202 rfl rfl ?_
                  refine g_iconst cd179_203 rfl ?_
                  refine g_istore_n (ls2 := [some (.ref 204), some (.int (I173 205 ((I173 204 5).toNatClampNeg))), some (.int (b2i (Mod_isLetter (I173 205 ((I173 204 5).toNatClampNeg))))), some (.int 1), none]) cd179_204 rfl rfl ?_
                  refine g_aload_n cd179_205 rfl rfl ?_
                  refine g_lconst cd179_206 rfl ?_
                  obtain ⟨J225, e1, h⟩ := bnd h
                  refine G_putJ cd179_207 rfl (OM.o hw) (Option.some.inj e1) ?_
                  refine g_aload_n cd179_210 rfl rfl ?_
                  refine g_iconst cd179_211 rfl ?_
                  obtain ⟨I226, e1, h⟩ := bnd h
                  refine G_putI cd179_212 rfl (OM.o hw) (Option.some.inj e1) ?_
                  exact t_Mod_go_215 hd hw _ (I173 205 ((I173 204 5).toNatClampNeg)) (b2i (Mod_isLetter (I173 205 ((I173 204 5).toNatClampNeg)))) 1 I226 J225 h
              · have h := ifnE hb h
                refine g_aload_n cd179_107 rfl rfl ?_
                refine g_iconst cd179_108 rfl ?_
                obtain ⟨I227, e1, h⟩ := bnd h
                refine G_putI cd179_109 rfl (OM.o hw) (Option.some.inj e1) ?_
                exact g_vret cd179_112 (by obtain rfl := Option.some.inj h; rfl)
            · have h := ifnE hb h
              refine g_aload_n cd179_82 rfl rfl ?_
              refine g_aload_n cd179_83 rfl rfl ?_
              refine g_getI cd179_84 rfl (OM.o hw) ?_
              obtain ⟨I228, e1, h⟩ := bnd h
              refine G_putI cd179_87 rfl (OM.o hw) (Option.some.inj e1) ?_
              refine g_aload_n cd179_90 rfl rfl ?_
              refine g_iconst cd179_91 rfl ?_
              obtain ⟨I229, e1, h⟩ := bnd h
              refine G_putI cd179_92 rfl (OM.o hw) (Option.some.inj e1) ?_
              exact g_vret cd179_95 (by obtain rfl := Option.some.inj h; rfl)
set_option maxRecDepth 8000 in
theorem t_Mod_go {d : Nat} {N : Nat} {c : Nat × Nat} {S : Nat → Nat × Nat} {P : Nat → Nat → Option Nat} {I : FI} {J : FJ} {r : FI × FJ} (hd : 1 ≤ d) (hw : OM S P) (h : Mod_go N I J = some r) : Go d M_Mod_go 0 [some (.ref 204), none, none, none, none] [] (c, S, I, J, P) (none, false, (c, S, r.1, r.2, P)) := by
  obtain ⟨d, rfl⟩ : ∃ e, d = e + 1 := ⟨d - 1, by omega⟩
  unfold Mod_go at h
  refine g_aload_n cd179_0 rfl rfl ?_
  refine g_getI cd179_1 rfl (OM.o hw) ?_
  refine g_aload_n cd179_4 rfl rfl ?_
  refine g_getI cd179_5 rfl (OM.o hw) ?_
  refine g_icmp_ge cd179_8 rfl (fun hb => ?_) (fun hb => ?_)
  · have h := ifpE hb h
    refine g_aload_n cd179_52 rfl rfl ?_
    refine g_aload_n cd179_53 rfl rfl ?_
    refine g_getI cd179_54 rfl (OM.o hw) ?_
    obtain ⟨I1, e1, h⟩ := bnd h
    refine G_putI cd179_57 rfl (OM.o hw) (Option.some.inj e1) ?_
    refine g_aload_n cd179_60 rfl rfl ?_
    refine g_getI cd179_61 rfl (OM.o hw) ?_
    refine g_aload_n cd179_64 rfl rfl ?_
    refine g_getI cd179_65 rfl (OM.o hw) ?_
    refine g_icmp_le cd179_68 rfl (fun hb => ?_) (fun hb => ?_)
    · have h := ifpE hb h
      refine g_aload_n cd179_96 rfl rfl ?_
      refine g_getI cd179_97 rfl (OM.o hw) ?_
      refine g_aload_n cd179_100 rfl rfl ?_
      refine g_getI cd179_101 rfl (OM.o hw) ?_
      refine g_icmp_lt cd179_104 rfl (fun hb => ?_) (fun hb => ?_)
      · have h := ifpE hb h
        refine g_aload_n cd179_113 rfl rfl ?_
        refine g_getP cd179_114 rfl (OM.o hw) (OM.p1 hw) ?_
        refine g_aload_n cd179_117 rfl rfl ?_
        refine g_getI cd179_118 rfl (OM.o hw) ?_
        obtain ⟨hg2, h⟩ := grd h
        refine G_iald cd179_121 rfl (OM.s1 hw) hg2 ?_
        refine g_istore_n (ls2 := [some (.ref 204), some (.int (I1 205 ((I1 204 5).toNatClampNeg))), none, none, none]) cd179_122 rfl rfl ?_
        refine g_iload_n cd179_123 rfl rfl ?_
        refine g_callSZ (L := [some (.int (I1 205 ((I1 204 5).toNatClampNeg)))]) cd179_124 rfl rfl rfl rfl rfl (t_Mod_isLetter (by omega)  rfl) ?_
        refine g_if_ne cd179_127 rfl (fun hb => ?_) (fun hb => ?_)
        · have h := ifnE (b2i_f hb) h
          refine g_iload_n cd179_130 rfl rfl ?_
          refine g_callSZ (L := [some (.int (I1 205 ((I1 204 5).toNatClampNeg)))]) cd179_131 rfl rfl rfl rfl rfl (t_Mod_isDigit (by omega)  rfl) ?_
          refine g_if_ne cd179_134 rfl (fun hb => ?_) (fun hb => ?_)
          · have h := ifnE (b2i_f hb) h
            refine g_aload_n cd179_137 rfl rfl ?_
            refine g_iload_n cd179_138 rfl rfl ?_
            refine g_bipush cd179_139 rfl ?_
            refine g_icmp_eq cd179_141 rfl (fun hb => ?_) (fun hb => ?_)
            · have h := ifpE hb h
              refine g_iconst cd179_174 rfl ?_
              refine g_goto (ls2 := [some (.ref 204), some (.int (I1 205 ((I1 204 5).toNatClampNeg))), none, none, none]) cd179_175 rfl rfl ?_
              obtain ⟨I3, e1, h⟩ := bnd h
              refine G_putI cd179_179 rfl (OM.o hw) (Option.some.inj e1) ?_
              refine g_aload_n cd179_182 rfl rfl ?_
              refine g_iload_n cd179_183 rfl rfl ?_
              obtain ⟨I4, e1, h⟩ := bnd h
              refine G_putI cd179_184 rfl (OM.o hw) (Option.some.inj e1) ?_
              refine g_aload_n cd179_187 rfl rfl ?_
              refine g_dupR cd179_188 rfl ?_
              refine g_getI cd179_189 rfl (OM.o hw) ?_
              refine g_iconst cd179_192 rfl ?_
              refine g_iadd cd179_193 rfl ?_
              obtain ⟨I5, e1, h⟩ := bnd h
              refine G_putI cd179_194 rfl (OM.o hw) (Option.some.inj e1) ?_
              exact g_vret cd179_197 (by obtain rfl := Option.some.inj h; rfl)
            · have h := ifnE hb h
              refine g_iload_n cd179_144 rfl rfl ?_
              refine g_bipush cd179_145 rfl ?_
              refine g_icmp_eq cd179_147 rfl (fun hb => ?_) (fun hb => ?_)
              · have h := ifpE hb h
                refine g_iconst cd179_174 rfl ?_
                refine g_goto (ls2 := [some (.ref 204), some (.int (I1 205 ((I1 204 5).toNatClampNeg))), none, none, none]) cd179_175 rfl rfl ?_
                obtain ⟨I6, e1, h⟩ := bnd h
                refine G_putI cd179_179 rfl (OM.o hw) (Option.some.inj e1) ?_
                refine g_aload_n cd179_182 rfl rfl ?_
                refine g_iload_n cd179_183 rfl rfl ?_
                obtain ⟨I7, e1, h⟩ := bnd h
                refine G_putI cd179_184 rfl (OM.o hw) (Option.some.inj e1) ?_
                refine g_aload_n cd179_187 rfl rfl ?_
                refine g_dupR cd179_188 rfl ?_
                refine g_getI cd179_189 rfl (OM.o hw) ?_
                refine g_iconst cd179_192 rfl ?_
                refine g_iadd cd179_193 rfl ?_
                obtain ⟨I8, e1, h⟩ := bnd h
                refine G_putI cd179_194 rfl (OM.o hw) (Option.some.inj e1) ?_
                exact g_vret cd179_197 (by obtain rfl := Option.some.inj h; rfl)
              · have h := ifnE hb h
                refine g_iload_n cd179_150 rfl rfl ?_
                refine g_bipush cd179_151 rfl ?_
                refine g_icmp_eq cd179_153 rfl (fun hb => ?_) (fun hb => ?_)
                · have h := ifpE hb h
                  refine g_iconst cd179_174 rfl ?_
                  refine g_goto (ls2 := [some (.ref 204), some (.int (I1 205 ((I1 204 5).toNatClampNeg))), none, none, none]) cd179_175 rfl rfl ?_
                  obtain ⟨I9, e1, h⟩ := bnd h
                  refine G_putI cd179_179 rfl (OM.o hw) (Option.some.inj e1) ?_
                  refine g_aload_n cd179_182 rfl rfl ?_
                  refine g_iload_n cd179_183 rfl rfl ?_
                  obtain ⟨I10, e1, h⟩ := bnd h
                  refine G_putI cd179_184 rfl (OM.o hw) (Option.some.inj e1) ?_
                  refine g_aload_n cd179_187 rfl rfl ?_
                  refine g_dupR cd179_188 rfl ?_
                  refine g_getI cd179_189 rfl (OM.o hw) ?_
                  refine g_iconst cd179_192 rfl ?_
                  refine g_iadd cd179_193 rfl ?_
                  obtain ⟨I11, e1, h⟩ := bnd h
                  refine G_putI cd179_194 rfl (OM.o hw) (Option.some.inj e1) ?_
                  exact g_vret cd179_197 (by obtain rfl := Option.some.inj h; rfl)
                · have h := ifnE hb h
                  refine g_iload_n cd179_156 rfl rfl ?_
                  refine g_bipush cd179_157 rfl ?_
                  refine g_icmp_eq cd179_159 rfl (fun hb => ?_) (fun hb => ?_)
                  · have h := ifpE hb h
                    refine g_iconst cd179_174 rfl ?_
                    refine g_goto (ls2 := [some (.ref 204), some (.int (I1 205 ((I1 204 5).toNatClampNeg))), none, none, none]) cd179_175 rfl rfl ?_
                    obtain ⟨I12, e1, h⟩ := bnd h
                    refine G_putI cd179_179 rfl (OM.o hw) (Option.some.inj e1) ?_
                    refine g_aload_n cd179_182 rfl rfl ?_
                    refine g_iload_n cd179_183 rfl rfl ?_
                    obtain ⟨I13, e1, h⟩ := bnd h
                    refine G_putI cd179_184 rfl (OM.o hw) (Option.some.inj e1) ?_
                    refine g_aload_n cd179_187 rfl rfl ?_
                    refine g_dupR cd179_188 rfl ?_
                    refine g_getI cd179_189 rfl (OM.o hw) ?_
                    refine g_iconst cd179_192 rfl ?_
                    refine g_iadd cd179_193 rfl ?_
                    obtain ⟨I14, e1, h⟩ := bnd h
                    refine G_putI cd179_194 rfl (OM.o hw) (Option.some.inj e1) ?_
                    exact g_vret cd179_197 (by obtain rfl := Option.some.inj h; rfl)
                  · have h := ifnE hb h
                    refine g_iload_n cd179_162 rfl rfl ?_
                    refine g_bipush cd179_163 rfl ?_
                    refine g_icmp_eq cd179_165 rfl (fun hb => ?_) (fun hb => ?_)
                    · have h := ifpE hb h
                      refine g_iconst cd179_174 rfl ?_
                      refine g_goto (ls2 := [some (.ref 204), some (.int (I1 205 ((I1 204 5).toNatClampNeg))), none, none, none]) cd179_175 rfl rfl ?_
                      obtain ⟨I15, e1, h⟩ := bnd h
                      refine G_putI cd179_179 rfl (OM.o hw) (Option.some.inj e1) ?_
                      refine g_aload_n cd179_182 rfl rfl ?_
                      refine g_iload_n cd179_183 rfl rfl ?_
                      obtain ⟨I16, e1, h⟩ := bnd h
                      refine G_putI cd179_184 rfl (OM.o hw) (Option.some.inj e1) ?_
                      refine g_aload_n cd179_187 rfl rfl ?_
                      refine g_dupR cd179_188 rfl ?_
                      refine g_getI cd179_189 rfl (OM.o hw) ?_
                      refine g_iconst cd179_192 rfl ?_
                      refine g_iadd cd179_193 rfl ?_
                      obtain ⟨I17, e1, h⟩ := bnd h
                      refine G_putI cd179_194 rfl (OM.o hw) (Option.some.inj e1) ?_
                      exact g_vret cd179_197 (by obtain rfl := Option.some.inj h; rfl)
                    · have h := ifnE hb h
                      refine g_iload_n cd179_168 rfl rfl ?_
                      refine g_bipush cd179_169 rfl ?_
                      refine g_icmp_ne cd179_171 rfl (fun hb => ?_) (fun hb => ?_)
                      · have h := ifpE hb h
                        refine g_iconst cd179_174 rfl ?_
                        refine g_goto (ls2 := [some (.ref 204), some (.int (I1 205 ((I1 204 5).toNatClampNeg))), none, none, none]) cd179_175 rfl rfl ?_
                        obtain ⟨I18, e1, h⟩ := bnd h
                        refine G_putI cd179_179 rfl (OM.o hw) (Option.some.inj e1) ?_
                        refine g_aload_n cd179_182 rfl rfl ?_
                        refine g_iload_n cd179_183 rfl rfl ?_
                        obtain ⟨I19, e1, h⟩ := bnd h
                        refine G_putI cd179_184 rfl (OM.o hw) (Option.some.inj e1) ?_
                        refine g_aload_n cd179_187 rfl rfl ?_
                        refine g_dupR cd179_188 rfl ?_
                        refine g_getI cd179_189 rfl (OM.o hw) ?_
                        refine g_iconst cd179_192 rfl ?_
                        refine g_iadd cd179_193 rfl ?_
                        obtain ⟨I20, e1, h⟩ := bnd h
                        refine G_putI cd179_194 rfl (OM.o hw) (Option.some.inj e1) ?_
                        exact g_vret cd179_197 (by obtain rfl := Option.some.inj h; rfl)
                      · have h := ifnE hb h
                        refine g_iconst cd179_178 rfl ?_
                        obtain ⟨I21, e1, h⟩ := bnd h
                        refine G_putI cd179_179 rfl (OM.o hw) (Option.some.inj e1) ?_
                        refine g_aload_n cd179_182 rfl rfl ?_
                        refine g_iload_n cd179_183 rfl rfl ?_
                        obtain ⟨I22, e1, h⟩ := bnd h
                        refine G_putI cd179_184 rfl (OM.o hw) (Option.some.inj e1) ?_
                        refine g_aload_n cd179_187 rfl rfl ?_
                        refine g_dupR cd179_188 rfl ?_
                        refine g_getI cd179_189 rfl (OM.o hw) ?_
                        refine g_iconst cd179_192 rfl ?_
                        refine g_iadd cd179_193 rfl ?_
                        obtain ⟨I23, e1, h⟩ := bnd h
                        refine G_putI cd179_194 rfl (OM.o hw) (Option.some.inj e1) ?_
                        exact g_vret cd179_197 (by obtain rfl := Option.some.inj h; rfl)
          · have h := ifpE (b2i_t hb) h
            refine g_iload_n cd179_198 rfl rfl ?_
            refine g_callSZ (L := [some (.int (I1 205 ((I1 204 5).toNatClampNeg)))]) cd179_199 rfl rfl rfl rfl rfl (t_Mod_isLetter (by omega)  rfl) ?_
            refine g_istore_n (ls2 := [some (.ref 204), some (.int (I1 205 ((I1 204 5).toNatClampNeg))), some (.int (b2i (Mod_isLetter (I1 205 ((I1 204 5).toNatClampNeg))))), none, none]) cd179_202 rfl rfl ?_
            refine g_iconst cd179_203 rfl ?_
            refine g_istore_n (ls2 := [some (.ref 204), some (.int (I1 205 ((I1 204 5).toNatClampNeg))), some (.int (b2i (Mod_isLetter (I1 205 ((I1 204 5).toNatClampNeg))))), some (.int 1), none]) cd179_204 rfl rfl ?_
            refine g_aload_n cd179_205 rfl rfl ?_
            refine g_lconst cd179_206 rfl ?_
            obtain ⟨J24, e1, h⟩ := bnd h
            refine G_putJ cd179_207 rfl (OM.o hw) (Option.some.inj e1) ?_
            refine g_aload_n cd179_210 rfl rfl ?_
            refine g_iconst cd179_211 rfl ?_
            obtain ⟨I25, e1, h⟩ := bnd h
            refine G_putI cd179_212 rfl (OM.o hw) (Option.some.inj e1) ?_
            exact t_Mod_go_215 hd hw _ (I1 205 ((I1 204 5).toNatClampNeg)) (b2i (Mod_isLetter (I1 205 ((I1 204 5).toNatClampNeg)))) 1 I25 J24 h
        · have h := ifpE (b2i_t hb) h
          refine g_iload_n cd179_198 rfl rfl ?_
          refine g_callSZ (L := [some (.int (I1 205 ((I1 204 5).toNatClampNeg)))]) cd179_199 rfl rfl rfl rfl rfl (t_Mod_isLetter (by omega)  rfl) ?_
          refine g_istore_n (ls2 := [some (.ref 204), some (.int (I1 205 ((I1 204 5).toNatClampNeg))), some (.int (b2i (Mod_isLetter (I1 205 ((I1 204 5).toNatClampNeg))))), none, none]) cd179_202 rfl rfl ?_
          refine g_iconst cd179_203 rfl ?_
          refine g_istore_n (ls2 := [some (.ref 204), some (.int (I1 205 ((I1 204 5).toNatClampNeg))), some (.int (b2i (Mod_isLetter (I1 205 ((I1 204 5).toNatClampNeg))))), some (.int 1), none]) cd179_204 rfl rfl ?_
          refine g_aload_n cd179_205 rfl rfl ?_
          refine g_lconst cd179_206 rfl ?_
          obtain ⟨J79, e1, h⟩ := bnd h
          refine G_putJ cd179_207 rfl (OM.o hw) (Option.some.inj e1) ?_
          refine g_aload_n cd179_210 rfl rfl ?_
          refine g_iconst cd179_211 rfl ?_
          obtain ⟨I80, e1, h⟩ := bnd h
          refine G_putI cd179_212 rfl (OM.o hw) (Option.some.inj e1) ?_
          exact t_Mod_go_215 hd hw _ (I1 205 ((I1 204 5).toNatClampNeg)) (b2i (Mod_isLetter (I1 205 ((I1 204 5).toNatClampNeg)))) 1 I80 J79 h
      · have h := ifnE hb h
        refine g_aload_n cd179_107 rfl rfl ?_
        refine g_iconst cd179_108 rfl ?_
        obtain ⟨I81, e1, h⟩ := bnd h
        refine G_putI cd179_109 rfl (OM.o hw) (Option.some.inj e1) ?_
        exact g_vret cd179_112 (by obtain rfl := Option.some.inj h; rfl)
    · have h := ifnE hb h
      refine g_aload_n cd179_71 rfl rfl ?_
      refine g_getI cd179_72 rfl (OM.o hw) ?_
      refine g_aload_n cd179_75 rfl rfl ?_
      refine g_getI cd179_76 rfl (OM.o hw) ?_
      refine g_icmp_lt cd179_79 rfl (fun hb => ?_) (fun hb => ?_)
      · have h := ifpE hb h
        refine g_aload_n cd179_96 rfl rfl ?_
        refine g_getI cd179_97 rfl (OM.o hw) ?_
        refine g_aload_n cd179_100 rfl rfl ?_
        refine g_getI cd179_101 rfl (OM.o hw) ?_
        refine g_icmp_lt cd179_104 rfl (fun hb => ?_) (fun hb => ?_)
        · have h := ifpE hb h
          refine g_aload_n cd179_113 rfl rfl ?_
          refine g_getP cd179_114 rfl (OM.o hw) (OM.p1 hw) ?_
          refine g_aload_n cd179_117 rfl rfl ?_
          refine g_getI cd179_118 rfl (OM.o hw) ?_
          obtain ⟨hg82, h⟩ := grd h
          refine G_iald cd179_121 rfl (OM.s1 hw) hg82 ?_
          refine g_istore_n (ls2 := [some (.ref 204), some (.int (I1 205 ((I1 204 5).toNatClampNeg))), none, none, none]) cd179_122 rfl rfl ?_
          refine g_iload_n cd179_123 rfl rfl ?_
          refine g_callSZ (L := [some (.int (I1 205 ((I1 204 5).toNatClampNeg)))]) cd179_124 rfl rfl rfl rfl rfl (t_Mod_isLetter (by omega)  rfl) ?_
          refine g_if_ne cd179_127 rfl (fun hb => ?_) (fun hb => ?_)
          · have h := ifnE (b2i_f hb) h
            refine g_iload_n cd179_130 rfl rfl ?_
            refine g_callSZ (L := [some (.int (I1 205 ((I1 204 5).toNatClampNeg)))]) cd179_131 rfl rfl rfl rfl rfl (t_Mod_isDigit (by omega)  rfl) ?_
            refine g_if_ne cd179_134 rfl (fun hb => ?_) (fun hb => ?_)
            · have h := ifnE (b2i_f hb) h
              refine g_aload_n cd179_137 rfl rfl ?_
              refine g_iload_n cd179_138 rfl rfl ?_
              refine g_bipush cd179_139 rfl ?_
              refine g_icmp_eq cd179_141 rfl (fun hb => ?_) (fun hb => ?_)
              · have h := ifpE hb h
                refine g_iconst cd179_174 rfl ?_
                refine g_goto (ls2 := [some (.ref 204), some (.int (I1 205 ((I1 204 5).toNatClampNeg))), none, none, none]) cd179_175 rfl rfl ?_
                obtain ⟨I83, e1, h⟩ := bnd h
                refine G_putI cd179_179 rfl (OM.o hw) (Option.some.inj e1) ?_
                refine g_aload_n cd179_182 rfl rfl ?_
                refine g_iload_n cd179_183 rfl rfl ?_
                obtain ⟨I84, e1, h⟩ := bnd h
                refine G_putI cd179_184 rfl (OM.o hw) (Option.some.inj e1) ?_
                refine g_aload_n cd179_187 rfl rfl ?_
                refine g_dupR cd179_188 rfl ?_
                refine g_getI cd179_189 rfl (OM.o hw) ?_
                refine g_iconst cd179_192 rfl ?_
                refine g_iadd cd179_193 rfl ?_
                obtain ⟨I85, e1, h⟩ := bnd h
                refine G_putI cd179_194 rfl (OM.o hw) (Option.some.inj e1) ?_
                exact g_vret cd179_197 (by obtain rfl := Option.some.inj h; rfl)
              · have h := ifnE hb h
                refine g_iload_n cd179_144 rfl rfl ?_
                refine g_bipush cd179_145 rfl ?_
                refine g_icmp_eq cd179_147 rfl (fun hb => ?_) (fun hb => ?_)
                · have h := ifpE hb h
                  refine g_iconst cd179_174 rfl ?_
                  refine g_goto (ls2 := [some (.ref 204), some (.int (I1 205 ((I1 204 5).toNatClampNeg))), none, none, none]) cd179_175 rfl rfl ?_
                  obtain ⟨I86, e1, h⟩ := bnd h
                  refine G_putI cd179_179 rfl (OM.o hw) (Option.some.inj e1) ?_
                  refine g_aload_n cd179_182 rfl rfl ?_
                  refine g_iload_n cd179_183 rfl rfl ?_
                  obtain ⟨I87, e1, h⟩ := bnd h
                  refine G_putI cd179_184 rfl (OM.o hw) (Option.some.inj e1) ?_
                  refine g_aload_n cd179_187 rfl rfl ?_
                  refine g_dupR cd179_188 rfl ?_
                  refine g_getI cd179_189 rfl (OM.o hw) ?_
                  refine g_iconst cd179_192 rfl ?_
                  refine g_iadd cd179_193 rfl ?_
                  obtain ⟨I88, e1, h⟩ := bnd h
                  refine G_putI cd179_194 rfl (OM.o hw) (Option.some.inj e1) ?_
                  exact g_vret cd179_197 (by obtain rfl := Option.some.inj h; rfl)
                · have h := ifnE hb h
                  refine g_iload_n cd179_150 rfl rfl ?_
                  refine g_bipush cd179_151 rfl ?_
                  refine g_icmp_eq cd179_153 rfl (fun hb => ?_) (fun hb => ?_)
                  · have h := ifpE hb h
                    refine g_iconst cd179_174 rfl ?_
                    refine g_goto (ls2 := [some (.ref 204), some (.int (I1 205 ((I1 204 5).toNatClampNeg))), none, none, none]) cd179_175 rfl rfl ?_
                    obtain ⟨I89, e1, h⟩ := bnd h
                    refine G_putI cd179_179 rfl (OM.o hw) (Option.some.inj e1) ?_
                    refine g_aload_n cd179_182 rfl rfl ?_
                    refine g_iload_n cd179_183 rfl rfl ?_
                    obtain ⟨I90, e1, h⟩ := bnd h
                    refine G_putI cd179_184 rfl (OM.o hw) (Option.some.inj e1) ?_
                    refine g_aload_n cd179_187 rfl rfl ?_
                    refine g_dupR cd179_188 rfl ?_
                    refine g_getI cd179_189 rfl (OM.o hw) ?_
                    refine g_iconst cd179_192 rfl ?_
                    refine g_iadd cd179_193 rfl ?_
                    obtain ⟨I91, e1, h⟩ := bnd h
                    refine G_putI cd179_194 rfl (OM.o hw) (Option.some.inj e1) ?_
                    exact g_vret cd179_197 (by obtain rfl := Option.some.inj h; rfl)
                  · have h := ifnE hb h
                    refine g_iload_n cd179_156 rfl rfl ?_
                    refine g_bipush cd179_157 rfl ?_
                    refine g_icmp_eq cd179_159 rfl (fun hb => ?_) (fun hb => ?_)
                    · have h := ifpE hb h
                      refine g_iconst cd179_174 rfl ?_
                      refine g_goto (ls2 := [some (.ref 204), some (.int (I1 205 ((I1 204 5).toNatClampNeg))), none, none, none]) cd179_175 rfl rfl ?_
                      obtain ⟨I92, e1, h⟩ := bnd h
                      refine G_putI cd179_179 rfl (OM.o hw) (Option.some.inj e1) ?_
                      refine g_aload_n cd179_182 rfl rfl ?_
                      refine g_iload_n cd179_183 rfl rfl ?_
                      obtain ⟨I93, e1, h⟩ := bnd h
                      refine G_putI cd179_184 rfl (OM.o hw) (Option.some.inj e1) ?_
                      refine g_aload_n cd179_187 rfl rfl ?_
                      refine g_dupR cd179_188 rfl ?_
                      refine g_getI cd179_189 rfl (OM.o hw) ?_
                      refine g_iconst cd179_192 rfl ?_
                      refine g_iadd cd179_193 rfl ?_
                      obtain ⟨I94, e1, h⟩ := bnd h
                      refine G_putI cd179_194 rfl (OM.o hw) (Option.some.inj e1) ?_
                      exact g_vret cd179_197 (by obtain rfl := Option.some.inj h; rfl)
                    · have h := ifnE hb h
                      refine g_iload_n cd179_162 rfl rfl ?_
                      refine g_bipush cd179_163 rfl ?_
                      refine g_icmp_eq cd179_165 rfl (fun hb => ?_) (fun hb => ?_)
                      · have h := ifpE hb h
                        refine g_iconst cd179_174 rfl ?_
                        refine g_goto (ls2 := [some (.ref 204), some (.int (I1 205 ((I1 204 5).toNatClampNeg))), none, none, none]) cd179_175 rfl rfl ?_
                        obtain ⟨I95, e1, h⟩ := bnd h
                        refine G_putI cd179_179 rfl (OM.o hw) (Option.some.inj e1) ?_
                        refine g_aload_n cd179_182 rfl rfl ?_
                        refine g_iload_n cd179_183 rfl rfl ?_
                        obtain ⟨I96, e1, h⟩ := bnd h
                        refine G_putI cd179_184 rfl (OM.o hw) (Option.some.inj e1) ?_
                        refine g_aload_n cd179_187 rfl rfl ?_
                        refine g_dupR cd179_188 rfl ?_
                        refine g_getI cd179_189 rfl (OM.o hw) ?_
                        refine g_iconst cd179_192 rfl ?_
                        refine g_iadd cd179_193 rfl ?_
                        obtain ⟨I97, e1, h⟩ := bnd h
                        refine G_putI cd179_194 rfl (OM.o hw) (Option.some.inj e1) ?_
                        exact g_vret cd179_197 (by obtain rfl := Option.some.inj h; rfl)
                      · have h := ifnE hb h
                        refine g_iload_n cd179_168 rfl rfl ?_
                        refine g_bipush cd179_169 rfl ?_
                        refine g_icmp_ne cd179_171 rfl (fun hb => ?_) (fun hb => ?_)
                        · have h := ifpE hb h
                          refine g_iconst cd179_174 rfl ?_
                          refine g_goto (ls2 := [some (.ref 204), some (.int (I1 205 ((I1 204 5).toNatClampNeg))), none, none, none]) cd179_175 rfl rfl ?_
                          obtain ⟨I98, e1, h⟩ := bnd h
                          refine G_putI cd179_179 rfl (OM.o hw) (Option.some.inj e1) ?_
                          refine g_aload_n cd179_182 rfl rfl ?_
                          refine g_iload_n cd179_183 rfl rfl ?_
                          obtain ⟨I99, e1, h⟩ := bnd h
                          refine G_putI cd179_184 rfl (OM.o hw) (Option.some.inj e1) ?_
                          refine g_aload_n cd179_187 rfl rfl ?_
                          refine g_dupR cd179_188 rfl ?_
                          refine g_getI cd179_189 rfl (OM.o hw) ?_
                          refine g_iconst cd179_192 rfl ?_
                          refine g_iadd cd179_193 rfl ?_
                          obtain ⟨I100, e1, h⟩ := bnd h
                          refine G_putI cd179_194 rfl (OM.o hw) (Option.some.inj e1) ?_
                          exact g_vret cd179_197 (by obtain rfl := Option.some.inj h; rfl)
                        · have h := ifnE hb h
                          refine g_iconst cd179_178 rfl ?_
                          obtain ⟨I101, e1, h⟩ := bnd h
                          refine G_putI cd179_179 rfl (OM.o hw) (Option.some.inj e1) ?_
                          refine g_aload_n cd179_182 rfl rfl ?_
                          refine g_iload_n cd179_183 rfl rfl ?_
                          obtain ⟨I102, e1, h⟩ := bnd h
                          refine G_putI cd179_184 rfl (OM.o hw) (Option.some.inj e1) ?_
                          refine g_aload_n cd179_187 rfl rfl ?_
                          refine g_dupR cd179_188 rfl ?_
                          refine g_getI cd179_189 rfl (OM.o hw) ?_
                          refine g_iconst cd179_192 rfl ?_
                          refine g_iadd cd179_193 rfl ?_
                          obtain ⟨I103, e1, h⟩ := bnd h
                          refine G_putI cd179_194 rfl (OM.o hw) (Option.some.inj e1) ?_
                          exact g_vret cd179_197 (by obtain rfl := Option.some.inj h; rfl)
            · have h := ifpE (b2i_t hb) h
              refine g_iload_n cd179_198 rfl rfl ?_
              refine g_callSZ (L := [some (.int (I1 205 ((I1 204 5).toNatClampNeg)))]) cd179_199 rfl rfl rfl rfl rfl (t_Mod_isLetter (by omega)  rfl) ?_
              refine g_istore_n (ls2 := [some (.ref 204), some (.int (I1 205 ((I1 204 5).toNatClampNeg))), some (.int (b2i (Mod_isLetter (I1 205 ((I1 204 5).toNatClampNeg))))), none, none]) cd179_202 rfl rfl ?_
              refine g_iconst cd179_203 rfl ?_
              refine g_istore_n (ls2 := [some (.ref 204), some (.int (I1 205 ((I1 204 5).toNatClampNeg))), some (.int (b2i (Mod_isLetter (I1 205 ((I1 204 5).toNatClampNeg))))), some (.int 1), none]) cd179_204 rfl rfl ?_
              refine g_aload_n cd179_205 rfl rfl ?_
              refine g_lconst cd179_206 rfl ?_
              obtain ⟨J104, e1, h⟩ := bnd h
              refine G_putJ cd179_207 rfl (OM.o hw) (Option.some.inj e1) ?_
              refine g_aload_n cd179_210 rfl rfl ?_
              refine g_iconst cd179_211 rfl ?_
              obtain ⟨I105, e1, h⟩ := bnd h
              refine G_putI cd179_212 rfl (OM.o hw) (Option.some.inj e1) ?_
              exact t_Mod_go_215 hd hw _ (I1 205 ((I1 204 5).toNatClampNeg)) (b2i (Mod_isLetter (I1 205 ((I1 204 5).toNatClampNeg)))) 1 I105 J104 h
          · have h := ifpE (b2i_t hb) h
            refine g_iload_n cd179_198 rfl rfl ?_
            refine g_callSZ (L := [some (.int (I1 205 ((I1 204 5).toNatClampNeg)))]) cd179_199 rfl rfl rfl rfl rfl (t_Mod_isLetter (by omega)  rfl) ?_
            refine g_istore_n (ls2 := [some (.ref 204), some (.int (I1 205 ((I1 204 5).toNatClampNeg))), some (.int (b2i (Mod_isLetter (I1 205 ((I1 204 5).toNatClampNeg))))), none, none]) cd179_202 rfl rfl ?_
            refine g_iconst cd179_203 rfl ?_
            refine g_istore_n (ls2 := [some (.ref 204), some (.int (I1 205 ((I1 204 5).toNatClampNeg))), some (.int (b2i (Mod_isLetter (I1 205 ((I1 204 5).toNatClampNeg))))), some (.int 1), none]) cd179_204 rfl rfl ?_
            refine g_aload_n cd179_205 rfl rfl ?_
            refine g_lconst cd179_206 rfl ?_
            obtain ⟨J106, e1, h⟩ := bnd h
            refine G_putJ cd179_207 rfl (OM.o hw) (Option.some.inj e1) ?_
            refine g_aload_n cd179_210 rfl rfl ?_
            refine g_iconst cd179_211 rfl ?_
            obtain ⟨I107, e1, h⟩ := bnd h
            refine G_putI cd179_212 rfl (OM.o hw) (Option.some.inj e1) ?_
            exact t_Mod_go_215 hd hw _ (I1 205 ((I1 204 5).toNatClampNeg)) (b2i (Mod_isLetter (I1 205 ((I1 204 5).toNatClampNeg)))) 1 I107 J106 h
        · have h := ifnE hb h
          refine g_aload_n cd179_107 rfl rfl ?_
          refine g_iconst cd179_108 rfl ?_
          obtain ⟨I108, e1, h⟩ := bnd h
          refine G_putI cd179_109 rfl (OM.o hw) (Option.some.inj e1) ?_
          exact g_vret cd179_112 (by obtain rfl := Option.some.inj h; rfl)
      · have h := ifnE hb h
        refine g_aload_n cd179_82 rfl rfl ?_
        refine g_aload_n cd179_83 rfl rfl ?_
        refine g_getI cd179_84 rfl (OM.o hw) ?_
        obtain ⟨I109, e1, h⟩ := bnd h
        refine G_putI cd179_87 rfl (OM.o hw) (Option.some.inj e1) ?_
        refine g_aload_n cd179_90 rfl rfl ?_
        refine g_iconst cd179_91 rfl ?_
        obtain ⟨I110, e1, h⟩ := bnd h
        refine G_putI cd179_92 rfl (OM.o hw) (Option.some.inj e1) ?_
        exact g_vret cd179_95 (by obtain rfl := Option.some.inj h; rfl)
  · have h := ifnE hb h
    refine g_aload_n cd179_11 rfl rfl ?_
    refine g_getP cd179_12 rfl (OM.o hw) (OM.p1 hw) ?_
    refine g_aload_n cd179_15 rfl rfl ?_
    refine g_getI cd179_16 rfl (OM.o hw) ?_
    obtain ⟨hg111, h⟩ := grd h
    refine G_iald cd179_19 rfl (OM.s1 hw) hg111 ?_
    refine g_bipush cd179_20 rfl ?_
    refine g_icmp_eq cd179_22 rfl (fun hb => ?_) (fun hb => ?_)
    · have h := ifpE hb h
      refine g_aload_n cd179_39 rfl rfl ?_
      refine g_dupR cd179_40 rfl ?_
      refine g_getI cd179_41 rfl (OM.o hw) ?_
      refine g_iconst cd179_44 rfl ?_
      refine g_iadd cd179_45 rfl ?_
      obtain ⟨I112, e1, h⟩ := bnd h
      refine G_putI cd179_46 rfl (OM.o hw) (Option.some.inj e1) ?_
      refine g_goto (ls2 := [some (.ref 204), none, none, none, none]) cd179_49 rfl rfl ?_
      exact t_Mod_go_0 hd hw _  I112 J h
    · have h := ifnE hb h
      refine g_aload_n cd179_25 rfl rfl ?_
      refine g_getP cd179_26 rfl (OM.o hw) (OM.p1 hw) ?_
      refine g_aload_n cd179_29 rfl rfl ?_
      refine g_getI cd179_30 rfl (OM.o hw) ?_
      refine G_iald cd179_33 rfl (OM.s1 hw) hg111 ?_
      refine g_bipush cd179_34 rfl ?_
      refine g_icmp_ne cd179_36 rfl (fun hb => ?_) (fun hb => ?_)
      · have h := ifpE hb h
        refine g_aload_n cd179_39 rfl rfl ?_
        refine g_dupR cd179_40 rfl ?_
        refine g_getI cd179_41 rfl (OM.o hw) ?_
        refine g_iconst cd179_44 rfl ?_
        refine g_iadd cd179_45 rfl ?_
        obtain ⟨I230, e1, h⟩ := bnd h
        refine G_putI cd179_46 rfl (OM.o hw) (Option.some.inj e1) ?_
        refine g_goto (ls2 := [some (.ref 204), none, none, none, none]) cd179_49 rfl rfl ?_
        exact t_Mod_go_0 hd hw _  I230 J h
      · have h := ifnE hb h
        refine g_aload_n cd179_52 rfl rfl ?_
        refine g_aload_n cd179_53 rfl rfl ?_
        refine g_getI cd179_54 rfl (OM.o hw) ?_
        obtain ⟨I231, e1, h⟩ := bnd h
        refine G_putI cd179_57 rfl (OM.o hw) (Option.some.inj e1) ?_
        refine g_aload_n cd179_60 rfl rfl ?_
        refine g_getI cd179_61 rfl (OM.o hw) ?_
        refine g_aload_n cd179_64 rfl rfl ?_
        refine g_getI cd179_65 rfl (OM.o hw) ?_
        refine g_icmp_le cd179_68 rfl (fun hb => ?_) (fun hb => ?_)
        · have h := ifpE hb h
          refine g_aload_n cd179_96 rfl rfl ?_
          refine g_getI cd179_97 rfl (OM.o hw) ?_
          refine g_aload_n cd179_100 rfl rfl ?_
          refine g_getI cd179_101 rfl (OM.o hw) ?_
          refine g_icmp_lt cd179_104 rfl (fun hb => ?_) (fun hb => ?_)
          · have h := ifpE hb h
            refine g_aload_n cd179_113 rfl rfl ?_
            refine g_getP cd179_114 rfl (OM.o hw) (OM.p1 hw) ?_
            refine g_aload_n cd179_117 rfl rfl ?_
            refine g_getI cd179_118 rfl (OM.o hw) ?_
            obtain ⟨hg232, h⟩ := grd h
            refine G_iald cd179_121 rfl (OM.s1 hw) hg232 ?_
            refine g_istore_n (ls2 := [some (.ref 204), some (.int (I231 205 ((I231 204 5).toNatClampNeg))), none, none, none]) cd179_122 rfl rfl ?_
            refine g_iload_n cd179_123 rfl rfl ?_
            refine g_callSZ (L := [some (.int (I231 205 ((I231 204 5).toNatClampNeg)))]) cd179_124 rfl rfl rfl rfl rfl (t_Mod_isLetter (by omega)  rfl) ?_
            refine g_if_ne cd179_127 rfl (fun hb => ?_) (fun hb => ?_)
            · have h := ifnE (b2i_f hb) h
              refine g_iload_n cd179_130 rfl rfl ?_
              refine g_callSZ (L := [some (.int (I231 205 ((I231 204 5).toNatClampNeg)))]) cd179_131 rfl rfl rfl rfl rfl (t_Mod_isDigit (by omega)  rfl) ?_
              refine g_if_ne cd179_134 rfl (fun hb => ?_) (fun hb => ?_)
              · have h := ifnE (b2i_f hb) h
                refine g_aload_n cd179_137 rfl rfl ?_
                refine g_iload_n cd179_138 rfl rfl ?_
                refine g_bipush cd179_139 rfl ?_
                refine g_icmp_eq cd179_141 rfl (fun hb => ?_) (fun hb => ?_)
                · have h := ifpE hb h
                  refine g_iconst cd179_174 rfl ?_
                  refine g_goto (ls2 := [some (.ref 204), some (.int (I231 205 ((I231 204 5).toNatClampNeg))), none, none, none]) cd179_175 rfl rfl ?_
                  obtain ⟨I233, e1, h⟩ := bnd h
                  refine G_putI cd179_179 rfl (OM.o hw) (Option.some.inj e1) ?_
                  refine g_aload_n cd179_182 rfl rfl ?_
                  refine g_iload_n cd179_183 rfl rfl ?_
                  obtain ⟨I234, e1, h⟩ := bnd h
                  refine G_putI cd179_184 rfl (OM.o hw) (Option.some.inj e1) ?_
                  refine g_aload_n cd179_187 rfl rfl ?_
                  refine g_dupR cd179_188 rfl ?_
                  refine g_getI cd179_189 rfl (OM.o hw) ?_
                  refine g_iconst cd179_192 rfl ?_
                  refine g_iadd cd179_193 rfl ?_
                  obtain ⟨I235, e1, h⟩ := bnd h
                  refine G_putI cd179_194 rfl (OM.o hw) (Option.some.inj e1) ?_
                  exact g_vret cd179_197 (by obtain rfl := Option.some.inj h; rfl)
                · have h := ifnE hb h
                  refine g_iload_n cd179_144 rfl rfl ?_
                  refine g_bipush cd179_145 rfl ?_
                  refine g_icmp_eq cd179_147 rfl (fun hb => ?_) (fun hb => ?_)
                  · have h := ifpE hb h
                    refine g_iconst cd179_174 rfl ?_
                    refine g_goto (ls2 := [some (.ref 204), some (.int (I231 205 ((I231 204 5).toNatClampNeg))), none, none, none]) cd179_175 rfl rfl ?_
                    obtain ⟨I236, e1, h⟩ := bnd h
                    refine G_putI cd179_179 rfl (OM.o hw) (Option.some.inj e1) ?_
                    refine g_aload_n cd179_182 rfl rfl ?_
                    refine g_iload_n cd179_183 rfl rfl ?_
                    obtain ⟨I237, e1, h⟩ := bnd h
                    refine G_putI cd179_184 rfl (OM.o hw) (Option.some.inj e1) ?_
                    refine g_aload_n cd179_187 rfl rfl ?_
                    refine g_dupR cd179_188 rfl ?_
                    refine g_getI cd179_189 rfl (OM.o hw) ?_
                    refine g_iconst cd179_192 rfl ?_
                    refine g_iadd cd179_193 rfl ?_
                    obtain ⟨I238, e1, h⟩ := bnd h
                    refine G_putI cd179_194 rfl (OM.o hw) (Option.some.inj e1) ?_
                    exact g_vret cd179_197 (by obtain rfl := Option.some.inj h; rfl)
                  · have h := ifnE hb h
                    refine g_iload_n cd179_150 rfl rfl ?_
                    refine g_bipush cd179_151 rfl ?_
                    refine g_icmp_eq cd179_153 rfl (fun hb => ?_) (fun hb => ?_)
                    · have h := ifpE hb h
                      refine g_iconst cd179_174 rfl ?_
                      refine g_goto (ls2 := [some (.ref 204), some (.int (I231 205 ((I231 204 5).toNatClampNeg))), none, none, none]) cd179_175 rfl rfl ?_
                      obtain ⟨I239, e1, h⟩ := bnd h
                      refine G_putI cd179_179 rfl (OM.o hw) (Option.some.inj e1) ?_
                      refine g_aload_n cd179_182 rfl rfl ?_
                      refine g_iload_n cd179_183 rfl rfl ?_
                      obtain ⟨I240, e1, h⟩ := bnd h
                      refine G_putI cd179_184 rfl (OM.o hw) (Option.some.inj e1) ?_
                      refine g_aload_n cd179_187 rfl rfl ?_
                      refine g_dupR cd179_188 rfl ?_
                      refine g_getI cd179_189 rfl (OM.o hw) ?_
                      refine g_iconst cd179_192 rfl ?_
                      refine g_iadd cd179_193 rfl ?_
                      obtain ⟨I241, e1, h⟩ := bnd h
                      refine G_putI cd179_194 rfl (OM.o hw) (Option.some.inj e1) ?_
                      exact g_vret cd179_197 (by obtain rfl := Option.some.inj h; rfl)
                    · have h := ifnE hb h
                      refine g_iload_n cd179_156 rfl rfl ?_
                      refine g_bipush cd179_157 rfl ?_
                      refine g_icmp_eq cd179_159 rfl (fun hb => ?_) (fun hb => ?_)
                      · have h := ifpE hb h
                        refine g_iconst cd179_174 rfl ?_
                        refine g_goto (ls2 := [some (.ref 204), some (.int (I231 205 ((I231 204 5).toNatClampNeg))), none, none, none]) cd179_175 rfl rfl ?_
                        obtain ⟨I242, e1, h⟩ := bnd h
                        refine G_putI cd179_179 rfl (OM.o hw) (Option.some.inj e1) ?_
                        refine g_aload_n cd179_182 rfl rfl ?_
                        refine g_iload_n cd179_183 rfl rfl ?_
                        obtain ⟨I243, e1, h⟩ := bnd h
                        refine G_putI cd179_184 rfl (OM.o hw) (Option.some.inj e1) ?_
                        refine g_aload_n cd179_187 rfl rfl ?_
                        refine g_dupR cd179_188 rfl ?_
                        refine g_getI cd179_189 rfl (OM.o hw) ?_
                        refine g_iconst cd179_192 rfl ?_
                        refine g_iadd cd179_193 rfl ?_
                        obtain ⟨I244, e1, h⟩ := bnd h
                        refine G_putI cd179_194 rfl (OM.o hw) (Option.some.inj e1) ?_
                        exact g_vret cd179_197 (by obtain rfl := Option.some.inj h; rfl)
                      · have h := ifnE hb h
                        refine g_iload_n cd179_162 rfl rfl ?_
                        refine g_bipush cd179_163 rfl ?_
                        refine g_icmp_eq cd179_165 rfl (fun hb => ?_) (fun hb => ?_)
                        · have h := ifpE hb h
                          refine g_iconst cd179_174 rfl ?_
                          refine g_goto (ls2 := [some (.ref 204), some (.int (I231 205 ((I231 204 5).toNatClampNeg))), none, none, none]) cd179_175 rfl rfl ?_
                          obtain ⟨I245, e1, h⟩ := bnd h
                          refine G_putI cd179_179 rfl (OM.o hw) (Option.some.inj e1) ?_
                          refine g_aload_n cd179_182 rfl rfl ?_
                          refine g_iload_n cd179_183 rfl rfl ?_
                          obtain ⟨I246, e1, h⟩ := bnd h
                          refine G_putI cd179_184 rfl (OM.o hw) (Option.some.inj e1) ?_
                          refine g_aload_n cd179_187 rfl rfl ?_
                          refine g_dupR cd179_188 rfl ?_
                          refine g_getI cd179_189 rfl (OM.o hw) ?_
                          refine g_iconst cd179_192 rfl ?_
                          refine g_iadd cd179_193 rfl ?_
                          obtain ⟨I247, e1, h⟩ := bnd h
                          refine G_putI cd179_194 rfl (OM.o hw) (Option.some.inj e1) ?_
                          exact g_vret cd179_197 (by obtain rfl := Option.some.inj h; rfl)
                        · have h := ifnE hb h
                          refine g_iload_n cd179_168 rfl rfl ?_
                          refine g_bipush cd179_169 rfl ?_
                          refine g_icmp_ne cd179_171 rfl (fun hb => ?_) (fun hb => ?_)
                          · have h := ifpE hb h
                            refine g_iconst cd179_174 rfl ?_
                            refine g_goto (ls2 := [some (.ref 204), some (.int (I231 205 ((I231 204 5).toNatClampNeg))), none, none, none]) cd179_175 rfl rfl ?_
                            obtain ⟨I248, e1, h⟩ := bnd h
                            refine G_putI cd179_179 rfl (OM.o hw) (Option.some.inj e1) ?_
                            refine g_aload_n cd179_182 rfl rfl ?_
                            refine g_iload_n cd179_183 rfl rfl ?_
                            obtain ⟨I249, e1, h⟩ := bnd h
                            refine G_putI cd179_184 rfl (OM.o hw) (Option.some.inj e1) ?_
                            refine g_aload_n cd179_187 rfl rfl ?_
                            refine g_dupR cd179_188 rfl ?_
                            refine g_getI cd179_189 rfl (OM.o hw) ?_
                            refine g_iconst cd179_192 rfl ?_
                            refine g_iadd cd179_193 rfl ?_
                            obtain ⟨I250, e1, h⟩ := bnd h
                            refine G_putI cd179_194 rfl (OM.o hw) (Option.some.inj e1) ?_
                            exact g_vret cd179_197 (by obtain rfl := Option.some.inj h; rfl)
                          · have h := ifnE hb h
                            refine g_iconst cd179_178 rfl ?_
                            obtain ⟨I251, e1, h⟩ := bnd h
                            refine G_putI cd179_179 rfl (OM.o hw) (Option.some.inj e1) ?_
                            refine g_aload_n cd179_182 rfl rfl ?_
                            refine g_iload_n cd179_183 rfl rfl ?_
                            obtain ⟨I252, e1, h⟩ := bnd h
                            refine G_putI cd179_184 rfl (OM.o hw) (Option.some.inj e1) ?_
                            refine g_aload_n cd179_187 rfl rfl ?_
                            refine g_dupR cd179_188 rfl ?_
                            refine g_getI cd179_189 rfl (OM.o hw) ?_
                            refine g_iconst cd179_192 rfl ?_
                            refine g_iadd cd179_193 rfl ?_
                            obtain ⟨I253, e1, h⟩ := bnd h
                            refine G_putI cd179_194 rfl (OM.o hw) (Option.some.inj e1) ?_
                            exact g_vret cd179_197 (by obtain rfl := Option.some.inj h; rfl)
              · have h := ifpE (b2i_t hb) h
                refine g_iload_n cd179_198 rfl rfl ?_
                refine g_callSZ (L := [some (.int (I231 205 ((I231 204 5).toNatClampNeg)))]) cd179_199 rfl rfl rfl rfl rfl (t_Mod_isLetter (by omega)  rfl) ?_
                refine g_istore_n (ls2 := [some (.ref 204), some (.int (I231 205 ((I231 204 5).toNatClampNeg))), some (.int (b2i (Mod_isLetter (I231 205 ((I231 204 5).toNatClampNeg))))), none, none]) cd179_202 rfl rfl ?_
                refine g_iconst cd179_203 rfl ?_
                refine g_istore_n (ls2 := [some (.ref 204), some (.int (I231 205 ((I231 204 5).toNatClampNeg))), some (.int (b2i (Mod_isLetter (I231 205 ((I231 204 5).toNatClampNeg))))), some (.int 1), none]) cd179_204 rfl rfl ?_
                refine g_aload_n cd179_205 rfl rfl ?_
                refine g_lconst cd179_206 rfl ?_
                obtain ⟨J254, e1, h⟩ := bnd h
                refine G_putJ cd179_207 rfl (OM.o hw) (Option.some.inj e1) ?_
                refine g_aload_n cd179_210 rfl rfl ?_
                refine g_iconst cd179_211 rfl ?_
                obtain ⟨I255, e1, h⟩ := bnd h
                refine G_putI cd179_212 rfl (OM.o hw) (Option.some.inj e1) ?_
                exact t_Mod_go_215 hd hw _ (I231 205 ((I231 204 5).toNatClampNeg)) (b2i (Mod_isLetter (I231 205 ((I231 204 5).toNatClampNeg)))) 1 I255 J254 h
            · have h := ifpE (b2i_t hb) h
              refine g_iload_n cd179_198 rfl rfl ?_
              refine g_callSZ (L := [some (.int (I231 205 ((I231 204 5).toNatClampNeg)))]) cd179_199 rfl rfl rfl rfl rfl (t_Mod_isLetter (by omega)  rfl) ?_
              refine g_istore_n (ls2 := [some (.ref 204), some (.int (I231 205 ((I231 204 5).toNatClampNeg))), some (.int (b2i (Mod_isLetter (I231 205 ((I231 204 5).toNatClampNeg))))), none, none]) cd179_202 rfl rfl ?_
              refine g_iconst cd179_203 rfl ?_
              refine g_istore_n (ls2 := [some (.ref 204), some (.int (I231 205 ((I231 204 5).toNatClampNeg))), some (.int (b2i (Mod_isLetter (I231 205 ((I231 204 5).toNatClampNeg))))), some (.int 1), none]) cd179_204 rfl rfl ?_
              refine g_aload_n cd179_205 rfl rfl ?_
              refine g_lconst cd179_206 rfl ?_
              obtain ⟨J256, e1, h⟩ := bnd h
              refine G_putJ cd179_207 rfl (OM.o hw) (Option.some.inj e1) ?_
              refine g_aload_n cd179_210 rfl rfl ?_
              refine g_iconst cd179_211 rfl ?_
              obtain ⟨I257, e1, h⟩ := bnd h
              refine G_putI cd179_212 rfl (OM.o hw) (Option.some.inj e1) ?_
              exact t_Mod_go_215 hd hw _ (I231 205 ((I231 204 5).toNatClampNeg)) (b2i (Mod_isLetter (I231 205 ((I231 204 5).toNatClampNeg)))) 1 I257 J256 h
          · have h := ifnE hb h
            refine g_aload_n cd179_107 rfl rfl ?_
            refine g_iconst cd179_108 rfl ?_
            obtain ⟨I258, e1, h⟩ := bnd h
            refine G_putI cd179_109 rfl (OM.o hw) (Option.some.inj e1) ?_
            exact g_vret cd179_112 (by obtain rfl := Option.some.inj h; rfl)
        · have h := ifnE hb h
          refine g_aload_n cd179_71 rfl rfl ?_
          refine g_getI cd179_72 rfl (OM.o hw) ?_
          refine g_aload_n cd179_75 rfl rfl ?_
          refine g_getI cd179_76 rfl (OM.o hw) ?_
          refine g_icmp_lt cd179_79 rfl (fun hb => ?_) (fun hb => ?_)
          · have h := ifpE hb h
            refine g_aload_n cd179_96 rfl rfl ?_
            refine g_getI cd179_97 rfl (OM.o hw) ?_
            refine g_aload_n cd179_100 rfl rfl ?_
            refine g_getI cd179_101 rfl (OM.o hw) ?_
            refine g_icmp_lt cd179_104 rfl (fun hb => ?_) (fun hb => ?_)
            · have h := ifpE hb h
              refine g_aload_n cd179_113 rfl rfl ?_
              refine g_getP cd179_114 rfl (OM.o hw) (OM.p1 hw) ?_
              refine g_aload_n cd179_117 rfl rfl ?_
              refine g_getI cd179_118 rfl (OM.o hw) ?_
              obtain ⟨hg259, h⟩ := grd h
              refine G_iald cd179_121 rfl (OM.s1 hw) hg259 ?_
              refine g_istore_n (ls2 := [some (.ref 204), some (.int (I231 205 ((I231 204 5).toNatClampNeg))), none, none, none]) cd179_122 rfl rfl ?_
              refine g_iload_n cd179_123 rfl rfl ?_
              refine g_callSZ (L := [some (.int (I231 205 ((I231 204 5).toNatClampNeg)))]) cd179_124 rfl rfl rfl rfl rfl (t_Mod_isLetter (by omega)  rfl) ?_
              refine g_if_ne cd179_127 rfl (fun hb => ?_) (fun hb => ?_)
              · have h := ifnE (b2i_f hb) h
                refine g_iload_n cd179_130 rfl rfl ?_
                refine g_callSZ (L := [some (.int (I231 205 ((I231 204 5).toNatClampNeg)))]) cd179_131 rfl rfl rfl rfl rfl (t_Mod_isDigit (by omega)  rfl) ?_
                refine g_if_ne cd179_134 rfl (fun hb => ?_) (fun hb => ?_)
                · have h := ifnE (b2i_f hb) h
                  refine g_aload_n cd179_137 rfl rfl ?_
                  refine g_iload_n cd179_138 rfl rfl ?_
                  refine g_bipush cd179_139 rfl ?_
                  refine g_icmp_eq cd179_141 rfl (fun hb => ?_) (fun hb => ?_)
                  · have h := ifpE hb h
                    refine g_iconst cd179_174 rfl ?_
                    refine g_goto (ls2 := [some (.ref 204), some (.int (I231 205 ((I231 204 5).toNatClampNeg))), none, none, none]) cd179_175 rfl rfl ?_
                    obtain ⟨I260, e1, h⟩ := bnd h
                    refine G_putI cd179_179 rfl (OM.o hw) (Option.some.inj e1) ?_
                    refine g_aload_n cd179_182 rfl rfl ?_
                    refine g_iload_n cd179_183 rfl rfl ?_
                    obtain ⟨I261, e1, h⟩ := bnd h
                    refine G_putI cd179_184 rfl (OM.o hw) (Option.some.inj e1) ?_
                    refine g_aload_n cd179_187 rfl rfl ?_
                    refine g_dupR cd179_188 rfl ?_
                    refine g_getI cd179_189 rfl (OM.o hw) ?_
                    refine g_iconst cd179_192 rfl ?_
                    refine g_iadd cd179_193 rfl ?_
                    obtain ⟨I262, e1, h⟩ := bnd h
                    refine G_putI cd179_194 rfl (OM.o hw) (Option.some.inj e1) ?_
                    exact g_vret cd179_197 (by obtain rfl := Option.some.inj h; rfl)
                  · have h := ifnE hb h
                    refine g_iload_n cd179_144 rfl rfl ?_
                    refine g_bipush cd179_145 rfl ?_
                    refine g_icmp_eq cd179_147 rfl (fun hb => ?_) (fun hb => ?_)
                    · have h := ifpE hb h
                      refine g_iconst cd179_174 rfl ?_
                      refine g_goto (ls2 := [some (.ref 204), some (.int (I231 205 ((I231 204 5).toNatClampNeg))), none, none, none]) cd179_175 rfl rfl ?_
                      obtain ⟨I263, e1, h⟩ := bnd h
                      refine G_putI cd179_179 rfl (OM.o hw) (Option.some.inj e1) ?_
                      refine g_aload_n cd179_182 rfl rfl ?_
                      refine g_iload_n cd179_183 rfl rfl ?_
                      obtain ⟨I264, e1, h⟩ := bnd h
                      refine G_putI cd179_184 rfl (OM.o hw) (Option.some.inj e1) ?_
                      refine g_aload_n cd179_187 rfl rfl ?_
                      refine g_dupR cd179_188 rfl ?_
                      refine g_getI cd179_189 rfl (OM.o hw) ?_
                      refine g_iconst cd179_192 rfl ?_
                      refine g_iadd cd179_193 rfl ?_
                      obtain ⟨I265, e1, h⟩ := bnd h
                      refine G_putI cd179_194 rfl (OM.o hw) (Option.some.inj e1) ?_
                      exact g_vret cd179_197 (by obtain rfl := Option.some.inj h; rfl)
                    · have h := ifnE hb h
                      refine g_iload_n cd179_150 rfl rfl ?_
                      refine g_bipush cd179_151 rfl ?_
                      refine g_icmp_eq cd179_153 rfl (fun hb => ?_) (fun hb => ?_)
                      · have h := ifpE hb h
                        refine g_iconst cd179_174 rfl ?_
                        refine g_goto (ls2 := [some (.ref 204), some (.int (I231 205 ((I231 204 5).toNatClampNeg))), none, none, none]) cd179_175 rfl rfl ?_
                        obtain ⟨I266, e1, h⟩ := bnd h
                        refine G_putI cd179_179 rfl (OM.o hw) (Option.some.inj e1) ?_
                        refine g_aload_n cd179_182 rfl rfl ?_
                        refine g_iload_n cd179_183 rfl rfl ?_
                        obtain ⟨I267, e1, h⟩ := bnd h
                        refine G_putI cd179_184 rfl (OM.o hw) (Option.some.inj e1) ?_
                        refine g_aload_n cd179_187 rfl rfl ?_
                        refine g_dupR cd179_188 rfl ?_
                        refine g_getI cd179_189 rfl (OM.o hw) ?_
                        refine g_iconst cd179_192 rfl ?_
                        refine g_iadd cd179_193 rfl ?_
                        obtain ⟨I268, e1, h⟩ := bnd h
                        refine G_putI cd179_194 rfl (OM.o hw) (Option.some.inj e1) ?_
                        exact g_vret cd179_197 (by obtain rfl := Option.some.inj h; rfl)
                      · have h := ifnE hb h
                        refine g_iload_n cd179_156 rfl rfl ?_
                        refine g_bipush cd179_157 rfl ?_
                        refine g_icmp_eq cd179_159 rfl (fun hb => ?_) (fun hb => ?_)
                        · have h := ifpE hb h
                          refine g_iconst cd179_174 rfl ?_
                          refine g_goto (ls2 := [some (.ref 204), some (.int (I231 205 ((I231 204 5).toNatClampNeg))), none, none, none]) cd179_175 rfl rfl ?_
                          obtain ⟨I269, e1, h⟩ := bnd h
                          refine G_putI cd179_179 rfl (OM.o hw) (Option.some.inj e1) ?_
                          refine g_aload_n cd179_182 rfl rfl ?_
                          refine g_iload_n cd179_183 rfl rfl ?_
                          obtain ⟨I270, e1, h⟩ := bnd h
                          refine G_putI cd179_184 rfl (OM.o hw) (Option.some.inj e1) ?_
                          refine g_aload_n cd179_187 rfl rfl ?_
                          refine g_dupR cd179_188 rfl ?_
                          refine g_getI cd179_189 rfl (OM.o hw) ?_
                          refine g_iconst cd179_192 rfl ?_
                          refine g_iadd cd179_193 rfl ?_
                          obtain ⟨I271, e1, h⟩ := bnd h
                          refine G_putI cd179_194 rfl (OM.o hw) (Option.some.inj e1) ?_
                          exact g_vret cd179_197 (by obtain rfl := Option.some.inj h; rfl)
                        · have h := ifnE hb h
                          refine g_iload_n cd179_162 rfl rfl ?_
                          refine g_bipush cd179_163 rfl ?_
                          refine g_icmp_eq cd179_165 rfl (fun hb => ?_) (fun hb => ?_)
                          · have h := ifpE hb h
                            refine g_iconst cd179_174 rfl ?_
                            refine g_goto (ls2 := [some (.ref 204), some (.int (I231 205 ((I231 204 5).toNatClampNeg))), none, none, none]) cd179_175 rfl rfl ?_
                            obtain ⟨I272, e1, h⟩ := bnd h
                            refine G_putI cd179_179 rfl (OM.o hw) (Option.some.inj e1) ?_
                            refine g_aload_n cd179_182 rfl rfl ?_
                            refine g_iload_n cd179_183 rfl rfl ?_
                            obtain ⟨I273, e1, h⟩ := bnd h
                            refine G_putI cd179_184 rfl (OM.o hw) (Option.some.inj e1) ?_
                            refine g_aload_n cd179_187 rfl rfl ?_
                            refine g_dupR cd179_188 rfl ?_
                            refine g_getI cd179_189 rfl (OM.o hw) ?_
                            refine g_iconst cd179_192 rfl ?_
                            refine g_iadd cd179_193 rfl ?_
                            obtain ⟨I274, e1, h⟩ := bnd h
                            refine G_putI cd179_194 rfl (OM.o hw) (Option.some.inj e1) ?_
                            exact g_vret cd179_197 (by obtain rfl := Option.some.inj h; rfl)
                          · have h := ifnE hb h
                            refine g_iload_n cd179_168 rfl rfl ?_
                            refine g_bipush cd179_169 rfl ?_
                            refine g_icmp_ne cd179_171 rfl (fun hb => ?_) (fun hb => ?_)
                            · have h := ifpE hb h
                              refine g_iconst cd179_174 rfl ?_
                              refine g_goto (ls2 := [some (.ref 204), some (.int (I231 205 ((I231 204 5).toNatClampNeg))), none, none, none]) cd179_175 rfl rfl ?_
                              obtain ⟨I275, e1, h⟩ := bnd h
                              refine G_putI cd179_179 rfl (OM.o hw) (Option.some.inj e1) ?_
                              refine g_aload_n cd179_182 rfl rfl ?_
                              refine g_iload_n cd179_183 rfl rfl ?_
                              obtain ⟨I276, e1, h⟩ := bnd h
                              refine G_putI cd179_184 rfl (OM.o hw) (Option.some.inj e1) ?_
                              refine g_aload_n cd179_187 rfl rfl ?_
                              refine g_dupR cd179_188 rfl ?_
                              refine g_getI cd179_189 rfl (OM.o hw) ?_
                              refine g_iconst cd179_192 rfl ?_
                              refine g_iadd cd179_193 rfl ?_
                              obtain ⟨I277, e1, h⟩ := bnd h
                              refine G_putI cd179_194 rfl (OM.o hw) (Option.some.inj e1) ?_
                              exact g_vret cd179_197 (by obtain rfl := Option.some.inj h; rfl)
                            · have h := ifnE hb h
                              refine g_iconst cd179_178 rfl ?_
                              obtain ⟨I278, e1, h⟩ := bnd h
                              refine G_putI cd179_179 rfl (OM.o hw) (Option.some.inj e1) ?_
                              refine g_aload_n cd179_182 rfl rfl ?_
                              refine g_iload_n cd179_183 rfl rfl ?_
                              obtain ⟨I279, e1, h⟩ := bnd h
                              refine G_putI cd179_184 rfl (OM.o hw) (Option.some.inj e1) ?_
                              refine g_aload_n cd179_187 rfl rfl ?_
                              refine g_dupR cd179_188 rfl ?_
                              refine g_getI cd179_189 rfl (OM.o hw) ?_
                              refine g_iconst cd179_192 rfl ?_
                              refine g_iadd cd179_193 rfl ?_
                              obtain ⟨I280, e1, h⟩ := bnd h
                              refine G_putI cd179_194 rfl (OM.o hw) (Option.some.inj e1) ?_
                              exact g_vret cd179_197 (by obtain rfl := Option.some.inj h; rfl)
                · have h := ifpE (b2i_t hb) h
                  refine g_iload_n cd179_198 rfl rfl ?_
                  refine g_callSZ (L := [some (.int (I231 205 ((I231 204 5).toNatClampNeg)))]) cd179_199 rfl rfl rfl rfl rfl (t_Mod_isLetter (by omega)  rfl) ?_
                  refine g_istore_n (ls2 := [some (.ref 204), some (.int (I231 205 ((I231 204 5).toNatClampNeg))), some (.int (b2i (Mod_isLetter (I231 205 ((I231 204 5).toNatClampNeg))))), none, none]) cd179_202 rfl rfl ?_
                  refine g_iconst cd179_203 rfl ?_
                  refine g_istore_n (ls2 := [some (.ref 204), some (.int (I231 205 ((I231 204 5).toNatClampNeg))), some (.int (b2i (Mod_isLetter (I231 205 ((I231 204 5).toNatClampNeg))))), some (.int 1), none]) cd179_204 rfl rfl ?_
                  refine g_aload_n cd179_205 rfl rfl ?_
                  refine g_lconst cd179_206 rfl ?_
                  obtain ⟨J281, e1, h⟩ := bnd h
                  refine G_putJ cd179_207 rfl (OM.o hw) (Option.some.inj e1) ?_
                  refine g_aload_n cd179_210 rfl rfl ?_
                  refine g_iconst cd179_211 rfl ?_
                  obtain ⟨I282, e1, h⟩ := bnd h
                  refine G_putI cd179_212 rfl (OM.o hw) (Option.some.inj e1) ?_
                  exact t_Mod_go_215 hd hw _ (I231 205 ((I231 204 5).toNatClampNeg)) (b2i (Mod_isLetter (I231 205 ((I231 204 5).toNatClampNeg)))) 1 I282 J281 h
              · have h := ifpE (b2i_t hb) h
                refine g_iload_n cd179_198 rfl rfl ?_
                refine g_callSZ (L := [some (.int (I231 205 ((I231 204 5).toNatClampNeg)))]) cd179_199 rfl rfl rfl rfl rfl (t_Mod_isLetter (by omega)  rfl) ?_
                refine g_istore_n (ls2 := [some (.ref 204), some (.int (I231 205 ((I231 204 5).toNatClampNeg))), some (.int (b2i (Mod_isLetter (I231 205 ((I231 204 5).toNatClampNeg))))), none, none]) cd179_202 rfl rfl ?_
                refine g_iconst cd179_203 rfl ?_
                refine g_istore_n (ls2 := [some (.ref 204), some (.int (I231 205 ((I231 204 5).toNatClampNeg))), some (.int (b2i (Mod_isLetter (I231 205 ((I231 204 5).toNatClampNeg))))), some (.int 1), none]) cd179_204 rfl rfl ?_
                refine g_aload_n cd179_205 rfl rfl ?_
                refine g_lconst cd179_206 rfl ?_
                obtain ⟨J283, e1, h⟩ := bnd h
                refine G_putJ cd179_207 rfl (OM.o hw) (Option.some.inj e1) ?_
                refine g_aload_n cd179_210 rfl rfl ?_
                refine g_iconst cd179_211 rfl ?_
                obtain ⟨I284, e1, h⟩ := bnd h
                refine G_putI cd179_212 rfl (OM.o hw) (Option.some.inj e1) ?_
                exact t_Mod_go_215 hd hw _ (I231 205 ((I231 204 5).toNatClampNeg)) (b2i (Mod_isLetter (I231 205 ((I231 204 5).toNatClampNeg)))) 1 I284 J283 h
            · have h := ifnE hb h
              refine g_aload_n cd179_107 rfl rfl ?_
              refine g_iconst cd179_108 rfl ?_
              obtain ⟨I285, e1, h⟩ := bnd h
              refine G_putI cd179_109 rfl (OM.o hw) (Option.some.inj e1) ?_
              exact g_vret cd179_112 (by obtain rfl := Option.some.inj h; rfl)
          · have h := ifnE hb h
            refine g_aload_n cd179_82 rfl rfl ?_
            refine g_aload_n cd179_83 rfl rfl ?_
            refine g_getI cd179_84 rfl (OM.o hw) ?_
            obtain ⟨I286, e1, h⟩ := bnd h
            refine G_putI cd179_87 rfl (OM.o hw) (Option.some.inj e1) ?_
            refine g_aload_n cd179_90 rfl rfl ?_
            refine g_iconst cd179_91 rfl ?_
            obtain ⟨I287, e1, h⟩ := bnd h
            refine G_putI cd179_92 rfl (OM.o hw) (Option.some.inj e1) ?_
            exact g_vret cd179_95 (by obtain rfl := Option.some.inj h; rfl)

/-! HiddenOrLost.route(III)I -/
theorem cd141_0 : code9 141 0 = some (0, .aload_n 0, [1], .null, []) := rfl
theorem cd141_1 : code9 141 1 = some (0, .getfield 19, [3, 11, 1, 2], .null, []) := rfl
theorem cd141_4 : code9 141 4 = some (0, .iload_n 1, [1], .null, []) := rfl
theorem cd141_5 : code9 141 5 = some (0, .iload_n 2, [1], .null, []) := rfl
theorem cd141_6 : code9 141 6 = some (0, .invokevirtual 183, [3, 53, 3, 1, 3, 3, 6, 0], .null, []) := rfl
theorem cd141_9 : code9 141 9 = some (0, .ifCond .eq 14, [3, 23], .null, []) := rfl
theorem cd141_12 : code9 141 12 = some (0, .iload_n 3, [1], .null, []) := rfl
theorem cd141_13 : code9 141 13 = some (0, .iconst 1, [1], .int 1, []) := rfl
theorem cd141_14 : code9 141 14 = some (0, .if_icmp .lt 9, [3, 23], .null, []) := rfl
theorem cd141_17 : code9 141 17 = some (0, .iload_n 3, [1], .null, []) := rfl
theorem cd141_18 : code9 141 18 = some (0, .bipush 8, [2], .int 8, []) := rfl
theorem cd141_20 : code9 141 20 = some (0, .if_icmp .le 5, [3, 25], .null, []) := rfl
theorem cd141_23 : code9 141 23 = some (5, .iconst (-1), [1], .int (-1), []) := rfl
theorem cd141_24 : code9 141 24 = some (0, .ireturn, [1, 1], .null, []) := rfl
theorem cd141_25 : code9 141 25 = some (0, .aload_n 0, [1], .null, []) := rfl
theorem cd141_26 : code9 141 26 = some (0, .getfield 87, [3, 11, 13, 2], .null, []) := rfl
theorem cd141_29 : code9 141 29 = some (0, .aload_n 0, [1], .null, []) := rfl
theorem cd141_30 : code9 141 30 = some (0, .getfield 19, [3, 11, 1, 2], .null, []) := rfl
theorem cd141_33 : code9 141 33 = some (0, .aload_n 0, [1], .null, []) := rfl
theorem cd141_34 : code9 141 34 = some (0, .getfield 29, [3, 11, 3, 2], .null, []) := rfl
theorem cd141_37 : code9 141 37 = some (0, .bipush 6, [2], .int 6, []) := rfl
theorem cd141_39 : code9 141 39 = some (0, .iload_n 2, [1], .null, []) := rfl
theorem cd141_40 : code9 141 40 = some (0, .imul, [1], .null, []) := rfl
theorem cd141_41 : code9 141 41 = some (0, .iload_n 1, [1], .null, []) := rfl
theorem cd141_42 : code9 141 42 = some (0, .iadd, [1], .null, []) := rfl
theorem cd141_43 : code9 141 43 = some (0, .iload_n 3, [1], .null, []) := rfl
theorem cd141_44 : code9 141 44 = some (0, .invokevirtual 296, [3, 62, 5, 1, 0, 8, 7, 0], .null, []) := rfl
theorem cd141_47 : code9 141 47 = some (0, .aload_n 0, [1], .null, []) := rfl
theorem cd141_48 : code9 141 48 = some (0, .getfield 87, [3, 11, 13, 2], .null, []) := rfl
theorem cd141_51 : code9 141 51 = some (0, .getfield 300, [3, 7, 6, 0], .null, []) := rfl
theorem cd141_54 : code9 141 54 = some (0, .ireturn, [1, 1], .null, []) := rfl
def Hol_route (N : Nat) (ln sp sn ss : Nat) (l1 : Int32) (l2 : Int32) (l3 : Int32) (I : FI) : Option (Int32 × FI) := if (Land_hasCell ln l1 l2 I) then (if l3 < 1 then (some ((-1), I)) else (if l3 ≤ 8 then (Option.bind (Route_search N 195 ln 25 ((6 * l2) + l1) l3 I) fun x1 => (some (x1 195 6, x1))) else (some ((-1), I)))) else (some ((-1), I))
set_option maxRecDepth 8000 in
theorem t_Hol_route {d : Nat} {N : Nat} {ln sp sn ss : Nat} {c : Nat × Nat} {S : Nat → Nat × Nat} {P : Nat → Nat → Option Nat} {I : FI} {J : FJ} {l1 : Int32} {l2 : Int32} {l3 : Int32} {r : Int32 × FI} (hd : 132 ≤ d) (hw : OH S P ln sp sn ss) (h : Hol_route N ln sp sn ss l1 l2 l3 I = some r) : Go d M_Hol_route 0 [some (.ref 0), some (.int l1), some (.int l2), some (.int l3)] [] (c, S, I, J, P) (some (.int r.1), false, (c, S, r.2, J, P)) := by
  obtain ⟨d, rfl⟩ : ∃ e, d = e + 1 := ⟨d - 1, by omega⟩
  unfold Hol_route at h
  refine g_aload_n cd141_0 rfl rfl ?_
  refine g_getP cd141_1 rfl (OH.o hw) (OH.p1 hw) ?_
  refine g_iload_n cd141_4 rfl rfl ?_
  refine g_iload_n cd141_5 rfl rfl ?_
  refine g_callVZ (L := [some (.ref ln), some (.int l1), some (.int l2)]) cd141_6 rfl rfl rfl rfl rfl (O6.o (OH.q1 hw)) (t_Land_hasCell (by omega) (OH.q1 hw) rfl) ?_
  refine g_if_eq cd141_9 rfl (fun hb => ?_) (fun hb => ?_)
  · have h := ifnE (b2i_f hb) h
    refine g_iconst cd141_23 rfl ?_
    exact g_iret cd141_24 (Or.inl rfl) (by obtain rfl := Option.some.inj h; rfl)
  · have h := ifpE (b2i_t hb) h
    refine g_iload_n cd141_12 rfl rfl ?_
    refine g_iconst cd141_13 rfl ?_
    refine g_icmp_lt cd141_14 rfl (fun hb => ?_) (fun hb => ?_)
    · have h := ifpE hb h
      refine g_iconst cd141_23 rfl ?_
      exact g_iret cd141_24 (Or.inl rfl) (by obtain rfl := Option.some.inj h; rfl)
    · have h := ifnE hb h
      refine g_iload_n cd141_17 rfl rfl ?_
      refine g_bipush cd141_18 rfl ?_
      refine g_icmp_le cd141_20 rfl (fun hb => ?_) (fun hb => ?_)
      · have h := ifpE hb h
        refine g_aload_n cd141_25 rfl rfl ?_
        refine g_getP cd141_26 rfl (OH.o hw) (OH.p13 hw) ?_
        refine g_aload_n cd141_29 rfl rfl ?_
        refine g_getP cd141_30 rfl (OH.o hw) (OH.p1 hw) ?_
        refine g_aload_n cd141_33 rfl rfl ?_
        refine g_getP cd141_34 rfl (OH.o hw) (OH.p3 hw) ?_
        refine g_bipush cd141_37 rfl ?_
        refine g_iload_n cd141_39 rfl rfl ?_
        refine g_imul cd141_40 rfl ?_
        refine g_iload_n cd141_41 rfl rfl ?_
        refine g_iadd cd141_42 rfl ?_
        refine g_iload_n cd141_43 rfl rfl ?_
        obtain ⟨x1, hx, h⟩ := bnd h
        refine g_callVV (L := [some (.ref 195), some (.ref ln), some (.ref 25), some (.int ((6 * l2) + l1)), some (.int l3), none, none, none]) cd141_44 rfl rfl rfl rfl rfl (O7.o (OH.q13 hw)) (t_Route_search (by omega) (OH.q13 hw) (OH.q1 hw) (OH.q3 hw) hx) ?_
        refine g_aload_n cd141_47 rfl rfl ?_
        refine g_getP cd141_48 rfl (OH.o hw) (OH.p13 hw) ?_
        refine g_getI cd141_51 rfl (O7.o (OH.q13 hw)) ?_
        exact g_iret cd141_54 (Or.inl rfl) (by obtain rfl := Option.some.inj h; rfl)
      · have h := ifnE hb h
        refine g_iconst cd141_23 rfl ?_
        exact g_iret cd141_24 (Or.inl rfl) (by obtain rfl := Option.some.inj h; rfl)
/-! HiddenOrLost.routeAt(I)I -/
theorem cd142_0 : code9 142 0 = some (0, .iload_n 1, [1], .null, []) := rfl
theorem cd142_1 : code9 142 1 = some (0, .ifCond .lt 14, [3, 15], .null, []) := rfl
theorem cd142_4 : code9 142 4 = some (0, .iload_n 1, [1], .null, []) := rfl
theorem cd142_5 : code9 142 5 = some (0, .aload_n 0, [1], .null, []) := rfl
theorem cd142_6 : code9 142 6 = some (0, .getfield 87, [3, 11, 13, 2], .null, []) := rfl
theorem cd142_9 : code9 142 9 = some (0, .getfield 303, [3, 7, 5, 0], .null, []) := rfl
theorem cd142_12 : code9 142 12 = some (0, .if_icmp .lt 7, [3, 19], .null, []) := rfl
theorem cd142_15 : code9 142 15 = some (3, .iconst (-1), [1], .int (-1), []) := rfl
theorem cd142_16 : code9 142 16 = some (0, .goto 12, [3, 28, 2], .null, []) := rfl
theorem cd142_19 : code9 142 19 = some (0, .aload_n 0, [1], .null, []) := rfl
theorem cd142_20 : code9 142 20 = some (0, .getfield 87, [3, 11, 13, 2], .null, []) := rfl
theorem cd142_23 : code9 142 23 = some (0, .getfield 304, [3, 7, 3, 2], .null, []) := rfl
theorem cd142_26 : code9 142 26 = some (0, .iload_n 1, [1], .null, []) := rfl
theorem cd142_27 : code9 142 27 = some (0, .iaload, [1], .null, []) := rfl
theorem cd142_28 : code9 142 28 = some (3, .ireturn, [1, 1], .null, []) := rfl
def Hol_routeAt (ln sp sn ss : Nat) (l1 : Int32) (I : FI) : Option (Int32) := if l1 < 0 then (some (-1)) else (if l1 < (I 195 5) then (if in9 l1 8 then (some (I 199 l1.toNatClampNeg)) else none) else (some (-1)))
set_option maxRecDepth 8000 in
theorem t_Hol_routeAt {d : Nat} {ln sp sn ss : Nat} {c : Nat × Nat} {S : Nat → Nat × Nat} {P : Nat → Nat → Option Nat} {I : FI} {J : FJ} {l1 : Int32} {r : Int32} (hd : 0 ≤ d) (hw : OH S P ln sp sn ss) (h : Hol_routeAt ln sp sn ss l1 I = some r) : Go d M_Hol_routeAt 0 [some (.ref 0), some (.int l1)] [] (c, S, I, J, P) (some (.int r), false, (c, S, I, J, P)) := by
  unfold Hol_routeAt at h
  refine g_iload_n cd142_0 rfl rfl ?_
  refine g_if_lt cd142_1 rfl (fun hb => ?_) (fun hb => ?_)
  · have h := ifpE hb h
    refine g_iconst cd142_15 rfl ?_
    refine g_goto (ls2 := [some (.ref 0), some (.int l1)]) cd142_16 rfl rfl ?_
    exact g_iret cd142_28 (Or.inl rfl) (by obtain rfl := Option.some.inj h; rfl)
  · have h := ifnE hb h
    refine g_iload_n cd142_4 rfl rfl ?_
    refine g_aload_n cd142_5 rfl rfl ?_
    refine g_getP cd142_6 rfl (OH.o hw) (OH.p13 hw) ?_
    refine g_getI cd142_9 rfl (O7.o (OH.q13 hw)) ?_
    refine g_icmp_lt cd142_12 rfl (fun hb => ?_) (fun hb => ?_)
    · have h := ifpE hb h
      refine g_aload_n cd142_19 rfl rfl ?_
      refine g_getP cd142_20 rfl (OH.o hw) (OH.p13 hw) ?_
      refine g_getP cd142_23 rfl (O7.o (OH.q13 hw)) (show P 195 3 = some 199 from O7.p3 (OH.q13 hw)) ?_
      refine g_iload_n cd142_26 rfl rfl ?_
      obtain ⟨hg1, h⟩ := grd h
      refine G_iald cd142_27 rfl (show S 199 = (1, 8) from O7.s3 (OH.q13 hw)) hg1 ?_
      exact g_iret cd142_28 (Or.inl rfl) (by obtain rfl := Option.some.inj h; rfl)
    · have h := ifnE hb h
      refine g_iconst cd142_15 rfl ?_
      refine g_goto (ls2 := [some (.ref 0), some (.int l1)]) cd142_16 rfl rfl ?_
      exact g_iret cd142_28 (Or.inl rfl) (by obtain rfl := Option.some.inj h; rfl)
/-! HiddenOrLost.spread()I -/
theorem cd143_0 : code9 143 0 = some (0, .aload_n 0, [1], .null, []) := rfl
theorem cd143_1 : code9 143 1 = some (0, .getfield 29, [3, 11, 3, 2], .null, []) := rfl
theorem cd143_4 : code9 143 4 = some (0, .aload_n 0, [1], .null, []) := rfl
theorem cd143_5 : code9 143 5 = some (0, .getfield 19, [3, 11, 1, 2], .null, []) := rfl
theorem cd143_8 : code9 143 8 = some (0, .iconst 2, [1], .int 2, []) := rfl
theorem cd143_9 : code9 143 9 = some (0, .invokevirtual 307, [3, 99, 3, 1, 1, 6, 9, 0], .null, []) := rfl
theorem cd143_12 : code9 143 12 = some (0, .ireturn, [1, 1], .null, []) := rfl
def Hol_spread (N : Nat) (ln sp sn ss : Nat) (I : FI) : Option (Int32) := Option.bind (State_stepsBetween N 25 ln 2 I) fun x1 => (some x1)
set_option maxRecDepth 8000 in
theorem t_Hol_spread {d : Nat} {N : Nat} {ln sp sn ss : Nat} {c : Nat × Nat} {S : Nat → Nat × Nat} {P : Nat → Nat → Option Nat} {I : FI} {J : FJ} {r : Int32} (hd : 2 ≤ d) (hw : OH S P ln sp sn ss) (h : Hol_spread N ln sp sn ss I = some r) : Go d M_Hol_spread 0 [some (.ref 0)] [] (c, S, I, J, P) (some (.int r), false, (c, S, I, J, P)) := by
  obtain ⟨d, rfl⟩ : ∃ e, d = e + 1 := ⟨d - 1, by omega⟩
  unfold Hol_spread at h
  refine g_aload_n cd143_0 rfl rfl ?_
  refine g_getP cd143_1 rfl (OH.o hw) (OH.p3 hw) ?_
  refine g_aload_n cd143_4 rfl rfl ?_
  refine g_getP cd143_5 rfl (OH.o hw) (OH.p1 hw) ?_
  refine g_iconst cd143_8 rfl ?_
  obtain ⟨x1, hx, h⟩ := bnd h
  refine g_callVI (L := [some (.ref 25), some (.ref ln), some (.int 2), none, none, none]) cd143_9 rfl rfl rfl rfl rfl (O9.o (OH.q3 hw)) (t_State_stepsBetween (by omega) (OH.q3 hw) (OH.q1 hw) hx) ?_
  exact g_iret cd143_12 (Or.inl rfl) (by obtain rfl := Option.some.inj h; rfl)
/-! HiddenOrLost.spreadByPlough(III)I -/
theorem cd145_0 : code9 145 0 = some (0, .aload_n 0, [1], .null, []) := rfl
theorem cd145_1 : code9 145 1 = some (0, .getfield 33, [3, 11, 4, 2], .null, []) := rfl
theorem cd145_4 : code9 145 4 = some (0, .aload_n 0, [1], .null, []) := rfl
theorem cd145_5 : code9 145 5 = some (0, .getfield 29, [3, 11, 3, 2], .null, []) := rfl
theorem cd145_8 : code9 145 8 = some (0, .invokevirtual 348, [3, 89, 2, 1, 0, 2, 9, 0], .null, []) := rfl
theorem cd145_11 : code9 145 11 = some (0, .aload_n 0, [1], .null, []) := rfl
theorem cd145_12 : code9 145 12 = some (0, .getfield 33, [3, 11, 4, 2], .null, []) := rfl
theorem cd145_15 : code9 145 15 = some (0, .aload_n 0, [1], .null, []) := rfl
theorem cd145_16 : code9 145 16 = some (0, .getfield 19, [3, 11, 1, 2], .null, []) := rfl
theorem cd145_19 : code9 145 19 = some (0, .iload_n 1, [1], .null, []) := rfl
theorem cd145_20 : code9 145 20 = some (0, .iload_n 2, [1], .null, []) := rfl
theorem cd145_21 : code9 145 21 = some (0, .invokevirtual 399, [3, 100, 4, 1, 0, 5, 9, 0], .null, []) := rfl
theorem cd145_24 : code9 145 24 = some (0, .aload_n 0, [1], .null, []) := rfl
theorem cd145_25 : code9 145 25 = some (0, .getfield 73, [3, 11, 11, 2], .null, []) := rfl
theorem cd145_28 : code9 145 28 = some (0, .iload_n 3, [1], .null, []) := rfl
theorem cd145_29 : code9 145 29 = some (0, .putfield 240, [3, 2, 0, 0], .null, []) := rfl
theorem cd145_32 : code9 145 32 = some (0, .iconst 0, [1], .int 0, []) := rfl
theorem cd145_33 : code9 145 33 = some (0, .istore 4, [2], .null, []) := rfl
theorem cd145_35 : code9 145 35 = some (6, .iload 4, [2], .null, []) := rfl
theorem cd145_37 : code9 145 37 = some (0, .iconst 3, [1], .int 3, []) := rfl
theorem cd145_38 : code9 145 38 = some (0, .if_icmp .ge 25, [3, 63], .null, []) := rfl
theorem cd145_41 : code9 145 41 = some (0, .aload_n 0, [1], .null, []) := rfl
theorem cd145_42 : code9 145 42 = some (0, .getfield 33, [3, 11, 4, 2], .null, []) := rfl
theorem cd145_45 : code9 145 45 = some (0, .aload_n 0, [1], .null, []) := rfl
theorem cd145_46 : code9 145 46 = some (0, .getfield 19, [3, 11, 1, 2], .null, []) := rfl
theorem cd145_49 : code9 145 49 = some (0, .aload_n 0, [1], .null, []) := rfl
theorem cd145_50 : code9 145 50 = some (0, .getfield 73, [3, 11, 11, 2], .null, []) := rfl
theorem cd145_53 : code9 145 53 = some (0, .invokevirtual 242, [3, 95, 3, 1, 1, 5, 9, 0], .null, []) := rfl
theorem cd145_56 : code9 145 56 = some (0, .pop, [1], .null, []) := rfl
theorem cd145_57 : code9 145 57 = some (0, .iinc 4 1, [3], .int 1, []) := rfl
theorem cd145_60 : code9 145 60 = some (0, .goto (-25), [3, 35, 5], .null, []) := rfl
theorem cd145_63 : code9 145 63 = some (0, .aload_n 0, [1], .null, []) := rfl
theorem cd145_64 : code9 145 64 = some (0, .getfield 33, [3, 11, 4, 2], .null, []) := rfl
theorem cd145_67 : code9 145 67 = some (0, .aload_n 0, [1], .null, []) := rfl
theorem cd145_68 : code9 145 68 = some (0, .getfield 19, [3, 11, 1, 2], .null, []) := rfl
theorem cd145_71 : code9 145 71 = some (0, .iconst 0, [1], .int 0, []) := rfl
theorem cd145_72 : code9 145 72 = some (0, .invokevirtual 307, [3, 99, 3, 1, 1, 6, 9, 0], .null, []) := rfl
theorem cd145_75 : code9 145 75 = some (0, .ireturn, [1, 1], .null, []) := rfl
def Hol_spreadByPlough_35 (N : Nat) (ln sp sn ss : Nat) : Nat → Int32 → Int32 → Int32 → Int32 → FI → Option (Int32 × FI)
  | 0 => fun _ _ _ _ _ => none
  | n + 1 => fun l1 l2 l3 l4 I => if 3 ≤ l4 then (Option.bind (State_stepsBetween N 35 ln 0 I) fun x4 => (some (x4, I))) else (Option.bind (State_turnOver N 35 ln 192 I) fun x5 => (Hol_spreadByPlough_35 N ln sp sn ss n l1 l2 l3 (l4 + 1) x5.2))
def Hol_spreadByPlough (N : Nat) (ln sp sn ss : Nat) (l1 : Int32) (l2 : Int32) (l3 : Int32) (I : FI) : Option (Int32 × FI) := Option.bind (State_copy 35 25 I) fun x1 => (Option.bind (State_gatherTold N 35 ln l1 l2 x1) fun x2 => (Option.bind (some (up2 x2 192 0 l3)) fun I3 => (Hol_spreadByPlough_35 N ln sp sn ss N l1 l2 l3 0 I3)))
set_option maxRecDepth 8000 in
theorem t_Hol_spreadByPlough_35 {d : Nat} {N : Nat} {ln sp sn ss : Nat} {c : Nat × Nat} {S : Nat → Nat × Nat} {P : Nat → Nat → Option Nat} {r : Int32 × FI} (hd : 3 ≤ (d + 1)) (hw : OH S P ln sp sn ss) : ∀ (n : Nat) (l1 : Int32) (l2 : Int32) (l3 : Int32) (l4 : Int32) (I : FI) (J : FJ), Hol_spreadByPlough_35 N ln sp sn ss n l1 l2 l3 l4 I = some r → Go (d + 1) M_Hol_spreadByPlough 35 [some (.ref 0), some (.int l1), some (.int l2), some (.int l3), some (.int l4)] [] (c, S, I, J, P) (some (.int r.1), false, (c, S, r.2, J, P)) := by
  intro n
  induction n with
  | zero =>
    intro l1 l2 l3 l4 I J h
    cases h
  | succ n ih =>
    intro l1 l2 l3 l4 I J h
    unfold Hol_spreadByPlough_35 at h
    refine g_iload cd145_35 rfl rfl ?_
    refine g_iconst cd145_37 rfl ?_
    refine g_icmp_ge cd145_38 rfl (fun hb => ?_) (fun hb => ?_)
    · have h := ifpE hb h
      refine g_aload_n cd145_63 rfl rfl ?_
      refine g_getP cd145_64 rfl (OH.o hw) (OH.p4 hw) ?_
      refine g_aload_n cd145_67 rfl rfl ?_
      refine g_getP cd145_68 rfl (OH.o hw) (OH.p1 hw) ?_
      refine g_iconst cd145_71 rfl ?_
      obtain ⟨x4, hx, h⟩ := bnd h
      refine g_callVI (L := [some (.ref 35), some (.ref ln), some (.int 0), none, none, none]) cd145_72 rfl rfl rfl rfl rfl (O9.o (OH.q4 hw)) (t_State_stepsBetween (by omega) (OH.q4 hw) (OH.q1 hw) hx) ?_
      exact g_iret cd145_75 (Or.inl rfl) (by obtain rfl := Option.some.inj h; rfl)
    · have h := ifnE hb h
      refine g_aload_n cd145_41 rfl rfl ?_
      refine g_getP cd145_42 rfl (OH.o hw) (OH.p4 hw) ?_
      refine g_aload_n cd145_45 rfl rfl ?_
      refine g_getP cd145_46 rfl (OH.o hw) (OH.p1 hw) ?_
      refine g_aload_n cd145_49 rfl rfl ?_
      refine g_getP cd145_50 rfl (OH.o hw) (OH.p11 hw) ?_
      obtain ⟨x5, hx, h⟩ := bnd h
      refine g_callVI (L := [some (.ref 35), some (.ref ln), some (.ref 192), none, none]) cd145_53 rfl rfl rfl rfl rfl (O9.o (OH.q4 hw)) (t_State_turnOver (by omega) (OH.q4 hw) (OH.q1 hw) (OH.q11 hw) hx) ?_
      refine g_popI cd145_56 rfl ?_
      refine g_iinc (ls2 := [some (.ref 0), some (.int l1), some (.int l2), some (.int l3), some (.int (l4 + 1))]) cd145_57 rfl rfl rfl ?_
      refine g_goto (ls2 := [some (.ref 0), some (.int l1), some (.int l2), some (.int l3), some (.int (l4 + 1))]) cd145_60 rfl rfl ?_
      exact ih l1 l2 l3 (l4 + 1) x5.2 J h
set_option maxRecDepth 8000 in
theorem t_Hol_spreadByPlough {d : Nat} {N : Nat} {ln sp sn ss : Nat} {c : Nat × Nat} {S : Nat → Nat × Nat} {P : Nat → Nat → Option Nat} {I : FI} {J : FJ} {l1 : Int32} {l2 : Int32} {l3 : Int32} {r : Int32 × FI} (hd : 3 ≤ d) (hw : OH S P ln sp sn ss) (h : Hol_spreadByPlough N ln sp sn ss l1 l2 l3 I = some r) : Go d M_Hol_spreadByPlough 0 [some (.ref 0), some (.int l1), some (.int l2), some (.int l3), none] [] (c, S, I, J, P) (some (.int r.1), false, (c, S, r.2, J, P)) := by
  obtain ⟨d, rfl⟩ : ∃ e, d = e + 1 := ⟨d - 1, by omega⟩
  unfold Hol_spreadByPlough at h
  refine g_aload_n cd145_0 rfl rfl ?_
  refine g_getP cd145_1 rfl (OH.o hw) (OH.p4 hw) ?_
  refine g_aload_n cd145_4 rfl rfl ?_
  refine g_getP cd145_5 rfl (OH.o hw) (OH.p3 hw) ?_
  obtain ⟨x1, hx, h⟩ := bnd h
  refine g_callVV (L := [some (.ref 35), some (.ref 25)]) cd145_8 rfl rfl rfl rfl rfl (O9.o (OH.q4 hw)) (t_State_copy (by omega) (OH.q4 hw) (OH.q3 hw) hx) ?_
  refine g_aload_n cd145_11 rfl rfl ?_
  refine g_getP cd145_12 rfl (OH.o hw) (OH.p4 hw) ?_
  refine g_aload_n cd145_15 rfl rfl ?_
  refine g_getP cd145_16 rfl (OH.o hw) (OH.p1 hw) ?_
  refine g_iload_n cd145_19 rfl rfl ?_
  refine g_iload_n cd145_20 rfl rfl ?_
  obtain ⟨x2, hx, h⟩ := bnd h
  refine g_callVV (L := [some (.ref 35), some (.ref ln), some (.int l1), some (.int l2), none]) cd145_21 rfl rfl rfl rfl rfl (O9.o (OH.q4 hw)) (t_State_gatherTold (by omega) (OH.q4 hw) (OH.q1 hw) hx) ?_
  refine g_aload_n cd145_24 rfl rfl ?_
  refine g_getP cd145_25 rfl (OH.o hw) (OH.p11 hw) ?_
  refine g_iload_n cd145_28 rfl rfl ?_
  obtain ⟨I3, e1, h⟩ := bnd h
  refine G_putI cd145_29 rfl (O2.o (OH.q11 hw)) (Option.some.inj e1) ?_
  refine g_iconst cd145_32 rfl ?_
  refine g_istore (ls2 := [some (.ref 0), some (.int l1), some (.int l2), some (.int l3), some (.int 0)]) cd145_33 rfl rfl ?_
  exact t_Hol_spreadByPlough_35 hd hw _ l1 l2 l3 0 I3 J h
/-! HiddenOrLost.doubt(IIII)I -/
theorem cd144_0 : code9 144 0 = some (0, .aload_n 0, [1], .null, []) := rfl
theorem cd144_1 : code9 144 1 = some (0, .getfield 19, [3, 11, 1, 2], .null, []) := rfl
theorem cd144_4 : code9 144 4 = some (0, .iload_n 1, [1], .null, []) := rfl
theorem cd144_5 : code9 144 5 = some (0, .iload_n 2, [1], .null, []) := rfl
theorem cd144_6 : code9 144 6 = some (0, .invokevirtual 183, [3, 53, 3, 1, 3, 3, 6, 0], .null, []) := rfl
theorem cd144_9 : code9 144 9 = some (0, .ifCond .eq 14, [3, 23], .null, []) := rfl
theorem cd144_12 : code9 144 12 = some (0, .iload_n 3, [1], .null, []) := rfl
theorem cd144_13 : code9 144 13 = some (0, .iconst 1, [1], .int 1, []) := rfl
theorem cd144_14 : code9 144 14 = some (0, .if_icmp .lt 9, [3, 23], .null, []) := rfl
theorem cd144_17 : code9 144 17 = some (0, .iload_n 3, [1], .null, []) := rfl
theorem cd144_18 : code9 144 18 = some (0, .bipush 30, [2], .int 30, []) := rfl
theorem cd144_20 : code9 144 20 = some (0, .if_icmp .le 5, [3, 25], .null, []) := rfl
theorem cd144_23 : code9 144 23 = some (6, .iconst (-1), [1], .int (-1), []) := rfl
theorem cd144_24 : code9 144 24 = some (0, .ireturn, [1, 1], .null, []) := rfl
theorem cd144_25 : code9 144 25 = some (0, .aload_n 0, [1], .null, []) := rfl
theorem cd144_26 : code9 144 26 = some (0, .getfield 29, [3, 11, 3, 2], .null, []) := rfl
theorem cd144_29 : code9 144 29 = some (0, .aload_n 0, [1], .null, []) := rfl
theorem cd144_30 : code9 144 30 = some (0, .getfield 19, [3, 11, 1, 2], .null, []) := rfl
theorem cd144_33 : code9 144 33 = some (0, .iconst 2, [1], .int 2, []) := rfl
theorem cd144_34 : code9 144 34 = some (0, .invokevirtual 307, [3, 99, 3, 1, 1, 6, 9, 0], .null, []) := rfl
theorem cd144_37 : code9 144 37 = some (0, .istore 5, [2], .null, []) := rfl
theorem cd144_39 : code9 144 39 = some (0, .iconst 0, [1], .int 0, []) := rfl
theorem cd144_40 : code9 144 40 = some (0, .istore 6, [2], .null, []) := rfl
theorem cd144_42 : code9 144 42 = some (0, .iconst 0, [1], .int 0, []) := rfl
theorem cd144_43 : code9 144 43 = some (0, .istore 7, [2], .null, []) := rfl
theorem cd144_45 : code9 144 45 = some (9, .iload 7, [2], .null, []) := rfl
theorem cd144_47 : code9 144 47 = some (0, .iload_n 3, [1], .null, []) := rfl
theorem cd144_48 : code9 144 48 = some (0, .if_icmp .ge 28, [3, 76], .null, []) := rfl
theorem cd144_51 : code9 144 51 = some (0, .aload_n 0, [1], .null, []) := rfl
theorem cd144_52 : code9 144 52 = some (0, .iload_n 1, [1], .null, []) := rfl
theorem cd144_53 : code9 144 53 = some (0, .iload_n 2, [1], .null, []) := rfl
theorem cd144_54 : code9 144 54 = some (0, .iload 4, [2], .null, []) := rfl
theorem cd144_56 : code9 144 56 = some (0, .iload 7, [2], .null, []) := rfl
theorem cd144_58 : code9 144 58 = some (0, .iadd, [1], .null, []) := rfl
theorem cd144_59 : code9 144 59 = some (0, .invokevirtual 310, [3, 145, 4, 1, 1, 5, 11, 0], .null, []) := rfl
theorem cd144_62 : code9 144 62 = some (0, .iload 5, [2], .null, []) := rfl
theorem cd144_64 : code9 144 64 = some (0, .if_icmp .lt 6, [3, 70], .null, []) := rfl
theorem cd144_67 : code9 144 67 = some (0, .iinc 6 1, [3], .int 1, []) := rfl
theorem cd144_70 : code9 144 70 = some (9, .iinc 7 1, [3], .int 1, []) := rfl
theorem cd144_73 : code9 144 73 = some (0, .goto (-28), [3, 45, 8], .null, []) := rfl
theorem cd144_76 : code9 144 76 = some (0, .iload 6, [2], .null, []) := rfl
theorem cd144_78 : code9 144 78 = some (0, .ireturn, [1, 1], .null, []) := rfl
def Hol_doubt_45 (N : Nat) (ln sp sn ss : Nat) : Nat → Int32 → Int32 → Int32 → Int32 → Int32 → Int32 → Int32 → FI → Option (Int32 × FI)
  | 0 => fun _ _ _ _ _ _ _ _ => none
  | n + 1 => fun l1 l2 l3 l4 l5 l6 l7 I => if l3 ≤ l7 then (some (l6, I)) else (Option.bind (Hol_spreadByPlough N ln sp sn ss l1 l2 (l4 + l7) I) fun x2 => (if x2.1 < l5 then (Hol_doubt_45 N ln sp sn ss n l1 l2 l3 l4 l5 l6 (l7 + 1) x2.2) else (Hol_doubt_45 N ln sp sn ss n l1 l2 l3 l4 l5 (l6 + 1) (l7 + 1) x2.2)))
def Hol_doubt (N : Nat) (ln sp sn ss : Nat) (l1 : Int32) (l2 : Int32) (l3 : Int32) (l4 : Int32) (I : FI) : Option (Int32 × FI) := if (Land_hasCell ln l1 l2 I) then (if l3 < 1 then (some ((-1), I)) else (if l3 ≤ 30 then (Option.bind (State_stepsBetween N 25 ln 2 I) fun x1 => (Hol_doubt_45 N ln sp sn ss N l1 l2 l3 l4 x1 0 0 I)) else (some ((-1), I)))) else (some ((-1), I))
set_option maxRecDepth 8000 in
theorem t_Hol_doubt_45 {d : Nat} {N : Nat} {ln sp sn ss : Nat} {c : Nat × Nat} {S : Nat → Nat × Nat} {P : Nat → Nat → Option Nat} {r : Int32 × FI} (hd : 4 ≤ (d + 1)) (hw : OH S P ln sp sn ss) : ∀ (n : Nat) (l1 : Int32) (l2 : Int32) (l3 : Int32) (l4 : Int32) (l5 : Int32) (l6 : Int32) (l7 : Int32) (I : FI) (J : FJ), Hol_doubt_45 N ln sp sn ss n l1 l2 l3 l4 l5 l6 l7 I = some r → Go (d + 1) M_Hol_doubt 45 [some (.ref 0), some (.int l1), some (.int l2), some (.int l3), some (.int l4), some (.int l5), some (.int l6), some (.int l7)] [] (c, S, I, J, P) (some (.int r.1), false, (c, S, r.2, J, P)) := by
  intro n
  induction n with
  | zero =>
    intro l1 l2 l3 l4 l5 l6 l7 I J h
    cases h
  | succ n ih =>
    intro l1 l2 l3 l4 l5 l6 l7 I J h
    unfold Hol_doubt_45 at h
    refine g_iload cd144_45 rfl rfl ?_
    refine g_iload_n cd144_47 rfl rfl ?_
    refine g_icmp_ge cd144_48 rfl (fun hb => ?_) (fun hb => ?_)
    · have h := ifpE hb h
      refine g_iload cd144_76 rfl rfl ?_
      exact g_iret cd144_78 (Or.inl rfl) (by obtain rfl := Option.some.inj h; rfl)
    · have h := ifnE hb h
      refine g_aload_n cd144_51 rfl rfl ?_
      refine g_iload_n cd144_52 rfl rfl ?_
      refine g_iload_n cd144_53 rfl rfl ?_
      refine g_iload cd144_54 rfl rfl ?_
      refine g_iload cd144_56 rfl rfl ?_
      refine g_iadd cd144_58 rfl ?_
      obtain ⟨x2, hx, h⟩ := bnd h
      refine g_callVI (L := [some (.ref 0), some (.int l1), some (.int l2), some (.int (l4 + l7)), none]) cd144_59 rfl rfl rfl rfl rfl (OH.o hw) (t_Hol_spreadByPlough (by omega) hw hx) ?_
      refine g_iload cd144_62 rfl rfl ?_
      refine g_icmp_lt cd144_64 rfl (fun hb => ?_) (fun hb => ?_)
      · have h := ifpE hb h
        refine g_iinc (ls2 := [some (.ref 0), some (.int l1), some (.int l2), some (.int l3), some (.int l4), some (.int l5), some (.int l6), some (.int (l7 + 1))]) cd144_70 rfl rfl rfl ?_
        refine g_goto (ls2 := [some (.ref 0), some (.int l1), some (.int l2), some (.int l3), some (.int l4), some (.int l5), some (.int l6), some (.int (l7 + 1))]) cd144_73 rfl rfl ?_
        exact ih l1 l2 l3 l4 l5 l6 (l7 + 1) x2.2 J h
      · have h := ifnE hb h
        refine g_iinc (ls2 := [some (.ref 0), some (.int l1), some (.int l2), some (.int l3), some (.int l4), some (.int l5), some (.int (l6 + 1)), some (.int l7)]) cd144_67 rfl rfl rfl ?_
        refine g_iinc (ls2 := [some (.ref 0), some (.int l1), some (.int l2), some (.int l3), some (.int l4), some (.int l5), some (.int (l6 + 1)), some (.int (l7 + 1))]) cd144_70 rfl rfl rfl ?_
        refine g_goto (ls2 := [some (.ref 0), some (.int l1), some (.int l2), some (.int l3), some (.int l4), some (.int l5), some (.int (l6 + 1)), some (.int (l7 + 1))]) cd144_73 rfl rfl ?_
        exact ih l1 l2 l3 l4 l5 (l6 + 1) (l7 + 1) x2.2 J h
set_option maxRecDepth 8000 in
theorem t_Hol_doubt {d : Nat} {N : Nat} {ln sp sn ss : Nat} {c : Nat × Nat} {S : Nat → Nat × Nat} {P : Nat → Nat → Option Nat} {I : FI} {J : FJ} {l1 : Int32} {l2 : Int32} {l3 : Int32} {l4 : Int32} {r : Int32 × FI} (hd : 4 ≤ d) (hw : OH S P ln sp sn ss) (h : Hol_doubt N ln sp sn ss l1 l2 l3 l4 I = some r) : Go d M_Hol_doubt 0 [some (.ref 0), some (.int l1), some (.int l2), some (.int l3), some (.int l4), none, none, none] [] (c, S, I, J, P) (some (.int r.1), false, (c, S, r.2, J, P)) := by
  obtain ⟨d, rfl⟩ : ∃ e, d = e + 1 := ⟨d - 1, by omega⟩
  unfold Hol_doubt at h
  refine g_aload_n cd144_0 rfl rfl ?_
  refine g_getP cd144_1 rfl (OH.o hw) (OH.p1 hw) ?_
  refine g_iload_n cd144_4 rfl rfl ?_
  refine g_iload_n cd144_5 rfl rfl ?_
  refine g_callVZ (L := [some (.ref ln), some (.int l1), some (.int l2)]) cd144_6 rfl rfl rfl rfl rfl (O6.o (OH.q1 hw)) (t_Land_hasCell (by omega) (OH.q1 hw) rfl) ?_
  refine g_if_eq cd144_9 rfl (fun hb => ?_) (fun hb => ?_)
  · have h := ifnE (b2i_f hb) h
    refine g_iconst cd144_23 rfl ?_
    exact g_iret cd144_24 (Or.inl rfl) (by obtain rfl := Option.some.inj h; rfl)
  · have h := ifpE (b2i_t hb) h
    refine g_iload_n cd144_12 rfl rfl ?_
    refine g_iconst cd144_13 rfl ?_
    refine g_icmp_lt cd144_14 rfl (fun hb => ?_) (fun hb => ?_)
    · have h := ifpE hb h
      refine g_iconst cd144_23 rfl ?_
      exact g_iret cd144_24 (Or.inl rfl) (by obtain rfl := Option.some.inj h; rfl)
    · have h := ifnE hb h
      refine g_iload_n cd144_17 rfl rfl ?_
      refine g_bipush cd144_18 rfl ?_
      refine g_icmp_le cd144_20 rfl (fun hb => ?_) (fun hb => ?_)
      · have h := ifpE hb h
        refine g_aload_n cd144_25 rfl rfl ?_
        refine g_getP cd144_26 rfl (OH.o hw) (OH.p3 hw) ?_
        refine g_aload_n cd144_29 rfl rfl ?_
        refine g_getP cd144_30 rfl (OH.o hw) (OH.p1 hw) ?_
        refine g_iconst cd144_33 rfl ?_
        obtain ⟨x1, hx, h⟩ := bnd h
        refine g_callVI (L := [some (.ref 25), some (.ref ln), some (.int 2), none, none, none]) cd144_34 rfl rfl rfl rfl rfl (O9.o (OH.q3 hw)) (t_State_stepsBetween (by omega) (OH.q3 hw) (OH.q1 hw) hx) ?_
        refine g_istore (ls2 := [some (.ref 0), some (.int l1), some (.int l2), some (.int l3), some (.int l4), some (.int x1), none, none]) cd144_37 rfl rfl ?_
        refine g_iconst cd144_39 rfl ?_
        refine g_istore (ls2 := [some (.ref 0), some (.int l1), some (.int l2), some (.int l3), some (.int l4), some (.int x1), some (.int 0), none]) cd144_40 rfl rfl ?_
        refine g_iconst cd144_42 rfl ?_
        refine g_istore (ls2 := [some (.ref 0), some (.int l1), some (.int l2), some (.int l3), some (.int l4), some (.int x1), some (.int 0), some (.int 0)]) cd144_43 rfl rfl ?_
        exact t_Hol_doubt_45 hd hw _ l1 l2 l3 l4 x1 0 0 I J h
      · have h := ifnE hb h
        refine g_iconst cd144_23 rfl ?_
        exact g_iret cd144_24 (Or.inl rfl) (by obtain rfl := Option.some.inj h; rfl)
/-! HiddenOrLost.fears()I -/
theorem cd146_0 : code9 146 0 = some (0, .aload_n 0, [1], .null, []) := rfl
theorem cd146_1 : code9 146 1 = some (0, .getfield 29, [3, 11, 3, 2], .null, []) := rfl
theorem cd146_4 : code9 146 4 = some (0, .aload_n 0, [1], .null, []) := rfl
theorem cd146_5 : code9 146 5 = some (0, .getfield 19, [3, 11, 1, 2], .null, []) := rfl
theorem cd146_8 : code9 146 8 = some (0, .invokevirtual 314, [3, 101, 2, 1, 1, 4, 9, 0], .null, []) := rfl
theorem cd146_11 : code9 146 11 = some (0, .istore_n 1, [1], .null, []) := rfl
theorem cd146_12 : code9 146 12 = some (0, .iconst 0, [1], .int 0, []) := rfl
theorem cd146_13 : code9 146 13 = some (0, .istore_n 2, [1], .null, []) := rfl
theorem cd146_14 : code9 146 14 = some (0, .iconst 0, [1], .int 0, []) := rfl
theorem cd146_15 : code9 146 15 = some (0, .istore_n 3, [1], .null, []) := rfl
theorem cd146_16 : code9 146 16 = some (5, .iload_n 3, [1], .null, []) := rfl
theorem cd146_17 : code9 146 17 = some (0, .aload_n 0, [1], .null, []) := rfl
theorem cd146_18 : code9 146 18 = some (0, .getfield 19, [3, 11, 1, 2], .null, []) := rfl
theorem cd146_21 : code9 146 21 = some (0, .getfield 317, [3, 6, 13, 0], .null, []) := rfl
theorem cd146_24 : code9 146 24 = some (0, .if_icmp .ge 58, [3, 82], .null, []) := rfl
theorem cd146_27 : code9 146 27 = some (0, .aload_n 0, [1], .null, []) := rfl
theorem cd146_28 : code9 146 28 = some (0, .getfield 19, [3, 11, 1, 2], .null, []) := rfl
theorem cd146_31 : code9 146 31 = some (0, .iload_n 3, [1], .null, []) := rfl
theorem cd146_32 : code9 146 32 = some (0, .invokevirtual 320, [3, 58, 2, 1, 1, 2, 6, 0], .null, []) := rfl
theorem cd146_35 : code9 146 35 = some (0, .iload_n 1, [1], .null, []) := rfl
theorem cd146_36 : code9 146 36 = some (0, .bipush 30, [2], .int 30, []) := rfl
theorem cd146_38 : code9 146 38 = some (0, .iadd, [1], .null, []) := rfl
theorem cd146_39 : code9 146 39 = some (0, .if_icmp .gt 19, [3, 58], .null, []) := rfl
theorem cd146_42 : code9 146 42 = some (0, .aload_n 0, [1], .null, []) := rfl
theorem cd146_43 : code9 146 43 = some (0, .getfield 19, [3, 11, 1, 2], .null, []) := rfl
theorem cd146_46 : code9 146 46 = some (0, .iload_n 3, [1], .null, []) := rfl
theorem cd146_47 : code9 146 47 = some (0, .invokevirtual 323, [3, 59, 2, 1, 1, 2, 6, 0], .null, []) := rfl
theorem cd146_50 : code9 146 50 = some (0, .iload_n 1, [1], .null, []) := rfl
theorem cd146_51 : code9 146 51 = some (0, .if_icmp .lt 7, [3, 58], .null, []) := rfl
theorem cd146_54 : code9 146 54 = some (0, .iconst 1, [1], .int 1, []) := rfl
theorem cd146_55 : code9 146 55 = some (0, .goto 4, [3, 59, 4], .null, []) := rfl
theorem cd146_58 : code9 146 58 = some (5, .iconst 0, [1], .int 0, []) := rfl
theorem cd146_59 : code9 146 59 = some (5, .istore 4, [2], .null, []) := rfl
theorem cd146_61 : code9 146 61 = some (0, .iload_n 1, [1], .null, []) := rfl
theorem cd146_62 : code9 146 62 = some (0, .ifCond .lt 8, [3, 70], .null, []) := rfl
theorem cd146_65 : code9 146 65 = some (0, .iload 4, [2], .null, []) := rfl
theorem cd146_67 : code9 146 67 = some (0, .ifCond .eq 9, [3, 76], .null, []) := rfl
theorem cd146_70 : code9 146 70 = some (6, .iload_n 2, [1], .null, []) := rfl
theorem cd146_71 : code9 146 71 = some (0, .iconst 1, [1], .int 1, []) := rfl
theorem cd146_72 : code9 146 72 = some (0, .iload_n 3, [1], .null, []) := rfl
theorem cd146_73 : code9 146 73 = some (0, .ishl, [1], .null, []) := rfl
theorem cd146_74 : code9 146 74 = some (0, .ior, [1], .null, []) := rfl
theorem cd146_75 : code9 146 75 = some (0, .istore_n 2, [1], .null, []) := rfl
theorem cd146_76 : code9 146 76 = some (6, .iinc 3 1, [3], .int 1, []) := rfl
theorem cd146_79 : code9 146 79 = some (0, .goto (-63), [3, 16, 4], .null, []) := rfl
theorem cd146_82 : code9 146 82 = some (0, .iload_n 2, [1], .null, []) := rfl
theorem cd146_83 : code9 146 83 = some (0, .ireturn, [1, 1], .null, []) := rfl
def Hol_fears_16 (N : Nat) (ln sp sn ss : Nat) : Nat → Int32 → Int32 → Int32 → FI → Option (Int32)
  | 0 => fun _ _ _ _ => none
  | n + 1 => fun l1 l2 l3 I => if (I ln 13) ≤ l3 then (some l2) else (Option.bind (Land_fearFrom ln l3 I) fun x2 => (if (l1 + 30) < x2 then (if l1 < 0 then (Hol_fears_16 N ln sp sn ss n l1 (l2 ||| (1 <<< (l3 &&& 31))) (l3 + 1) I) else (Hol_fears_16 N ln sp sn ss n l1 l2 (l3 + 1) I)) else (Option.bind (Land_fearTo ln l3 I) fun x3 => (if x3 < l1 then (if l1 < 0 then (Hol_fears_16 N ln sp sn ss n l1 (l2 ||| (1 <<< (l3 &&& 31))) (l3 + 1) I) else (Hol_fears_16 N ln sp sn ss n l1 l2 (l3 + 1) I)) else (if l1 < 0 then (Hol_fears_16 N ln sp sn ss n l1 (l2 ||| (1 <<< (l3 &&& 31))) (l3 + 1) I) else (Hol_fears_16 N ln sp sn ss n l1 (l2 ||| (1 <<< (l3 &&& 31))) (l3 + 1) I))))))
def Hol_fears (N : Nat) (ln sp sn ss : Nat) (I : FI) : Option (Int32) := Option.bind (State_latestTold N 25 ln I) fun x1 => (Hol_fears_16 N ln sp sn ss N x1 0 0 I)
set_option maxRecDepth 8000 in
theorem t_Hol_fears_16 {d : Nat} {N : Nat} {ln sp sn ss : Nat} {c : Nat × Nat} {S : Nat → Nat × Nat} {P : Nat → Nat → Option Nat} {r : Int32} (hd : 2 ≤ (d + 1)) (hw : OH S P ln sp sn ss) : ∀ (n : Nat) (l1 : Int32) (l2 : Int32) (l3 : Int32) (I : FI) (J : FJ), Hol_fears_16 N ln sp sn ss n l1 l2 l3 I = some r → Go (d + 1) M_Hol_fears 16 [some (.ref 0), some (.int l1), some (.int l2), some (.int l3), none] [] (c, S, I, J, P) (some (.int r), false, (c, S, I, J, P)) := by
  intro n
  induction n with
  | zero =>
    intro l1 l2 l3 I J h
    cases h
  | succ n ih =>
    intro l1 l2 l3 I J h
    unfold Hol_fears_16 at h
    refine g_iload_n cd146_16 rfl rfl ?_
    refine g_aload_n cd146_17 rfl rfl ?_
    refine g_getP cd146_18 rfl (OH.o hw) (OH.p1 hw) ?_
    refine g_getI cd146_21 rfl (O6.o (OH.q1 hw)) ?_
    refine g_icmp_ge cd146_24 rfl (fun hb => ?_) (fun hb => ?_)
    · have h := ifpE hb h
      refine g_iload_n cd146_82 rfl rfl ?_
      exact g_iret cd146_83 (Or.inl rfl) (by obtain rfl := Option.some.inj h; rfl)
    · have h := ifnE hb h
      refine g_aload_n cd146_27 rfl rfl ?_
      refine g_getP cd146_28 rfl (OH.o hw) (OH.p1 hw) ?_
      refine g_iload_n cd146_31 rfl rfl ?_
      obtain ⟨x2, hx, h⟩ := bnd h
      refine g_callVI (L := [some (.ref ln), some (.int l3)]) cd146_32 rfl rfl rfl rfl rfl (O6.o (OH.q1 hw)) (t_Land_fearFrom (by omega) (OH.q1 hw) hx) ?_
      refine g_iload_n cd146_35 rfl rfl ?_
      refine g_bipush cd146_36 rfl ?_
      refine g_iadd cd146_38 rfl ?_
      refine g_icmp_gt cd146_39 rfl (fun hb => ?_) (fun hb => ?_)
      · have h := ifpE hb h
        refine g_iconst cd146_58 rfl ?_
        refine g_istore (ls2 := [some (.ref 0), some (.int l1), some (.int l2), some (.int l3), some (.int 0)]) cd146_59 rfl rfl ?_
        refine g_iload_n cd146_61 rfl rfl ?_
        refine g_if_lt cd146_62 rfl (fun hb => ?_) (fun hb => ?_)
        · have h := ifpE hb h
          refine g_iload_n cd146_70 rfl rfl ?_
          refine g_iconst cd146_71 rfl ?_
          refine g_iload_n cd146_72 rfl rfl ?_
          refine g_ishl cd146_73 rfl ?_
          refine g_ior cd146_74 rfl ?_
          refine g_istore_n (ls2 := [some (.ref 0), some (.int l1), some (.int (l2 ||| (1 <<< (l3 &&& 31)))), some (.int l3), some (.int 0)]) cd146_75 rfl rfl ?_
          refine g_iinc (ls2 := [some (.ref 0), some (.int l1), some (.int (l2 ||| (1 <<< (l3 &&& 31)))), some (.int (l3 + 1)), some (.int 0)]) cd146_76 rfl rfl rfl ?_
          refine g_goto (ls2 := [some (.ref 0), some (.int l1), some (.int (l2 ||| (1 <<< (l3 &&& 31)))), some (.int (l3 + 1)), none]) cd146_79 rfl rfl ?_
          exact ih l1 (l2 ||| (1 <<< (l3 &&& 31))) (l3 + 1) I J h
        · have h := ifnE hb h
          refine g_iload cd146_65 rfl rfl ?_
          refine g_if_eq cd146_67 rfl (fun hb => ?_) (fun hb => ?_)
          rotate_left
          · exact absurd (by decide) hb
          refine g_iinc (ls2 := [some (.ref 0), some (.int l1), some (.int l2), some (.int (l3 + 1)), some (.int 0)]) cd146_76 rfl rfl rfl ?_
          refine g_goto (ls2 := [some (.ref 0), some (.int l1), some (.int l2), some (.int (l3 + 1)), none]) cd146_79 rfl rfl ?_
          exact ih l1 l2 (l3 + 1) I J h
      · have h := ifnE hb h
        refine g_aload_n cd146_42 rfl rfl ?_
        refine g_getP cd146_43 rfl (OH.o hw) (OH.p1 hw) ?_
        refine g_iload_n cd146_46 rfl rfl ?_
        obtain ⟨x3, hx, h⟩ := bnd h
        refine g_callVI (L := [some (.ref ln), some (.int l3)]) cd146_47 rfl rfl rfl rfl rfl (O6.o (OH.q1 hw)) (t_Land_fearTo (by omega) (OH.q1 hw) hx) ?_
        refine g_iload_n cd146_50 rfl rfl ?_
        refine g_icmp_lt cd146_51 rfl (fun hb => ?_) (fun hb => ?_)
        · have h := ifpE hb h
          refine g_iconst cd146_58 rfl ?_
          refine g_istore (ls2 := [some (.ref 0), some (.int l1), some (.int l2), some (.int l3), some (.int 0)]) cd146_59 rfl rfl ?_
          refine g_iload_n cd146_61 rfl rfl ?_
          refine g_if_lt cd146_62 rfl (fun hb => ?_) (fun hb => ?_)
          · have h := ifpE hb h
            refine g_iload_n cd146_70 rfl rfl ?_
            refine g_iconst cd146_71 rfl ?_
            refine g_iload_n cd146_72 rfl rfl ?_
            refine g_ishl cd146_73 rfl ?_
            refine g_ior cd146_74 rfl ?_
            refine g_istore_n (ls2 := [some (.ref 0), some (.int l1), some (.int (l2 ||| (1 <<< (l3 &&& 31)))), some (.int l3), some (.int 0)]) cd146_75 rfl rfl ?_
            refine g_iinc (ls2 := [some (.ref 0), some (.int l1), some (.int (l2 ||| (1 <<< (l3 &&& 31)))), some (.int (l3 + 1)), some (.int 0)]) cd146_76 rfl rfl rfl ?_
            refine g_goto (ls2 := [some (.ref 0), some (.int l1), some (.int (l2 ||| (1 <<< (l3 &&& 31)))), some (.int (l3 + 1)), none]) cd146_79 rfl rfl ?_
            exact ih l1 (l2 ||| (1 <<< (l3 &&& 31))) (l3 + 1) I J h
          · have h := ifnE hb h
            refine g_iload cd146_65 rfl rfl ?_
            refine g_if_eq cd146_67 rfl (fun hb => ?_) (fun hb => ?_)
            rotate_left
            · exact absurd (by decide) hb
            refine g_iinc (ls2 := [some (.ref 0), some (.int l1), some (.int l2), some (.int (l3 + 1)), some (.int 0)]) cd146_76 rfl rfl rfl ?_
            refine g_goto (ls2 := [some (.ref 0), some (.int l1), some (.int l2), some (.int (l3 + 1)), none]) cd146_79 rfl rfl ?_
            exact ih l1 l2 (l3 + 1) I J h
        · have h := ifnE hb h
          refine g_iconst cd146_54 rfl ?_
          refine g_goto (ls2 := [some (.ref 0), some (.int l1), some (.int l2), some (.int l3), none]) cd146_55 rfl rfl ?_
          refine g_istore (ls2 := [some (.ref 0), some (.int l1), some (.int l2), some (.int l3), some (.int 1)]) cd146_59 rfl rfl ?_
          refine g_iload_n cd146_61 rfl rfl ?_
          refine g_if_lt cd146_62 rfl (fun hb => ?_) (fun hb => ?_)
          · have h := ifpE hb h
            refine g_iload_n cd146_70 rfl rfl ?_
            refine g_iconst cd146_71 rfl ?_
            refine g_iload_n cd146_72 rfl rfl ?_
            refine g_ishl cd146_73 rfl ?_
            refine g_ior cd146_74 rfl ?_
            refine g_istore_n (ls2 := [some (.ref 0), some (.int l1), some (.int (l2 ||| (1 <<< (l3 &&& 31)))), some (.int l3), some (.int 1)]) cd146_75 rfl rfl ?_
            refine g_iinc (ls2 := [some (.ref 0), some (.int l1), some (.int (l2 ||| (1 <<< (l3 &&& 31)))), some (.int (l3 + 1)), some (.int 1)]) cd146_76 rfl rfl rfl ?_
            refine g_goto (ls2 := [some (.ref 0), some (.int l1), some (.int (l2 ||| (1 <<< (l3 &&& 31)))), some (.int (l3 + 1)), none]) cd146_79 rfl rfl ?_
            exact ih l1 (l2 ||| (1 <<< (l3 &&& 31))) (l3 + 1) I J h
          · have h := ifnE hb h
            refine g_iload cd146_65 rfl rfl ?_
            refine g_if_eq cd146_67 rfl (fun hb => ?_) (fun hb => ?_)
            · exact absurd hb (by decide)
            refine g_iload_n cd146_70 rfl rfl ?_
            refine g_iconst cd146_71 rfl ?_
            refine g_iload_n cd146_72 rfl rfl ?_
            refine g_ishl cd146_73 rfl ?_
            refine g_ior cd146_74 rfl ?_
            refine g_istore_n (ls2 := [some (.ref 0), some (.int l1), some (.int (l2 ||| (1 <<< (l3 &&& 31)))), some (.int l3), some (.int 1)]) cd146_75 rfl rfl ?_
            refine g_iinc (ls2 := [some (.ref 0), some (.int l1), some (.int (l2 ||| (1 <<< (l3 &&& 31)))), some (.int (l3 + 1)), some (.int 1)]) cd146_76 rfl rfl rfl ?_
            refine g_goto (ls2 := [some (.ref 0), some (.int l1), some (.int (l2 ||| (1 <<< (l3 &&& 31)))), some (.int (l3 + 1)), none]) cd146_79 rfl rfl ?_
            exact ih l1 (l2 ||| (1 <<< (l3 &&& 31))) (l3 + 1) I J h
set_option maxRecDepth 8000 in
theorem t_Hol_fears {d : Nat} {N : Nat} {ln sp sn ss : Nat} {c : Nat × Nat} {S : Nat → Nat × Nat} {P : Nat → Nat → Option Nat} {I : FI} {J : FJ} {r : Int32} (hd : 2 ≤ d) (hw : OH S P ln sp sn ss) (h : Hol_fears N ln sp sn ss I = some r) : Go d M_Hol_fears 0 [some (.ref 0), none, none, none, none] [] (c, S, I, J, P) (some (.int r), false, (c, S, I, J, P)) := by
  obtain ⟨d, rfl⟩ : ∃ e, d = e + 1 := ⟨d - 1, by omega⟩
  unfold Hol_fears at h
  refine g_aload_n cd146_0 rfl rfl ?_
  refine g_getP cd146_1 rfl (OH.o hw) (OH.p3 hw) ?_
  refine g_aload_n cd146_4 rfl rfl ?_
  refine g_getP cd146_5 rfl (OH.o hw) (OH.p1 hw) ?_
  obtain ⟨x1, hx, h⟩ := bnd h
  refine g_callVI (L := [some (.ref 25), some (.ref ln), none, none]) cd146_8 rfl rfl rfl rfl rfl (O9.o (OH.q3 hw)) (t_State_latestTold (by omega) (OH.q3 hw) (OH.q1 hw) hx) ?_
  refine g_istore_n (ls2 := [some (.ref 0), some (.int x1), none, none, none]) cd146_11 rfl rfl ?_
  refine g_iconst cd146_12 rfl ?_
  refine g_istore_n (ls2 := [some (.ref 0), some (.int x1), some (.int 0), none, none]) cd146_13 rfl rfl ?_
  refine g_iconst cd146_14 rfl ?_
  refine g_istore_n (ls2 := [some (.ref 0), some (.int x1), some (.int 0), some (.int 0), none]) cd146_15 rfl rfl ?_
  exact t_Hol_fears_16 hd hw _ x1 0 0 I J h
/-! HiddenOrLost.fear(II)I -/
theorem cd147_0 : code9 147 0 = some (0, .iload_n 1, [1], .null, []) := rfl
theorem cd147_1 : code9 147 1 = some (0, .ifCond .lt 23, [3, 24], .null, []) := rfl
theorem cd147_4 : code9 147 4 = some (0, .iload_n 1, [1], .null, []) := rfl
theorem cd147_5 : code9 147 5 = some (0, .aload_n 0, [1], .null, []) := rfl
theorem cd147_6 : code9 147 6 = some (0, .getfield 19, [3, 11, 1, 2], .null, []) := rfl
theorem cd147_9 : code9 147 9 = some (0, .getfield 317, [3, 6, 13, 0], .null, []) := rfl
theorem cd147_12 : code9 147 12 = some (0, .if_icmp .ge 12, [3, 24], .null, []) := rfl
theorem cd147_15 : code9 147 15 = some (0, .iload_n 2, [1], .null, []) := rfl
theorem cd147_16 : code9 147 16 = some (0, .ifCond .lt 8, [3, 24], .null, []) := rfl
theorem cd147_19 : code9 147 19 = some (0, .iload_n 2, [1], .null, []) := rfl
theorem cd147_20 : code9 147 20 = some (0, .iconst 1, [1], .int 1, []) := rfl
theorem cd147_21 : code9 147 21 = some (0, .if_icmp .le 5, [3, 26], .null, []) := rfl
theorem cd147_24 : code9 147 24 = some (4, .iconst (-1), [1], .int (-1), []) := rfl
theorem cd147_25 : code9 147 25 = some (0, .ireturn, [1, 1], .null, []) := rfl
theorem cd147_26 : code9 147 26 = some (0, .iload_n 2, [1], .null, []) := rfl
theorem cd147_27 : code9 147 27 = some (0, .ifCond .ne 14, [3, 41], .null, []) := rfl
theorem cd147_30 : code9 147 30 = some (0, .aload_n 0, [1], .null, []) := rfl
theorem cd147_31 : code9 147 31 = some (0, .getfield 19, [3, 11, 1, 2], .null, []) := rfl
theorem cd147_34 : code9 147 34 = some (0, .iload_n 1, [1], .null, []) := rfl
theorem cd147_35 : code9 147 35 = some (0, .invokevirtual 320, [3, 58, 2, 1, 1, 2, 6, 0], .null, []) := rfl
theorem cd147_38 : code9 147 38 = some (0, .goto 11, [3, 49, 3], .null, []) := rfl
theorem cd147_41 : code9 147 41 = some (0, .aload_n 0, [1], .null, []) := rfl
theorem cd147_42 : code9 147 42 = some (0, .getfield 19, [3, 11, 1, 2], .null, []) := rfl
theorem cd147_45 : code9 147 45 = some (0, .iload_n 1, [1], .null, []) := rfl
theorem cd147_46 : code9 147 46 = some (0, .invokevirtual 323, [3, 59, 2, 1, 1, 2, 6, 0], .null, []) := rfl
theorem cd147_49 : code9 147 49 = some (4, .ireturn, [1, 1], .null, []) := rfl
def Hol_fear (ln sp sn ss : Nat) (l1 : Int32) (l2 : Int32) (I : FI) : Option (Int32) := if l1 < 0 then (some (-1)) else (if (I ln 13) ≤ l1 then (some (-1)) else (if l2 < 0 then (some (-1)) else (if l2 ≤ 1 then (if l2 = 0 then (Option.bind (Land_fearFrom ln l1 I) fun x1 => (some x1)) else (Option.bind (Land_fearTo ln l1 I) fun x2 => (some x2))) else (some (-1)))))
set_option maxRecDepth 8000 in
theorem t_Hol_fear {d : Nat} {ln sp sn ss : Nat} {c : Nat × Nat} {S : Nat → Nat × Nat} {P : Nat → Nat → Option Nat} {I : FI} {J : FJ} {l1 : Int32} {l2 : Int32} {r : Int32} (hd : 1 ≤ d) (hw : OH S P ln sp sn ss) (h : Hol_fear ln sp sn ss l1 l2 I = some r) : Go d M_Hol_fear 0 [some (.ref 0), some (.int l1), some (.int l2)] [] (c, S, I, J, P) (some (.int r), false, (c, S, I, J, P)) := by
  obtain ⟨d, rfl⟩ : ∃ e, d = e + 1 := ⟨d - 1, by omega⟩
  unfold Hol_fear at h
  refine g_iload_n cd147_0 rfl rfl ?_
  refine g_if_lt cd147_1 rfl (fun hb => ?_) (fun hb => ?_)
  · have h := ifpE hb h
    refine g_iconst cd147_24 rfl ?_
    exact g_iret cd147_25 (Or.inl rfl) (by obtain rfl := Option.some.inj h; rfl)
  · have h := ifnE hb h
    refine g_iload_n cd147_4 rfl rfl ?_
    refine g_aload_n cd147_5 rfl rfl ?_
    refine g_getP cd147_6 rfl (OH.o hw) (OH.p1 hw) ?_
    refine g_getI cd147_9 rfl (O6.o (OH.q1 hw)) ?_
    refine g_icmp_ge cd147_12 rfl (fun hb => ?_) (fun hb => ?_)
    · have h := ifpE hb h
      refine g_iconst cd147_24 rfl ?_
      exact g_iret cd147_25 (Or.inl rfl) (by obtain rfl := Option.some.inj h; rfl)
    · have h := ifnE hb h
      refine g_iload_n cd147_15 rfl rfl ?_
      refine g_if_lt cd147_16 rfl (fun hb => ?_) (fun hb => ?_)
      · have h := ifpE hb h
        refine g_iconst cd147_24 rfl ?_
        exact g_iret cd147_25 (Or.inl rfl) (by obtain rfl := Option.some.inj h; rfl)
      · have h := ifnE hb h
        refine g_iload_n cd147_19 rfl rfl ?_
        refine g_iconst cd147_20 rfl ?_
        refine g_icmp_le cd147_21 rfl (fun hb => ?_) (fun hb => ?_)
        · have h := ifpE hb h
          refine g_iload_n cd147_26 rfl rfl ?_
          refine g_if_ne cd147_27 rfl (fun hb => ?_) (fun hb => ?_)
          · have h := ifpE hb h
            refine g_aload_n cd147_30 rfl rfl ?_
            refine g_getP cd147_31 rfl (OH.o hw) (OH.p1 hw) ?_
            refine g_iload_n cd147_34 rfl rfl ?_
            obtain ⟨x1, hx, h⟩ := bnd h
            refine g_callVI (L := [some (.ref ln), some (.int l1)]) cd147_35 rfl rfl rfl rfl rfl (O6.o (OH.q1 hw)) (t_Land_fearFrom (by omega) (OH.q1 hw) hx) ?_
            refine g_goto (ls2 := [some (.ref 0), some (.int l1), some (.int l2)]) cd147_38 rfl rfl ?_
            exact g_iret cd147_49 (Or.inl rfl) (by obtain rfl := Option.some.inj h; rfl)
          · have h := ifnE hb h
            refine g_aload_n cd147_41 rfl rfl ?_
            refine g_getP cd147_42 rfl (OH.o hw) (OH.p1 hw) ?_
            refine g_iload_n cd147_45 rfl rfl ?_
            obtain ⟨x2, hx, h⟩ := bnd h
            refine g_callVI (L := [some (.ref ln), some (.int l1)]) cd147_46 rfl rfl rfl rfl rfl (O6.o (OH.q1 hw)) (t_Land_fearTo (by omega) (OH.q1 hw) hx) ?_
            exact g_iret cd147_49 (Or.inl rfl) (by obtain rfl := Option.some.inj h; rfl)
        · have h := ifnE hb h
          refine g_iconst cd147_24 rfl ?_
          exact g_iret cd147_25 (Or.inl rfl) (by obtain rfl := Option.some.inj h; rfl)
/-! HiddenOrLost.yearOfCoin(I)I -/
theorem cd150_0 : code9 150 0 = some (0, .aload_n 0, [1], .null, []) := rfl
theorem cd150_1 : code9 150 1 = some (0, .getfield 19, [3, 11, 1, 2], .null, []) := rfl
theorem cd150_4 : code9 150 4 = some (0, .aload_n 0, [1], .null, []) := rfl
theorem cd150_5 : code9 150 5 = some (0, .getfield 102, [3, 11, 16, 2], .null, []) := rfl
theorem cd150_8 : code9 150 8 = some (0, .iload_n 1, [1], .null, []) := rfl
theorem cd150_9 : code9 150 9 = some (0, .iaload, [1], .null, []) := rfl
theorem cd150_10 : code9 150 10 = some (0, .iconst 4, [1], .int 4, []) := rfl
theorem cd150_11 : code9 150 11 = some (0, .invokevirtual 163, [3, 51, 3, 1, 1, 3, 6, 0], .null, []) := rfl
theorem cd150_14 : code9 150 14 = some (0, .ireturn, [1, 1], .null, []) := rfl
def Hol_yearOfCoin (ln sp sn ss : Nat) (l1 : Int32) (I : FI) : Option (Int32) := if in9 l1 10 then (Option.bind (Land_factOf ln (I 203 l1.toNatClampNeg) 4 I) fun x2 => (some x2)) else none
set_option maxRecDepth 8000 in
theorem t_Hol_yearOfCoin {d : Nat} {ln sp sn ss : Nat} {c : Nat × Nat} {S : Nat → Nat × Nat} {P : Nat → Nat → Option Nat} {I : FI} {J : FJ} {l1 : Int32} {r : Int32} (hd : 1 ≤ d) (hw : OH S P ln sp sn ss) (h : Hol_yearOfCoin ln sp sn ss l1 I = some r) : Go d M_Hol_yearOfCoin 0 [some (.ref 0), some (.int l1)] [] (c, S, I, J, P) (some (.int r), false, (c, S, I, J, P)) := by
  obtain ⟨d, rfl⟩ : ∃ e, d = e + 1 := ⟨d - 1, by omega⟩
  unfold Hol_yearOfCoin at h
  refine g_aload_n cd150_0 rfl rfl ?_
  refine g_getP cd150_1 rfl (OH.o hw) (OH.p1 hw) ?_
  refine g_aload_n cd150_4 rfl rfl ?_
  refine g_getP cd150_5 rfl (OH.o hw) (OH.p16 hw) ?_
  refine g_iload_n cd150_8 rfl rfl ?_
  obtain ⟨hg1, h⟩ := grd h
  refine G_iald cd150_9 rfl (OH.s16 hw) hg1 ?_
  refine g_iconst cd150_10 rfl ?_
  obtain ⟨x2, hx, h⟩ := bnd h
  refine g_callVI (L := [some (.ref ln), some (.int (I 203 l1.toNatClampNeg)), some (.int 4)]) cd150_11 rfl rfl rfl rfl rfl (O6.o (OH.q1 hw)) (t_Land_factOf (by omega) (OH.q1 hw) hx) ?_
  exact g_iret cd150_14 (Or.inl rfl) (by obtain rfl := Option.some.inj h; rfl)
/-! HiddenOrLost.sortToldCoins()I -/
theorem cd149_0 : code9 149 0 = some (0, .iconst 0, [1], .int 0, []) := rfl
theorem cd149_1 : code9 149 1 = some (0, .istore_n 1, [1], .null, []) := rfl
theorem cd149_2 : code9 149 2 = some (0, .iconst 0, [1], .int 0, []) := rfl
theorem cd149_3 : code9 149 3 = some (0, .istore_n 2, [1], .null, []) := rfl
theorem cd149_4 : code9 149 4 = some (4, .iload_n 2, [1], .null, []) := rfl
theorem cd149_5 : code9 149 5 = some (0, .aload_n 0, [1], .null, []) := rfl
theorem cd149_6 : code9 149 6 = some (0, .getfield 19, [3, 11, 1, 2], .null, []) := rfl
theorem cd149_9 : code9 149 9 = some (0, .getfield 373, [3, 6, 12, 0], .null, []) := rfl
theorem cd149_12 : code9 149 12 = some (0, .if_icmp .ge 89, [3, 101], .null, []) := rfl
theorem cd149_15 : code9 149 15 = some (0, .aload_n 0, [1], .null, []) := rfl
theorem cd149_16 : code9 149 16 = some (0, .getfield 29, [3, 11, 3, 2], .null, []) := rfl
theorem cd149_19 : code9 149 19 = some (0, .getfield 157, [3, 9, 3, 2], .null, []) := rfl
theorem cd149_22 : code9 149 22 = some (0, .iload_n 2, [1], .null, []) := rfl
theorem cd149_23 : code9 149 23 = some (0, .iaload, [1], .null, []) := rfl
theorem cd149_24 : code9 149 24 = some (0, .iconst 2, [1], .int 2, []) := rfl
theorem cd149_25 : code9 149 25 = some (0, .if_icmp .ne 70, [3, 95], .null, []) := rfl
theorem cd149_28 : code9 149 28 = some (0, .aload_n 0, [1], .null, []) := rfl
theorem cd149_29 : code9 149 29 = some (0, .getfield 19, [3, 11, 1, 2], .null, []) := rfl
theorem cd149_32 : code9 149 32 = some (0, .iload_n 2, [1], .null, []) := rfl
theorem cd149_33 : code9 149 33 = some (0, .iconst 0, [1], .int 0, []) := rfl
theorem cd149_34 : code9 149 34 = some (0, .invokevirtual 163, [3, 51, 3, 1, 1, 3, 6, 0], .null, []) := rfl
theorem cd149_37 : code9 149 37 = some (0, .ifCond .ne 58, [3, 95], .null, []) := rfl
theorem cd149_40 : code9 149 40 = some (0, .iload_n 1, [1], .null, []) := rfl
theorem cd149_41 : code9 149 41 = some (0, .istore_n 3, [1], .null, []) := rfl
theorem cd149_42 : code9 149 42 = some (5, .iload_n 3, [1], .null, []) := rfl
theorem cd149_43 : code9 149 43 = some (0, .ifCond .le 42, [3, 85], .null, []) := rfl
theorem cd149_46 : code9 149 46 = some (0, .aload_n 0, [1], .null, []) := rfl
theorem cd149_47 : code9 149 47 = some (0, .iload_n 3, [1], .null, []) := rfl
theorem cd149_48 : code9 149 48 = some (0, .iconst 1, [1], .int 1, []) := rfl
theorem cd149_49 : code9 149 49 = some (0, .isub, [1], .null, []) := rfl
theorem cd149_50 : code9 149 50 = some (0, .invokevirtual 403, [3, 150, 2, 1, 1, 2, 11, 0], .null, []) := rfl
theorem cd149_53 : code9 149 53 = some (0, .aload_n 0, [1], .null, []) := rfl
theorem cd149_54 : code9 149 54 = some (0, .getfield 19, [3, 11, 1, 2], .null, []) := rfl
theorem cd149_57 : code9 149 57 = some (0, .iload_n 2, [1], .null, []) := rfl
theorem cd149_58 : code9 149 58 = some (0, .iconst 4, [1], .int 4, []) := rfl
theorem cd149_59 : code9 149 59 = some (0, .invokevirtual 163, [3, 51, 3, 1, 1, 3, 6, 0], .null, []) := rfl
theorem cd149_62 : code9 149 62 = some (0, .if_icmp .le 23, [3, 85], .null, []) := rfl
theorem cd149_65 : code9 149 65 = some (0, .aload_n 0, [1], .null, []) := rfl
theorem cd149_66 : code9 149 66 = some (0, .getfield 102, [3, 11, 16, 2], .null, []) := rfl
theorem cd149_69 : code9 149 69 = some (0, .iload_n 3, [1], .null, []) := rfl
theorem cd149_70 : code9 149 70 = some (0, .aload_n 0, [1], .null, []) := rfl
theorem cd149_71 : code9 149 71 = some (0, .getfield 102, [3, 11, 16, 2], .null, []) := rfl
theorem cd149_74 : code9 149 74 = some (0, .iload_n 3, [1], .null, []) := rfl
theorem cd149_75 : code9 149 75 = some (0, .iconst 1, [1], .int 1, []) := rfl
theorem cd149_76 : code9 149 76 = some (0, .isub, [1], .null, []) := rfl
theorem cd149_77 : code9 149 77 = some (0, .iaload, [1], .null, []) := rfl
theorem cd149_78 : code9 149 78 = some (0, .iastore, [1], .null, []) := rfl
theorem cd149_79 : code9 149 79 = some (0, .iinc 3 (-1), [3], .int (-1), []) := rfl
theorem cd149_82 : code9 149 82 = some (0, .goto (-40), [3, 42, 4], .null, []) := rfl
theorem cd149_85 : code9 149 85 = some (5, .aload_n 0, [1], .null, []) := rfl
theorem cd149_86 : code9 149 86 = some (0, .getfield 102, [3, 11, 16, 2], .null, []) := rfl
theorem cd149_89 : code9 149 89 = some (0, .iload_n 3, [1], .null, []) := rfl
theorem cd149_90 : code9 149 90 = some (0, .iload_n 2, [1], .null, []) := rfl
theorem cd149_91 : code9 149 91 = some (0, .iastore, [1], .null, []) := rfl
theorem cd149_92 : code9 149 92 = some (0, .iinc 1 1, [3], .int 1, []) := rfl
theorem cd149_95 : code9 149 95 = some (4, .iinc 2 1, [3], .int 1, []) := rfl
theorem cd149_98 : code9 149 98 = some (0, .goto (-94), [3, 4, 3], .null, []) := rfl
theorem cd149_101 : code9 149 101 = some (0, .iload_n 1, [1], .null, []) := rfl
theorem cd149_102 : code9 149 102 = some (0, .ireturn, [1, 1], .null, []) := rfl
def Hol_sortToldCoins_42 (N : Nat) (ln sp sn ss : Nat) (K : Int32 → Int32 → FI → Option (Int32 × FI)) : Nat → Int32 → Int32 → Int32 → FI → Option (Int32 × FI)
  | 0 => fun _ _ _ _ => none
  | n + 1 => fun l1 l2 l3 I => if l3 ≤ 0 then (if in9 l3 10 then (Option.bind (some (up2 I 203 l3.toNatClampNeg l2)) fun I4 => (K (l1 + 1) (l2 + 1) I4)) else none) else (Option.bind (Hol_yearOfCoin ln sp sn ss (l3 - 1) I) fun x5 => (Option.bind (Land_factOf ln l2 4 I) fun x6 => (if x5 ≤ x6 then (if in9 l3 10 then (Option.bind (some (up2 I 203 l3.toNatClampNeg l2)) fun I8 => (K (l1 + 1) (l2 + 1) I8)) else none) else (if in9 (l3 - 1) 10 then (if in9 l3 10 then (Option.bind (some (up2 I 203 l3.toNatClampNeg (I 203 ((l3 - 1).toNatClampNeg)))) fun I11 => (Hol_sortToldCoins_42 N ln sp sn ss K n l1 l2 (l3 + (-1)) I11)) else none) else none))))
def Hol_sortToldCoins_4 (N : Nat) (ln sp sn ss : Nat) : Nat → Int32 → Int32 → FI → Option (Int32 × FI)
  | 0 => fun _ _ _ => none
  | n + 1 => fun l1 l2 I => if (I ln 12) ≤ l2 then (some (l1, I)) else (if in9 l2 10 then (if (I 29 l2.toNatClampNeg) = 2 then (Option.bind (Land_factOf ln l2 0 I) fun x2 => (if x2 = 0 then (Hol_sortToldCoins_42 N ln sp sn ss (fun x1 x2 I => Hol_sortToldCoins_4 N ln sp sn ss n x1 x2 I) N l1 l2 l1 I) else (Hol_sortToldCoins_4 N ln sp sn ss n l1 (l2 + 1) I))) else (Hol_sortToldCoins_4 N ln sp sn ss n l1 (l2 + 1) I)) else none)
def Hol_sortToldCoins (N : Nat) (ln sp sn ss : Nat) (I : FI) : Option (Int32 × FI) := Hol_sortToldCoins_4 N ln sp sn ss N 0 0 I
set_option maxRecDepth 8000 in
theorem t_Hol_sortToldCoins_42 {d : Nat} {N : Nat} {ln sp sn ss : Nat} {c : Nat × Nat} {S : Nat → Nat × Nat} {P : Nat → Nat → Option Nat} {K : Int32 → Int32 → FI → Option (Int32 × FI)} {r : Int32 × FI} (hd : 2 ≤ (d + 1)) (hw : OH S P ln sp sn ss) (hK : ∀ (x1 : Int32) (x2 : Int32) (I : FI) (J : FJ), K x1 x2 I = some r → Go (d + 1) M_Hol_sortToldCoins 4 [some (.ref 0), some (.int x1), some (.int x2), none] [] (c, S, I, J, P) (some (.int r.1), false, (c, S, r.2, J, P))) : ∀ (n : Nat) (l1 : Int32) (l2 : Int32) (l3 : Int32) (I : FI) (J : FJ), Hol_sortToldCoins_42 N ln sp sn ss K n l1 l2 l3 I = some r → Go (d + 1) M_Hol_sortToldCoins 42 [some (.ref 0), some (.int l1), some (.int l2), some (.int l3)] [] (c, S, I, J, P) (some (.int r.1), false, (c, S, r.2, J, P)) := by
  intro n
  induction n with
  | zero =>
    intro l1 l2 l3 I J h
    cases h
  | succ n ih =>
    intro l1 l2 l3 I J h
    unfold Hol_sortToldCoins_42 at h
    refine g_iload_n cd149_42 rfl rfl ?_
    refine g_if_le cd149_43 rfl (fun hb => ?_) (fun hb => ?_)
    · have h := ifpE hb h
      refine g_aload_n cd149_85 rfl rfl ?_
      refine g_getP cd149_86 rfl (OH.o hw) (OH.p16 hw) ?_
      refine g_iload_n cd149_89 rfl rfl ?_
      refine g_iload_n cd149_90 rfl rfl ?_
      obtain ⟨hg3, h⟩ := grd h
      obtain ⟨I4, e1, h⟩ := bnd h
      refine G_iast cd149_91 rfl (OH.s16 hw) hg3 (Option.some.inj e1) ?_
      refine g_iinc (ls2 := [some (.ref 0), some (.int (l1 + 1)), some (.int l2), some (.int l3)]) cd149_92 rfl rfl rfl ?_
      refine go_cut (k := 0) (ls' := [some (.ref 0), some (.int (l1 + 1)), some (.int l2), none]) cd149_95 rfl ?_
      refine g_iinc (ls2 := [some (.ref 0), some (.int (l1 + 1)), some (.int (l2 + 1)), none]) cd149_95 rfl rfl rfl ?_
      refine g_goto (ls2 := [some (.ref 0), some (.int (l1 + 1)), some (.int (l2 + 1)), none]) cd149_98 rfl rfl ?_
      exact hK (l1 + 1) (l2 + 1) I4 J h
    · have h := ifnE hb h
      refine g_aload_n cd149_46 rfl rfl ?_
      refine g_iload_n cd149_47 rfl rfl ?_
      refine g_iconst cd149_48 rfl ?_
      refine g_isub cd149_49 rfl ?_
      obtain ⟨x5, hx, h⟩ := bnd h
      refine g_callVI (L := [some (.ref 0), some (.int (l3 - 1))]) cd149_50 rfl rfl rfl rfl rfl (OH.o hw) (t_Hol_yearOfCoin (by omega) hw hx) ?_
      refine g_aload_n cd149_53 rfl rfl ?_
      refine g_getP cd149_54 rfl (OH.o hw) (OH.p1 hw) ?_
      refine g_iload_n cd149_57 rfl rfl ?_
      refine g_iconst cd149_58 rfl ?_
      obtain ⟨x6, hx, h⟩ := bnd h
      refine g_callVI (L := [some (.ref ln), some (.int l2), some (.int 4)]) cd149_59 rfl rfl rfl rfl rfl (O6.o (OH.q1 hw)) (t_Land_factOf (by omega) (OH.q1 hw) hx) ?_
      refine g_icmp_le cd149_62 rfl (fun hb => ?_) (fun hb => ?_)
      · have h := ifpE hb h
        refine g_aload_n cd149_85 rfl rfl ?_
        refine g_getP cd149_86 rfl (OH.o hw) (OH.p16 hw) ?_
        refine g_iload_n cd149_89 rfl rfl ?_
        refine g_iload_n cd149_90 rfl rfl ?_
        obtain ⟨hg7, h⟩ := grd h
        obtain ⟨I8, e1, h⟩ := bnd h
        refine G_iast cd149_91 rfl (OH.s16 hw) hg7 (Option.some.inj e1) ?_
        refine g_iinc (ls2 := [some (.ref 0), some (.int (l1 + 1)), some (.int l2), some (.int l3)]) cd149_92 rfl rfl rfl ?_
        refine go_cut (k := 0) (ls' := [some (.ref 0), some (.int (l1 + 1)), some (.int l2), none]) cd149_95 rfl ?_
        refine g_iinc (ls2 := [some (.ref 0), some (.int (l1 + 1)), some (.int (l2 + 1)), none]) cd149_95 rfl rfl rfl ?_
        refine g_goto (ls2 := [some (.ref 0), some (.int (l1 + 1)), some (.int (l2 + 1)), none]) cd149_98 rfl rfl ?_
        exact hK (l1 + 1) (l2 + 1) I8 J h
      · have h := ifnE hb h
        refine g_aload_n cd149_65 rfl rfl ?_
        refine g_getP cd149_66 rfl (OH.o hw) (OH.p16 hw) ?_
        refine g_iload_n cd149_69 rfl rfl ?_
        refine g_aload_n cd149_70 rfl rfl ?_
        refine g_getP cd149_71 rfl (OH.o hw) (OH.p16 hw) ?_
        refine g_iload_n cd149_74 rfl rfl ?_
        refine g_iconst cd149_75 rfl ?_
        refine g_isub cd149_76 rfl ?_
        obtain ⟨hg9, h⟩ := grd h
        refine G_iald cd149_77 rfl (OH.s16 hw) hg9 ?_
        obtain ⟨hg10, h⟩ := grd h
        obtain ⟨I11, e1, h⟩ := bnd h
        refine G_iast cd149_78 rfl (OH.s16 hw) hg10 (Option.some.inj e1) ?_
        refine g_iinc (ls2 := [some (.ref 0), some (.int l1), some (.int l2), some (.int (l3 + (-1)))]) cd149_79 rfl rfl rfl ?_
        refine g_goto (ls2 := [some (.ref 0), some (.int l1), some (.int l2), some (.int (l3 + (-1)))]) cd149_82 rfl rfl ?_
        exact ih l1 l2 (l3 + (-1)) I11 J h
set_option maxRecDepth 8000 in
theorem t_Hol_sortToldCoins_4 {d : Nat} {N : Nat} {ln sp sn ss : Nat} {c : Nat × Nat} {S : Nat → Nat × Nat} {P : Nat → Nat → Option Nat} {r : Int32 × FI} (hd : 2 ≤ (d + 1)) (hw : OH S P ln sp sn ss) : ∀ (n : Nat) (l1 : Int32) (l2 : Int32) (I : FI) (J : FJ), Hol_sortToldCoins_4 N ln sp sn ss n l1 l2 I = some r → Go (d + 1) M_Hol_sortToldCoins 4 [some (.ref 0), some (.int l1), some (.int l2), none] [] (c, S, I, J, P) (some (.int r.1), false, (c, S, r.2, J, P)) := by
  intro n
  induction n with
  | zero =>
    intro l1 l2 I J h
    cases h
  | succ n ih =>
    intro l1 l2 I J h
    unfold Hol_sortToldCoins_4 at h
    refine g_iload_n cd149_4 rfl rfl ?_
    refine g_aload_n cd149_5 rfl rfl ?_
    refine g_getP cd149_6 rfl (OH.o hw) (OH.p1 hw) ?_
    refine g_getI cd149_9 rfl (O6.o (OH.q1 hw)) ?_
    refine g_icmp_ge cd149_12 rfl (fun hb => ?_) (fun hb => ?_)
    · have h := ifpE hb h
      refine g_iload_n cd149_101 rfl rfl ?_
      exact g_iret cd149_102 (Or.inl rfl) (by obtain rfl := Option.some.inj h; rfl)
    · have h := ifnE hb h
      refine g_aload_n cd149_15 rfl rfl ?_
      refine g_getP cd149_16 rfl (OH.o hw) (OH.p3 hw) ?_
      refine g_getP cd149_19 rfl (O9.o (OH.q3 hw)) (show P 25 3 = some 29 from O9.p3 (OH.q3 hw)) ?_
      refine g_iload_n cd149_22 rfl rfl ?_
      obtain ⟨hg1, h⟩ := grd h
      refine G_iald cd149_23 rfl (show S 29 = (1, 10) from O9.s3 (OH.q3 hw)) hg1 ?_
      refine g_iconst cd149_24 rfl ?_
      refine g_icmp_ne cd149_25 rfl (fun hb => ?_) (fun hb => ?_)
      · have h := ifpE hb h
        refine g_aload_n cd149_28 rfl rfl ?_
        refine g_getP cd149_29 rfl (OH.o hw) (OH.p1 hw) ?_
        refine g_iload_n cd149_32 rfl rfl ?_
        refine g_iconst cd149_33 rfl ?_
        obtain ⟨x2, hx, h⟩ := bnd h
        refine g_callVI (L := [some (.ref ln), some (.int l2), some (.int 0)]) cd149_34 rfl rfl rfl rfl rfl (O6.o (OH.q1 hw)) (t_Land_factOf (by omega) (OH.q1 hw) hx) ?_
        refine g_if_ne cd149_37 rfl (fun hb => ?_) (fun hb => ?_)
        · have h := ifpE hb h
          refine g_iload_n cd149_40 rfl rfl ?_
          refine g_istore_n (ls2 := [some (.ref 0), some (.int l1), some (.int l2), some (.int l1)]) cd149_41 rfl rfl ?_
          exact t_Hol_sortToldCoins_42 hd hw (fun x1 x2 I J h => ih x1 x2 I J h) _ l1 l2 l1 I J h
        · have h := ifnE hb h
          refine g_iinc (ls2 := [some (.ref 0), some (.int l1), some (.int (l2 + 1)), none]) cd149_95 rfl rfl rfl ?_
          refine g_goto (ls2 := [some (.ref 0), some (.int l1), some (.int (l2 + 1)), none]) cd149_98 rfl rfl ?_
          exact ih l1 (l2 + 1) I J h
      · have h := ifnE hb h
        refine g_iinc (ls2 := [some (.ref 0), some (.int l1), some (.int (l2 + 1)), none]) cd149_95 rfl rfl rfl ?_
        refine g_goto (ls2 := [some (.ref 0), some (.int l1), some (.int (l2 + 1)), none]) cd149_98 rfl rfl ?_
        exact ih l1 (l2 + 1) I J h
set_option maxRecDepth 8000 in
theorem t_Hol_sortToldCoins {d : Nat} {N : Nat} {ln sp sn ss : Nat} {c : Nat × Nat} {S : Nat → Nat × Nat} {P : Nat → Nat → Option Nat} {I : FI} {J : FJ} {r : Int32 × FI} (hd : 2 ≤ d) (hw : OH S P ln sp sn ss) (h : Hol_sortToldCoins N ln sp sn ss I = some r) : Go d M_Hol_sortToldCoins 0 [some (.ref 0), none, none, none] [] (c, S, I, J, P) (some (.int r.1), false, (c, S, r.2, J, P)) := by
  obtain ⟨d, rfl⟩ : ∃ e, d = e + 1 := ⟨d - 1, by omega⟩
  unfold Hol_sortToldCoins at h
  refine g_iconst cd149_0 rfl ?_
  refine g_istore_n (ls2 := [some (.ref 0), some (.int 0), none, none]) cd149_1 rfl rfl ?_
  refine g_iconst cd149_2 rfl ?_
  refine g_istore_n (ls2 := [some (.ref 0), some (.int 0), some (.int 0), none]) cd149_3 rfl rfl ?_
  exact t_Hol_sortToldCoins_4 hd hw _ 0 0 I J h
/-! HiddenOrLost.spansCutBehind(II)I -/
theorem cd151_0 : code9 151 0 = some (0, .aload_n 0, [1], .null, []) := rfl
theorem cd151_1 : code9 151 1 = some (0, .iload_n 1, [1], .null, []) := rfl
theorem cd151_2 : code9 151 2 = some (0, .iconst 1, [1], .int 1, []) := rfl
theorem cd151_3 : code9 151 3 = some (0, .isub, [1], .null, []) := rfl
theorem cd151_4 : code9 151 4 = some (0, .invokevirtual 403, [3, 150, 2, 1, 1, 2, 11, 0], .null, []) := rfl
theorem cd151_7 : code9 151 7 = some (0, .aload_n 0, [1], .null, []) := rfl
theorem cd151_8 : code9 151 8 = some (0, .iconst 0, [1], .int 0, []) := rfl
theorem cd151_9 : code9 151 9 = some (0, .invokevirtual 403, [3, 150, 2, 1, 1, 2, 11, 0], .null, []) := rfl
theorem cd151_12 : code9 151 12 = some (0, .isub, [1], .null, []) := rfl
theorem cd151_13 : code9 151 13 = some (0, .aload_n 0, [1], .null, []) := rfl
theorem cd151_14 : code9 151 14 = some (0, .iload_n 2, [1], .null, []) := rfl
theorem cd151_15 : code9 151 15 = some (0, .iconst 1, [1], .int 1, []) := rfl
theorem cd151_16 : code9 151 16 = some (0, .isub, [1], .null, []) := rfl
theorem cd151_17 : code9 151 17 = some (0, .invokevirtual 403, [3, 150, 2, 1, 1, 2, 11, 0], .null, []) := rfl
theorem cd151_20 : code9 151 20 = some (0, .iadd, [1], .null, []) := rfl
theorem cd151_21 : code9 151 21 = some (0, .aload_n 0, [1], .null, []) := rfl
theorem cd151_22 : code9 151 22 = some (0, .iload_n 1, [1], .null, []) := rfl
theorem cd151_23 : code9 151 23 = some (0, .invokevirtual 403, [3, 150, 2, 1, 1, 2, 11, 0], .null, []) := rfl
theorem cd151_26 : code9 151 26 = some (0, .isub, [1], .null, []) := rfl
theorem cd151_27 : code9 151 27 = some (0, .ireturn, [1, 1], .null, []) := rfl
def Hol_spansCutBehind (ln sp sn ss : Nat) (l1 : Int32) (l2 : Int32) (I : FI) : Option (Int32) := Option.bind (Hol_yearOfCoin ln sp sn ss (l1 - 1) I) fun x1 => (Option.bind (Hol_yearOfCoin ln sp sn ss 0 I) fun x2 => (Option.bind (Hol_yearOfCoin ln sp sn ss (l2 - 1) I) fun x3 => (Option.bind (Hol_yearOfCoin ln sp sn ss l1 I) fun x4 => (some (((x1 - x2) + x3) - x4)))))
set_option maxRecDepth 8000 in
theorem t_Hol_spansCutBehind {d : Nat} {ln sp sn ss : Nat} {c : Nat × Nat} {S : Nat → Nat × Nat} {P : Nat → Nat → Option Nat} {I : FI} {J : FJ} {l1 : Int32} {l2 : Int32} {r : Int32} (hd : 2 ≤ d) (hw : OH S P ln sp sn ss) (h : Hol_spansCutBehind ln sp sn ss l1 l2 I = some r) : Go d M_Hol_spansCutBehind 0 [some (.ref 0), some (.int l1), some (.int l2)] [] (c, S, I, J, P) (some (.int r), false, (c, S, I, J, P)) := by
  obtain ⟨d, rfl⟩ : ∃ e, d = e + 1 := ⟨d - 1, by omega⟩
  unfold Hol_spansCutBehind at h
  refine g_aload_n cd151_0 rfl rfl ?_
  refine g_iload_n cd151_1 rfl rfl ?_
  refine g_iconst cd151_2 rfl ?_
  refine g_isub cd151_3 rfl ?_
  obtain ⟨x1, hx, h⟩ := bnd h
  refine g_callVI (L := [some (.ref 0), some (.int (l1 - 1))]) cd151_4 rfl rfl rfl rfl rfl (OH.o hw) (t_Hol_yearOfCoin (by omega) hw hx) ?_
  refine g_aload_n cd151_7 rfl rfl ?_
  refine g_iconst cd151_8 rfl ?_
  obtain ⟨x2, hx, h⟩ := bnd h
  refine g_callVI (L := [some (.ref 0), some (.int 0)]) cd151_9 rfl rfl rfl rfl rfl (OH.o hw) (t_Hol_yearOfCoin (by omega) hw hx) ?_
  refine g_isub cd151_12 rfl ?_
  refine g_aload_n cd151_13 rfl rfl ?_
  refine g_iload_n cd151_14 rfl rfl ?_
  refine g_iconst cd151_15 rfl ?_
  refine g_isub cd151_16 rfl ?_
  obtain ⟨x3, hx, h⟩ := bnd h
  refine g_callVI (L := [some (.ref 0), some (.int (l2 - 1))]) cd151_17 rfl rfl rfl rfl rfl (OH.o hw) (t_Hol_yearOfCoin (by omega) hw hx) ?_
  refine g_iadd cd151_20 rfl ?_
  refine g_aload_n cd151_21 rfl rfl ?_
  refine g_iload_n cd151_22 rfl rfl ?_
  obtain ⟨x4, hx, h⟩ := bnd h
  refine g_callVI (L := [some (.ref 0), some (.int l1)]) cd151_23 rfl rfl rfl rfl rfl (OH.o hw) (t_Hol_yearOfCoin (by omega) hw hx) ?_
  refine g_isub cd151_26 rfl ?_
  exact g_iret cd151_27 (Or.inl rfl) (by obtain rfl := Option.some.inj h; rfl)
/-! HiddenOrLost.pots()I -/
theorem cd148_0 : code9 148 0 = some (0, .aload_n 0, [1], .null, []) := rfl
theorem cd148_1 : code9 148 1 = some (0, .invokevirtual 326, [3, 149, 1, 1, 1, 4, 11, 0], .null, []) := rfl
theorem cd148_4 : code9 148 4 = some (0, .istore_n 1, [1], .null, []) := rfl
theorem cd148_5 : code9 148 5 = some (0, .iload_n 1, [1], .null, []) := rfl
theorem cd148_6 : code9 148 6 = some (0, .iconst 2, [1], .int 2, []) := rfl
theorem cd148_7 : code9 148 7 = some (0, .if_icmp .ge 5, [3, 12], .null, []) := rfl
theorem cd148_10 : code9 148 10 = some (0, .iconst (-1), [1], .int (-1), []) := rfl
theorem cd148_11 : code9 148 11 = some (0, .ireturn, [1, 1], .null, []) := rfl
theorem cd148_12 : code9 148 12 = some (0, .iconst 1, [1], .int 1, []) := rfl
theorem cd148_13 : code9 148 13 = some (0, .istore_n 2, [1], .null, []) := rfl
theorem cd148_14 : code9 148 14 = some (0, .iconst 2, [1], .int 2, []) := rfl
theorem cd148_15 : code9 148 15 = some (0, .istore_n 3, [1], .null, []) := rfl
theorem cd148_16 : code9 148 16 = some (5, .iload_n 3, [1], .null, []) := rfl
theorem cd148_17 : code9 148 17 = some (0, .iload_n 1, [1], .null, []) := rfl
theorem cd148_18 : code9 148 18 = some (0, .if_icmp .ge 26, [3, 44], .null, []) := rfl
theorem cd148_21 : code9 148 21 = some (0, .aload_n 0, [1], .null, []) := rfl
theorem cd148_22 : code9 148 22 = some (0, .iload_n 3, [1], .null, []) := rfl
theorem cd148_23 : code9 148 23 = some (0, .iload_n 1, [1], .null, []) := rfl
theorem cd148_24 : code9 148 24 = some (0, .invokevirtual 329, [3, 151, 3, 1, 1, 3, 11, 0], .null, []) := rfl
theorem cd148_27 : code9 148 27 = some (0, .aload_n 0, [1], .null, []) := rfl
theorem cd148_28 : code9 148 28 = some (0, .iload_n 2, [1], .null, []) := rfl
theorem cd148_29 : code9 148 29 = some (0, .iload_n 1, [1], .null, []) := rfl
theorem cd148_30 : code9 148 30 = some (0, .invokevirtual 329, [3, 151, 3, 1, 1, 3, 11, 0], .null, []) := rfl
theorem cd148_33 : code9 148 33 = some (0, .if_icmp .ge 5, [3, 38], .null, []) := rfl
theorem cd148_36 : code9 148 36 = some (0, .iload_n 3, [1], .null, []) := rfl
theorem cd148_37 : code9 148 37 = some (0, .istore_n 2, [1], .null, []) := rfl
theorem cd148_38 : code9 148 38 = some (5, .iinc 3 1, [3], .int 1, []) := rfl
theorem cd148_41 : code9 148 41 = some (0, .goto (-25), [3, 16, 4], .null, []) := rfl
theorem cd148_44 : code9 148 44 = some (0, .aload_n 0, [1], .null, []) := rfl
theorem cd148_45 : code9 148 45 = some (0, .iconst 0, [1], .int 0, []) := rfl
theorem cd148_46 : code9 148 46 = some (0, .putfield 109, [3, 11, 18, 0], .null, []) := rfl
theorem cd148_49 : code9 148 49 = some (0, .iconst 0, [1], .int 0, []) := rfl
theorem cd148_50 : code9 148 50 = some (0, .istore_n 3, [1], .null, []) := rfl
theorem cd148_51 : code9 148 51 = some (5, .iload_n 3, [1], .null, []) := rfl
theorem cd148_52 : code9 148 52 = some (0, .iload_n 2, [1], .null, []) := rfl
theorem cd148_53 : code9 148 53 = some (0, .if_icmp .ge 26, [3, 79], .null, []) := rfl
theorem cd148_56 : code9 148 56 = some (0, .aload_n 0, [1], .null, []) := rfl
theorem cd148_57 : code9 148 57 = some (0, .dup, [1], .null, []) := rfl
theorem cd148_58 : code9 148 58 = some (0, .getfield 109, [3, 11, 18, 0], .null, []) := rfl
theorem cd148_61 : code9 148 61 = some (0, .iconst 1, [1], .int 1, []) := rfl
theorem cd148_62 : code9 148 62 = some (0, .aload_n 0, [1], .null, []) := rfl
theorem cd148_63 : code9 148 63 = some (0, .getfield 102, [3, 11, 16, 2], .null, []) := rfl
theorem cd148_66 : code9 148 66 = some (0, .iload_n 3, [1], .null, []) := rfl
theorem cd148_67 : code9 148 67 = some (0, .iaload, [1], .null, []) := rfl
theorem cd148_68 : code9 148 68 = some (0, .ishl, [1], .null, []) := rfl
theorem cd148_69 : code9 148 69 = some (0, .ior, [1], .null, []) := rfl
theorem cd148_70 : code9 148 70 = some (0, .putfield 109, [3, 11, 18, 0], .null, []) := rfl
theorem cd148_73 : code9 148 73 = some (0, .iinc 3 1, [3], .int 1, []) := rfl
theorem cd148_76 : code9 148 76 = some (0, .goto (-25), [3, 51, 4], .null, []) := rfl
theorem cd148_79 : code9 148 79 = some (0, .aload_n 0, [1], .null, []) := rfl
theorem cd148_80 : code9 148 80 = some (0, .iload_n 2, [1], .null, []) := rfl
theorem cd148_81 : code9 148 81 = some (0, .iload_n 1, [1], .null, []) := rfl
theorem cd148_82 : code9 148 82 = some (0, .invokevirtual 329, [3, 151, 3, 1, 1, 3, 11, 0], .null, []) := rfl
theorem cd148_85 : code9 148 85 = some (0, .ireturn, [1, 1], .null, []) := rfl
def Hol_pots_51 (N : Nat) (ln sp sn ss : Nat) : Nat → Int32 → Int32 → Int32 → FI → Option (Int32 × FI)
  | 0 => fun _ _ _ _ => none
  | n + 1 => fun l1 l2 l3 I => if l2 ≤ l3 then (Option.bind (Hol_spansCutBehind ln sp sn ss l2 l1 I) fun x3 => (some (x3, I))) else (if in9 l3 10 then (Option.bind (some (up2 I 0 18 ((I 0 18) ||| (1 <<< ((I 203 l3.toNatClampNeg) &&& 31))))) fun I5 => (Hol_pots_51 N ln sp sn ss n l1 l2 (l3 + 1) I5)) else none)
def Hol_pots_16 (N : Nat) (ln sp sn ss : Nat) : Nat → Int32 → Int32 → Int32 → FI → Option (Int32 × FI)
  | 0 => fun _ _ _ _ => none
  | n + 1 => fun l1 l2 l3 I => if l1 ≤ l3 then (Option.bind (some (up2 I 0 18 (0 : Int32))) fun I2 => (Hol_pots_51 N ln sp sn ss N l1 l2 0 I2)) else (Option.bind (Hol_spansCutBehind ln sp sn ss l3 l1 I) fun x6 => (Option.bind (Hol_spansCutBehind ln sp sn ss l2 l1 I) fun x7 => (if x7 ≤ x6 then (Hol_pots_16 N ln sp sn ss n l1 l2 (l3 + 1) I) else (Hol_pots_16 N ln sp sn ss n l1 l3 (l3 + 1) I))))
def Hol_pots (N : Nat) (ln sp sn ss : Nat) (I : FI) : Option (Int32 × FI) := Option.bind (Hol_sortToldCoins N ln sp sn ss I) fun x1 => (if 2 ≤ x1.1 then (Hol_pots_16 N ln sp sn ss N x1.1 1 2 x1.2) else (some ((-1), x1.2)))
set_option maxRecDepth 8000 in
theorem t_Hol_pots_51 {d : Nat} {N : Nat} {ln sp sn ss : Nat} {c : Nat × Nat} {S : Nat → Nat × Nat} {P : Nat → Nat → Option Nat} {r : Int32 × FI} (hd : 3 ≤ (d + 1)) (hw : OH S P ln sp sn ss) : ∀ (n : Nat) (l1 : Int32) (l2 : Int32) (l3 : Int32) (I : FI) (J : FJ), Hol_pots_51 N ln sp sn ss n l1 l2 l3 I = some r → Go (d + 1) M_Hol_pots 51 [some (.ref 0), some (.int l1), some (.int l2), some (.int l3)] [] (c, S, I, J, P) (some (.int r.1), false, (c, S, r.2, J, P)) := by
  intro n
  induction n with
  | zero =>
    intro l1 l2 l3 I J h
    cases h
  | succ n ih =>
    intro l1 l2 l3 I J h
    unfold Hol_pots_51 at h
    refine g_iload_n cd148_51 rfl rfl ?_
    refine g_iload_n cd148_52 rfl rfl ?_
    refine g_icmp_ge cd148_53 rfl (fun hb => ?_) (fun hb => ?_)
    · have h := ifpE hb h
      refine g_aload_n cd148_79 rfl rfl ?_
      refine g_iload_n cd148_80 rfl rfl ?_
      refine g_iload_n cd148_81 rfl rfl ?_
      obtain ⟨x3, hx, h⟩ := bnd h
      refine g_callVI (L := [some (.ref 0), some (.int l2), some (.int l1)]) cd148_82 rfl rfl rfl rfl rfl (OH.o hw) (t_Hol_spansCutBehind (by omega) hw hx) ?_
      exact g_iret cd148_85 (Or.inl rfl) (by obtain rfl := Option.some.inj h; rfl)
    · have h := ifnE hb h
      refine g_aload_n cd148_56 rfl rfl ?_
      refine g_dupR cd148_57 rfl ?_
      refine g_getI cd148_58 rfl (OH.o hw) ?_
      refine g_iconst cd148_61 rfl ?_
      refine g_aload_n cd148_62 rfl rfl ?_
      refine g_getP cd148_63 rfl (OH.o hw) (OH.p16 hw) ?_
      refine g_iload_n cd148_66 rfl rfl ?_
      obtain ⟨hg4, h⟩ := grd h
      refine G_iald cd148_67 rfl (OH.s16 hw) hg4 ?_
      refine g_ishl cd148_68 rfl ?_
      refine g_ior cd148_69 rfl ?_
      obtain ⟨I5, e1, h⟩ := bnd h
      refine G_putI cd148_70 rfl (OH.o hw) (Option.some.inj e1) ?_
      refine g_iinc (ls2 := [some (.ref 0), some (.int l1), some (.int l2), some (.int (l3 + 1))]) cd148_73 rfl rfl rfl ?_
      refine g_goto (ls2 := [some (.ref 0), some (.int l1), some (.int l2), some (.int (l3 + 1))]) cd148_76 rfl rfl ?_
      exact ih l1 l2 (l3 + 1) I5 J h
set_option maxRecDepth 8000 in
theorem t_Hol_pots_16 {d : Nat} {N : Nat} {ln sp sn ss : Nat} {c : Nat × Nat} {S : Nat → Nat × Nat} {P : Nat → Nat → Option Nat} {r : Int32 × FI} (hd : 3 ≤ (d + 1)) (hw : OH S P ln sp sn ss) : ∀ (n : Nat) (l1 : Int32) (l2 : Int32) (l3 : Int32) (I : FI) (J : FJ), Hol_pots_16 N ln sp sn ss n l1 l2 l3 I = some r → Go (d + 1) M_Hol_pots 16 [some (.ref 0), some (.int l1), some (.int l2), some (.int l3)] [] (c, S, I, J, P) (some (.int r.1), false, (c, S, r.2, J, P)) := by
  intro n
  induction n with
  | zero =>
    intro l1 l2 l3 I J h
    cases h
  | succ n ih =>
    intro l1 l2 l3 I J h
    unfold Hol_pots_16 at h
    refine g_iload_n cd148_16 rfl rfl ?_
    refine g_iload_n cd148_17 rfl rfl ?_
    refine g_icmp_ge cd148_18 rfl (fun hb => ?_) (fun hb => ?_)
    · have h := ifpE hb h
      refine g_aload_n cd148_44 rfl rfl ?_
      refine g_iconst cd148_45 rfl ?_
      obtain ⟨I2, e1, h⟩ := bnd h
      refine G_putI cd148_46 rfl (OH.o hw) (Option.some.inj e1) ?_
      refine g_iconst cd148_49 rfl ?_
      refine g_istore_n (ls2 := [some (.ref 0), some (.int l1), some (.int l2), some (.int 0)]) cd148_50 rfl rfl ?_
      exact t_Hol_pots_51 hd hw _ l1 l2 0 I2 J h
    · have h := ifnE hb h
      refine g_aload_n cd148_21 rfl rfl ?_
      refine g_iload_n cd148_22 rfl rfl ?_
      refine g_iload_n cd148_23 rfl rfl ?_
      obtain ⟨x6, hx, h⟩ := bnd h
      refine g_callVI (L := [some (.ref 0), some (.int l3), some (.int l1)]) cd148_24 rfl rfl rfl rfl rfl (OH.o hw) (t_Hol_spansCutBehind (by omega) hw hx) ?_
      refine g_aload_n cd148_27 rfl rfl ?_
      refine g_iload_n cd148_28 rfl rfl ?_
      refine g_iload_n cd148_29 rfl rfl ?_
      obtain ⟨x7, hx, h⟩ := bnd h
      refine g_callVI (L := [some (.ref 0), some (.int l2), some (.int l1)]) cd148_30 rfl rfl rfl rfl rfl (OH.o hw) (t_Hol_spansCutBehind (by omega) hw hx) ?_
      refine g_icmp_ge cd148_33 rfl (fun hb => ?_) (fun hb => ?_)
      · have h := ifpE hb h
        refine g_iinc (ls2 := [some (.ref 0), some (.int l1), some (.int l2), some (.int (l3 + 1))]) cd148_38 rfl rfl rfl ?_
        refine g_goto (ls2 := [some (.ref 0), some (.int l1), some (.int l2), some (.int (l3 + 1))]) cd148_41 rfl rfl ?_
        exact ih l1 l2 (l3 + 1) I J h
      · have h := ifnE hb h
        refine g_iload_n cd148_36 rfl rfl ?_
        refine g_istore_n (ls2 := [some (.ref 0), some (.int l1), some (.int l3), some (.int l3)]) cd148_37 rfl rfl ?_
        refine g_iinc (ls2 := [some (.ref 0), some (.int l1), some (.int l3), some (.int (l3 + 1))]) cd148_38 rfl rfl rfl ?_
        refine g_goto (ls2 := [some (.ref 0), some (.int l1), some (.int l3), some (.int (l3 + 1))]) cd148_41 rfl rfl ?_
        exact ih l1 l3 (l3 + 1) I J h
set_option maxRecDepth 8000 in
theorem t_Hol_pots {d : Nat} {N : Nat} {ln sp sn ss : Nat} {c : Nat × Nat} {S : Nat → Nat × Nat} {P : Nat → Nat → Option Nat} {I : FI} {J : FJ} {r : Int32 × FI} (hd : 3 ≤ d) (hw : OH S P ln sp sn ss) (h : Hol_pots N ln sp sn ss I = some r) : Go d M_Hol_pots 0 [some (.ref 0), none, none, none] [] (c, S, I, J, P) (some (.int r.1), false, (c, S, r.2, J, P)) := by
  obtain ⟨d, rfl⟩ : ∃ e, d = e + 1 := ⟨d - 1, by omega⟩
  unfold Hol_pots at h
  refine g_aload_n cd148_0 rfl rfl ?_
  obtain ⟨x1, hx, h⟩ := bnd h
  refine g_callVI (L := [some (.ref 0), none, none, none]) cd148_1 rfl rfl rfl rfl rfl (OH.o hw) (t_Hol_sortToldCoins (by omega) hw hx) ?_
  refine g_istore_n (ls2 := [some (.ref 0), some (.int x1.1), none, none]) cd148_4 rfl rfl ?_
  refine g_iload_n cd148_5 rfl rfl ?_
  refine g_iconst cd148_6 rfl ?_
  refine g_icmp_ge cd148_7 rfl (fun hb => ?_) (fun hb => ?_)
  · have h := ifpE hb h
    refine g_iconst cd148_12 rfl ?_
    refine g_istore_n (ls2 := [some (.ref 0), some (.int x1.1), some (.int 1), none]) cd148_13 rfl rfl ?_
    refine g_iconst cd148_14 rfl ?_
    refine g_istore_n (ls2 := [some (.ref 0), some (.int x1.1), some (.int 1), some (.int 2)]) cd148_15 rfl rfl ?_
    exact t_Hol_pots_16 hd hw _ x1.1 1 2 x1.2 J h
  · have h := ifnE hb h
    refine g_iconst cd148_10 rfl ?_
    exact g_iret cd148_11 (Or.inl rfl) (by obtain rfl := Option.some.inj h; rfl)
/-! HiddenOrLost.early()I -/
theorem cd152_0 : code9 152 0 = some (0, .aload_n 0, [1], .null, []) := rfl
theorem cd152_1 : code9 152 1 = some (0, .getfield 109, [3, 11, 18, 0], .null, []) := rfl
theorem cd152_4 : code9 152 4 = some (0, .ireturn, [1, 1], .null, []) := rfl
def Hol_early (ln sp sn ss : Nat) (I : FI) : Int32 := I 0 18
set_option maxRecDepth 8000 in
theorem t_Hol_early {d : Nat} {ln sp sn ss : Nat} {c : Nat × Nat} {S : Nat → Nat × Nat} {P : Nat → Nat → Option Nat} {I : FI} {J : FJ} {r : Int32} (hd : 0 ≤ d) (hw : OH S P ln sp sn ss) (h : Hol_early ln sp sn ss I = r) : Go d M_Hol_early 0 [some (.ref 0)] [] (c, S, I, J, P) (some (.int r), false, (c, S, I, J, P)) := by
  unfold Hol_early at h
  refine g_aload_n cd152_0 rfl rfl ?_
  refine g_getI cd152_1 rfl (OH.o hw) ?_
  exact g_iret cd152_4 (Or.inl rfl) (by subst h; rfl)
/-! HiddenOrLost.parts()I -/
theorem cd153_0 : code9 153 0 = some (0, .aload_n 0, [1], .null, []) := rfl
theorem cd153_1 : code9 153 1 = some (0, .getfield 29, [3, 11, 3, 2], .null, []) := rfl
theorem cd153_4 : code9 153 4 = some (0, .aload_n 0, [1], .null, []) := rfl
theorem cd153_5 : code9 153 5 = some (0, .getfield 19, [3, 11, 1, 2], .null, []) := rfl
theorem cd153_8 : code9 153 8 = some (0, .iconst 2, [1], .int 2, []) := rfl
theorem cd153_9 : code9 153 9 = some (0, .invokevirtual 200, [3, 86, 3, 1, 1, 5, 9, 0], .null, []) := rfl
theorem cd153_12 : code9 153 12 = some (0, .istore_n 1, [1], .null, []) := rfl
theorem cd153_13 : code9 153 13 = some (0, .aload_n 0, [1], .null, []) := rfl
theorem cd153_14 : code9 153 14 = some (0, .getfield 29, [3, 11, 3, 2], .null, []) := rfl
theorem cd153_17 : code9 153 17 = some (0, .aload_n 0, [1], .null, []) := rfl
theorem cd153_18 : code9 153 18 = some (0, .getfield 19, [3, 11, 1, 2], .null, []) := rfl
theorem cd153_21 : code9 153 21 = some (0, .invokevirtual 207, [3, 88, 2, 1, 1, 2, 9, 0], .null, []) := rfl
theorem cd153_24 : code9 153 24 = some (0, .istore_n 2, [1], .null, []) := rfl
theorem cd153_25 : code9 153 25 = some (0, .iload_n 2, [1], .null, []) := rfl
theorem cd153_26 : code9 153 26 = some (0, .istore_n 3, [1], .null, []) := rfl
theorem cd153_27 : code9 153 27 = some (0, .aload_n 0, [1], .null, []) := rfl
theorem cd153_28 : code9 153 28 = some (0, .iconst 0, [1], .int 0, []) := rfl
theorem cd153_29 : code9 153 29 = some (0, .putfield 112, [3, 11, 19, 0], .null, []) := rfl
theorem cd153_32 : code9 153 32 = some (0, .iconst 1, [1], .int 1, []) := rfl
theorem cd153_33 : code9 153 33 = some (0, .istore 4, [2], .null, []) := rfl
theorem cd153_35 : code9 153 35 = some (6, .iload 4, [2], .null, []) := rfl
theorem cd153_37 : code9 153 37 = some (0, .iload_n 1, [1], .null, []) := rfl
theorem cd153_38 : code9 153 38 = some (0, .if_icmp .gt 51, [3, 89], .null, []) := rfl
theorem cd153_41 : code9 153 41 = some (0, .iload 4, [2], .null, []) := rfl
theorem cd153_43 : code9 153 43 = some (0, .iload_n 1, [1], .null, []) := rfl
theorem cd153_44 : code9 153 44 = some (0, .iconst (-1), [1], .int (-1), []) := rfl
theorem cd153_45 : code9 153 45 = some (0, .ixor, [1], .null, []) := rfl
theorem cd153_46 : code9 153 46 = some (0, .iand, [1], .null, []) := rfl
theorem cd153_47 : code9 153 47 = some (0, .ifCond .ne 36, [3, 83], .null, []) := rfl
theorem cd153_50 : code9 153 50 = some (0, .iload_n 2, [1], .null, []) := rfl
theorem cd153_51 : code9 153 51 = some (0, .iconst 2, [1], .int 2, []) := rfl
theorem cd153_52 : code9 153 52 = some (0, .aload_n 0, [1], .null, []) := rfl
theorem cd153_53 : code9 153 53 = some (0, .getfield 19, [3, 11, 1, 2], .null, []) := rfl
theorem cd153_56 : code9 153 56 = some (0, .iload 4, [2], .null, []) := rfl
theorem cd153_58 : code9 153 58 = some (0, .invokevirtual 332, [3, 54, 2, 1, 1, 4, 6, 0], .null, []) := rfl
theorem cd153_61 : code9 153 61 = some (0, .imul, [1], .null, []) := rfl
theorem cd153_62 : code9 153 62 = some (0, .isub, [1], .null, []) := rfl
theorem cd153_63 : code9 153 63 = some (0, .invokestatic 335, [3, 5], .null, []) := rfl
theorem cd153_66 : code9 153 66 = some (0, .istore 5, [2], .null, []) := rfl
theorem cd153_68 : code9 153 68 = some (0, .iload 5, [2], .null, []) := rfl
theorem cd153_70 : code9 153 70 = some (0, .iload_n 3, [1], .null, []) := rfl
theorem cd153_71 : code9 153 71 = some (0, .if_icmp .ge 12, [3, 83], .null, []) := rfl
theorem cd153_74 : code9 153 74 = some (0, .iload 5, [2], .null, []) := rfl
theorem cd153_76 : code9 153 76 = some (0, .istore_n 3, [1], .null, []) := rfl
theorem cd153_77 : code9 153 77 = some (0, .aload_n 0, [1], .null, []) := rfl
theorem cd153_78 : code9 153 78 = some (0, .iload 4, [2], .null, []) := rfl
theorem cd153_80 : code9 153 80 = some (0, .putfield 112, [3, 11, 19, 0], .null, []) := rfl
theorem cd153_83 : code9 153 83 = some (6, .iinc 4 1, [3], .int 1, []) := rfl
theorem cd153_86 : code9 153 86 = some (0, .goto (-51), [3, 35, 5], .null, []) := rfl
theorem cd153_89 : code9 153 89 = some (0, .iload_n 3, [1], .null, []) := rfl
theorem cd153_90 : code9 153 90 = some (0, .ireturn, [1, 1], .null, []) := rfl
def Hol_parts_35 (N : Nat) (ln sp sn ss : Nat) : Nat → Int32 → Int32 → Int32 → Int32 → FI → Option (Int32 × FI)
  | 0 => fun _ _ _ _ _ => none
  | n + 1 => fun l1 l2 l3 l4 I => if l1 < l4 then (some (l3, I)) else (if (l4 &&& (l1 ^^^ (-1))) = 0 then (Option.bind (Land_valueOf N ln l4 I) fun x4 => (if l3 ≤ (if 0 ≤ (l2 - (2 * x4)) then (l2 - (2 * x4)) else 0 - (l2 - (2 * x4))) then (Hol_parts_35 N ln sp sn ss n l1 l2 l3 (l4 + 1) I) else (Option.bind (some (up2 I 0 19 l4)) fun I5 => (Hol_parts_35 N ln sp sn ss n l1 l2 (if 0 ≤ (l2 - (2 * x4)) then (l2 - (2 * x4)) else 0 - (l2 - (2 * x4))) (l4 + 1) I5)))) else (Hol_parts_35 N ln sp sn ss n l1 l2 l3 (l4 + 1) I))
def Hol_parts (N : Nat) (ln sp sn ss : Nat) (I : FI) : Option (Int32 × FI) := Option.bind (State_bitsOf N 25 ln 2 I) fun x1 => (Option.bind (State_toldValue N 25 ln I) fun x2 => (Option.bind (some (up2 I 0 19 (0 : Int32))) fun I3 => (Hol_parts_35 N ln sp sn ss N x1 x2 x2 1 I3)))
set_option maxRecDepth 8000 in
theorem t_Hol_parts_35 {d : Nat} {N : Nat} {ln sp sn ss : Nat} {c : Nat × Nat} {S : Nat → Nat × Nat} {P : Nat → Nat → Option Nat} {r : Int32 × FI} (hd : 3 ≤ (d + 1)) (hw : OH S P ln sp sn ss) : ∀ (n : Nat) (l1 : Int32) (l2 : Int32) (l3 : Int32) (l4 : Int32) (I : FI) (J : FJ), Hol_parts_35 N ln sp sn ss n l1 l2 l3 l4 I = some r → Go (d + 1) M_Hol_parts 35 [some (.ref 0), some (.int l1), some (.int l2), some (.int l3), some (.int l4), none] [] (c, S, I, J, P) (some (.int r.1), false, (c, S, r.2, J, P)) := by
  intro n
  induction n with
  | zero =>
    intro l1 l2 l3 l4 I J h
    cases h
  | succ n ih =>
    intro l1 l2 l3 l4 I J h
    unfold Hol_parts_35 at h
    refine g_iload cd153_35 rfl rfl ?_
    refine g_iload_n cd153_37 rfl rfl ?_
    refine g_icmp_gt cd153_38 rfl (fun hb => ?_) (fun hb => ?_)
    · have h := ifpE hb h
      refine g_iload_n cd153_89 rfl rfl ?_
      exact g_iret cd153_90 (Or.inl rfl) (by obtain rfl := Option.some.inj h; rfl)
    · have h := ifnE hb h
      refine g_iload cd153_41 rfl rfl ?_
      refine g_iload_n cd153_43 rfl rfl ?_
      refine g_iconst cd153_44 rfl ?_
      refine g_ixor cd153_45 rfl ?_
      refine g_iand cd153_46 rfl ?_
      refine g_if_ne cd153_47 rfl (fun hb => ?_) (fun hb => ?_)
      · have h := ifpE hb h
        refine g_iload_n cd153_50 rfl rfl ?_
        refine g_iconst cd153_51 rfl ?_
        refine g_aload_n cd153_52 rfl rfl ?_
        refine g_getP cd153_53 rfl (OH.o hw) (OH.p1 hw) ?_
        refine g_iload cd153_56 rfl rfl ?_
        obtain ⟨x4, hx, h⟩ := bnd h
        refine g_callVI (L := [some (.ref ln), some (.int l4), none, none]) cd153_58 rfl rfl rfl rfl rfl (O6.o (OH.q1 hw)) (t_Land_valueOf (by omega) (OH.q1 hw) hx) ?_
        refine g_imul cd153_61 rfl ?_
        refine g_isub cd153_62 rfl ?_
        refine g_abs cd153_63 rfl (Nat.succ_ne_zero _) rfl ?_
        refine g_istore (ls2 := [some (.ref 0), some (.int l1), some (.int l2), some (.int l3), some (.int l4), some (.int (if 0 ≤ (l2 - (2 * x4)) then (l2 - (2 * x4)) else 0 - (l2 - (2 * x4))))]) cd153_66 rfl rfl ?_
        refine g_iload cd153_68 rfl rfl ?_
        refine g_iload_n cd153_70 rfl rfl ?_
        refine g_icmp_ge cd153_71 rfl (fun hb => ?_) (fun hb => ?_)
        · have h := ifpE hb h
          refine go_cut (k := 0) (ls' := [some (.ref 0), some (.int l1), some (.int l2), some (.int l3), some (.int l4), none]) cd153_83 rfl ?_
          refine g_iinc (ls2 := [some (.ref 0), some (.int l1), some (.int l2), some (.int l3), some (.int (l4 + 1)), none]) cd153_83 rfl rfl rfl ?_
          refine g_goto (ls2 := [some (.ref 0), some (.int l1), some (.int l2), some (.int l3), some (.int (l4 + 1)), none]) cd153_86 rfl rfl ?_
          exact ih l1 l2 l3 (l4 + 1) I J h
        · have h := ifnE hb h
          refine g_iload cd153_74 rfl rfl ?_
          refine g_istore_n (ls2 := [some (.ref 0), some (.int l1), some (.int l2), some (.int (if 0 ≤ (l2 - (2 * x4)) then (l2 - (2 * x4)) else 0 - (l2 - (2 * x4)))), some (.int l4), some (.int (if 0 ≤ (l2 - (2 * x4)) then (l2 - (2 * x4)) else 0 - (l2 - (2 * x4))))]) cd153_76 rfl rfl ?_
          refine g_aload_n cd153_77 rfl rfl ?_
          refine g_iload cd153_78 rfl rfl ?_
          obtain ⟨I5, e1, h⟩ := bnd h
          refine G_putI cd153_80 rfl (OH.o hw) (Option.some.inj e1) ?_
          refine go_cut (k := 0) (ls' := [some (.ref 0), some (.int l1), some (.int l2), some (.int (if 0 ≤ (l2 - (2 * x4)) then (l2 - (2 * x4)) else 0 - (l2 - (2 * x4)))), some (.int l4), none]) cd153_83 rfl ?_
          refine g_iinc (ls2 := [some (.ref 0), some (.int l1), some (.int l2), some (.int (if 0 ≤ (l2 - (2 * x4)) then (l2 - (2 * x4)) else 0 - (l2 - (2 * x4)))), some (.int (l4 + 1)), none]) cd153_83 rfl rfl rfl ?_
          refine g_goto (ls2 := [some (.ref 0), some (.int l1), some (.int l2), some (.int (if 0 ≤ (l2 - (2 * x4)) then (l2 - (2 * x4)) else 0 - (l2 - (2 * x4)))), some (.int (l4 + 1)), none]) cd153_86 rfl rfl ?_
          exact ih l1 l2 (if 0 ≤ (l2 - (2 * x4)) then (l2 - (2 * x4)) else 0 - (l2 - (2 * x4))) (l4 + 1) I5 J h
      · have h := ifnE hb h
        refine g_iinc (ls2 := [some (.ref 0), some (.int l1), some (.int l2), some (.int l3), some (.int (l4 + 1)), none]) cd153_83 rfl rfl rfl ?_
        refine g_goto (ls2 := [some (.ref 0), some (.int l1), some (.int l2), some (.int l3), some (.int (l4 + 1)), none]) cd153_86 rfl rfl ?_
        exact ih l1 l2 l3 (l4 + 1) I J h
set_option maxRecDepth 8000 in
theorem t_Hol_parts {d : Nat} {N : Nat} {ln sp sn ss : Nat} {c : Nat × Nat} {S : Nat → Nat × Nat} {P : Nat → Nat → Option Nat} {I : FI} {J : FJ} {r : Int32 × FI} (hd : 3 ≤ d) (hw : OH S P ln sp sn ss) (h : Hol_parts N ln sp sn ss I = some r) : Go d M_Hol_parts 0 [some (.ref 0), none, none, none, none, none] [] (c, S, I, J, P) (some (.int r.1), false, (c, S, r.2, J, P)) := by
  obtain ⟨d, rfl⟩ : ∃ e, d = e + 1 := ⟨d - 1, by omega⟩
  unfold Hol_parts at h
  refine g_aload_n cd153_0 rfl rfl ?_
  refine g_getP cd153_1 rfl (OH.o hw) (OH.p3 hw) ?_
  refine g_aload_n cd153_4 rfl rfl ?_
  refine g_getP cd153_5 rfl (OH.o hw) (OH.p1 hw) ?_
  refine g_iconst cd153_8 rfl ?_
  obtain ⟨x1, hx, h⟩ := bnd h
  refine g_callVI (L := [some (.ref 25), some (.ref ln), some (.int 2), none, none]) cd153_9 rfl rfl rfl rfl rfl (O9.o (OH.q3 hw)) (t_State_bitsOf (by omega) (OH.q3 hw) (OH.q1 hw) hx) ?_
  refine g_istore_n (ls2 := [some (.ref 0), some (.int x1), none, none, none, none]) cd153_12 rfl rfl ?_
  refine g_aload_n cd153_13 rfl rfl ?_
  refine g_getP cd153_14 rfl (OH.o hw) (OH.p3 hw) ?_
  refine g_aload_n cd153_17 rfl rfl ?_
  refine g_getP cd153_18 rfl (OH.o hw) (OH.p1 hw) ?_
  obtain ⟨x2, hx, h⟩ := bnd h
  refine g_callVI (L := [some (.ref 25), some (.ref ln)]) cd153_21 rfl rfl rfl rfl rfl (O9.o (OH.q3 hw)) (t_State_toldValue (by omega) (OH.q3 hw) (OH.q1 hw) hx) ?_
  refine g_istore_n (ls2 := [some (.ref 0), some (.int x1), some (.int x2), none, none, none]) cd153_24 rfl rfl ?_
  refine g_iload_n cd153_25 rfl rfl ?_
  refine g_istore_n (ls2 := [some (.ref 0), some (.int x1), some (.int x2), some (.int x2), none, none]) cd153_26 rfl rfl ?_
  refine g_aload_n cd153_27 rfl rfl ?_
  refine g_iconst cd153_28 rfl ?_
  obtain ⟨I3, e1, h⟩ := bnd h
  refine G_putI cd153_29 rfl (OH.o hw) (Option.some.inj e1) ?_
  refine g_iconst cd153_32 rfl ?_
  refine g_istore (ls2 := [some (.ref 0), some (.int x1), some (.int x2), some (.int x2), some (.int 1), none]) cd153_33 rfl rfl ?_
  exact t_Hol_parts_35 hd hw _ x1 x2 x2 1 I3 J h
/-! HiddenOrLost.parted()I -/
theorem cd154_0 : code9 154 0 = some (0, .aload_n 0, [1], .null, []) := rfl
theorem cd154_1 : code9 154 1 = some (0, .getfield 112, [3, 11, 19, 0], .null, []) := rfl
theorem cd154_4 : code9 154 4 = some (0, .ireturn, [1, 1], .null, []) := rfl
def Hol_parted (ln sp sn ss : Nat) (I : FI) : Int32 := I 0 19
set_option maxRecDepth 8000 in
theorem t_Hol_parted {d : Nat} {ln sp sn ss : Nat} {c : Nat × Nat} {S : Nat → Nat × Nat} {P : Nat → Nat → Option Nat} {I : FI} {J : FJ} {r : Int32} (hd : 0 ≤ d) (hw : OH S P ln sp sn ss) (h : Hol_parted ln sp sn ss I = r) : Go d M_Hol_parted 0 [some (.ref 0)] [] (c, S, I, J, P) (some (.int r), false, (c, S, I, J, P)) := by
  unfold Hol_parted at h
  refine g_aload_n cd154_0 rfl rfl ?_
  refine g_getI cd154_1 rfl (OH.o hw) ?_
  exact g_iret cd154_4 (Or.inl rfl) (by subst h; rfl)
/-! HiddenOrLost.label(I)I -/
theorem cd155_0 : code9 155 0 = some (0, .aload_n 0, [1], .null, []) := rfl
theorem cd155_1 : code9 155 1 = some (0, .getfield 19, [3, 11, 1, 2], .null, []) := rfl
theorem cd155_4 : code9 155 4 = some (0, .iload_n 1, [1], .null, []) := rfl
theorem cd155_5 : code9 155 5 = some (0, .invokevirtual 141, [3, 55, 2, 1, 3, 2, 6, 0], .null, []) := rfl
theorem cd155_8 : code9 155 8 = some (0, .ifCond .ne 5, [3, 13], .null, []) := rfl
theorem cd155_11 : code9 155 11 = some (0, .iconst (-1), [1], .int (-1), []) := rfl
theorem cd155_12 : code9 155 12 = some (0, .ireturn, [1, 1], .null, []) := rfl
theorem cd155_13 : code9 155 13 = some (0, .aload_n 0, [1], .null, []) := rfl
theorem cd155_14 : code9 155 14 = some (0, .getfield 94, [3, 11, 14, 2], .null, []) := rfl
theorem cd155_17 : code9 155 17 = some (0, .aload_n 0, [1], .null, []) := rfl
theorem cd155_18 : code9 155 18 = some (0, .getfield 19, [3, 11, 1, 2], .null, []) := rfl
theorem cd155_21 : code9 155 21 = some (0, .aload_n 0, [1], .null, []) := rfl
theorem cd155_22 : code9 155 22 = some (0, .getfield 29, [3, 11, 3, 2], .null, []) := rfl
theorem cd155_25 : code9 155 25 = some (0, .iload_n 1, [1], .null, []) := rfl
theorem cd155_26 : code9 155 26 = some (0, .invokevirtual 340, [3, 29, 4, 1, 0, 4, 5, 0], .null, []) := rfl
theorem cd155_29 : code9 155 29 = some (0, .aload_n 0, [1], .null, []) := rfl
theorem cd155_30 : code9 155 30 = some (0, .getfield 94, [3, 11, 14, 2], .null, []) := rfl
theorem cd155_33 : code9 155 33 = some (0, .getfield 343, [3, 5, 1, 0], .null, []) := rfl
theorem cd155_36 : code9 155 36 = some (0, .ireturn, [1, 1], .null, []) := rfl
def Hol_label (N : Nat) (ln sp sn ss : Nat) (l1 : Int32) (I : FI) (J : FJ) : Option (Int32 × FI) := if (Land_hasFind ln l1 I) then (Option.bind (Label_write N 200 ln 25 l1 I J) fun x1 => (some (x1 200 1, x1))) else (some ((-1), I))
set_option maxRecDepth 8000 in
theorem t_Hol_label {d : Nat} {N : Nat} {ln sp sn ss : Nat} {c : Nat × Nat} {S : Nat → Nat × Nat} {P : Nat → Nat → Option Nat} {I : FI} {J : FJ} {l1 : Int32} {r : Int32 × FI} (hd : 10 ≤ d) (hw : OH S P ln sp sn ss) (h : Hol_label N ln sp sn ss l1 I J = some r) : Go d M_Hol_label 0 [some (.ref 0), some (.int l1)] [] (c, S, I, J, P) (some (.int r.1), false, (c, S, r.2, J, P)) := by
  obtain ⟨d, rfl⟩ : ∃ e, d = e + 1 := ⟨d - 1, by omega⟩
  unfold Hol_label at h
  refine g_aload_n cd155_0 rfl rfl ?_
  refine g_getP cd155_1 rfl (OH.o hw) (OH.p1 hw) ?_
  refine g_iload_n cd155_4 rfl rfl ?_
  refine g_callVZ (L := [some (.ref ln), some (.int l1)]) cd155_5 rfl rfl rfl rfl rfl (O6.o (OH.q1 hw)) (t_Land_hasFind (by omega) (OH.q1 hw) rfl) ?_
  refine g_if_ne cd155_8 rfl (fun hb => ?_) (fun hb => ?_)
  · have h := ifnE (b2i_f hb) h
    refine g_iconst cd155_11 rfl ?_
    exact g_iret cd155_12 (Or.inl rfl) (by obtain rfl := Option.some.inj h; rfl)
  · have h := ifpE (b2i_t hb) h
    refine g_aload_n cd155_13 rfl rfl ?_
    refine g_getP cd155_14 rfl (OH.o hw) (OH.p14 hw) ?_
    refine g_aload_n cd155_17 rfl rfl ?_
    refine g_getP cd155_18 rfl (OH.o hw) (OH.p1 hw) ?_
    refine g_aload_n cd155_21 rfl rfl ?_
    refine g_getP cd155_22 rfl (OH.o hw) (OH.p3 hw) ?_
    refine g_iload_n cd155_25 rfl rfl ?_
    obtain ⟨x1, hx, h⟩ := bnd h
    refine g_callVV (L := [some (.ref 200), some (.ref ln), some (.ref 25), some (.int l1)]) cd155_26 rfl rfl rfl rfl rfl (O5.o (OH.q14 hw)) (t_Label_write (by omega) (OH.q14 hw) (OH.q1 hw) (OH.q3 hw) hx) ?_
    refine g_aload_n cd155_29 rfl rfl ?_
    refine g_getP cd155_30 rfl (OH.o hw) (OH.p14 hw) ?_
    refine g_getI cd155_33 rfl (O5.o (OH.q14 hw)) ?_
    exact g_iret cd155_36 (Or.inl rfl) (by obtain rfl := Option.some.inj h; rfl)
/-! HiddenOrLost.byteAt(I)I -/
theorem cd156_0 : code9 156 0 = some (0, .iload_n 1, [1], .null, []) := rfl
theorem cd156_1 : code9 156 1 = some (0, .ifCond .lt 14, [3, 15], .null, []) := rfl
theorem cd156_4 : code9 156 4 = some (0, .iload_n 1, [1], .null, []) := rfl
theorem cd156_5 : code9 156 5 = some (0, .aload_n 0, [1], .null, []) := rfl
theorem cd156_6 : code9 156 6 = some (0, .getfield 94, [3, 11, 14, 2], .null, []) := rfl
theorem cd156_9 : code9 156 9 = some (0, .getfield 343, [3, 5, 1, 0], .null, []) := rfl
theorem cd156_12 : code9 156 12 = some (0, .if_icmp .lt 7, [3, 19], .null, []) := rfl
theorem cd156_15 : code9 156 15 = some (3, .iconst (-1), [1], .int (-1), []) := rfl
theorem cd156_16 : code9 156 16 = some (0, .goto 12, [3, 28, 2], .null, []) := rfl
theorem cd156_19 : code9 156 19 = some (0, .aload_n 0, [1], .null, []) := rfl
theorem cd156_20 : code9 156 20 = some (0, .getfield 94, [3, 11, 14, 2], .null, []) := rfl
theorem cd156_23 : code9 156 23 = some (0, .getfield 344, [3, 5, 0, 2], .null, []) := rfl
theorem cd156_26 : code9 156 26 = some (0, .iload_n 1, [1], .null, []) := rfl
theorem cd156_27 : code9 156 27 = some (0, .baload, [1], .null, []) := rfl
theorem cd156_28 : code9 156 28 = some (3, .ireturn, [1, 1], .null, []) := rfl
def Hol_byteAt (ln sp sn ss : Nat) (l1 : Int32) (I : FI) : Option (Int32) := if l1 < 0 then (some (-1)) else (if l1 < (I 200 1) then (if in9 l1 40 then (some (I 201 l1.toNatClampNeg)) else none) else (some (-1)))
set_option maxRecDepth 8000 in
theorem t_Hol_byteAt {d : Nat} {ln sp sn ss : Nat} {c : Nat × Nat} {S : Nat → Nat × Nat} {P : Nat → Nat → Option Nat} {I : FI} {J : FJ} {l1 : Int32} {r : Int32} (hd : 0 ≤ d) (hw : OH S P ln sp sn ss) (h : Hol_byteAt ln sp sn ss l1 I = some r) : Go d M_Hol_byteAt 0 [some (.ref 0), some (.int l1)] [] (c, S, I, J, P) (some (.int r), false, (c, S, I, J, P)) := by
  unfold Hol_byteAt at h
  refine g_iload_n cd156_0 rfl rfl ?_
  refine g_if_lt cd156_1 rfl (fun hb => ?_) (fun hb => ?_)
  · have h := ifpE hb h
    refine g_iconst cd156_15 rfl ?_
    refine g_goto (ls2 := [some (.ref 0), some (.int l1)]) cd156_16 rfl rfl ?_
    exact g_iret cd156_28 (Or.inl rfl) (by obtain rfl := Option.some.inj h; rfl)
  · have h := ifnE hb h
    refine g_iload_n cd156_4 rfl rfl ?_
    refine g_aload_n cd156_5 rfl rfl ?_
    refine g_getP cd156_6 rfl (OH.o hw) (OH.p14 hw) ?_
    refine g_getI cd156_9 rfl (O5.o (OH.q14 hw)) ?_
    refine g_icmp_lt cd156_12 rfl (fun hb => ?_) (fun hb => ?_)
    · have h := ifpE hb h
      refine g_aload_n cd156_19 rfl rfl ?_
      refine g_getP cd156_20 rfl (OH.o hw) (OH.p14 hw) ?_
      refine g_getP cd156_23 rfl (O5.o (OH.q14 hw)) (show P 200 0 = some 201 from O5.p0 (OH.q14 hw)) ?_
      refine g_iload_n cd156_26 rfl rfl ?_
      obtain ⟨hg1, h⟩ := grd h
      refine G_bald cd156_27 rfl (show S 201 = (2, 40) from O5.s0 (OH.q14 hw)) hg1 ?_
      exact g_iret cd156_28 (Or.inl rfl) (by obtain rfl := Option.some.inj h; rfl)
    · have h := ifnE hb h
      refine g_iconst cd156_15 rfl ?_
      refine g_goto (ls2 := [some (.ref 0), some (.int l1)]) cd156_16 rfl rfl ?_
      exact g_iret cd156_28 (Or.inl rfl) (by obtain rfl := Option.some.inj h; rfl)
/-! HiddenOrLost.odds(III)I -/
theorem cd157_0 : code9 157 0 = some (0, .aload_n 0, [1], .null, []) := rfl
theorem cd157_1 : code9 157 1 = some (0, .getfield 19, [3, 11, 1, 2], .null, []) := rfl
theorem cd157_4 : code9 157 4 = some (0, .iload_n 1, [1], .null, []) := rfl
theorem cd157_5 : code9 157 5 = some (0, .invokevirtual 141, [3, 55, 2, 1, 3, 2, 6, 0], .null, []) := rfl
theorem cd157_8 : code9 157 8 = some (0, .ifCond .eq 24, [3, 32], .null, []) := rfl
theorem cd157_11 : code9 157 11 = some (0, .iload_n 2, [1], .null, []) := rfl
theorem cd157_12 : code9 157 12 = some (0, .iconst 1, [1], .int 1, []) := rfl
theorem cd157_13 : code9 157 13 = some (0, .if_icmp .lt 19, [3, 32], .null, []) := rfl
theorem cd157_16 : code9 157 16 = some (0, .iload_n 2, [1], .null, []) := rfl
theorem cd157_17 : code9 157 17 = some (0, .bipush 30, [2], .int 30, []) := rfl
theorem cd157_19 : code9 157 19 = some (0, .if_icmp .gt 13, [3, 32], .null, []) := rfl
theorem cd157_22 : code9 157 22 = some (0, .aload_n 0, [1], .null, []) := rfl
theorem cd157_23 : code9 157 23 = some (0, .getfield 19, [3, 11, 1, 2], .null, []) := rfl
theorem cd157_26 : code9 157 26 = some (0, .getfield 246, [3, 6, 11, 0], .null, []) := rfl
theorem cd157_29 : code9 157 29 = some (0, .ifCond .ne 5, [3, 34], .null, []) := rfl
theorem cd157_32 : code9 157 32 = some (5, .iconst (-1), [1], .int (-1), []) := rfl
theorem cd157_33 : code9 157 33 = some (0, .ireturn, [1, 1], .null, []) := rfl
theorem cd157_34 : code9 157 34 = some (0, .iconst 0, [1], .int 0, []) := rfl
theorem cd157_35 : code9 157 35 = some (0, .istore 4, [2], .null, []) := rfl
theorem cd157_37 : code9 157 37 = some (0, .iconst 0, [1], .int 0, []) := rfl
theorem cd157_38 : code9 157 38 = some (0, .istore 5, [2], .null, []) := rfl
theorem cd157_40 : code9 157 40 = some (7, .iload 5, [2], .null, []) := rfl
theorem cd157_42 : code9 157 42 = some (0, .iload_n 2, [1], .null, []) := rfl
theorem cd157_43 : code9 157 43 = some (0, .if_icmp .ge 65, [3, 108], .null, []) := rfl
theorem cd157_46 : code9 157 46 = some (0, .aload_n 0, [1], .null, []) := rfl
theorem cd157_47 : code9 157 47 = some (0, .getfield 33, [3, 11, 4, 2], .null, []) := rfl
theorem cd157_50 : code9 157 50 = some (0, .aload_n 0, [1], .null, []) := rfl
theorem cd157_51 : code9 157 51 = some (0, .getfield 29, [3, 11, 3, 2], .null, []) := rfl
theorem cd157_54 : code9 157 54 = some (0, .invokevirtual 348, [3, 89, 2, 1, 0, 2, 9, 0], .null, []) := rfl
theorem cd157_57 : code9 157 57 = some (0, .aload_n 0, [1], .null, []) := rfl
theorem cd157_58 : code9 157 58 = some (0, .getfield 73, [3, 11, 11, 2], .null, []) := rfl
theorem cd157_61 : code9 157 61 = some (0, .iload_n 3, [1], .null, []) := rfl
theorem cd157_62 : code9 157 62 = some (0, .iload 5, [2], .null, []) := rfl
theorem cd157_64 : code9 157 64 = some (0, .iadd, [1], .null, []) := rfl
theorem cd157_65 : code9 157 65 = some (0, .putfield 240, [3, 2, 0, 0], .null, []) := rfl
theorem cd157_68 : code9 157 68 = some (0, .aload_n 0, [1], .null, []) := rfl
theorem cd157_69 : code9 157 69 = some (0, .getfield 33, [3, 11, 4, 2], .null, []) := rfl
theorem cd157_72 : code9 157 72 = some (0, .aload_n 0, [1], .null, []) := rfl
theorem cd157_73 : code9 157 73 = some (0, .getfield 19, [3, 11, 1, 2], .null, []) := rfl
theorem cd157_76 : code9 157 76 = some (0, .aload_n 0, [1], .null, []) := rfl
theorem cd157_77 : code9 157 77 = some (0, .getfield 73, [3, 11, 11, 2], .null, []) := rfl
theorem cd157_80 : code9 157 80 = some (0, .bipush 20, [2], .int 20, []) := rfl
theorem cd157_82 : code9 157 82 = some (0, .invokevirtual 249, [3, 97, 4, 1, 1, 6, 9, 0], .null, []) := rfl
theorem cd157_85 : code9 157 85 = some (0, .pop, [1], .null, []) := rfl
theorem cd157_86 : code9 157 86 = some (0, .aload_n 0, [1], .null, []) := rfl
theorem cd157_87 : code9 157 87 = some (0, .getfield 33, [3, 11, 4, 2], .null, []) := rfl
theorem cd157_90 : code9 157 90 = some (0, .getfield 157, [3, 9, 3, 2], .null, []) := rfl
theorem cd157_93 : code9 157 93 = some (0, .iload_n 1, [1], .null, []) := rfl
theorem cd157_94 : code9 157 94 = some (0, .iaload, [1], .null, []) := rfl
theorem cd157_95 : code9 157 95 = some (0, .iconst 2, [1], .int 2, []) := rfl
theorem cd157_96 : code9 157 96 = some (0, .if_icmp .ne 6, [3, 102], .null, []) := rfl
theorem cd157_99 : code9 157 99 = some (0, .iinc 4 1, [3], .int 1, []) := rfl
theorem cd157_102 : code9 157 102 = some (7, .iinc 5 1, [3], .int 1, []) := rfl
theorem cd157_105 : code9 157 105 = some (0, .goto (-65), [3, 40, 6], .null, []) := rfl
theorem cd157_108 : code9 157 108 = some (0, .iload 4, [2], .null, []) := rfl
theorem cd157_110 : code9 157 110 = some (0, .ireturn, [1, 1], .null, []) := rfl
def Hol_odds_40 (N : Nat) (ln sp sn ss : Nat) : Nat → Int32 → Int32 → Int32 → Int32 → Int32 → FI → Option (Int32 × FI)
  | 0 => fun _ _ _ _ _ _ => none
  | n + 1 => fun l1 l2 l3 l4 l5 I => if l2 ≤ l5 then (some (l4, I)) else (Option.bind (State_copy 35 25 I) fun x1 => (Option.bind (some (up2 x1 192 0 (l3 + l5))) fun I2 => (Option.bind (State_passNights N 35 ln 192 20 I2) fun x3 => (if in9 l1 10 then (if (x3.2 39 l1.toNatClampNeg) = 2 then (Hol_odds_40 N ln sp sn ss n l1 l2 l3 (l4 + 1) (l5 + 1) x3.2) else (Hol_odds_40 N ln sp sn ss n l1 l2 l3 l4 (l5 + 1) x3.2)) else none))))
def Hol_odds (N : Nat) (ln sp sn ss : Nat) (l1 : Int32) (l2 : Int32) (l3 : Int32) (I : FI) : Option (Int32 × FI) := if (Land_hasFind ln l1 I) then (if l2 < 1 then (some ((-1), I)) else (if 30 < l2 then (some ((-1), I)) else (if (I ln 11) = 0 then (some ((-1), I)) else (Hol_odds_40 N ln sp sn ss N l1 l2 l3 0 0 I)))) else (some ((-1), I))
set_option maxRecDepth 8000 in
theorem t_Hol_odds_40 {d : Nat} {N : Nat} {ln sp sn ss : Nat} {c : Nat × Nat} {S : Nat → Nat × Nat} {P : Nat → Nat → Option Nat} {r : Int32 × FI} (hd : 4 ≤ (d + 1)) (hw : OH S P ln sp sn ss) : ∀ (n : Nat) (l1 : Int32) (l2 : Int32) (l3 : Int32) (l4 : Int32) (l5 : Int32) (I : FI) (J : FJ), Hol_odds_40 N ln sp sn ss n l1 l2 l3 l4 l5 I = some r → Go (d + 1) M_Hol_odds 40 [some (.ref 0), some (.int l1), some (.int l2), some (.int l3), some (.int l4), some (.int l5)] [] (c, S, I, J, P) (some (.int r.1), false, (c, S, r.2, J, P)) := by
  intro n
  induction n with
  | zero =>
    intro l1 l2 l3 l4 l5 I J h
    cases h
  | succ n ih =>
    intro l1 l2 l3 l4 l5 I J h
    unfold Hol_odds_40 at h
    refine g_iload cd157_40 rfl rfl ?_
    refine g_iload_n cd157_42 rfl rfl ?_
    refine g_icmp_ge cd157_43 rfl (fun hb => ?_) (fun hb => ?_)
    · have h := ifpE hb h
      refine g_iload cd157_108 rfl rfl ?_
      exact g_iret cd157_110 (Or.inl rfl) (by obtain rfl := Option.some.inj h; rfl)
    · have h := ifnE hb h
      refine g_aload_n cd157_46 rfl rfl ?_
      refine g_getP cd157_47 rfl (OH.o hw) (OH.p4 hw) ?_
      refine g_aload_n cd157_50 rfl rfl ?_
      refine g_getP cd157_51 rfl (OH.o hw) (OH.p3 hw) ?_
      obtain ⟨x1, hx, h⟩ := bnd h
      refine g_callVV (L := [some (.ref 35), some (.ref 25)]) cd157_54 rfl rfl rfl rfl rfl (O9.o (OH.q4 hw)) (t_State_copy (by omega) (OH.q4 hw) (OH.q3 hw) hx) ?_
      refine g_aload_n cd157_57 rfl rfl ?_
      refine g_getP cd157_58 rfl (OH.o hw) (OH.p11 hw) ?_
      refine g_iload_n cd157_61 rfl rfl ?_
      refine g_iload cd157_62 rfl rfl ?_
      refine g_iadd cd157_64 rfl ?_
      obtain ⟨I2, e1, h⟩ := bnd h
      refine G_putI cd157_65 rfl (O2.o (OH.q11 hw)) (Option.some.inj e1) ?_
      refine g_aload_n cd157_68 rfl rfl ?_
      refine g_getP cd157_69 rfl (OH.o hw) (OH.p4 hw) ?_
      refine g_aload_n cd157_72 rfl rfl ?_
      refine g_getP cd157_73 rfl (OH.o hw) (OH.p1 hw) ?_
      refine g_aload_n cd157_76 rfl rfl ?_
      refine g_getP cd157_77 rfl (OH.o hw) (OH.p11 hw) ?_
      refine g_bipush cd157_80 rfl ?_
      obtain ⟨x3, hx, h⟩ := bnd h
      refine g_callVI (L := [some (.ref 35), some (.ref ln), some (.ref 192), some (.int 20), none, none]) cd157_82 rfl rfl rfl rfl rfl (O9.o (OH.q4 hw)) (t_State_passNights (by omega) (OH.q4 hw) (OH.q1 hw) (OH.q11 hw) hx) ?_
      refine g_popI cd157_85 rfl ?_
      refine g_aload_n cd157_86 rfl rfl ?_
      refine g_getP cd157_87 rfl (OH.o hw) (OH.p4 hw) ?_
      refine g_getP cd157_90 rfl (O9.o (OH.q4 hw)) (show P 35 3 = some 39 from O9.p3 (OH.q4 hw)) ?_
      refine g_iload_n cd157_93 rfl rfl ?_
      obtain ⟨hg4, h⟩ := grd h
      refine G_iald cd157_94 rfl (show S 39 = (1, 10) from O9.s3 (OH.q4 hw)) hg4 ?_
      refine g_iconst cd157_95 rfl ?_
      refine g_icmp_ne cd157_96 rfl (fun hb => ?_) (fun hb => ?_)
      · have h := ifpE hb h
        refine g_iinc (ls2 := [some (.ref 0), some (.int l1), some (.int l2), some (.int l3), some (.int (l4 + 1)), some (.int l5)]) cd157_99 rfl rfl rfl ?_
        refine g_iinc (ls2 := [some (.ref 0), some (.int l1), some (.int l2), some (.int l3), some (.int (l4 + 1)), some (.int (l5 + 1))]) cd157_102 rfl rfl rfl ?_
        refine g_goto (ls2 := [some (.ref 0), some (.int l1), some (.int l2), some (.int l3), some (.int (l4 + 1)), some (.int (l5 + 1))]) cd157_105 rfl rfl ?_
        exact ih l1 l2 l3 (l4 + 1) (l5 + 1) x3.2 J h
      · have h := ifnE hb h
        refine g_iinc (ls2 := [some (.ref 0), some (.int l1), some (.int l2), some (.int l3), some (.int l4), some (.int (l5 + 1))]) cd157_102 rfl rfl rfl ?_
        refine g_goto (ls2 := [some (.ref 0), some (.int l1), some (.int l2), some (.int l3), some (.int l4), some (.int (l5 + 1))]) cd157_105 rfl rfl ?_
        exact ih l1 l2 l3 l4 (l5 + 1) x3.2 J h
set_option maxRecDepth 8000 in
theorem t_Hol_odds {d : Nat} {N : Nat} {ln sp sn ss : Nat} {c : Nat × Nat} {S : Nat → Nat × Nat} {P : Nat → Nat → Option Nat} {I : FI} {J : FJ} {l1 : Int32} {l2 : Int32} {l3 : Int32} {r : Int32 × FI} (hd : 4 ≤ d) (hw : OH S P ln sp sn ss) (h : Hol_odds N ln sp sn ss l1 l2 l3 I = some r) : Go d M_Hol_odds 0 [some (.ref 0), some (.int l1), some (.int l2), some (.int l3), none, none] [] (c, S, I, J, P) (some (.int r.1), false, (c, S, r.2, J, P)) := by
  obtain ⟨d, rfl⟩ : ∃ e, d = e + 1 := ⟨d - 1, by omega⟩
  unfold Hol_odds at h
  refine g_aload_n cd157_0 rfl rfl ?_
  refine g_getP cd157_1 rfl (OH.o hw) (OH.p1 hw) ?_
  refine g_iload_n cd157_4 rfl rfl ?_
  refine g_callVZ (L := [some (.ref ln), some (.int l1)]) cd157_5 rfl rfl rfl rfl rfl (O6.o (OH.q1 hw)) (t_Land_hasFind (by omega) (OH.q1 hw) rfl) ?_
  refine g_if_eq cd157_8 rfl (fun hb => ?_) (fun hb => ?_)
  · have h := ifnE (b2i_f hb) h
    refine g_iconst cd157_32 rfl ?_
    exact g_iret cd157_33 (Or.inl rfl) (by obtain rfl := Option.some.inj h; rfl)
  · have h := ifpE (b2i_t hb) h
    refine g_iload_n cd157_11 rfl rfl ?_
    refine g_iconst cd157_12 rfl ?_
    refine g_icmp_lt cd157_13 rfl (fun hb => ?_) (fun hb => ?_)
    · have h := ifpE hb h
      refine g_iconst cd157_32 rfl ?_
      exact g_iret cd157_33 (Or.inl rfl) (by obtain rfl := Option.some.inj h; rfl)
    · have h := ifnE hb h
      refine g_iload_n cd157_16 rfl rfl ?_
      refine g_bipush cd157_17 rfl ?_
      refine g_icmp_gt cd157_19 rfl (fun hb => ?_) (fun hb => ?_)
      · have h := ifpE hb h
        refine g_iconst cd157_32 rfl ?_
        exact g_iret cd157_33 (Or.inl rfl) (by obtain rfl := Option.some.inj h; rfl)
      · have h := ifnE hb h
        refine g_aload_n cd157_22 rfl rfl ?_
        refine g_getP cd157_23 rfl (OH.o hw) (OH.p1 hw) ?_
        refine g_getI cd157_26 rfl (O6.o (OH.q1 hw)) ?_
        refine g_if_ne cd157_29 rfl (fun hb => ?_) (fun hb => ?_)
        · have h := ifpE hb h
          refine g_iconst cd157_32 rfl ?_
          exact g_iret cd157_33 (Or.inl rfl) (by obtain rfl := Option.some.inj h; rfl)
        · have h := ifnE hb h
          refine g_iconst cd157_34 rfl ?_
          refine g_istore (ls2 := [some (.ref 0), some (.int l1), some (.int l2), some (.int l3), some (.int 0), none]) cd157_35 rfl rfl ?_
          refine g_iconst cd157_37 rfl ?_
          refine g_istore (ls2 := [some (.ref 0), some (.int l1), some (.int l2), some (.int l3), some (.int 0), some (.int 0)]) cd157_38 rfl rfl ?_
          exact t_Hol_odds_40 hd hw _ l1 l2 l3 0 0 I J h
/-! HiddenOrLost.book(I)I -/
theorem cd158_0 : code9 158 0 = some (0, .iload_n 1, [1], .null, []) := rfl
theorem cd158_1 : code9 158 1 = some (0, .ifCond .eq 12, [3, 13], .null, []) := rfl
theorem cd158_4 : code9 158 4 = some (0, .iload_n 1, [1], .null, []) := rfl
theorem cd158_5 : code9 158 5 = some (0, .iconst 1, [1], .int 1, []) := rfl
theorem cd158_6 : code9 158 6 = some (0, .if_icmp .eq 7, [3, 13], .null, []) := rfl
theorem cd158_9 : code9 158 9 = some (0, .sipush (-1000), [3], .int (-1000), []) := rfl
theorem cd158_12 : code9 158 12 = some (0, .ireturn, [1, 1], .null, []) := rfl
theorem cd158_13 : code9 158 13 = some (3, .aload_n 0, [1], .null, []) := rfl
theorem cd158_14 : code9 158 14 = some (0, .getfield 49, [3, 11, 7, 2], .null, []) := rfl
theorem cd158_17 : code9 158 17 = some (0, .aload_n 0, [1], .null, []) := rfl
theorem cd158_18 : code9 158 18 = some (0, .getfield 10, [3, 11, 0, 2], .null, []) := rfl
theorem cd158_21 : code9 158 21 = some (0, .aload_n 0, [1], .null, []) := rfl
theorem cd158_22 : code9 158 22 = some (0, .getfield 19, [3, 11, 1, 2], .null, []) := rfl
theorem cd158_25 : code9 158 25 = some (0, .invokevirtual 351, [3, 10, 3, 1, 3, 4, 1, 0], .null, []) := rfl
theorem cd158_28 : code9 158 28 = some (0, .istore_n 2, [1], .null, []) := rfl
theorem cd158_29 : code9 158 29 = some (0, .aload_n 0, [1], .null, []) := rfl
theorem cd158_30 : code9 158 30 = some (0, .getfield 10, [3, 11, 0, 2], .null, []) := rfl
theorem cd158_33 : code9 158 33 = some (0, .iconst 0, [1], .int 0, []) := rfl
theorem cd158_34 : code9 158 34 = some (0, .putfield 115, [3, 10, 5, 0], .null, []) := rfl
theorem cd158_37 : code9 158 37 = some (0, .aload_n 0, [1], .null, []) := rfl
theorem cd158_38 : code9 158 38 = some (0, .aload_n 0, [1], .null, []) := rfl
theorem cd158_39 : code9 158 39 = some (0, .getfield 10, [3, 11, 0, 2], .null, []) := rfl
theorem cd158_42 : code9 158 42 = some (0, .getfield 126, [3, 10, 14, 0], .null, []) := rfl
theorem cd158_45 : code9 158 45 = some (0, .putfield 105, [3, 11, 17, 0], .null, []) := rfl
theorem cd158_48 : code9 158 48 = some (0, .iload_n 2, [1], .null, []) := rfl
theorem cd158_49 : code9 158 49 = some (0, .ifCond .ne 14, [3, 63], .null, []) := rfl
theorem cd158_52 : code9 158 52 = some (0, .bipush (-2), [2], .int (-2), []) := rfl
theorem cd158_54 : code9 158 54 = some (0, .aload_n 0, [1], .null, []) := rfl
theorem cd158_55 : code9 158 55 = some (0, .getfield 10, [3, 11, 0, 2], .null, []) := rfl
theorem cd158_58 : code9 158 58 = some (0, .getfield 127, [3, 10, 15, 0], .null, []) := rfl
theorem cd158_61 : code9 158 61 = some (0, .isub, [1], .null, []) := rfl
theorem cd158_62 : code9 158 62 = some (0, .ireturn, [1, 1], .null, []) := rfl
theorem cd158_63 : code9 158 63 = some (0, .aload_n 0, [1], .null, []) := rfl
theorem cd158_64 : code9 158 64 = some (0, .getfield 33, [3, 11, 4, 2], .null, []) := rfl
theorem cd158_67 : code9 158 67 = some (0, .aload_n 0, [1], .null, []) := rfl
theorem cd158_68 : code9 158 68 = some (0, .getfield 29, [3, 11, 3, 2], .null, []) := rfl
theorem cd158_71 : code9 158 71 = some (0, .invokevirtual 348, [3, 89, 2, 1, 0, 2, 9, 0], .null, []) := rfl
theorem cd158_74 : code9 158 74 = some (0, .aload_n 0, [1], .null, []) := rfl
theorem cd158_75 : code9 158 75 = some (0, .getfield 49, [3, 11, 7, 2], .null, []) := rfl
theorem cd158_78 : code9 158 78 = some (0, .aload_n 0, [1], .null, []) := rfl
theorem cd158_79 : code9 158 79 = some (0, .getfield 19, [3, 11, 1, 2], .null, []) := rfl
theorem cd158_82 : code9 158 82 = some (0, .aload_n 0, [1], .null, []) := rfl
theorem cd158_83 : code9 158 83 = some (0, .getfield 33, [3, 11, 4, 2], .null, []) := rfl
theorem cd158_86 : code9 158 86 = some (0, .aload_n 0, [1], .null, []) := rfl
theorem cd158_87 : code9 158 87 = some (0, .getfield 73, [3, 11, 11, 2], .null, []) := rfl
theorem cd158_90 : code9 158 90 = some (0, .invokevirtual 354, [3, 17, 4, 1, 1, 5, 1, 0], .null, []) := rfl
theorem cd158_93 : code9 158 93 = some (0, .istore_n 3, [1], .null, []) := rfl
theorem cd158_94 : code9 158 94 = some (0, .aload_n 0, [1], .null, []) := rfl
theorem cd158_95 : code9 158 95 = some (0, .getfield 98, [3, 11, 15, 2], .null, []) := rfl
theorem cd158_98 : code9 158 98 = some (0, .iconst 0, [1], .int 0, []) := rfl
theorem cd158_99 : code9 158 99 = some (0, .aload_n 0, [1], .null, []) := rfl
theorem cd158_100 : code9 158 100 = some (0, .getfield 49, [3, 11, 7, 2], .null, []) := rfl
theorem cd158_103 : code9 158 103 = some (0, .getfield 358, [3, 1, 5, 0], .null, []) := rfl
theorem cd158_106 : code9 158 106 = some (0, .iastore, [1], .null, []) := rfl
theorem cd158_107 : code9 158 107 = some (0, .aload_n 0, [1], .null, []) := rfl
theorem cd158_108 : code9 158 108 = some (0, .getfield 98, [3, 11, 15, 2], .null, []) := rfl
theorem cd158_111 : code9 158 111 = some (0, .iconst 1, [1], .int 1, []) := rfl
theorem cd158_112 : code9 158 112 = some (0, .iload_n 3, [1], .null, []) := rfl
theorem cd158_113 : code9 158 113 = some (0, .iastore, [1], .null, []) := rfl
theorem cd158_114 : code9 158 114 = some (0, .aload_n 0, [1], .null, []) := rfl
theorem cd158_115 : code9 158 115 = some (0, .getfield 98, [3, 11, 15, 2], .null, []) := rfl
theorem cd158_118 : code9 158 118 = some (0, .iconst 2, [1], .int 2, []) := rfl
theorem cd158_119 : code9 158 119 = some (0, .aload_n 0, [1], .null, []) := rfl
theorem cd158_120 : code9 158 120 = some (0, .getfield 33, [3, 11, 4, 2], .null, []) := rfl
theorem cd158_123 : code9 158 123 = some (0, .getfield 197, [3, 9, 9, 0], .null, []) := rfl
theorem cd158_126 : code9 158 126 = some (0, .iastore, [1], .null, []) := rfl
theorem cd158_127 : code9 158 127 = some (0, .aload_n 0, [1], .null, []) := rfl
theorem cd158_128 : code9 158 128 = some (0, .getfield 98, [3, 11, 15, 2], .null, []) := rfl
theorem cd158_131 : code9 158 131 = some (0, .iconst 3, [1], .int 3, []) := rfl
theorem cd158_132 : code9 158 132 = some (0, .aload_n 0, [1], .null, []) := rfl
theorem cd158_133 : code9 158 133 = some (0, .getfield 33, [3, 11, 4, 2], .null, []) := rfl
theorem cd158_136 : code9 158 136 = some (0, .aload_n 0, [1], .null, []) := rfl
theorem cd158_137 : code9 158 137 = some (0, .getfield 19, [3, 11, 1, 2], .null, []) := rfl
theorem cd158_140 : code9 158 140 = some (0, .iconst 2, [1], .int 2, []) := rfl
theorem cd158_141 : code9 158 141 = some (0, .invokevirtual 200, [3, 86, 3, 1, 1, 5, 9, 0], .null, []) := rfl
theorem cd158_144 : code9 158 144 = some (0, .iastore, [1], .null, []) := rfl
theorem cd158_145 : code9 158 145 = some (0, .iload_n 1, [1], .null, []) := rfl
theorem cd158_146 : code9 158 146 = some (0, .iconst 1, [1], .int 1, []) := rfl
theorem cd158_147 : code9 158 147 = some (0, .if_icmp .ne 29, [3, 176], .null, []) := rfl
theorem cd158_150 : code9 158 150 = some (0, .iload_n 3, [1], .null, []) := rfl
theorem cd158_151 : code9 158 151 = some (0, .ifCond .le 25, [3, 176], .null, []) := rfl
theorem cd158_154 : code9 158 154 = some (0, .aload_n 0, [1], .null, []) := rfl
theorem cd158_155 : code9 158 155 = some (0, .getfield 56, [3, 11, 8, 2], .null, []) := rfl
theorem cd158_158 : code9 158 158 = some (0, .aload_n 0, [1], .null, []) := rfl
theorem cd158_159 : code9 158 159 = some (0, .getfield 29, [3, 11, 3, 2], .null, []) := rfl
theorem cd158_162 : code9 158 162 = some (0, .invokevirtual 217, [3, 25, 2, 1, 0, 3, 3, 0], .null, []) := rfl
theorem cd158_165 : code9 158 165 = some (0, .aload_n 0, [1], .null, []) := rfl
theorem cd158_166 : code9 158 166 = some (0, .getfield 29, [3, 11, 3, 2], .null, []) := rfl
theorem cd158_169 : code9 158 169 = some (0, .aload_n 0, [1], .null, []) := rfl
theorem cd158_170 : code9 158 170 = some (0, .getfield 33, [3, 11, 4, 2], .null, []) := rfl
theorem cd158_173 : code9 158 173 = some (0, .invokevirtual 348, [3, 89, 2, 1, 0, 2, 9, 0], .null, []) := rfl
theorem cd158_176 : code9 158 176 = some (5, .aload_n 0, [1], .null, []) := rfl
theorem cd158_177 : code9 158 177 = some (0, .getfield 49, [3, 11, 7, 2], .null, []) := rfl
theorem cd158_180 : code9 158 180 = some (0, .getfield 358, [3, 1, 5, 0], .null, []) := rfl
theorem cd158_183 : code9 158 183 = some (0, .ifCond .ne 7, [3, 190], .null, []) := rfl
theorem cd158_186 : code9 158 186 = some (0, .iconst (-1), [1], .int (-1), []) := rfl
theorem cd158_187 : code9 158 187 = some (0, .goto 4, [3, 191, 4], .null, []) := rfl
theorem cd158_190 : code9 158 190 = some (0, .iload_n 3, [1], .null, []) := rfl
theorem cd158_191 : code9 158 191 = some (5, .ireturn, [1, 1], .null, []) := rfl
def Hol_book (N : Nat) (ln sp sn ss : Nat) (l1 : Int32) (I : FI) (J : FJ) : Option (Int32 × FI × FJ) := if l1 = 0 then (Option.bind (Book_read N 55 1 ln I J) fun x1 => (Option.bind (some (up2 x1.2.1 1 5 (0 : Int32))) fun I2 => (Option.bind (some (up2 I2 0 17 (I2 1 14))) fun I3 => (if x1.1 then (Option.bind (State_copy 35 25 I3) fun x4 => (Option.bind (Book_live N 55 ln 35 192 x4) fun x5 => (Option.bind (some (up2 x5.2 202 ((0 : Int32).toNatClampNeg) (x5.2 55 5))) fun I6 => (Option.bind (some (up2 I6 202 ((1 : Int32).toNatClampNeg) x5.1)) fun I7 => (Option.bind (some (up2 I7 202 ((2 : Int32).toNatClampNeg) (I7 35 9))) fun I8 => (Option.bind (State_bitsOf N 35 ln 2 I8) fun x9 => (Option.bind (some (up2 I8 202 ((3 : Int32).toNatClampNeg) x9)) fun I10 => (if l1 = 1 then (if x5.1 ≤ 0 then (if (I10 55 5) = 0 then (some ((-1), I10, x1.2.2)) else (some (x5.1, I10, x1.2.2))) else (Option.bind (History_keep 60 25 I10) fun x11 => (Option.bind (State_copy 25 35 x11) fun x12 => (if (x12 55 5) = 0 then (some ((-1), x12, x1.2.2)) else (some (x5.1, x12, x1.2.2)))))) else (if (I10 55 5) = 0 then (some ((-1), I10, x1.2.2)) else (some (x5.1, I10, x1.2.2))))))))))) else (some ((-2) - (I3 1 15), I3, x1.2.2)))))) else (if l1 = 1 then (Option.bind (Book_read N 55 1 ln I J) fun x13 => (Option.bind (some (up2 x13.2.1 1 5 (0 : Int32))) fun I14 => (Option.bind (some (up2 I14 0 17 (I14 1 14))) fun I15 => (if x13.1 then (Option.bind (State_copy 35 25 I15) fun x16 => (Option.bind (Book_live N 55 ln 35 192 x16) fun x17 => (Option.bind (some (up2 x17.2 202 ((0 : Int32).toNatClampNeg) (x17.2 55 5))) fun I18 => (Option.bind (some (up2 I18 202 ((1 : Int32).toNatClampNeg) x17.1)) fun I19 => (Option.bind (some (up2 I19 202 ((2 : Int32).toNatClampNeg) (I19 35 9))) fun I20 => (Option.bind (State_bitsOf N 35 ln 2 I20) fun x21 => (Option.bind (some (up2 I20 202 ((3 : Int32).toNatClampNeg) x21)) fun I22 => (if l1 = 1 then (if x17.1 ≤ 0 then (if (I22 55 5) = 0 then (some ((-1), I22, x13.2.2)) else (some (x17.1, I22, x13.2.2))) else (Option.bind (History_keep 60 25 I22) fun x23 => (Option.bind (State_copy 25 35 x23) fun x24 => (if (x24 55 5) = 0 then (some ((-1), x24, x13.2.2)) else (some (x17.1, x24, x13.2.2)))))) else (if (I22 55 5) = 0 then (some ((-1), I22, x13.2.2)) else (some (x17.1, I22, x13.2.2))))))))))) else (some ((-2) - (I15 1 15), I15, x13.2.2)))))) else (some ((-1000), I, J)))
set_option maxRecDepth 8000 in
theorem t_Hol_book {d : Nat} {N : Nat} {ln sp sn ss : Nat} {c : Nat × Nat} {S : Nat → Nat × Nat} {P : Nat → Nat → Option Nat} {I : FI} {J : FJ} {l1 : Int32} {r : Int32 × FI × FJ} (hd : 6 ≤ d) (hw : OH S P ln sp sn ss) (h : Hol_book N ln sp sn ss l1 I J = some r) : Go d M_Hol_book 0 [some (.ref 0), some (.int l1), none, none] [] (c, S, I, J, P) (some (.int r.1), false, (c, S, r.2.1, r.2.2, P)) := by
  obtain ⟨d, rfl⟩ : ∃ e, d = e + 1 := ⟨d - 1, by omega⟩
  unfold Hol_book at h
  refine g_iload_n cd158_0 rfl rfl ?_
  refine g_if_eq cd158_1 rfl (fun hb => ?_) (fun hb => ?_)
  · have h := ifpE hb h
    refine g_aload_n cd158_13 rfl rfl ?_
    refine g_getP cd158_14 rfl (OH.o hw) (OH.p7 hw) ?_
    refine g_aload_n cd158_17 rfl rfl ?_
    refine g_getP cd158_18 rfl (OH.o hw) (OH.p0 hw) ?_
    refine g_aload_n cd158_21 rfl rfl ?_
    refine g_getP cd158_22 rfl (OH.o hw) (OH.p1 hw) ?_
    obtain ⟨x1, hx, h⟩ := bnd h
    refine g_callVZ (L := [some (.ref 55), some (.ref 1), some (.ref ln), none]) cd158_25 rfl rfl rfl rfl rfl (O1.o (OH.q7 hw)) (t_Book_read (by omega) (OH.q7 hw) (OH.q0 hw) (OH.q1 hw) hx) ?_
    refine g_istore_n (ls2 := [some (.ref 0), some (.int l1), some (.int (b2i x1.1)), none]) cd158_28 rfl rfl ?_
    refine g_aload_n cd158_29 rfl rfl ?_
    refine g_getP cd158_30 rfl (OH.o hw) (OH.p0 hw) ?_
    refine g_iconst cd158_33 rfl ?_
    obtain ⟨I2, e1, h⟩ := bnd h
    refine G_putI cd158_34 rfl (O10.o (OH.q0 hw)) (Option.some.inj e1) ?_
    refine g_aload_n cd158_37 rfl rfl ?_
    refine g_aload_n cd158_38 rfl rfl ?_
    refine g_getP cd158_39 rfl (OH.o hw) (OH.p0 hw) ?_
    refine g_getI cd158_42 rfl (O10.o (OH.q0 hw)) ?_
    obtain ⟨I3, e1, h⟩ := bnd h
    refine G_putI cd158_45 rfl (OH.o hw) (Option.some.inj e1) ?_
    refine g_iload_n cd158_48 rfl rfl ?_
    refine g_if_ne cd158_49 rfl (fun hb => ?_) (fun hb => ?_)
    · have h := ifnE (b2i_f hb) h
      refine g_bipush cd158_52 rfl ?_
      refine g_aload_n cd158_54 rfl rfl ?_
      refine g_getP cd158_55 rfl (OH.o hw) (OH.p0 hw) ?_
      refine g_getI cd158_58 rfl (O10.o (OH.q0 hw)) ?_
      refine g_isub cd158_61 rfl ?_
      exact g_iret cd158_62 (Or.inl rfl) (by obtain rfl := Option.some.inj h; rfl)
    · have h := ifpE (b2i_t hb) h
      refine g_aload_n cd158_63 rfl rfl ?_
      refine g_getP cd158_64 rfl (OH.o hw) (OH.p4 hw) ?_
      refine g_aload_n cd158_67 rfl rfl ?_
      refine g_getP cd158_68 rfl (OH.o hw) (OH.p3 hw) ?_
      obtain ⟨x4, hx, h⟩ := bnd h
      refine g_callVV (L := [some (.ref 35), some (.ref 25)]) cd158_71 rfl rfl rfl rfl rfl (O9.o (OH.q4 hw)) (t_State_copy (by omega) (OH.q4 hw) (OH.q3 hw) hx) ?_
      refine g_aload_n cd158_74 rfl rfl ?_
      refine g_getP cd158_75 rfl (OH.o hw) (OH.p7 hw) ?_
      refine g_aload_n cd158_78 rfl rfl ?_
      refine g_getP cd158_79 rfl (OH.o hw) (OH.p1 hw) ?_
      refine g_aload_n cd158_82 rfl rfl ?_
      refine g_getP cd158_83 rfl (OH.o hw) (OH.p4 hw) ?_
      refine g_aload_n cd158_86 rfl rfl ?_
      refine g_getP cd158_87 rfl (OH.o hw) (OH.p11 hw) ?_
      obtain ⟨x5, hx, h⟩ := bnd h
      refine g_callVI (L := [some (.ref 55), some (.ref ln), some (.ref 35), some (.ref 192), none]) cd158_90 rfl rfl rfl rfl rfl (O1.o (OH.q7 hw)) (t_Book_live (by omega) (OH.q7 hw) (OH.q1 hw) (OH.q4 hw) (OH.q11 hw) hx) ?_
      refine g_istore_n (ls2 := [some (.ref 0), some (.int l1), some (.int (b2i x1.1)), some (.int x5.1)]) cd158_93 rfl rfl ?_
      refine g_aload_n cd158_94 rfl rfl ?_
      refine g_getP cd158_95 rfl (OH.o hw) (OH.p15 hw) ?_
      refine g_iconst cd158_98 rfl ?_
      refine g_aload_n cd158_99 rfl rfl ?_
      refine g_getP cd158_100 rfl (OH.o hw) (OH.p7 hw) ?_
      refine g_getI cd158_103 rfl (O1.o (OH.q7 hw)) ?_
      obtain ⟨I6, e1, h⟩ := bnd h
      refine G_iast cd158_106 rfl (OH.s15 hw) (by decide) (Option.some.inj e1) ?_
      refine g_aload_n cd158_107 rfl rfl ?_
      refine g_getP cd158_108 rfl (OH.o hw) (OH.p15 hw) ?_
      refine g_iconst cd158_111 rfl ?_
      refine g_iload_n cd158_112 rfl rfl ?_
      obtain ⟨I7, e1, h⟩ := bnd h
      refine G_iast cd158_113 rfl (OH.s15 hw) (by decide) (Option.some.inj e1) ?_
      refine g_aload_n cd158_114 rfl rfl ?_
      refine g_getP cd158_115 rfl (OH.o hw) (OH.p15 hw) ?_
      refine g_iconst cd158_118 rfl ?_
      refine g_aload_n cd158_119 rfl rfl ?_
      refine g_getP cd158_120 rfl (OH.o hw) (OH.p4 hw) ?_
      refine g_getI cd158_123 rfl (O9.o (OH.q4 hw)) ?_
      obtain ⟨I8, e1, h⟩ := bnd h
      refine G_iast cd158_126 rfl (OH.s15 hw) (by decide) (Option.some.inj e1) ?_
      refine g_aload_n cd158_127 rfl rfl ?_
      refine g_getP cd158_128 rfl (OH.o hw) (OH.p15 hw) ?_
      refine g_iconst cd158_131 rfl ?_
      refine g_aload_n cd158_132 rfl rfl ?_
      refine g_getP cd158_133 rfl (OH.o hw) (OH.p4 hw) ?_
      refine g_aload_n cd158_136 rfl rfl ?_
      refine g_getP cd158_137 rfl (OH.o hw) (OH.p1 hw) ?_
      refine g_iconst cd158_140 rfl ?_
      obtain ⟨x9, hx, h⟩ := bnd h
      refine g_callVI (L := [some (.ref 35), some (.ref ln), some (.int 2), none, none]) cd158_141 rfl rfl rfl rfl rfl (O9.o (OH.q4 hw)) (t_State_bitsOf (by omega) (OH.q4 hw) (OH.q1 hw) hx) ?_
      obtain ⟨I10, e1, h⟩ := bnd h
      refine G_iast cd158_144 rfl (OH.s15 hw) (by decide) (Option.some.inj e1) ?_
      refine g_iload_n cd158_145 rfl rfl ?_
      refine g_iconst cd158_146 rfl ?_
      refine g_icmp_ne cd158_147 rfl (fun hb => ?_) (fun hb => ?_)
      · have h := ifpE hb h
        refine g_iload_n cd158_150 rfl rfl ?_
        refine g_if_le cd158_151 rfl (fun hb => ?_) (fun hb => ?_)
        · have h := ifpE hb h
          refine g_aload_n cd158_176 rfl rfl ?_
          refine g_getP cd158_177 rfl (OH.o hw) (OH.p7 hw) ?_
          refine g_getI cd158_180 rfl (O1.o (OH.q7 hw)) ?_
          refine g_if_ne cd158_183 rfl (fun hb => ?_) (fun hb => ?_)
          · have h := ifpE hb h
            refine g_iconst cd158_186 rfl ?_
            refine g_goto (ls2 := [some (.ref 0), some (.int l1), some (.int (b2i x1.1)), some (.int x5.1)]) cd158_187 rfl rfl ?_
            exact g_iret cd158_191 (Or.inl rfl) (by obtain rfl := Option.some.inj h; rfl)
          · have h := ifnE hb h
            refine g_iload_n cd158_190 rfl rfl ?_
            exact g_iret cd158_191 (Or.inl rfl) (by obtain rfl := Option.some.inj h; rfl)
        · have h := ifnE hb h
          refine g_aload_n cd158_154 rfl rfl ?_
          refine g_getP cd158_155 rfl (OH.o hw) (OH.p8 hw) ?_
          refine g_aload_n cd158_158 rfl rfl ?_
          refine g_getP cd158_159 rfl (OH.o hw) (OH.p3 hw) ?_
          obtain ⟨x11, hx, h⟩ := bnd h
          refine g_callVV (L := [some (.ref 60), some (.ref 25), none]) cd158_162 rfl rfl rfl rfl rfl (O3.o (OH.q8 hw)) (t_History_keep (by omega) (OH.q8 hw) (OH.q3 hw) hx) ?_
          refine g_aload_n cd158_165 rfl rfl ?_
          refine g_getP cd158_166 rfl (OH.o hw) (OH.p3 hw) ?_
          refine g_aload_n cd158_169 rfl rfl ?_
          refine g_getP cd158_170 rfl (OH.o hw) (OH.p4 hw) ?_
          obtain ⟨x12, hx, h⟩ := bnd h
          refine g_callVV (L := [some (.ref 25), some (.ref 35)]) cd158_173 rfl rfl rfl rfl rfl (O9.o (OH.q3 hw)) (t_State_copy (by omega) (OH.q3 hw) (OH.q4 hw) hx) ?_
          refine g_aload_n cd158_176 rfl rfl ?_
          refine g_getP cd158_177 rfl (OH.o hw) (OH.p7 hw) ?_
          refine g_getI cd158_180 rfl (O1.o (OH.q7 hw)) ?_
          refine g_if_ne cd158_183 rfl (fun hb => ?_) (fun hb => ?_)
          · have h := ifpE hb h
            refine g_iconst cd158_186 rfl ?_
            refine g_goto (ls2 := [some (.ref 0), some (.int l1), some (.int (b2i x1.1)), some (.int x5.1)]) cd158_187 rfl rfl ?_
            exact g_iret cd158_191 (Or.inl rfl) (by obtain rfl := Option.some.inj h; rfl)
          · have h := ifnE hb h
            refine g_iload_n cd158_190 rfl rfl ?_
            exact g_iret cd158_191 (Or.inl rfl) (by obtain rfl := Option.some.inj h; rfl)
      · have h := ifnE hb h
        refine g_aload_n cd158_176 rfl rfl ?_
        refine g_getP cd158_177 rfl (OH.o hw) (OH.p7 hw) ?_
        refine g_getI cd158_180 rfl (O1.o (OH.q7 hw)) ?_
        refine g_if_ne cd158_183 rfl (fun hb => ?_) (fun hb => ?_)
        · have h := ifpE hb h
          refine g_iconst cd158_186 rfl ?_
          refine g_goto (ls2 := [some (.ref 0), some (.int l1), some (.int (b2i x1.1)), some (.int x5.1)]) cd158_187 rfl rfl ?_
          exact g_iret cd158_191 (Or.inl rfl) (by obtain rfl := Option.some.inj h; rfl)
        · have h := ifnE hb h
          refine g_iload_n cd158_190 rfl rfl ?_
          exact g_iret cd158_191 (Or.inl rfl) (by obtain rfl := Option.some.inj h; rfl)
  · have h := ifnE hb h
    refine g_iload_n cd158_4 rfl rfl ?_
    refine g_iconst cd158_5 rfl ?_
    refine g_icmp_eq cd158_6 rfl (fun hb => ?_) (fun hb => ?_)
    · have h := ifpE hb h
      refine g_aload_n cd158_13 rfl rfl ?_
      refine g_getP cd158_14 rfl (OH.o hw) (OH.p7 hw) ?_
      refine g_aload_n cd158_17 rfl rfl ?_
      refine g_getP cd158_18 rfl (OH.o hw) (OH.p0 hw) ?_
      refine g_aload_n cd158_21 rfl rfl ?_
      refine g_getP cd158_22 rfl (OH.o hw) (OH.p1 hw) ?_
      obtain ⟨x13, hx, h⟩ := bnd h
      refine g_callVZ (L := [some (.ref 55), some (.ref 1), some (.ref ln), none]) cd158_25 rfl rfl rfl rfl rfl (O1.o (OH.q7 hw)) (t_Book_read (by omega) (OH.q7 hw) (OH.q0 hw) (OH.q1 hw) hx) ?_
      refine g_istore_n (ls2 := [some (.ref 0), some (.int l1), some (.int (b2i x13.1)), none]) cd158_28 rfl rfl ?_
      refine g_aload_n cd158_29 rfl rfl ?_
      refine g_getP cd158_30 rfl (OH.o hw) (OH.p0 hw) ?_
      refine g_iconst cd158_33 rfl ?_
      obtain ⟨I14, e1, h⟩ := bnd h
      refine G_putI cd158_34 rfl (O10.o (OH.q0 hw)) (Option.some.inj e1) ?_
      refine g_aload_n cd158_37 rfl rfl ?_
      refine g_aload_n cd158_38 rfl rfl ?_
      refine g_getP cd158_39 rfl (OH.o hw) (OH.p0 hw) ?_
      refine g_getI cd158_42 rfl (O10.o (OH.q0 hw)) ?_
      obtain ⟨I15, e1, h⟩ := bnd h
      refine G_putI cd158_45 rfl (OH.o hw) (Option.some.inj e1) ?_
      refine g_iload_n cd158_48 rfl rfl ?_
      refine g_if_ne cd158_49 rfl (fun hb => ?_) (fun hb => ?_)
      · have h := ifnE (b2i_f hb) h
        refine g_bipush cd158_52 rfl ?_
        refine g_aload_n cd158_54 rfl rfl ?_
        refine g_getP cd158_55 rfl (OH.o hw) (OH.p0 hw) ?_
        refine g_getI cd158_58 rfl (O10.o (OH.q0 hw)) ?_
        refine g_isub cd158_61 rfl ?_
        exact g_iret cd158_62 (Or.inl rfl) (by obtain rfl := Option.some.inj h; rfl)
      · have h := ifpE (b2i_t hb) h
        refine g_aload_n cd158_63 rfl rfl ?_
        refine g_getP cd158_64 rfl (OH.o hw) (OH.p4 hw) ?_
        refine g_aload_n cd158_67 rfl rfl ?_
        refine g_getP cd158_68 rfl (OH.o hw) (OH.p3 hw) ?_
        obtain ⟨x16, hx, h⟩ := bnd h
        refine g_callVV (L := [some (.ref 35), some (.ref 25)]) cd158_71 rfl rfl rfl rfl rfl (O9.o (OH.q4 hw)) (t_State_copy (by omega) (OH.q4 hw) (OH.q3 hw) hx) ?_
        refine g_aload_n cd158_74 rfl rfl ?_
        refine g_getP cd158_75 rfl (OH.o hw) (OH.p7 hw) ?_
        refine g_aload_n cd158_78 rfl rfl ?_
        refine g_getP cd158_79 rfl (OH.o hw) (OH.p1 hw) ?_
        refine g_aload_n cd158_82 rfl rfl ?_
        refine g_getP cd158_83 rfl (OH.o hw) (OH.p4 hw) ?_
        refine g_aload_n cd158_86 rfl rfl ?_
        refine g_getP cd158_87 rfl (OH.o hw) (OH.p11 hw) ?_
        obtain ⟨x17, hx, h⟩ := bnd h
        refine g_callVI (L := [some (.ref 55), some (.ref ln), some (.ref 35), some (.ref 192), none]) cd158_90 rfl rfl rfl rfl rfl (O1.o (OH.q7 hw)) (t_Book_live (by omega) (OH.q7 hw) (OH.q1 hw) (OH.q4 hw) (OH.q11 hw) hx) ?_
        refine g_istore_n (ls2 := [some (.ref 0), some (.int l1), some (.int (b2i x13.1)), some (.int x17.1)]) cd158_93 rfl rfl ?_
        refine g_aload_n cd158_94 rfl rfl ?_
        refine g_getP cd158_95 rfl (OH.o hw) (OH.p15 hw) ?_
        refine g_iconst cd158_98 rfl ?_
        refine g_aload_n cd158_99 rfl rfl ?_
        refine g_getP cd158_100 rfl (OH.o hw) (OH.p7 hw) ?_
        refine g_getI cd158_103 rfl (O1.o (OH.q7 hw)) ?_
        obtain ⟨I18, e1, h⟩ := bnd h
        refine G_iast cd158_106 rfl (OH.s15 hw) (by decide) (Option.some.inj e1) ?_
        refine g_aload_n cd158_107 rfl rfl ?_
        refine g_getP cd158_108 rfl (OH.o hw) (OH.p15 hw) ?_
        refine g_iconst cd158_111 rfl ?_
        refine g_iload_n cd158_112 rfl rfl ?_
        obtain ⟨I19, e1, h⟩ := bnd h
        refine G_iast cd158_113 rfl (OH.s15 hw) (by decide) (Option.some.inj e1) ?_
        refine g_aload_n cd158_114 rfl rfl ?_
        refine g_getP cd158_115 rfl (OH.o hw) (OH.p15 hw) ?_
        refine g_iconst cd158_118 rfl ?_
        refine g_aload_n cd158_119 rfl rfl ?_
        refine g_getP cd158_120 rfl (OH.o hw) (OH.p4 hw) ?_
        refine g_getI cd158_123 rfl (O9.o (OH.q4 hw)) ?_
        obtain ⟨I20, e1, h⟩ := bnd h
        refine G_iast cd158_126 rfl (OH.s15 hw) (by decide) (Option.some.inj e1) ?_
        refine g_aload_n cd158_127 rfl rfl ?_
        refine g_getP cd158_128 rfl (OH.o hw) (OH.p15 hw) ?_
        refine g_iconst cd158_131 rfl ?_
        refine g_aload_n cd158_132 rfl rfl ?_
        refine g_getP cd158_133 rfl (OH.o hw) (OH.p4 hw) ?_
        refine g_aload_n cd158_136 rfl rfl ?_
        refine g_getP cd158_137 rfl (OH.o hw) (OH.p1 hw) ?_
        refine g_iconst cd158_140 rfl ?_
        obtain ⟨x21, hx, h⟩ := bnd h
        refine g_callVI (L := [some (.ref 35), some (.ref ln), some (.int 2), none, none]) cd158_141 rfl rfl rfl rfl rfl (O9.o (OH.q4 hw)) (t_State_bitsOf (by omega) (OH.q4 hw) (OH.q1 hw) hx) ?_
        obtain ⟨I22, e1, h⟩ := bnd h
        refine G_iast cd158_144 rfl (OH.s15 hw) (by decide) (Option.some.inj e1) ?_
        refine g_iload_n cd158_145 rfl rfl ?_
        refine g_iconst cd158_146 rfl ?_
        refine g_icmp_ne cd158_147 rfl (fun hb => ?_) (fun hb => ?_)
        · have h := ifpE hb h
          refine g_iload_n cd158_150 rfl rfl ?_
          refine g_if_le cd158_151 rfl (fun hb => ?_) (fun hb => ?_)
          · have h := ifpE hb h
            refine g_aload_n cd158_176 rfl rfl ?_
            refine g_getP cd158_177 rfl (OH.o hw) (OH.p7 hw) ?_
            refine g_getI cd158_180 rfl (O1.o (OH.q7 hw)) ?_
            refine g_if_ne cd158_183 rfl (fun hb => ?_) (fun hb => ?_)
            · have h := ifpE hb h
              refine g_iconst cd158_186 rfl ?_
              refine g_goto (ls2 := [some (.ref 0), some (.int l1), some (.int (b2i x13.1)), some (.int x17.1)]) cd158_187 rfl rfl ?_
              exact g_iret cd158_191 (Or.inl rfl) (by obtain rfl := Option.some.inj h; rfl)
            · have h := ifnE hb h
              refine g_iload_n cd158_190 rfl rfl ?_
              exact g_iret cd158_191 (Or.inl rfl) (by obtain rfl := Option.some.inj h; rfl)
          · have h := ifnE hb h
            refine g_aload_n cd158_154 rfl rfl ?_
            refine g_getP cd158_155 rfl (OH.o hw) (OH.p8 hw) ?_
            refine g_aload_n cd158_158 rfl rfl ?_
            refine g_getP cd158_159 rfl (OH.o hw) (OH.p3 hw) ?_
            obtain ⟨x23, hx, h⟩ := bnd h
            refine g_callVV (L := [some (.ref 60), some (.ref 25), none]) cd158_162 rfl rfl rfl rfl rfl (O3.o (OH.q8 hw)) (t_History_keep (by omega) (OH.q8 hw) (OH.q3 hw) hx) ?_
            refine g_aload_n cd158_165 rfl rfl ?_
            refine g_getP cd158_166 rfl (OH.o hw) (OH.p3 hw) ?_
            refine g_aload_n cd158_169 rfl rfl ?_
            refine g_getP cd158_170 rfl (OH.o hw) (OH.p4 hw) ?_
            obtain ⟨x24, hx, h⟩ := bnd h
            refine g_callVV (L := [some (.ref 25), some (.ref 35)]) cd158_173 rfl rfl rfl rfl rfl (O9.o (OH.q3 hw)) (t_State_copy (by omega) (OH.q3 hw) (OH.q4 hw) hx) ?_
            refine g_aload_n cd158_176 rfl rfl ?_
            refine g_getP cd158_177 rfl (OH.o hw) (OH.p7 hw) ?_
            refine g_getI cd158_180 rfl (O1.o (OH.q7 hw)) ?_
            refine g_if_ne cd158_183 rfl (fun hb => ?_) (fun hb => ?_)
            · have h := ifpE hb h
              refine g_iconst cd158_186 rfl ?_
              refine g_goto (ls2 := [some (.ref 0), some (.int l1), some (.int (b2i x13.1)), some (.int x17.1)]) cd158_187 rfl rfl ?_
              exact g_iret cd158_191 (Or.inl rfl) (by obtain rfl := Option.some.inj h; rfl)
            · have h := ifnE hb h
              refine g_iload_n cd158_190 rfl rfl ?_
              exact g_iret cd158_191 (Or.inl rfl) (by obtain rfl := Option.some.inj h; rfl)
        · have h := ifnE hb h
          refine g_aload_n cd158_176 rfl rfl ?_
          refine g_getP cd158_177 rfl (OH.o hw) (OH.p7 hw) ?_
          refine g_getI cd158_180 rfl (O1.o (OH.q7 hw)) ?_
          refine g_if_ne cd158_183 rfl (fun hb => ?_) (fun hb => ?_)
          · have h := ifpE hb h
            refine g_iconst cd158_186 rfl ?_
            refine g_goto (ls2 := [some (.ref 0), some (.int l1), some (.int (b2i x13.1)), some (.int x17.1)]) cd158_187 rfl rfl ?_
            exact g_iret cd158_191 (Or.inl rfl) (by obtain rfl := Option.some.inj h; rfl)
          · have h := ifnE hb h
            refine g_iload_n cd158_190 rfl rfl ?_
            exact g_iret cd158_191 (Or.inl rfl) (by obtain rfl := Option.some.inj h; rfl)
    · have h := ifnE hb h
      refine g_sipush cd158_9 rfl ?_
      exact g_iret cd158_12 (Or.inl rfl) (by obtain rfl := Option.some.inj h; rfl)
/-! HiddenOrLost.told(I)I -/
theorem cd159_0 : code9 159 0 = some (0, .iload_n 1, [1], .null, []) := rfl
theorem cd159_1 : code9 159 1 = some (0, .ifCond .lt 12, [3, 13], .null, []) := rfl
theorem cd159_4 : code9 159 4 = some (0, .iload_n 1, [1], .null, []) := rfl
theorem cd159_5 : code9 159 5 = some (0, .aload_n 0, [1], .null, []) := rfl
theorem cd159_6 : code9 159 6 = some (0, .getfield 98, [3, 11, 15, 2], .null, []) := rfl
theorem cd159_9 : code9 159 9 = some (0, .arraylength, [1], .null, []) := rfl
theorem cd159_10 : code9 159 10 = some (0, .if_icmp .lt 7, [3, 17], .null, []) := rfl
theorem cd159_13 : code9 159 13 = some (3, .iconst (-1), [1], .int (-1), []) := rfl
theorem cd159_14 : code9 159 14 = some (0, .goto 9, [3, 23, 2], .null, []) := rfl
theorem cd159_17 : code9 159 17 = some (0, .aload_n 0, [1], .null, []) := rfl
theorem cd159_18 : code9 159 18 = some (0, .getfield 98, [3, 11, 15, 2], .null, []) := rfl
theorem cd159_21 : code9 159 21 = some (0, .iload_n 1, [1], .null, []) := rfl
theorem cd159_22 : code9 159 22 = some (0, .iaload, [1], .null, []) := rfl
theorem cd159_23 : code9 159 23 = some (3, .ireturn, [1, 1], .null, []) := rfl
def Hol_told (ln sp sn ss : Nat) (l1 : Int32) (I : FI) : Option (Int32) := if l1 < 0 then (some (-1)) else (if l1 < (Int32.ofNat 4) then (if in9 l1 4 then (some (I 202 l1.toNatClampNeg)) else none) else (some (-1)))
set_option maxRecDepth 8000 in
theorem t_Hol_told {d : Nat} {ln sp sn ss : Nat} {c : Nat × Nat} {S : Nat → Nat × Nat} {P : Nat → Nat → Option Nat} {I : FI} {J : FJ} {l1 : Int32} {r : Int32} (hd : 0 ≤ d) (hw : OH S P ln sp sn ss) (h : Hol_told ln sp sn ss l1 I = some r) : Go d M_Hol_told 0 [some (.ref 0), some (.int l1)] [] (c, S, I, J, P) (some (.int r), false, (c, S, I, J, P)) := by
  unfold Hol_told at h
  refine g_iload_n cd159_0 rfl rfl ?_
  refine g_if_lt cd159_1 rfl (fun hb => ?_) (fun hb => ?_)
  · have h := ifpE hb h
    refine g_iconst cd159_13 rfl ?_
    refine g_goto (ls2 := [some (.ref 0), some (.int l1)]) cd159_14 rfl rfl ?_
    exact g_iret cd159_23 (Or.inl rfl) (by obtain rfl := Option.some.inj h; rfl)
  · have h := ifnE hb h
    refine g_iload_n cd159_4 rfl rfl ?_
    refine g_aload_n cd159_5 rfl rfl ?_
    refine g_getP cd159_6 rfl (OH.o hw) (OH.p15 hw) ?_
    refine G_alen cd159_9 rfl (OH.s15 hw) (by decide) ?_
    refine g_icmp_lt cd159_10 rfl (fun hb => ?_) (fun hb => ?_)
    · have h := ifpE hb h
      refine g_aload_n cd159_17 rfl rfl ?_
      refine g_getP cd159_18 rfl (OH.o hw) (OH.p15 hw) ?_
      refine g_iload_n cd159_21 rfl rfl ?_
      obtain ⟨hg1, h⟩ := grd h
      refine G_iald cd159_22 rfl (OH.s15 hw) hg1 ?_
      exact g_iret cd159_23 (Or.inl rfl) (by obtain rfl := Option.some.inj h; rfl)
    · have h := ifnE hb h
      refine g_iconst cd159_13 rfl ?_
      refine g_goto (ls2 := [some (.ref 0), some (.int l1)]) cd159_14 rfl rfl ?_
      exact g_iret cd159_23 (Or.inl rfl) (by obtain rfl := Option.some.inj h; rfl)
/-! java/lang/Integer.bitCount(I)I -/
theorem cd298_0 : code9 298 0 = some (0, .iload_n 0, [1], .null, []) := rfl
theorem cd298_1 : code9 298 1 = some (0, .iload_n 0, [1], .null, []) := rfl
theorem cd298_2 : code9 298 2 = some (0, .iconst 1, [1], .int 1, []) := rfl
theorem cd298_3 : code9 298 3 = some (0, .iushr, [1], .null, []) := rfl
theorem cd298_4 : code9 298 4 = some (0, .ldc_w 265, [3], .int 1431655765, []) := rfl
theorem cd298_7 : code9 298 7 = some (0, .iand, [1], .null, []) := rfl
theorem cd298_8 : code9 298 8 = some (0, .isub, [1], .null, []) := rfl
theorem cd298_9 : code9 298 9 = some (0, .istore_n 0, [1], .null, []) := rfl
theorem cd298_10 : code9 298 10 = some (0, .iload_n 0, [1], .null, []) := rfl
theorem cd298_11 : code9 298 11 = some (0, .ldc_w 266, [3], .int 858993459, []) := rfl
theorem cd298_14 : code9 298 14 = some (0, .iand, [1], .null, []) := rfl
theorem cd298_15 : code9 298 15 = some (0, .iload_n 0, [1], .null, []) := rfl
theorem cd298_16 : code9 298 16 = some (0, .iconst 2, [1], .int 2, []) := rfl
theorem cd298_17 : code9 298 17 = some (0, .iushr, [1], .null, []) := rfl
theorem cd298_18 : code9 298 18 = some (0, .ldc_w 266, [3], .int 858993459, []) := rfl
theorem cd298_21 : code9 298 21 = some (0, .iand, [1], .null, []) := rfl
theorem cd298_22 : code9 298 22 = some (0, .iadd, [1], .null, []) := rfl
theorem cd298_23 : code9 298 23 = some (0, .istore_n 0, [1], .null, []) := rfl
theorem cd298_24 : code9 298 24 = some (0, .iload_n 0, [1], .null, []) := rfl
theorem cd298_25 : code9 298 25 = some (0, .iload_n 0, [1], .null, []) := rfl
theorem cd298_26 : code9 298 26 = some (0, .iconst 4, [1], .int 4, []) := rfl
theorem cd298_27 : code9 298 27 = some (0, .iushr, [1], .null, []) := rfl
theorem cd298_28 : code9 298 28 = some (0, .iadd, [1], .null, []) := rfl
theorem cd298_29 : code9 298 29 = some (0, .ldc_w 267, [3], .int 252645135, []) := rfl
theorem cd298_32 : code9 298 32 = some (0, .iand, [1], .null, []) := rfl
theorem cd298_33 : code9 298 33 = some (0, .istore_n 0, [1], .null, []) := rfl
theorem cd298_34 : code9 298 34 = some (0, .iload_n 0, [1], .null, []) := rfl
theorem cd298_35 : code9 298 35 = some (0, .iload_n 0, [1], .null, []) := rfl
theorem cd298_36 : code9 298 36 = some (0, .bipush 8, [2], .int 8, []) := rfl
theorem cd298_38 : code9 298 38 = some (0, .iushr, [1], .null, []) := rfl
theorem cd298_39 : code9 298 39 = some (0, .iadd, [1], .null, []) := rfl
theorem cd298_40 : code9 298 40 = some (0, .istore_n 0, [1], .null, []) := rfl
theorem cd298_41 : code9 298 41 = some (0, .iload_n 0, [1], .null, []) := rfl
theorem cd298_42 : code9 298 42 = some (0, .iload_n 0, [1], .null, []) := rfl
theorem cd298_43 : code9 298 43 = some (0, .bipush 16, [2], .int 16, []) := rfl
theorem cd298_45 : code9 298 45 = some (0, .iushr, [1], .null, []) := rfl
theorem cd298_46 : code9 298 46 = some (0, .iadd, [1], .null, []) := rfl
theorem cd298_47 : code9 298 47 = some (0, .istore_n 0, [1], .null, []) := rfl
theorem cd298_48 : code9 298 48 = some (0, .iload_n 0, [1], .null, []) := rfl
theorem cd298_49 : code9 298 49 = some (0, .bipush 63, [2], .int 63, []) := rfl
theorem cd298_51 : code9 298 51 = some (0, .iand, [1], .null, []) := rfl
theorem cd298_52 : code9 298 52 = some (0, .ireturn, [1, 1], .null, []) := rfl
def Integer_bitCount (l0 : Int32) : Int32 := (((((((l0 - (((l0.toUInt32 >>> ((1 : Int32).toUInt32 &&& Int32.toUInt32 31)).toInt32) &&& 1431655765)) &&& 858993459) + ((((l0 - (((l0.toUInt32 >>> ((1 : Int32).toUInt32 &&& Int32.toUInt32 31)).toInt32) &&& 1431655765)).toUInt32 >>> ((2 : Int32).toUInt32 &&& Int32.toUInt32 31)).toInt32) &&& 858993459)) + (((((l0 - (((l0.toUInt32 >>> ((1 : Int32).toUInt32 &&& Int32.toUInt32 31)).toInt32) &&& 1431655765)) &&& 858993459) + ((((l0 - (((l0.toUInt32 >>> ((1 : Int32).toUInt32 &&& Int32.toUInt32 31)).toInt32) &&& 1431655765)).toUInt32 >>> ((2 : Int32).toUInt32 &&& Int32.toUInt32 31)).toInt32) &&& 858993459)).toUInt32 >>> ((4 : Int32).toUInt32 &&& Int32.toUInt32 31)).toInt32)) &&& 252645135) + (((((((l0 - (((l0.toUInt32 >>> ((1 : Int32).toUInt32 &&& Int32.toUInt32 31)).toInt32) &&& 1431655765)) &&& 858993459) + ((((l0 - (((l0.toUInt32 >>> ((1 : Int32).toUInt32 &&& Int32.toUInt32 31)).toInt32) &&& 1431655765)).toUInt32 >>> ((2 : Int32).toUInt32 &&& Int32.toUInt32 31)).toInt32) &&& 858993459)) + (((((l0 - (((l0.toUInt32 >>> ((1 : Int32).toUInt32 &&& Int32.toUInt32 31)).toInt32) &&& 1431655765)) &&& 858993459) + ((((l0 - (((l0.toUInt32 >>> ((1 : Int32).toUInt32 &&& Int32.toUInt32 31)).toInt32) &&& 1431655765)).toUInt32 >>> ((2 : Int32).toUInt32 &&& Int32.toUInt32 31)).toInt32) &&& 858993459)).toUInt32 >>> ((4 : Int32).toUInt32 &&& Int32.toUInt32 31)).toInt32)) &&& 252645135).toUInt32 >>> ((8 : Int32).toUInt32 &&& Int32.toUInt32 31)).toInt32)) + ((((((((l0 - (((l0.toUInt32 >>> ((1 : Int32).toUInt32 &&& Int32.toUInt32 31)).toInt32) &&& 1431655765)) &&& 858993459) + ((((l0 - (((l0.toUInt32 >>> ((1 : Int32).toUInt32 &&& Int32.toUInt32 31)).toInt32) &&& 1431655765)).toUInt32 >>> ((2 : Int32).toUInt32 &&& Int32.toUInt32 31)).toInt32) &&& 858993459)) + (((((l0 - (((l0.toUInt32 >>> ((1 : Int32).toUInt32 &&& Int32.toUInt32 31)).toInt32) &&& 1431655765)) &&& 858993459) + ((((l0 - (((l0.toUInt32 >>> ((1 : Int32).toUInt32 &&& Int32.toUInt32 31)).toInt32) &&& 1431655765)).toUInt32 >>> ((2 : Int32).toUInt32 &&& Int32.toUInt32 31)).toInt32) &&& 858993459)).toUInt32 >>> ((4 : Int32).toUInt32 &&& Int32.toUInt32 31)).toInt32)) &&& 252645135) + (((((((l0 - (((l0.toUInt32 >>> ((1 : Int32).toUInt32 &&& Int32.toUInt32 31)).toInt32) &&& 1431655765)) &&& 858993459) + ((((l0 - (((l0.toUInt32 >>> ((1 : Int32).toUInt32 &&& Int32.toUInt32 31)).toInt32) &&& 1431655765)).toUInt32 >>> ((2 : Int32).toUInt32 &&& Int32.toUInt32 31)).toInt32) &&& 858993459)) + (((((l0 - (((l0.toUInt32 >>> ((1 : Int32).toUInt32 &&& Int32.toUInt32 31)).toInt32) &&& 1431655765)) &&& 858993459) + ((((l0 - (((l0.toUInt32 >>> ((1 : Int32).toUInt32 &&& Int32.toUInt32 31)).toInt32) &&& 1431655765)).toUInt32 >>> ((2 : Int32).toUInt32 &&& Int32.toUInt32 31)).toInt32) &&& 858993459)).toUInt32 >>> ((4 : Int32).toUInt32 &&& Int32.toUInt32 31)).toInt32)) &&& 252645135).toUInt32 >>> ((8 : Int32).toUInt32 &&& Int32.toUInt32 31)).toInt32)).toUInt32 >>> ((16 : Int32).toUInt32 &&& Int32.toUInt32 31)).toInt32)) &&& 63
set_option maxRecDepth 8000 in
theorem t_Integer_bitCount {d : Nat} {c : Nat × Nat} {S : Nat → Nat × Nat} {P : Nat → Nat → Option Nat} {I : FI} {J : FJ} {l0 : Int32} {r : Int32} (hd : 0 ≤ d) (h : Integer_bitCount l0 = r) : Go d M_Integer_bitCount 0 [some (.int l0)] [] (c, S, I, J, P) (some (.int r), false, (c, S, I, J, P)) := by
  unfold Integer_bitCount at h
  refine g_iload_n cd298_0 rfl rfl ?_
  refine g_iload_n cd298_1 rfl rfl ?_
  refine g_iconst cd298_2 rfl ?_
  refine g_iushr cd298_3 rfl ?_
  refine g_ldc_w cd298_4 rfl ?_
  refine g_iand cd298_7 rfl ?_
  refine g_isub cd298_8 rfl ?_
  refine g_istore_n (ls2 := [some (.int (l0 - (((l0.toUInt32 >>> ((1 : Int32).toUInt32 &&& Int32.toUInt32 31)).toInt32) &&& 1431655765)))]) cd298_9 rfl rfl ?_
  refine g_iload_n cd298_10 rfl rfl ?_
  refine g_ldc_w cd298_11 rfl ?_
  refine g_iand cd298_14 rfl ?_
  refine g_iload_n cd298_15 rfl rfl ?_
  refine g_iconst cd298_16 rfl ?_
  refine g_iushr cd298_17 rfl ?_
  refine g_ldc_w cd298_18 rfl ?_
  refine g_iand cd298_21 rfl ?_
  refine g_iadd cd298_22 rfl ?_
  refine g_istore_n (ls2 := [some (.int (((l0 - (((l0.toUInt32 >>> ((1 : Int32).toUInt32 &&& Int32.toUInt32 31)).toInt32) &&& 1431655765)) &&& 858993459) + ((((l0 - (((l0.toUInt32 >>> ((1 : Int32).toUInt32 &&& Int32.toUInt32 31)).toInt32) &&& 1431655765)).toUInt32 >>> ((2 : Int32).toUInt32 &&& Int32.toUInt32 31)).toInt32) &&& 858993459)))]) cd298_23 rfl rfl ?_
  refine g_iload_n cd298_24 rfl rfl ?_
  refine g_iload_n cd298_25 rfl rfl ?_
  refine g_iconst cd298_26 rfl ?_
  refine g_iushr cd298_27 rfl ?_
  refine g_iadd cd298_28 rfl ?_
  refine g_ldc_w cd298_29 rfl ?_
  refine g_iand cd298_32 rfl ?_
  refine g_istore_n (ls2 := [some (.int (((((l0 - (((l0.toUInt32 >>> ((1 : Int32).toUInt32 &&& Int32.toUInt32 31)).toInt32) &&& 1431655765)) &&& 858993459) + ((((l0 - (((l0.toUInt32 >>> ((1 : Int32).toUInt32 &&& Int32.toUInt32 31)).toInt32) &&& 1431655765)).toUInt32 >>> ((2 : Int32).toUInt32 &&& Int32.toUInt32 31)).toInt32) &&& 858993459)) + (((((l0 - (((l0.toUInt32 >>> ((1 : Int32).toUInt32 &&& Int32.toUInt32 31)).toInt32) &&& 1431655765)) &&& 858993459) + ((((l0 - (((l0.toUInt32 >>> ((1 : Int32).toUInt32 &&& Int32.toUInt32 31)).toInt32) &&& 1431655765)).toUInt32 >>> ((2 : Int32).toUInt32 &&& Int32.toUInt32 31)).toInt32) &&& 858993459)).toUInt32 >>> ((4 : Int32).toUInt32 &&& Int32.toUInt32 31)).toInt32)) &&& 252645135))]) cd298_33 rfl rfl ?_
  refine g_iload_n cd298_34 rfl rfl ?_
  refine g_iload_n cd298_35 rfl rfl ?_
  refine g_bipush cd298_36 rfl ?_
  refine g_iushr cd298_38 rfl ?_
  refine g_iadd cd298_39 rfl ?_
  refine g_istore_n (ls2 := [some (.int ((((((l0 - (((l0.toUInt32 >>> ((1 : Int32).toUInt32 &&& Int32.toUInt32 31)).toInt32) &&& 1431655765)) &&& 858993459) + ((((l0 - (((l0.toUInt32 >>> ((1 : Int32).toUInt32 &&& Int32.toUInt32 31)).toInt32) &&& 1431655765)).toUInt32 >>> ((2 : Int32).toUInt32 &&& Int32.toUInt32 31)).toInt32) &&& 858993459)) + (((((l0 - (((l0.toUInt32 >>> ((1 : Int32).toUInt32 &&& Int32.toUInt32 31)).toInt32) &&& 1431655765)) &&& 858993459) + ((((l0 - (((l0.toUInt32 >>> ((1 : Int32).toUInt32 &&& Int32.toUInt32 31)).toInt32) &&& 1431655765)).toUInt32 >>> ((2 : Int32).toUInt32 &&& Int32.toUInt32 31)).toInt32) &&& 858993459)).toUInt32 >>> ((4 : Int32).toUInt32 &&& Int32.toUInt32 31)).toInt32)) &&& 252645135) + (((((((l0 - (((l0.toUInt32 >>> ((1 : Int32).toUInt32 &&& Int32.toUInt32 31)).toInt32) &&& 1431655765)) &&& 858993459) + ((((l0 - (((l0.toUInt32 >>> ((1 : Int32).toUInt32 &&& Int32.toUInt32 31)).toInt32) &&& 1431655765)).toUInt32 >>> ((2 : Int32).toUInt32 &&& Int32.toUInt32 31)).toInt32) &&& 858993459)) + (((((l0 - (((l0.toUInt32 >>> ((1 : Int32).toUInt32 &&& Int32.toUInt32 31)).toInt32) &&& 1431655765)) &&& 858993459) + ((((l0 - (((l0.toUInt32 >>> ((1 : Int32).toUInt32 &&& Int32.toUInt32 31)).toInt32) &&& 1431655765)).toUInt32 >>> ((2 : Int32).toUInt32 &&& Int32.toUInt32 31)).toInt32) &&& 858993459)).toUInt32 >>> ((4 : Int32).toUInt32 &&& Int32.toUInt32 31)).toInt32)) &&& 252645135).toUInt32 >>> ((8 : Int32).toUInt32 &&& Int32.toUInt32 31)).toInt32)))]) cd298_40 rfl rfl ?_
  refine g_iload_n cd298_41 rfl rfl ?_
  refine g_iload_n cd298_42 rfl rfl ?_
  refine g_bipush cd298_43 rfl ?_
  refine g_iushr cd298_45 rfl ?_
  refine g_iadd cd298_46 rfl ?_
  refine g_istore_n (ls2 := [some (.int (((((((l0 - (((l0.toUInt32 >>> ((1 : Int32).toUInt32 &&& Int32.toUInt32 31)).toInt32) &&& 1431655765)) &&& 858993459) + ((((l0 - (((l0.toUInt32 >>> ((1 : Int32).toUInt32 &&& Int32.toUInt32 31)).toInt32) &&& 1431655765)).toUInt32 >>> ((2 : Int32).toUInt32 &&& Int32.toUInt32 31)).toInt32) &&& 858993459)) + (((((l0 - (((l0.toUInt32 >>> ((1 : Int32).toUInt32 &&& Int32.toUInt32 31)).toInt32) &&& 1431655765)) &&& 858993459) + ((((l0 - (((l0.toUInt32 >>> ((1 : Int32).toUInt32 &&& Int32.toUInt32 31)).toInt32) &&& 1431655765)).toUInt32 >>> ((2 : Int32).toUInt32 &&& Int32.toUInt32 31)).toInt32) &&& 858993459)).toUInt32 >>> ((4 : Int32).toUInt32 &&& Int32.toUInt32 31)).toInt32)) &&& 252645135) + (((((((l0 - (((l0.toUInt32 >>> ((1 : Int32).toUInt32 &&& Int32.toUInt32 31)).toInt32) &&& 1431655765)) &&& 858993459) + ((((l0 - (((l0.toUInt32 >>> ((1 : Int32).toUInt32 &&& Int32.toUInt32 31)).toInt32) &&& 1431655765)).toUInt32 >>> ((2 : Int32).toUInt32 &&& Int32.toUInt32 31)).toInt32) &&& 858993459)) + (((((l0 - (((l0.toUInt32 >>> ((1 : Int32).toUInt32 &&& Int32.toUInt32 31)).toInt32) &&& 1431655765)) &&& 858993459) + ((((l0 - (((l0.toUInt32 >>> ((1 : Int32).toUInt32 &&& Int32.toUInt32 31)).toInt32) &&& 1431655765)).toUInt32 >>> ((2 : Int32).toUInt32 &&& Int32.toUInt32 31)).toInt32) &&& 858993459)).toUInt32 >>> ((4 : Int32).toUInt32 &&& Int32.toUInt32 31)).toInt32)) &&& 252645135).toUInt32 >>> ((8 : Int32).toUInt32 &&& Int32.toUInt32 31)).toInt32)) + ((((((((l0 - (((l0.toUInt32 >>> ((1 : Int32).toUInt32 &&& Int32.toUInt32 31)).toInt32) &&& 1431655765)) &&& 858993459) + ((((l0 - (((l0.toUInt32 >>> ((1 : Int32).toUInt32 &&& Int32.toUInt32 31)).toInt32) &&& 1431655765)).toUInt32 >>> ((2 : Int32).toUInt32 &&& Int32.toUInt32 31)).toInt32) &&& 858993459)) + (((((l0 - (((l0.toUInt32 >>> ((1 : Int32).toUInt32 &&& Int32.toUInt32 31)).toInt32) &&& 1431655765)) &&& 858993459) + ((((l0 - (((l0.toUInt32 >>> ((1 : Int32).toUInt32 &&& Int32.toUInt32 31)).toInt32) &&& 1431655765)).toUInt32 >>> ((2 : Int32).toUInt32 &&& Int32.toUInt32 31)).toInt32) &&& 858993459)).toUInt32 >>> ((4 : Int32).toUInt32 &&& Int32.toUInt32 31)).toInt32)) &&& 252645135) + (((((((l0 - (((l0.toUInt32 >>> ((1 : Int32).toUInt32 &&& Int32.toUInt32 31)).toInt32) &&& 1431655765)) &&& 858993459) + ((((l0 - (((l0.toUInt32 >>> ((1 : Int32).toUInt32 &&& Int32.toUInt32 31)).toInt32) &&& 1431655765)).toUInt32 >>> ((2 : Int32).toUInt32 &&& Int32.toUInt32 31)).toInt32) &&& 858993459)) + (((((l0 - (((l0.toUInt32 >>> ((1 : Int32).toUInt32 &&& Int32.toUInt32 31)).toInt32) &&& 1431655765)) &&& 858993459) + ((((l0 - (((l0.toUInt32 >>> ((1 : Int32).toUInt32 &&& Int32.toUInt32 31)).toInt32) &&& 1431655765)).toUInt32 >>> ((2 : Int32).toUInt32 &&& Int32.toUInt32 31)).toInt32) &&& 858993459)).toUInt32 >>> ((4 : Int32).toUInt32 &&& Int32.toUInt32 31)).toInt32)) &&& 252645135).toUInt32 >>> ((8 : Int32).toUInt32 &&& Int32.toUInt32 31)).toInt32)).toUInt32 >>> ((16 : Int32).toUInt32 &&& Int32.toUInt32 31)).toInt32)))]) cd298_47 rfl rfl ?_
  refine g_iload_n cd298_48 rfl rfl ?_
  refine g_bipush cd298_49 rfl ?_
  refine g_iand cd298_51 rfl ?_
  exact g_iret cd298_52 (Or.inl rfl) (by subst h; rfl)
/-! HiddenOrLost.said(I)I -/
theorem cd161_0 : code9 161 0 = some (0, .aload_n 0, [1], .null, []) := rfl
theorem cd161_1 : code9 161 1 = some (0, .getfield 39, [3, 11, 5, 2], .null, []) := rfl
theorem cd161_4 : code9 161 4 = some (0, .getfield 362, [3, 8, 5, 0], .null, []) := rfl
theorem cd161_7 : code9 161 7 = some (0, .ifCond .eq 8, [3, 15], .null, []) := rfl
theorem cd161_10 : code9 161 10 = some (0, .iload_n 1, [1], .null, []) := rfl
theorem cd161_11 : code9 161 11 = some (0, .iconst (-1), [1], .int (-1), []) := rfl
theorem cd161_12 : code9 161 12 = some (0, .if_icmp .ge 5, [3, 17], .null, []) := rfl
theorem cd161_15 : code9 161 15 = some (3, .iconst (-1), [1], .int (-1), []) := rfl
theorem cd161_16 : code9 161 16 = some (0, .ireturn, [1, 1], .null, []) := rfl
theorem cd161_17 : code9 161 17 = some (0, .aload_n 0, [1], .null, []) := rfl
theorem cd161_18 : code9 161 18 = some (0, .getfield 39, [3, 11, 5, 2], .null, []) := rfl
theorem cd161_21 : code9 161 21 = some (0, .aload_n 0, [1], .null, []) := rfl
theorem cd161_22 : code9 161 22 = some (0, .getfield 19, [3, 11, 1, 2], .null, []) := rfl
theorem cd161_25 : code9 161 25 = some (0, .aload_n 0, [1], .null, []) := rfl
theorem cd161_26 : code9 161 26 = some (0, .getfield 29, [3, 11, 3, 2], .null, []) := rfl
theorem cd161_29 : code9 161 29 = some (0, .invokevirtual 365, [3, 75, 3, 1, 1, 7, 8, 0], .null, []) := rfl
theorem cd161_32 : code9 161 32 = some (0, .istore_n 2, [1], .null, []) := rfl
theorem cd161_33 : code9 161 33 = some (0, .iload_n 1, [1], .null, []) := rfl
theorem cd161_34 : code9 161 34 = some (0, .iconst (-1), [1], .int (-1), []) := rfl
theorem cd161_35 : code9 161 35 = some (0, .if_icmp .ne 8, [3, 43], .null, []) := rfl
theorem cd161_38 : code9 161 38 = some (0, .iload_n 2, [1], .null, []) := rfl
theorem cd161_39 : code9 161 39 = some (0, .invokestatic 368, [3, 298, 1, 0, 1, 1, 16, 0], .null, []) := rfl
theorem cd161_42 : code9 161 42 = some (0, .ireturn, [1, 1], .null, []) := rfl
theorem cd161_43 : code9 161 43 = some (0, .iconst 0, [1], .int 0, []) := rfl
theorem cd161_44 : code9 161 44 = some (0, .istore_n 3, [1], .null, []) := rfl
theorem cd161_45 : code9 161 45 = some (0, .iconst 0, [1], .int 0, []) := rfl
theorem cd161_46 : code9 161 46 = some (0, .istore 4, [2], .null, []) := rfl
theorem cd161_48 : code9 161 48 = some (6, .iload 4, [2], .null, []) := rfl
theorem cd161_50 : code9 161 50 = some (0, .aload_n 0, [1], .null, []) := rfl
theorem cd161_51 : code9 161 51 = some (0, .getfield 19, [3, 11, 1, 2], .null, []) := rfl
theorem cd161_54 : code9 161 54 = some (0, .getfield 373, [3, 6, 12, 0], .null, []) := rfl
theorem cd161_57 : code9 161 57 = some (0, .if_icmp .ge 30, [3, 87], .null, []) := rfl
theorem cd161_60 : code9 161 60 = some (0, .iload_n 2, [1], .null, []) := rfl
theorem cd161_61 : code9 161 61 = some (0, .iload 4, [2], .null, []) := rfl
theorem cd161_63 : code9 161 63 = some (0, .ishr, [1], .null, []) := rfl
theorem cd161_64 : code9 161 64 = some (0, .iconst 1, [1], .int 1, []) := rfl
theorem cd161_65 : code9 161 65 = some (0, .iand, [1], .null, []) := rfl
theorem cd161_66 : code9 161 66 = some (0, .iconst 1, [1], .int 1, []) := rfl
theorem cd161_67 : code9 161 67 = some (0, .if_icmp .ne 14, [3, 81], .null, []) := rfl
theorem cd161_70 : code9 161 70 = some (0, .iload_n 3, [1], .null, []) := rfl
theorem cd161_71 : code9 161 71 = some (0, .iload_n 1, [1], .null, []) := rfl
theorem cd161_72 : code9 161 72 = some (0, .if_icmp .ne 6, [3, 78], .null, []) := rfl
theorem cd161_75 : code9 161 75 = some (0, .iload 4, [2], .null, []) := rfl
theorem cd161_77 : code9 161 77 = some (0, .ireturn, [1, 1], .null, []) := rfl
theorem cd161_78 : code9 161 78 = some (0, .iinc 3 1, [3], .int 1, []) := rfl
theorem cd161_81 : code9 161 81 = some (6, .iinc 4 1, [3], .int 1, []) := rfl
theorem cd161_84 : code9 161 84 = some (0, .goto (-36), [3, 48, 5], .null, []) := rfl
theorem cd161_87 : code9 161 87 = some (0, .iconst (-1), [1], .int (-1), []) := rfl
theorem cd161_88 : code9 161 88 = some (0, .ireturn, [1, 1], .null, []) := rfl
def Hol_said_48 (N : Nat) (ln sp sn ss : Nat) : Nat → Int32 → Int32 → Int32 → Int32 → FI → Option (Int32 × FI)
  | 0 => fun _ _ _ _ _ => none
  | n + 1 => fun l1 l2 l3 l4 I => if (I ln 12) ≤ l4 then (some ((-1), I)) else (if ((l2 >>> (l4 &&& 31)) &&& 1) = 1 then (if l3 = l1 then (some (l4, I)) else (Hol_said_48 N ln sp sn ss n l1 l2 (l3 + 1) (l4 + 1) I)) else (Hol_said_48 N ln sp sn ss n l1 l2 l3 (l4 + 1) I))
def Hol_said (N : Nat) (ln sp sn ss : Nat) (l1 : Int32) (I : FI) : Option (Int32 × FI) := if (I sn 5) = 0 then (some ((-1), I)) else (if (-1) ≤ l1 then (Option.bind (Sentence_bitsOf N sn ln 25 I) fun x1 => (if l1 = (-1) then (some ((Integer_bitCount x1.1), x1.2)) else (Hol_said_48 N ln sp sn ss N l1 x1.1 0 0 x1.2))) else (some ((-1), I)))
set_option maxRecDepth 8000 in
theorem t_Hol_said_48 {d : Nat} {N : Nat} {ln sp sn ss : Nat} {c : Nat × Nat} {S : Nat → Nat × Nat} {P : Nat → Nat → Option Nat} {r : Int32 × FI} (hd : 4 ≤ (d + 1)) (hw : OH S P ln sp sn ss) : ∀ (n : Nat) (l1 : Int32) (l2 : Int32) (l3 : Int32) (l4 : Int32) (I : FI) (J : FJ), Hol_said_48 N ln sp sn ss n l1 l2 l3 l4 I = some r → Go (d + 1) M_Hol_said 48 [some (.ref 0), some (.int l1), some (.int l2), some (.int l3), some (.int l4)] [] (c, S, I, J, P) (some (.int r.1), false, (c, S, r.2, J, P)) := by
  intro n
  induction n with
  | zero =>
    intro l1 l2 l3 l4 I J h
    cases h
  | succ n ih =>
    intro l1 l2 l3 l4 I J h
    unfold Hol_said_48 at h
    refine g_iload cd161_48 rfl rfl ?_
    refine g_aload_n cd161_50 rfl rfl ?_
    refine g_getP cd161_51 rfl (OH.o hw) (OH.p1 hw) ?_
    refine g_getI cd161_54 rfl (O6.o (OH.q1 hw)) ?_
    refine g_icmp_ge cd161_57 rfl (fun hb => ?_) (fun hb => ?_)
    · have h := ifpE hb h
      refine g_iconst cd161_87 rfl ?_
      exact g_iret cd161_88 (Or.inl rfl) (by obtain rfl := Option.some.inj h; rfl)
    · have h := ifnE hb h
      refine g_iload_n cd161_60 rfl rfl ?_
      refine g_iload cd161_61 rfl rfl ?_
      refine g_ishr cd161_63 rfl ?_
      refine g_iconst cd161_64 rfl ?_
      refine g_iand cd161_65 rfl ?_
      refine g_iconst cd161_66 rfl ?_
      refine g_icmp_ne cd161_67 rfl (fun hb => ?_) (fun hb => ?_)
      · have h := ifpE hb h
        refine g_iload_n cd161_70 rfl rfl ?_
        refine g_iload_n cd161_71 rfl rfl ?_
        refine g_icmp_ne cd161_72 rfl (fun hb => ?_) (fun hb => ?_)
        · have h := ifpE hb h
          refine g_iload cd161_75 rfl rfl ?_
          exact g_iret cd161_77 (Or.inl rfl) (by obtain rfl := Option.some.inj h; rfl)
        · have h := ifnE hb h
          refine g_iinc (ls2 := [some (.ref 0), some (.int l1), some (.int l2), some (.int (l3 + 1)), some (.int l4)]) cd161_78 rfl rfl rfl ?_
          refine g_iinc (ls2 := [some (.ref 0), some (.int l1), some (.int l2), some (.int (l3 + 1)), some (.int (l4 + 1))]) cd161_81 rfl rfl rfl ?_
          refine g_goto (ls2 := [some (.ref 0), some (.int l1), some (.int l2), some (.int (l3 + 1)), some (.int (l4 + 1))]) cd161_84 rfl rfl ?_
          exact ih l1 l2 (l3 + 1) (l4 + 1) I J h
      · have h := ifnE hb h
        refine g_iinc (ls2 := [some (.ref 0), some (.int l1), some (.int l2), some (.int l3), some (.int (l4 + 1))]) cd161_81 rfl rfl rfl ?_
        refine g_goto (ls2 := [some (.ref 0), some (.int l1), some (.int l2), some (.int l3), some (.int (l4 + 1))]) cd161_84 rfl rfl ?_
        exact ih l1 l2 l3 (l4 + 1) I J h
set_option maxRecDepth 8000 in
theorem t_Hol_said {d : Nat} {N : Nat} {ln sp sn ss : Nat} {c : Nat × Nat} {S : Nat → Nat × Nat} {P : Nat → Nat → Option Nat} {I : FI} {J : FJ} {l1 : Int32} {r : Int32 × FI} (hd : 4 ≤ d) (hw : OH S P ln sp sn ss) (h : Hol_said N ln sp sn ss l1 I = some r) : Go d M_Hol_said 0 [some (.ref 0), some (.int l1), none, none, none] [] (c, S, I, J, P) (some (.int r.1), false, (c, S, r.2, J, P)) := by
  obtain ⟨d, rfl⟩ : ∃ e, d = e + 1 := ⟨d - 1, by omega⟩
  unfold Hol_said at h
  refine g_aload_n cd161_0 rfl rfl ?_
  refine g_getP cd161_1 rfl (OH.o hw) (OH.p5 hw) ?_
  refine g_getI cd161_4 rfl (O8.o (OH.q5 hw)) ?_
  refine g_if_eq cd161_7 rfl (fun hb => ?_) (fun hb => ?_)
  · have h := ifpE hb h
    refine g_iconst cd161_15 rfl ?_
    exact g_iret cd161_16 (Or.inl rfl) (by obtain rfl := Option.some.inj h; rfl)
  · have h := ifnE hb h
    refine g_iload_n cd161_10 rfl rfl ?_
    refine g_iconst cd161_11 rfl ?_
    refine g_icmp_ge cd161_12 rfl (fun hb => ?_) (fun hb => ?_)
    · have h := ifpE hb h
      refine g_aload_n cd161_17 rfl rfl ?_
      refine g_getP cd161_18 rfl (OH.o hw) (OH.p5 hw) ?_
      refine g_aload_n cd161_21 rfl rfl ?_
      refine g_getP cd161_22 rfl (OH.o hw) (OH.p1 hw) ?_
      refine g_aload_n cd161_25 rfl rfl ?_
      refine g_getP cd161_26 rfl (OH.o hw) (OH.p3 hw) ?_
      obtain ⟨x1, hx, h⟩ := bnd h
      refine g_callVI (L := [some (.ref sn), some (.ref ln), some (.ref 25), none, none, none, none]) cd161_29 rfl rfl rfl rfl rfl (O8.o (OH.q5 hw)) (t_Sentence_bitsOf (by omega) (OH.q5 hw) (OH.q1 hw) (OH.q3 hw) hx) ?_
      refine g_istore_n (ls2 := [some (.ref 0), some (.int l1), some (.int x1.1), none, none]) cd161_32 rfl rfl ?_
      refine g_iload_n cd161_33 rfl rfl ?_
      refine g_iconst cd161_34 rfl ?_
      refine g_icmp_ne cd161_35 rfl (fun hb => ?_) (fun hb => ?_)
      · have h := ifpE hb h
        refine g_iload_n cd161_38 rfl rfl ?_
        refine g_callSI (L := [some (.int x1.1)]) cd161_39 rfl rfl rfl rfl rfl (t_Integer_bitCount (by omega)  rfl) ?_
        exact g_iret cd161_42 (Or.inl rfl) (by obtain rfl := Option.some.inj h; rfl)
      · have h := ifnE hb h
        refine g_iconst cd161_43 rfl ?_
        refine g_istore_n (ls2 := [some (.ref 0), some (.int l1), some (.int x1.1), some (.int 0), none]) cd161_44 rfl rfl ?_
        refine g_iconst cd161_45 rfl ?_
        refine g_istore (ls2 := [some (.ref 0), some (.int l1), some (.int x1.1), some (.int 0), some (.int 0)]) cd161_46 rfl rfl ?_
        exact t_Hol_said_48 hd hw _ l1 x1.1 0 0 x1.2 J h
    · have h := ifnE hb h
      refine g_iconst cd161_15 rfl ?_
      exact g_iret cd161_16 (Or.inl rfl) (by obtain rfl := Option.some.inj h; rfl)
/-! HiddenOrLost.image(I)Z -/
theorem cd162_0 : code9 162 0 = some (0, .iload_n 1, [1], .null, []) := rfl
theorem cd162_1 : code9 162 1 = some (0, .ifCond .eq 10, [3, 11], .null, []) := rfl
theorem cd162_4 : code9 162 4 = some (0, .iload_n 1, [1], .null, []) := rfl
theorem cd162_5 : code9 162 5 = some (0, .iconst 1, [1], .int 1, []) := rfl
theorem cd162_6 : code9 162 6 = some (0, .if_icmp .eq 5, [3, 11], .null, []) := rfl
theorem cd162_9 : code9 162 9 = some (0, .iconst 0, [1], .int 0, []) := rfl
theorem cd162_10 : code9 162 10 = some (0, .ireturn, [1, 3], .null, []) := rfl
theorem cd162_11 : code9 162 11 = some (3, .iload_n 1, [1], .null, []) := rfl
theorem cd162_12 : code9 162 12 = some (0, .ifCond .ne 10, [3, 22], .null, []) := rfl
theorem cd162_15 : code9 162 15 = some (0, .aload_n 0, [1], .null, []) := rfl
theorem cd162_16 : code9 162 16 = some (0, .getfield 63, [3, 11, 9, 2], .null, []) := rfl
theorem cd162_19 : code9 162 19 = some (0, .goto 7, [3, 26, 2], .null, []) := rfl
theorem cd162_22 : code9 162 22 = some (0, .aload_n 0, [1], .null, []) := rfl
theorem cd162_23 : code9 162 23 = some (0, .getfield 67, [3, 11, 10, 2], .null, []) := rfl
theorem cd162_26 : code9 162 26 = some (3, .astore_n 2, [1], .null, []) := rfl
theorem cd162_27 : code9 162 27 = some (0, .aload_n 2, [1], .null, []) := rfl
theorem cd162_28 : code9 162 28 = some (0, .getfield 376, [3, 4, 0, 2], .null, []) := rfl
theorem cd162_31 : code9 162 31 = some (0, .aload_n 0, [1], .null, []) := rfl
theorem cd162_32 : code9 162 32 = some (0, .getfield 19, [3, 11, 1, 2], .null, []) := rfl
theorem cd162_35 : code9 162 35 = some (0, .invokevirtual 377, [3, 60, 2, 1, 0, 2, 6, 0], .null, []) := rfl
theorem cd162_38 : code9 162 38 = some (0, .aload_n 2, [1], .null, []) := rfl
theorem cd162_39 : code9 162 39 = some (0, .getfield 379, [3, 4, 1, 2], .null, []) := rfl
theorem cd162_42 : code9 162 42 = some (0, .aload_n 0, [1], .null, []) := rfl
theorem cd162_43 : code9 162 43 = some (0, .getfield 29, [3, 11, 3, 2], .null, []) := rfl
theorem cd162_46 : code9 162 46 = some (0, .invokevirtual 348, [3, 89, 2, 1, 0, 2, 9, 0], .null, []) := rfl
theorem cd162_49 : code9 162 49 = some (0, .aload_n 2, [1], .null, []) := rfl
theorem cd162_50 : code9 162 50 = some (0, .getfield 380, [3, 4, 2, 2], .null, []) := rfl
theorem cd162_53 : code9 162 53 = some (0, .aload_n 0, [1], .null, []) := rfl
theorem cd162_54 : code9 162 54 = some (0, .getfield 39, [3, 11, 5, 2], .null, []) := rfl
theorem cd162_57 : code9 162 57 = some (0, .invokevirtual 383, [3, 79, 2, 1, 0, 2, 8, 0], .null, []) := rfl
theorem cd162_60 : code9 162 60 = some (0, .aload_n 2, [1], .null, []) := rfl
theorem cd162_61 : code9 162 61 = some (0, .iconst 1, [1], .int 1, []) := rfl
theorem cd162_62 : code9 162 62 = some (0, .putfield 386, [3, 4, 3, 3], .null, []) := rfl
theorem cd162_65 : code9 162 65 = some (0, .iconst 1, [1], .int 1, []) := rfl
theorem cd162_66 : code9 162 66 = some (0, .ireturn, [1, 3], .null, []) := rfl
def Hol_image (ln sp sn ss : Nat) (l1 : Int32) (I : FI) (J : FJ) : Option (Bool × FI × FJ) := if l1 = 0 then (if l1 = 0 then (Option.bind (Land_copy 143 ln I J) fun x1 => (Option.bind (State_copy 152 25 x1.1) fun x2 => (Option.bind (Sentence_copy 162 sn x2) fun x3 => (Option.bind (some (up2 x3 142 3 (1 : Int32))) fun I4 => (some (true, I4, x1.2)))))) else (Option.bind (Land_copy 168 ln I J) fun x5 => (Option.bind (State_copy 177 25 x5.1) fun x6 => (Option.bind (Sentence_copy 187 sn x6) fun x7 => (Option.bind (some (up2 x7 167 3 (1 : Int32))) fun I8 => (some (true, I8, x5.2))))))) else (if l1 = 1 then (if l1 = 0 then (Option.bind (Land_copy 143 ln I J) fun x9 => (Option.bind (State_copy 152 25 x9.1) fun x10 => (Option.bind (Sentence_copy 162 sn x10) fun x11 => (Option.bind (some (up2 x11 142 3 (1 : Int32))) fun I12 => (some (true, I12, x9.2)))))) else (Option.bind (Land_copy 168 ln I J) fun x13 => (Option.bind (State_copy 177 25 x13.1) fun x14 => (Option.bind (Sentence_copy 187 sn x14) fun x15 => (Option.bind (some (up2 x15 167 3 (1 : Int32))) fun I16 => (some (true, I16, x13.2))))))) else (some (false, I, J)))
set_option maxRecDepth 8000 in
theorem t_Hol_image {d : Nat} {ln sp sn ss : Nat} {c : Nat × Nat} {S : Nat → Nat × Nat} {P : Nat → Nat → Option Nat} {I : FI} {J : FJ} {l1 : Int32} {r : Bool × FI × FJ} (hd : 2 ≤ d) (hw : OH S P ln sp sn ss) (h : Hol_image ln sp sn ss l1 I J = some r) : Go d M_Hol_image 0 [some (.ref 0), some (.int l1), none] [] (c, S, I, J, P) (some (.int (b2i r.1)), false, (c, S, r.2.1, r.2.2, P)) := by
  obtain ⟨d, rfl⟩ : ∃ e, d = e + 1 := ⟨d - 1, by omega⟩
  unfold Hol_image at h
  refine g_iload_n cd162_0 rfl rfl ?_
  refine g_if_eq cd162_1 rfl (fun hb => ?_) (fun hb => ?_)
  · have h := ifpE hb h
    refine g_iload_n cd162_11 rfl rfl ?_
    refine g_if_ne cd162_12 rfl (fun hb => ?_) (fun hb => ?_)
    · have h := ifpE hb h
      refine g_aload_n cd162_15 rfl rfl ?_
      refine g_getP cd162_16 rfl (OH.o hw) (OH.p9 hw) ?_
      refine g_goto (ls2 := [some (.ref 0), some (.int l1), none]) cd162_19 rfl rfl ?_
      refine g_astore_n (ls2 := [some (.ref 0), some (.int l1), some (.ref 142)]) cd162_26 rfl rfl ?_
      refine g_aload_n cd162_27 rfl rfl ?_
      refine g_getP cd162_28 rfl (O4.o (OH.q9 hw)) (show P 142 0 = some 143 from O4.p0 (OH.q9 hw)) ?_
      refine g_aload_n cd162_31 rfl rfl ?_
      refine g_getP cd162_32 rfl (OH.o hw) (OH.p1 hw) ?_
      obtain ⟨x1, hx, h⟩ := bnd h
      refine g_callVV (L := [some (.ref 143), some (.ref ln)]) cd162_35 rfl rfl rfl rfl rfl (O6.o (show O6 S P 143 from O4.q0 (OH.q9 hw))) (t_Land_copy (by omega) (show O6 S P 143 from O4.q0 (OH.q9 hw)) (OH.q1 hw) hx) ?_
      refine g_aload_n cd162_38 rfl rfl ?_
      refine g_getP cd162_39 rfl (O4.o (OH.q9 hw)) (show P 142 1 = some 152 from O4.p1 (OH.q9 hw)) ?_
      refine g_aload_n cd162_42 rfl rfl ?_
      refine g_getP cd162_43 rfl (OH.o hw) (OH.p3 hw) ?_
      obtain ⟨x2, hx, h⟩ := bnd h
      refine g_callVV (L := [some (.ref 152), some (.ref 25)]) cd162_46 rfl rfl rfl rfl rfl (O9.o (show O9 S P 152 from O4.q1 (OH.q9 hw))) (t_State_copy (by omega) (show O9 S P 152 from O4.q1 (OH.q9 hw)) (OH.q3 hw) hx) ?_
      refine g_aload_n cd162_49 rfl rfl ?_
      refine g_getP cd162_50 rfl (O4.o (OH.q9 hw)) (show P 142 2 = some 162 from O4.p2 (OH.q9 hw)) ?_
      refine g_aload_n cd162_53 rfl rfl ?_
      refine g_getP cd162_54 rfl (OH.o hw) (OH.p5 hw) ?_
      obtain ⟨x3, hx, h⟩ := bnd h
      refine g_callVV (L := [some (.ref 162), some (.ref sn)]) cd162_57 rfl rfl rfl rfl rfl (O8.o (show O8 S P 162 from O4.q2 (OH.q9 hw))) (t_Sentence_copy (by omega) (show O8 S P 162 from O4.q2 (OH.q9 hw)) (OH.q5 hw) hx) ?_
      refine g_aload_n cd162_60 rfl rfl ?_
      refine g_iconst cd162_61 rfl ?_
      obtain ⟨I4, e1, h⟩ := bnd h
      refine G_putZ cd162_62 rfl (O4.o (OH.q9 hw)) (Or.inr rfl) (Option.some.inj e1) ?_
      refine g_iconst cd162_65 rfl ?_
      exact g_iret cd162_66 (Or.inr ⟨rfl, Or.inr rfl⟩) (by obtain rfl := Option.some.inj h; rfl)
    · have h := ifnE hb h
      refine g_aload_n cd162_22 rfl rfl ?_
      refine g_getP cd162_23 rfl (OH.o hw) (OH.p10 hw) ?_
      refine g_astore_n (ls2 := [some (.ref 0), some (.int l1), some (.ref 167)]) cd162_26 rfl rfl ?_
      refine g_aload_n cd162_27 rfl rfl ?_
      refine g_getP cd162_28 rfl (O4.o (OH.q10 hw)) (show P 167 0 = some 168 from O4.p0 (OH.q10 hw)) ?_
      refine g_aload_n cd162_31 rfl rfl ?_
      refine g_getP cd162_32 rfl (OH.o hw) (OH.p1 hw) ?_
      obtain ⟨x5, hx, h⟩ := bnd h
      refine g_callVV (L := [some (.ref 168), some (.ref ln)]) cd162_35 rfl rfl rfl rfl rfl (O6.o (show O6 S P 168 from O4.q0 (OH.q10 hw))) (t_Land_copy (by omega) (show O6 S P 168 from O4.q0 (OH.q10 hw)) (OH.q1 hw) hx) ?_
      refine g_aload_n cd162_38 rfl rfl ?_
      refine g_getP cd162_39 rfl (O4.o (OH.q10 hw)) (show P 167 1 = some 177 from O4.p1 (OH.q10 hw)) ?_
      refine g_aload_n cd162_42 rfl rfl ?_
      refine g_getP cd162_43 rfl (OH.o hw) (OH.p3 hw) ?_
      obtain ⟨x6, hx, h⟩ := bnd h
      refine g_callVV (L := [some (.ref 177), some (.ref 25)]) cd162_46 rfl rfl rfl rfl rfl (O9.o (show O9 S P 177 from O4.q1 (OH.q10 hw))) (t_State_copy (by omega) (show O9 S P 177 from O4.q1 (OH.q10 hw)) (OH.q3 hw) hx) ?_
      refine g_aload_n cd162_49 rfl rfl ?_
      refine g_getP cd162_50 rfl (O4.o (OH.q10 hw)) (show P 167 2 = some 187 from O4.p2 (OH.q10 hw)) ?_
      refine g_aload_n cd162_53 rfl rfl ?_
      refine g_getP cd162_54 rfl (OH.o hw) (OH.p5 hw) ?_
      obtain ⟨x7, hx, h⟩ := bnd h
      refine g_callVV (L := [some (.ref 187), some (.ref sn)]) cd162_57 rfl rfl rfl rfl rfl (O8.o (show O8 S P 187 from O4.q2 (OH.q10 hw))) (t_Sentence_copy (by omega) (show O8 S P 187 from O4.q2 (OH.q10 hw)) (OH.q5 hw) hx) ?_
      refine g_aload_n cd162_60 rfl rfl ?_
      refine g_iconst cd162_61 rfl ?_
      obtain ⟨I8, e1, h⟩ := bnd h
      refine G_putZ cd162_62 rfl (O4.o (OH.q10 hw)) (Or.inr rfl) (Option.some.inj e1) ?_
      refine g_iconst cd162_65 rfl ?_
      exact g_iret cd162_66 (Or.inr ⟨rfl, Or.inr rfl⟩) (by obtain rfl := Option.some.inj h; rfl)
  · have h := ifnE hb h
    refine g_iload_n cd162_4 rfl rfl ?_
    refine g_iconst cd162_5 rfl ?_
    refine g_icmp_eq cd162_6 rfl (fun hb => ?_) (fun hb => ?_)
    · have h := ifpE hb h
      refine g_iload_n cd162_11 rfl rfl ?_
      refine g_if_ne cd162_12 rfl (fun hb => ?_) (fun hb => ?_)
      · have h := ifpE hb h
        refine g_aload_n cd162_15 rfl rfl ?_
        refine g_getP cd162_16 rfl (OH.o hw) (OH.p9 hw) ?_
        refine g_goto (ls2 := [some (.ref 0), some (.int l1), none]) cd162_19 rfl rfl ?_
        refine g_astore_n (ls2 := [some (.ref 0), some (.int l1), some (.ref 142)]) cd162_26 rfl rfl ?_
        refine g_aload_n cd162_27 rfl rfl ?_
        refine g_getP cd162_28 rfl (O4.o (OH.q9 hw)) (show P 142 0 = some 143 from O4.p0 (OH.q9 hw)) ?_
        refine g_aload_n cd162_31 rfl rfl ?_
        refine g_getP cd162_32 rfl (OH.o hw) (OH.p1 hw) ?_
        obtain ⟨x9, hx, h⟩ := bnd h
        refine g_callVV (L := [some (.ref 143), some (.ref ln)]) cd162_35 rfl rfl rfl rfl rfl (O6.o (show O6 S P 143 from O4.q0 (OH.q9 hw))) (t_Land_copy (by omega) (show O6 S P 143 from O4.q0 (OH.q9 hw)) (OH.q1 hw) hx) ?_
        refine g_aload_n cd162_38 rfl rfl ?_
        refine g_getP cd162_39 rfl (O4.o (OH.q9 hw)) (show P 142 1 = some 152 from O4.p1 (OH.q9 hw)) ?_
        refine g_aload_n cd162_42 rfl rfl ?_
        refine g_getP cd162_43 rfl (OH.o hw) (OH.p3 hw) ?_
        obtain ⟨x10, hx, h⟩ := bnd h
        refine g_callVV (L := [some (.ref 152), some (.ref 25)]) cd162_46 rfl rfl rfl rfl rfl (O9.o (show O9 S P 152 from O4.q1 (OH.q9 hw))) (t_State_copy (by omega) (show O9 S P 152 from O4.q1 (OH.q9 hw)) (OH.q3 hw) hx) ?_
        refine g_aload_n cd162_49 rfl rfl ?_
        refine g_getP cd162_50 rfl (O4.o (OH.q9 hw)) (show P 142 2 = some 162 from O4.p2 (OH.q9 hw)) ?_
        refine g_aload_n cd162_53 rfl rfl ?_
        refine g_getP cd162_54 rfl (OH.o hw) (OH.p5 hw) ?_
        obtain ⟨x11, hx, h⟩ := bnd h
        refine g_callVV (L := [some (.ref 162), some (.ref sn)]) cd162_57 rfl rfl rfl rfl rfl (O8.o (show O8 S P 162 from O4.q2 (OH.q9 hw))) (t_Sentence_copy (by omega) (show O8 S P 162 from O4.q2 (OH.q9 hw)) (OH.q5 hw) hx) ?_
        refine g_aload_n cd162_60 rfl rfl ?_
        refine g_iconst cd162_61 rfl ?_
        obtain ⟨I12, e1, h⟩ := bnd h
        refine G_putZ cd162_62 rfl (O4.o (OH.q9 hw)) (Or.inr rfl) (Option.some.inj e1) ?_
        refine g_iconst cd162_65 rfl ?_
        exact g_iret cd162_66 (Or.inr ⟨rfl, Or.inr rfl⟩) (by obtain rfl := Option.some.inj h; rfl)
      · have h := ifnE hb h
        refine g_aload_n cd162_22 rfl rfl ?_
        refine g_getP cd162_23 rfl (OH.o hw) (OH.p10 hw) ?_
        refine g_astore_n (ls2 := [some (.ref 0), some (.int l1), some (.ref 167)]) cd162_26 rfl rfl ?_
        refine g_aload_n cd162_27 rfl rfl ?_
        refine g_getP cd162_28 rfl (O4.o (OH.q10 hw)) (show P 167 0 = some 168 from O4.p0 (OH.q10 hw)) ?_
        refine g_aload_n cd162_31 rfl rfl ?_
        refine g_getP cd162_32 rfl (OH.o hw) (OH.p1 hw) ?_
        obtain ⟨x13, hx, h⟩ := bnd h
        refine g_callVV (L := [some (.ref 168), some (.ref ln)]) cd162_35 rfl rfl rfl rfl rfl (O6.o (show O6 S P 168 from O4.q0 (OH.q10 hw))) (t_Land_copy (by omega) (show O6 S P 168 from O4.q0 (OH.q10 hw)) (OH.q1 hw) hx) ?_
        refine g_aload_n cd162_38 rfl rfl ?_
        refine g_getP cd162_39 rfl (O4.o (OH.q10 hw)) (show P 167 1 = some 177 from O4.p1 (OH.q10 hw)) ?_
        refine g_aload_n cd162_42 rfl rfl ?_
        refine g_getP cd162_43 rfl (OH.o hw) (OH.p3 hw) ?_
        obtain ⟨x14, hx, h⟩ := bnd h
        refine g_callVV (L := [some (.ref 177), some (.ref 25)]) cd162_46 rfl rfl rfl rfl rfl (O9.o (show O9 S P 177 from O4.q1 (OH.q10 hw))) (t_State_copy (by omega) (show O9 S P 177 from O4.q1 (OH.q10 hw)) (OH.q3 hw) hx) ?_
        refine g_aload_n cd162_49 rfl rfl ?_
        refine g_getP cd162_50 rfl (O4.o (OH.q10 hw)) (show P 167 2 = some 187 from O4.p2 (OH.q10 hw)) ?_
        refine g_aload_n cd162_53 rfl rfl ?_
        refine g_getP cd162_54 rfl (OH.o hw) (OH.p5 hw) ?_
        obtain ⟨x15, hx, h⟩ := bnd h
        refine g_callVV (L := [some (.ref 187), some (.ref sn)]) cd162_57 rfl rfl rfl rfl rfl (O8.o (show O8 S P 187 from O4.q2 (OH.q10 hw))) (t_Sentence_copy (by omega) (show O8 S P 187 from O4.q2 (OH.q10 hw)) (OH.q5 hw) hx) ?_
        refine g_aload_n cd162_60 rfl rfl ?_
        refine g_iconst cd162_61 rfl ?_
        obtain ⟨I16, e1, h⟩ := bnd h
        refine G_putZ cd162_62 rfl (O4.o (OH.q10 hw)) (Or.inr rfl) (Option.some.inj e1) ?_
        refine g_iconst cd162_65 rfl ?_
        exact g_iret cd162_66 (Or.inr ⟨rfl, Or.inr rfl⟩) (by obtain rfl := Option.some.inj h; rfl)
    · have h := ifnE hb h
      refine g_iconst cd162_9 rfl ?_
      exact g_iret cd162_10 (Or.inr ⟨rfl, Or.inl rfl⟩) (by obtain rfl := Option.some.inj h; rfl)

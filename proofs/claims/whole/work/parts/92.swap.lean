/-! the two ops that change places: rows of the small machine -/
theorem cd125_0 : code9 125 0 = some (0, .aload_n 0, [1], .null, []) := rfl
theorem cd125_1 : code9 125 1 = some (0, .getfield 23, [3, 11, 2, 2], .null, []) := rfl
theorem cd125_4 : code9 125 4 = some (0, .aload_n 0, [1], .null, []) := rfl
theorem cd125_5 : code9 125 5 = some (0, .getfield 10, [3, 11, 0, 2], .null, []) := rfl
theorem cd125_8 : code9 125 8 = some (0, .invokevirtual 122, [3, 36, 2, 1, 3, 3, 6, 0], .null, []) := rfl
theorem cd125_11 : code9 125 11 = some (0, .istore_n 1, [1], .null, []) := rfl
theorem cd125_12 : code9 125 12 = some (0, .aload_n 0, [1], .null, []) := rfl
theorem cd125_13 : code9 125 13 = some (0, .getfield 10, [3, 11, 0, 2], .null, []) := rfl
theorem cd125_16 : code9 125 16 = some (0, .iconst 0, [1], .int 0, []) := rfl
theorem cd125_17 : code9 125 17 = some (0, .putfield 115, [3, 10, 5, 0], .null, []) := rfl
theorem cd125_20 : code9 125 20 = some (0, .aload_n 0, [1], .null, []) := rfl
theorem cd125_21 : code9 125 21 = some (0, .aload_n 0, [1], .null, []) := rfl
theorem cd125_22 : code9 125 22 = some (0, .getfield 10, [3, 11, 0, 2], .null, []) := rfl
theorem cd125_25 : code9 125 25 = some (0, .getfield 126, [3, 10, 14, 0], .null, []) := rfl
theorem cd125_28 : code9 125 28 = some (0, .putfield 105, [3, 11, 17, 0], .null, []) := rfl
theorem cd125_31 : code9 125 31 = some (0, .iload_n 1, [1], .null, []) := rfl
theorem cd125_32 : code9 125 32 = some (0, .ifCond .ne 13, [3, 45], .null, []) := rfl
theorem cd125_35 : code9 125 35 = some (0, .iconst (-1), [1], .int (-1), []) := rfl
theorem cd125_36 : code9 125 36 = some (0, .aload_n 0, [1], .null, []) := rfl
theorem cd125_37 : code9 125 37 = some (0, .getfield 10, [3, 11, 0, 2], .null, []) := rfl
theorem cd125_40 : code9 125 40 = some (0, .getfield 127, [3, 10, 15, 0], .null, []) := rfl
theorem cd125_43 : code9 125 43 = some (0, .isub, [1], .null, []) := rfl
theorem cd125_44 : code9 125 44 = some (0, .ireturn, [1, 1], .null, []) := rfl
theorem cd125_45 : code9 125 45 = some (0, .aload_n 0, [1], .null, []) := rfl
theorem cd125_46 : code9 125 46 = some (0, .getfield 19, [3, 11, 1, 2], .null, []) := rfl
theorem cd125_49 : code9 125 49 = some (0, .astore_n 2, [1], .null, []) := rfl
theorem cd125_50 : code9 125 50 = some (0, .aload_n 0, [1], .null, []) := rfl
theorem cd125_51 : code9 125 51 = some (0, .aload_n 0, [1], .null, []) := rfl
theorem cd125_52 : code9 125 52 = some (0, .getfield 23, [3, 11, 2, 2], .null, []) := rfl
theorem cd125_55 : code9 125 55 = some (0, .putfield 19, [3, 11, 1, 2], .null, []) := rfl
theorem cd125_58 : code9 125 58 = some (0, .aload_n 0, [1], .null, []) := rfl
theorem cd125_59 : code9 125 59 = some (0, .aload_n 2, [1], .null, []) := rfl
theorem cd125_60 : code9 125 60 = some (0, .putfield 23, [3, 11, 2, 2], .null, []) := rfl
theorem cd125_63 : code9 125 63 = some (0, .aload_n 0, [1], .null, []) := rfl
theorem cd125_64 : code9 125 64 = some (0, .getfield 29, [3, 11, 3, 2], .null, []) := rfl
theorem cd125_67 : code9 125 67 = some (0, .aload_n 0, [1], .null, []) := rfl
theorem cd125_68 : code9 125 68 = some (0, .getfield 19, [3, 11, 1, 2], .null, []) := rfl
theorem cd125_71 : code9 125 71 = some (0, .invokevirtual 130, [3, 81, 2, 1, 0, 3, 9, 0], .null, []) := rfl
theorem cd125_74 : code9 125 74 = some (0, .aload_n 0, [1], .null, []) := rfl
theorem cd125_75 : code9 125 75 = some (0, .getfield 39, [3, 11, 5, 2], .null, []) := rfl
theorem cd125_78 : code9 125 78 = some (0, .invokevirtual 134, [3, 66, 1, 1, 0, 1, 8, 0], .null, []) := rfl
theorem cd125_81 : code9 125 81 = some (0, .aload_n 0, [1], .null, []) := rfl
theorem cd125_82 : code9 125 82 = some (0, .getfield 56, [3, 11, 8, 2], .null, []) := rfl
theorem cd125_85 : code9 125 85 = some (0, .invokevirtual 137, [3, 24, 1, 1, 0, 1, 3, 0], .null, []) := rfl
theorem cd125_88 : code9 125 88 = some (0, .aload_n 0, [1], .null, []) := rfl
theorem cd125_89 : code9 125 89 = some (0, .getfield 19, [3, 11, 1, 2], .null, []) := rfl
theorem cd125_92 : code9 125 92 = some (0, .getfield 138, [3, 6, 14, 0], .null, []) := rfl
theorem cd125_95 : code9 125 95 = some (0, .ireturn, [1, 1], .null, []) := rfl
theorem cd160_0 : code9 160 0 = some (0, .aload_n 0, [1], .null, []) := rfl
theorem cd160_1 : code9 160 1 = some (0, .getfield 43, [3, 11, 6, 2], .null, []) := rfl
theorem cd160_4 : code9 160 4 = some (0, .aload_n 0, [1], .null, []) := rfl
theorem cd160_5 : code9 160 5 = some (0, .getfield 10, [3, 11, 0, 2], .null, []) := rfl
theorem cd160_8 : code9 160 8 = some (0, .aload_n 0, [1], .null, []) := rfl
theorem cd160_9 : code9 160 9 = some (0, .getfield 19, [3, 11, 1, 2], .null, []) := rfl
theorem cd160_12 : code9 160 12 = some (0, .invokevirtual 361, [3, 67, 3, 1, 3, 3, 8, 0], .null, []) := rfl
theorem cd160_15 : code9 160 15 = some (0, .istore_n 1, [1], .null, []) := rfl
theorem cd160_16 : code9 160 16 = some (0, .aload_n 0, [1], .null, []) := rfl
theorem cd160_17 : code9 160 17 = some (0, .getfield 10, [3, 11, 0, 2], .null, []) := rfl
theorem cd160_20 : code9 160 20 = some (0, .iconst 0, [1], .int 0, []) := rfl
theorem cd160_21 : code9 160 21 = some (0, .putfield 115, [3, 10, 5, 0], .null, []) := rfl
theorem cd160_24 : code9 160 24 = some (0, .aload_n 0, [1], .null, []) := rfl
theorem cd160_25 : code9 160 25 = some (0, .aload_n 0, [1], .null, []) := rfl
theorem cd160_26 : code9 160 26 = some (0, .getfield 10, [3, 11, 0, 2], .null, []) := rfl
theorem cd160_29 : code9 160 29 = some (0, .getfield 126, [3, 10, 14, 0], .null, []) := rfl
theorem cd160_32 : code9 160 32 = some (0, .putfield 105, [3, 11, 17, 0], .null, []) := rfl
theorem cd160_35 : code9 160 35 = some (0, .iload_n 1, [1], .null, []) := rfl
theorem cd160_36 : code9 160 36 = some (0, .ifCond .ne 13, [3, 49], .null, []) := rfl
theorem cd160_39 : code9 160 39 = some (0, .iconst (-1), [1], .int (-1), []) := rfl
theorem cd160_40 : code9 160 40 = some (0, .aload_n 0, [1], .null, []) := rfl
theorem cd160_41 : code9 160 41 = some (0, .getfield 10, [3, 11, 0, 2], .null, []) := rfl
theorem cd160_44 : code9 160 44 = some (0, .getfield 127, [3, 10, 15, 0], .null, []) := rfl
theorem cd160_47 : code9 160 47 = some (0, .isub, [1], .null, []) := rfl
theorem cd160_48 : code9 160 48 = some (0, .ireturn, [1, 1], .null, []) := rfl
theorem cd160_49 : code9 160 49 = some (0, .aload_n 0, [1], .null, []) := rfl
theorem cd160_50 : code9 160 50 = some (0, .getfield 39, [3, 11, 5, 2], .null, []) := rfl
theorem cd160_53 : code9 160 53 = some (0, .astore_n 2, [1], .null, []) := rfl
theorem cd160_54 : code9 160 54 = some (0, .aload_n 0, [1], .null, []) := rfl
theorem cd160_55 : code9 160 55 = some (0, .aload_n 0, [1], .null, []) := rfl
theorem cd160_56 : code9 160 56 = some (0, .getfield 43, [3, 11, 6, 2], .null, []) := rfl
theorem cd160_59 : code9 160 59 = some (0, .putfield 39, [3, 11, 5, 2], .null, []) := rfl
theorem cd160_62 : code9 160 62 = some (0, .aload_n 0, [1], .null, []) := rfl
theorem cd160_63 : code9 160 63 = some (0, .aload_n 2, [1], .null, []) := rfl
theorem cd160_64 : code9 160 64 = some (0, .putfield 43, [3, 11, 6, 2], .null, []) := rfl
theorem cd160_67 : code9 160 67 = some (0, .aload_n 0, [1], .null, []) := rfl
theorem cd160_68 : code9 160 68 = some (0, .getfield 39, [3, 11, 5, 2], .null, []) := rfl
theorem cd160_71 : code9 160 71 = some (0, .getfield 362, [3, 8, 5, 0], .null, []) := rfl
theorem cd160_74 : code9 160 74 = some (0, .ireturn, [1, 1], .null, []) := rfl
section Q92
variable {S : Nat → Nat × Nat} {P P' : Nat → Nat → Option Nat} {a N ln sp sn ss : Nat}
theorem O0.of (h : O0 S P a) (e : ∀ x k, x ≠ 0 → P' x k = P x k) (ha : a ≠ 0) : O0 S P' a := by
  unfold O0 at *
  rw [e a 0 ha]
  exact h
theorem O1.of (h : O1 S P a) (e : ∀ x k, x ≠ 0 → P' x k = P x k) (ha : a ≠ 0) : O1 S P' a := by
  unfold O1 at *
  rw [e a 0 ha, e a 1 ha, e a 2 ha, e a 3 ha]
  exact h
theorem O5.of (h : O5 S P a) (e : ∀ x k, x ≠ 0 → P' x k = P x k) (ha : a ≠ 0) : O5 S P' a := by
  unfold O5 at *
  rw [e a 0 ha]
  exact h
theorem O6.of (h : O6 S P a) (e : ∀ x k, x ≠ 0 → P' x k = P x k) (ha : a ≠ 0) : O6 S P' a := by
  unfold O6 at *
  rw [e a 0 ha, e a 1 ha, e a 2 ha, e a 3 ha, e a 4 ha, e a 5 ha, e a 6 ha, e a 7 ha]
  exact h
theorem O7.of (h : O7 S P a) (e : ∀ x k, x ≠ 0 → P' x k = P x k) (ha : a ≠ 0) : O7 S P' a := by
  unfold O7 at *
  rw [e a 0 ha, e a 1 ha, e a 2 ha, e a 3 ha]
  exact h
theorem O8.of (h : O8 S P a) (e : ∀ x k, x ≠ 0 → P' x k = P x k) (ha : a ≠ 0) : O8 S P' a := by
  unfold O8 at *
  rw [e a 0 ha, e a 1 ha, e a 2 ha, e a 3 ha]
  exact h
theorem O9.of (h : O9 S P a) (e : ∀ x k, x ≠ 0 → P' x k = P x k) (ha : a ≠ 0) : O9 S P' a := by
  unfold O9 at *
  rw [e a 0 ha, e a 1 ha, e a 2 ha, e a 3 ha, e a 4 ha, e a 5 ha, e a 6 ha, e a 7 ha, e a 8 ha]
  exact h
theorem O10.of (h : O10 S P a) (e : ∀ x k, x ≠ 0 → P' x k = P x k) (ha : a ≠ 0) : O10 S P' a := by
  unfold O10 at *
  rw [e a 0 ha, e a 1 ha, e a 2 ha, e a 3 ha, e a 4 ha]
  exact h
theorem O3.of (h : O3 S P a) (e : ∀ x k, x ≠ 0 → P' x k = P x k) (ha : a ≠ 0) : O3 S P' a := by
  obtain ⟨h1, ⟨h2, h3⟩, h4⟩ := h
  exact ⟨h1, ⟨by rw [e a 0 ha]; exact h2, h3⟩, fun i hi => ⟨by rw [e _ _ (by omega)]; exact (h4 i hi).1, (h4 i hi).2.of e (by omega)⟩⟩
theorem O4.of (h : O4 S P a) (e : ∀ x k, x ≠ 0 → P' x k = P x k) (ha : a ≠ 0) : O4 S P' a := by
  obtain ⟨h1, ⟨h2, h3⟩, ⟨h4, h5⟩, ⟨h6, h7⟩⟩ := h
  exact ⟨h1, ⟨by rw [e a 0 ha]; exact h2, h3.of e (by omega)⟩, ⟨by rw [e a 1 ha]; exact h4, h5.of e (by omega)⟩, ⟨by rw [e a 2 ha]; exact h6, h7.of e (by omega)⟩⟩
theorem OH.of {ln2 sp2 sn2 ss2 : Nat} (h : OH S P ln sp sn ss) (e : ∀ x k, x ≠ 0 → P' x k = P x k) (e0 : ∀ k, k ≠ 1 → k ≠ 2 → k ≠ 5 → k ≠ 6 → P' 0 k = P 0 k) (h1 : P' 0 1 = some ln2 ∧ O6 S P' ln2) (h2 : P' 0 2 = some sp2 ∧ O6 S P' sp2) (h5 : P' 0 5 = some sn2 ∧ O8 S P' sn2) (h6 : P' 0 6 = some ss2 ∧ O8 S P' ss2) : OH S P' ln2 sp2 sn2 ss2 :=
  ⟨OH.o h, ⟨by rw [e0 _ (by omega) (by omega) (by omega) (by omega)]; exact OH.p0 h, (OH.q0 h).of e (by omega)⟩, h1, h2, ⟨by rw [e0 _ (by omega) (by omega) (by omega) (by omega)]; exact OH.p3 h, (OH.q3 h).of e (by omega)⟩, ⟨by rw [e0 _ (by omega) (by omega) (by omega) (by omega)]; exact OH.p4 h, (OH.q4 h).of e (by omega)⟩, h5, h6, ⟨by rw [e0 _ (by omega) (by omega) (by omega) (by omega)]; exact OH.p7 h, (OH.q7 h).of e (by omega)⟩, ⟨by rw [e0 _ (by omega) (by omega) (by omega) (by omega)]; exact OH.p8 h, (OH.q8 h).of e (by omega)⟩, ⟨by rw [e0 _ (by omega) (by omega) (by omega) (by omega)]; exact OH.p9 h, (OH.q9 h).of e (by omega)⟩, ⟨by rw [e0 _ (by omega) (by omega) (by omega) (by omega)]; exact OH.p10 h, (OH.q10 h).of e (by omega)⟩, ⟨by rw [e0 _ (by omega) (by omega) (by omega) (by omega)]; exact OH.p11 h, (show O2 S P 192 from OH.q11 h)⟩, ⟨by rw [e0 _ (by omega) (by omega) (by omega) (by omega)]; exact OH.p12 h, (OH.q12 h).of e (by omega)⟩, ⟨by rw [e0 _ (by omega) (by omega) (by omega) (by omega)]; exact OH.p13 h, (OH.q13 h).of e (by omega)⟩, ⟨by rw [e0 _ (by omega) (by omega) (by omega) (by omega)]; exact OH.p14 h, (OH.q14 h).of e (by omega)⟩, ⟨by rw [e0 _ (by omega) (by omega) (by omega) (by omega)]; exact OH.p15 h, OH.s15 h⟩, ⟨by rw [e0 _ (by omega) (by omega) (by omega) (by omega)]; exact OH.p16 h, OH.s16 h⟩⟩
/-- the two lands change places; the two sentences -/
def swL (P : Nat → Nat → Option Nat) (ln sp : Nat) : Nat → Nat → Option Nat := up2 (up2 P 0 1 (some sp)) 0 2 (some ln)
def swS (P : Nat → Nat → Option Nat) (sn ss : Nat) : Nat → Nat → Option Nat := up2 (up2 P 0 5 (some ss)) 0 6 (some sn)
theorem OH.chL (h : OH S P ln sp sn ss) (h1 : ln ≠ 0) (h2 : sp ≠ 0) (h3 : sn ≠ 0) (h4 : ss ≠ 0) : OH S (swL P ln sp) sp ln sn ss := by
  have e : ∀ x k, x ≠ 0 → swL P ln sp x k = P x k := fun x k hx => by
    show up2 (up2 P 0 1 (some sp)) 0 2 (some ln) x k = P x k
    rw [up2_ff (by omega), up2_ff (by omega)]
  refine h.of e (fun k a b _ _ => ?_) ⟨?_, (OH.q2 h).of e h2⟩ ⟨?_, (OH.q1 h).of e h1⟩ ⟨?_, (OH.q5 h).of e h3⟩ ⟨?_, (OH.q6 h).of e h4⟩
  · show up2 (up2 P 0 1 (some sp)) 0 2 (some ln) 0 k = P 0 k
    rw [up2_ff (by omega), up2_ff (by omega)]
  · show up2 (up2 P 0 1 (some sp)) 0 2 (some ln) 0 1 = _
    rw [up2_ff (by omega), u_s]
  · show up2 (up2 P 0 1 (some sp)) 0 2 (some ln) 0 2 = _
    rw [u_s]
  · show up2 (up2 P 0 1 (some sp)) 0 2 (some ln) 0 5 = _
    rw [up2_ff (by omega), up2_ff (by omega)]; exact OH.p5 h
  · show up2 (up2 P 0 1 (some sp)) 0 2 (some ln) 0 6 = _
    rw [up2_ff (by omega), up2_ff (by omega)]; exact OH.p6 h
theorem OH.chS (h : OH S P ln sp sn ss) (h1 : ln ≠ 0) (h2 : sp ≠ 0) (h3 : sn ≠ 0) (h4 : ss ≠ 0) : OH S (swS P sn ss) ln sp ss sn := by
  have e : ∀ x k, x ≠ 0 → swS P sn ss x k = P x k := fun x k hx => by
    show up2 (up2 P 0 5 (some ss)) 0 6 (some sn) x k = P x k
    rw [up2_ff (by omega), up2_ff (by omega)]
  refine h.of e (fun k _ _ a b => ?_) ⟨?_, (OH.q1 h).of e h1⟩ ⟨?_, (OH.q2 h).of e h2⟩ ⟨?_, (OH.q6 h).of e h4⟩ ⟨?_, (OH.q5 h).of e h3⟩
  · show up2 (up2 P 0 5 (some ss)) 0 6 (some sn) 0 k = P 0 k
    rw [up2_ff (by omega), up2_ff (by omega)]
  · show up2 (up2 P 0 5 (some ss)) 0 6 (some sn) 0 1 = _
    rw [up2_ff (by omega), up2_ff (by omega)]; exact OH.p1 h
  · show up2 (up2 P 0 5 (some ss)) 0 6 (some sn) 0 2 = _
    rw [up2_ff (by omega), up2_ff (by omega)]; exact OH.p2 h
  · show up2 (up2 P 0 5 (some ss)) 0 6 (some sn) 0 5 = _
    rw [up2_ff (by omega), u_s]
  · show up2 (up2 P 0 5 (some ss)) 0 6 (some sn) 0 6 = _
    rw [u_s]
theorem t_Hol_field {d : Nat} {c : Nat × Nat} {I : FI} {J : FJ} {r : Int32 × Bool × FI × FJ} (hd : 7 ≤ d) (hw : OH S P ln sp sn ss) (h1 : ln ≠ 0) (h2 : sp ≠ 0) (h3 : sn ≠ 0) (h4 : ss ≠ 0) (h : Fld N sp sn I J = some r) : Go d M_Hol_field 0 [some (.ref 0), none, none] [] (c, S, I, J, P) (some (.int r.1), false, (c, S, r.2.2.1, r.2.2.2, if r.2.1 = true then swL P ln sp else P)) := by
  obtain ⟨d, rfl⟩ : ∃ e, d = e + 1 := ⟨d - 1, by omega⟩
  unfold Fld at h
  refine g_aload_n cd125_0 rfl rfl ?_
  refine g_getP cd125_1 rfl (OH.o hw) (OH.p2 hw) ?_
  refine g_aload_n cd125_4 rfl rfl ?_
  refine g_getP cd125_5 rfl (OH.o hw) (OH.p0 hw) ?_
  obtain ⟨x1, hx, h⟩ := bnd h
  refine g_callVZ (L := [some (.ref sp), some (.ref 1), none]) cd125_8 rfl rfl rfl rfl rfl (O6.o (OH.q2 hw)) (t_Land_read (by omega) (OH.q2 hw) (OH.q0 hw) hx) ?_
  refine g_istore_n (ls2 := [some (.ref 0), some (.int (b2i x1.1)), none]) cd125_11 rfl rfl ?_
  refine g_aload_n cd125_12 rfl rfl ?_
  refine g_getP cd125_13 rfl (OH.o hw) (OH.p0 hw) ?_
  refine g_iconst cd125_16 rfl ?_
  obtain ⟨I2, e1, h⟩ := bnd h
  refine G_putI cd125_17 rfl (O10.o (OH.q0 hw)) (Option.some.inj e1) ?_
  refine g_aload_n cd125_20 rfl rfl ?_
  refine g_aload_n cd125_21 rfl rfl ?_
  refine g_getP cd125_22 rfl (OH.o hw) (OH.p0 hw) ?_
  refine g_getI cd125_25 rfl (O10.o (OH.q0 hw)) ?_
  obtain ⟨I3, e1, h⟩ := bnd h
  refine G_putI cd125_28 rfl (OH.o hw) (Option.some.inj e1) ?_
  refine g_iload_n cd125_31 rfl rfl ?_
  refine g_if_ne cd125_32 rfl (fun hb => ?_) (fun hb => ?_)
  · have h := ifnE (b2i_f hb) h
    refine g_iconst cd125_35 rfl ?_
    refine g_aload_n cd125_36 rfl rfl ?_
    refine g_getP cd125_37 rfl (OH.o hw) (OH.p0 hw) ?_
    refine g_getI cd125_40 rfl (O10.o (OH.q0 hw)) ?_
    refine g_isub cd125_43 rfl ?_
    exact g_iret cd125_44 (Or.inl rfl) (by obtain rfl := Option.some.inj h; rfl)
  · have h := ifpE (b2i_t hb) h
    have hw' : OH S (up2 (up2 P 0 1 (some sp)) 0 2 (some ln)) sp ln sn ss := OH.chL hw h1 h2 h3 h4
    refine g_aload_n cd125_45 rfl rfl ?_
    refine g_getP cd125_46 rfl (OH.o hw) (OH.p1 hw) ?_
    refine g_astore_n (ls2 := [some (.ref 0), some (.int (b2i x1.1)), some (.ref ln)]) cd125_49 rfl rfl ?_
    refine g_aload_n cd125_50 rfl rfl ?_
    refine g_aload_n cd125_51 rfl rfl ?_
    refine g_getP cd125_52 rfl (OH.o hw) (OH.p2 hw) ?_
    refine g_putP cd125_55 rfl (OH.o hw) ?_
    refine g_aload_n cd125_58 rfl rfl ?_
    refine g_aload_n cd125_59 rfl rfl ?_
    refine g_putP cd125_60 rfl (OH.o hw) ?_
    refine g_aload_n cd125_63 rfl rfl ?_
    refine g_getP cd125_64 rfl (OH.o hw') (OH.p3 hw') ?_
    refine g_aload_n cd125_67 rfl rfl ?_
    refine g_getP cd125_68 rfl (OH.o hw') (OH.p1 hw') ?_
    obtain ⟨x4, hx, h⟩ := bnd h
    refine g_callVV (L := [some (.ref 25), some (.ref sp), none]) cd125_71 rfl rfl rfl rfl rfl (O9.o (OH.q3 hw')) (t_State_begin (by omega) (OH.q3 hw') (OH.q1 hw') hx) ?_
    refine g_aload_n cd125_74 rfl rfl ?_
    refine g_getP cd125_75 rfl (OH.o hw') (OH.p5 hw') ?_
    obtain ⟨x5, hx, h⟩ := bnd h
    refine g_callVV (L := [some (.ref sn)]) cd125_78 rfl rfl rfl rfl rfl (O8.o (OH.q5 hw')) (t_Sentence_clear (by omega) (OH.q5 hw') hx) ?_
    refine g_aload_n cd125_81 rfl rfl ?_
    refine g_getP cd125_82 rfl (OH.o hw') (OH.p8 hw') ?_
    obtain ⟨x6, hx, h⟩ := bnd h
    refine g_callVV (L := [some (.ref 60)]) cd125_85 rfl rfl rfl rfl rfl (O3.o (OH.q8 hw')) (t_History_clear (by omega) (OH.q8 hw') hx) ?_
    refine g_aload_n cd125_88 rfl rfl ?_
    refine g_getP cd125_89 rfl (OH.o hw') (OH.p1 hw') ?_
    refine g_getI cd125_92 rfl (O6.o (OH.q1 hw')) ?_
    exact g_iret cd125_95 (Or.inl rfl) (by obtain rfl := Option.some.inj h; rfl)
theorem t_Hol_sentence {d : Nat} {c : Nat × Nat} {I : FI} {J : FJ} {r : Int32 × Bool × FI × FJ} (hd : 196 ≤ d) (hw : OH S P ln sp sn ss) (h1 : ln ≠ 0) (h2 : sp ≠ 0) (h3 : sn ≠ 0) (h4 : ss ≠ 0) (h : Snt N ln ss I J = some r) : Go d M_Hol_sentence 0 [some (.ref 0), none, none] [] (c, S, I, J, P) (some (.int r.1), false, (c, S, r.2.2.1, r.2.2.2, if r.2.1 = true then swS P sn ss else P)) := by
  obtain ⟨d, rfl⟩ : ∃ e, d = e + 1 := ⟨d - 1, by omega⟩
  unfold Snt at h
  refine g_aload_n cd160_0 rfl rfl ?_
  refine g_getP cd160_1 rfl (OH.o hw) (OH.p6 hw) ?_
  refine g_aload_n cd160_4 rfl rfl ?_
  refine g_getP cd160_5 rfl (OH.o hw) (OH.p0 hw) ?_
  refine g_aload_n cd160_8 rfl rfl ?_
  refine g_getP cd160_9 rfl (OH.o hw) (OH.p1 hw) ?_
  obtain ⟨x1, hx, h⟩ := bnd h
  refine g_callVZ (L := [some (.ref ss), some (.ref 1), some (.ref ln)]) cd160_12 rfl rfl rfl rfl rfl (O8.o (OH.q6 hw)) (t_Sentence_read (by omega) (OH.q6 hw) (OH.q0 hw) (OH.q1 hw) hx) ?_
  refine g_istore_n (ls2 := [some (.ref 0), some (.int (b2i x1.1)), none]) cd160_15 rfl rfl ?_
  refine g_aload_n cd160_16 rfl rfl ?_
  refine g_getP cd160_17 rfl (OH.o hw) (OH.p0 hw) ?_
  refine g_iconst cd160_20 rfl ?_
  obtain ⟨I2, e1, h⟩ := bnd h
  refine G_putI cd160_21 rfl (O10.o (OH.q0 hw)) (Option.some.inj e1) ?_
  refine g_aload_n cd160_24 rfl rfl ?_
  refine g_aload_n cd160_25 rfl rfl ?_
  refine g_getP cd160_26 rfl (OH.o hw) (OH.p0 hw) ?_
  refine g_getI cd160_29 rfl (O10.o (OH.q0 hw)) ?_
  obtain ⟨I3, e1, h⟩ := bnd h
  refine G_putI cd160_32 rfl (OH.o hw) (Option.some.inj e1) ?_
  refine g_iload_n cd160_35 rfl rfl ?_
  refine g_if_ne cd160_36 rfl (fun hb => ?_) (fun hb => ?_)
  · have h := ifnE (b2i_f hb) h
    refine g_iconst cd160_39 rfl ?_
    refine g_aload_n cd160_40 rfl rfl ?_
    refine g_getP cd160_41 rfl (OH.o hw) (OH.p0 hw) ?_
    refine g_getI cd160_44 rfl (O10.o (OH.q0 hw)) ?_
    refine g_isub cd160_47 rfl ?_
    exact g_iret cd160_48 (Or.inl rfl) (by obtain rfl := Option.some.inj h; rfl)
  · have h := ifpE (b2i_t hb) h
    have hw' : OH S (up2 (up2 P 0 5 (some ss)) 0 6 (some sn)) ln sp ss sn := OH.chS hw h1 h2 h3 h4
    refine g_aload_n cd160_49 rfl rfl ?_
    refine g_getP cd160_50 rfl (OH.o hw) (OH.p5 hw) ?_
    refine g_astore_n (ls2 := [some (.ref 0), some (.int (b2i x1.1)), some (.ref sn)]) cd160_53 rfl rfl ?_
    refine g_aload_n cd160_54 rfl rfl ?_
    refine g_aload_n cd160_55 rfl rfl ?_
    refine g_getP cd160_56 rfl (OH.o hw) (OH.p6 hw) ?_
    refine g_putP cd160_59 rfl (OH.o hw) ?_
    refine g_aload_n cd160_62 rfl rfl ?_
    refine g_aload_n cd160_63 rfl rfl ?_
    refine g_putP cd160_64 rfl (OH.o hw) ?_
    refine g_aload_n cd160_67 rfl rfl ?_
    refine g_getP cd160_68 rfl (OH.o hw') (OH.p5 hw') ?_
    refine g_getI cd160_71 rfl (O8.o (OH.q5 hw')) ?_
    exact g_iret cd160_74 (Or.inl rfl) (by obtain rfl := Option.some.inj h; rfl)
end Q92

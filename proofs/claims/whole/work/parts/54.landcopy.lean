/-! a land copied: the book's side -/
theorem O_60 : (Int32.ofNat 60).toNatClampNeg = 60 := id rfl
theorem O_12 : (Int32.ofNat 12).toNatClampNeg = 12 := id rfl
theorem O_3 : (Int32.ofNat 3).toNatClampNeg = 3 := id rfl
theorem O_9 : (Int32.ofNat 9).toNatClampNeg = 9 := id rfl
set_option maxRecDepth 8000 in
theorem land_e {a b : Nat} (h : a + 9 ≤ b ∨ b + 9 ≤ a) (I : FI) (J : FJ) : ∃ I1 J1, Land_copy a b I J = some (I1, J1) ∧ (∀ nF nE w, nF ≤ 10 → nE ≤ 6 → LdR b nF nE I w → LdR a nF nE I1 w) ∧ (∀ q j, q < a ∨ a + 8 < q → I1 q j = I q j) ∧ (∀ q j, q < a ∨ a + 8 < q → J1 q j = J q j) ∧ (∀ k, k < 6 → J1 (a + 1) k = J (b + 1) k) ∧ (∀ k, k < 10 → J1 (a + 2) k = J (b + 2) k) ∧ (∀ k, k < 6 → J1 (a + 3) k = J (b + 3) k) := by
  have e : ∃ r, Land_copy a b I J = some r := by
    unfold Land_copy
    simp (disch := omega) only [ifT, Option.bind_some, Option.some.injEq, exists_eq']
  obtain ⟨⟨I1, J1⟩, e⟩ := e
  refine ⟨I1, J1, e, ?_⟩
  unfold Land_copy at e
  simp (disch := omega) only [ifT, Option.bind_some, T_0, O_3, O_6, O_9, O_10, O_12, O_60, Option.some.injEq, Prod.mk.injEq] at e
  obtain ⟨rfl, rfl⟩ := e
  refine ⟨fun nF nE w hF hE hL => ?_, fun q j hq => ?_, fun q j hq => ?_, fun k hk => ?_, fun k hk => ?_, fun k hk => ?_⟩
  · obtain ⟨⟨a1, a2, a3, a4, a5, a6⟩, g1, g2, g3, g4, g5⟩ := hL
    refine ⟨⟨?_, ?_, ?_, ?_, ?_, ?_⟩, fun k hk => ?_, fun k hk => ?_, fun k hk => ?_, fun k hk => ⟨?_, ?_, ?_, ?_, ?_, ?_⟩, fun k hk => ⟨?_, ?_⟩⟩
    · simp (disch := omega) only [u_s, u_j, u_o, cp2_o]; exact a1
    · simp (disch := omega) only [u_s, u_j, u_o, cp2_o]; exact a2
    · simp (disch := omega) only [u_s, u_j, u_o, cp2_o]; exact a3
    · simp (disch := omega) only [u_s, u_j, u_o, cp2_o]; exact a4
    · simp (disch := omega) only [u_s, u_j, u_o, cp2_o]; exact a5
    · simp (disch := omega) only [u_s, u_j, u_o, cp2_o]; exact a6
    · simp (disch := omega) only [u_o, cp2_o, cp2_i, Nat.zero_add, Nat.sub_zero]; exact g1 k hk
    · simp (disch := omega) only [u_o, cp2_o, cp2_i, Nat.zero_add, Nat.sub_zero]; exact g2 k hk
    · simp (disch := omega) only [u_o, cp2_o, cp2_i, Nat.zero_add, Nat.sub_zero]; exact g3 k hk
    · simp (disch := omega) only [u_o, cp2_o, cp2_i, Nat.zero_add, Nat.sub_zero]; exact (g4 k hk).1
    · simp (disch := omega) only [u_o, cp2_o, cp2_i, Nat.zero_add, Nat.sub_zero]; exact (g4 k hk).2.1
    · simp (disch := omega) only [u_o, cp2_o, cp2_i, Nat.zero_add, Nat.sub_zero]; exact (g4 k hk).2.2.1
    · simp (disch := omega) only [u_o, cp2_o, cp2_i, Nat.zero_add, Nat.sub_zero]; exact (g4 k hk).2.2.2.1
    · simp (disch := omega) only [u_o, cp2_o, cp2_i, Nat.zero_add, Nat.sub_zero]; exact (g4 k hk).2.2.2.2.1
    · simp (disch := omega) only [u_o, cp2_o, cp2_i, Nat.zero_add, Nat.sub_zero]; exact (g4 k hk).2.2.2.2.2
    · simp (disch := omega) only [u_o, cp2_o, cp2_i, Nat.zero_add, Nat.sub_zero]; exact (g5 k hk).1
    · simp (disch := omega) only [u_o, cp2_o, cp2_i, Nat.zero_add, Nat.sub_zero]; exact (g5 k hk).2
  · simp (disch := omega) only [u_o, cp2_o]
  · simp (disch := omega) only [cp2_o]
  · simp (disch := omega) only [cp2_o, cp2_i, Nat.zero_add, Nat.sub_zero]
  · simp (disch := omega) only [cp2_o, cp2_i, Nat.zero_add, Nat.sub_zero]
  · simp (disch := omega) only [cp2_o, cp2_i, Nat.zero_add, Nat.sub_zero]
/-- a sentence copied -/
theorem sent_e {a b : Nat} (h : a + 4 ≤ b ∨ b + 4 ≤ a) (I : FI) : ∃ I1, Sentence_copy a b I = some I1 ∧ (∀ k, k < 40 → I1 (a + 1) k = I (b + 1) k ∧ I1 (a + 2) k = I (b + 2) k ∧ I1 (a + 3) k = I (b + 3) k) ∧ I1 a 4 = I b 4 ∧ I1 a 5 = I b 5 ∧ (∀ q j, q < a ∨ a + 3 < q → I1 q j = I q j) := by
  have O_40 : (Int32.ofNat 40).toNatClampNeg = 40 := id rfl
  have e : ∃ r, Sentence_copy a b I = some r := by
    unfold Sentence_copy
    simp (disch := omega) only [ifT, Option.bind_some, Option.some.injEq, exists_eq']
  obtain ⟨I1, e⟩ := e
  refine ⟨I1, e, ?_⟩
  unfold Sentence_copy at e
  simp (disch := omega) only [ifT, Option.bind_some, T_0, O_40, Option.some.injEq] at e
  subst e
  refine ⟨fun k hk => ⟨?_, ?_, ?_⟩, ?_, ?_, fun q j hq => ?_⟩
  · simp (disch := omega) only [u_o, cp2_o, cp2_i, Nat.zero_add, Nat.sub_zero]
  · simp (disch := omega) only [u_o, cp2_o, cp2_i, Nat.zero_add, Nat.sub_zero]
  · simp (disch := omega) only [u_o, cp2_o, cp2_i, Nat.zero_add, Nat.sub_zero]
  · simp (disch := omega) only [u_s, u_j, u_o, cp2_o]
  · simp (disch := omega) only [u_s, u_j, u_o, cp2_o]
  · simp (disch := omega) only [u_o, cp2_o]

/-! a field is read: both sides -/
section Q86
variable {N a b ln sp sn ss nP nF nE nW nH nR : Nat} {I I' : FI} {J J' : FJ} {t : Nat × Nat × List Nat} {m i k : Nat}
theorem fline_q (hN : 2000 ≤ N) (ha : 6 ≤ a) (ha2 : a ≤ 20) (h : At m i t I J I' J') (hf : FdR a nP nF nE nW nH nR I J I' J') : ∃ v I1 J1 I1' J1', Land_readLine N a 1 I J = some (v, I1, J1) ∧ Mod_readLine N I' J' = some (v, I1', J1') ∧ OutD a m i v I J I' J' I1 J1 I1' J1' := by
  have hB := h.curB
  have hM := h.curM
  have hO := h.ok
  have am : Tape_isAmong 1 0 8 I = decide (t.1 = 4 ∧ 0 ≤ t.2.1 ∧ t.2.1 < 0 + 8) := isAmong_b hB hO (a := 0) (k := 8) (by omega) (by omega)
  have e0 : Mod_isWord 0 I' J' = decide (t.1 = 4 ∧ t.2.1 = 0) := isWord_m hM hO (k := 0) (by omega)
  have e1 : Mod_isWord 1 I' J' = decide (t.1 = 4 ∧ t.2.1 = 1) := isWord_m hM hO (k := 1) (by omega)
  have e2 : Mod_isWord 2 I' J' = decide (t.1 = 4 ∧ t.2.1 = 2) := isWord_m hM hO (k := 2) (by omega)
  have e3 : Mod_isWord 3 I' J' = decide (t.1 = 4 ∧ t.2.1 = 3) := isWord_m hM hO (k := 3) (by omega)
  have e4 : Mod_isWord 4 I' J' = decide (t.1 = 4 ∧ t.2.1 = 4) := isWord_m hM hO (k := 4) (by omega)
  have e8 : Mod_isWord 8 I' J' = decide (t.1 = 4 ∧ t.2.1 = 5) := isWord_m hM hO (k := 8) (by omega)
  have e9 : Mod_isWord 9 I' J' = decide (t.1 = 4 ∧ t.2.1 = 6) := isWord_m hM hO (k := 9) (by omega)
  have e13 : Mod_isWord 13 I' J' = decide (t.1 = 4 ∧ t.2.1 = 7) := isWord_m hM hO (k := 13) (by omega)
  unfold Land_readLine Mod_readLine
  by_cases c : t.1 = 4 ∧ 0 ≤ t.2.1 ∧ t.2.1 < 0 + 8
  · rw [decide_eq_true c] at am
    have w11 : I 1 11 = nI t.2.1 := by rw [hB.2, if_pos c.1]
    have ht : 2 < t.1 := by omega
    rcases (show t.2.1 = 0 ∨ t.2.1 = 1 ∨ t.2.1 = 2 ∨ t.2.1 = 3 ∨ t.2.1 = 4 ∨ t.2.1 = 5 ∨ t.2.1 = 6 ∨ t.2.1 = 7 by omega) with z | z | z | z | z | z | z | z
    · rw [z] at w11
      rw [decide_eq_true (show t.1 = 4 ∧ t.2.1 = 0 from ⟨c.1, z⟩)] at e0
      have x0 : (nI 0 = (0 : Int32)) = True := eq_true rfl
      obtain ⟨v, I1, J1, I1', J1', a1, a2, a3⟩ := size_q hN ha ha2 h hf ht
      refine ⟨v, I1, J1, I1', J1', ?_, ?_, a3⟩
      · simp only [↓reduceIte, am, w11, x0, a1, Option.bind_some]
      · simp only [↓reduceIte, e0, a2, Option.bind_some, Bool.false_eq_true]
    · rw [z] at w11
      rw [decide_eq_false (show ¬ (t.1 = 4 ∧ t.2.1 = 0) by omega)] at e0
      rw [decide_eq_true (show t.1 = 4 ∧ t.2.1 = 1 from ⟨c.1, z⟩)] at e1
      have x0 : (nI 1 = (0 : Int32)) = False := eq_false (by decide)
      have x1 : (nI 1 = (1 : Int32)) = True := eq_true rfl
      obtain ⟨v, I1, J1, I1', J1', a1, a2, a3⟩ := person_l hN ha ha2 h hf ht
      refine ⟨v, I1, J1, I1', J1', ?_, ?_, a3⟩
      · simp only [↓reduceIte, am, w11, x0, x1, a1, Option.bind_some]
      · simp only [↓reduceIte, e0, e1, a2, Option.bind_some, Bool.false_eq_true]
    · rw [z] at w11
      rw [decide_eq_false (show ¬ (t.1 = 4 ∧ t.2.1 = 0) by omega)] at e0
      rw [decide_eq_false (show ¬ (t.1 = 4 ∧ t.2.1 = 1) by omega)] at e1
      rw [decide_eq_true (show t.1 = 4 ∧ t.2.1 = 2 from ⟨c.1, z⟩)] at e2
      have x0 : (nI 2 = (0 : Int32)) = False := eq_false (by decide)
      have x1 : (nI 2 = (1 : Int32)) = False := eq_false (by decide)
      have x2 : (nI 2 = (2 : Int32)) = True := eq_true rfl
      obtain ⟨v, I1, J1, I1', J1', a1, a2, a3⟩ := find_l2 hN ha ha2 h hf ht
      refine ⟨v, I1, J1, I1', J1', ?_, ?_, a3⟩
      · simp only [↓reduceIte, am, w11, x0, x1, x2, a1, Option.bind_some]
      · simp only [↓reduceIte, e0, e1, e2, a2, Option.bind_some, Bool.false_eq_true]
    · rw [z] at w11
      rw [decide_eq_false (show ¬ (t.1 = 4 ∧ t.2.1 = 0) by omega)] at e0
      rw [decide_eq_false (show ¬ (t.1 = 4 ∧ t.2.1 = 1) by omega)] at e1
      rw [decide_eq_false (show ¬ (t.1 = 4 ∧ t.2.1 = 2) by omega)] at e2
      rw [decide_eq_true (show t.1 = 4 ∧ t.2.1 = 3 from ⟨c.1, z⟩)] at e3
      have x0 : (nI 3 = (0 : Int32)) = False := eq_false (by decide)
      have x1 : (nI 3 = (1 : Int32)) = False := eq_false (by decide)
      have x2 : (nI 3 = (2 : Int32)) = False := eq_false (by decide)
      have x3 : (nI 3 = (3 : Int32)) = True := eq_true rfl
      obtain ⟨v, I1, J1, I1', J1', a1, a2, a3⟩ := fear_l hN ha ha2 h hf ht
      refine ⟨v, I1, J1, I1', J1', ?_, ?_, a3⟩
      · simp only [↓reduceIte, am, w11, x0, x1, x2, x3, a1, Option.bind_some]
      · simp only [↓reduceIte, e0, e1, e2, e3, a2, Option.bind_some, Bool.false_eq_true]
    · rw [z] at w11
      rw [decide_eq_false (show ¬ (t.1 = 4 ∧ t.2.1 = 0) by omega)] at e0
      rw [decide_eq_false (show ¬ (t.1 = 4 ∧ t.2.1 = 1) by omega)] at e1
      rw [decide_eq_false (show ¬ (t.1 = 4 ∧ t.2.1 = 2) by omega)] at e2
      rw [decide_eq_false (show ¬ (t.1 = 4 ∧ t.2.1 = 3) by omega)] at e3
      rw [decide_eq_true (show t.1 = 4 ∧ t.2.1 = 4 from ⟨c.1, z⟩)] at e4
      have x0 : (nI 4 = (0 : Int32)) = False := eq_false (by decide)
      have x1 : (nI 4 = (1 : Int32)) = False := eq_false (by decide)
      have x2 : (nI 4 = (2 : Int32)) = False := eq_false (by decide)
      have x3 : (nI 4 = (3 : Int32)) = False := eq_false (by decide)
      have x4 : (nI 4 = (4 : Int32)) = True := eq_true rfl
      obtain ⟨v, I1, J1, I1', J1', a1, a2, a3⟩ := hint_q hN ha ha2 h hf ht
      refine ⟨v, I1, J1, I1', J1', ?_, ?_, a3⟩
      · simp only [↓reduceIte, am, w11, x0, x1, x2, x3, x4, a1, Option.bind_some]
      · simp only [↓reduceIte, e0, e1, e2, e3, e4, a2, Option.bind_some, Bool.false_eq_true]
    · rw [z] at w11
      rw [decide_eq_false (show ¬ (t.1 = 4 ∧ t.2.1 = 0) by omega)] at e0
      rw [decide_eq_false (show ¬ (t.1 = 4 ∧ t.2.1 = 1) by omega)] at e1
      rw [decide_eq_false (show ¬ (t.1 = 4 ∧ t.2.1 = 2) by omega)] at e2
      rw [decide_eq_false (show ¬ (t.1 = 4 ∧ t.2.1 = 3) by omega)] at e3
      rw [decide_eq_false (show ¬ (t.1 = 4 ∧ t.2.1 = 4) by omega)] at e4
      rw [decide_eq_true (show t.1 = 4 ∧ t.2.1 = 5 from ⟨c.1, z⟩)] at e8
      have x0 : (nI 5 = (0 : Int32)) = False := eq_false (by decide)
      have x1 : (nI 5 = (1 : Int32)) = False := eq_false (by decide)
      have x2 : (nI 5 = (2 : Int32)) = False := eq_false (by decide)
      have x3 : (nI 5 = (3 : Int32)) = False := eq_false (by decide)
      have x4 : (nI 5 = (4 : Int32)) = False := eq_false (by decide)
      have x5 : (nI 5 = (5 : Int32)) = True := eq_true rfl
      obtain ⟨v, I1, J1, I1', J1', a1, a2, a3⟩ := prior_q hN ha ha2 h hf ht
      refine ⟨v, I1, J1, I1', J1', ?_, ?_, a3⟩
      · simp only [↓reduceIte, am, w11, x0, x1, x2, x3, x4, x5, a1, Option.bind_some]
      · simp only [↓reduceIte, e0, e1, e2, e3, e4, e8, a2, Option.bind_some, Bool.false_eq_true]
    · rw [z] at w11
      rw [decide_eq_false (show ¬ (t.1 = 4 ∧ t.2.1 = 0) by omega)] at e0
      rw [decide_eq_false (show ¬ (t.1 = 4 ∧ t.2.1 = 1) by omega)] at e1
      rw [decide_eq_false (show ¬ (t.1 = 4 ∧ t.2.1 = 2) by omega)] at e2
      rw [decide_eq_false (show ¬ (t.1 = 4 ∧ t.2.1 = 3) by omega)] at e3
      rw [decide_eq_false (show ¬ (t.1 = 4 ∧ t.2.1 = 4) by omega)] at e4
      rw [decide_eq_false (show ¬ (t.1 = 4 ∧ t.2.1 = 5) by omega)] at e8
      rw [decide_eq_true (show t.1 = 4 ∧ t.2.1 = 6 from ⟨c.1, z⟩)] at e9
      have x0 : (nI 6 = (0 : Int32)) = False := eq_false (by decide)
      have x1 : (nI 6 = (1 : Int32)) = False := eq_false (by decide)
      have x2 : (nI 6 = (2 : Int32)) = False := eq_false (by decide)
      have x3 : (nI 6 = (3 : Int32)) = False := eq_false (by decide)
      have x4 : (nI 6 = (4 : Int32)) = False := eq_false (by decide)
      have x5 : (nI 6 = (5 : Int32)) = False := eq_false (by decide)
      have x6 : (nI 6 = (6 : Int32)) = True := eq_true rfl
      obtain ⟨v, I1, J1, I1', J1', a1, a2, a3⟩ := gets_q hN ha ha2 h hf ht
      refine ⟨v, I1, J1, I1', J1', ?_, ?_, a3⟩
      · simp only [↓reduceIte, am, w11, x0, x1, x2, x3, x4, x5, x6, a1, Option.bind_some]
      · simp only [↓reduceIte, e0, e1, e2, e3, e4, e8, e9, a2, Option.bind_some, Bool.false_eq_true]
    · rw [z] at w11
      rw [decide_eq_false (show ¬ (t.1 = 4 ∧ t.2.1 = 0) by omega)] at e0
      rw [decide_eq_false (show ¬ (t.1 = 4 ∧ t.2.1 = 1) by omega)] at e1
      rw [decide_eq_false (show ¬ (t.1 = 4 ∧ t.2.1 = 2) by omega)] at e2
      rw [decide_eq_false (show ¬ (t.1 = 4 ∧ t.2.1 = 3) by omega)] at e3
      rw [decide_eq_false (show ¬ (t.1 = 4 ∧ t.2.1 = 4) by omega)] at e4
      rw [decide_eq_false (show ¬ (t.1 = 4 ∧ t.2.1 = 5) by omega)] at e8
      rw [decide_eq_false (show ¬ (t.1 = 4 ∧ t.2.1 = 6) by omega)] at e9
      rw [decide_eq_true (show t.1 = 4 ∧ t.2.1 = 7 from ⟨c.1, z⟩)] at e13
      have x0 : (nI 7 = (0 : Int32)) = False := eq_false (by decide)
      have x1 : (nI 7 = (1 : Int32)) = False := eq_false (by decide)
      have x2 : (nI 7 = (2 : Int32)) = False := eq_false (by decide)
      have x3 : (nI 7 = (3 : Int32)) = False := eq_false (by decide)
      have x4 : (nI 7 = (4 : Int32)) = False := eq_false (by decide)
      have x5 : (nI 7 = (5 : Int32)) = False := eq_false (by decide)
      have x6 : (nI 7 = (6 : Int32)) = False := eq_false (by decide)
      obtain ⟨v, I1, J1, I1', J1', a1, a2, a3⟩ := risk_q hN ha ha2 h hf ht
      refine ⟨v, I1, J1, I1', J1', ?_, ?_, a3⟩
      · simp only [↓reduceIte, am, w11, x0, x1, x2, x3, x4, x5, x6, a1, Option.bind_some]
      · simp only [↓reduceIte, e0, e1, e2, e3, e4, e8, e9, e13, Bool.false_eq_true]
        exact a2
  · rw [decide_eq_false c] at am
    rw [decide_eq_false (show ¬ (t.1 = 4 ∧ t.2.1 = 0) by omega)] at e0
    rw [decide_eq_false (show ¬ (t.1 = 4 ∧ t.2.1 = 1) by omega)] at e1
    rw [decide_eq_false (show ¬ (t.1 = 4 ∧ t.2.1 = 2) by omega)] at e2
    rw [decide_eq_false (show ¬ (t.1 = 4 ∧ t.2.1 = 3) by omega)] at e3
    rw [decide_eq_false (show ¬ (t.1 = 4 ∧ t.2.1 = 4) by omega)] at e4
    rw [decide_eq_false (show ¬ (t.1 = 4 ∧ t.2.1 = 5) by omega)] at e8
    rw [decide_eq_false (show ¬ (t.1 = 4 ∧ t.2.1 = 6) by omega)] at e9
    rw [decide_eq_false (show ¬ (t.1 = 4 ∧ t.2.1 = 7) by omega)] at e13
    obtain ⟨I2, I2', f1, f2, f3, f4⟩ := fail_q h (k := 1) (fun _ => rfl)
    have f1' : Tape_fail 1 1 I = some (false, I2) := f1
    have f2' : Mod_bad 1 I' = some (false, I2') := f2
    refine ⟨false, I2, J, I2', J', ?_, ?_, f4.f, f4.1 _ _ (by omega), fun q => absurd q (by simp), fun _ => f3⟩
    · simp only [↓reduceIte, am, f1', Option.bind_some, Bool.false_eq_true]
    · simp only [↓reduceIte, e0, e1, e2, e3, e4, e8, e9, e13, f2', Option.bind_some, Bool.false_eq_true]
theorem field_1 (hN : 2000 ≤ N) (ha : 6 ≤ a) (ha2 : a ≤ 20) (h : At 900 i t I J I' J') (hf : FdR a nP nF nE nW nH nR I J I' J') (h14 : I a 14 = nI k) (hk : k ≤ 450) (hi : 2 * k ≤ i) : ∃ I1 J1 I1' J1', KpF a I J I' J' I1 J1 I1' J1' ∧ (((∀ f, Land_read_13 N a 1 (f + 1) (nI k) I J = some (false, I1, J1)) ∧ (∀ f, Mod_field_13 N (f + 1) (nI k) I' J' = some ((-1) - (I1' 204 11), I1', J1')) ∧ FlR I1 I1') ∨ ((∀ f, Land_read_13 N a 1 (f + 1) (nI k) I J = some (true, I1, J1)) ∧ (∀ f, Mod_field_13 N (f + 1) (nI k) I' J' = Mod_field_49 N N (nI k) 0 I1' J1') ∧ I1 a 14 = nI k ∧ (∃ mP mF mE mW mH mR, FdR a mP mF mE mW mH mR I1 J1 I1' J1') ∧ I1 1 14 = nI 0 ∧ I1' 204 10 = nI 0) ∨ (k < 450 ∧ ∃ i' t' mP mF mE mW mH mR, At 900 i' t' I1 J1 I1' J1' ∧ 2 * (k + 1) ≤ i' ∧ I1 a 14 = nI (k + 1) ∧ FdR a mP mF mE mW mH mR I1 J1 I1' J1' ∧ (∀ f, Land_read_13 N a 1 (f + 1) (nI k) I J = Land_read_13 N a 1 f (nI (k + 1)) I1 J1) ∧ (∀ f, Mod_field_13 N (f + 1) (nI k) I' J' = Mod_field_13 N f (nI (k + 1)) I1' J1'))) := by
  have hO := h.ok
  have lt := tok_lt hO
  have t9 : (900 ≤ nI k) = False := by rw [L_900, le_nI (by omega) (by omega)]; exact eq_false (by omega)
  have e0 : (I 1 9 = (0 : Int32)) = (t.1 = 0) := sign_b h.curB hO (s := 0) (by omega)
  have k0 : (I' 204 7 = (0 : Int32)) = (mk t.1 = 0) := kind_e h.curM (k := 0) (by omega)
  by_cases z : t.1 = 0
  · have y0 : (t.1 = 0) = True := eq_true z
    have y1 : (mk t.1 = 0) = True := eq_true (mk_0.mpr z)
    have hz : I 1 14 = nI 0 ∧ I' 204 10 = nI 0 := by obtain ⟨c, n, L, a1, a2, a3, a4, a5, a6, a7, a8⟩ := h; exact ⟨a7, a8⟩
    refine ⟨I, J, I', J', KpF.rfl, Or.inr (Or.inl ⟨fun f => ?_, fun f => ?_, h14, ⟨nP, nF, nE, nW, nH, nR, hf⟩, hz.1, hz.2⟩)⟩
    · simp only [↓reduceIte, Land_read_13, t9, e0, y0]
    · simp only [↓reduceIte, Mod_field_13, k0, y1]
  · have y0 : (t.1 = 0) = False := eq_false z
    have y1 : (mk t.1 = 0) = False := eq_false (fun q => z (mk_0.mp q))
    obtain ⟨v, I1, J1, I1', J1', a1, a2, a3, a4, a5, a6⟩ := fline_q hN ha ha2 h hf
    cases v with
    | false =>
      refine ⟨I1, J1, I1', J1', a3, Or.inl ⟨fun f => ?_, fun f => ?_, a6 rfl⟩⟩
      · simp only [↓reduceIte, Land_read_13, t9, e0, y0, a1, Option.bind_some, Bool.false_eq_true]
      · simp only [↓reduceIte, Mod_field_13, k0, y1, a2, Option.bind_some, Bool.false_eq_true]
    | true =>
      obtain ⟨i', t', mP, mF, mE, mW, mH, mR, b1, b2, b3⟩ := a5 rfl
      obtain ⟨w, I2, J2, I2', J2', c1, c2, c3, c4, c5⟩ := readEnd_q hN b2
      cases w with
      | false =>
        refine ⟨I2, J2, I2', J2', a3.trans c3.f, Or.inl ⟨fun f => ?_, fun f => ?_, c5 rfl⟩⟩
        · simp only [↓reduceIte, Land_read_13, t9, e0, y0, a1, c1, Option.bind_some, Bool.false_eq_true]
        · simp only [↓reduceIte, Mod_field_13, k0, y1, a2, c2, Option.bind_some, Bool.false_eq_true]
      | true =>
        obtain ⟨t2, d1⟩ := c4 rfl
        have il := d1.i_le
        have q14 : I2 a 14 = nI k := by rw [c3.1 _ _ (by omega), a4]; exact h14
        have fd := b3.kp ha c3
        have fd2 : FdR a mP mF mE mW mH mR (up2 I2 a 14 (nI (k + 1))) J2 I2' J2' := by
          obtain ⟨x1, x2, x3, x4, x5, x6, x7⟩ := fd
          exact ⟨x1, x2.of2 x1.2.1.2 x1.2.2.1.2 (fun q j _ _ w => up2_ff (by omega)) (fun _ _ => rfl), x3, by rw [u_j (by omega)]; exact x4, x5, x6, x7⟩
        refine ⟨up2 I2 a 14 (nI (k + 1)), J2, I2', J2', (a3.trans c3.f).upI (by omega), Or.inr (Or.inr ⟨by omega, i' + 1, t2, mP, mF, mE, mW, mH, mR, d1.upI (by omega) (by omega) (by omega), by omega, u_s, fd2, fun f => ?_, fun f => ?_⟩)⟩
        · conv => lhs; rw [Land_read_13]
          simp only [↓reduceIte, t9, e0, y0, a1, c1, q14, nS, Option.bind_some]
        · conv => lhs; rw [Mod_field_13]
          simp only [↓reduceIte, k0, y1, a2, c2, nS, Option.bind_some]
theorem field_l (hN : 2000 ≤ N) (ha : 6 ≤ a) (ha2 : a ≤ 20) : ∀ r k f i t nP nF nE nW nH nR (I : FI) (J : FJ) (I' : FI) (J' : FJ), k + r = 450 → At 900 i t I J I' J' → FdR a nP nF nE nW nH nR I J I' J' → I a 14 = nI k → 2 * k ≤ i → ∃ I1 J1 I1' J1', KpF a I J I' J' I1 J1 I1' J1' ∧ ((Land_read_13 N a 1 (f + r + 1) (nI k) I J = some (false, I1, J1) ∧ Mod_field_13 N (f + r + 1) (nI k) I' J' = some ((-1) - (I1' 204 11), I1', J1') ∧ FlR I1 I1') ∨ (∃ n, n ≤ 450 ∧ Land_read_13 N a 1 (f + r + 1) (nI k) I J = some (true, I1, J1) ∧ Mod_field_13 N (f + r + 1) (nI k) I' J' = Mod_field_49 N N (nI n) 0 I1' J1' ∧ I1 a 14 = nI n ∧ (∃ mP mF mE mW mH mR, FdR a mP mF mE mW mH mR I1 J1 I1' J1') ∧ I1 1 14 = nI 0 ∧ I1' 204 10 = nI 0)) := by
  intro r
  induction r with
  | zero =>
    intro k f i t nP nF nE nW nH nR I J I' J' hk h hf h14 hi
    obtain ⟨I1, J1, I1', J1', kp, c | c | c⟩ := field_1 hN ha ha2 h hf h14 (by omega) hi
    · exact ⟨I1, J1, I1', J1', kp, Or.inl ⟨c.1 _, c.2.1 _, c.2.2⟩⟩
    · exact ⟨I1, J1, I1', J1', kp, Or.inr ⟨k, by omega, c.1 _, c.2.1 _, c.2.2⟩⟩
    · exact absurd c.1 (by omega)
  | succ r ih =>
    intro k f i t nP nF nE nW nH nR I J I' J' hk h hf h14 hi
    obtain ⟨I1, J1, I1', J1', kp, c | c | c⟩ := field_1 hN ha ha2 h hf h14 (by omega) hi
    · exact ⟨I1, J1, I1', J1', kp, Or.inl ⟨c.1 _, c.2.1 _, c.2.2⟩⟩
    · exact ⟨I1, J1, I1', J1', kp, Or.inr ⟨k, by omega, c.1 _, c.2.1 _, c.2.2⟩⟩
    · obtain ⟨c1, i', t', mP, mF, mE, mW, mH, mR, c2, c3, c4, c5, c6, c7⟩ := c
      obtain ⟨I2, J2, I2', J2', kp2, d⟩ := ih (k + 1) f i' t' mP mF mE mW mH mR I1 J1 I1' J1' (by omega) c2 c5 c4 c3
      refine ⟨I2, J2, I2', J2', kp.trans kp2, ?_⟩
      rw [show f + (r + 1) + 1 = (f + r + 1) + 1 from rfl, c6, c7]
      exact d
theorem Mod_startRead_92_e (hN : 2000 ≤ N) (I : FI) : Mod_startRead_92 N N 0 I = some (up2 (up2 (up2 (fl3 I 207 21 9 4) 207 3 4) 207 4 4) 207 5 3) := by
  have key : ∀ m k f, k + m = 9 → m < f → Mod_startRead_92 N f (nI k) (fl3 I 207 21 k 4) = some (up2 (up2 (up2 (fl3 I 207 21 9 4) 207 3 4) 207 4 4) 207 5 3) := by
    intro m
    induction m with
    | zero =>
      intro k f hk hf
      obtain ⟨f, rfl⟩ : ∃ e, f = e + 1 := ⟨f - 1, by omega⟩
      obtain rfl : k = 9 := by omega
      have A : (9 ≤ nI 9) = True := eq_true (by decide)
      simp only [↓reduceIte, Mod_startRead_92, A, Option.bind_some, T_3, T_4, T_5]
    | succ m ih =>
      intro k f hk hf
      obtain ⟨f, rfl⟩ : ∃ e, f = e + 1 := ⟨f - 1, by omega⟩
      have h1 := ih (k + 1) f (by omega) (by omega)
      have e := fl3_s (I := I) (a := 207) (lo := 21) (n := k) (v := 4)
      have A : (9 ≤ nI k) = False := by rw [show (9 : Int32) = nI 9 from rfl, le_nI (by omega) (by omega)]; exact eq_false (by omega)
      have G : in9 (nI (21 + k)) 102 = True := in9_t (by omega) (by omega)
      have t : (nI (21 + k)).toNatClampNeg = 21 + k := tN (by omega)
      rw [← h1]
      simp only [↓reduceIte, Mod_startRead_92, A, ax_21, G, t, nS, Option.bind_some, e]
  have := key 9 0 N (by omega) (by omega)
  rw [fl3_0] at this
  exact this
theorem Mod_startRead_69_e (hN : 2000 ≤ N) (I : FI) : Mod_startRead_69 N N 0 I = Mod_startRead_92 N N 0 (fl3 I 207 18 3 1) := by
  have key : ∀ m k f, k + m = 3 → m < f → Mod_startRead_69 N f (nI k) (fl3 I 207 18 k 1) = Mod_startRead_92 N N 0 (fl3 I 207 18 3 1) := by
    intro m
    induction m with
    | zero =>
      intro k f hk hf
      obtain ⟨f, rfl⟩ : ∃ e, f = e + 1 := ⟨f - 1, by omega⟩
      obtain rfl : k = 3 := by omega
      have A : (3 ≤ nI 3) = True := eq_true (by decide)
      simp only [↓reduceIte, Mod_startRead_69, A, Option.bind_some, T_3, T_4, T_5]
    | succ m ih =>
      intro k f hk hf
      obtain ⟨f, rfl⟩ : ∃ e, f = e + 1 := ⟨f - 1, by omega⟩
      have h1 := ih (k + 1) f (by omega) (by omega)
      have e := fl3_s (I := I) (a := 207) (lo := 18) (n := k) (v := 1)
      have A : (3 ≤ nI k) = False := by rw [show (3 : Int32) = nI 3 from rfl, le_nI (by omega) (by omega)]; exact eq_false (by omega)
      have G : in9 (nI (18 + k)) 102 = True := in9_t (by omega) (by omega)
      have t : (nI (18 + k)).toNatClampNeg = 18 + k := tN (by omega)
      rw [← h1]
      simp only [↓reduceIte, Mod_startRead_69, A, ax_18, G, t, nS, Option.bind_some, e]
  have := key 3 0 N (by omega) (by omega)
  rw [fl3_0] at this
  exact this
theorem Mod_startRead_44_e (hN : 2000 ≤ N) (I : FI) : Mod_startRead_44 N N 0 I = Mod_startRead_69 N N 0 (fl3 I 207 6 12 6) := by
  have key : ∀ m k f, k + m = 12 → m < f → Mod_startRead_44 N f (nI k) (fl3 I 207 6 k 6) = Mod_startRead_69 N N 0 (fl3 I 207 6 12 6) := by
    intro m
    induction m with
    | zero =>
      intro k f hk hf
      obtain ⟨f, rfl⟩ : ∃ e, f = e + 1 := ⟨f - 1, by omega⟩
      obtain rfl : k = 12 := by omega
      have A : (12 ≤ nI 12) = True := eq_true (by decide)
      simp only [↓reduceIte, Mod_startRead_44, A, Option.bind_some, T_3, T_4, T_5]
    | succ m ih =>
      intro k f hk hf
      obtain ⟨f, rfl⟩ : ∃ e, f = e + 1 := ⟨f - 1, by omega⟩
      have h1 := ih (k + 1) f (by omega) (by omega)
      have e := fl3_s (I := I) (a := 207) (lo := 6) (n := k) (v := 6)
      have A : (12 ≤ nI k) = False := by rw [show (12 : Int32) = nI 12 from rfl, le_nI (by omega) (by omega)]; exact eq_false (by omega)
      have G : in9 (nI (6 + k)) 102 = True := in9_t (by omega) (by omega)
      have t : (nI (6 + k)).toNatClampNeg = 6 + k := tN (by omega)
      rw [← h1]
      simp only [↓reduceIte, Mod_startRead_44, A, ax_6, G, t, nS, Option.bind_some, e]
  have := key 12 0 N (by omega) (by omega)
  rw [fl3_0] at this
  exact this
theorem Mod_startRead_23_e (hN : 2000 ≤ N) (I : FI) : Mod_startRead_23 N N 0 I = Mod_startRead_44 N N 0 (fl3 I 215 0 64 (vp_nar .boolean 0)) := by
  have key : ∀ m k f, k + m = 64 → m < f → Mod_startRead_23 N f (nI k) (fl3 I 215 0 k (vp_nar .boolean 0)) = Mod_startRead_44 N N 0 (fl3 I 215 0 64 (vp_nar .boolean 0)) := by
    intro m
    induction m with
    | zero =>
      intro k f hk hf
      obtain ⟨f, rfl⟩ : ∃ e, f = e + 1 := ⟨f - 1, by omega⟩
      obtain rfl : k = 64 := by omega
      have A : (64 ≤ nI 64) = True := eq_true (by decide)
      simp only [↓reduceIte, Mod_startRead_23, A, Option.bind_some, T_3, T_4, T_5]
    | succ m ih =>
      intro k f hk hf
      obtain ⟨f, rfl⟩ : ∃ e, f = e + 1 := ⟨f - 1, by omega⟩
      have h1 := ih (k + 1) f (by omega) (by omega)
      have e := fl3_s (I := I) (a := 215) (lo := 0) (n := k) (v := (vp_nar .boolean 0))
      rw [Nat.zero_add] at e
      have A : (64 ≤ nI k) = False := by rw [show (64 : Int32) = nI 64 from rfl, le_nI (by omega) (by omega)]; exact eq_false (by omega)
      have G : in9 (nI (k)) 64 = True := in9_t (by omega) (by omega)
      have t : (nI (k)).toNatClampNeg = k := tN (by omega)
      rw [← h1]
      simp only [↓reduceIte, Mod_startRead_23, A, G, t, nS, Option.bind_some, e]
  have := key 64 0 N (by omega) (by omega)
  rw [fl3_0] at this
  exact this
theorem Mod_startRead_2_e (hN : 2000 ≤ N) (I : FI) : Mod_startRead_2 N N 0 I = Mod_startRead_23 N N 0 (fl3 I 207 0 102 0) := by
  have key : ∀ m k f, k + m = 102 → m < f → Mod_startRead_2 N f (nI k) (fl3 I 207 0 k 0) = Mod_startRead_23 N N 0 (fl3 I 207 0 102 0) := by
    intro m
    induction m with
    | zero =>
      intro k f hk hf
      obtain ⟨f, rfl⟩ : ∃ e, f = e + 1 := ⟨f - 1, by omega⟩
      obtain rfl : k = 102 := by omega
      have A : (102 ≤ nI 102) = True := eq_true (by decide)
      simp only [↓reduceIte, Mod_startRead_2, A, Option.bind_some, T_3, T_4, T_5]
    | succ m ih =>
      intro k f hk hf
      obtain ⟨f, rfl⟩ : ∃ e, f = e + 1 := ⟨f - 1, by omega⟩
      have h1 := ih (k + 1) f (by omega) (by omega)
      have e := fl3_s (I := I) (a := 207) (lo := 0) (n := k) (v := 0)
      rw [Nat.zero_add] at e
      have A : (102 ≤ nI k) = False := by rw [show (102 : Int32) = nI 102 from rfl, le_nI (by omega) (by omega)]; exact eq_false (by omega)
      have G : in9 (nI (k)) 102 = True := in9_t (by omega) (by omega)
      have t : (nI (k)).toNatClampNeg = k := tN (by omega)
      rw [← h1]
      simp only [↓reduceIte, Mod_startRead_2, A, G, t, nS, Option.bind_some, e]
  have := key 102 0 N (by omega) (by omega)
  rw [fl3_0] at this
  exact this
/-- the model's numbers as reading begins -/
def srW (j : Nat) : Int32 := if j = 3 ∨ j = 4 then 4 else if j = 5 then 3 else if 6 ≤ j ∧ j < 18 then 6 else if 18 ≤ j ∧ j < 21 then 1 else if 21 ≤ j ∧ j < 30 then 4 else 0
theorem startRead_e (hN : 2000 ≤ N) (I : FI) : ∃ I1, Mod_startRead N I = some I1 ∧ (∀ j, j < 102 → I1 207 j = srW j) ∧ (∀ j, j < 64 → I1 215 j = nI 0) ∧ (∀ x j, x ≠ 207 → x ≠ 215 → I1 x j = I x j) := by
  refine ⟨up2 (up2 (up2 (fl3 (fl3 (fl3 (fl3 (fl3 I 207 0 102 0) 215 0 64 (vp_nar .boolean 0)) 207 6 12 6) 207 18 3 1) 207 21 9 4) 207 3 4) 207 4 4) 207 5 3, ?_, fun j hj => ?_, fun j hj => ?_, fun x j h1 h2 => ?_⟩
  · unfold Mod_startRead
    rw [Mod_startRead_2_e hN, Mod_startRead_23_e hN, Mod_startRead_44_e hN, Mod_startRead_69_e hN, Mod_startRead_92_e hN]
  · unfold srW
    by_cases c5 : j = 5
    · rw [c5, u_s, if_neg (by omega), if_pos rfl]
    · rw [u_j c5]
      by_cases c4 : j = 4
      · rw [c4, u_s, if_pos (by omega)]
      · rw [u_j c4]
        by_cases c3 : j = 3
        · rw [c3, u_s, if_pos (by omega)]
        · rw [u_j c3, if_neg (by omega), if_neg c5]
          by_cases g : 21 ≤ j ∧ j < 30
          · rw [fl3_i g.1 (by omega), if_neg (by omega), if_neg (by omega), if_pos g]
          · rw [fl3_j (by omega)]
            by_cases p : 18 ≤ j ∧ j < 21
            · rw [fl3_i p.1 (by omega), if_neg (by omega), if_pos p]
            · rw [fl3_j (by omega)]
              by_cases q : 6 ≤ j ∧ j < 18
              · rw [fl3_i q.1 (by omega), if_pos q]
              · rw [fl3_j (by omega), fl3_o (by omega), fl3_i (by omega) (by omega), if_neg q, if_neg p, if_neg g]
  · rw [u_o (by omega), u_o (by omega), u_o (by omega), fl3_o (by omega), fl3_o (by omega), fl3_o (by omega), fl3_i (by omega) (by omega)]
    decide
  · rw [u_o h1, u_o h1, u_o h1, fl3_o h1, fl3_o h1, fl3_o h1, fl3_o h2, fl3_o h1]
end Q86

/-! a field's lines: hints, priors, gets; what a new name brings: both sides -/
theorem onM_h : ∀ q, q < 12 → onM.getD (5 + q) 0 = 1 + q := by decide
theorem onM_g : ∀ q, q < 9 → onM.getD (17 + q) 0 = 16 + q := by decide
theorem onM_p : ∀ q, q < 3 → onM.getD (2 + q) 0 = 13 + q := by decide
section Q83
variable {N a b ln sp sn ss nP nF nE nW nH nR : Nat} {I I' : FI} {J J' : FJ} {t : Nat × Nat × List Nat} {m i k : Nat}
theorem hint_q (hN : 2000 ≤ N) (ha : 6 ≤ a) (ha2 : a ≤ 20) (h : At m i t I J I' J') (hf : FdR a nP nF nE nW nH nR I J I' J') (ht : 2 < t.1) : ∃ v I1 J1 I1' J1', Land_readPair a 1 (a + 6) 12 8 4 5 I J = some (v, I1, J1) ∧ Mod_readHint N I' J' = some (v, I1', J1') ∧ OutD a m i v I J I' J' I1 J1 I1' J1' := by
  obtain ⟨t1, I1, J1, I1', J1', s1, s2, s3, s4, s5, s6⟩ := next_q hN h (by omega)
  have hO1 := s3.ok
  have one : Mod_isOneOf N 5 7 I1' J1' = (if t1.1 = 4 ∧ 12 ≤ t1.2.1 ∧ t1.2.1 ≤ 12 + (7 - 5) then some (true, up2 I1' 204 13 (nI (t1.2.1 - 12))) else Mod_bad 1 I1') := oneOf_m hN s3.curM hO1 (lo := 5) (hi := 7) (by omega) (by omega) map_read
  unfold Land_readPair Mod_readHint Mod_readReading
  by_cases c : t1.1 = 4 ∧ 12 ≤ t1.2.1 ∧ t1.2.1 < 12 + 3
  · rw [if_pos ⟨c.1, c.2.1, by omega⟩] at one
    obtain ⟨t2, I2, J2, I2', J2', q1, q2, q3, q4, q5, q6⟩ := next_q hN (s3.up12 (v := nI (t1.2.1 - 12)) |>.upM (x := 204) (k := 13) (v := nI (t1.2.1 - 12)) (by omega) (by omega)) (by omega)
    have am : Tape_takeAmong 1 12 3 I1 J1 = some (true, I2, J2) := takeAm_t s3.curB hO1 (a := 12) (n := 3) (by omega) (by omega) c.1 c.2.1 c.2.2 q1
    have r12 : I2 1 12 = nI (t1.2.1 - 12) := by rw [q5, u_s]
    have rr : ∀ v, up2 I1' 204 13 v 204 13 = v := fun v => u_s
    have hO2 := q3.ok
    have kp2 : Kp I J I' J' I2 J2 I2' J2' := s4.trans ⟨fun x j w => (q4.1 x j w).trans (up2_ff (by omega)), q4.2.1, fun x j w => (q4.2.2.1 x j w).trans (up2_ff (by omega)), q4.2.2.2⟩
    have ia := isAmong_b q3.curB hO2 (a := 8) (k := 4) (by omega) (by omega)
    have ia' : Tape_isAmong 1 8 4 I2 = decide (t2.1 = 4 ∧ 8 ≤ t2.2.1 ∧ t2.2.1 < 8 + 4) := ia
    have two : Mod_isOneOf N 26 29 I2' J2' = (if t2.1 = 4 ∧ 8 ≤ t2.2.1 ∧ t2.2.1 ≤ 8 + (29 - 26) then some (true, up2 I2' 204 13 (nI (t2.2.1 - 8))) else Mod_bad 1 I2') := oneOf_m hN q3.curM hO2 (lo := 26) (hi := 29) (by omega) (by omega) map_kind
    by_cases d : t2.1 = 4 ∧ 8 ≤ t2.2.1 ∧ t2.2.1 < 8 + 4
    · rw [decide_eq_true d] at ia'
      rw [if_pos ⟨d.1, d.2.1, by omega⟩] at two
      obtain ⟨r, hr⟩ : ∃ r, r = t1.2.1 - 12 := ⟨_, rfl⟩
      obtain ⟨u, hu⟩ : ∃ u, u = t2.2.1 - 8 := ⟨_, rfl⟩
      rw [← hr] at one r12 q2
      rw [← hu] at two
      have w11 : I2 1 11 = nI (8 + u) := by rw [q3.curB.2, if_pos d.1]; congr 1; omega
      have cat : nI r * 4 + nI (8 + u) - 8 = nI (4 * r + u) := by
        show nI r * nI 4 + nI (8 + u) - nI 8 = _
        rw [nM, nA, nSb (by omega)]
        congr 1
        omega
      have cbit : 5 + nI (4 * r + u) = nI (5 + (4 * r + u)) := nA 5 _
      have mat : (4 : Int32) * nI r + nI u = nI (4 * r + u) := by
        show nI 4 * nI r + nI u = _
        rw [nM, nA]
      have mon : 1 + nI (4 * r + u) = nI (onM.getD (5 + (4 * r + u)) 0) := by
        rw [onM_h _ (by omega)]
        exact nA 1 _
      have mput : 6 + nI (4 * r + u) = nI (6 + (4 * r + u)) := nA 6 _
      have rr2 : ∀ v, up2 I2' 204 13 v 204 13 = v := fun v => u_s
      have z1 : (nI (4 * r + u) < (0 : Int32)) = False := by rw [L_0, lt_nI (by omega) (by omega)]; exact eq_false (by omega)
      have z2 : (Int32.ofNat 12 ≤ nI (4 * r + u)) = False := by rw [show Int32.ofNat 12 = nI 12 from rfl, le_nI (by omega) (by omega)]; exact eq_false (by omega)
      have z3 : in9 (nI (4 * r + u)) 12 = True := in9_t (by omega) (by omega)
      have z4 : (nI (4 * r + u)).toNatClampNeg = 4 * r + u := tN (by omega)
      have hf2 : FdR a nP nF nE nW nH nR I2 J2 (up2 I2' 204 13 (nI u)) J2' := (hf.kp ha kp2).kp ha ⟨fun _ _ _ => rfl, fun _ _ _ => rfl, fun x j w => up2_ff (by omega), fun _ _ _ => rfl⟩
      obtain ⟨v, I3, J3, I3', J3', g1, g2, g3, g4, g5⟩ := once_q hN ha (q3.upM (x := 204) (k := 13) (v := nI u) (by omega) (by omega)) hf2 (q := 5 + (4 * r + u)) (by omega) (by omega)
      have k14 : I3 a 14 = I a 14 := by rw [once14 ha g1, kp2.1 _ _ (by omega)]
      have kp3 : KpF a I J I' J' I3 J3 I3' J3' := (kp2.f).trans (KpF.trans ⟨fun _ _ _ _ => rfl, fun _ _ _ _ => rfl, fun x j w _ _ => up2_ff (by omega), fun _ _ _ _ => rfl⟩ g3)
      cases v with
      | false =>
        refine ⟨false, I3, J3, I3', J3', ?_, ?_, kp3, k14, fun q => absurd q (by simp), g5⟩
        · simp only [↓reduceIte, s1, am, ia', r12, w11, cat, cbit, g1, Option.bind_some, Bool.false_eq_true]
        · simp only [↓reduceIte, s2, one, q2, two, rr, rr2, mat, mon, g2, Option.bind_some, Bool.false_eq_true]
      | true =>
        obtain ⟨t3, b1, b2⟩ := g4 rfl
        obtain ⟨v, I4, J4, I4', J4', e1, e2, e3, e4, e5⟩ := takeNum_q hN b1 (lo := 0) (hi := 12) (by omega) (by omega)
        have e1' : Tape_takeNumber 1 0 12 I3 J3 = some (v, I4, J4) := e1
        have e2' : Mod_readNumber N 0 12 I3' J3' = some (v, I4', J4') := e2
        have k14b : I4 a 14 = I a 14 := by rw [e3.1 _ _ (by omega)]; exact k14
        cases v with
        | false =>
          refine ⟨false, I4, J4, I4', J4', ?_, ?_, kp3.trans e3.f, k14b, fun q => absurd q (by simp), e5⟩
          · simp only [↓reduceIte, s1, am, ia', r12, w11, cat, cbit, g1, e1', Option.bind_some, Bool.false_eq_true]
          · simp only [↓reduceIte, s2, one, q2, two, rr, rr2, mat, mon, g2, e2', put_f, Option.bind_some, Bool.false_eq_true]
        | true =>
          obtain ⟨x, t4, x1, x2, x3, x4, x5⟩ := e4 rfl
          have pt := fun (X : FI) => put_t (I := X) (k := 6 + (4 * r + u)) (by omega)
          refine ⟨true, up2 I4 (a + 6) (4 * r + u) (nI x), J4, up2 I4' 207 (6 + (4 * r + u)) (nI x), J4', ?_, ?_, ((kp3.trans e3.f).upI (by omega)).upM, by rw [u_o (by omega)]; exact k14b, fun _ => ⟨_, t4, nP, nF, nE, nW, nH, nR, by omega, (x5.upI (by omega) (by omega) (by omega)).upM (by omega) (by omega), (b2.kp ha e3).hint ha (by omega) x2⟩, fun q => absurd q (by simp)⟩
          · simp only [↓reduceIte, s1, am, ia', r12, w11, cat, cbit, g1, e1', z1, z2, z3, z4, x3, Option.bind_some]
          · simp only [↓reduceIte, s2, one, q2, two, rr, rr2, mat, mon, mput, g2, e2', pt, x4, Option.bind_some]
    · rw [decide_eq_false d] at ia'
      rw [if_neg (show ¬ (t2.1 = 4 ∧ 8 ≤ t2.2.1 ∧ t2.2.1 ≤ 8 + (29 - 26)) from fun q => d ⟨q.1, q.2.1, by omega⟩)] at two
      obtain ⟨I3, I3', f1, f2, f3, f4⟩ := fail_q q3 (k := 1) (fun _ => rfl)
      have f1' : Tape_fail 1 1 I2 = some (false, I3) := f1
      have f2' : Mod_bad 1 I2' = some (false, I3') := f2
      rw [f2'] at two
      refine ⟨false, I3, J2, I3', J2', ?_, ?_, (kp2.trans f4).f, (kp2.trans f4).1 _ _ (by omega), fun q => absurd q (by simp), fun _ => f3⟩
      · simp only [↓reduceIte, s1, am, ia', f1', Option.bind_some, Bool.false_eq_true]
      · simp only [↓reduceIte, s2, one, q2, two, Option.bind_some, Bool.false_eq_true]
  · rw [if_neg (show ¬ (t1.1 = 4 ∧ 12 ≤ t1.2.1 ∧ t1.2.1 ≤ 12 + (7 - 5)) from fun q => c ⟨q.1, q.2.1, by omega⟩)] at one
    obtain ⟨I3, I3', f1, f2, f3, f4⟩ := fail_q s3 (k := 1) (fun _ => rfl)
    have am : Tape_takeAmong 1 12 3 I1 J1 = some (false, I3, J1) := takeAm_f (J := J1) s3.curB hO1 (a := 12) (n := 3) (by omega) (by omega) c f1
    have f2' : Mod_bad 1 I1' = some (false, I3') := f2
    rw [f2'] at one
    refine ⟨false, I3, J1, I3', J1', ?_, ?_, (s4.trans f4).f, (s4.trans f4).1 _ _ (by omega), fun q => absurd q (by simp), fun _ => f3⟩
    · simp only [↓reduceIte, s1, am, Option.bind_some, Bool.false_eq_true]
    · simp only [↓reduceIte, s2, one, Option.bind_some, Bool.false_eq_true]
theorem gets_q (hN : 2000 ≤ N) (ha : 6 ≤ a) (ha2 : a ≤ 20) (h : At m i t I J I' J') (hf : FdR a nP nF nE nW nH nR I J I' J') (ht : 2 < t.1) : ∃ v I1 J1 I1' J1', Land_readPair a 1 (a + 8) 9 15 3 17 I J = some (v, I1, J1) ∧ Mod_readGets N I' J' = some (v, I1', J1') ∧ OutD a m i v I J I' J' I1 J1 I1' J1' := by
  obtain ⟨t1, I1, J1, I1', J1', s1, s2, s3, s4, s5, s6⟩ := next_q hN h (by omega)
  have hO1 := s3.ok
  have one : Mod_isOneOf N 5 7 I1' J1' = (if t1.1 = 4 ∧ 12 ≤ t1.2.1 ∧ t1.2.1 ≤ 12 + (7 - 5) then some (true, up2 I1' 204 13 (nI (t1.2.1 - 12))) else Mod_bad 1 I1') := oneOf_m hN s3.curM hO1 (lo := 5) (hi := 7) (by omega) (by omega) map_read
  unfold Land_readPair Mod_readGets Mod_readReading
  by_cases c : t1.1 = 4 ∧ 12 ≤ t1.2.1 ∧ t1.2.1 < 12 + 3
  · rw [if_pos ⟨c.1, c.2.1, by omega⟩] at one
    obtain ⟨t2, I2, J2, I2', J2', q1, q2, q3, q4, q5, q6⟩ := next_q hN (s3.up12 (v := nI (t1.2.1 - 12)) |>.upM (x := 204) (k := 13) (v := nI (t1.2.1 - 12)) (by omega) (by omega)) (by omega)
    have am : Tape_takeAmong 1 12 3 I1 J1 = some (true, I2, J2) := takeAm_t s3.curB hO1 (a := 12) (n := 3) (by omega) (by omega) c.1 c.2.1 c.2.2 q1
    have r12 : I2 1 12 = nI (t1.2.1 - 12) := by rw [q5, u_s]
    have rr : ∀ v, up2 I1' 204 13 v 204 13 = v := fun v => u_s
    have hO2 := q3.ok
    have kp2 : Kp I J I' J' I2 J2 I2' J2' := s4.trans ⟨fun x j w => (q4.1 x j w).trans (up2_ff (by omega)), q4.2.1, fun x j w => (q4.2.2.1 x j w).trans (up2_ff (by omega)), q4.2.2.2⟩
    have ia := isAmong_b q3.curB hO2 (a := 15) (k := 3) (by omega) (by omega)
    have ia' : Tape_isAmong 1 15 3 I2 = decide (t2.1 = 4 ∧ 15 ≤ t2.2.1 ∧ t2.2.1 < 15 + 3) := ia
    have two : Mod_isOneOf N 10 12 I2' J2' = (if t2.1 = 4 ∧ 15 ≤ t2.2.1 ∧ t2.2.1 ≤ 15 + (12 - 10) then some (true, up2 I2' 204 13 (nI (t2.2.1 - 15))) else Mod_bad 1 I2') := oneOf_m hN q3.curM hO2 (lo := 10) (hi := 12) (by omega) (by omega) map_role
    by_cases d : t2.1 = 4 ∧ 15 ≤ t2.2.1 ∧ t2.2.1 < 15 + 3
    · rw [decide_eq_true d] at ia'
      rw [if_pos ⟨d.1, d.2.1, by omega⟩] at two
      obtain ⟨r, hr⟩ : ∃ r, r = t1.2.1 - 12 := ⟨_, rfl⟩
      obtain ⟨u, hu⟩ : ∃ u, u = t2.2.1 - 15 := ⟨_, rfl⟩
      rw [← hr] at one r12 q2
      rw [← hu] at two
      have w11 : I2 1 11 = nI (15 + u) := by rw [q3.curB.2, if_pos d.1]; congr 1; omega
      have cat : nI r * 3 + nI (15 + u) - 15 = nI (3 * r + u) := by
        show nI r * nI 3 + nI (15 + u) - nI 15 = _
        rw [nM, nA, nSb (by omega)]
        congr 1
        omega
      have cbit : 17 + nI (3 * r + u) = nI (17 + (3 * r + u)) := nA 17 _
      have mat : (3 : Int32) * nI r + nI u = nI (3 * r + u) := by
        show nI 3 * nI r + nI u = _
        rw [nM, nA]
      have mon : 16 + nI (3 * r + u) = nI (onM.getD (17 + (3 * r + u)) 0) := by
        rw [onM_g _ (by omega)]
        exact nA 16 _
      have mput : 21 + nI (3 * r + u) = nI (21 + (3 * r + u)) := nA 21 _
      have rr2 : ∀ v, up2 I2' 204 13 v 204 13 = v := fun v => u_s
      have z1 : (nI (3 * r + u) < (0 : Int32)) = False := by rw [L_0, lt_nI (by omega) (by omega)]; exact eq_false (by omega)
      have z2 : (Int32.ofNat 9 ≤ nI (3 * r + u)) = False := by rw [show Int32.ofNat 9 = nI 9 from rfl, le_nI (by omega) (by omega)]; exact eq_false (by omega)
      have z3 : in9 (nI (3 * r + u)) 9 = True := in9_t (by omega) (by omega)
      have z4 : (nI (3 * r + u)).toNatClampNeg = 3 * r + u := tN (by omega)
      have hf2 : FdR a nP nF nE nW nH nR I2 J2 (up2 I2' 204 13 (nI u)) J2' := (hf.kp ha kp2).kp ha ⟨fun _ _ _ => rfl, fun _ _ _ => rfl, fun x j w => up2_ff (by omega), fun _ _ _ => rfl⟩
      obtain ⟨v, I3, J3, I3', J3', g1, g2, g3, g4, g5⟩ := once_q hN ha (q3.upM (x := 204) (k := 13) (v := nI u) (by omega) (by omega)) hf2 (q := 17 + (3 * r + u)) (by omega) (by omega)
      have k14 : I3 a 14 = I a 14 := by rw [once14 ha g1, kp2.1 _ _ (by omega)]
      have kp3 : KpF a I J I' J' I3 J3 I3' J3' := (kp2.f).trans (KpF.trans ⟨fun _ _ _ _ => rfl, fun _ _ _ _ => rfl, fun x j w _ _ => up2_ff (by omega), fun _ _ _ _ => rfl⟩ g3)
      cases v with
      | false =>
        refine ⟨false, I3, J3, I3', J3', ?_, ?_, kp3, k14, fun q => absurd q (by simp), g5⟩
        · simp only [↓reduceIte, s1, am, ia', r12, w11, cat, cbit, g1, Option.bind_some, Bool.false_eq_true]
        · simp only [↓reduceIte, s2, one, q2, two, rr, rr2, mat, mon, g2, Option.bind_some, Bool.false_eq_true]
      | true =>
        obtain ⟨t3, b1, b2⟩ := g4 rfl
        obtain ⟨v, I4, J4, I4', J4', e1, e2, e3, e4, e5⟩ := takeNum_q hN b1 (lo := 0) (hi := 12) (by omega) (by omega)
        have e1' : Tape_takeNumber 1 0 12 I3 J3 = some (v, I4, J4) := e1
        have e2' : Mod_readNumber N 0 12 I3' J3' = some (v, I4', J4') := e2
        have k14b : I4 a 14 = I a 14 := by rw [e3.1 _ _ (by omega)]; exact k14
        cases v with
        | false =>
          refine ⟨false, I4, J4, I4', J4', ?_, ?_, kp3.trans e3.f, k14b, fun q => absurd q (by simp), e5⟩
          · simp only [↓reduceIte, s1, am, ia', r12, w11, cat, cbit, g1, e1', Option.bind_some, Bool.false_eq_true]
          · simp only [↓reduceIte, s2, one, q2, two, rr, rr2, mat, mon, g2, e2', put_f, Option.bind_some, Bool.false_eq_true]
        | true =>
          obtain ⟨x, t4, x1, x2, x3, x4, x5⟩ := e4 rfl
          have pt := fun (X : FI) => put_t (I := X) (k := 21 + (3 * r + u)) (by omega)
          refine ⟨true, up2 I4 (a + 8) (3 * r + u) (nI x), J4, up2 I4' 207 (21 + (3 * r + u)) (nI x), J4', ?_, ?_, ((kp3.trans e3.f).upI (by omega)).upM, by rw [u_o (by omega)]; exact k14b, fun _ => ⟨_, t4, nP, nF, nE, nW, nH, nR, by omega, (x5.upI (by omega) (by omega) (by omega)).upM (by omega) (by omega), (b2.kp ha e3).gets ha (by omega) x2⟩, fun q => absurd q (by simp)⟩
          · simp only [↓reduceIte, s1, am, ia', r12, w11, cat, cbit, g1, e1', z1, z2, z3, z4, x3, Option.bind_some]
          · simp only [↓reduceIte, s2, one, q2, two, rr, rr2, mat, mon, mput, g2, e2', pt, x4, Option.bind_some]
    · rw [decide_eq_false d] at ia'
      rw [if_neg (show ¬ (t2.1 = 4 ∧ 15 ≤ t2.2.1 ∧ t2.2.1 ≤ 15 + (12 - 10)) from fun q => d ⟨q.1, q.2.1, by omega⟩)] at two
      obtain ⟨I3, I3', f1, f2, f3, f4⟩ := fail_q q3 (k := 1) (fun _ => rfl)
      have f1' : Tape_fail 1 1 I2 = some (false, I3) := f1
      have f2' : Mod_bad 1 I2' = some (false, I3') := f2
      rw [f2'] at two
      refine ⟨false, I3, J2, I3', J2', ?_, ?_, (kp2.trans f4).f, (kp2.trans f4).1 _ _ (by omega), fun q => absurd q (by simp), fun _ => f3⟩
      · simp only [↓reduceIte, s1, am, ia', f1', Option.bind_some, Bool.false_eq_true]
      · simp only [↓reduceIte, s2, one, q2, two, Option.bind_some, Bool.false_eq_true]
  · rw [if_neg (show ¬ (t1.1 = 4 ∧ 12 ≤ t1.2.1 ∧ t1.2.1 ≤ 12 + (7 - 5)) from fun q => c ⟨q.1, q.2.1, by omega⟩)] at one
    obtain ⟨I3, I3', f1, f2, f3, f4⟩ := fail_q s3 (k := 1) (fun _ => rfl)
    have am : Tape_takeAmong 1 12 3 I1 J1 = some (false, I3, J1) := takeAm_f (J := J1) s3.curB hO1 (a := 12) (n := 3) (by omega) (by omega) c f1
    have f2' : Mod_bad 1 I1' = some (false, I3') := f2
    rw [f2'] at one
    refine ⟨false, I3, J1, I3', J1', ?_, ?_, (s4.trans f4).f, (s4.trans f4).1 _ _ (by omega), fun q => absurd q (by simp), fun _ => f3⟩
    · simp only [↓reduceIte, s1, am, Option.bind_some, Bool.false_eq_true]
    · simp only [↓reduceIte, s2, one, Option.bind_some, Bool.false_eq_true]
theorem prior_q (hN : 2000 ≤ N) (ha : 6 ≤ a) (ha2 : a ≤ 20) (h : At m i t I J I' J') (hf : FdR a nP nF nE nW nH nR I J I' J') (ht : 2 < t.1) : ∃ v I1 J1 I1' J1', Land_readPrior a 1 I J = some (v, I1, J1) ∧ Mod_readPrior N I' J' = some (v, I1', J1') ∧ OutD a m i v I J I' J' I1 J1 I1' J1' := by
  obtain ⟨t1, I1, J1, I1', J1', s1, s2, s3, s4, s5, s6⟩ := next_q hN h (by omega)
  have hO1 := s3.ok
  have one : Mod_isOneOf N 5 7 I1' J1' = (if t1.1 = 4 ∧ 12 ≤ t1.2.1 ∧ t1.2.1 ≤ 12 + (7 - 5) then some (true, up2 I1' 204 13 (nI (t1.2.1 - 12))) else Mod_bad 1 I1') := oneOf_m hN s3.curM hO1 (lo := 5) (hi := 7) (by omega) (by omega) map_read
  have ia : Tape_isAmong 1 12 3 I1 = decide (t1.1 = 4 ∧ 12 ≤ t1.2.1 ∧ t1.2.1 < 12 + 3) := isAmong_b s3.curB hO1 (a := 12) (k := 3) (by omega) (by omega)
  unfold Land_readPrior Mod_readPrior Mod_readReading
  by_cases c : t1.1 = 4 ∧ 12 ≤ t1.2.1 ∧ t1.2.1 < 12 + 3
  · rw [decide_eq_true c] at ia
    rw [if_pos ⟨c.1, c.2.1, by omega⟩] at one
    obtain ⟨r, hr⟩ : ∃ r, r = t1.2.1 - 12 := ⟨_, rfl⟩
    rw [← hr] at one
    have w11 : I1 1 11 = nI (12 + r) := by rw [s3.curB.2, if_pos c.1]; congr 1; omega
    have cat : nI (12 + r) - 12 = nI r := by
      show nI (12 + r) - nI 12 = _
      rw [nSb (by omega)]
      congr 1
      omega
    have cbit : (2 : Int32) + nI r = nI (2 + r) := nA 2 _
    have mon : 13 + nI r = nI (onM.getD (2 + r) 0) := by
      rw [onM_p _ (by omega)]
      exact nA 13 _
    have mput : 18 + nI r = nI (18 + r) := nA 18 _
    have rr : ∀ v, up2 I1' 204 13 v 204 13 = v := fun v => u_s
    have z3 : in9 (nI r) 3 = True := in9_t (by omega) (by omega)
    have z4 : (nI r).toNatClampNeg = r := tN (by omega)
    have hf2 : FdR a nP nF nE nW nH nR I1 J1 (up2 I1' 204 13 (nI r)) J1' := (hf.kp ha s4).kp ha ⟨fun _ _ _ => rfl, fun _ _ _ => rfl, fun x j w => up2_ff (by omega), fun _ _ _ => rfl⟩
    obtain ⟨v, I3, J3, I3', J3', g1, g2, g3, g4, g5⟩ := once_q hN ha (s3.upM (x := 204) (k := 13) (v := nI r) (by omega) (by omega)) hf2 (q := 2 + r) (by omega) (by omega)
    have k14 : I3 a 14 = I a 14 := by rw [once14 ha g1, s4.1 _ _ (by omega)]
    have kp3 : KpF a I J I' J' I3 J3 I3' J3' := (s4.f).trans (KpF.trans ⟨fun _ _ _ _ => rfl, fun _ _ _ _ => rfl, fun x j w _ _ => up2_ff (by omega), fun _ _ _ _ => rfl⟩ g3)
    cases v with
    | false =>
      refine ⟨false, I3, J3, I3', J3', ?_, ?_, kp3, k14, fun q => absurd q (by simp), g5⟩
      · simp only [↓reduceIte, s1, ia, w11, cat, cbit, g1, Option.bind_some, Bool.false_eq_true]
      · simp only [↓reduceIte, s2, one, rr, mon, g2, Option.bind_some, Bool.false_eq_true]
    | true =>
      obtain ⟨t3, b1, b2⟩ := g4 rfl
      obtain ⟨v, I4, J4, I4', J4', e1, e2, e3, e4, e5⟩ := takeNum_q hN b1 (lo := 1) (hi := 99) (by omega) (by omega)
      have e1' : Tape_takeNumber 1 1 99 I3 J3 = some (v, I4, J4) := e1
      have e2' : Mod_readNumber N 1 99 I3' J3' = some (v, I4', J4') := e2
      have k14b : I4 a 14 = I a 14 := by rw [e3.1 _ _ (by omega)]; exact k14
      cases v with
      | false =>
        refine ⟨false, I4, J4, I4', J4', ?_, ?_, kp3.trans e3.f, k14b, fun q => absurd q (by simp), e5⟩
        · simp only [↓reduceIte, s1, ia, w11, cat, cbit, g1, e1', Option.bind_some, Bool.false_eq_true]
        · simp only [↓reduceIte, s2, one, rr, mon, g2, e2', put_f, Option.bind_some, Bool.false_eq_true]
      | true =>
        obtain ⟨x, t4, x1, x2, x3, x4, x5⟩ := e4 rfl
        have pt := fun (X : FI) => put_t (I := X) (k := 18 + r) (by omega)
        refine ⟨true, up2 I4 (a + 7) r (nI x), J4, up2 I4' 207 (18 + r) (nI x), J4', ?_, ?_, ((kp3.trans e3.f).upI (by omega)).upM, by rw [u_o (by omega)]; exact k14b, fun _ => ⟨_, t4, nP, nF, nE, nW, nH, nR, by omega, (x5.upI (by omega) (by omega) (by omega)).upM (by omega) (by omega), (b2.kp ha e3).prior ha (by omega) x1 x2⟩, fun q => absurd q (by simp)⟩
        · simp only [↓reduceIte, s1, ia, w11, cat, cbit, g1, e1', z3, z4, x3, Option.bind_some]
        · simp only [↓reduceIte, s2, one, rr, mon, mput, g2, e2', pt, x4, Option.bind_some]
  · rw [decide_eq_false c] at ia
    rw [if_neg (show ¬ (t1.1 = 4 ∧ 12 ≤ t1.2.1 ∧ t1.2.1 ≤ 12 + (7 - 5)) from fun q => c ⟨q.1, q.2.1, by omega⟩)] at one
    obtain ⟨I3, I3', f1, f2, f3, f4⟩ := fail_q s3 (k := 1) (fun _ => rfl)
    have f1' : Tape_fail 1 1 I1 = some (false, I3) := f1
    have f2' : Mod_bad 1 I1' = some (false, I3') := f2
    rw [f2'] at one
    refine ⟨false, I3, J1, I3', J1', ?_, ?_, (s4.trans f4).f, (s4.trans f4).1 _ _ (by omega), fun q => absurd q (by simp), fun _ => f3⟩
    · simp only [↓reduceIte, s1, ia, f1', Option.bind_some, Bool.false_eq_true]
    · simp only [↓reduceIte, s2, one, Option.bind_some, Bool.false_eq_true]
end Q83

/-! a field's finds: both sides -/
def fB5 (N : Nat) (n : Int32) (I : FI) (J : FJ) : Option (Bool × FI × FJ) := Option.bind (Mod_readNumber N 0 99 I J) fun y => (Option.bind (Mod_put (80 + n) y.1 y.2.1) fun x => (if x.1 then ((Option.bind (some (up2 x.2 207 ((1 : Int32).toNatClampNeg) ((x.2 207 ((1 : Int32).toNatClampNeg)) + 1))) fun I16 => (some (true, I16, y.2.2)))) else (some (false, x.2, y.2.2))))
def fB4 (N : Nat) (n : Int32) (I : FI) (J : FJ) : Option (Bool × FI × FJ) := Option.bind (Mod_readNumber N 0 999 I J) fun y => (Option.bind (Mod_put (70 + n) y.1 y.2.1) fun x => (if x.1 then (fB5 N n x.2 y.2.2) else (some (false, x.2, y.2.2))))
def fB3 (N : Nat) (n : Int32) (I : FI) (J : FJ) : Option (Bool × FI × FJ) := Option.bind (Mod_readNumber N 0 9 I J) fun y => (Option.bind (Mod_put (60 + n) y.1 y.2.1) fun x => (if x.1 then (fB4 N n x.2 y.2.2) else (some (false, x.2, y.2.2))))
def fB2 (N : Nat) (n : Int32) (I : FI) (J : FJ) : Option (Bool × FI × FJ) := Option.bind (Mod_readNumber N 0 ((I 207 ((4 : Int32).toNatClampNeg)) - 1) I J) fun y => (Option.bind (Mod_put (50 + n) y.1 y.2.1) fun x => (if x.1 then (fB3 N n x.2 y.2.2) else (some (false, x.2, y.2.2))))
def fB1 (N : Nat) (n : Int32) (I : FI) (J : FJ) : Option (Bool × FI × FJ) := Option.bind (Mod_readNumber N 0 ((I 207 ((3 : Int32).toNatClampNeg)) - 1) I J) fun y => (Option.bind (Mod_put (40 + n) y.1 y.2.1) fun x => (if x.1 then (fB2 N n x.2 y.2.2) else (some (false, x.2, y.2.2))))
section Q85
variable {N a b ln sp sn ss nP nF nE nW nH nR : Nat} {I I' : FI} {J J' : FJ} {t : Nat × Nat × List Nat} {m i k : Nat}
theorem find_eq (N : Nat) (I : FI) (J : FJ) : Mod_readFind N I J = Option.bind (Mod_readFirst N 1 10 I J) fun x1 => (if x1.1 then (Option.bind (Mod_readNew N (6 + (x1.2.1 207 ((1 : Int32).toNatClampNeg))) x1.2.1 x1.2.2) fun x2 => (if x2.1 then (Option.bind (Mod_isOneOf N 26 29 x2.2.1 x2.2.2) fun x3 => (Option.bind (Mod_put (30 + (x1.2.1 207 ((1 : Int32).toNatClampNeg))) x3.1 x3.2) fun x4 => (if x4.1 then (Option.bind (Mod_go N x4.2 x2.2.2) fun x5 => (fB1 N (x1.2.1 207 ((1 : Int32).toNatClampNeg)) x5.1 x5.2)) else (some (false, x4.2, x2.2.2))))) else (some (false, x2.2.1, x2.2.2)))) else (some (false, x1.2.1, x1.2.2))) := rfl
/-- one number of a find -/
theorem fnum_q (hN : 2000 ≤ N) (ha : 6 ≤ a) (ha2 : a ≤ 20) (h : At m i t I J I' J') {w mo : Nat} (hw : 1 ≤ w) (hw2 : w ≤ 5) (hnF : nF < 10) (hmo : Land_mostOf a (nI w) I = nI mo) (hmo2 : mo < 1000) {p : Nat} (hp : p < 102) (hp0 : 30 ≤ p) : ∃ v I1 J1 I1' J1', (∀ f, Land_readFind_73 N a 1 (f + 1) (nI (nF * 6)) (nI w) I J = (if v = true then Land_readFind_73 N a 1 f (nI (nF * 6)) (nI (w + 1)) I1 J1 else some (false, I1, J1))) ∧ (∃ X, Mod_readNumber N 0 (nI mo) I' J' = some (v, X, J1') ∧ Mod_put (nI p) v X = some (v, I1')) ∧ (∀ q j, ¬ (q = 1 ∧ 8 ≤ j ∧ j ≤ 15) → ¬ (q = a + 4 ∧ j = nF * 6 + w) → I1 q j = I q j) ∧ (∀ q j, ¬ (q = 1 ∧ j = 10) → J1 q j = J q j) ∧ (∀ q j, ¬ (q = 204 ∧ 5 ≤ j ∧ j ≤ 13) → ¬ (q = 207 ∧ j = p) → I1' q j = I' q j) ∧ (∀ q j, ¬ (q = 204 ∧ j = 12) → J1' q j = J' q j) ∧ (v = true → ∃ x t', x ≤ mo ∧ I1 (a + 4) (nF * 6 + w) = nI x ∧ I1' 207 p = nI x ∧ At m (i + 1) t' I1 J1 I1' J1') ∧ (v = false → FlR I1 I1') := by
  obtain ⟨v, X, Y, X', Y', e1, e2, e3, e4, e5⟩ := takeNum_q hN h (lo := 0) (hi := mo) (by omega) hmo2
  have e1' : Tape_takeNumber 1 0 (nI mo) I J = some (v, X, Y) := e1
  have t1 : (6 ≤ nI w) = False := by rw [L_6, le_nI (by omega) (by omega)]; exact eq_false (by omega)
  have s1 : nI (nF * 6) + nI w = nI (nF * 6 + w) := nA _ _
  have g1 : in9 (nI (nF * 6 + w)) 60 = True := in9_t (by omega) (by omega)
  have g2 : (nI (nF * 6 + w)).toNatClampNeg = nF * 6 + w := tN (by omega)
  cases v with
  | false =>
    refine ⟨false, X, Y, X', Y', fun f => ?_, ⟨X', e2, put_f _⟩, fun q j w1 _ => e3.1 q j w1, e3.2.1, fun q j w1 _ => e3.2.2.1 q j w1, e3.2.2.2, fun q => absurd q (by simp), e5⟩
    conv => lhs; rw [Land_readFind_73]
    simp only [↓reduceIte, t1, hmo, e1', Option.bind_some, Bool.false_eq_true]
  | true =>
    obtain ⟨x, t', x1, x2, x3, x4, x5⟩ := e4 rfl
    refine ⟨true, up2 X (a + 4) (nF * 6 + w) (nI x), Y, up2 X' 207 p (nI x), Y', fun f => ?_, ⟨X', e2, by rw [put_t hp, x4]⟩, fun q j w1 w2 => (up2_ff w2).trans (e3.1 q j w1), e3.2.1, fun q j w1 w2 => (up2_ff w2).trans (e3.2.2.1 q j w1), e3.2.2.2, fun _ => ⟨x, t', x2, u_s, u_s, (x5.upI (by omega) (by omega) (by omega)).upM (by omega) (by omega)⟩, fun q => absurd q (by simp)⟩
    conv => lhs; rw [Land_readFind_73]
    simp only [↓reduceIte, t1, hmo, e1', s1, g1, g2, x3, nS, Option.bind_some]
theorem find_l2 (hN : 2000 ≤ N) (ha : 6 ≤ a) (ha2 : a ≤ 20) (h : At m i t I J I' J') (hf : FdR a nP nF nE nW nH nR I J I' J') (ht : 2 < t.1) : ∃ v I1 J1 I1' J1', Land_readFind N a 1 I J = some (v, I1, J1) ∧ Mod_readFind N I' J' = some (v, I1', J1') ∧ OutD a m i v I J I' J' I1 J1 I1' J1' := by
  have hF := hf.1.2.1.2
  have hW := hf.1.2.2.2.1
  have hH := hf.1.2.2.2.2.1
  have e1 : I' 207 1 = nI nF := hf.1.2.1.1
  have e2 : I a 12 = nI nF := hf.2.1.1.2.1.trans e1
  have w3 : I' 207 3 = nI nW := hW.1
  have w4 : I' 207 4 = nI nH := hH.1
  have w8 : I a 8 = nI nW := hf.2.1.1.2.2.2.1.trans w3
  have w9 : I a 9 = nI nH := hf.2.1.1.2.2.2.2.1.trans w4
  have g0 : in9 (1 : Int32) 102 = True := in9_t (k := 1) (by omega) (by omega)
  have c1 : (10 ≤ nI nF) = (10 ≤ nF) := by rw [L_10, le_nI (by omega) (by omega)]
  have c2 : (nI nF = (10 : Int32)) = (nF = 10) := by rw [L_10, eq_nI (by omega) (by omega)]
  rw [find_eq]
  unfold Land_readFind Mod_readFirst
  by_cases z : nF = 10
  · have y1 : (10 ≤ nF) = True := eq_true (by omega)
    have y2 : (nF = 10) = True := eq_true z
    obtain ⟨I1, I1', f1, f2, f3, f4⟩ := full_q (N := N) (a := a) h ht
    refine ⟨false, I1, J, I1', J', ?_, ?_, f4.f, f4.1 _ _ (by omega), fun q => absurd q (by simp), fun _ => f3⟩
    · simp only [↓reduceIte, e2, c1, y1, f1, Option.bind_some, Bool.false_eq_true]
    · simp only [↓reduceIte, g0, T_1, e1, c2, y2, f2, Option.bind_some, Bool.false_eq_true]
  · have y1 : (10 ≤ nF) = False := eq_false (by omega)
    have y2 : (nF = 10) = False := eq_false z
    obtain ⟨v, I1, J1, I1', J1', X, Y, r1, r2, r3, r4, r5, r6, r7⟩ := reach_q hN ha h hf (by omega) (slot := 6 + nF) (by omega)
    have x0 : X 207 1 = nI nF := by rw [r4]; exact e1
    have a6 : (6 : Int32) + nI nF = nI (6 + nF) := ax_6 _
    cases v with
    | false =>
      rw [if_neg (by simp)] at r3
      refine ⟨false, I1, J1, I1', J1', ?_, ?_, r5.f, r5.1 _ _ (by omega), fun q => absurd q (by simp), r7⟩
      · simp only [↓reduceIte, e2, c1, y1, r1, Option.bind_some, Bool.false_eq_true]
      · simp only [↓reduceIte, g0, T_1, e1, c2, y2, r2, x0, a6, r3, Option.bind_some, Bool.false_eq_true]
    | true =>
      rw [if_pos rfl] at r3
      obtain ⟨t1, b1, b2⟩ := r6 rfl
      have e3 : I1 a 12 = nI nF := by rw [r5.1 _ _ (by omega)]; exact e2
      have gp : in9 (nI nF) 10 = True := in9_t (by omega) (by omega)
      have tp : (nI nF).toNatClampNeg = nF := tN (by omega)
      obtain ⟨t2, I2, J2, I2', J2', s1, s2, s3, s4, s5, s6⟩ := next_q hN (b1.congr (I1 := I1) (J1 := up2 J1 (a + 2) nF (J1 1 10)) (I1' := I1') (J1' := up2 J1' 212 (6 + nF) (J1' 204 12)) (fun _ _ _ => rfl) (fun x j w => by rw [u_o (by omega)]) (fun _ _ _ => rfl) (by rw [u_o (by omega)])) (by omega)
      have kp2 : KpF a I J I' J' I2 J2 I2' J2' := (r5.f).trans (KpF.trans ⟨fun _ _ _ _ => rfl, fun x j w1 w2 => up2_ff (by omega), fun _ _ _ _ _ => rfl, fun x j w1 w2 => up2_ff (by omega)⟩ s4.f)
      have rn : Mod_readNew N (nI (6 + nF)) X Y = some (true, I2', J2') := by rw [r3, s2]; rfl
      have k14 : I2 a 14 = I a 14 := by rw [s4.1 _ _ (by omega), r5.1 _ _ (by omega)]
      have hO2 := s3.ok
      have one : Mod_isOneOf N 26 29 I2' J2' = (if t2.1 = 4 ∧ 8 ≤ t2.2.1 ∧ t2.2.1 ≤ 8 + (29 - 26) then some (true, up2 I2' 204 13 (nI (t2.2.1 - 8))) else Mod_bad 1 I2') := oneOf_m hN s3.curM hO2 (lo := 26) (hi := 29) (by omega) (by omega) map_kind
      have a30 : (30 : Int32) + nI nF = nI (30 + nF) := ax_30 _
      by_cases c : t2.1 = 4 ∧ 8 ≤ t2.2.1 ∧ t2.2.1 < 8 + 4
      · rw [if_pos ⟨c.1, c.2.1, by omega⟩] at one
        obtain ⟨u, hu⟩ : ∃ u, u = t2.2.1 - 8 := ⟨_, rfl⟩
        rw [← hu] at one
        have p30 := fun (X : FI) => put_t (I := X) (k := 30 + nF) (by omega)
        have u13 : ∀ v, up2 I2' 204 13 v 204 13 = v := fun v => u_s
        obtain ⟨t3, I3, J3, I3', J3', q1, q2, q3, q4, q5, q6⟩ := next_q hN ((s3.up12 (v := nI u)).congr (I1 := up2 I2 1 12 (nI u)) (J1 := J2) (I1' := up2 (up2 I2' 204 13 (nI u)) 207 (30 + nF) (nI u)) (J1' := J2') (fun _ _ _ => rfl) (fun _ _ _ => rfl) (fun x j w => by rw [u_o (by omega), up2_ff (by omega)]) rfl) (by omega)
        have q1' : Tape_step 1 (up2 I2 1 12 (nI (t2.2.1 - 8))) J2 = some (I3, J3) := by rw [← hu]; exact q1
        have am : Tape_takeAmong 1 8 4 I2 J2 = some (true, I3, J3) := takeAm_t s3.curB hO2 (a := 8) (n := 4) (by omega) (by omega) c.1 c.2.1 c.2.2 q1'
        have r12 : I3 1 12 = nI u := by rw [q5, u_s]
        have s60 : nI nF * 6 = nI (nF * 6) := nM nF 6
        have i60 : in9 (nI (nF * 6)) 60 = True := in9_t (by omega) (by omega)
        have j60 : (nI (nF * 6)).toNatClampNeg = nF * 6 := tN (by omega)
        -- the memory behind the kind
        obtain ⟨A0, hA0⟩ : ∃ A0, A0 = up2 I3 (a + 4) (nF * 6) (nI u) := ⟨_, rfl⟩
        have at0 : At m (i + 1 + 1 + 1) t3 A0 J3 I3' J3' := by rw [hA0]; exact q3.upI (by omega) (by omega) (by omega)
        have fA0 : ∀ q j, ¬ (q = 1 ∧ 8 ≤ j ∧ j ≤ 15) → ¬ (q = a + 4 ∧ nF * 6 ≤ j ∧ j < nF * 6 + 6) → A0 q j = I q j := fun q j w1 w2 => by
          rw [hA0, up2_ff (by omega), q4.1 _ _ w1, up2_ff (by omega), s4.1 _ _ w1, r5.1 _ _ w1]
        have fJ0 : ∀ q j, ¬ (q = 1 ∧ j = 10) → ¬ (q = a + 2 ∧ j = nF) → J3 q j = J q j := fun q j w1 w2 => by
          rw [q4.2.1 _ _ w1, s4.2.1 _ _ w1, up2_ff w2, r5.2.1 _ _ w1]
        have jc0 : J3 (a + 2) nF = J1 1 10 := by rw [q4.2.1 _ _ (by omega), s4.2.1 _ _ (by omega), u_s]
        have fM0 : ∀ q j, ¬ (q = 204 ∧ 5 ≤ j ∧ j ≤ 13) → ¬ (q = 207 ∧ j = 30 + nF) → I3' q j = I' q j := fun q j w1 w2 => by
          rw [q4.2.2.1 _ _ w1, up2_ff w2, up2_ff (by omega), s4.2.2.1 _ _ w1, r5.2.2.1 _ _ w1]
        have m00 : I3' 207 (30 + nF) = nI u := by rw [q4.2.2.1 _ _ (by omega), u_s]
        have i00 : A0 (a + 4) (nF * 6) = nI u := by rw [hA0, u_s]
        have fK0 : ∀ q j, ¬ (q = 204 ∧ j = 12) → ¬ (q = 212 ∧ j = 6 + nF) → J3' q j = J' q j := fun q j w1 w2 => by
          rw [q4.2.2.2 _ _ w1, s4.2.2.2 _ _ w1, up2_ff w2, r5.2.2.2 _ _ w1]
        have kc0 : J3' 212 (6 + nF) = J1' 204 12 := by rw [q4.2.2.2 _ _ (by omega), s4.2.2.2 _ _ (by omega), u_s]
        obtain ⟨f, hfu⟩ : ∃ f, N = f + 1 + 1 + 1 + 1 + 1 + 1 := ⟨N - 6, by omega⟩
        -- both sides up to the numbers
        have bk : ∀ z, Land_readFind_73 N a 1 N (nI (nF * 6)) (nI 1) A0 J3 = z → (if 10 ≤ (I a 12) then (Option.bind (Land_reachNewName N a 1 false I J) fun x1 => (if x1.1 then (if in9 (x1.2.1 a 12) 10 then (Option.bind (some (up2 x1.2.2 (a + 2) ((x1.2.1 a 12).toNatClampNeg) (x1.2.2 1 10))) fun J3 => (Option.bind (Tape_step 1 x1.2.1 J3) fun x4 => (Option.bind (Tape_takeAmong 1 8 4 x4.1 x4.2) fun x5 => (if x5.1 then (if in9 ((x1.2.1 a 12) * 6) 60 then (Option.bind (some (up2 x5.2.1 (a + 4) (((x1.2.1 a 12) * 6).toNatClampNeg) (x5.2.1 1 12))) fun I7 => (Land_readFind_73 N a 1 N ((x1.2.1 a 12) * 6) 1 I7 x5.2.2)) else none) else (some (false, x5.2.1, x5.2.2)))))) else none) else (some (false, x1.2.1, x1.2.2)))) else (Option.bind (Land_reachNewName N a 1 true I J) fun x12 => (if x12.1 then (if in9 (x12.2.1 a 12) 10 then (Option.bind (some (up2 x12.2.2 (a + 2) ((x12.2.1 a 12).toNatClampNeg) (x12.2.2 1 10))) fun J14 => (Option.bind (Tape_step 1 x12.2.1 J14) fun x15 => (Option.bind (Tape_takeAmong 1 8 4 x15.1 x15.2) fun x16 => (if x16.1 then (if in9 ((x12.2.1 a 12) * 6) 60 then (Option.bind (some (up2 x16.2.1 (a + 4) (((x12.2.1 a 12) * 6).toNatClampNeg) (x16.2.1 1 12))) fun I18 => (Land_readFind_73 N a 1 N ((x12.2.1 a 12) * 6) 1 I18 x16.2.2)) else none) else (some (false, x16.2.1, x16.2.2)))))) else none) else (some (false, x12.2.1, x12.2.2))))) = z := by
          intro z hz
          simp only [↓reduceIte, e2, c1, y1, r1, e3, gp, tp, s1, am, s60, i60, j60, r12, Option.bind_some]
          rw [← hA0]
          exact hz
        have mk : ∀ z, fB1 N (nI nF) I3' J3' = z → (Option.bind (if in9 (1 : Int32) 102 then (if (I' 207 ((1 : Int32).toNatClampNeg)) = 10 then (Option.bind (Mod_bad 4 I') fun x2 => (some (x2.1, x2.2, J'))) else (Option.bind (Mod_go N I' J') fun x3 => (some (true, x3.1, x3.2)))) else none) fun x1 => (if x1.1 then (Option.bind (Mod_readNew N (6 + (x1.2.1 207 ((1 : Int32).toNatClampNeg))) x1.2.1 x1.2.2) fun x2 => (if x2.1 then (Option.bind (Mod_isOneOf N 26 29 x2.2.1 x2.2.2) fun x3 => (Option.bind (Mod_put (30 + (x1.2.1 207 ((1 : Int32).toNatClampNeg))) x3.1 x3.2) fun x4 => (if x4.1 then (Option.bind (Mod_go N x4.2 x2.2.2) fun x5 => (fB1 N (x1.2.1 207 ((1 : Int32).toNatClampNeg)) x5.1 x5.2)) else (some (false, x4.2, x2.2.2))))) else (some (false, x2.2.1, x2.2.2)))) else (some (false, x1.2.1, x1.2.2)))) = z := by
          intro z hz
          simp only [↓reduceIte, g0, T_1, e1, c2, y2, r2, x0, a6, rn, one, p30, a30, u13, q2, Option.bind_some]
          exact hz
        have mo1 : Land_mostOf a (nI 1) A0 = nI (nW - 1) := by show (if nI 1 = (1 : Int32) then (A0 a 8) - 1 else _) = _; rw [if_pos (show nI 1 = (1 : Int32) from rfl), fA0 _ _ (by omega) (by omega), w8, L_1, nSb (by omega)]
        obtain ⟨v1, A1, B1, M1, K1, ca1, ⟨X1, cb1, cc1⟩, cd1, ce1, cf1, cg1, ch1, ci1⟩ := fnum_q hN ha ha2 at0 (w := 1) (nF := nF) (by omega) (by omega) (by omega) mo1 (by omega) (p := 40 + nF) (by omega) (by omega)
        have fA1 : ∀ q j, ¬ (q = 1 ∧ 8 ≤ j ∧ j ≤ 15) → ¬ (q = a + 4 ∧ nF * 6 ≤ j ∧ j < nF * 6 + 6) → A1 q j = I q j := fun q j w1 w2 => by rw [cd1 q j w1 (by omega), fA0 q j w1 w2]
        have fJ1 : ∀ q j, ¬ (q = 1 ∧ j = 10) → ¬ (q = a + 2 ∧ j = nF) → B1 q j = J q j := fun q j w1 w2 => by rw [ce1 q j w1, fJ0 q j w1 w2]
        have jc1 : B1 (a + 2) nF = J1 1 10 := by rw [ce1 _ _ (by omega)]; exact jc0
        have fK1 : ∀ q j, ¬ (q = 204 ∧ j = 12) → ¬ (q = 212 ∧ j = 6 + nF) → K1 q j = J' q j := fun q j w1 w2 => by rw [cg1 q j w1, fK0 q j w1 w2]
        have kc1 : K1 212 (6 + nF) = J1' 204 12 := by rw [cg1 _ _ (by omega)]; exact kc0
        have fM1 : ∀ q j, ¬ (q = 204 ∧ 5 ≤ j ∧ j ≤ 13) → ¬ (q = 207 ∧ (j = 30 + nF ∨ j = 40 + nF)) → M1 q j = I' q j := fun q j w1 w2 => by rw [cf1 q j w1 (by omega), fM0 q j w1 (by omega)]
        have n1 : (40 : Int32) + nI nF = nI (40 + nF) := ax_40 _
        have cb1' : Mod_readNumber N 0 ((I3' 207 3) - 1) I3' J3' = some (v1, X1, K1) := by rw [show I3' 207 3 = nI nW by rw [fM0 _ _ (by omega) (by omega)]; exact w3, L_1, nSb (by omega)]; exact cb1
        cases v1 with
        | false =>
          refine ⟨false, A1, B1, M1, K1, bk _ ?_, mk _ ?_, ⟨fun x j w1 w2 => fA1 x j w1 (by omega), fun x j w1 w2 => fJ1 x j w1 (by omega), fun x j w1 w2 w3 => fM1 x j w1 (by omega), fun x j w1 w2 => fK1 x j w1 (by omega)⟩, fA1 _ _ (by omega) (by omega), fun q => absurd q (by simp), fun _ => ci1 rfl⟩
          · conv => lhs; arg 4; rw [hfu]
            simp only [ca1, ↓reduceIte, Bool.false_eq_true, Nat.reduceAdd]
          · simp only [fB1, n1, cb1', cc1, T_3, T_4, ↓reduceIte, Option.bind_some, Bool.false_eq_true]
        | true =>
          obtain ⟨y1, t4, u1, ii1, mm1, at1⟩ := ch1 rfl
          have mo2 : Land_mostOf a (nI 2) A1 = nI (nH - 1) := by show (if nI 2 = (1 : Int32) then _ else (if nI 2 = (2 : Int32) then (A1 a 9) - 1 else _)) = _; rw [if_neg (by decide), if_pos (show nI 2 = (2 : Int32) from rfl), fA1 _ _ (by omega) (by omega), w9, L_1, nSb (by omega)]
          obtain ⟨v2, A2, B2, M2, K2, ca2, ⟨X2, cb2, cc2⟩, cd2, ce2, cf2, cg2, ch2, ci2⟩ := fnum_q hN ha ha2 at1 (w := 2) (nF := nF) (by omega) (by omega) (by omega) mo2 (by omega) (p := 50 + nF) (by omega) (by omega)
          have fA2 : ∀ q j, ¬ (q = 1 ∧ 8 ≤ j ∧ j ≤ 15) → ¬ (q = a + 4 ∧ nF * 6 ≤ j ∧ j < nF * 6 + 6) → A2 q j = I q j := fun q j w1 w2 => by rw [cd2 q j w1 (by omega), fA1 q j w1 w2]
          have fJ2 : ∀ q j, ¬ (q = 1 ∧ j = 10) → ¬ (q = a + 2 ∧ j = nF) → B2 q j = J q j := fun q j w1 w2 => by rw [ce2 q j w1, fJ1 q j w1 w2]
          have jc2 : B2 (a + 2) nF = J1 1 10 := by rw [ce2 _ _ (by omega)]; exact jc1
          have fK2 : ∀ q j, ¬ (q = 204 ∧ j = 12) → ¬ (q = 212 ∧ j = 6 + nF) → K2 q j = J' q j := fun q j w1 w2 => by rw [cg2 q j w1, fK1 q j w1 w2]
          have kc2 : K2 212 (6 + nF) = J1' 204 12 := by rw [cg2 _ _ (by omega)]; exact kc1
          have fM2 : ∀ q j, ¬ (q = 204 ∧ 5 ≤ j ∧ j ≤ 13) → ¬ (q = 207 ∧ (j = 30 + nF ∨ j = 40 + nF ∨ j = 50 + nF)) → M2 q j = I' q j := fun q j w1 w2 => by rw [cf2 q j w1 (by omega), fM1 q j w1 (by omega)]
          have n2 : (50 : Int32) + nI nF = nI (50 + nF) := ax_50 _
          have cb2' : Mod_readNumber N 0 ((M1 207 4) - 1) M1 K1 = some (v2, X2, K2) := by rw [show M1 207 4 = nI nH by rw [fM1 _ _ (by omega) (by omega)]; exact w4, L_1, nSb (by omega)]; exact cb2
          cases v2 with
          | false =>
            refine ⟨false, A2, B2, M2, K2, bk _ ?_, mk _ ?_, ⟨fun x j w1 w2 => fA2 x j w1 (by omega), fun x j w1 w2 => fJ2 x j w1 (by omega), fun x j w1 w2 w3 => fM2 x j w1 (by omega), fun x j w1 w2 => fK2 x j w1 (by omega)⟩, fA2 _ _ (by omega) (by omega), fun q => absurd q (by simp), fun _ => ci2 rfl⟩
            · conv => lhs; arg 4; rw [hfu]
              simp only [ca1, ca2, ↓reduceIte, Bool.false_eq_true, Nat.reduceAdd]
            · simp only [fB1, n1, cb1', cc1, fB2, n2, cb2', cc2, T_3, T_4, ↓reduceIte, Option.bind_some, Bool.false_eq_true]
          | true =>
            obtain ⟨y2, t5, u2, ii2, mm2, at2⟩ := ch2 rfl
            have mo3 : Land_mostOf a (nI 3) A2 = nI (9) := by unfold Land_mostOf; simp only [↓reduceIte, (by decide : (nI 3 = (1 : Int32)) = False), (by decide : (nI 3 = (2 : Int32)) = False), (by decide : (nI 3 = (3 : Int32)) = True)]; rfl
            obtain ⟨v3, A3, B3, M3, K3, ca3, ⟨X3, cb3, cc3⟩, cd3, ce3, cf3, cg3, ch3, ci3⟩ := fnum_q hN ha ha2 at2 (w := 3) (nF := nF) (by omega) (by omega) (by omega) mo3 (by omega) (p := 60 + nF) (by omega) (by omega)
            have fA3 : ∀ q j, ¬ (q = 1 ∧ 8 ≤ j ∧ j ≤ 15) → ¬ (q = a + 4 ∧ nF * 6 ≤ j ∧ j < nF * 6 + 6) → A3 q j = I q j := fun q j w1 w2 => by rw [cd3 q j w1 (by omega), fA2 q j w1 w2]
            have fJ3 : ∀ q j, ¬ (q = 1 ∧ j = 10) → ¬ (q = a + 2 ∧ j = nF) → B3 q j = J q j := fun q j w1 w2 => by rw [ce3 q j w1, fJ2 q j w1 w2]
            have jc3 : B3 (a + 2) nF = J1 1 10 := by rw [ce3 _ _ (by omega)]; exact jc2
            have fK3 : ∀ q j, ¬ (q = 204 ∧ j = 12) → ¬ (q = 212 ∧ j = 6 + nF) → K3 q j = J' q j := fun q j w1 w2 => by rw [cg3 q j w1, fK2 q j w1 w2]
            have kc3 : K3 212 (6 + nF) = J1' 204 12 := by rw [cg3 _ _ (by omega)]; exact kc2
            have fM3 : ∀ q j, ¬ (q = 204 ∧ 5 ≤ j ∧ j ≤ 13) → ¬ (q = 207 ∧ (j = 30 + nF ∨ j = 40 + nF ∨ j = 50 + nF ∨ j = 60 + nF)) → M3 q j = I' q j := fun q j w1 w2 => by rw [cf3 q j w1 (by omega), fM2 q j w1 (by omega)]
            have n3 : (60 : Int32) + nI nF = nI (60 + nF) := ax_60 _
            have cb3' : Mod_readNumber N 0 9 M2 K2 = some (v3, X3, K3) := cb3
            cases v3 with
            | false =>
              refine ⟨false, A3, B3, M3, K3, bk _ ?_, mk _ ?_, ⟨fun x j w1 w2 => fA3 x j w1 (by omega), fun x j w1 w2 => fJ3 x j w1 (by omega), fun x j w1 w2 w3 => fM3 x j w1 (by omega), fun x j w1 w2 => fK3 x j w1 (by omega)⟩, fA3 _ _ (by omega) (by omega), fun q => absurd q (by simp), fun _ => ci3 rfl⟩
              · conv => lhs; arg 4; rw [hfu]
                simp only [ca1, ca2, ca3, ↓reduceIte, Bool.false_eq_true, Nat.reduceAdd]
              · simp only [fB1, n1, cb1', cc1, fB2, n2, cb2', cc2, fB3, n3, cb3', cc3, T_3, T_4, ↓reduceIte, Option.bind_some, Bool.false_eq_true]
            | true =>
              obtain ⟨y3, t6, u3, ii3, mm3, at3⟩ := ch3 rfl
              have mo4 : Land_mostOf a (nI 4) A3 = nI (999) := by unfold Land_mostOf; simp only [↓reduceIte, (by decide : (nI 4 = (1 : Int32)) = False), (by decide : (nI 4 = (2 : Int32)) = False), (by decide : (nI 4 = (3 : Int32)) = False), (by decide : (nI 4 = (4 : Int32)) = True)]; rfl
              obtain ⟨v4, A4, B4, M4, K4, ca4, ⟨X4, cb4, cc4⟩, cd4, ce4, cf4, cg4, ch4, ci4⟩ := fnum_q hN ha ha2 at3 (w := 4) (nF := nF) (by omega) (by omega) (by omega) mo4 (by omega) (p := 70 + nF) (by omega) (by omega)
              have fA4 : ∀ q j, ¬ (q = 1 ∧ 8 ≤ j ∧ j ≤ 15) → ¬ (q = a + 4 ∧ nF * 6 ≤ j ∧ j < nF * 6 + 6) → A4 q j = I q j := fun q j w1 w2 => by rw [cd4 q j w1 (by omega), fA3 q j w1 w2]
              have fJ4 : ∀ q j, ¬ (q = 1 ∧ j = 10) → ¬ (q = a + 2 ∧ j = nF) → B4 q j = J q j := fun q j w1 w2 => by rw [ce4 q j w1, fJ3 q j w1 w2]
              have jc4 : B4 (a + 2) nF = J1 1 10 := by rw [ce4 _ _ (by omega)]; exact jc3
              have fK4 : ∀ q j, ¬ (q = 204 ∧ j = 12) → ¬ (q = 212 ∧ j = 6 + nF) → K4 q j = J' q j := fun q j w1 w2 => by rw [cg4 q j w1, fK3 q j w1 w2]
              have kc4 : K4 212 (6 + nF) = J1' 204 12 := by rw [cg4 _ _ (by omega)]; exact kc3
              have fM4 : ∀ q j, ¬ (q = 204 ∧ 5 ≤ j ∧ j ≤ 13) → ¬ (q = 207 ∧ (j = 30 + nF ∨ j = 40 + nF ∨ j = 50 + nF ∨ j = 60 + nF ∨ j = 70 + nF)) → M4 q j = I' q j := fun q j w1 w2 => by rw [cf4 q j w1 (by omega), fM3 q j w1 (by omega)]
              have n4 : (70 : Int32) + nI nF = nI (70 + nF) := ax_70 _
              have cb4' : Mod_readNumber N 0 999 M3 K3 = some (v4, X4, K4) := cb4
              cases v4 with
              | false =>
                refine ⟨false, A4, B4, M4, K4, bk _ ?_, mk _ ?_, ⟨fun x j w1 w2 => fA4 x j w1 (by omega), fun x j w1 w2 => fJ4 x j w1 (by omega), fun x j w1 w2 w3 => fM4 x j w1 (by omega), fun x j w1 w2 => fK4 x j w1 (by omega)⟩, fA4 _ _ (by omega) (by omega), fun q => absurd q (by simp), fun _ => ci4 rfl⟩
                · conv => lhs; arg 4; rw [hfu]
                  simp only [ca1, ca2, ca3, ca4, ↓reduceIte, Bool.false_eq_true, Nat.reduceAdd]
                · simp only [fB1, n1, cb1', cc1, fB2, n2, cb2', cc2, fB3, n3, cb3', cc3, fB4, n4, cb4', cc4, T_3, T_4, ↓reduceIte, Option.bind_some, Bool.false_eq_true]
              | true =>
                obtain ⟨y4, t7, u4, ii4, mm4, at4⟩ := ch4 rfl
                have mo5 : Land_mostOf a (nI 5) A4 = nI (99) := by unfold Land_mostOf; simp only [↓reduceIte, (by decide : (nI 5 = (1 : Int32)) = False), (by decide : (nI 5 = (2 : Int32)) = False), (by decide : (nI 5 = (3 : Int32)) = False), (by decide : (nI 5 = (4 : Int32)) = False)]; rfl
                obtain ⟨v5, A5, B5, M5, K5, ca5, ⟨X5, cb5, cc5⟩, cd5, ce5, cf5, cg5, ch5, ci5⟩ := fnum_q hN ha ha2 at4 (w := 5) (nF := nF) (by omega) (by omega) (by omega) mo5 (by omega) (p := 80 + nF) (by omega) (by omega)
                have fA5 : ∀ q j, ¬ (q = 1 ∧ 8 ≤ j ∧ j ≤ 15) → ¬ (q = a + 4 ∧ nF * 6 ≤ j ∧ j < nF * 6 + 6) → A5 q j = I q j := fun q j w1 w2 => by rw [cd5 q j w1 (by omega), fA4 q j w1 w2]
                have fJ5 : ∀ q j, ¬ (q = 1 ∧ j = 10) → ¬ (q = a + 2 ∧ j = nF) → B5 q j = J q j := fun q j w1 w2 => by rw [ce5 q j w1, fJ4 q j w1 w2]
                have jc5 : B5 (a + 2) nF = J1 1 10 := by rw [ce5 _ _ (by omega)]; exact jc4
                have fK5 : ∀ q j, ¬ (q = 204 ∧ j = 12) → ¬ (q = 212 ∧ j = 6 + nF) → K5 q j = J' q j := fun q j w1 w2 => by rw [cg5 q j w1, fK4 q j w1 w2]
                have kc5 : K5 212 (6 + nF) = J1' 204 12 := by rw [cg5 _ _ (by omega)]; exact kc4
                have fM5 : ∀ q j, ¬ (q = 204 ∧ 5 ≤ j ∧ j ≤ 13) → ¬ (q = 207 ∧ (j = 30 + nF ∨ j = 40 + nF ∨ j = 50 + nF ∨ j = 60 + nF ∨ j = 70 + nF ∨ j = 80 + nF)) → M5 q j = I' q j := fun q j w1 w2 => by rw [cf5 q j w1 (by omega), fM4 q j w1 (by omega)]
                have n5 : (80 : Int32) + nI nF = nI (80 + nF) := ax_80 _
                have cb5' : Mod_readNumber N 0 99 M4 K4 = some (v5, X5, K5) := cb5
                cases v5 with
                | false =>
                  refine ⟨false, A5, B5, M5, K5, bk _ ?_, mk _ ?_, ⟨fun x j w1 w2 => fA5 x j w1 (by omega), fun x j w1 w2 => fJ5 x j w1 (by omega), fun x j w1 w2 w3 => fM5 x j w1 (by omega), fun x j w1 w2 => fK5 x j w1 (by omega)⟩, fA5 _ _ (by omega) (by omega), fun q => absurd q (by simp), fun _ => ci5 rfl⟩
                  · conv => lhs; arg 4; rw [hfu]
                    simp only [ca1, ca2, ca3, ca4, ca5, ↓reduceIte, Bool.false_eq_true, Nat.reduceAdd]
                  · simp only [fB1, n1, cb1', cc1, fB2, n2, cb2', cc2, fB3, n3, cb3', cc3, fB4, n4, cb4', cc4, fB5, n5, cb5', cc5, T_3, T_4, ↓reduceIte, Option.bind_some, Bool.false_eq_true]
                | true =>
                  obtain ⟨y5, t8, u5, ii5, mm5, at5⟩ := ch5 rfl
                  have e5 : A5 a 12 = nI nF := by rw [fA5 _ _ (by omega) (by omega)]; exact e2
                  have m5 : M5 207 1 = nI nF := by rw [fM5 _ _ (by omega) (by omega)]; exact e1
                  have l6 : (6 ≤ nI 6) = True := eq_true (by decide)
                  have fin6 : ∀ f, Land_readFind_73 N a 1 (f + 1) (nI (nF * 6)) (nI 6) A5 B5 = some (true, up2 A5 a 12 (nI (nF + 1)), B5) := fun f => by
                    rw [Land_readFind_73]
                    simp only [↓reduceIte, l6, e5, nS, Option.bind_some]
                  refine ⟨true, up2 A5 a 12 (nI (nF + 1)), B5, up2 M5 207 1 (nI (nF + 1)), K5, bk _ ?_, mk _ ?_, ⟨fun x j w1 w2 => ?_, fun x j w1 w2 => fJ5 x j w1 (by omega), fun x j w1 w2 w3 => ?_, fun x j w1 w2 => fK5 x j w1 (by omega)⟩, ?_, fun _ => ⟨_, t8, nP, nF + 1, nE, nW, nH, nR, by omega, (at5.upI (by omega) (by omega) (by omega)).upM (by omega) (by omega), hf.find ha (by omega) (b1.word b2) (fun q j a1 a2 a3 a4 => ?_) u_s (fun q j a1 a2 a3 => fJ5 q j (by omega) a3) jc5 (fun j a1 a2 => ?_) u_s (fun j a1 a2 => fK5 _ _ (by omega) (by omega)) kc5 (y0 := u) (y1 := y1) (y2 := y2) (y3 := y3) (y4 := y4) (y5 := y5) (by omega) (by omega) (by omega) u3 u4 u5 ?_ ?_ ?_ ?_ ?_ ?_ ?_ ?_ ?_ ?_ ?_ ?_ (fun j => ?_) ?_⟩, fun q => absurd q (by simp)⟩
                  · conv => lhs; arg 4; rw [hfu]
                    simp only [ca1, ca2, ca3, ca4, ca5, fin6, ↓reduceIte, Nat.reduceAdd]
                  · simp only [fB1, n1, cb1', cc1, fB2, n2, cb2', cc2, fB3, n3, cb3', cc3, fB4, n4, cb4', cc4, fB5, n5, cb5', cc5, T_1, T_3, T_4, m5, nS, ↓reduceIte, Option.bind_some]
                  · rw [up2_ff (by omega)]; exact fA5 x j w1 (by omega)
                  · rw [u_o w2]; exact fM5 x j w1 (by omega)
                  · rw [u_j (by omega)]; exact fA5 _ _ (by omega) (by omega)
                  · rw [up2_ff (by omega)]; exact fA5 q j (by omega) a4
                  · rw [u_j (by omega)]; exact fM5 _ _ (by omega) (by omega)
                  · rw [u_o (by omega), cd5 _ _ (by omega) (by omega), cd4 _ _ (by omega) (by omega), cd3 _ _ (by omega) (by omega), cd2 _ _ (by omega) (by omega), cd1 _ _ (by omega) (by omega)]; exact i00
                  · rw [u_o (by omega), cd5 _ _ (by omega) (by omega), cd4 _ _ (by omega) (by omega), cd3 _ _ (by omega) (by omega), cd2 _ _ (by omega) (by omega)]; exact ii1
                  · rw [u_o (by omega), cd5 _ _ (by omega) (by omega), cd4 _ _ (by omega) (by omega), cd3 _ _ (by omega) (by omega)]; exact ii2
                  · rw [u_o (by omega), cd5 _ _ (by omega) (by omega), cd4 _ _ (by omega) (by omega)]; exact ii3
                  · rw [u_o (by omega), cd5 _ _ (by omega) (by omega)]; exact ii4
                  · rw [u_o (by omega)]; exact ii5
                  · rw [u_j (by omega), cf5 _ _ (by omega) (by omega), cf4 _ _ (by omega) (by omega), cf3 _ _ (by omega) (by omega), cf2 _ _ (by omega) (by omega), cf1 _ _ (by omega) (by omega)]; exact m00
                  · rw [u_j (by omega), cf5 _ _ (by omega) (by omega), cf4 _ _ (by omega) (by omega), cf3 _ _ (by omega) (by omega), cf2 _ _ (by omega) (by omega)]; exact mm1
                  · rw [u_j (by omega), cf5 _ _ (by omega) (by omega), cf4 _ _ (by omega) (by omega), cf3 _ _ (by omega) (by omega)]; exact mm2
                  · rw [u_j (by omega), cf5 _ _ (by omega) (by omega), cf4 _ _ (by omega) (by omega)]; exact mm3
                  · rw [u_j (by omega), cf5 _ _ (by omega) (by omega)]; exact mm4
                  · rw [u_j (by omega)]; exact mm5
                  · rw [u_o (by omega)]; exact fM5 _ _ (by omega) (by omega)
                  · rw [u_j (by omega)]; exact fA5 _ _ (by omega) (by omega)
      · rw [if_neg (show ¬ (t2.1 = 4 ∧ 8 ≤ t2.2.1 ∧ t2.2.1 ≤ 8 + (29 - 26)) from fun q => c ⟨q.1, q.2.1, by omega⟩)] at one
        obtain ⟨I3, I3', f1, f2, f3, f4⟩ := fail_q s3 (k := 1) (fun _ => rfl)
        have am : Tape_takeAmong 1 8 4 I2 J2 = some (false, I3, J2) := takeAm_f (J := J2) s3.curB hO2 (a := 8) (n := 4) (by omega) (by omega) c f1
        have f2' : Mod_bad 1 I2' = some (false, I3') := f2
        rw [f2'] at one
        refine ⟨false, I3, J2, I3', J2', ?_, ?_, kp2.trans f4.f, by rw [f4.1 _ _ (by omega)]; exact k14, fun q => absurd q (by simp), fun _ => f3⟩
        · simp only [↓reduceIte, e2, c1, y1, r1, e3, gp, tp, s1, am, Option.bind_some, Bool.false_eq_true]
        · simp only [↓reduceIte, g0, T_1, e1, c2, y2, r2, x0, a6, rn, one, put_f, a30, Option.bind_some, Bool.false_eq_true]
end Q85

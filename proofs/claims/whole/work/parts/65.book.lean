/-! the book's lines are read: both sides -/
section Q65
variable {N b ln sp sn ss nP nF nE nW nH nR : Nat} {I I' : FI} {J J' : FJ} {t : Nat × Nat × List Nat} {m i k : Nat}
/-- line k, alike on both sides -/
def LnR (nP nF k : Nat) (I I' : FI) : Prop :=
  (I 56 k = nI 18 ∧ I' 222 (4 * k) = nI 0 ∧ ∃ p x y, p < nP ∧ x < 6 ∧ y < 6 ∧ I 57 k = nI p ∧ I' 222 (4 * k + 1) = nI p ∧ I 58 k = nI x ∧ I' 222 (4 * k + 2) = nI x ∧ I 59 k = nI y ∧ I' 222 (4 * k + 3) = nI y) ∨
  (I 56 k = nI 19 ∧ I' 222 (4 * k) = nI 1 ∧ ∃ f, f < nF ∧ I 57 k = nI f ∧ I' 222 (4 * k + 1) = nI f) ∨
  (I 56 k = nI 20 ∧ I' 222 (4 * k) = nI 2 ∧ ∃ f, f < nF ∧ I 57 k = nI f ∧ I' 222 (4 * k + 1) = nI f) ∨
  (I 56 k = nI 21 ∧ I' 222 (4 * k) = nI 3 ∧ ∃ f x y, f < nF ∧ x < 6 ∧ y < 6 ∧ I 57 k = nI f ∧ I' 222 (4 * k + 1) = nI f ∧ I 58 k = nI x ∧ I' 222 (4 * k + 2) = nI x ∧ I 59 k = nI y ∧ I' 222 (4 * k + 3) = nI y) ∨
  (I 56 k = nI 22 ∧ I' 222 (4 * k) = nI 4 ∧ ∃ f p, f < nF ∧ p < nP ∧ I 57 k = nI f ∧ I' 222 (4 * k + 1) = nI f ∧ I 58 k = nI p ∧ I' 222 (4 * k + 2) = nI p) ∨
  (I 56 k = nI 24 ∧ I' 222 (4 * k) = nI 5 ∧ ∃ v, 1 ≤ v ∧ v ≤ 30 ∧ I 57 k = nI v ∧ I' 222 (4 * k + 2) = nI v) ∨
  (I 56 k = nI 23 ∧ I' 222 (4 * k) = nI 6 ∧ ∃ v, v ≤ 999 ∧ I 57 k = nI v ∧ I' 222 (4 * k + 2) = nI v)
def KpL (k : Nat) (I : FI) (J : FJ) (I' : FI) (J' : FJ) (I1 : FI) (J1 : FJ) (I1' : FI) (J1' : FJ) : Prop := (∀ x j, ¬ (x = 1 ∧ 8 ≤ j ∧ j ≤ 15) → ¬ (56 ≤ x ∧ x ≤ 59 ∧ j = k) → I1 x j = I x j) ∧ (∀ x j, ¬ (x = 1 ∧ j = 10) → J1 x j = J x j) ∧ (∀ x j, ¬ (x = 204 ∧ 5 ≤ j ∧ j ≤ 13) → ¬ (x = 222 ∧ 4 * k ≤ j ∧ j < 4 * k + 4) → I1' x j = I' x j) ∧ (∀ x j, ¬ (x = 204 ∧ j = 12) → J1' x j = J' x j)
theorem KpL.rfl : KpL k I J I' J' I J I' J' := ⟨fun _ _ _ _ => Eq.refl _, fun _ _ _ => Eq.refl _, fun _ _ _ _ => Eq.refl _, fun _ _ _ => Eq.refl _⟩
theorem KpL.trans {I1 I1' I2 I2' : FI} {J1 J1' J2 J2' : FJ} (h : KpL k I J I' J' I1 J1 I1' J1') (g : KpL k I1 J1 I1' J1' I2 J2 I2' J2') : KpL k I J I' J' I2 J2 I2' J2' := ⟨fun x j w u => (g.1 x j w u).trans (h.1 x j w u), fun x j w => (g.2.1 x j w).trans (h.2.1 x j w), fun x j w u => (g.2.2.1 x j w u).trans (h.2.2.1 x j w u), fun x j w => (g.2.2.2 x j w).trans (h.2.2.2 x j w)⟩
theorem Kp.l {I1 I1' : FI} {J1 J1' : FJ} (h : Kp I J I' J' I1 J1 I1' J1') : KpL k I J I' J' I1 J1 I1' J1' := ⟨fun x j w _ => h.1 x j w, h.2.1, fun x j w _ => h.2.2.1 x j w, h.2.2.2⟩
theorem KpL.upI {I1 I1' : FI} {J1 J1' : FJ} {x : Nat} {v : Int32} (h : KpL k I J I' J' I1 J1 I1' J1') (hx : 56 ≤ x) (hx2 : x ≤ 59) : KpL k I J I' J' (up2 I1 x k v) J1 I1' J1' := ⟨fun y j w u => (up2_ff (by omega)).trans (h.1 y j w u), h.2.1, h.2.2.1, h.2.2.2⟩
theorem KpL.upM {I1 I1' : FI} {J1 J1' : FJ} {j : Nat} {v : Int32} (h : KpL k I J I' J' I1 J1 I1' J1') (hx : 4 * k ≤ j) (hx2 : j < 4 * k + 4) : KpL k I J I' J' I1 J1 (up2 I1' 222 j v) J1' := ⟨h.1, h.2.1, fun y l w u => (up2_ff (by omega)).trans (h.2.2.1 y l w u), h.2.2.2⟩
theorem readCell_q (hN : 2000 ≤ N) (h : At m i t I J I' J') (h55 : I 55 4 = nI k) (hk : k < 40) : ∃ v I1 J1 I1' J1', Book_readCell 55 1 I J = some (v, I1, J1) ∧ Mod_readPlace N (nI (4 * k)) I' J' = some (v, I1', J1') ∧ KpL k I J I' J' I1 J1 I1' J1' ∧ I1 56 k = I 56 k ∧ I1 57 k = I 57 k ∧ I1' 222 (4 * k) = I' 222 (4 * k) ∧ I1' 222 (4 * k + 1) = I' 222 (4 * k + 1) ∧ (v = true → ∃ x y t', x < 6 ∧ y < 6 ∧ I1 58 k = nI x ∧ I1' 222 (4 * k + 2) = nI x ∧ I1 59 k = nI y ∧ I1' 222 (4 * k + 3) = nI y ∧ At m (i + 2) t' I1 J1 I1' J1') ∧ (v = false → FlR I1 I1') := by
  have a2 : nI (4 * k) + 2 = nI (4 * k + 2) := nA _ 2
  have a3 : nI (4 * k) + 3 = nI (4 * k + 3) := nA _ 3
  have g0 : in9 (nI k) 40 = True := in9_t (by omega) (by omega)
  have g1 : (nI k).toNatClampNeg = k := tN (by omega)
  have g2 : in9 (nI (4 * k + 2)) 160 = True := in9_t (by omega) (by omega)
  have g3 : in9 (nI (4 * k + 3)) 160 = True := in9_t (by omega) (by omega)
  have g4 : (nI (4 * k + 2)).toNatClampNeg = 4 * k + 2 := tN (by omega)
  have g5 : (nI (4 * k + 3)).toNatClampNeg = 4 * k + 3 := tN (by omega)
  obtain ⟨v, I1, J1, I1', J1', e1, e2, e3, e4, e5⟩ := takeNum_q hN h (lo := 0) (hi := 5) (by omega) (by omega)
  have e1' : Tape_takeNumber 1 0 5 I J = some (v, I1, J1) := e1
  have e2' : Mod_readNumber N 0 5 I' J' = some (v, I1', J1') := e2
  unfold Book_readCell Mod_readPlace
  cases v with
  | false =>
    refine ⟨false, I1, J1, I1', J1', ?_, ?_, e3.l, e3.1 _ _ (by omega), e3.1 _ _ (by omega), e3.2.2.1 _ _ (by omega), e3.2.2.1 _ _ (by omega), fun q => absurd q (by simp), fun _ => e5 rfl⟩
    · simp only [↓reduceIte, e1', Option.bind_some, Bool.false_eq_true]
    · simp only [↓reduceIte, e2', Option.bind_some, Bool.false_eq_true]
  | true =>
    obtain ⟨x, t', x1, x2, x3, x4, x5⟩ := e4 rfl
    have q55 : I1 55 4 = nI k := by rw [e3.1 _ _ (by omega)]; exact h55
    obtain ⟨w, I2, J2, I2', J2', f1, f2, f3, f4, f5⟩ := takeNum_q hN (x5.upI (x := 58) (k := k) (v := nI x) (by omega) (by omega) (by omega) |>.upM (x := 222) (k := 4 * k + 2) (v := nI x) (by omega) (by omega)) (lo := 0) (hi := 5) (by omega) (by omega)
    have f1' : Tape_takeNumber 1 0 5 (up2 I1 58 k (nI x)) J1 = some (w, I2, J2) := f1
    have f2' : Mod_readNumber N 0 5 (up2 I1' 222 (4 * k + 2) (nI x)) J1' = some (w, I2', J2') := f2
    have kp : KpL k I J I' J' I2 J2 I2' J2' := ((e3.l (k := k)).upI (x := 58) (by omega) (by omega) |>.upM (j := 4 * k + 2) (by omega) (by omega)).trans (f3.l (k := k))
    have p56 : I2 56 k = I 56 k := by rw [f3.1 _ _ (by omega), u_o (by omega), e3.1 _ _ (by omega)]
    have p57 : I2 57 k = I 57 k := by rw [f3.1 _ _ (by omega), u_o (by omega), e3.1 _ _ (by omega)]
    have p0 : I2' 222 (4 * k) = I' 222 (4 * k) := by rw [f3.2.2.1 _ _ (by omega), u_j (by omega), e3.2.2.1 _ _ (by omega)]
    have p1 : I2' 222 (4 * k + 1) = I' 222 (4 * k + 1) := by rw [f3.2.2.1 _ _ (by omega), u_j (by omega), e3.2.2.1 _ _ (by omega)]
    cases w with
    | false =>
      refine ⟨false, I2, J2, I2', J2', ?_, ?_, kp, p56, p57, p0, p1, fun q => absurd q (by simp), fun _ => f5 rfl⟩
      · simp only [↓reduceIte, e1', q55, g0, g1, x3, f1', Option.bind_some, Bool.false_eq_true, Nat.reduceAdd]
      · simp only [↓reduceIte, e2', a2, g2, g4, x4, f2', Option.bind_some, Bool.false_eq_true]
    | true =>
      obtain ⟨y, t2, y1, y2, y3, y4, y5⟩ := f4 rfl
      have r55 : I2 55 4 = nI k := by rw [kp.1 _ _ (by omega) (by omega)]; exact h55
      refine ⟨true, up2 I2 59 k (nI y), J2, up2 I2' 222 (4 * k + 3) (nI y), J2', ?_, ?_, (kp.upI (by omega) (by omega)).upM (by omega) (by omega), by rw [u_o (by omega)]; exact p56, by rw [u_o (by omega)]; exact p57, by rw [u_j (by omega)]; exact p0, by rw [u_j (by omega)]; exact p1, fun _ => ⟨x, y, t2, by omega, by omega, ?_, ?_, u_s, u_s, (y5.upI (by omega) (by omega) (by omega)).upM (by omega) (by omega)⟩, fun q => absurd q (by simp)⟩
      · simp only [↓reduceIte, e1', q55, g0, g1, x3, f1', r55, y3, Option.bind_some, Nat.reduceAdd]
      · simp only [↓reduceIte, e2', a2, a3, g2, g3, g4, g5, x4, f2', y4, Option.bind_some]
      · rw [u_o (by omega), f3.1 _ _ (by omega), u_s]
      · rw [u_j (by omega), f3.2.2.1 _ _ (by omega), u_s]
/-- the number behind plough, night -/
theorem readMany_q (hN : 2000 ≤ N) (h : At m i t I J I' J') (h55 : I 55 4 = nI k) (hk : k < 40) {w lo hi o : Nat} (h4 : t.1 = 4) (hw : t.2.1 = w) (hc : (w = 23 ∧ lo = 0 ∧ hi = 999 ∧ o = 6) ∨ (w = 24 ∧ lo = 1 ∧ hi = 30 ∧ o = 5)) : ∃ v I1 J1 I1' J1', Book_readWork 55 1 I J = some (v, I1, J1) ∧ Mod_readMany N (nI (4 * k)) (nI o) (nI lo) (nI hi) I' J' = some (v, I1', J1') ∧ KpL k I J I' J' I1 J1 I1' J1' ∧ (v = true → ∃ x t', lo ≤ x ∧ x ≤ hi ∧ I1 56 k = nI w ∧ I1' 222 (4 * k) = nI o ∧ I1 57 k = nI x ∧ I1' 222 (4 * k + 2) = nI x ∧ At m (i + 2) t' I1 J1 I1' J1') ∧ (v = false → FlR I1 I1') := by
  have a2 : nI (4 * k) + 2 = nI (4 * k + 2) := nA _ 2
  have g0 : in9 (nI k) 40 = True := in9_t (by omega) (by omega)
  have g1 : (nI k).toNatClampNeg = k := tN (by omega)
  have g2 : in9 (nI (4 * k)) 160 = True := in9_t (by omega) (by omega)
  have g3 : in9 (nI (4 * k + 2)) 160 = True := in9_t (by omega) (by omega)
  have g4 : (nI (4 * k)).toNatClampNeg = 4 * k := tN (by omega)
  have g5 : (nI (4 * k + 2)).toNatClampNeg = 4 * k + 2 := tN (by omega)
  have w11 : I 1 11 = nI w := by rw [h.curB.2, if_pos h4, hw]
  have u11 : up2 I 56 k (nI w) 1 11 = nI w := by rw [u_o (by omega)]; exact w11
  obtain ⟨t1, I1, J1, I1', J1', s1, s2, s3, s4, s5, s6⟩ := next_q hN (h.upI (x := 56) (k := k) (v := nI w) (by omega) (by omega) (by omega) |>.upM (x := 222) (k := 4 * k) (v := nI o) (by omega) (by omega)) (by omega)
  obtain ⟨v, I2, J2, I2', J2', e1, e2, e3, e4, e5⟩ := takeNum_q hN s3 (lo := lo) (hi := hi) (by omega) (by omega)
  have kp : KpL k I J I' J' I2 J2 I2' J2' := ((KpL.rfl (k := k)).upI (x := 56) (by omega) (by omega) |>.upM (j := 4 * k) (by omega) (by omega)).trans ((s4.trans e3).l (k := k))
  have q55 : I2 55 4 = nI k := by rw [kp.1 _ _ (by omega) (by omega)]; exact h55
  have p56 : I2 56 k = nI w := by rw [e3.1 _ _ (by omega), s4.1 _ _ (by omega), u_s]
  have p0 : I2' 222 (4 * k) = nI o := by rw [e3.2.2.1 _ _ (by omega), s4.2.2.1 _ _ (by omega), u_s]
  have d : ∀ (X : FI) (K : FJ) (y : Bool), Tape_takeNumber 1 (nI lo) (nI hi) I1 J1 = some (y, X, K) → Book_readWork 55 1 I J = (if y = true then (if in9 (X 55 4) 40 then (Option.bind (some (up2 X 57 ((X 55 4).toNatClampNeg) (X 1 12))) fun I6 => (some (true, I6, K))) else none) else some (false, X, K)) := by
    intro X K y hy
    rcases hc with ⟨rfl, rfl, rfl, rfl⟩ | ⟨rfl, rfl, rfl, rfl⟩
    · have c : (nI 23 = (23 : Int32)) = True := eq_true rfl
      have hy' : Tape_takeNumber 1 0 999 I1 J1 = some (y, X, K) := hy
      unfold Book_readWork
      simp only [↓reduceIte, h55, g0, g1, w11, u11, c, s1, hy', Option.bind_some, Nat.reduceAdd]
    · have c : (nI 24 = (23 : Int32)) = False := eq_false (by decide)
      have hy' : Tape_takeNumber 1 1 30 I1 J1 = some (y, X, K) := hy
      unfold Book_readWork
      simp only [↓reduceIte, h55, g0, g1, w11, u11, c, s1, hy', Option.bind_some, Nat.reduceAdd]
  rw [d _ _ _ e1]
  unfold Mod_readMany
  cases v with
  | false =>
    refine ⟨false, I2, J2, I2', J2', ?_, ?_, kp, fun q => absurd q (by simp), fun _ => e5 rfl⟩
    · simp only [↓reduceIte, Bool.false_eq_true]
    · simp only [↓reduceIte, g2, g4, s2, e2, Option.bind_some, Bool.false_eq_true]
  | true =>
    obtain ⟨x, t2, x1, x2, x3, x4, x5⟩ := e4 rfl
    refine ⟨true, up2 I2 57 k (nI x), J2, up2 I2' 222 (4 * k + 2) (nI x), J2', ?_, ?_, (kp.upI (by omega) (by omega)).upM (by omega) (by omega), fun _ => ⟨x, t2, x1, x2, ?_, ?_, u_s, u_s, (x5.upI (by omega) (by omega) (by omega)).upM (by omega) (by omega)⟩, fun q => absurd q (by simp)⟩
    · simp only [↓reduceIte, q55, g0, g1, x3, Option.bind_some]
    · simp only [↓reduceIte, g2, g4, s2, e2, a2, g3, g5, x4, Option.bind_some]
    · rw [u_o (by omega)]; exact p56
    · rw [u_j (by omega)]; exact p0
end Q65

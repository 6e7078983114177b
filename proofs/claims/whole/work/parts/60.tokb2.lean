/-! tokens: the book's side stands at one -/
section Q60
variable {N b ln sp sn ss nP nF nE nW nH nR : Nat} {I I' : FI} {J J' : FJ} {c : Nat → Nat} {n m : Nat}
theorem tok_b (hN : 2000 ≤ N) (hw : WordsJ J) (h : BytB c n I) {p k : Nat} (hk : k < 901) (hp : p < n) (h6 : I 1 6 = nI p) : ∃ (I1 : FI) (J1 : FJ), Tape_readToken N 1 (nI k) I J = some (I1, J1) ∧ I1 1 6 = nI (if isAn (c p) = true then rn c n p else p + 1) ∧ BkT (if isAn (c p) = true then runT c p (rn c n p - p) else if isSg (c p) = true then (c p, 0, []) else (2, 0, [])) (I1 4 k) (J1 6 k) ∧ (∀ x j, ¬ (x = 4 ∧ j = k) → ¬ (x = 1 ∧ j = 6) → I1 x j = I x j) ∧ (∀ x j, ¬ (x = 6 ∧ j = k) → J1 x j = J x j) := by
  have hB := h
  obtain ⟨hn, h5, hc⟩ := h
  obtain ⟨b1, b2⟩ := hc p hp
  have t2 : in9 (nI p) 940 = True := in9_t (by omega) (by omega)
  have t3 : (nI p).toNatClampNeg = p := tN (by omega)
  have t9 : in9 (nI k) 901 = True := in9_t (by omega) (by omega)
  have tk : (nI k).toNatClampNeg = k := tN (by omega)
  have t4 : Tape_goesOn (sb (c p)) = isAn (c p) := bAn b1
  have t5 : Tape_isSign (sb (c p)) = isSg (c p) := bSg b1
  cases a : isAn (c p) with
  | true =>
    rw [if_pos rfl, if_pos rfl]
    obtain ⟨a1, a2, a3, a4⟩ := rn_ok (c := c) (n := n) (p := p) (by omega)
    obtain ⟨f, hf⟩ : ∃ f, N = f + (rn c n p - p) + 1 := ⟨N - (rn c n p - p) - 1, by omega⟩
    obtain ⟨ty, v, e, k1⟩ := run_b hN hw hk (rn c n p - p) 0 f I 0 0 hB (by rw [h6]; rfl) (by rw [show p + 0 + (rn c n p - p) = rn c n p by omega]; exact ⟨a1, a2, a3, a4⟩) (fun _ _ => rfl) (fun _ _ => rfl)
    rw [← hf] at e
    have e2 : Tape_readRun N 1 (nI k) I J = some (up2 (up2 I 1 6 (nI (p + 0 + (rn c n p - p)))) 4 k ty, up2 J 6 k v) := e
    rw [show p + 0 + (rn c n p - p) = rn c n p by omega] at e2
    refine ⟨up2 (up2 I 1 6 (nI (rn c n p))) 4 k ty, up2 J 6 k v, ?_, ?_, ?_, fun x j w1 w2 => (up2_ff w1).trans (up2_ff w2), fun x j w1 => up2_ff w1⟩
    · rw [a] at t4
      simp only [↓reduceIte, Tape_readToken, h6, t2, t3, b2, t4, e2, Nat.reduceAdd, Option.bind_some]
    · rw [u_o (by omega), u_s]
    · rw [u_s, u_s]
      rw [Nat.zero_add] at k1
      exact k1
  | false =>
    rw [if_neg (by simp), if_neg (by simp)]
    rw [a] at t4
    cases g : isSg (c p) with
    | true =>
      rw [if_pos rfl]
      rw [g] at t5
      have t6 := sb_sig2 _ b1 t5
      rw [t6] at b2 t4 t5
      have r := sg_rng g
      refine ⟨up2 (up2 I 4 k (nI (c p))) 1 6 (nI (p + 1)), J, ?_, u_s, ⟨?_, fun x => absurd (show c p = 3 from x) (by omega), fun x => absurd (show c p = 4 from x) (by omega), fun x => absurd (show c p = 5 from x) (by omega)⟩, fun x j w1 w2 => (up2_ff w2).trans (up2_ff w1), fun x j w1 => rfl⟩
      · have e1 : ∀ w, up2 I 4 k w 1 6 = I 1 6 := fun w => by rw [u_o (by omega)]
        simp only [↓reduceIte, Tape_readToken, h6, t2, t3, b2, t4, t5, t9, tk, e1, nS, Nat.reduceAdd, Option.bind_some, Bool.false_eq_true]
      · rw [u_o (by omega), u_s]
    | false =>
      rw [if_neg (by simp)]
      rw [g] at t5
      refine ⟨up2 (up2 I 4 k (nI 2)) 1 6 (nI (p + 1)), J, ?_, u_s, ⟨?_, fun x => absurd x (show ¬ 2 = 3 by omega), fun x => absurd x (show ¬ 2 = 4 by omega), fun x => absurd x (show ¬ 2 = 5 by omega)⟩, fun x j w1 w2 => (up2_ff w2).trans (up2_ff w1), fun x j w1 => rfl⟩
      · have e1 : ∀ w, up2 I 4 k w 1 6 = I 1 6 := fun w => by rw [u_o (by omega)]
        simp only [↓reduceIte, Tape_readToken, h6, t2, t3, b2, t4, t5, t9, tk, e1, nS, Nat.reduceAdd, Option.bind_some, Bool.false_eq_true]
        rfl
      · rw [u_o (by omega), u_s]
/-- the j-th token as it was cut -/
def Ent (c : Nat → Nat) (n m j : Nat) (I : FI) (J : FJ) : Prop := BkT (kT c n m (tE c n m j)) (I 4 j) (J 6 j) ∧ I 5 j = nI (kQ c n m (tE c n m j))
theorem Ent.to {j : Nat} {I1 : FI} {J1 : FJ} (h : Ent c n m j I J) (h1 : I1 4 j = I 4 j) (h2 : I1 5 j = I 5 j) (h3 : J1 6 j = J 6 j) : Ent c n m j I1 J1 := by
  unfold Ent
  rw [h1, h2, h3]
  exact h
theorem stop_l {i : Nat} (h : BytB c n I) (hm : m ≤ 900) (hi : i ≤ 900) (h6 : I 1 6 = nI (sk c n (tE c n m i))) (hE : ∀ j, j < i → Ent c n m j I J ∧ going c n m j) (g : ¬ going c n m i) (f : Nat) : ∃ I1 L, Tape_begin_11 N 1 (f + 1) (nI m) (nI i) I J = Tape_step 1 I1 J ∧ L ≤ m ∧ ¬ going c n m L ∧ (∀ j, j ≤ L → Ent c n m j I1 J) ∧ I1 1 7 = nI L ∧ I1 1 8 = nI 0 ∧ I1 1 14 = nI 0 ∧ I1 1 15 = nI 0 := by
  obtain ⟨hn, h5, hc⟩ := h
  obtain ⟨a1, a2, a3, a4⟩ := sk_ok (c := c) (tE_le (c := c) (n := n) (m := m) i)
  have him : i ≤ m := by
    by_cases z : i = 0
    · omega
    · have u1 := tE_ge (c := c) (n := n) (m := m) (i - 1) (fun j hj => (hE j (by omega)).2)
      have u2 := (hE (i - 1) (by omega)).2.2
      have u3 := (sk_ok (c := c) (tE_le (c := c) (n := n) (m := m) (i - 1))).1
      omega
  have t9 : in9 (nI i) 901 = True := in9_t (by omega) (by omega)
  have tk : (nI i).toNatClampNeg = i := tN (by omega)
  have f1 : (900 ≤ nI i) = (900 ≤ i) := by rw [L_900, le_nI (by omega) (by omega)]
  have f2 : (nI n ≤ nI (sk c n (tE c n m i))) = (n ≤ sk c n (tE c n m i)) := le_nI (by omega) (by omega)
  have f3 : (nI m ≤ nI (sk c n (tE c n m i))) = (m ≤ sk c n (tE c n m i)) := le_nI (by omega) (by omega)
  have f4 : (nI n ≤ nI m) = (n ≤ m) := le_nI (by omega) (by omega)
  have f5 : (nI m < nI n) = (m < n) := lt_nI (by omega) (by omega)
  have e1 : ∀ w, up2 I 4 i w 1 5 = I 1 5 := fun w => by rw [u_o (by omega)]
  have g' : ¬ (sk c n (tE c n m i) < n ∧ sk c n (tE c n m i) < m) := g
  have hT : kT c n m (tE c n m i) = if m < n then (1, 0, []) else (0, 0, []) := if_neg g'
  have hQ : kQ c n m (tE c n m i) = if n < m then n else m := if_neg g'
  refine ⟨up2 (up2 (up2 (up2 (up2 (up2 I 4 i (nI (if m < n then 1 else 0))) 5 i (nI (if m < n then m else n))) 1 7 (nI i)) 1 8 0) 1 14 0) 1 15 0, i, ?_, him, g, fun j hj => ?_, ?_, ?_, ?_, ?_⟩
  · rw [Tape_begin_11]
    by_cases w : m < n
    · have w2 : (n ≤ m) = False := eq_false (by omega)
      have w1 : (m < n) = True := eq_true w
      by_cases x1 : 900 ≤ i
      · have y1 : (900 ≤ i) = True := eq_true x1
        simp only [↓reduceIte, h5, h6, f1, f2, f3, f4, f5, e1, w1, w2, y1, t9, tk, Nat.reduceAdd, Option.bind_some, bind_eta]
        rfl
      · have y1 : (900 ≤ i) = False := eq_false x1
        by_cases x2 : n ≤ sk c n (tE c n m i)
        · have y2 : (n ≤ sk c n (tE c n m i)) = True := eq_true x2
          simp only [↓reduceIte, h5, h6, f1, f2, f3, f4, f5, e1, w1, w2, y1, y2, t9, tk, Nat.reduceAdd, Option.bind_some, bind_eta]
          rfl
        · have y2 : (n ≤ sk c n (tE c n m i)) = False := eq_false x2
          have y3 : (m ≤ sk c n (tE c n m i)) = True := eq_true (by omega)
          simp only [↓reduceIte, h5, h6, f1, f2, f3, f4, f5, e1, w1, w2, y1, y2, y3, t9, tk, Nat.reduceAdd, Option.bind_some, bind_eta]
          rfl
    · have w2 : (n ≤ m) = True := eq_true (by omega)
      have w1 : (m < n) = False := eq_false w
      by_cases x1 : 900 ≤ i
      · have y1 : (900 ≤ i) = True := eq_true x1
        simp only [↓reduceIte, h5, h6, f1, f2, f3, f4, f5, e1, w1, w2, y1, t9, tk, Nat.reduceAdd, Option.bind_some, bind_eta]
        rfl
      · have y1 : (900 ≤ i) = False := eq_false x1
        have y2 : (n ≤ sk c n (tE c n m i)) = True := eq_true (by omega)
        simp only [↓reduceIte, h5, h6, f1, f2, f3, f4, f5, e1, w1, w2, y1, y2, t9, tk, Nat.reduceAdd, Option.bind_some, bind_eta]
        rfl
  · by_cases q : j = i
    · rw [q]
      refine ⟨?_, ?_⟩
      · rw [hT]
        rw [u_o (by omega), u_o (by omega), u_o (by omega), u_o (by omega), u_o (by omega), u_s]
        by_cases w : m < n
        · rw [if_pos w, if_pos w]
          exact ⟨rfl, fun x => absurd x (show ¬ 1 = 3 by omega), fun x => absurd x (show ¬ 1 = 4 by omega), fun x => absurd x (show ¬ 1 = 5 by omega)⟩
        · rw [if_neg w, if_neg w]
          exact ⟨rfl, fun x => absurd x (show ¬ 0 = 3 by omega), fun x => absurd x (show ¬ 0 = 4 by omega), fun x => absurd x (show ¬ 0 = 5 by omega)⟩
      · rw [hQ, u_o (by omega), u_o (by omega), u_o (by omega), u_o (by omega), u_s]
        congr 1
        by_cases w : m < n
        · rw [if_pos w, if_neg (by omega)]
        · rw [if_neg w]
          by_cases w3 : n < m
          · rw [if_pos w3]
          · rw [if_neg w3]; omega
    · refine ((hE j (by omega)).1).to ?_ ?_ rfl
      · rw [u_o (by omega), u_o (by omega), u_o (by omega), u_o (by omega), u_o (by omega), u_j q]
      · rw [u_o (by omega), u_o (by omega), u_o (by omega), u_o (by omega), u_j q, u_o (by omega)]
  · rw [u_j (by omega), u_j (by omega), u_j (by omega), u_s]
  · rw [u_j (by omega), u_j (by omega), u_s]; rfl
  · rw [u_j (by omega), u_s]; rfl
  · rw [u_s]; rfl
theorem begin_l (hN : 2000 ≤ N) (hm : m ≤ 900) : ∀ r i f (I : FI) (J : FJ), i + r = 900 → WordsJ J → BytB c n I → I 1 6 = nI (sk c n (tE c n m i)) → (∀ j, j < i → Ent c n m j I J ∧ going c n m j) → ∃ I1 J1 L, Tape_begin_11 N 1 (f + r + 1) (nI m) (nI i) I J = Tape_step 1 I1 J1 ∧ L ≤ m ∧ ¬ going c n m L ∧ (∀ j, j ≤ L → Ent c n m j I1 J1) ∧ I1 1 7 = nI L ∧ I1 1 8 = nI 0 ∧ I1 1 14 = nI 0 ∧ I1 1 15 = nI 0 := by
  intro r
  induction r with
  | zero =>
    intro i f I J hi hw hB h6 hE
    have g : ¬ going c n m i := fun g => by
      have := tE_ge (c := c) (n := n) (m := m) i (fun j hj => (hE j hj).2)
      have a1 := (sk_ok (c := c) (tE_le (c := c) (n := n) (m := m) i)).1
      have := g.2
      omega
    obtain ⟨I1, L, q⟩ := stop_l (N := N) hB hm (by omega) h6 hE g f
    exact ⟨I1, J, L, q⟩
  | succ r ih =>
    intro i f I J hi hw hB h6 hE
    by_cases g : going c n m i
    · have hBB := hB
      obtain ⟨hn, h5, hc⟩ := hB
      have t9 : in9 (nI i) 901 = True := in9_t (by omega) (by omega)
      have tk : (nI i).toNatClampNeg = i := tN (by omega)
      have f1 : (900 ≤ nI i) = False := by rw [L_900, le_nI (by omega) (by omega)]; exact eq_false (by omega)
      have f2 : (nI n ≤ nI (sk c n (tE c n m i))) = False := by rw [le_nI (by omega) (by have := g.1; omega)]; exact eq_false (by have := g.1; omega)
      have f3 : (nI m ≤ nI (sk c n (tE c n m i))) = False := by rw [le_nI (by omega) (by have := g.1; omega)]; exact eq_false (by have := g.2; omega)
      obtain ⟨I1, J1, e1, e2, e3, e4, e5⟩ := tok_b hN hw (hBB.to (I1 := up2 I 5 i (nI (sk c n (tE c n m i)))) (by rw [u_o (by omega)]) (fun i => by rw [u_o (by omega)])) (k := i) (by omega) g.1 (by rw [u_o (by omega)]; exact h6)
      have hE1 : tE c n m (i + 1) = if isAn (c (sk c n (tE c n m i))) = true then rn c n (sk c n (tE c n m i)) else sk c n (tE c n m i) + 1 := if_pos g
      have hT : kT c n m (tE c n m i) = (if isAn (c (sk c n (tE c n m i))) = true then runT c (sk c n (tE c n m i)) (rn c n (sk c n (tE c n m i)) - sk c n (tE c n m i)) else if isSg (c (sk c n (tE c n m i))) = true then (c (sk c n (tE c n m i)), 0, []) else (2, 0, [])) := if_pos g
      have hQ : kQ c n m (tE c n m i) = sk c n (tE c n m i) := if_pos g
      rw [← hE1] at e2
      rw [← hT] at e3
      have hB1 : BytB c n I1 := hBB.to (by rw [e4 1 5 (by omega) (by omega), u_o (by omega)]) (fun i => by rw [e4 2 i (by omega) (by omega), u_o (by omega)])
      have s1 := skip_b hN hB1 (sk_ok (tE_le (c := c) (n := n) (m := m) (i + 1))) e2
      obtain ⟨I2, J2, L, q⟩ := ih (i + 1) f (up2 I1 1 6 (nI (sk c n (tE c n m (i + 1))))) J1 (by omega) (fun j hj => by rw [e5 3 j (by omega)]; exact hw j hj) (hB1.to (u_j (by omega)) (fun i => by rw [u_o (by omega)])) u_s (fun j hj => by
        by_cases w : j = i
        · rw [w]
          refine ⟨⟨?_, ?_⟩, g⟩
          · rw [u_o (by omega)]; exact e3
          · rw [u_o (by omega), e4 5 i (by omega) (by omega), u_s, hQ]
        · obtain ⟨k1, k2⟩ := hE j (by omega)
          refine ⟨k1.to ?_ ?_ ?_, k2⟩
          · rw [u_o (by omega), e4 4 j (by omega) (by omega), u_o (by omega)]
          · rw [u_o (by omega), e4 5 j (by omega) (by omega), u_j w]
          · exact e5 6 j (by omega))
      refine ⟨I2, J2, L, ?_, q.2⟩
      rw [← q.1, show f + (r + 1) + 1 = (f + r + 1) + 1 from rfl]
      conv => lhs; rw [Tape_begin_11]
      simp only [↓reduceIte, h5, h6, f1, f2, f3, t9, tk, e1, s1, nS, Nat.reduceAdd, Option.bind_some]
    · obtain ⟨I1, L, q⟩ := stop_l (N := N) hB hm (by omega) h6 hE g (f + (r + 1))
      exact ⟨I1, J, L, q⟩
/-- before token s is taken -/
def TkP (c : Nat → Nat) (n m L s : Nat) (I : FI) (J : FJ) : Prop := L ≤ m ∧ ¬ going c n m L ∧ (∀ j, j ≤ L → Ent c n m j I J) ∧ I 1 7 = nI L ∧ I 1 8 = nI (if s < L then s else L)
/-- at token i -/
def TkB (c : Nat → Nat) (n m L i : Nat) (I : FI) (J : FJ) : Prop := TkP c n m L (i + 1) I J ∧ BkT (kT c n m (tE c n m i)) (I 1 9) (J 1 10) ∧ I 1 13 = nI (kQ c n m (tE c n m i)) ∧ I 1 11 = (if (kT c n m (tE c n m i)).1 = 4 then nI (kT c n m (tE c n m i)).2.1 else -1)
theorem tok_lt {t : Nat × Nat × List Nat} (h : TokOK t) : t.1 < 100 := by
  rcases h.1 with a | a
  · omega
  · have := sg_rng a
    omega
theorem step_b (hm : m ≤ 900) {L s : Nat} (h : TkP c n m L s I J) : ∃ I1 J1, Tape_step 1 I J = some (I1, J1) ∧ TkB c n m L s I1 J1 ∧ (∀ x j, ¬ (x = 1 ∧ (j = 8 ∨ j = 9 ∨ j = 11 ∨ j = 13)) → I1 x j = I x j) ∧ (∀ x j, ¬ (x = 1 ∧ j = 10) → J1 x j = J x j) := by
  obtain ⟨h1, h2, h3, h4, h5⟩ := h
  have ha : (if s < L then s else L) ≤ L := by
    by_cases w : s < L
    · rw [if_pos w]; omega
    · rw [if_neg w]; exact Nat.le_refl _
  have hk : kT c n m (tE c n m (if s < L then s else L)) = kT c n m (tE c n m s) ∧ kQ c n m (tE c n m (if s < L then s else L)) = kQ c n m (tE c n m s) := by
    by_cases w : s < L
    · rw [if_pos w]; exact ⟨rfl, rfl⟩
    · rw [if_neg w]
      obtain ⟨r, rfl⟩ : ∃ r, s = L + r := ⟨s - L, by omega⟩
      obtain ⟨a1, a2, a3⟩ := stay_kT h2 r
      exact ⟨a1.symm, a2.symm⟩
  obtain ⟨k1, k2⟩ := h3 _ ha
  rw [hk.1] at k1
  rw [hk.2] at k2
  have hO : TokOK (kT c n m (tE c n m s)) := kT_ok (tE_le s)
  have hlt := tok_lt hO
  have w8 : (nI L ≤ nI (if s < L then s else L)) = (L ≤ s) := by
    rw [le_nI (by omega) (by omega)]
    by_cases w : s < L
    · rw [if_pos w]
    · rw [if_neg w]; exact propext ⟨fun _ => by omega, fun _ => by omega⟩
  have G : in9 (nI (if s < L then s else L)) 901 = True := in9_t (by omega) (by omega)
  have T : (nI (if s < L then s else L)).toNatClampNeg = (if s < L then s else L) := tN (by omega)
  have q4 : (nI (kT c n m (tE c n m s)).1 = 4) = ((kT c n m (tE c n m s)).1 = 4) := by rw [show (4 : Int32) = nI 4 from rfl, eq_nI (by omega) (by omega)]
  refine ⟨up2 (up2 (up2 (up2 I 1 9 (nI (kT c n m (tE c n m s)).1)) 1 13 (nI (kQ c n m (tE c n m s)))) 1 11 (if (kT c n m (tE c n m s)).1 = 4 then nI (kT c n m (tE c n m s)).2.1 else -1)) 1 8 (nI (if s + 1 < L then s + 1 else L)), up2 J 1 10 (J 6 (if s < L then s else L)), ?_, ⟨⟨h1, h2, fun j hj => (h3 j hj).to ?_ ?_ ?_, ?_, ?_⟩, ⟨?_, ?_⟩, ?_, ?_⟩, ?_, ?_⟩
  · have fin : ∀ (X : FI), X 1 7 = nI L → X 1 8 = nI (if s < L then s else L) → (if (X 1 7) ≤ (X 1 8) then (some (X, up2 J 1 10 (J 6 (if s < L then s else L)))) else (Option.bind (some (up2 X 1 8 ((X 1 8) + 1))) fun I8 => (some (I8, up2 J 1 10 (J 6 (if s < L then s else L)))))) = some (up2 X 1 8 (nI (if s + 1 < L then s + 1 else L)), up2 J 1 10 (J 6 (if s < L then s else L))) := by
      intro X x1 x2
      rw [x1, x2]
      by_cases w : s < L
      · rw [if_neg (by rw [w8]; omega), if_pos w, nS, Option.bind_some]
        by_cases w2 : s + 1 < L
        · rw [if_pos w2]
        · rw [if_neg w2, show s + 1 = L by omega]
      · have ex : up2 X 1 8 (nI L) = X := u_e (by rw [x2, if_neg w])
        rw [if_pos (by rw [w8]; omega), if_neg (show ¬ s + 1 < L by omega), ex]
    have r1 : ∀ (X : FI) (u v w : Int32), up2 (up2 (up2 X 1 9 u) 1 13 v) 1 11 w 1 7 = X 1 7 := fun X u v w => by rw [u_j (by omega), u_j (by omega), u_j (by omega)]
    have r2 : ∀ (X : FI) (u v w : Int32), up2 (up2 (up2 X 1 9 u) 1 13 v) 1 11 w 1 8 = X 1 8 := fun X u v w => by rw [u_j (by omega), u_j (by omega), u_j (by omega)]
    have r3 : ∀ (u : Int32), up2 I 1 9 u 1 8 = I 1 8 := fun u => u_j (by omega)
    have r4 : ∀ (u v : Int32), up2 (up2 I 1 9 u) 1 13 v 1 8 = I 1 8 := fun u v => by rw [u_j (by omega), u_j (by omega)]
    have r5 : ∀ (u v : Int32), up2 (up2 I 1 9 u) 1 13 v 1 9 = u := fun u v => by rw [u_j (by omega), u_s]
    have r6 : ∀ (u : Int32) j, up2 I 1 9 u 5 j = I 5 j := fun u j => by rw [u_o (by omega)]
    have r7 : ∀ (u : Int64), up2 J 1 10 u 1 10 = u := fun u => u_s
    by_cases w : (kT c n m (tE c n m s)).1 = 4
    · have w4 : ((kT c n m (tE c n m s)).1 = 4) = True := eq_true w
      have v4 : (J 6 (if s < L then s else L)).toInt32 = nI (kT c n m (tE c n m s)).2.1 := by rw [k1.2.2.1 w, lN_i]
      rw [← fin (up2 (up2 (up2 I 1 9 (nI (kT c n m (tE c n m s)).1)) 1 13 (nI (kQ c n m (tE c n m s)))) 1 11 (if (kT c n m (tE c n m s)).1 = 4 then nI (kT c n m (tE c n m s)).2.1 else -1)) (by rw [r1]; exact h4) (by rw [r2]; exact h5)]
      simp only [↓reduceIte, Tape_step, h5, G, T, r3, r4, r5, r6, r7, k1.1, k2, q4, w4, v4, Nat.reduceAdd, Option.bind_some]
    · have w4 : ((kT c n m (tE c n m s)).1 = 4) = False := eq_false w
      rw [← fin (up2 (up2 (up2 I 1 9 (nI (kT c n m (tE c n m s)).1)) 1 13 (nI (kQ c n m (tE c n m s)))) 1 11 (if (kT c n m (tE c n m s)).1 = 4 then nI (kT c n m (tE c n m s)).2.1 else -1)) (by rw [r1]; exact h4) (by rw [r2]; exact h5)]
      simp only [↓reduceIte, Tape_step, h5, G, T, r3, r4, r5, r6, r7, k1.1, k2, q4, w4, Nat.reduceAdd, Option.bind_some]
  · rw [u_o (by omega), u_o (by omega), u_o (by omega), u_o (by omega)]
  · rw [u_o (by omega), u_o (by omega), u_o (by omega), u_o (by omega)]
  · rw [u_o (by omega)]
  · rw [u_j (by omega), u_j (by omega), u_j (by omega), u_j (by omega)]; exact h4
  · rw [u_s]
  · rw [u_j (by omega), u_j (by omega), u_j (by omega), u_s]
  · rw [u_s]; exact k1.2
  · rw [u_j (by omega), u_j (by omega), u_s]
  · rw [u_j (by omega), u_s]
  · intro x j w
    exact (up2_ff (by omega)).trans ((up2_ff (by omega)).trans ((up2_ff (by omega)).trans (up2_ff (by omega))))
  · intro x j w
    exact up2_ff w
theorem begin_b (hN : 2000 ≤ N) (hm : m ≤ 900) (hw : WordsJ J) (hB : BytB c n I) : ∃ I1 J1 L, Tape_begin N 1 (nI m) I J = some (I1, J1) ∧ TkB c n m L 0 I1 J1 ∧ I1 1 14 = nI 0 ∧ I1 1 15 = nI 0 := by
  have hB0 : BytB c n (up2 I 1 6 0) := hB.to (u_j (by omega)) (fun i => by rw [u_o (by omega)])
  have s1 := skip_b hN hB0 (sk_ok (c := c) (Nat.zero_le n)) (u_s.trans rfl)
  rw [u_u] at s1
  obtain ⟨f, hf⟩ : ∃ f, N = f + 900 + 1 := ⟨N - 901, by omega⟩
  obtain ⟨I1, J1, L, q1, q2, q3, q4, q5, q6, q7, q8⟩ := begin_l (N := N) hN hm 900 0 f (up2 I 1 6 (nI (sk c n 0))) J rfl hw (hB.to (u_j (by omega)) (fun i => by rw [u_o (by omega)])) u_s (fun j hj => absurd hj (by omega))
  rw [← hf] at q1
  have p : TkP c n m L 0 I1 J1 := ⟨q2, q3, q4, q5, by
    rw [q6]
    congr 1
    by_cases w : 0 < L
    · rw [if_pos w]
    · rw [if_neg w]; omega⟩
  obtain ⟨I2, J2, e1, e2, e3, e4⟩ := step_b hm p
  refine ⟨I2, J2, L, ?_, e2, ?_, ?_⟩
  · unfold Tape_begin
    simp only [Option.bind_some, s1]
    exact q1.trans e1
  · rw [e3 1 14 (by omega)]; exact q7
  · rw [e3 1 15 (by omega)]; exact q8
end Q60

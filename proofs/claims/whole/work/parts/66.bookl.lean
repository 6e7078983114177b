/-! a book's line: both sides -/
section Q66
variable {N b ln sp sn ss nP nF nE nW nH nR : Nat} {I I' : FI} {J J' : FJ} {t : Nat × Nat × List Nat} {m i k : Nat}
/-- names and how many there are, alike on both sides -/
def NmR (ln nP nF : Nat) (I : FI) (J : FJ) (I' : FI) (J' : FJ) : Prop := 6 ≤ ln ∧ ln ≤ 20 ∧ nP ≤ 6 ∧ nF ≤ 10 ∧ I ln 11 = nI nP ∧ I ln 12 = nI nF ∧ I' 206 0 = nI nP ∧ I' 206 1 = nI nF ∧ (∀ k, k < nP → ∃ L, WordR (J (ln + 1) k) (J' 211 (0 + k)) L) ∧ (∀ k, k < nF → ∃ L, WordR (J (ln + 2) k) (J' 211 (6 + k)) L)
theorem NmR.to {I1 I1' : FI} {J1 J1' : FJ} (h : NmR ln nP nF I J I' J') (g : KpL k I J I' J' I1 J1 I1' J1') : NmR ln nP nF I1 J1 I1' J1' := by
  obtain ⟨h1, h2, h3, h4, h5, h6, h7, h8, h9, h10⟩ := h
  refine ⟨h1, h2, h3, h4, ?_, ?_, ?_, ?_, fun k hk => ?_, fun k hk => ?_⟩
  · rw [g.1 _ _ (by omega) (by omega)]; exact h5
  · rw [g.1 _ _ (by omega) (by omega)]; exact h6
  · rw [g.2.2.1 _ _ (by omega) (by omega)]; exact h7
  · rw [g.2.2.1 _ _ (by omega) (by omega)]; exact h8
  · rw [g.2.1 _ _ (by omega), g.2.2.2 _ _ (by omega)]; exact h9 k hk
  · rw [g.2.1 _ _ (by omega), g.2.2.2 _ _ (by omega)]; exact h10 k hk
theorem person_q (hN : 2000 ≤ N) (h : NmR ln nP nF I J I' J') {x y : Int64} {L : List Nat} (hw : WordR x y L) : ∃ v, Land_personNamed N ln x I J = some v ∧ Mod_findIn N 211 22 0 (I' 206 ((0 : Int32).toNatClampNeg)) y J' = some v ∧ (v = -1 ∨ ∃ j, j < nP ∧ v = nI j) := by
  obtain ⟨h1, h2, h3, h4, h5, h6, h7, h8, h9, h10⟩ := h
  obtain ⟨v, q1, q2, q3⟩ := find_q (N := N) (A := ln + 1) (B := 211) (n0 := 6) (base := 0) (n := nP) (J := J) (J' := J') hN h3 (by omega) (by omega) h9 hw
  refine ⟨v, ?_, ?_, q3⟩
  · unfold Land_personNamed
    rw [h5, q1]; rfl
  · rw [T_0, h7]; exact q2
theorem findN_q (hN : 2000 ≤ N) (h : NmR ln nP nF I J I' J') {x y : Int64} {L : List Nat} (hw : WordR x y L) : ∃ v, Land_findNamed N ln x I J = some v ∧ Mod_findIn N 211 22 6 (I' 206 ((1 : Int32).toNatClampNeg)) y J' = some v ∧ (v = -1 ∨ ∃ j, j < nF ∧ v = nI j) := by
  obtain ⟨h1, h2, h3, h4, h5, h6, h7, h8, h9, h10⟩ := h
  obtain ⟨v, q1, q2, q3⟩ := find_q (N := N) (A := ln + 2) (B := 211) (n0 := 10) (base := 6) (n := nF) (J := J) (J' := J') hN h4 (by omega) (by omega) h10 hw
  refine ⟨v, ?_, ?_, q3⟩
  · unfold Land_findNamed
    rw [h6, q1]; rfl
  · rw [T_1, h8]; exact q2
theorem takeAm_t {I1 : FI} {J1 : FJ} (h : CurB t I J) (hO : TokOK t) {a n : Nat} (ha : a < 100) (hn : n < 100) (h4 : t.1 = 4) (h1 : a ≤ t.2.1) (h2 : t.2.1 < a + n) (hs : Tape_step 1 (up2 I 1 12 (nI (t.2.1 - a))) J = some (I1, J1)) : Tape_takeAmong 1 (nI a) (nI n) I J = some (true, I1, J1) := by
  have e := isAmong_b h hO ha hn
  rw [decide_eq_true ⟨h4, h1, h2⟩] at e
  have e2 : I 1 11 - nI a = nI (t.2.1 - a) := by rw [h.2, if_pos h4, nSb h1]
  unfold Tape_takeAmong
  simp only [↓reduceIte, e, e2, hs, Option.bind_some]
theorem takeAm_f {I1 : FI} (h : CurB t I J) (hO : TokOK t) {a n : Nat} (ha : a < 100) (hn : n < 100) (h4 : ¬ (t.1 = 4 ∧ a ≤ t.2.1 ∧ t.2.1 < a + n)) (hs : Tape_fail 1 (nI 1) I = some (false, I1)) : Tape_takeAmong 1 (nI a) (nI n) I J = some (false, I1, J) := by
  have e := isAmong_b h hO ha hn
  rw [decide_eq_false h4] at e
  have hs' : Tape_fail 1 1 I = some (false, I1) := hs
  unfold Tape_takeAmong
  simp only [↓reduceIte, e, hs', Option.bind_some, Bool.false_eq_true]
theorem dgl_q (hN : 2000 ≤ N) (h : At m i t I J I' J') (h55 : I 55 4 = nI k) (hk : k < 40) : ∃ v I1 J1 I1' J1', Book_readDigging 55 1 I J = some (v, I1, J1) ∧ (if (Mod_isWord 14 I' J') then (Option.bind (Mod_go N I' J') fun x59 => (Option.bind (Mod_readPlace N (nI (4 * k)) x59.1 x59.2) fun x60 => (some (x60.1, x60.2.1, x60.2.2)))) else (Option.bind (Mod_bad 1 I') fun x58 => (some (x58.1, x58.2, J')))) = some (v, I1', J1') ∧ KpL k I J I' J' I1 J1 I1' J1' ∧ I1 57 k = I 57 k ∧ I1' 222 (4 * k) = I' 222 (4 * k) ∧ I1' 222 (4 * k + 1) = I' 222 (4 * k + 1) ∧ (v = true → ∃ x y i' t', i < i' ∧ x < 6 ∧ y < 6 ∧ I1 56 k = nI 18 ∧ I1 58 k = nI x ∧ I1' 222 (4 * k + 2) = nI x ∧ I1 59 k = nI y ∧ I1' 222 (4 * k + 3) = nI y ∧ At m i' t' I1 J1 I1' J1') ∧ (v = false → FlR I1 I1') := by
  have g0 : in9 (nI k) 40 = True := in9_t (by omega) (by omega)
  have g1 : (nI k).toNatClampNeg = k := tN (by omega)
  have h2 := h.upI (x := 56) (k := k) (v := nI 18) (by omega) (by omega) (by omega)
  have kp0 : KpL k I J I' J' (up2 I 56 k (nI 18)) J I' J' := (KpL.rfl (k := k)).upI (x := 56) (by omega) (by omega)
  have e14 := isWord_m h.curM h.ok (k := 14) (by omega)
  have e14' : Mod_isWord 14 I' J' = decide (t.1 = 4 ∧ t.2.1 = 18) := e14
  unfold Book_readDigging
  by_cases c : t.1 = 4 ∧ t.2.1 = 18
  · rw [decide_eq_true c] at e14'
    obtain ⟨t1, I1, J1, I1', J1', s1, s2, s3, s4, s5, s6⟩ := next_q hN (h2.up12 (v := nI (t.2.1 - 18))) (by omega)
    have am := takeAm_t h2.curB h2.ok (a := 18) (n := 1) (by omega) (by omega) c.1 (by omega) (by omega) s1
    have am' : Tape_takeAmong 1 18 1 (up2 I 56 k (nI 18)) J = some (true, I1, J1) := am
    have am2 : Tape_takeAmong 1 18 1 (up2 I 56 k (18 : Int32)) J = some (true, I1, J1) := am
    have kp1 : KpL k I J I' J' I1 J1 I1' J1' := ⟨fun x j w u => (s4.1 x j w).trans ((up2_ff (by omega)).trans (up2_ff (by omega))), s4.2.1, fun x j w _ => s4.2.2.1 x j w, s4.2.2.2⟩
    have q55 : I1 55 4 = nI k := by rw [kp1.1 _ _ (by omega) (by omega)]; exact h55
    obtain ⟨v, I2, J2, I2', J2', f1, f2, f3, f4, f5, f6, f7, f8, f9⟩ := readCell_q hN s3 q55 hk
    refine ⟨v, I2, J2, I2', J2', ?_, ?_, kp1.trans f3, ?_, ?_, ?_, fun q => ?_, f9⟩
    · simp only [↓reduceIte, h55, g0, g1, am2, f1, Option.bind_some, Nat.reduceAdd]
      cases v <;> rfl
    · simp only [↓reduceIte, e14', s2, f2, Option.bind_some]
    · rw [f5, s4.1 _ _ (by omega), u_o (by omega), u_o (by omega)]
    · rw [f6, s4.2.2.1 _ _ (by omega)]
    · rw [f7, s4.2.2.1 _ _ (by omega)]
    · obtain ⟨x, y, t2, x1, x2, x3, x4, x5, x6, x7⟩ := f8 q
      exact ⟨x, y, i + 1 + 2, t2, by omega, x1, x2, by rw [f4, s4.1 _ _ (by omega), u_o (by omega), u_s], x3, x4, x5, x6, x7⟩
  · rw [decide_eq_false c] at e14'
    obtain ⟨I1, I1', f1, f2, f3, f4⟩ := fail_q h2 (k := 1) (fun _ => rfl)
    have am := takeAm_f (J := J) h2.curB h2.ok (a := 18) (n := 1) (by omega) (by omega) (fun q => c ⟨q.1, by omega⟩) f1
    have am2 : Tape_takeAmong 1 18 1 (up2 I 56 k (18 : Int32)) J = some (false, I1, J) := am
    have f2' : Mod_bad 1 I' = some (false, I1') := f2
    refine ⟨false, I1, J, I1', J', ?_, ?_, kp0.trans (f4.l (k := k)), ?_, f4.2.2.1 _ _ (by omega), f4.2.2.1 _ _ (by omega), fun q => absurd q (by simp), fun _ => f3⟩
    · simp only [↓reduceIte, h55, g0, g1, am2, Option.bind_some, Nat.reduceAdd, Bool.false_eq_true]
    · simp only [↓reduceIte, e14', f2', Option.bind_some, Bool.false_eq_true]
    · rw [f4.1 _ _ (by omega), u_o (by omega)]
theorem hand_q (hN : 2000 ≤ N) (h : At m i t I J I' J') (hn : NmR ln nP nF I J I' J') (h55 : I 55 4 = nI k) (hk : k < 40) {f : Nat} (hf : f < nF) (h57 : I 57 k = nI f) (h221 : I' 222 (4 * k + 1) = nI f) : ∃ v I1 J1 I1' J1', Book_readHandling N 55 1 ln I J = some (v, I1, J1) ∧ (if (Mod_isWord 24 I' J') then (if in9 (nI (4 * k)) 160 then (Option.bind (some (up2 I' 222 (nI (4 * k)).toNatClampNeg (1 : Int32))) fun I25 => (Option.bind (Mod_go N I25 J') fun x26 => (some (true, x26.1, x26.2)))) else none) else (if (Mod_isWord 25 I' J') then (if in9 (nI (4 * k)) 160 then (Option.bind (some (up2 I' 222 (nI (4 * k)).toNatClampNeg (2 : Int32))) fun I22 => (Option.bind (Mod_go N I22 J') fun x23 => (some (true, x23.1, x23.2)))) else none) else (if (Mod_isWord 15 I' J') then (if in9 (nI (4 * k)) 160 then (Option.bind (some (up2 I' 222 (nI (4 * k)).toNatClampNeg (3 : Int32))) fun I18 => (Option.bind (Mod_go N I18 J') fun x19 => (Option.bind (Mod_readPlace N (nI (4 * k)) x19.1 x19.2) fun x20 => (some (x20.1, x20.2.1, x20.2.2))))) else none) else (if (Mod_isWord 16 I' J') then (if in9 (nI (4 * k)) 160 then (Option.bind (some (up2 I' 222 (nI (4 * k)).toNatClampNeg (4 : Int32))) fun I8 => (Option.bind (Mod_go N I8 J') fun x9 => (Option.bind (Mod_isName N x9.1 x9.2) fun x10 => (if x10 then (Option.bind (Mod_findIn N 211 22 0 (x9.1 206 ((0 : Int32).toNatClampNeg)) (x9.2 204 12) x9.2) fun x12 => (if in9 (nI (4 * k) + 2) 160 then (Option.bind (some (up2 x9.1 222 ((nI (4 * k) + 2).toNatClampNeg) x12)) fun I14 => (if (I14 222 ((nI (4 * k) + 2).toNatClampNeg)) = (-1) then (Option.bind (Mod_bad 3 I14) fun x15 => (some (x15.1, x15.2, x9.2))) else (Option.bind (Mod_go N I14 x9.2) fun x16 => (some (true, x16.1, x16.2))))) else none)) else (Option.bind (Mod_bad 1 x9.1) fun x11 => (some (x11.1, x11.2, x9.2))))))) else none) else (Option.bind (Mod_bad 1 I') fun x6 => (some (x6.1, x6.2, J'))))))) = some (v, I1', J1') ∧ KpL k I J I' J' I1 J1 I1' J1' ∧ (v = true → ∃ i' t', i < i' ∧ At m i' t' I1 J1 I1' J1' ∧ LnR nP nF k I1 I1') ∧ (v = false → FlR I1 I1') := by
  have g0 : in9 (nI k) 40 = True := in9_t (by omega) (by omega)
  have g1 : (nI k).toNatClampNeg = k := tN (by omega)
  have g2 : in9 (nI (4 * k)) 160 = True := in9_t (by omega) (by omega)
  have g4 : (nI (4 * k)).toNatClampNeg = 4 * k := tN (by omega)
  have a2 : nI (4 * k) + 2 = nI (4 * k + 2) := nA _ 2
  have g5 : in9 (nI (4 * k + 2)) 160 = True := in9_t (by omega) (by omega)
  have g6 : (nI (4 * k + 2)).toNatClampNeg = 4 * k + 2 := tN (by omega)
  have e24 : Mod_isWord 24 I' J' = decide (t.1 = 4 ∧ t.2.1 = 19) := isWord_m h.curM h.ok (k := 24) (by omega)
  have e25 : Mod_isWord 25 I' J' = decide (t.1 = 4 ∧ t.2.1 = 20) := isWord_m h.curM h.ok (k := 25) (by omega)
  have e15 : Mod_isWord 15 I' J' = decide (t.1 = 4 ∧ t.2.1 = 21) := isWord_m h.curM h.ok (k := 15) (by omega)
  have e16 : Mod_isWord 16 I' J' = decide (t.1 = 4 ∧ t.2.1 = 22) := isWord_m h.curM h.ok (k := 16) (by omega)
  unfold Book_readHandling
  by_cases c : t.1 = 4 ∧ 19 ≤ t.2.1 ∧ t.2.1 < 19 + 4
  · have w11 : I 1 11 = nI t.2.1 := by rw [h.curB.2, if_pos c.1]
    have key : ∀ o : Nat, ∃ t1 I1 J1 I1' J1', Tape_takeAmong 1 19 4 (up2 I 56 k (nI t.2.1)) J = some (true, I1, J1) ∧ Mod_go N (up2 I' 222 (4 * k) (nI o)) J' = some (I1', J1') ∧ At m (i + 1) t1 I1 J1 I1' J1' ∧ KpL k I J I' J' I1 J1 I1' J1' ∧ I1 56 k = nI t.2.1 ∧ I1' 222 (4 * k) = nI o ∧ I1 57 k = nI f ∧ I1' 222 (4 * k + 1) = nI f := by
      intro o
      have h2 := h.upI (x := 56) (k := k) (v := nI t.2.1) (by omega) (by omega) (by omega) |>.upM (x := 222) (k := 4 * k) (v := nI o) (by omega) (by omega)
      obtain ⟨t1, I1, J1, I1', J1', s1, s2, s3, s4, s5, s6⟩ := next_q hN (h2.up12 (v := nI (t.2.1 - 19))) (by omega)
      have am := takeAm_t h2.curB h2.ok (a := 19) (n := 4) (by omega) (by omega) c.1 c.2.1 c.2.2 s1
      refine ⟨t1, I1, J1, I1', J1', am, s2, s3, ⟨fun x j w u => (s4.1 x j w).trans ((up2_ff (by omega)).trans (up2_ff (by omega))), s4.2.1, fun x j w u => (s4.2.2.1 x j w).trans (up2_ff (by omega)), s4.2.2.2⟩, ?_, ?_, ?_, ?_⟩
      · rw [s4.1 _ _ (by omega), u_o (by omega), u_s]
      · rw [s4.2.2.1 _ _ (by omega), u_s]
      · rw [s4.1 _ _ (by omega), u_o (by omega), u_o (by omega)]; exact h57
      · rw [s4.2.2.1 _ _ (by omega), u_j (by omega)]; exact h221
    rcases (show t.2.1 = 19 ∨ t.2.1 = 20 ∨ t.2.1 = 21 ∨ t.2.1 = 22 by omega) with z | z | z | z
    · rw [decide_eq_true ⟨c.1, z⟩] at e24
      obtain ⟨t1, I1, J1, I1', J1', s1, s2, s3, kp, q56, q0, q57, q1⟩ := key 1
      rw [z] at s1 q56 w11
      have s2' : Mod_go N (up2 I' 222 (4 * k) (1 : Int32)) J' = some (I1', J1') := s2
      have q55 : I1 55 4 = nI k := by rw [kp.1 _ _ (by omega) (by omega)]; exact h55
      have x1 : (nI 19 = (21 : Int32)) = False := eq_false (by decide)
      have x2 : (nI 19 = (22 : Int32)) = False := eq_false (by decide)
      refine ⟨true, I1, J1, I1', J1', ?_, ?_, kp, fun _ => ⟨i + 1, t1, by omega, s3, Or.inr (Or.inl ⟨q56, q0, f, hf, q57, q1⟩)⟩, fun q => absurd q (by simp)⟩
      · simp only [↓reduceIte, h55, g0, g1, w11, s1, q55, q56, x1, x2, Option.bind_some, Nat.reduceAdd]
      · simp only [↓reduceIte, e24, g2, g4, s2', Option.bind_some]
    · rw [decide_eq_false (show ¬ (t.1 = 4 ∧ t.2.1 = 19) by omega)] at e24
      rw [decide_eq_true ⟨c.1, z⟩] at e25
      obtain ⟨t1, I1, J1, I1', J1', s1, s2, s3, kp, q56, q0, q57, q1⟩ := key 2
      rw [z] at s1 q56 w11
      have s2' : Mod_go N (up2 I' 222 (4 * k) (2 : Int32)) J' = some (I1', J1') := s2
      have q55 : I1 55 4 = nI k := by rw [kp.1 _ _ (by omega) (by omega)]; exact h55
      have x1 : (nI 20 = (21 : Int32)) = False := eq_false (by decide)
      have x2 : (nI 20 = (22 : Int32)) = False := eq_false (by decide)
      refine ⟨true, I1, J1, I1', J1', ?_, ?_, kp, fun _ => ⟨i + 1, t1, by omega, s3, Or.inr (Or.inr (Or.inl ⟨q56, q0, f, hf, q57, q1⟩))⟩, fun q => absurd q (by simp)⟩
      · simp only [↓reduceIte, h55, g0, g1, w11, s1, q55, q56, x1, x2, Option.bind_some, Nat.reduceAdd]
      · simp only [↓reduceIte, e24, e25, g2, g4, s2', Option.bind_some, Bool.false_eq_true]
    · rw [decide_eq_false (show ¬ (t.1 = 4 ∧ t.2.1 = 19) by omega)] at e24
      rw [decide_eq_false (show ¬ (t.1 = 4 ∧ t.2.1 = 20) by omega)] at e25
      rw [decide_eq_true ⟨c.1, z⟩] at e15
      obtain ⟨t1, I1, J1, I1', J1', s1, s2, s3, kp, q56, q0, q57, q1⟩ := key 3
      rw [z] at s1 q56 w11
      have s2' : Mod_go N (up2 I' 222 (4 * k) (3 : Int32)) J' = some (I1', J1') := s2
      have q55 : I1 55 4 = nI k := by rw [kp.1 _ _ (by omega) (by omega)]; exact h55
      have x1 : (nI 21 = (21 : Int32)) = True := eq_true rfl
      obtain ⟨v, I2, J2, I2', J2', f1, f2, f3, f4, f5, f6, f7, f8, f9⟩ := readCell_q hN s3 q55 hk
      refine ⟨v, I2, J2, I2', J2', ?_, ?_, kp.trans f3, fun q => ?_, f9⟩
      · simp only [↓reduceIte, h55, g0, g1, w11, s1, q55, q56, x1, f1, Option.bind_some, Nat.reduceAdd]
      · simp only [↓reduceIte, e24, e25, e15, g2, g4, s2', f2, Option.bind_some, Bool.false_eq_true]
      · obtain ⟨x, y, t2, y1, y2, y3, y4, y5, y6, y7⟩ := f8 q
        exact ⟨i + 1 + 2, t2, by omega, y7, Or.inr (Or.inr (Or.inr (Or.inl ⟨by rw [f4]; exact q56, by rw [f6]; exact q0, f, x, y, hf, y1, y2, by rw [f5]; exact q57, by rw [f7]; exact q1, y3, y4, y5, y6⟩)))⟩
    · rw [decide_eq_false (show ¬ (t.1 = 4 ∧ t.2.1 = 19) by omega)] at e24
      rw [decide_eq_false (show ¬ (t.1 = 4 ∧ t.2.1 = 20) by omega)] at e25
      rw [decide_eq_false (show ¬ (t.1 = 4 ∧ t.2.1 = 21) by omega)] at e15
      rw [decide_eq_true ⟨c.1, z⟩] at e16
      obtain ⟨t1, I1, J1, I1', J1', s1, s2, s3, kp, q56, q0, q57, q1⟩ := key 4
      rw [z] at s1 q56 w11
      have s2' : Mod_go N (up2 I' 222 (4 * k) (4 : Int32)) J' = some (I1', J1') := s2
      have q55 : I1 55 4 = nI k := by rw [kp.1 _ _ (by omega) (by omega)]; exact h55
      have x1 : (nI 22 = (21 : Int32)) = False := eq_false (by decide)
      have x2 : (nI 22 = (22 : Int32)) = True := eq_true rfl
      have n1 := isName_b s3.curB s3.ok
      have n2 := isName_m hN s3.curM s3.ok
      by_cases d : t1.1 = 3
      · rw [decide_eq_true d] at n1 n2
        have hn1 := hn.to kp
        obtain ⟨vp, p1, p2, p3⟩ := person_q hN hn1 (s3.word d)
        rw [T_0] at p2
        have at2 := s3.upI (x := 58) (k := k) (v := vp) (by omega) (by omega) (by omega) |>.upM (x := 222) (k := 4 * k + 2) (v := vp) (by omega) (by omega)
        have kp2 : KpL k I J I' J' (up2 I1 58 k vp) J1 (up2 I1' 222 (4 * k + 2) vp) J1' := (kp.upI (by omega) (by omega)).upM (by omega) (by omega)
        have r55 : up2 I1 58 k vp 55 4 = nI k := by rw [u_o (by omega)]; exact q55
        have r58 : up2 I1 58 k vp 58 k = vp := u_s
        have r22 : up2 I1' 222 (4 * k + 2) vp 222 (4 * k + 2) = vp := u_s
        rcases p3 with p4 | ⟨j, p4, p5⟩
        · obtain ⟨I2, I2', f1, f2, f3, f4⟩ := fail_q at2 (k := 3) (by omega)
          have f1' : Tape_fail 1 3 (up2 I1 58 k vp) = some (false, I2) := f1
          have f2' : Mod_bad 3 (up2 I1' 222 (4 * k + 2) vp) = some (false, I2') := f2
          have y1 : ((0 : Int32) ≤ vp) = False := by rw [p4]; exact eq_false (by decide)
          have y2 : (vp = (-1 : Int32)) = True := eq_true p4
          refine ⟨false, I2, J1, I2', J1', ?_, ?_, kp2.trans (f4.l (k := k)), fun q => absurd q (by simp), fun _ => f3⟩
          · unfold Book_readReceiver
            simp only [↓reduceIte, h55, g0, g1, w11, s1, q55, q56, x1, x2, n1, p1, r55, r58, y1, f1', Option.bind_some, Nat.reduceAdd]
          · simp only [↓reduceIte, e24, e25, e15, e16, g2, g4, s2', n2, T_0, p2, a2, g5, g6, r22, y2, f2', Option.bind_some, Bool.false_eq_true]
        · obtain ⟨t2, I2, J2, I2', J2', f1, f2, f3, f4, f5, f6⟩ := next_q hN at2 (by omega)
          have y1 : ((0 : Int32) ≤ vp) = True := by rw [p5, L_0, le_nI (by omega) (by have := hn.2.2.1; omega)]; exact eq_true (Nat.zero_le _)
          have y2 : (vp = (-1 : Int32)) = False := by rw [p5]; exact propext (nI_ne1 (by have := hn.2.2.1; omega))
          refine ⟨true, I2, J2, I2', J2', ?_, ?_, kp2.trans (f4.l (k := k)), fun _ => ⟨i + 1 + 1, t2, by omega, f3, Or.inr (Or.inr (Or.inr (Or.inr (Or.inl ⟨?_, ?_, f, j, hf, p4, ?_, ?_, ?_, ?_⟩))))⟩, fun q => absurd q (by simp)⟩
          · unfold Book_readReceiver
            simp only [↓reduceIte, h55, g0, g1, w11, s1, q55, q56, x1, x2, n1, p1, r55, r58, y1, f1, Option.bind_some, Nat.reduceAdd]
          · simp only [↓reduceIte, e24, e25, e15, e16, g2, g4, s2', n2, T_0, p2, a2, g5, g6, r22, y2, f2, Option.bind_some, Bool.false_eq_true]
          · rw [f4.1 _ _ (by omega), u_o (by omega)]; exact q56
          · rw [f4.2.2.1 _ _ (by omega), u_j (by omega)]; exact q0
          · rw [f4.1 _ _ (by omega), u_o (by omega)]; exact q57
          · rw [f4.2.2.1 _ _ (by omega), u_j (by omega)]; exact q1
          · rw [f4.1 _ _ (by omega), u_s]; exact p5
          · rw [f4.2.2.1 _ _ (by omega), u_s]; exact p5
      · rw [decide_eq_false d] at n1 n2
        obtain ⟨I2, I2', f1, f2, f3, f4⟩ := fail_q s3 (k := 1) (fun _ => rfl)
        have f1' : Tape_fail 1 1 I1 = some (false, I2) := f1
        have f2' : Mod_bad 1 I1' = some (false, I2') := f2
        refine ⟨false, I2, J1, I2', J1', ?_, ?_, kp.trans (f4.l (k := k)), fun q => absurd q (by simp), fun _ => f3⟩
        · unfold Book_readReceiver
          simp only [↓reduceIte, h55, g0, g1, w11, s1, q55, q56, x1, x2, n1, f1', Option.bind_some, Nat.reduceAdd, Bool.false_eq_true]
        · simp only [↓reduceIte, e24, e25, e15, e16, g2, g4, s2', n2, f2', Option.bind_some, Bool.false_eq_true]
  · have h2 := h.upI (x := 56) (k := k) (v := I 1 11) (by omega) (by omega) (by omega)
    obtain ⟨I1, I1', f1, f2, f3, f4⟩ := fail_q h2 (k := 1) (fun _ => rfl)
    have am := takeAm_f (J := J) h2.curB h2.ok (a := 19) (n := 4) (by omega) (by omega) c f1
    have am2 : Tape_takeAmong 1 19 4 (up2 I 56 k (I 1 11)) J = some (false, I1, J) := am
    have f2' : Mod_bad 1 I' = some (false, I1') := f2
    rw [decide_eq_false (show ¬ (t.1 = 4 ∧ t.2.1 = 19) by omega)] at e24
    rw [decide_eq_false (show ¬ (t.1 = 4 ∧ t.2.1 = 20) by omega)] at e25
    rw [decide_eq_false (show ¬ (t.1 = 4 ∧ t.2.1 = 21) by omega)] at e15
    rw [decide_eq_false (show ¬ (t.1 = 4 ∧ t.2.1 = 22) by omega)] at e16
    refine ⟨false, I1, J, I1', J', ?_, ?_, ((KpL.rfl (k := k)).upI (x := 56) (by omega) (by omega)).trans (f4.l (k := k)), fun q => absurd q (by simp), fun _ => f3⟩
    · simp only [↓reduceIte, h55, g0, g1, am2, Option.bind_some, Nat.reduceAdd, Bool.false_eq_true]
    · simp only [↓reduceIte, e24, e25, e15, e16, f2', Option.bind_some, Bool.false_eq_true]
end Q66

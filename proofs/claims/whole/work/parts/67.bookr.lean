/-! a book is read: both sides -/
section Q67
variable {N b ln sp sn ss nP nF nE nW nH nR : Nat} {I I' : FI} {J J' : FJ} {t : Nat × Nat × List Nat} {m i k : Nat}
theorem does_eq (N : Nat) (I' : FI) (J' : FJ) : Mod_readBookLine N I' J' = (if (Mod_isWord 17 I' J') then (if (I' 204 39) = 40 then (Option.bind (Mod_bad 4 I') fun x15 => (some (x15.1, x15.2, J'))) else (Option.bind (Mod_readDoes N (4 * (I' 204 39)) I' J') fun x16 => (if x16.1 then (Option.bind (Mod_readEnd N x16.2.1 x16.2.2) fun x17 => (if x17.1 then (some (true, x17.2.1, x17.2.2)) else (some (false, x17.2.1, x17.2.2)))) else (some (false, x16.2.1, x16.2.2))))) else (if (Mod_isWord 18 I' J') then (if (I' 204 39) = 40 then (Option.bind (Mod_bad 4 I') fun x12 => (some (x12.1, x12.2, J'))) else (Option.bind (Mod_readDoes N (4 * (I' 204 39)) I' J') fun x13 => (if x13.1 then (Option.bind (Mod_readEnd N x13.2.1 x13.2.2) fun x14 => (if x14.1 then (some (true, x14.2.1, x14.2.2)) else (some (false, x14.2.1, x14.2.2)))) else (some (false, x13.2.1, x13.2.2))))) else (Option.bind (Mod_isName N I' J') fun x1 => (if x1 then (Option.bind (Mod_findIn N 211 22 0 (I' 206 ((0 : Int32).toNatClampNeg)) (J' 204 12) J') fun x3 => (if x3 = (-1) then (Option.bind (Mod_findIn N 211 22 6 (I' 206 ((1 : Int32).toNatClampNeg)) (J' 204 12) J') fun x4 => (if x4 = (-1) then (Option.bind (Mod_bad 3 I') fun x5 => (some (x5.1, x5.2, J'))) else (if (I' 204 39) = 40 then (Option.bind (Mod_bad 4 I') fun x6 => (some (x6.1, x6.2, J'))) else (Option.bind (Mod_readDoes N (4 * (I' 204 39)) I' J') fun x7 => (if x7.1 then (Option.bind (Mod_readEnd N x7.2.1 x7.2.2) fun x8 => (if x8.1 then (some (true, x8.2.1, x8.2.2)) else (some (false, x8.2.1, x8.2.2)))) else (some (false, x7.2.1, x7.2.2))))))) else (if (I' 204 39) = 40 then (Option.bind (Mod_bad 4 I') fun x9 => (some (x9.1, x9.2, J'))) else (Option.bind (Mod_readDoes N (4 * (I' 204 39)) I' J') fun x10 => (if x10.1 then (Option.bind (Mod_readEnd N x10.2.1 x10.2.2) fun x11 => (if x11.1 then (some (true, x11.2.1, x11.2.2)) else (some (false, x11.2.1, x11.2.2)))) else (some (false, x10.2.1, x10.2.2))))))) else (Option.bind (Mod_bad 1 I') fun x2 => (some (x2.1, x2.2, J'))))))) := rfl
/-- what comes behind the line on the model's side -/
def endM (N : Nat) (v : Bool) (I : FI) (J : FJ) : Option (Bool × FI × FJ) := if v = true then (Option.bind (Mod_readEnd N I J) fun x => (if x.1 = true then some (true, x.2.1, x.2.2) else some (false, x.2.1, x.2.2))) else some (false, I, J)
theorem line_q (hN : 2000 ≤ N) (h : At m i t I J I' J') (hn : NmR ln nP nF I J I' J') (h55 : I 55 4 = nI k) (h39 : I' 204 39 = nI k) (hk : k ≤ 40) : ∃ v I1 J1 I1' J1', Book_readLine N 55 1 ln I J = some (v, I1, J1) ∧ Mod_readBookLine N I' J' = endM N v I1' J1' ∧ KpL k I J I' J' I1 J1 I1' J1' ∧ (v = true → k < 40 ∧ ∃ i' t', i < i' ∧ At m i' t' I1 J1 I1' J1' ∧ LnR nP nF k I1 I1') ∧ (v = false → FlR I1 I1') := by
  have hB := h.curB
  have hM := h.curM
  have hO := h.ok
  have w23 : Tape_isWord 1 23 I = decide (t.1 = 4 ∧ t.2.1 = 23) := isWord_b hB hO (w := 23) (by omega)
  have w24 : Tape_isWord 1 24 I = decide (t.1 = 4 ∧ t.2.1 = 24) := isWord_b hB hO (w := 24) (by omega)
  have e17 : Mod_isWord 17 I' J' = decide (t.1 = 4 ∧ t.2.1 = 23) := isWord_m hM hO (k := 17) (by omega)
  have e18 : Mod_isWord 18 I' J' = decide (t.1 = 4 ∧ t.2.1 = 24) := isWord_m hM hO (k := 18) (by omega)
  have n1 := isName_b hB hO
  have n2 := isName_m hN hM hO
  have l1 : (nI k < (40 : Int32)) = (k < 40) := by rw [L_40, lt_nI (by omega) (by omega)]
  have l2 : (nI k = (40 : Int32)) = (k = 40) := by rw [L_40, eq_nI (by omega) (by omega)]
  have m4 : 4 * nI k = nI (4 * k) := mx_4 k
  have full : k = 40 → ∃ I1 I1', Tape_fail 1 4 I = some (false, I1) ∧ Mod_bad 4 I' = some (false, I1') ∧ FlR I1 I1' ∧ KpL k I J I' J' I1 J I1' J' ∨ ¬ (2 < t.1) := fun _ => by
    by_cases z : 2 < t.1
    · obtain ⟨I1, I1', f1, f2, f3, f4⟩ := fail_q h (k := 4) (by omega)
      exact ⟨I1, I1', Or.inl ⟨f1, f2, f3, f4.l⟩⟩
    · exact ⟨I, I', Or.inr z⟩
  rw [does_eq]
  unfold Book_readLine
  by_cases c3 : t.1 = 3
  · rw [decide_eq_true c3] at n1 n2
    rw [decide_eq_false (show ¬ (t.1 = 4 ∧ t.2.1 = 23) by omega)] at w23 e17
    rw [decide_eq_false (show ¬ (t.1 = 4 ∧ t.2.1 = 24) by omega)] at w24 e18
    obtain ⟨vp, p1, p2, p3⟩ := person_q hN hn (h.word c3)
    obtain ⟨vf, q1, q2, q3⟩ := findN_q hN hn (h.word c3)
    rw [T_0] at p2
    rw [T_1] at q2
    have hP := hn.2.2.1
    have hF := hn.2.2.2.1
    by_cases z : k = 40
    · have z1 : (k < 40) = False := eq_false (by omega)
      have z2 : (k = 40) = True := eq_true z
      obtain ⟨I1, I1', f | f⟩ := full z
      · obtain ⟨f1, f2, f3, f4⟩ := f
        rcases p3 with p4 | ⟨j, p4, p5⟩
        · have y1 : ((0 : Int32) ≤ vp) = False := by rw [p4]; exact eq_false (by decide)
          have y2 : (vp = (-1 : Int32)) = True := eq_true p4
          rcases q3 with q4 | ⟨g, q4, q5⟩
          · have y3 : ((0 : Int32) ≤ vf) = False := by rw [q4]; exact eq_false (by decide)
            have y4 : (vf = (-1 : Int32)) = True := eq_true q4
            obtain ⟨I2, I2', d1, d2, d3, d4⟩ := fail_q h (k := 3) (by omega)
            have d1' : Tape_fail 1 3 I = some (false, I2) := d1
            have d2' : Mod_bad 3 I' = some (false, I2') := d2
            refine ⟨false, I2, J, I2', J', ?_, ?_, d4.l, fun q => absurd q (by simp), fun _ => d3⟩
            · simp only [↓reduceIte, w23, w24, n1, p1, q1, y1, y3, d1', Option.bind_some, Bool.false_eq_true]
            · simp only [↓reduceIte, e17, e18, n2, T_0, T_1, p2, q2, y2, y4, d2', Option.bind_some, Bool.false_eq_true, endM]
          · have y3 : ((0 : Int32) ≤ vf) = True := by rw [q5, L_0, le_nI (by omega) (by omega)]; exact eq_true (Nat.zero_le _)
            have y4 : (vf = (-1 : Int32)) = False := by rw [q5]; exact propext (nI_ne1 (by omega))
            refine ⟨false, I1, J, I1', J', ?_, ?_, f4, fun q => absurd q (by simp), fun _ => f3⟩
            · simp only [↓reduceIte, w23, w24, n1, p1, q1, y1, y3, h55, l1, z1, f1, Option.bind_some, Bool.false_eq_true]
            · simp only [↓reduceIte, e17, e18, n2, T_0, T_1, p2, q2, y2, y4, h39, l2, z2, f2, Option.bind_some, Bool.false_eq_true, endM]
        · have y1 : ((0 : Int32) ≤ vp) = True := by rw [p5, L_0, le_nI (by omega) (by omega)]; exact eq_true (Nat.zero_le _)
          have y2 : (vp = (-1 : Int32)) = False := by rw [p5]; exact propext (nI_ne1 (by omega))
          refine ⟨false, I1, J, I1', J', ?_, ?_, f4, fun q => absurd q (by simp), fun _ => f3⟩
          · simp only [↓reduceIte, w23, w24, n1, p1, q1, y1, h55, l1, z1, f1, Option.bind_some, Bool.false_eq_true]
          · simp only [↓reduceIte, e17, e18, n2, T_0, T_1, p2, y2, h39, l2, z2, f2, Option.bind_some, Bool.false_eq_true, endM]
      · omega
    · have hk2 : k < 40 := by omega
      have z1 : (k < 40) = True := eq_true hk2
      have z2 : (k = 40) = False := eq_false z
      have g0 : in9 (nI k) 40 = True := in9_t (by omega) (by omega)
      have g1 : (nI k).toNatClampNeg = k := tN (by omega)
      have a1 : nI (4 * k) + 1 = nI (4 * k + 1) := nS _
      have g2 : in9 (nI (4 * k + 1)) 160 = True := in9_t (by omega) (by omega)
      have g3 : (nI (4 * k + 1)).toNatClampNeg = 4 * k + 1 := tN (by omega)
      have g4 : in9 (nI (4 * k)) 160 = True := in9_t (by omega) (by omega)
      have g5 : (nI (4 * k)).toNatClampNeg = 4 * k := tN (by omega)
      rcases p3 with p4 | ⟨j, p4, p5⟩
      · have y1 : ((0 : Int32) ≤ vp) = False := by rw [p4]; exact eq_false (by decide)
        have y0 : (vp < (0 : Int32)) = True := by rw [p4]; exact eq_true (by decide)
        have y2 : (vp = (-1 : Int32)) = True := eq_true p4
        rcases q3 with q4 | ⟨g, q4, q5⟩
        · have y3 : ((0 : Int32) ≤ vf) = False := by rw [q4]; exact eq_false (by decide)
          have y4 : (vf = (-1 : Int32)) = True := eq_true q4
          obtain ⟨I2, I2', d1, d2, d3, d4⟩ := fail_q h (k := 3) (by omega)
          have d1' : Tape_fail 1 3 I = some (false, I2) := d1
          have d2' : Mod_bad 3 I' = some (false, I2') := d2
          refine ⟨false, I2, J, I2', J', ?_, ?_, d4.l, fun q => absurd q (by simp), fun _ => d3⟩
          · simp only [↓reduceIte, w23, w24, n1, p1, q1, y1, y3, d1', Option.bind_some, Bool.false_eq_true]
          · simp only [↓reduceIte, e17, e18, n2, T_0, T_1, p2, q2, y2, y4, d2', Option.bind_some, Bool.false_eq_true, endM]
        · have y3 : ((0 : Int32) ≤ vf) = True := by rw [q5, L_0, le_nI (by omega) (by omega)]; exact eq_true (Nat.zero_le _)
          have y4 : (vf = (-1 : Int32)) = False := by rw [q5]; exact propext (nI_ne1 (by omega))
          obtain ⟨t1, I1, J1, I1', J1', s1, s2, s3, s4, s5, s6⟩ := next_q hN (h.upM (x := 222) (k := 4 * k + 1) (v := vf) (by omega) (by omega)) (by omega)
          have r55 : I1 55 4 = nI k := by rw [s4.1 _ _ (by omega)]; exact h55
          have at2 := s3.upI (x := 57) (k := k) (v := vf) (by omega) (by omega) (by omega)
          have kp : KpL k I J I' J' (up2 I1 57 k vf) J1 I1' J1' := (((KpL.rfl (k := k)).upM (j := 4 * k + 1) (by omega) (by omega)).trans (s4.l (k := k))).upI (by omega) (by omega)
          obtain ⟨v, I2, J2, I2', J2', b1, b2, b3, b4, b5⟩ := hand_q hN at2 (hn.to kp) (k := k) (by rw [u_o (by omega)]; exact r55) hk2 q4 (by rw [u_s]; exact q5) (by rw [s4.2.2.1 _ _ (by omega), u_s]; exact q5)
          refine ⟨v, I2, J2, I2', J2', ?_, ?_, kp.trans b3, fun q => ?_, b5⟩
          · simp only [↓reduceIte, w23, w24, n1, p1, q1, y1, y0, y3, h55, l1, z1, s1, r55, g0, g1, b1, Option.bind_some, Bool.false_eq_true, Nat.reduceAdd]
          · have rd : Mod_readDoes N (nI (4 * k)) I' J' = some (v, I2', J2') := by
              unfold Mod_readDoes
              simp only [↓reduceIte, e17, e18, T_0, T_1, p2, q2, y2, a1, g2, g3, s2, Option.bind_some, Bool.false_eq_true]
              rw [T_0] at b2
              exact b2
            simp only [↓reduceIte, e17, e18, n2, T_0, T_1, p2, q2, y2, y4, h39, l2, z2, m4, rd, Option.bind_some, Bool.false_eq_true, endM]
          · obtain ⟨i', t', x1, x2, x3⟩ := b4 q
            exact ⟨hk2, i', t', by omega, x2, x3⟩
      · have y1 : ((0 : Int32) ≤ vp) = True := by rw [p5, L_0, le_nI (by omega) (by omega)]; exact eq_true (Nat.zero_le _)
        have y0 : (vp < (0 : Int32)) = False := by rw [p5, L_0, lt_nI (by omega) (by omega)]; exact eq_false (by omega)
        have y2 : (vp = (-1 : Int32)) = False := by rw [p5]; exact propext (nI_ne1 (by omega))
        obtain ⟨t1, I1, J1, I1', J1', s1, s2, s3, s4, s5, s6⟩ := next_q hN (h.upM (x := 222) (k := 4 * k + 1) (v := vp) (by omega) (by omega)) (by omega)
        have r55 : I1 55 4 = nI k := by rw [s4.1 _ _ (by omega)]; exact h55
        have at2 := s3.upI (x := 57) (k := k) (v := vp) (by omega) (by omega) (by omega) |>.upM (x := 222) (k := 4 * k) (v := nI 0) (by omega) (by omega)
        have kp : KpL k I J I' J' (up2 I1 57 k vp) J1 (up2 I1' 222 (4 * k) (nI 0)) J1' := ((((KpL.rfl (k := k)).upM (j := 4 * k + 1) (by omega) (by omega)).trans (s4.l (k := k))).upI (by omega) (by omega)).upM (by omega) (by omega)
        obtain ⟨v, I2, J2, I2', J2', b1, b2, b3, b4, b5, b6, b7, b8⟩ := dgl_q hN at2 (k := k) (by rw [u_o (by omega)]; exact r55) hk2
        refine ⟨v, I2, J2, I2', J2', ?_, ?_, kp.trans b3, fun q => ?_, b8⟩
        · simp only [↓reduceIte, w23, w24, n1, p1, q1, y1, y0, h55, l1, z1, s1, r55, g0, g1, b1, Option.bind_some, Bool.false_eq_true, Nat.reduceAdd]
        · have rd : Mod_readDoes N (nI (4 * k)) I' J' = some (v, I2', J2') := by
            unfold Mod_readDoes
            simp only [↓reduceIte, e17, e18, T_0, T_1, p2, q2, y2, a1, g2, g3, g4, g5, s2, Option.bind_some, Bool.false_eq_true]
            exact b2
          simp only [↓reduceIte, e17, e18, n2, T_0, T_1, p2, q2, y2, h39, l2, z2, m4, rd, Option.bind_some, Bool.false_eq_true, endM]
        · obtain ⟨x, y, i', t', x1, x2, x3, x4, x5, x6, x7, x8, x9⟩ := b7 q
          exact ⟨hk2, i', t', by omega, x9, Or.inl ⟨x4, by rw [b5, u_s], j, x, y, p4, x2, x3, by rw [b4, u_s]; exact p5, by rw [b6, u_j (by omega), s4.2.2.1 _ _ (by omega), u_s]; exact p5, x5, x6, x7, x8⟩⟩
  · rw [decide_eq_false c3] at n1 n2
    by_cases c4 : t.1 = 4 ∧ (t.2.1 = 23 ∨ t.2.1 = 24)
    · by_cases z : k = 40
      · have z1 : (k < 40) = False := eq_false (by omega)
        have z2 : (k = 40) = True := eq_true z
        obtain ⟨I1, I1', f | f⟩ := full z
        · obtain ⟨f1, f2, f3, f4⟩ := f
          refine ⟨false, I1, J, I1', J', ?_, ?_, f4, fun q => absurd q (by simp), fun _ => f3⟩
          · by_cases d : t.2.1 = 23
            · rw [decide_eq_true ⟨c4.1, d⟩] at w23
              simp only [↓reduceIte, w23, h55, l1, z1, f1, Option.bind_some]
            · rw [decide_eq_false (fun q => d q.2)] at w23
              rw [decide_eq_true ⟨c4.1, by omega⟩] at w24
              simp only [↓reduceIte, w23, w24, h55, l1, z1, f1, Option.bind_some, Bool.false_eq_true]
          · by_cases d : t.2.1 = 23
            · rw [decide_eq_true ⟨c4.1, d⟩] at e17
              simp only [↓reduceIte, e17, h39, l2, z2, f2, Option.bind_some, Bool.false_eq_true, endM]
            · rw [decide_eq_false (fun q => d q.2)] at e17
              rw [decide_eq_true ⟨c4.1, by omega⟩] at e18
              simp only [↓reduceIte, e17, e18, h39, l2, z2, f2, Option.bind_some, Bool.false_eq_true, endM]
        · omega
      · have hk2 : k < 40 := by omega
        have z1 : (k < 40) = True := eq_true hk2
        have z2 : (k = 40) = False := eq_false z
        by_cases d : t.2.1 = 23
        · rw [decide_eq_true ⟨c4.1, d⟩] at w23 e17
          obtain ⟨v, I2, J2, I2', J2', b1, b2, b3, b4, b5⟩ := readMany_q hN h h55 hk2 c4.1 d (Or.inl ⟨rfl, rfl, rfl, rfl⟩)
          have b2' : Mod_readMany N (nI (4 * k)) 6 0 999 I' J' = some (v, I2', J2') := b2
          refine ⟨v, I2, J2, I2', J2', ?_, ?_, b3, fun q => ?_, b5⟩
          · simp only [↓reduceIte, w23, h55, l1, z1, b1, Option.bind_some]
          · have rd : Mod_readDoes N (nI (4 * k)) I' J' = some (v, I2', J2') := by
              unfold Mod_readDoes
              simp only [↓reduceIte, e17, b2', Option.bind_some]
            simp only [↓reduceIte, e17, h39, l2, z2, m4, rd, Option.bind_some, endM]
          · obtain ⟨x, t', x1, x2, x3, x4, x5, x6, x7⟩ := b4 q
            exact ⟨hk2, i + 2, t', by omega, x7, Or.inr (Or.inr (Or.inr (Or.inr (Or.inr (Or.inr ⟨x3, x4, x, x2, x5, x6⟩)))))⟩
        · rw [decide_eq_false (fun q => d q.2)] at w23 e17
          have d2 : t.2.1 = 24 := by omega
          rw [decide_eq_true ⟨c4.1, d2⟩] at w24 e18
          obtain ⟨v, I2, J2, I2', J2', b1, b2, b3, b4, b5⟩ := readMany_q hN h h55 hk2 c4.1 d2 (Or.inr ⟨rfl, rfl, rfl, rfl⟩)
          have b2' : Mod_readMany N (nI (4 * k)) 5 1 30 I' J' = some (v, I2', J2') := b2
          refine ⟨v, I2, J2, I2', J2', ?_, ?_, b3, fun q => ?_, b5⟩
          · simp only [↓reduceIte, w23, w24, h55, l1, z1, b1, Option.bind_some, Bool.false_eq_true]
          · have rd : Mod_readDoes N (nI (4 * k)) I' J' = some (v, I2', J2') := by
              unfold Mod_readDoes
              simp only [↓reduceIte, e17, e18, b2', Option.bind_some, Bool.false_eq_true]
            simp only [↓reduceIte, e17, e18, h39, l2, z2, m4, rd, Option.bind_some, endM, Bool.false_eq_true]
          · obtain ⟨x, t', x1, x2, x3, x4, x5, x6, x7⟩ := b4 q
            exact ⟨hk2, i + 2, t', by omega, x7, Or.inr (Or.inr (Or.inr (Or.inr (Or.inr (Or.inl ⟨x3, x4, x, x1, x2, x5, x6⟩)))))⟩
    · rw [decide_eq_false (show ¬ (t.1 = 4 ∧ t.2.1 = 23) by omega)] at w23 e17
      rw [decide_eq_false (show ¬ (t.1 = 4 ∧ t.2.1 = 24) by omega)] at w24 e18
      obtain ⟨I1, I1', f1, f2, f3, f4⟩ := fail_q h (k := 1) (fun _ => rfl)
      have f1' : Tape_fail 1 1 I = some (false, I1) := f1
      have f2' : Mod_bad 1 I' = some (false, I1') := f2
      refine ⟨false, I1, J, I1', J', ?_, ?_, f4.l, fun q => absurd q (by simp), fun _ => f3⟩
      · simp only [↓reduceIte, w23, w24, n1, f1', Option.bind_some, Bool.false_eq_true]
      · simp only [↓reduceIte, e17, e18, n2, f2', Option.bind_some, Bool.false_eq_true, endM]
end Q67

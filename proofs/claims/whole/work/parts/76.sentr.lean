/-! a sentence is read: both sides -/
section Q76
variable {N a b ln sp sn ss nP nF nE nW nH nR : Nat} {I I' : FI} {J J' : FJ} {t : Nat × Nat × List Nat} {i s o w : Nat} {L : List Nat} {R : Nat → Nat → Nat → Int32 → FI → FJ → Option (Bool × FI × FJ)} {RM : FI → FJ → Option (Bool × FI × FJ)}
theorem begins_e (h : CurB t I J) (hO : TokOK t) : Sentence_beginsOne 1 I = decide (t.1 = 40 ∨ (t.1 = 4 ∧ ((27 ≤ t.2.1 ∧ t.2.1 < 35) ∨ (8 ≤ t.2.1 ∧ t.2.1 < 12) ∨ (19 ≤ t.2.1 ∧ t.2.1 < 21)))) := by
  have e0 : (I 1 9 = (40 : Int32)) = (t.1 = 40) := sign_b h hO (s := 40) (by omega)
  have e1 : Tape_isAmong 1 27 8 I = decide (t.1 = 4 ∧ 27 ≤ t.2.1 ∧ t.2.1 < 27 + 8) := isAmong_b h hO (a := 27) (k := 8) (by omega) (by omega)
  have e2 : Tape_isAmong 1 8 4 I = decide (t.1 = 4 ∧ 8 ≤ t.2.1 ∧ t.2.1 < 8 + 4) := isAmong_b h hO (a := 8) (k := 4) (by omega) (by omega)
  have e3 : Tape_isAmong 1 19 2 I = decide (t.1 = 4 ∧ 19 ≤ t.2.1 ∧ t.2.1 < 19 + 2) := isAmong_b h hO (a := 19) (k := 2) (by omega) (by omega)
  unfold Sentence_beginsOne
  by_cases c0 : t.1 = 40
  · rw [if_pos (by rw [e0]; exact c0), decide_eq_true (Or.inl c0)]
  · rw [if_neg (by rw [e0]; exact c0), e1, e2, e3]
    by_cases c1 : t.1 = 4 ∧ 27 ≤ t.2.1 ∧ t.2.1 < 27 + 8
    · rw [decide_eq_true c1, if_pos rfl, decide_eq_true (Or.inr ⟨c1.1, Or.inl ⟨c1.2.1, by omega⟩⟩)]
    · rw [decide_eq_false c1, if_neg (by simp)]
      by_cases c2 : t.1 = 4 ∧ 8 ≤ t.2.1 ∧ t.2.1 < 8 + 4
      · rw [decide_eq_true c2, if_pos rfl, decide_eq_true (Or.inr ⟨c2.1, Or.inr (Or.inl ⟨c2.2.1, by omega⟩)⟩)]
      · rw [decide_eq_false c2, if_neg (by simp)]
        by_cases c3 : t.1 = 4 ∧ 19 ≤ t.2.1 ∧ t.2.1 < 19 + 2
        · rw [decide_eq_true c3, if_pos rfl, decide_eq_true (Or.inr ⟨c3.1, Or.inr (Or.inr ⟨c3.2.1, by omega⟩)⟩)]
        · rw [decide_eq_false c3, if_neg (by simp), decide_eq_false (by omega)]
theorem one_q (hN : 2000 ≤ N) (ha : 45 ≤ a) (hw8 : w ≤ 8) (hA : w < 8 → AlikeS a ln nP nF (w + 1) (fun l I J => R a 1 ln l I J) RM) : AlikeS a ln nP nF w (fun l I J => Sentence_readOne R N a 1 ln l I J) (Mod_readSaid RM N) := by
  intro s o L i t I J I' J' h
  have hAt := h.1
  have hB := hAt.curB
  have hM := hAt.curM
  have hO := hAt.ok
  have hS := h
  obtain ⟨-, hn, h4, h42, h5, h43, h44, hs, ho, hL, -⟩ := h
  obtain ⟨f, hf⟩ : ∃ f, N = f + 14 + 1 := ⟨N - 15, by omega⟩
  have b0 := begins_e hB hO
  have g40 : Mod_isSign 40 I' = decide (t.1 = 40) := sign_m hM hO (s := 40) (by omega) (by omega)
  show ∃ v I1 J1 I1' J1', Sentence_readOne R N a 1 ln (nI (w + 1)) I J = some (v, I1, J1) ∧ Mod_readSaid RM N I' J' = some (v, I1', J1') ∧ _
  have t20 : (20 ≤ nI o) = (20 ≤ o) := by rw [L_20, le_nI (by omega) (by omega)]
  have t8 : (nI (w + 1) ≤ 8) = (w < 8) := by rw [L_8, le_nI (by omega) (by omega)]; exact propext ⟨fun _ => by omega, fun _ => by omega⟩
  have m20 : (nI o = (20 : Int32)) = (o = 20) := by rw [L_20, eq_nI (by omega) (by omega)]
  have m8 : (nI w = (8 : Int32)) = (w = 8) := by rw [L_8, eq_nI (by omega) (by omega)]
  have n35 : (nI 35 ≤ (34 : Int32)) = False := eq_false (by decide)
  by_cases c : t.1 = 40 ∨ (t.1 = 4 ∧ ((27 ≤ t.2.1 ∧ t.2.1 < 35) ∨ (8 ≤ t.2.1 ∧ t.2.1 < 12) ∨ (19 ≤ t.2.1 ∧ t.2.1 < 21)))
  · rw [decide_eq_true c] at b0
    -- where the model stands behind its search
    have start : ∃ k, (t.1 = 40 ∧ k = 35 ∨ t.1 = 4 ∧ 21 ≤ k ∧ k < 35 ∧ ownM.getD k 0 = t.2.1) ∧ Mod_readSaid RM N I' J' = bodyM RM N (b2i (decide (t.1 = 40))) (nI k) I' J' := by
      rcases c with c | ⟨c1, c2⟩
      · refine ⟨35, Or.inl ⟨c, rfl⟩, ?_⟩
        have e := said_n (RM := RM) (N := N) (J' := J') hM hO (fun k _ _ q => by omega) (b2i (Mod_isSign 40 I')) 14 21 f rfl (by omega)
        rw [← hf] at e
        rw [← g40]
        exact e
      · obtain ⟨k, k1, k2, k3⟩ := ownM_ex t.2.1 (hO.2.2.1 c1) (by omega)
        refine ⟨k, Or.inr ⟨c1, k2, k1, k3⟩, ?_⟩
        have e := said_w (RM := RM) (N := N) (J' := J') hM hO c1 k1 k3 (b2i (Mod_isSign 40 I')) (k - 21) 21 (f + 14 - (k - 21)) (by omega)
        rw [show f + 14 - (k - 21) + (k - 21) + 1 = f + 14 + 1 by omega, ← hf] at e
        rw [← g40]
        exact e
    obtain ⟨k, hk, hst⟩ := start
    rw [hst]
    have l1F : ∀ x : Bool, (b2i x = (0 : Int32)) = (x = false) := fun x => by cases x <;> simp [b2i]
    have kle : t.1 = 4 → (nI k ≤ (34 : Int32)) = True := fun q => by
      rw [show (34 : Int32) = nI 34 from rfl, le_nI (by omega) (by omega)]
      exact eq_true (by omega)
    -- refusals
    have full : (o = 20 ∨ w = 8) → ∃ v I1 J1 I1' J1', Sentence_readOne R N a 1 ln (nI (w + 1)) I J = some (v, I1, J1) ∧ bodyM RM N (b2i (decide (t.1 = 40))) (nI k) I' J' = some (v, I1', J1') ∧ OutS a ln nP nF w s o L v I J I' J' I1 J1 I1' J1' := by
      intro hfull
      obtain ⟨I2, I2', f1, f2, f3, f4⟩ := fail_q hAt (k := 4) (by omega)
      have f1' : Tape_fail 1 4 I = some (false, I2) := f1
      have f2' : Mod_bad 4 I' = some (false, I2') := f2
      refine ⟨false, I2, J, I2', J', ?_, ?_, f4.sk1, fun q => absurd q (by simp), fun _ => f3⟩
      · unfold Sentence_readOne
        by_cases z : o = 20
        · have y1 : (20 ≤ o) = True := eq_true (by omega)
          simp only [↓reduceIte, b0, h5, t20, y1, f1', Option.bind_some]
        · have y1 : (20 ≤ o) = False := eq_false (by omega)
          have y2 : (w < 8) = False := eq_false (by omega)
          simp only [↓reduceIte, b0, h5, t20, y1, t8, y2, f1', Option.bind_some]
      · unfold bodyM
        rcases hk with ⟨q, -⟩ | ⟨q, -⟩
        · rw [decide_eq_true q]
          have y0 : (true = false) = False := eq_false (by simp)
          by_cases z : o = 20
          · have y1 : (o = 20) = True := eq_true z
            simp only [↓reduceIte, l1F, y0, h43, m20, y1, f2', Option.bind_some]
          · have y1 : (o = 20) = False := eq_false z
            have y2 : (w = 8) = True := eq_true (by omega)
            simp only [↓reduceIte, l1F, y0, h43, h44, m20, y1, m8, y2, f2', Option.bind_some]
        · rw [decide_eq_false (show ¬ t.1 = 40 by omega)]
          have y0 : (false = false) = True := eq_true rfl
          by_cases z : o = 20
          · have y1 : (o = 20) = True := eq_true z
            simp only [↓reduceIte, l1F, y0, kle q, h43, m20, y1, f2', Option.bind_some]
          · have y1 : (o = 20) = False := eq_false z
            have y2 : (w = 8) = True := eq_true (by omega)
            simp only [↓reduceIte, l1F, y0, kle q, h43, h44, m20, y1, m8, y2, f2', Option.bind_some]
    by_cases cf : o = 20 ∨ w = 8
    · exact full cf
    · have z1 : (20 ≤ o) = False := eq_false (by omega)
      have z2 : (w < 8) = True := eq_true (by omega)
      have z3 : (o = 20) = False := eq_false (by omega)
      have z4 : (w = 8) = False := eq_false (by omega)
      have hA' := hA (by omega)
      have h1 := SnS.one ha hS (show o < 20 by omega)
      obtain ⟨t2, I2, J2, I2', J2', s1, s2, s3, s4, s5, s6⟩ := next_q hN h1.1 (by omega)
      have h2 := h1.kp ha s4 s3
      have e11 : up2 I a 5 (nI (o + 1)) 1 11 = I 1 11 := by rw [u_o (by omega)]
      have e44 : ∀ v, up2 I' 204 43 v 204 44 = I' 204 44 := fun v => u_j (by omega)
      have kp0 : KpS a I J I' J' I2 J2 I2' J2' := KpS.trans ⟨fun x j w1 w2 w3 => up2_ff (by omega), fun _ _ _ => rfl, fun x j w1 w2 => (up2_ff (by omega)).trans (up2_ff (by omega)), fun _ _ _ => rfl⟩ s4.sk1
      have dw : nI (w + 1) - 1 = nI w := by rw [L_1, nSb (by omega)]; rfl
      have d2 : (b2i (decide (t.1 = 40)) = (0 : Int32)) = (t.1 ≠ 40) := by
        rw [l1F]
        by_cases q : t.1 = 40
        · rw [decide_eq_true q]; exact propext ⟨fun z => absurd z (by simp), fun z => absurd q z⟩
        · rw [decide_eq_false q]; exact propext ⟨fun _ => q, fun _ => rfl⟩
      rcases hk with ⟨q, hk35⟩ | ⟨q, q21, q35, qo⟩
      · -- a bracket
        have y0 : (t.1 ≠ 40) = False := eq_false (fun z => z q)
        have w11 : (I 1 11 = (-1 : Int32)) = True := eq_true (by rw [hB.2, if_neg (by omega)])
        obtain ⟨v, I3, J3, I3', J3', a1, a2, a3, a4, a5⟩ := conds_q hN ha (alls_q hN ha hA') _ _ _ _ _ _ _ _ _ h2
        have a1' : Sentence_readCond R N a 1 ln (nI (w + 1 + 1)) I2 J2 = some (v, I3, J3) := a1
        cases v with
        | false =>
          refine ⟨false, I3, J3, up2 I3' 204 44 (I3' 204 44 - 1), J3', ?_, ?_, (kp0.trans a3).trans ⟨fun _ _ _ _ _ => rfl, fun _ _ _ => rfl, fun x j w1 w2 => up2_ff (by omega), fun _ _ _ => rfl⟩, fun z => absurd z (by simp), fun _ => (a5 rfl).upM (by omega)⟩
          · unfold Sentence_readOne
            simp only [↓reduceIte, b0, h5, t20, z1, t8, z2, nS, s1, e11, w11, a1', Option.bind_some, Bool.false_eq_true]
          · unfold bodyM Mod_readBracket
            simp only [↓reduceIte, d2, y0, h43, m20, z3, h44, m8, z4, nS, e44, s2, a2, Option.bind_some, Bool.false_eq_true]
        | true =>
          obtain ⟨x1, o1, r, i1, t1, b1, b2, b3, b4⟩ := a4 rfl
          obtain ⟨v, I4, J4, I4', J4', c1, c2, c3, c4, c5⟩ := takeSign_q hN b1.1 (s := 41) (by omega) (by omega)
          have c1' : Tape_takeSign 1 41 I3 J3 = some (v, I4, J4) := c1
          have br : Mod_readBracket RM N I2' J2' = some (v, I4', J4') := by
            unfold Mod_readBracket
            simp only [↓reduceIte, a2, Option.bind_some]
            exact c2
          cases v with
          | false =>
            refine ⟨false, I4, J4, up2 I4' 204 44 (I4' 204 44 - 1), J4', ?_, ?_, ((kp0.trans a3).trans c3.sk1).trans ⟨fun _ _ _ _ _ => rfl, fun _ _ _ => rfl, fun x j w1 w2 => up2_ff (by omega), fun _ _ _ => rfl⟩, fun z => absurd z (by simp), fun _ => (c5 rfl).upM (by omega)⟩
            · unfold Sentence_readOne
              simp only [↓reduceIte, b0, h5, t20, z1, t8, z2, nS, s1, e11, w11, a1', c1', Option.bind_some, Bool.false_eq_true]
            · unfold bodyM
              simp only [↓reduceIte, d2, y0, h43, m20, z3, h44, m8, z4, nS, e44, s2, br, Option.bind_some]
          | true =>
            obtain ⟨t4, g1⟩ := c4 rfl
            have h4' := b1.kp ha c3 g1
            have w44 : I4' 204 44 = nI (w + 1) := h4'.2.2.2.2.2.2.1
            refine ⟨true, I4, J4, up2 I4' 204 44 (nI w), J4', ?_, ?_, ((kp0.trans a3).trans c3.sk1).trans ⟨fun _ _ _ _ _ => rfl, fun _ _ _ => rfl, fun x j w1 w2 => up2_ff (by omega), fun _ _ _ => rfl⟩, fun _ => ⟨x1, o1, r, _, t4, h4'.back, ?_, by omega, by omega⟩, fun z => absurd z (by simp)⟩
            · unfold Sentence_readOne
              simp only [↓reduceIte, b0, h5, t20, z1, t8, z2, nS, s1, e11, w11, a1', c1', Option.bind_some]
            · unfold bodyM
              simp only [↓reduceIte, d2, y0, h43, m20, z3, h44, m8, z4, nS, e44, s2, br, w44, dw, Option.bind_some]
            · rw [u_j (by omega), c3.2.2.1 _ _ (by omega)]; exact b2
      · have y0 : (t.1 ≠ 40) = True := eq_true (by omega)
        have hu := hO.2.2.1 q
        have w11 : I 1 11 = nI t.2.1 := by rw [hB.2, if_pos q]
        have x1 : (nI t.2.1 = (-1 : Int32)) = False := propext (nI_ne1 (by omega))
        have x27 : (nI t.2.1 = (27 : Int32)) = (t.2.1 = 27) := by rw [show (27 : Int32) = nI 27 from rfl, eq_nI (by omega) (by omega)]
        have x30 : (nI t.2.1 = (30 : Int32)) = (t.2.1 = 30) := by rw [show (30 : Int32) = nI 30 from rfl, eq_nI (by omega) (by omega)]
        have x31 : (nI t.2.1 < (31 : Int32)) = (t.2.1 < 31) := by rw [show (31 : Int32) = nI 31 from rfl, lt_nI (by omega) (by omega)]
        have k21 : (nI k = (21 : Int32)) = (k = 21) := by rw [show (21 : Int32) = nI 21 from rfl, eq_nI (by omega) (by omega)]
        have k30 : (30 ≤ nI k) = (30 ≤ k) := by rw [L_30, le_nI (by omega) (by omega)]
        have k31 : (31 ≤ nI k) = (31 ≤ k) := by rw [show (31 : Int32) = nI 31 from rfl, le_nI (by omega) (by omega)]
        have klt := kle q
        by_cases kn : k = 21
        · -- not
          have u27 : t.2.1 = 27 := by rw [← qo, kn]; rfl
          have y27 : (t.2.1 = 27) = True := eq_true u27
          have yk : (k = 21) = True := eq_true kn
          obtain ⟨v, I3, J3, I3', J3', a1, a2, a3, a4, a5⟩ := hA' _ _ _ _ _ _ _ _ _ h2
          have a1' : R a 1 ln (nI (w + 1 + 1)) I2 J2 = some (v, I3, J3) := a1
          cases v with
          | false =>
            refine ⟨false, I3, J3, up2 I3' 204 44 (I3' 204 44 - 1), J3', ?_, ?_, (kp0.trans a3).trans ⟨fun _ _ _ _ _ => rfl, fun _ _ _ => rfl, fun x j w1 w2 => up2_ff (by omega), fun _ _ _ => rfl⟩, fun z => absurd z (by simp), fun _ => (a5 rfl).upM (by omega)⟩
            · unfold Sentence_readOne
              simp only [↓reduceIte, b0, h5, t20, z1, t8, z2, nS, s1, e11, w11, x1, x27, y27, a1', Option.bind_some, Bool.false_eq_true]
            · unfold bodyM Mod_readNot
              simp only [↓reduceIte, d2, y0, klt, h43, m20, z3, h44, m8, z4, nS, e44, s2, k21, yk, a2, Option.bind_some, Bool.false_eq_true]
          | true =>
            obtain ⟨p1, o1, r, i1, t1, b1, b2, b3, b4⟩ := a4 rfl
            have hL1 := b1.2.2.2.2.2.2.2.2.2.1
            have ho1 := b1.2.2.2.2.2.2.2.2.1
            have hw := addI_W (I := I3) (s := p1) (x := 27) (y := 0) (z := 0) (show 1 ≤ a by omega)
            have hg := sayI_g (I' := I3') (s := p1) (x := 1) (y := nI r) (z := 0) (u := 0)
            have pu := b1.push (x := 27) (y := 0) (z := 0) (x' := 1) (y' := nI r) (z' := 0) (u' := 0) (K := L) ha (by omega) (by simp only [List.length_cons] at hL1; omega) (Or.inr (Or.inl ⟨r, L, rfl, ⟨hw.1, hg.1, hg.2.1⟩, rfl⟩)) (by simp only [List.length_cons] at hL1 ⊢; omega)
            have ad := add_e (x := 27) (y := 0) (z := 0) b1.2.2.1 (show p1 < 40 by omega)
            have sy := says_e (x := 1) (y := nI r) (z := 0) (u := 0) b1.2.2.2.1 (show p1 < 40 by omega)
            have w44 : ∀ z, up2 (sayI p1 1 (nI r) 0 0 I3') 204 45 z 204 44 = nI (w + 1) := fun z => by rw [u_j (by omega), sayI_o (by omega) (by omega)]; exact b1.2.2.2.2.2.2.1
            refine ⟨true, addI a p1 27 0 0 I3, J3, up2 (up2 (sayI p1 1 (nI r) 0 0 I3') 204 45 (nI p1)) 204 44 (nI w), J3', ?_, ?_, (kp0.trans a3).trans (addsay_kp.trans ⟨fun _ _ _ _ _ => rfl, fun _ _ _ => rfl, fun x j w1 w2 => (up2_ff (by omega)).trans (up2_ff (by omega)), fun _ _ _ => rfl⟩), fun _ => ⟨p1 + 1, o1, p1, i1, t1, pu.up45.back, by rw [u_j (by omega), u_s], by omega, by omega⟩, fun z => absurd z (by simp)⟩
            · unfold Sentence_readOne
              simp only [↓reduceIte, b0, h5, t20, z1, t8, z2, nS, s1, e11, w11, x1, x27, y27, a1', ad, Option.bind_some]
            · unfold bodyM Mod_readNot
              simp only [↓reduceIte, d2, y0, klt, h43, m20, z3, h44, m8, z4, nS, e44, s2, k21, yk, a2, b2, sy, w44, dw, Option.bind_some]
        · have yk : (k = 21) = False := eq_false kn
          have u27 : t.2.1 ≠ 27 := fun z => kn (ownM_dis k q35 21 (by omega) (by rw [qo, z]; rfl))
          have y27 : (t.2.1 = 27) = False := eq_false u27
          have done : ∀ (v : Bool) (I3 : FI) (J3 : FJ) (I3' : FI) (J3' : FJ), OutF a ln nP nF (w + 1) s (o + 1) L v I2 J2 I2' J2' I3 J3 I3' J3' → OutS a ln nP nF w s o L v I J I' J' I3 J3 (up2 I3' 204 44 (I3' 204 44 - 1)) J3' := fun v I3 J3 I3' J3' ⟨d1, d2, d3⟩ => by
            refine ⟨(kp0.trans d1).trans ⟨fun _ _ _ _ _ => rfl, fun _ _ _ => rfl, fun x j w1 w2 => up2_ff (by omega), fun _ _ _ => rfl⟩, fun z => ?_, fun z => (d3 z).upM (by omega)⟩
            obtain ⟨i1, t1, g1, g2⟩ := d2 z
            rw [g1.2.2.2.2.2.2.1, dw]
            exact ⟨s + 1, o + 1, s, i1, t1, g1.back, by rw [u_j (by omega)]; exact g2, by omega, by omega⟩
          by_cases k3 : 30 ≤ k
          · have y30 : (30 ≤ k) = True := eq_true k3
            have ku : t.2.1 = k := by rw [← qo]; exact ownM_hi k q35 k3
            by_cases k4 : 31 ≤ k
            · have y31 : (31 ≤ k) = True := eq_true k4
              have v30 : (t.2.1 = 30) = False := eq_false (by omega)
              have v31 : (t.2.1 < 31) = False := eq_false (by omega)
              obtain ⟨v, I3, J3, I3', J3', a1, a2, a3⟩ := comp_q hN ha h2 (by omega) (by omega) k4 (by omega)
              rw [← ku] at a1
              refine ⟨v, I3, J3, _, J3', ?_, ?_, done v I3 J3 I3' J3' a3⟩
              · unfold Sentence_readOne
                simp only [↓reduceIte, b0, h5, t20, z1, t8, z2, nS, s1, e11, w11, x1, x27, y27, x30, v30, x31, v31, a1, Option.bind_some]
              · unfold bodyM
                simp only [↓reduceIte, d2, y0, klt, h43, m20, z3, h44, m8, z4, nS, e44, s2, k21, yk, k30, y30, k31, y31, a2, Option.bind_some]
            · have y31 : (31 ≤ k) = False := eq_false k4
              have v30 : (t.2.1 = 30) = True := eq_true (by omega)
              obtain ⟨v, I3, J3, I3', J3', a1, a2, a3⟩ := hold_q hN ha h2 (by omega) (by omega)
              rw [show (30 : Nat) = k by omega] at a2
              refine ⟨v, I3, J3, _, J3', ?_, ?_, done v I3 J3 I3' J3' a3⟩
              · unfold Sentence_readOne
                simp only [↓reduceIte, b0, h5, t20, z1, t8, z2, nS, s1, e11, w11, x1, x27, y27, x30, v30, a1, Option.bind_some]
              · unfold bodyM
                simp only [↓reduceIte, d2, y0, klt, h43, m20, z3, h44, m8, z4, nS, e44, s2, k21, yk, k30, y30, k31, y31, a2, Option.bind_some]
          · have y30 : (30 ≤ k) = False := eq_false k3
            have lo := ownM_lo k (by omega) (by omega)
            rw [qo] at lo
            have v30 : (t.2.1 = 30) = False := eq_false (by omega)
            have v31 : (t.2.1 < 31) = True := eq_true (by omega)
            have k50 : (50 : Int32) + nI k = nI (50 + k) := nA 50 k
            have hw := addI_W (I := I2) (s := s) (x := nI t.2.1) (y := 0) (z := 0) (show 1 ≤ a by omega)
            have hg := sayI_g (I' := I2') (s := s) (x := nI (50 + k)) (y := 0) (z := 0) (u := 0)
            have pu := h2.push (x := nI t.2.1) (y := 0) (z := 0) (x' := nI (50 + k)) (y' := 0) (z' := 0) (u' := 0) (K := L) ha (by omega) (by omega) (Or.inl ⟨Or.inl ⟨t.2.1, 50 + k, by omega, hw.1, hg.1⟩, by omega, rfl⟩) (by simp only [List.length_cons]; omega)
            have ad := add_e (x := nI t.2.1) (y := 0) (z := 0) h2.2.2.1 (show s < 40 by omega)
            have sy := says_e (x := nI (50 + k)) (y := 0) (z := 0) (u := 0) h2.2.2.2.1 (show s < 40 by omega)
            refine ⟨true, addI a s (nI t.2.1) 0 0 I2, J2, _, J2', ?_, ?_, done true _ _ (up2 (sayI s (nI (50 + k)) 0 0 0 I2') 204 45 (nI s)) J2' ⟨addsay_kp.trans ⟨fun _ _ _ _ _ => rfl, fun _ _ _ => rfl, fun x j w1 w2 => up2_ff (by omega), fun _ _ _ => rfl⟩, fun _ => ⟨i + 1, t2, pu.up45, u_s⟩, fun z => absurd z (by simp)⟩⟩
            · unfold Sentence_readOne
              simp only [↓reduceIte, b0, h5, t20, z1, t8, z2, nS, s1, e11, w11, x1, x27, y27, x30, v30, x31, v31, ad, Option.bind_some]
            · unfold bodyM
              simp only [↓reduceIte, d2, y0, klt, h43, m20, z3, h44, m8, z4, nS, e44, s2, k21, yk, k30, y30, k50, sy, Option.bind_some]
  · rw [decide_eq_false c] at b0
    have hno : ∀ k, k < 35 → 21 ≤ k → ¬ (t.1 = 4 ∧ t.2.1 = ownM.getD k 0) := fun k k1 k2 z => by
      have := ownM_in k k1 k2
      rw [← z.2] at this
      exact c (Or.inr ⟨z.1, by omega⟩)
    have e := said_n (RM := RM) (N := N) (J' := J') hM hO hno (b2i (Mod_isSign 40 I')) 14 21 f rfl (by omega)
    rw [← hf] at e
    rw [g40, decide_eq_false (show ¬ t.1 = 40 from fun z => c (Or.inl z))] at e
    have e2 : Mod_readSaid RM N I' J' = bodyM RM N (b2i false) (nI 35) I' J' := by
      have : Mod_readSaid RM N I' J' = Mod_readSaid_10 RM N N (b2i (Mod_isSign 40 I')) (nI 21) I' J' := rfl
      rw [this, g40, decide_eq_false (show ¬ t.1 = 40 from fun z => c (Or.inl z))]
      exact e
    obtain ⟨I2, I2', f1, f2, f3, f4⟩ := fail_q hAt (k := 1) (fun _ => rfl)
    have f1' : Tape_fail 1 1 I = some (false, I2) := f1
    have f2' : Mod_bad 1 I' = some (false, I2') := f2
    have z0 : (b2i false = (0 : Int32)) = True := eq_true rfl
    refine ⟨false, I2, J, I2', J', ?_, ?_, f4.sk1, fun z => absurd z (by simp), fun _ => f3⟩
    · unfold Sentence_readOne
      simp only [↓reduceIte, b0, f1', Option.bind_some, Bool.false_eq_true]
    · rw [e2]
      unfold bodyM
      simp only [↓reduceIte, z0, n35, f2', Option.bind_some]
theorem ones_q (hN : 2000 ≤ N) (ha : 45 ≤ a) : ∀ k w, w ≤ 8 → 9 ≤ w + k → AlikeS a ln nP nF w (fun l I J => Sentence_readOne_R N k a 1 ln l I J) (Mod_readSaid_R N k) := by
  intro k
  induction k with
  | zero => intro w h1 h2; exact absurd h2 (by omega)
  | succ k ih =>
    intro w h1 h2
    exact one_q hN ha h1 (fun h3 => ih (w + 1) (by omega) (by omega))
end Q76

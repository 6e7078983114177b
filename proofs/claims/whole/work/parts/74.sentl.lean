/-! and, or: both sides -/
section Q74
variable {N a b ln sp sn ss nP nF nE nW nH nR : Nat} {I I' : FI} {J J' : FJ} {t : Nat × Nat × List Nat} {i s o w : Nat} {L : List Nat}
/-- what comes out of a part of a sentence -/
def OutS (a ln nP nF w s o : Nat) (L : List Nat) (v : Bool) (I : FI) (J : FJ) (I' : FI) (J' : FJ) (I1 : FI) (J1 : FJ) (I1' : FI) (J1' : FJ) : Prop := KpS a I J I' J' I1 J1 I1' J1' ∧ (v = true → ∃ s1 o1 r i1 t1, SnS a ln nP nF w s1 o1 (r :: L) i1 t1 I1 J1 I1' J1' ∧ I1' 204 45 = nI r ∧ s1 + 1 + 2 * o ≤ s + 2 * o1 ∧ o < o1) ∧ (v = false → FlR I1 I1')
theorem SnS.up45 {v : Int32} (h : SnS a ln nP nF w s o L i t I J I' J') : SnS a ln nP nF w s o L i t I J (up2 I' 204 45 v) J' := by
  obtain ⟨h1, h2, h3, h4, h5, h6, h7, h8, h9, h10, h11⟩ := h
  refine ⟨h1.upM (by omega) (by omega), h2.to3 (fun _ => rfl) (fun _ _ _ => rfl) (fun j => by rw [u_o (by omega)]) (fun _ => rfl), h3, by rw [u_j (by omega)]; exact h4, h5, by rw [u_j (by omega)]; exact h6, by rw [u_j (by omega)]; exact h7, h8, h9, h10, ?_⟩
  rw [u_o (by omega)]
  exact h11
/-- both sides read one thing alike -/
def AlikeS (a ln nP nF w : Nat) (A : Int32 → FI → FJ → Option (Bool × FI × FJ)) (B : FI → FJ → Option (Bool × FI × FJ)) : Prop := ∀ s o L i t (I : FI) (J : FJ) (I' : FI) (J' : FJ), SnS a ln nP nF w s o L i t I J I' J' → ∃ v I1 J1 I1' J1', A (nI (w + 1)) I J = some (v, I1, J1) ∧ B I' J' = some (v, I1', J1') ∧ OutS a ln nP nF w s o L v I J I' J' I1 J1 I1' J1'
theorem alls_l (hN : 2000 ≤ N) (ha : 45 ≤ a) {R : Nat → Nat → Nat → Int32 → FI → FJ → Option (Bool × FI × FJ)} {RM : FI → FJ → Option (Bool × FI × FJ)} (hA : AlikeS a ln nP nF w (fun l I J => R a 1 ln l I J) (RM)) {s0 o0 : Nat} (hs0 : s0 ≤ 2 * o0) : ∀ r s o x f f' j i t (I : FI) (J : FJ) (I' : FI) (J' : FJ), 20 ≤ o + r → j ≤ o → r < f → r < f' → SnS a ln nP nF w s o (x :: L) i t I J I' J' → s + 1 + 2 * o0 ≤ s0 + 2 * o → o0 < o → ∃ v I1 J1 I1' J1', Sentence_readAll_15 R N a 1 ln f (nI (w + 1)) (nI j) I J = some (v, I1, J1) ∧ Mod_readAnd_14 RM N f' (nI x) I' J' = some (v, I1', J1') ∧ OutS a ln nP nF w s0 o0 L v I J I' J' I1 J1 I1' J1' := by
  intro r
  induction r with
  | zero =>
    intro s o x f f' j i t I J I' J' ho hj hf hf' h hb ho0
    obtain ⟨f, rfl⟩ : ∃ e, f = e + 1 := ⟨f - 1, by omega⟩
    obtain ⟨f', rfl⟩ : ∃ e, f' = e + 1 := ⟨f' - 1, by omega⟩
    have ho20 := h.2.2.2.2.2.2.2.2.1
    have t1 : (200 ≤ nI j) = False := by rw [L_200, le_nI (by omega) (by omega)]; exact eq_false (by omega)
    have e1 : Tape_isWord 1 26 I = decide (t.1 = 4 ∧ t.2.1 = 26) := isWord_b h.1.curB h.1.ok (w := 26) (by omega)
    have e2 : Mod_isWord 20 I' J' = decide (t.1 = 4 ∧ t.2.1 = 26) := isWord_m h.1.curM h.1.ok (k := 20) (by omega)
    by_cases c : t.1 = 4 ∧ t.2.1 = 26
    · rw [decide_eq_true c] at e1 e2
      obtain ⟨t2, I1, J1, I1', J1', s1, s2, s3, s4, s5, s6⟩ := next_q hN h.1 (by omega)
      obtain ⟨v, I2, J2, I2', J2', a1, a2, a3, a4, a5⟩ := hA _ _ _ _ _ _ _ _ _ (h.kp ha s4 s3)
      cases v with
      | false =>
        refine ⟨false, I2, J2, I2', J2', ?_, ?_, (s4.sk1).trans a3, fun q => absurd q (by simp), a5⟩
        · simp only [↓reduceIte, Sentence_readAll_15, t1, e1, s1, a1, Option.bind_some, Bool.false_eq_true]
        · simp only [↓reduceIte, Mod_readAnd_14, e2, s2, a2, Option.bind_some, Bool.false_eq_true]
      | true =>
        obtain ⟨s1', o1, r1, i1, t3, b1, b2, b3, b4⟩ := a4 rfl
        have := b1.2.2.2.2.2.2.2.2.1
        omega
    · rw [decide_eq_false c] at e1 e2
      refine ⟨true, I, J, up2 I' 204 45 (nI x), J', ?_, ?_, ⟨fun _ _ _ _ _ => rfl, fun _ _ _ => rfl, fun y j w _ => up2_ff (by omega), fun _ _ _ => rfl⟩, fun _ => ⟨s, o, x, i, t, ?_, u_s, hb, ho0⟩, fun q => absurd q (by simp)⟩
      · simp only [↓reduceIte, Sentence_readAll_15, t1, e1, Bool.false_eq_true]
      · simp only [↓reduceIte, Mod_readAnd_14, e2, Option.bind_some, Bool.false_eq_true]
      · exact h.up45
  | succ r ih =>
    intro s o x f f' j i t I J I' J' ho hj hf hf' h hb ho0
    obtain ⟨f, rfl⟩ : ∃ e, f = e + 1 := ⟨f - 1, by omega⟩
    obtain ⟨f', rfl⟩ : ∃ e, f' = e + 1 := ⟨f' - 1, by omega⟩
    have ho20 := h.2.2.2.2.2.2.2.2.1
    have t1 : (200 ≤ nI j) = False := by rw [L_200, le_nI (by omega) (by omega)]; exact eq_false (by omega)
    have e1 : Tape_isWord 1 26 I = decide (t.1 = 4 ∧ t.2.1 = 26) := isWord_b h.1.curB h.1.ok (w := 26) (by omega)
    have e2 : Mod_isWord 20 I' J' = decide (t.1 = 4 ∧ t.2.1 = 26) := isWord_m h.1.curM h.1.ok (k := 20) (by omega)
    by_cases c : t.1 = 4 ∧ t.2.1 = 26
    · rw [decide_eq_true c] at e1 e2
      obtain ⟨t2, I1, J1, I1', J1', s1, s2, s3, s4, s5, s6⟩ := next_q hN h.1 (by omega)
      obtain ⟨v, I2, J2, I2', J2', a1, a2, a3, a4, a5⟩ := hA _ _ _ _ _ _ _ _ _ (h.kp ha s4 s3)
      cases v with
      | false =>
        refine ⟨false, I2, J2, I2', J2', ?_, ?_, (s4.sk1).trans a3, fun q => absurd q (by simp), a5⟩
        · simp only [↓reduceIte, Sentence_readAll_15, t1, e1, s1, a1, Option.bind_some, Bool.false_eq_true]
        · simp only [↓reduceIte, Mod_readAnd_14, e2, s2, a2, Option.bind_some, Bool.false_eq_true]
      | true =>
        obtain ⟨s1', o1, r1, i1, t3, b1, b2, b3, b4⟩ := a4 rfl
        have ho1 := b1.2.2.2.2.2.2.2.2.1
        have hL := b1.2.2.2.2.2.2.2.2.2.1
        have hw := addI_W (I := I2) (s := s1') (x := 26) (y := 0) (z := 0) (show 1 ≤ a by omega)
        have hg := sayI_g (I' := I2') (s := s1') (x := 2) (y := nI x) (z := nI r1) (u := 0)
        have pu := b1.push (x := 26) (y := 0) (z := 0) (x' := 2) (y' := nI x) (z' := nI r1) (u' := 0) (K := L) ha (by omega) (by simp only [List.length_cons] at hL; omega) (Or.inr (Or.inr ⟨x, r1, L, rfl, ⟨Or.inl ⟨hw.1, hg.1⟩, hg.2.1, hg.2.2.1⟩, rfl⟩)) (by simp only [List.length_cons] at hL ⊢; omega)
        have ad := add_e (x := 26) (y := 0) (z := 0) b1.2.2.1 (show s1' < 40 by omega)
        have sy := says_e (x := 2) (y := nI x) (z := nI r1) (u := 0) b1.2.2.2.1 (show s1' < 40 by omega)
        obtain ⟨v, I3, J3, I3', J3', c1, c2, c3, c4, c5⟩ := ih (s1' + 1) o1 s1' f f' (j + 1) i1 t3 _ _ _ _ (by omega) (by omega) (by omega) (by omega) pu (by omega) (by omega)
        refine ⟨v, I3, J3, I3', J3', ?_, ?_, ((s4.sk1).trans a3).trans (addsay_kp.trans c3), c4, c5⟩
        · rw [← c1]
          conv => lhs; rw [Sentence_readAll_15]
          simp only [↓reduceIte, t1, e1, s1, a1, ad, nS, Option.bind_some]
        · rw [← c2]
          conv => lhs; rw [Mod_readAnd_14]
          simp only [↓reduceIte, e2, s2, a2, b2, sy, Option.bind_some]
    · rw [decide_eq_false c] at e1 e2
      refine ⟨true, I, J, up2 I' 204 45 (nI x), J', ?_, ?_, ⟨fun _ _ _ _ _ => rfl, fun _ _ _ => rfl, fun y j w _ => up2_ff (by omega), fun _ _ _ => rfl⟩, fun _ => ⟨s, o, x, i, t, ?_, u_s, hb, ho0⟩, fun q => absurd q (by simp)⟩
      · simp only [↓reduceIte, Sentence_readAll_15, t1, e1, Bool.false_eq_true]
      · simp only [↓reduceIte, Mod_readAnd_14, e2, Option.bind_some, Bool.false_eq_true]
      · exact h.up45
theorem alls_q (hN : 2000 ≤ N) (ha : 45 ≤ a) {R : Nat → Nat → Nat → Int32 → FI → FJ → Option (Bool × FI × FJ)} {RM : FI → FJ → Option (Bool × FI × FJ)} (hA : AlikeS a ln nP nF w (fun l I J => R a 1 ln l I J) (RM)) : AlikeS a ln nP nF w (fun l I J => Sentence_readAll R N a 1 ln l I J) (Mod_readAnd RM N) := by
  intro s o L i t I J I' J' h
  obtain ⟨v, I1, J1, I1', J1', a1, a2, a3, a4, a5⟩ := hA _ _ _ _ _ _ _ _ _ h
  show ∃ v I1 J1 I1' J1', Sentence_readAll R N a 1 ln (nI (w + 1)) I J = some (v, I1, J1) ∧ Mod_readAnd RM N I' J' = some (v, I1', J1') ∧ _
  unfold Sentence_readAll Mod_readAnd
  cases v with
  | false =>
    refine ⟨false, I1, J1, I1', J1', ?_, ?_, a3, fun q => absurd q (by simp), a5⟩
    · simp only [↓reduceIte, a1, Option.bind_some, Bool.false_eq_true]
    · simp only [↓reduceIte, a2, Option.bind_some, Bool.false_eq_true]
  | true =>
    obtain ⟨s1, o1, r1, i1, t1, b1, b2, b3, b4⟩ := a4 rfl
    have ho1 := b1.2.2.2.2.2.2.2.2.1
    obtain ⟨v, I2, J2, I2', J2', c1, c2, c3, c4, c5⟩ := alls_l hN ha hA (s0 := s) (o0 := o) h.2.2.2.2.2.2.2.1 (20 - o1) s1 o1 r1 N N 0 i1 t1 I1 J1 I1' J1' (by omega) (by omega) (by omega) (by omega) b1 b3 b4
    refine ⟨v, I2, J2, I2', J2', ?_, ?_, a3.trans c3, c4, c5⟩
    · simp only [↓reduceIte, a1, Option.bind_some]
      exact c1
    · simp only [↓reduceIte, a2, b2, Option.bind_some]
      exact c2
theorem conds_l (hN : 2000 ≤ N) (ha : 45 ≤ a) {R : Nat → Nat → Nat → Int32 → FI → FJ → Option (Bool × FI × FJ)} {RM : FI → FJ → Option (Bool × FI × FJ)} (hA : AlikeS a ln nP nF w (fun l I J => Sentence_readAll R N a 1 ln l I J) (Mod_readAnd RM N)) {s0 o0 : Nat} (hs0 : s0 ≤ 2 * o0) : ∀ r s o x f f' j i t (I : FI) (J : FJ) (I' : FI) (J' : FJ), 20 ≤ o + r → j ≤ o → r < f → r < f' → SnS a ln nP nF w s o (x :: L) i t I J I' J' → s + 1 + 2 * o0 ≤ s0 + 2 * o → o0 < o → ∃ v I1 J1 I1' J1', Sentence_readCond_15 R N a 1 ln f (nI (w + 1)) (nI j) I J = some (v, I1, J1) ∧ Mod_readOr_14 RM N f' (nI x) I' J' = some (v, I1', J1') ∧ OutS a ln nP nF w s0 o0 L v I J I' J' I1 J1 I1' J1' := by
  intro r
  induction r with
  | zero =>
    intro s o x f f' j i t I J I' J' ho hj hf hf' h hb ho0
    obtain ⟨f, rfl⟩ : ∃ e, f = e + 1 := ⟨f - 1, by omega⟩
    obtain ⟨f', rfl⟩ : ∃ e, f' = e + 1 := ⟨f' - 1, by omega⟩
    have ho20 := h.2.2.2.2.2.2.2.2.1
    have t1 : (200 ≤ nI j) = False := by rw [L_200, le_nI (by omega) (by omega)]; exact eq_false (by omega)
    have e1 : Tape_isWord 1 25 I = decide (t.1 = 4 ∧ t.2.1 = 25) := isWord_b h.1.curB h.1.ok (w := 25) (by omega)
    have e2 : Mod_isWord 19 I' J' = decide (t.1 = 4 ∧ t.2.1 = 25) := isWord_m h.1.curM h.1.ok (k := 19) (by omega)
    by_cases c : t.1 = 4 ∧ t.2.1 = 25
    · rw [decide_eq_true c] at e1 e2
      obtain ⟨t2, I1, J1, I1', J1', s1, s2, s3, s4, s5, s6⟩ := next_q hN h.1 (by omega)
      obtain ⟨v, I2, J2, I2', J2', a1, a2, a3, a4, a5⟩ := hA _ _ _ _ _ _ _ _ _ (h.kp ha s4 s3)
      cases v with
      | false =>
        refine ⟨false, I2, J2, I2', J2', ?_, ?_, (s4.sk1).trans a3, fun q => absurd q (by simp), a5⟩
        · simp only [↓reduceIte, Sentence_readCond_15, t1, e1, s1, a1, Option.bind_some, Bool.false_eq_true]
        · simp only [↓reduceIte, Mod_readOr_14, e2, s2, a2, Option.bind_some, Bool.false_eq_true]
      | true =>
        obtain ⟨s1', o1, r1, i1, t3, b1, b2, b3, b4⟩ := a4 rfl
        have := b1.2.2.2.2.2.2.2.2.1
        omega
    · rw [decide_eq_false c] at e1 e2
      refine ⟨true, I, J, up2 I' 204 45 (nI x), J', ?_, ?_, ⟨fun _ _ _ _ _ => rfl, fun _ _ _ => rfl, fun y j w _ => up2_ff (by omega), fun _ _ _ => rfl⟩, fun _ => ⟨s, o, x, i, t, ?_, u_s, hb, ho0⟩, fun q => absurd q (by simp)⟩
      · simp only [↓reduceIte, Sentence_readCond_15, t1, e1, Bool.false_eq_true]
      · simp only [↓reduceIte, Mod_readOr_14, e2, Option.bind_some, Bool.false_eq_true]
      · exact h.up45
  | succ r ih =>
    intro s o x f f' j i t I J I' J' ho hj hf hf' h hb ho0
    obtain ⟨f, rfl⟩ : ∃ e, f = e + 1 := ⟨f - 1, by omega⟩
    obtain ⟨f', rfl⟩ : ∃ e, f' = e + 1 := ⟨f' - 1, by omega⟩
    have ho20 := h.2.2.2.2.2.2.2.2.1
    have t1 : (200 ≤ nI j) = False := by rw [L_200, le_nI (by omega) (by omega)]; exact eq_false (by omega)
    have e1 : Tape_isWord 1 25 I = decide (t.1 = 4 ∧ t.2.1 = 25) := isWord_b h.1.curB h.1.ok (w := 25) (by omega)
    have e2 : Mod_isWord 19 I' J' = decide (t.1 = 4 ∧ t.2.1 = 25) := isWord_m h.1.curM h.1.ok (k := 19) (by omega)
    by_cases c : t.1 = 4 ∧ t.2.1 = 25
    · rw [decide_eq_true c] at e1 e2
      obtain ⟨t2, I1, J1, I1', J1', s1, s2, s3, s4, s5, s6⟩ := next_q hN h.1 (by omega)
      obtain ⟨v, I2, J2, I2', J2', a1, a2, a3, a4, a5⟩ := hA _ _ _ _ _ _ _ _ _ (h.kp ha s4 s3)
      cases v with
      | false =>
        refine ⟨false, I2, J2, I2', J2', ?_, ?_, (s4.sk1).trans a3, fun q => absurd q (by simp), a5⟩
        · simp only [↓reduceIte, Sentence_readCond_15, t1, e1, s1, a1, Option.bind_some, Bool.false_eq_true]
        · simp only [↓reduceIte, Mod_readOr_14, e2, s2, a2, Option.bind_some, Bool.false_eq_true]
      | true =>
        obtain ⟨s1', o1, r1, i1, t3, b1, b2, b3, b4⟩ := a4 rfl
        have ho1 := b1.2.2.2.2.2.2.2.2.1
        have hL := b1.2.2.2.2.2.2.2.2.2.1
        have hw := addI_W (I := I2) (s := s1') (x := 25) (y := 0) (z := 0) (show 1 ≤ a by omega)
        have hg := sayI_g (I' := I2') (s := s1') (x := 3) (y := nI x) (z := nI r1) (u := 0)
        have pu := b1.push (x := 25) (y := 0) (z := 0) (x' := 3) (y' := nI x) (z' := nI r1) (u' := 0) (K := L) ha (by omega) (by simp only [List.length_cons] at hL; omega) (Or.inr (Or.inr ⟨x, r1, L, rfl, ⟨Or.inr ⟨hw.1, hg.1⟩, hg.2.1, hg.2.2.1⟩, rfl⟩)) (by simp only [List.length_cons] at hL ⊢; omega)
        have ad := add_e (x := 25) (y := 0) (z := 0) b1.2.2.1 (show s1' < 40 by omega)
        have sy := says_e (x := 3) (y := nI x) (z := nI r1) (u := 0) b1.2.2.2.1 (show s1' < 40 by omega)
        obtain ⟨v, I3, J3, I3', J3', c1, c2, c3, c4, c5⟩ := ih (s1' + 1) o1 s1' f f' (j + 1) i1 t3 _ _ _ _ (by omega) (by omega) (by omega) (by omega) pu (by omega) (by omega)
        refine ⟨v, I3, J3, I3', J3', ?_, ?_, ((s4.sk1).trans a3).trans (addsay_kp.trans c3), c4, c5⟩
        · rw [← c1]
          conv => lhs; rw [Sentence_readCond_15]
          simp only [↓reduceIte, t1, e1, s1, a1, ad, nS, Option.bind_some]
        · rw [← c2]
          conv => lhs; rw [Mod_readOr_14]
          simp only [↓reduceIte, e2, s2, a2, b2, sy, Option.bind_some]
    · rw [decide_eq_false c] at e1 e2
      refine ⟨true, I, J, up2 I' 204 45 (nI x), J', ?_, ?_, ⟨fun _ _ _ _ _ => rfl, fun _ _ _ => rfl, fun y j w _ => up2_ff (by omega), fun _ _ _ => rfl⟩, fun _ => ⟨s, o, x, i, t, ?_, u_s, hb, ho0⟩, fun q => absurd q (by simp)⟩
      · simp only [↓reduceIte, Sentence_readCond_15, t1, e1, Bool.false_eq_true]
      · simp only [↓reduceIte, Mod_readOr_14, e2, Option.bind_some, Bool.false_eq_true]
      · exact h.up45
theorem conds_q (hN : 2000 ≤ N) (ha : 45 ≤ a) {R : Nat → Nat → Nat → Int32 → FI → FJ → Option (Bool × FI × FJ)} {RM : FI → FJ → Option (Bool × FI × FJ)} (hA : AlikeS a ln nP nF w (fun l I J => Sentence_readAll R N a 1 ln l I J) (Mod_readAnd RM N)) : AlikeS a ln nP nF w (fun l I J => Sentence_readCond R N a 1 ln l I J) (Mod_readOr RM N) := by
  intro s o L i t I J I' J' h
  obtain ⟨v, I1, J1, I1', J1', a1, a2, a3, a4, a5⟩ := hA _ _ _ _ _ _ _ _ _ h
  show ∃ v I1 J1 I1' J1', Sentence_readCond R N a 1 ln (nI (w + 1)) I J = some (v, I1, J1) ∧ Mod_readOr RM N I' J' = some (v, I1', J1') ∧ _
  unfold Sentence_readCond Mod_readOr
  cases v with
  | false =>
    refine ⟨false, I1, J1, I1', J1', ?_, ?_, a3, fun q => absurd q (by simp), a5⟩
    · simp only [↓reduceIte, a1, Option.bind_some, Bool.false_eq_true]
    · simp only [↓reduceIte, a2, Option.bind_some, Bool.false_eq_true]
  | true =>
    obtain ⟨s1, o1, r1, i1, t1, b1, b2, b3, b4⟩ := a4 rfl
    have ho1 := b1.2.2.2.2.2.2.2.2.1
    obtain ⟨v, I2, J2, I2', J2', c1, c2, c3, c4, c5⟩ := conds_l hN ha hA (s0 := s) (o0 := o) h.2.2.2.2.2.2.2.1 (20 - o1) s1 o1 r1 N N 0 i1 t1 I1 J1 I1' J1' (by omega) (by omega) (by omega) (by omega) b1 b3 b4
    refine ⟨v, I2, J2, I2', J2', ?_, ?_, a3.trans c3, c4, c5⟩
    · simp only [↓reduceIte, a1, Option.bind_some]
      exact c1
    · simp only [↓reduceIte, a2, b2, Option.bind_some]
      exact c2
end Q74

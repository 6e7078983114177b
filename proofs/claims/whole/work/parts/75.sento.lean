/-! one thing of a sentence: both sides -/
def bodyM (R : FI → FJ → Option (Bool × FI × FJ)) (N : Nat) (l1 l2 : Int32) (I : FI) (J : FJ) : Option (Bool × FI × FJ) := if l1 = 0 then (if l2 ≤ 34 then (if (I 204 43) = 20 then (Option.bind (Mod_bad 4 I) fun x1 => (some (x1.1, x1.2, J))) else (if (I 204 44) = 8 then (Option.bind (Mod_bad 4 I) fun x2 => (some (x2.1, x2.2, J))) else (Option.bind (some (up2 I 204 43 ((I 204 43) + 1))) fun I3 => (Option.bind (some (up2 I3 204 44 ((I3 204 44) + 1))) fun I4 => (Option.bind (Mod_go N I4 J) fun x5 => (if l1 = 0 then (if l2 = 21 then (Option.bind (Mod_readNot R N x5.1 x5.2) fun x6 => (Option.bind (some (up2 x6.2.1 204 44 ((x6.2.1 204 44) - 1))) fun I7 => (some (x6.1, I7, x6.2.2)))) else (if 30 ≤ l2 then (if 31 ≤ l2 then (Option.bind (Mod_readCompare N l2 x5.1 x5.2) fun x8 => (Option.bind (some (up2 x8.2.1 204 44 ((x8.2.1 204 44) - 1))) fun I9 => (some (x8.1, I9, x8.2.2)))) else (Option.bind (Mod_readOf N l2 x5.1 x5.2) fun x10 => (Option.bind (some (up2 x10.2.1 204 44 ((x10.2.1 204 44) - 1))) fun I11 => (some (x10.1, I11, x10.2.2))))) else (Option.bind (Mod_saysOne (50 + l2) 0 0 0 x5.1) fun x12 => (Option.bind (some (up2 x12.2 204 45 x12.1)) fun I13 => (Option.bind (some (up2 I13 204 44 ((I13 204 44) - 1))) fun I14 => (some (true, I14, x5.2))))))) else (Option.bind (Mod_readBracket R N x5.1 x5.2) fun x15 => (Option.bind (some (up2 x15.2.1 204 44 ((x15.2.1 204 44) - 1))) fun I16 => (some (x15.1, I16, x15.2.2)))))))))) else (Option.bind (Mod_bad 1 I) fun x17 => (some (x17.1, x17.2, J)))) else (if (I 204 43) = 20 then (Option.bind (Mod_bad 4 I) fun x18 => (some (x18.1, x18.2, J))) else (if (I 204 44) = 8 then (Option.bind (Mod_bad 4 I) fun x19 => (some (x19.1, x19.2, J))) else (Option.bind (some (up2 I 204 43 ((I 204 43) + 1))) fun I20 => (Option.bind (some (up2 I20 204 44 ((I20 204 44) + 1))) fun I21 => (Option.bind (Mod_go N I21 J) fun x22 => (if l1 = 0 then (if l2 = 21 then (Option.bind (Mod_readNot R N x22.1 x22.2) fun x23 => (Option.bind (some (up2 x23.2.1 204 44 ((x23.2.1 204 44) - 1))) fun I24 => (some (x23.1, I24, x23.2.2)))) else (if 30 ≤ l2 then (if 31 ≤ l2 then (Option.bind (Mod_readCompare N l2 x22.1 x22.2) fun x25 => (Option.bind (some (up2 x25.2.1 204 44 ((x25.2.1 204 44) - 1))) fun I26 => (some (x25.1, I26, x25.2.2)))) else (Option.bind (Mod_readOf N l2 x22.1 x22.2) fun x27 => (Option.bind (some (up2 x27.2.1 204 44 ((x27.2.1 204 44) - 1))) fun I28 => (some (x27.1, I28, x27.2.2))))) else (Option.bind (Mod_saysOne (50 + l2) 0 0 0 x22.1) fun x29 => (Option.bind (some (up2 x29.2 204 45 x29.1)) fun I30 => (Option.bind (some (up2 I30 204 44 ((I30 204 44) - 1))) fun I31 => (some (true, I31, x22.2))))))) else (Option.bind (Mod_readBracket R N x22.1 x22.2) fun x32 => (Option.bind (some (up2 x32.2.1 204 44 ((x32.2.1 204 44) - 1))) fun I33 => (some (x32.1, I33, x32.2.2))))))))))
section Q75
variable {N a b ln sp sn ss nP nF nE nW nH nR : Nat} {I I' : FI} {J J' : FJ} {t : Nat × Nat × List Nat} {i s o w : Nat} {L : List Nat} {R : Nat → Nat → Nat → Int32 → FI → FJ → Option (Bool × FI × FJ)} {RM : FI → FJ → Option (Bool × FI × FJ)}
theorem said10 (n : Nat) (l1 l2 : Int32) : Mod_readSaid_10 RM N (n + 1) l1 l2 I J = (if 34 < l2 then bodyM RM N l1 l2 I J else (if (Mod_isWord l2 I J) then bodyM RM N l1 l2 I J else Mod_readSaid_10 RM N n l1 (l2 + 1) I J)) := rfl
theorem ownM_in : ∀ k, k < 35 → 21 ≤ k → (27 ≤ ownM.getD k 0 ∧ ownM.getD k 0 < 35) ∨ (8 ≤ ownM.getD k 0 ∧ ownM.getD k 0 < 12) ∨ (19 ≤ ownM.getD k 0 ∧ ownM.getD k 0 < 21) := by decide
theorem ownM_ex : ∀ u, u < 35 → ((27 ≤ u ∧ u < 35) ∨ (8 ≤ u ∧ u < 12) ∨ (19 ≤ u ∧ u < 21)) → ∃ k, k < 35 ∧ 21 ≤ k ∧ ownM.getD k 0 = u := by decide
theorem ownM_dis : ∀ k, k < 35 → ∀ j, j < 35 → ownM.getD k 0 = ownM.getD j 0 → k = j := by decide
theorem ownM_hi : ∀ k, k < 35 → 30 ≤ k → ownM.getD k 0 = k := by decide
theorem ownM_lo : ∀ k, k < 30 → 22 ≤ k → (ownM.getD k 0 = 8 ∧ k = 26) ∨ (ownM.getD k 0 = 9 ∧ k = 27) ∨ (ownM.getD k 0 = 10 ∧ k = 28) ∨ (ownM.getD k 0 = 11 ∧ k = 29) ∨ (ownM.getD k 0 = 19 ∧ k = 24) ∨ (ownM.getD k 0 = 20 ∧ k = 25) ∨ (ownM.getD k 0 = 28 ∧ k = 22) ∨ (ownM.getD k 0 = 29 ∧ k = 23) := by
  intro k h1 h2
  rcases (show k = 22 ∨ k = 23 ∨ k = 24 ∨ k = 25 ∨ k = 26 ∨ k = 27 ∨ k = 28 ∨ k = 29 by omega) with rfl | rfl | rfl | rfl | rfl | rfl | rfl | rfl <;> decide
theorem said_w (h : CurM t I' J') (hO : TokOK t) (h4 : t.1 = 4) {k : Nat} (hk : k < 35) (hu : ownM.getD k 0 = t.2.1) (l1 : Int32) : ∀ r w f, w + r = k → Mod_readSaid_10 RM N (f + r + 1) l1 (nI w) I' J' = bodyM RM N l1 (nI k) I' J' := by
  intro r
  induction r with
  | zero =>
    intro w f hw
    have e : w = k := hw
    rw [e, said10, if_neg (by rw [show (34 : Int32) = nI 34 from rfl, lt_nI (by omega) (by omega)]; omega), isWord_m h hO hk, decide_eq_true ⟨h4, hu.symm⟩, if_pos rfl]
  | succ r ih =>
    intro w f hw
    rw [show f + (r + 1) + 1 = (f + r + 1) + 1 from rfl, said10, if_neg (by rw [show (34 : Int32) = nI 34 from rfl, lt_nI (by omega) (by omega)]; omega), isWord_m h hO (k := w) (by omega), decide_eq_false (fun q => by have := ownM_dis w (by omega) k hk (by rw [hu]; exact q.2.symm); omega), if_neg (by simp), nS]
    exact ih (w + 1) f (by omega)
theorem said_n (h : CurM t I' J') (hO : TokOK t) (hno : ∀ k, k < 35 → 21 ≤ k → ¬ (t.1 = 4 ∧ t.2.1 = ownM.getD k 0)) (l1 : Int32) : ∀ r w f, w + r = 35 → 21 ≤ w → Mod_readSaid_10 RM N (f + r + 1) l1 (nI w) I' J' = bodyM RM N l1 (nI 35) I' J' := by
  intro r
  induction r with
  | zero =>
    intro w f hw h21
    have e : w = 35 := hw
    rw [e, said10, if_pos (by decide)]
  | succ r ih =>
    intro w f hw h21
    rw [show f + (r + 1) + 1 = (f + r + 1) + 1 from rfl, said10, if_neg (by rw [show (34 : Int32) = nI 34 from rfl, lt_nI (by omega) (by omega)]; omega), isWord_m h hO (k := w) (by omega), decide_eq_false (hno w (by omega) h21), if_neg (by simp), nS]
    exact ih (w + 1) f (by omega) (by omega)
/-- a leaf is laid -/
def OutF (a ln nP nF w s o : Nat) (L : List Nat) (v : Bool) (I : FI) (J : FJ) (I' : FI) (J' : FJ) (I1 : FI) (J1 : FJ) (I1' : FI) (J1' : FJ) : Prop := KpS a I J I' J' I1 J1 I1' J1' ∧ (v = true → ∃ i1 t1, SnS a ln nP nF w (s + 1) o (s :: L) i1 t1 I1 J1 I1' J1' ∧ I1' 204 45 = nI s) ∧ (v = false → FlR I1 I1')
theorem FlR.upM {x k : Nat} {v : Int32} (h : FlR I I') (h1 : ¬ (x = 204 ∧ (k = 10 ∨ k = 11))) : FlR I (up2 I' x k v) := h.of rfl rfl (up2_ff (by omega)) (up2_ff (by omega))
theorem hold_q (hN : 2000 ≤ N) (ha : 45 ≤ a) (h : SnS a ln nP nF w s o L i t I J I' J') (hs : s < 2 * o) (hL : L.length + 1 ≤ o) : ∃ v I1 J1 I1' J1', Sentence_readHolder N a 1 ln I J = some (v, I1, J1) ∧ Mod_readOf N (nI 30) I' J' = some (v, I1', J1') ∧ OutF a ln nP nF w s o L v I J I' J' I1 J1 I1' J1' := by
  have n1 := isName_b h.1.curB h.1.ok
  have n2 := isName_m hN h.1.curM h.1.ok
  have ho := h.2.2.2.2.2.2.2.2.1
  unfold Sentence_readHolder Mod_readOf Mod_readWhom
  by_cases c : t.1 = 3
  · rw [decide_eq_true c] at n1 n2
    obtain ⟨vp, p1, p2, p3⟩ := person_q hN h.2.1 (h.1.word c)
    rw [T_0] at p2
    have e13 : up2 I' 204 13 vp 204 13 = vp := u_s
    have hP := h.2.1.2.2.1
    rcases p3 with p4 | ⟨j, p4, p5⟩
    · have y1 : ((0 : Int32) ≤ vp) = False := by rw [p4]; exact eq_false (by decide)
      have y2 : (vp = (-1 : Int32)) = True := eq_true p4
      obtain ⟨I2, I2', f1, f2, f3, f4⟩ := fail_q (h.1.upM (x := 204) (k := 13) (v := vp) (by omega) (by omega)) (k := 3) (by omega)
      have f1' : Tape_fail 1 3 I = some (false, I2) := f1
      have f2' : Mod_bad 3 (up2 I' 204 13 vp) = some (false, I2') := f2
      refine ⟨false, I2, J, I2', J', ?_, ?_, ⟨fun x j w1 w2 w3 => f4.1 x j w1, fun _ _ _ => rfl, fun x j w1 w2 => (f4.2.2.1 x j (by omega)).trans (up2_ff (by omega)), fun _ _ _ => rfl⟩, fun q => absurd q (by simp), fun _ => f3⟩
      · simp only [↓reduceIte, n1, p1, y1, f1', Option.bind_some]
      · simp only [↓reduceIte, n2, T_0, p2, e13, y2, f2', Option.bind_some, Bool.false_eq_true]
    · have y1 : ((0 : Int32) ≤ vp) = True := by rw [p5, L_0, le_nI (by omega) (by omega)]; exact eq_true (Nat.zero_le _)
      have y2 : (vp = (-1 : Int32)) = False := by rw [p5]; exact propext (nI_ne1 (by omega))
      obtain ⟨t2, I2, J2, I2', J2', s1, s2, s3, s4, s5, s6⟩ := next_q hN (h.1.upM (x := 204) (k := 13) (v := vp) (by omega) (by omega)) (by omega)
      have kp : Kp I J I' J' I2 J2 I2' J2' := ⟨s4.1, s4.2.1, fun x j w => (s4.2.2.1 x j w).trans (up2_ff (by omega)), s4.2.2.2⟩
      have h2 := h.kp ha kp s3
      have hw := addI_W (I := I2) (s := s) (x := 30) (y := vp) (z := 0) (show 1 ≤ a by omega)
      have hg := sayI_g (I' := I2') (s := s) (x := nI 80) (y := vp) (z := 0) (u := 0)
      have pu := h2.push (x := 30) (y := vp) (z := 0) (x' := nI 80) (y' := vp) (z' := 0) (u' := 0) (K := L) ha hs (by omega) (Or.inl ⟨Or.inr (Or.inl ⟨hw.1, hg.1, by rw [hw.2.1, hg.2.1]⟩), by omega, rfl⟩) (by simp only [List.length_cons]; omega)
      have ad := add_e (x := 30) (y := vp) (z := 0) h2.2.2.1 (show s < 40 by omega)
      have sy := says_e (x := nI 80) (y := vp) (z := 0) (u := 0) h2.2.2.2.1 (show s < 40 by omega)
      have k80 : (50 : Int32) + nI 30 = nI 80 := by decide
      have s6' : I2' 204 13 = vp := by rw [s6]; exact e13
      refine ⟨true, addI a s 30 vp 0 I2, J2, up2 (sayI s (nI 80) vp 0 0 I2') 204 45 (nI s), J2', ?_, ?_, ⟨fun x j w1 w2 w3 => (addI_o (by omega) (by omega)).trans (kp.1 x j w1), kp.2.1, fun x j w1 w2 => (up2_ff (by omega)).trans ((sayI_o (by omega) (by omega)).trans (kp.2.2.1 x j (by omega))), kp.2.2.2⟩, fun _ => ⟨i + 1, t2, pu.up45, u_s⟩, fun q => absurd q (by simp)⟩
      · simp only [↓reduceIte, n1, p1, y1, s1, ad, Option.bind_some]
      · simp only [↓reduceIte, n2, T_0, p2, e13, y2, s2, s6', k80, sy, Option.bind_some]
  · rw [decide_eq_false c] at n1 n2
    obtain ⟨I2, I2', f1, f2, f3, f4⟩ := fail_q h.1 (k := 1) (fun _ => rfl)
    have f1' : Tape_fail 1 1 I = some (false, I2) := f1
    have f2' : Mod_bad 1 I' = some (false, I2') := f2
    refine ⟨false, I2, J, I2', J', ?_, ?_, f4.sk1, fun q => absurd q (by simp), fun _ => f3⟩
    · simp only [↓reduceIte, n1, f1', Option.bind_some, Bool.false_eq_true]
    · simp only [↓reduceIte, n2, f2', Option.bind_some, Bool.false_eq_true]
theorem isC : ∀ k, k < 100 → Tape_isCompare (nI k) = (decide (k = 60) || decide (k = 61) || decide (k = 62)) := by decide
theorem comp_q (hN : 2000 ≤ N) (ha : 45 ≤ a) (h : SnS a ln nP nF w s o L i t I J I' J') (hs : s < 2 * o) (hL : L.length + 1 ≤ o) {u : Nat} (hu : 31 ≤ u) (hu2 : u ≤ 34) : ∃ v I1 J1 I1' J1', Sentence_readCompare a 1 (nI u) I J = some (v, I1, J1) ∧ Mod_readCompare N (nI u) I' J' = some (v, I1', J1') ∧ OutF a ln nP nF w s o L v I J I' J' I1 J1 I1' J1' := by
  have hO := h.1.ok
  have lt := tok_lt hO
  have ho := h.2.2.2.2.2.2.2.2.1
  have e1 : Tape_isCompare (I 1 9) = (decide (t.1 = 60) || decide (t.1 = 61) || decide (t.1 = 62)) := by rw [h.1.curB.1.1]; exact isC _ lt
  have g60 : Mod_isSign 60 I' = decide (t.1 = 60) := sign_m h.1.curM hO (s := 60) (by omega) (by omega)
  have g61 : Mod_isSign 61 I' = decide (t.1 = 61) := sign_m h.1.curM hO (s := 61) (by omega) (by omega)
  have g62 : Mod_isSign 62 I' = decide (t.1 = 62) := sign_m h.1.curM hO (s := 62) (by omega) (by omega)
  by_cases c : t.1 = 60 ∨ t.1 = 61 ∨ t.1 = 62
  · have sg : I' 204 9 = nI t.1 := h.1.curM.2.2.2.2 (by omega)
    have sb9 : I 1 9 = nI t.1 := h.1.curB.1.1
    obtain ⟨t2, I2, J2, I2', J2', s1, s2, s3, s4, s5, s6⟩ := next_q hN h.1 (by omega)
    obtain ⟨v, I3, J3, I3', J3', d1, d2, d3, d4, d5⟩ := takeNum_q hN s3 (lo := 0) (hi := 999) (by omega) (by omega)
    have d1' : Tape_takeNumber 1 0 999 I2 J2 = some (v, I3, J3) := d1
    have d2' : Mod_readNumber N 0 999 I2' J2' = some (v, I3', J3') := d2
    have e1' : Tape_isCompare (I 1 9) = true := by
      rw [e1]
      rcases c with z | z | z <;> rw [z] <;> rfl
    have k50 : (50 : Int32) + nI u = nI (50 + u) := nA 50 u
    have e1'' : Tape_isCompare (nI t.1) = true := by rw [← sb9]; exact e1'
    have md : ∀ z, (Option.bind (Mod_go N I' J') fun x10 => (Option.bind (Mod_readNumber N 0 999 x10.1 x10.2) fun x11 => (if x11.1 then (Option.bind (Mod_saysOne (50 + nI u) 0 (x11.2.1 204 13) (I' 204 9) x11.2.1) fun x12 => (Option.bind (some (up2 x12.2 204 45 x12.1)) fun I13 => (some (true, I13, x11.2.2)))) else (some (false, x11.2.1, x11.2.2))))) = z → Mod_readCompare N (nI u) I' J' = z := by
      intro z hz
      unfold Mod_readCompare
      rcases c with q | q | q
      · rw [g60, decide_eq_true q, if_pos rfl]; exact hz
      · rw [g60, decide_eq_false (by omega), if_neg (by simp), g61, decide_eq_true q, if_pos rfl]; exact hz
      · rw [g60, decide_eq_false (by omega), if_neg (by simp), g61, decide_eq_false (by omega), if_neg (by simp), g62, decide_eq_true q, if_pos rfl]; exact hz
    cases v with
    | false =>
      refine ⟨false, I3, J3, I3', J3', ?_, md _ ?_, (s4.trans d3).sk1, fun q => absurd q (by simp), fun _ => d5 rfl⟩
      · unfold Sentence_readCompare
        simp only [↓reduceIte, e1', s1, d1', Option.bind_some, Bool.false_eq_true]
      · simp only [↓reduceIte, s2, d2', Option.bind_some, Bool.false_eq_true]
    | true =>
      obtain ⟨x, t3, x1, x2, x3, x4, x5⟩ := d4 rfl
      have h2 := h.kp ha (s4.trans d3) x5
      have hw := addI_W (I := I3) (s := s) (x := nI u) (y := nI t.1) (z := nI x) (show 1 ≤ a by omega)
      have hg := sayI_g (I' := I3') (s := s) (x := nI (50 + u)) (y := 0) (z := nI x) (u := nI t.1)
      have pu := h2.push (x := nI u) (y := nI t.1) (z := nI x) (x' := nI (50 + u)) (y' := 0) (z' := nI x) (u' := nI t.1) (K := L) ha hs (by omega) (Or.inl ⟨Or.inr (Or.inr ⟨u, t.1, x, hu, hu2, c, x2, hw.1, hg.1, hw.2.1, hg.2.2.2.1, hw.2.2.1, hg.2.2.1⟩), by omega, rfl⟩) (by simp only [List.length_cons]; omega)
      have ad := add_e (x := nI u) (y := nI t.1) (z := nI x) h2.2.2.1 (show s < 40 by omega)
      have sy := says_e (x := nI (50 + u)) (y := 0) (z := nI x) (u := nI t.1) h2.2.2.2.1 (show s < 40 by omega)
      refine ⟨true, addI a s (nI u) (nI t.1) (nI x) I3, J3, up2 (sayI s (nI (50 + u)) 0 (nI x) (nI t.1) I3') 204 45 (nI s), J3', ?_, md _ ?_, ⟨fun y j w1 w2 w3 => (addI_o (by omega) (by omega)).trans ((s4.trans d3).1 y j w1), (s4.trans d3).2.1, fun y j w1 w2 => (up2_ff (by omega)).trans ((sayI_o (by omega) (by omega)).trans ((s4.trans d3).2.2.1 y j (by omega))), (s4.trans d3).2.2.2⟩, fun _ => ⟨_, t3, pu.up45, u_s⟩, fun q => absurd q (by simp)⟩
      · unfold Sentence_readCompare
        simp only [↓reduceIte, e1'', s1, d1', sb9, x3, ad, Option.bind_some]
      · simp only [↓reduceIte, s2, d2', x4, sg, k50, sy, Option.bind_some]
  · obtain ⟨I2, I2', f1, f2, f3, f4⟩ := fail_q h.1 (k := 1) (fun _ => rfl)
    have f1' : Tape_fail 1 1 I = some (false, I2) := f1
    have f2' : Mod_bad 1 I' = some (false, I2') := f2
    have e1' : Tape_isCompare (I 1 9) = false := by
      rw [e1, decide_eq_false (by omega), decide_eq_false (by omega), decide_eq_false (by omega)]; rfl
    rw [decide_eq_false (by omega)] at g60 g61 g62
    refine ⟨false, I2, J, I2', J', ?_, ?_, f4.sk1, fun q => absurd q (by simp), fun _ => f3⟩
    · unfold Sentence_readCompare
      simp only [↓reduceIte, e1', f1', Option.bind_some, Bool.false_eq_true]
    · unfold Mod_readCompare
      simp only [↓reduceIte, g60, g61, g62, f2', Option.bind_some, Bool.false_eq_true]
theorem SnS.one (ha : 45 ≤ a) (h : SnS a ln nP nF w s o L i t I J I' J') (ho : o < 20) : SnS a ln nP nF (w + 1) s (o + 1) L i t (up2 I a 5 (nI (o + 1))) J (up2 (up2 I' 204 43 (nI (o + 1))) 204 44 (nI (w + 1))) J' := by
  obtain ⟨h1, h2, h3, h4, h5, h6, h7, h8, h9, h10, h11⟩ := h
  have hl := h2.2.1
  refine ⟨((h1.upI (by omega) (by omega) (by omega)).upM (by omega) (by omega)).upM (by omega) (by omega), h2.to3 (fun j => by rw [u_o (by omega)]) (fun _ _ _ => rfl) (fun j => by rw [u_o (by omega), u_o (by omega)]) (fun _ => rfl), by rw [u_j (by omega)]; exact h3, by rw [u_j (by omega), u_j (by omega)]; exact h4, u_s, by rw [u_j (by omega), u_s], u_s, by omega, by omega, by omega, ?_⟩
  rw [u_o (by omega), u_o (by omega), u_o (by omega), u_o (by omega), u_o (by omega)]
  exact h11
theorem SnS.back {w2 : Nat} (h : SnS a ln nP nF w s o L i t I J I' J') : SnS a ln nP nF w2 s o L i t I J (up2 I' 204 44 (nI w2)) J' := by
  obtain ⟨h1, h2, h3, h4, h5, h6, h7, h8, h9, h10, h11⟩ := h
  refine ⟨h1.upM (by omega) (by omega), h2.to3 (fun _ => rfl) (fun _ _ _ => rfl) (fun j => by rw [u_o (by omega)]) (fun _ => rfl), h3, by rw [u_j (by omega)]; exact h4, h5, by rw [u_j (by omega)]; exact h6, u_s, h8, h9, h10, ?_⟩
  rw [u_o (by omega)]
  exact h11
end Q75

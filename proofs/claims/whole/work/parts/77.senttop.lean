/-! a sentence is read and kept: both sides -/
section Q77
variable {N a b ln sp sn ss nP nF nE nW nH nR : Nat} {I I' : FI} {J J' : FJ} {t : Nat × Nat × List Nat} {i s o w : Nat} {L : List Nat}
theorem L_240 : (240 : Int32) = nI 240 := id rfl
theorem sc_e {I : FI} {J : FJ} (hN : 2000 ≤ N) : Mod_sentence_79 N N 0 I J = some (I 204 43, cp2 I 224 0 206 211 240, J) := by
  have key : ∀ m k n, k + m = 240 → m < n → Mod_sentence_79 N n (nI k) (cp2 I 224 0 206 211 k) J = some (I 204 43, cp2 I 224 0 206 211 240, J) := by
    intro m
    induction m with
    | zero =>
      intro k n hk hn
      obtain ⟨n, rfl⟩ : ∃ e, n = e + 1 := ⟨n - 1, by omega⟩
      obtain rfl : k = 240 := by omega
      simp (disch := omega) only [Mod_sentence_79, L_240, le_nI, ifT, cp2_o]
    | succ m ih =>
      intro k n hk hn
      obtain ⟨n, rfl⟩ : ∃ e, n = e + 1 := ⟨n - 1, by omega⟩
      have h1 := ih (k + 1) n (by omega) (by omega)
      have e := cp2_s (f := I) (s := 224) (sp := 0) (d := 206) (dp := 211) (k := k)
      try simp only [Nat.zero_add] at e
      simp (disch := omega) only [Mod_sentence_79, L_240, ax_211, le_nI, ifF, ifT, in9_t, if_true, tN, nS, Option.bind_some, cp2_o, cp2_j, e]
      exact h1
  have := key 240 0 N (by omega) (by omega)
  rw [cp2_0] at this
  exact this
/-- a sentence that is kept: its steps at a, its nodes in the model's numbers w -/
def SentS (nP a s o r : Nat) (I : FI) (w : Nat → Int32) : Prop := I a 4 = nI s ∧ I a 5 = nI o ∧ 1 ≤ o ∧ s ≤ 40 ∧ w 209 = nI 1 ∧ w 210 = nI r ∧ StkR nP (I (a + 1)) (I (a + 2)) (I (a + 3)) (fun j => w (211 + j)) s [r]
def SentR (nP a : Nat) (I : FI) (w : Nat → Int32) : Prop := (I a 5 = nI 0 ∧ w 209 = nI 0) ∨ ∃ s o r, o ≤ 20 ∧ SentS nP a s o r I w
theorem sent_q (hN : 2000 ≤ N) (ha : 45 ≤ a) (ha2 : a ≤ 50) (hn : NmR ln nP nF I J I' J') {n0 : Nat} (hT : TapeR I I' n0) (hW : WordsJ J) : ∃ v x I1 J1 I1' J1', Sentence_read N a 1 ln I J = some (v, I1, J1) ∧ Mod_sentence N I' J' = some (x, I1', J1') ∧ I1 1 14 = I1' 204 10 ∧ I1' 204 2 = nI 0 ∧ (∀ j, j < 209 → I1' 206 j = I' 206 j) ∧ (v = true → x = I1 a 5 ∧ SentR nP a I1 (I1' 206)) ∧ (v = false → x = (-1) - (I1 1 15) ∧ ∀ j, I1' 206 j = I' 206 j) := by
  have hT2 : TapeR (up2 (up2 I a 4 0) a 5 0) I' n0 := by
    obtain ⟨t1, t2, t3, t4, t5⟩ := hT
    exact ⟨t1, by rw [u_o (by omega), u_o (by omega)]; exact t2, t3, fun i hi => by rw [u_o (by omega), u_o (by omega)]; exact t4 i hi, t5⟩
  obtain ⟨t, I1, J1, I1', J1', b1, b2, b3, b4, b5, b6, b7, b8, b9⟩ := begin_q (m := 200) hN (by omega) hW hT2
  have b1' : Tape_begin N 1 200 (up2 (up2 I a 4 0) a 5 0) J = some (I1, J1) := b1
  have b2' : Mod_begin N 200 I' J' = some (I1', J1') := b2
  have hl := hn.2.1
  have nm : NmR ln nP nF I1 J1 (up2 (up2 (up2 I1' 204 42 0) 204 43 0) 204 44 0) J1' := hn.to3 (fun j => by rw [b6 _ _ (by have := hn.1; omega) (by have := hn.1; omega) (by have := hn.1; omega), u_o (by omega), u_o (by omega)]) (fun x j hx => b7 x j (by omega) (by omega)) (fun j => by rw [u_o (by omega), u_o (by omega), u_o (by omega), b8 _ _ (by omega)]) (fun j => b9 _ _ (by omega))
  have st : SnS a ln nP nF 0 0 0 [] 0 t I1 J1 (up2 (up2 (up2 I1' 204 42 0) 204 43 0) 204 44 0) J1' := by
    refine ⟨((b3.upM (by omega) (by omega)).upM (by omega) (by omega)).upM (by omega) (by omega), nm, ?_, ?_, ?_, ?_, ?_, by omega, by omega, by simp, rfl⟩
    · rw [b6 _ _ (by omega) (by omega) (by omega), u_j (by omega), u_s]; rfl
    · rw [u_j (by omega), u_j (by omega), u_s]; rfl
    · rw [b6 _ _ (by omega) (by omega) (by omega), u_s]; rfl
    · rw [u_j (by omega), u_s]; rfl
    · rw [u_s]; rfl
  obtain ⟨v, I2, J2, I2', J2', a1, a2, a3, a4, a5⟩ := conds_q hN ha (alls_q hN ha (ones_q (nP := nP) (nF := nF) (ln := ln) hN ha dK 0 (by omega) (by show 9 ≤ 0 + 64; omega))) _ _ _ _ _ _ _ _ _ st
  have a1' : Sentence_readCond (Sentence_readOne_R N dK) N a 1 ln 1 I1 J1 = some (v, I2, J2) := a1
  have fr6 : ∀ j, I2' 206 j = I' 206 j := fun j => by rw [a3.2.2.1 _ _ (by omega) (by omega), u_o (by omega), u_o (by omega), u_o (by omega), b8 _ _ (by omega)]
  have fr2 : I2' 204 2 = nI 0 := by rw [a3.2.2.1 _ _ (by omega) (by omega), u_j (by omega), u_j (by omega), u_j (by omega)]; exact b4
  cases v with
  | false =>
    obtain ⟨f1, q, f2, f3, f4⟩ := a5 rfl
    refine ⟨false, (-1) - I2' 204 11, I2, J2, I2', J2', ?_, ?_, f1, fr2, fun j _ => fr6 j, fun q => absurd q (by simp), fun _ => ⟨by rw [f3, f4], fr6⟩⟩
    · unfold Sentence_read Sentence_clear
      simp only [↓reduceIte, b1', a1', Option.bind_some, Bool.false_eq_true]
    · unfold Mod_sentence
      simp only [↓reduceIte, b2', a2, Option.bind_some, Bool.false_eq_true]
  | true =>
    obtain ⟨s1, o1, r, i1, t1, c1, c2, c3, c4⟩ := a4 rfl
    have hO := c1.1.ok
    have e0 : (I2 1 9 = (0 : Int32)) = (t1.1 = 0) := sign_b c1.1.curB hO (s := 0) (by omega)
    have k0 : (I2' 204 7 = (0 : Int32)) = (mk t1.1 = 0) := kind_e c1.1.curM (k := 0) (by omega)
    by_cases z : t1.1 = 0
    · have y0 : (t1.1 = 0) = True := eq_true z
      have y1 : (mk t1.1 = 0) = True := eq_true (mk_0.mpr z)
      have hz : I2 1 14 = nI 0 ∧ I2' 204 10 = nI 0 := by obtain ⟨cc, n, LL, x1, x2, x3, x4, x5, x6, x7, x8⟩ := c1.1; exact ⟨x7, x8⟩
      obtain ⟨-, d2, d3, d4, d5, d6, d7, d8, d9, d10, d11⟩ := c1
      have T209 : (209 : Int32).toNatClampNeg = 209 := T_209
      have e45 : ∀ v, up2 I2' 206 209 v 204 45 = I2' 204 45 := fun v => by rw [u_o (by omega)]
      obtain ⟨M, hM⟩ : ∃ M, M = up2 (up2 I2' 206 209 1) 206 210 (nI r) := ⟨_, rfl⟩
      have M204 : ∀ j, M 204 j = I2' 204 j := fun j => by rw [hM, u_o (by omega), u_o (by omega)]
      have M224 : ∀ j, M 224 j = I2' 224 j := fun j => by rw [hM, u_o (by omega), u_o (by omega)]
      have sc := sc_e (N := N) (I := M) (J := J2') hN
      refine ⟨true, nI o1, I2, J2, cp2 M 224 0 206 211 240, J2', ?_, ?_, ?_, ?_, fun j hj => ?_, fun _ => ⟨d5.symm, Or.inr ⟨s1, o1, r, d9, d3, d5, by omega, by omega, ?_, ?_, ?_⟩⟩, fun q => absurd q (by simp)⟩
      · unfold Sentence_read Sentence_clear
        simp only [↓reduceIte, b1', a1', e0, y0, Option.bind_some]
      · unfold Mod_sentence
        simp only [↓reduceIte, b2', a2, k0, y1, T_209, T_210, e45, c2, Option.bind_some]
        rw [← hM, sc, M204, d6]
      · rw [cp2_o (by omega), M204, hz.1, hz.2]
      · rw [cp2_o (by omega), M204]; exact fr2
      · rw [cp2_j (by omega), hM, u_j (by omega), u_j (by omega)]; exact fr6 j
      · rw [cp2_j (by omega), hM, u_j (by omega), u_s]; rfl
      · rw [cp2_j (by omega), hM, u_s]
      · exact d11.to s1 [r] (fun j _ => ⟨rfl, rfl, rfl⟩) (fun j hj => by
          show cp2 M 224 0 206 211 240 206 (211 + j) = _
          rw [cp2_i (by omega) (by omega), show 0 + (211 + j - 211) = j by omega, M224])
    · have y0 : (t1.1 = 0) = False := eq_false z
      have y1 : (mk t1.1 = 0) = False := eq_false (fun q => z (mk_0.mp q))
      obtain ⟨I3, I3', f1, f2, ⟨f3, q, f5, f6, f7⟩, f4⟩ := fail_q c1.1 (k := 1) (fun _ => rfl)
      have f1' : Tape_fail 1 1 I2 = some (false, I3) := f1
      have f2' : Mod_bad 1 I2' = some (false, I3') := f2
      refine ⟨false, (-1) - I3' 204 11, I3, J2, I3', J2', ?_, ?_, f3, ?_, fun j _ => ?_, fun q => absurd q (by simp), fun _ => ⟨by rw [f6, f7], fun j => ?_⟩⟩
      · unfold Sentence_read Sentence_clear
        simp only [↓reduceIte, b1', a1', e0, y0, f1', Option.bind_some, Bool.false_eq_true]
      · unfold Mod_sentence
        simp only [↓reduceIte, b2', a2, k0, y1, f2', Option.bind_some]
      · rw [f4.2.2.1 _ _ (by omega)]; exact fr2
      · rw [f4.2.2.1 _ _ (by omega)]; exact fr6 j
      · rw [f4.2.2.1 _ _ (by omega)]; exact fr6 j
end Q77

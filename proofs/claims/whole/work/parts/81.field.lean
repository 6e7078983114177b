/-! a field's text is read: both sides, first things -/
def onM : List Nat := [0, 25, 13, 14, 15, 1, 2, 3, 4, 5, 6, 7, 8, 9, 10, 11, 12, 16, 17, 18, 19, 20, 21, 22, 23, 24]
theorem onM_lt : ∀ q, q < 26 → onM.getD q 0 < 26 := by decide
theorem onM_dis : ∀ q, q < 26 → ∀ p, p < 26 → onM.getD q 0 = onM.getD p 0 → q = p := by decide
section Q81
variable {N a b ln sp sn ss nP nF nE nW nH nR : Nat} {I I' : FI} {J J' : FJ} {t : Nat × Nat × List Nat} {m i k : Nat}
/-- a land as it is read, alike on both sides -/
def FdR (a nP nF nE nW nH nR : Nat) (I : FI) (J : FJ) (I' : FI) (J' : FJ) : Prop := LW (I' 207) nP nF nE nW nH nR ∧ LdR a nF nE I (I' 207) ∧ (∀ f, nF ≤ f → f < 10 → I' 207 (40 + f) = nI 0 ∧ I' 207 (50 + f) = nI 0) ∧ (∀ q, q < 26 → (bt (I a 15) q = true ∧ I' 215 (onM.getD q 0) = nI 1) ∨ (bt (I a 15) q = false ∧ I' 215 (onM.getD q 0) = nI 0)) ∧ (∀ k, k < nP → ∃ L, WordR (J (a + 1) k) (J' 212 (0 + k)) L) ∧ (∀ k, k < nF → ∃ L, WordR (J (a + 2) k) (J' 212 (6 + k)) L) ∧ (∀ k, k < nE → ∃ L, WordR (J (a + 3) k) (J' 212 (16 + k)) L)
theorem LdR.of2 {nF nE : Nat} {I1 : FI} {w w1 : Nat → Int32} (h : LdR a nF nE I w) (hF : nF ≤ 10) (hE : nE ≤ 6) (h1 : ∀ q j, a ≤ q → q ≤ a + 8 → ¬ (q = a ∧ (j = 14 ∨ j = 15)) → I1 q j = I q j) (h2 : ∀ j, j < 102 → w1 j = w j) : LdR a nF nE I1 w1 := by
  obtain ⟨⟨l1, l2, l3, l4, l5, l6⟩, hh, hp, hg, hf, he⟩ := h
  refine ⟨⟨?_, ?_, ?_, ?_, ?_, ?_⟩, fun k hk => ?_, fun k hk => ?_, fun k hk => ?_, fun f hf2 => ?_, fun k hk => ?_⟩
  · rw [h1 _ _ (by omega) (by omega) (by omega), h2 _ (by omega)]; exact l1
  · rw [h1 _ _ (by omega) (by omega) (by omega), h2 _ (by omega)]; exact l2
  · rw [h1 _ _ (by omega) (by omega) (by omega), h2 _ (by omega)]; exact l3
  · rw [h1 _ _ (by omega) (by omega) (by omega), h2 _ (by omega)]; exact l4
  · rw [h1 _ _ (by omega) (by omega) (by omega), h2 _ (by omega)]; exact l5
  · rw [h1 _ _ (by omega) (by omega) (by omega), h2 _ (by omega)]; exact l6
  · rw [h1 _ _ (by omega) (by omega) (by omega), h2 _ (by omega)]; exact hh k hk
  · rw [h1 _ _ (by omega) (by omega) (by omega), h2 _ (by omega)]; exact hp k hk
  · rw [h1 _ _ (by omega) (by omega) (by omega), h2 _ (by omega)]; exact hg k hk
  · have e := hf f hf2
    rw [h1 _ _ (by omega) (by omega) (by omega), h1 _ _ (by omega) (by omega) (by omega), h1 _ _ (by omega) (by omega) (by omega), h1 _ _ (by omega) (by omega) (by omega), h1 _ _ (by omega) (by omega) (by omega), h1 _ _ (by omega) (by omega) (by omega), h2 _ (by omega), h2 _ (by omega), h2 _ (by omega), h2 _ (by omega), h2 _ (by omega), h2 _ (by omega)]
    exact e
  · have e := he k hk
    rw [h1 _ _ (by omega) (by omega) (by omega), h1 _ _ (by omega) (by omega) (by omega), h2 _ (by omega), h2 _ (by omega)]
    exact e
/-- what reading a field may touch -/
def KpF (a : Nat) (I : FI) (J : FJ) (I' : FI) (J' : FJ) (I1 : FI) (J1 : FJ) (I1' : FI) (J1' : FJ) : Prop := (∀ x j, ¬ (x = 1 ∧ 8 ≤ j ∧ j ≤ 15) → ¬ (a ≤ x ∧ x ≤ a + 8) → I1 x j = I x j) ∧ (∀ x j, ¬ (x = 1 ∧ j = 10) → ¬ (a ≤ x ∧ x ≤ a + 8) → J1 x j = J x j) ∧ (∀ x j, ¬ (x = 204 ∧ 5 ≤ j ∧ j ≤ 13) → x ≠ 207 → x ≠ 215 → I1' x j = I' x j) ∧ (∀ x j, ¬ (x = 204 ∧ j = 12) → x ≠ 212 → J1' x j = J' x j)
theorem KpF.rfl : KpF a I J I' J' I J I' J' := ⟨fun _ _ _ _ => Eq.refl _, fun _ _ _ _ => Eq.refl _, fun _ _ _ _ _ => Eq.refl _, fun _ _ _ _ => Eq.refl _⟩
theorem KpF.trans {I1 I1' I2 I2' : FI} {J1 J1' J2 J2' : FJ} (h : KpF a I J I' J' I1 J1 I1' J1') (g : KpF a I1 J1 I1' J1' I2 J2 I2' J2') : KpF a I J I' J' I2 J2 I2' J2' := ⟨fun x j w u => (g.1 x j w u).trans (h.1 x j w u), fun x j w u => (g.2.1 x j w u).trans (h.2.1 x j w u), fun x j w u z => (g.2.2.1 x j w u z).trans (h.2.2.1 x j w u z), fun x j w u => (g.2.2.2 x j w u).trans (h.2.2.2 x j w u)⟩
theorem Kp.f {I1 I1' : FI} {J1 J1' : FJ} (h : Kp I J I' J' I1 J1 I1' J1') : KpF a I J I' J' I1 J1 I1' J1' := ⟨fun x j w _ => h.1 x j w, fun x j w _ => h.2.1 x j w, fun x j w _ _ => h.2.2.1 x j w, fun x j w _ => h.2.2.2 x j w⟩
theorem FdR.kp {I1 I1' : FI} {J1 J1' : FJ} (ha : 6 ≤ a) (h : FdR a nP nF nE nW nH nR I J I' J') (g : Kp I J I' J' I1 J1 I1' J1') : FdR a nP nF nE nW nH nR I1 J1 I1' J1' := by
  obtain ⟨h1, h2, h3, h4, h5, h6, h7⟩ := h
  have e7 : I1' 207 = I' 207 := funext (fun j => g.2.2.1 _ _ (by omega))
  have e5 : I1' 215 = I' 215 := funext (fun j => g.2.2.1 _ _ (by omega))
  have eJ : J1' 212 = J' 212 := funext (fun j => g.2.2.2 _ _ (by omega))
  unfold FdR
  rw [e7, e5, eJ, g.1 a 15 (by omega)]
  refine ⟨h1, h2.of2 h1.2.1.2 h1.2.2.1.2 (fun q j a b _ => g.1 _ _ (by omega)) (fun _ _ => rfl), h3, h4, fun k hk => ?_, fun k hk => ?_, fun k hk => ?_⟩
  · rw [g.2.1 _ _ (by omega)]; exact h5 k hk
  · rw [g.2.1 _ _ (by omega)]; exact h6 k hk
  · rw [g.2.1 _ _ (by omega)]; exact h7 k hk
theorem once_q (hN : 2000 ≤ N) (ha : 6 ≤ a) (h : At m i t I J I' J') (hf : FdR a nP nF nE nW nH nR I J I' J') {q : Nat} (hq : q < 26) (ht : 2 < t.1) : ∃ v I1 J1 I1' J1', Land_takeOnce a 1 (nI q) I J = some (v, I1, J1) ∧ Mod_isFresh N (nI (onM.getD q 0)) I' J' = some (v, I1', J1') ∧ KpF a I J I' J' I1 J1 I1' J1' ∧ (v = true → ∃ t', At m (i + 1) t' I1 J1 I1' J1' ∧ FdR a nP nF nE nW nH nR I1 J1 I1' J1') ∧ (v = false → FlR I1 I1') := by
  have hm := onM_lt q hq
  have g1 : in9 (nI (onM.getD q 0)) 64 = True := in9_t (by omega) (by omega)
  have g2 : (nI (onM.getD q 0)).toNatClampNeg = onM.getD q 0 := tN (by omega)
  have bq : ((((I a 15) >>> (nI q &&& 31)) &&& 1) = 1) = (bt (I a 15) q = true) := b_has (by omega)
  obtain ⟨h1, h2, h3, h4, h5, h6, h7⟩ := hf
  unfold Land_takeOnce Mod_isFresh
  rcases h4 q hq with ⟨x1, x2⟩ | ⟨x1, x2⟩
  · obtain ⟨I1, I1', f1, f2, f3, f4⟩ := fail_q h (k := 3) (by omega)
    have f1' : Tape_fail 1 3 I = some (false, I1) := f1
    have f2' : Mod_bad 3 I' = some (false, I1') := f2
    have y1 : (bt (I a 15) q = true) = True := eq_true x1
    have y2 : (nI 1 = (0 : Int32)) = False := eq_false (by decide)
    refine ⟨false, I1, J, I1', J', ?_, ?_, f4.f, fun z => absurd z (by simp), fun _ => f3⟩
    · simp only [↓reduceIte, bq, y1, f1', Option.bind_some]
    · simp only [↓reduceIte, g1, g2, x2, y2, f2', Option.bind_some]
  · have y1 : (bt (I a 15) q = true) = False := eq_false (by rw [x1]; simp)
    have y2 : (nI 0 = (0 : Int32)) = True := eq_true rfl
    obtain ⟨t1, I1, J1, I1', J1', s1, s2, s3, s4, s5, s6⟩ := next_q hN (h.congr (I1 := up2 I a 15 ((I a 15) ||| (1 <<< (nI q &&& 31)))) (I1' := up2 I' 215 (onM.getD q 0) (vp_nar .boolean 1)) (fun x j w => by rw [u_o (by omega)]) (fun _ _ _ => rfl) (fun x j w => by rw [u_o (by omega)]) rfl) (by omega)
    have fd : FdR a nP nF nE nW nH nR (up2 I a 15 ((I a 15) ||| (1 <<< (nI q &&& 31)))) J (up2 I' 215 (onM.getD q 0) (vp_nar .boolean 1)) J' := by
      refine ⟨by rw [u_o (by omega)]; exact h1, by rw [u_o (by omega)]; exact h2.of2 h1.2.1.2 h1.2.2.1.2 (fun x j _ _ w => up2_ff (by omega)) (fun _ _ => rfl), by rw [u_o (by omega)]; exact h3, fun p hp => ?_, h5, h6, h7⟩
      rw [u_s, b_or, b_one (by omega) (by omega)]
      by_cases e : p = q
      · rw [e, x1, decide_eq_true rfl, u_s]
        exact Or.inl ⟨rfl, by decide⟩
      · rw [decide_eq_false e, Bool.or_false, u_j (fun z => e (onM_dis p hp q hq z))]
        exact h4 p hp
    refine ⟨true, I1, J1, I1', J1', ?_, ?_, KpF.trans ⟨fun x j w1 w2 => up2_ff (by omega), fun _ _ _ _ => rfl, fun x j w1 w2 w3 => up2_ff (by omega), fun _ _ _ _ => rfl⟩ s4.f, fun _ => ⟨t1, s3, fd.kp ha s4⟩, fun z => absurd z (by simp)⟩
    · simp only [↓reduceIte, bq, y1, s1, Option.bind_some]
    · simp only [↓reduceIte, g1, g2, x2, y2, s2, Option.bind_some]
/-- a new name, where there is room for it -/
theorem reach_q (hN : 2000 ≤ N) (ha : 6 ≤ a) (h : At m i t I J I' J') (hf : FdR a nP nF nE nW nH nR I J I' J') (ht : 2 ≤ t.1) {slot : Nat} (hsl : slot < 22) : ∃ v I1 J1 I1' J1' X Y, Land_reachNewName N a 1 true I J = some (v, I1, J1) ∧ Mod_go N I' J' = some (X, Y) ∧ Mod_readNew N (nI slot) X Y = (if v = true then (Option.bind (Mod_go N I1' (up2 J1' 212 slot (J1' 204 12))) fun x8 => (some (true, x8.1, x8.2))) else some (false, I1', J1')) ∧ X 207 = I' 207 ∧ Kp I J I' J' I1 J1 I1' J1' ∧ (v = true → ∃ t', At m (i + 1) t' I1 J1 I1' J1' ∧ t'.1 = 3) ∧ (v = false → FlR I1 I1') := by
  obtain ⟨t1, I1, J1, I1', J1', s1, s2, s3, s4, s5, s6⟩ := next_q hN h ht
  obtain ⟨h1, h2, h3, h4, h5, h6, h7⟩ := hf.kp ha s4
  have n1 := isName_b s3.curB s3.ok
  have n2 := isName_m hN s3.curM s3.ok
  have hP := h1.1.2
  have hF := h1.2.1.2
  have hE := h1.2.2.1.2
  have k0 : I1' 207 0 = nI nP := h1.1.1
  have k1 : I1' 207 1 = nI nF := h1.2.1.1
  have k2 : I1' 207 2 = nI nE := h1.2.2.1.1
  have b0 : I1 a 11 = nI nP := h2.1.1.trans k0
  have b1 : I1 a 12 = nI nF := h2.1.2.1.trans k1
  have b2 : I1 a 13 = nI nE := h2.1.2.2.1.trans k2
  have x7 : I1' 207 = I' 207 := funext (fun j => s4.2.2.1 _ _ (by omega))
  have gs : in9 (nI slot) 22 = True := in9_t (by omega) (by omega)
  have ts : (nI slot).toNatClampNeg = slot := tN (by omega)
  unfold Land_reachNewName Land_personNamed Land_findNamed
  by_cases c : t1.1 = 3
  · rw [decide_eq_true c] at n1 n2
    have wd := s3.word c
    obtain ⟨v1, p1, p2, p3⟩ := find_q (N := N) (A := a + 1) (B := 212) (n0 := 6) (base := 0) (n := nP) (J := J1) (J' := J1') hN hP (by omega) (by omega) h5 wd
    obtain ⟨v2, q1, q2, q3⟩ := find_q (N := N) (A := a + 2) (B := 212) (n0 := 10) (base := 6) (n := nF) (J := J1) (J' := J1') hN hF (by omega) (by omega) h6 wd
    obtain ⟨v3, r1, r2, r3⟩ := find_q (N := N) (A := a + 3) (B := 212) (n0 := 6) (base := 16) (n := nE) (J := J1) (J' := J1') hN hE (by omega) (by omega) h7 wd
    have p2' : Mod_findIn N 212 22 0 (nI nP) (J1' 204 12) J1' = some v1 := p2
    have q2' : Mod_findIn N 212 22 6 (nI nF) (J1' 204 12) J1' = some v2 := q2
    have r2' : Mod_findIn N 212 22 16 (nI nE) (J1' 204 12) J1' = some v3 := r2
    obtain ⟨I2, I2', f1, f2, f3, f4⟩ := fail_q s3 (k := 3) (by omega)
    have f1' : Tape_fail 1 3 I1 = some (false, I2) := f1
    have f2' : Mod_bad 3 I1' = some (false, I2') := f2
    have no : ∀ {n : Nat} {v : Int32}, n ≤ 10 → (v = -1 ∨ ∃ j, j < n ∧ v = nI j) → ((0 ≤ v) = True ∧ (v = -1) = False ∧ (v < 0) = False) ∨ ((0 ≤ v) = False ∧ (v = -1) = True ∧ (v < 0) = True) := fun {n v} hn hv => by
      rcases hv with e | ⟨j, hj, e⟩
      · exact Or.inr ⟨by rw [e]; exact eq_false (by decide), eq_true e, by rw [e]; exact eq_true (by decide)⟩
      · exact Or.inl ⟨by rw [e, L_0, le_nI (by omega) (by omega)]; exact eq_true (Nat.zero_le _), by rw [e]; exact propext (nI_ne1 (by omega)), by rw [e, L_0, lt_nI (by omega) (by omega)]; exact eq_false (by omega)⟩
    rcases no (by omega) p3 with ⟨y1, y2, y3⟩ | ⟨y1, y2, y3⟩
    · refine ⟨false, I2, J1, I2', J1', I1', J1', ?_, s2, ?_, x7, s4.trans f4, fun z => absurd z (by simp), fun _ => f3⟩
      · simp only [↓reduceIte, s1, n1, b0, p1, y1, f1', Option.bind_some, Bool.false_eq_true]
      · unfold Mod_readNew
        simp only [↓reduceIte, n2, T_0, k0, p2', y2, f2', Option.bind_some, Bool.false_eq_true]
    · rcases no (by omega) q3 with ⟨y4, y5, y6⟩ | ⟨y4, y5, y6⟩
      · refine ⟨false, I2, J1, I2', J1', I1', J1', ?_, s2, ?_, x7, s4.trans f4, fun z => absurd z (by simp), fun _ => f3⟩
        · simp only [↓reduceIte, s1, n1, b0, p1, y1, b1, q1, y4, f1', Option.bind_some, Bool.false_eq_true]
        · unfold Mod_readNew
          simp only [↓reduceIte, n2, T_0, T_1, k0, p2', y2, k1, q2', y5, f2', Option.bind_some, Bool.false_eq_true]
      · rcases no (by omega) r3 with ⟨y7, y8, y9⟩ | ⟨y7, y8, y9⟩
        · refine ⟨false, I2, J1, I2', J1', I1', J1', ?_, s2, ?_, x7, s4.trans f4, fun z => absurd z (by simp), fun _ => f3⟩
          · simp only [↓reduceIte, s1, n1, b0, p1, y1, b1, q1, y4, b2, r1, y9, f1', Option.bind_some, Bool.false_eq_true]
          · unfold Mod_readNew
            simp only [↓reduceIte, n2, T_0, T_1, T_2, k0, p2', y2, k1, q2', y5, k2, r2', y8, f2', Option.bind_some, Bool.false_eq_true]
        · refine ⟨true, I1, J1, I1', J1', I1', J1', ?_, s2, ?_, x7, s4, fun _ => ⟨t1, s3, c⟩, fun z => absurd z (by simp)⟩
          · simp only [↓reduceIte, s1, n1, b0, p1, y1, b1, q1, y4, b2, r1, y9, Option.bind_some]
          · unfold Mod_readNew
            simp only [↓reduceIte, n2, T_0, T_1, T_2, k0, p2', y2, k1, q2', y5, k2, r2', y8, gs, ts, Option.bind_some]
  · rw [decide_eq_false c] at n1 n2
    obtain ⟨I2, I2', f1, f2, f3, f4⟩ := fail_q s3 (k := 1) (fun _ => rfl)
    have f1' : Tape_fail 1 1 I1 = some (false, I2) := f1
    have f2' : Mod_bad 1 I1' = some (false, I2') := f2
    refine ⟨false, I2, J1, I2', J1', I1', J1', ?_, s2, ?_, x7, s4.trans f4, fun z => absurd z (by simp), fun _ => f3⟩
    · simp only [↓reduceIte, s1, n1, f1', Option.bind_some, Bool.false_eq_true]
    · unfold Mod_readNew
      simp only [↓reduceIte, n2, f2', Option.bind_some, Bool.false_eq_true]
end Q81

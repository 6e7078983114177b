/-! a field's lines that bring a name: both sides -/
section Q84
variable {N a b ln sp sn ss nP nF nE nW nH nR : Nat} {I I' : FI} {J J' : FJ} {t : Nat × Nat × List Nat} {m i k : Nat}
theorem FdR.person (ha : 6 ≤ a) (h : FdR a nP nF nE nW nH nR I J I' J') (hn : nP < 6) {I1 I1' : FI} {J1 J1' : FJ} {ux uy : Int64} {L : List Nat} (hw : WordR ux uy L) (fI : ∀ q j, a ≤ q → q ≤ a + 8 → ¬ (q = a ∧ (j = 11 ∨ j = 14 ∨ j = 15)) → I1 q j = I q j) (ic : I1 a 11 = nI (nP + 1)) (fJ : ∀ q j, a + 1 ≤ q → q ≤ a + 3 → ¬ (q = a + 1 ∧ j = nP) → J1 q j = J q j) (jc : J1 (a + 1) nP = ux) (fM : ∀ j, j < 102 → j ≠ 0 → I1' 207 j = I' 207 j) (mc : I1' 207 0 = nI (nP + 1)) (fK : ∀ j, j < 22 → j ≠ 0 + nP → J1' 212 j = J' 212 j) (kc : J1' 212 (0 + nP) = uy) (f5 : ∀ j, I1' 215 j = I' 215 j) (i15 : I1 a 15 = I a 15) : FdR a (nP + 1) nF nE nW nH nR I1 J1 I1' J1' := by
  obtain ⟨⟨c0, c1, c2, c3, c4, c5, vh, vp, vg, vf, vk⟩, ⟨⟨l11, l12, l13, l8, l9, l10⟩, hh, hp, hg, hf, he⟩, hz, ho, n1, n2, n3⟩ := h
  have hP6 := c0.2
  have hF10 := c1.2
  have hE6 := c2.2
  refine ⟨⟨?_, ?_, ?_, ?_, ?_, ?_, fun k hk => ?_, fun k hk => ?_, fun k hk => ?_, fun f hk => ?_, fun k hk => ?_⟩, ⟨⟨?_, ?_, ?_, ?_, ?_, ?_⟩, fun k hk => ?_, fun k hk => ?_, fun k hk => ?_, fun f hk => ?_, fun k hk => ?_⟩, fun f h1 h2 => ?_, fun q hq => ?_, fun k hk => ?_, fun k hk => ?_, fun k hk => ?_⟩
  · exact ⟨mc, by omega⟩
  · rw [fM _ (by omega) (by omega)]; exact c1
  · rw [fM _ (by omega) (by omega)]; exact c2
  · rw [fM _ (by omega) (by omega)]; exact c3
  · rw [fM _ (by omega) (by omega)]; exact c4
  · rw [fM _ (by omega) (by omega)]; exact c5
  · rw [fM _ (by omega) (by omega)]; exact vh k hk
  · rw [fM _ (by omega) (by omega)]; exact vp k hk
  · rw [fM _ (by omega) (by omega)]; exact vg k hk
  · rw [fM _ (by omega) (by omega), fM _ (by omega) (by omega), fM _ (by omega) (by omega), fM _ (by omega) (by omega), fM _ (by omega) (by omega), fM _ (by omega) (by omega)]; exact vf f hk
  · rw [fM _ (by omega) (by omega), fM _ (by omega) (by omega)]; exact vk k hk
  · rw [ic, mc]
  · rw [fI _ _ (by omega) (by omega) (by omega)]; rw [fM _ (by omega) (by omega)]; exact l12
  · rw [fI _ _ (by omega) (by omega) (by omega)]; rw [fM _ (by omega) (by omega)]; exact l13
  · rw [fI _ _ (by omega) (by omega) (by omega)]; rw [fM _ (by omega) (by omega)]; exact l8
  · rw [fI _ _ (by omega) (by omega) (by omega)]; rw [fM _ (by omega) (by omega)]; exact l9
  · rw [fI _ _ (by omega) (by omega) (by omega)]; rw [fM _ (by omega) (by omega)]; exact l10
  · rw [fI _ _ (by omega) (by omega) (by omega)]; rw [fM _ (by omega) (by omega)]; exact hh k hk
  · rw [fI _ _ (by omega) (by omega) (by omega)]; rw [fM _ (by omega) (by omega)]; exact hp k hk
  · rw [fI _ _ (by omega) (by omega) (by omega)]; rw [fM _ (by omega) (by omega)]; exact hg k hk
  · rw [fI _ _ (by omega) (by omega) (by omega), fI _ _ (by omega) (by omega) (by omega), fI _ _ (by omega) (by omega) (by omega), fI _ _ (by omega) (by omega) (by omega), fI _ _ (by omega) (by omega) (by omega), fI _ _ (by omega) (by omega) (by omega)]; rw [fM _ (by omega) (by omega), fM _ (by omega) (by omega), fM _ (by omega) (by omega), fM _ (by omega) (by omega), fM _ (by omega) (by omega), fM _ (by omega) (by omega)]; exact hf f hk
  · rw [fI _ _ (by omega) (by omega) (by omega), fI _ _ (by omega) (by omega) (by omega)]; rw [fM _ (by omega) (by omega), fM _ (by omega) (by omega)]; exact he k hk
  · rw [fM _ (by omega) (by omega), fM _ (by omega) (by omega)]; exact hz f (by omega) h2
  · rw [i15, f5]; exact ho q hq
  · by_cases e : k = nP
    · rw [e, jc, kc]; exact ⟨L, hw⟩
    · rw [fJ _ _ (by omega) (by omega) (by omega), fK _ (by omega) (by omega)]; exact n1 k (by omega)
  · rw [fJ _ _ (by omega) (by omega) (by omega), fK _ (by omega) (by omega)]; exact n2 k hk
  · rw [fJ _ _ (by omega) (by omega) (by omega), fK _ (by omega) (by omega)]; exact n3 k hk
theorem FdR.fear (ha : 6 ≤ a) (h : FdR a nP nF nE nW nH nR I J I' J') (hn : nE < 6) {I1 I1' : FI} {J1 J1' : FJ} {ux uy : Int64} {L : List Nat} (hw : WordR ux uy L) (fI : ∀ q j, a ≤ q → q ≤ a + 8 → ¬ (q = a ∧ (j = 13 ∨ j = 14 ∨ j = 15)) → ¬ (q = a + 5 ∧ (j = 2 * nE ∨ j = 2 * nE + 1)) → I1 q j = I q j) (ic : I1 a 13 = nI (nE + 1)) (fJ : ∀ q j, a + 1 ≤ q → q ≤ a + 3 → ¬ (q = a + 3 ∧ j = nE) → J1 q j = J q j) (jc : J1 (a + 3) nE = ux) (fM : ∀ j, j < 102 → j ≠ 2 → j ≠ 90 + nE → j ≠ 96 + nE → I1' 207 j = I' 207 j) (mc : I1' 207 2 = nI (nE + 1)) (fK : ∀ j, j < 22 → j ≠ 16 + nE → J1' 212 j = J' 212 j) (kc : J1' 212 (16 + nE) = uy) {y0 y1 : Nat} (b0 : y0 ≤ 999) (b1 : y1 ≤ 999) (i0 : I1 (a + 5) (2 * nE) = nI y0) (i1 : I1 (a + 5) (2 * nE + 1) = nI y1) (m0 : I1' 207 (90 + nE) = nI y0) (m1 : I1' 207 (96 + nE) = nI y1) (f5 : ∀ j, I1' 215 j = I' 215 j) (i15 : I1 a 15 = I a 15) : FdR a nP nF (nE + 1) nW nH nR I1 J1 I1' J1' := by
  obtain ⟨⟨c0, c1, c2, c3, c4, c5, vh, vp, vg, vf, vk⟩, ⟨⟨l11, l12, l13, l8, l9, l10⟩, hh, hp, hg, hf, he⟩, hz, ho, n1, n2, n3⟩ := h
  have hP6 := c0.2
  have hF10 := c1.2
  have hE6 := c2.2
  refine ⟨⟨?_, ?_, ?_, ?_, ?_, ?_, fun k hk => ?_, fun k hk => ?_, fun k hk => ?_, fun f hk => ?_, fun k hk => ?_⟩, ⟨⟨?_, ?_, ?_, ?_, ?_, ?_⟩, fun k hk => ?_, fun k hk => ?_, fun k hk => ?_, fun f hk => ?_, fun k hk => ?_⟩, fun f h1 h2 => ?_, fun q hq => ?_, fun k hk => ?_, fun k hk => ?_, fun k hk => ?_⟩
  · rw [fM _ (by omega) (by omega) (by omega) (by omega)]; exact c0
  · rw [fM _ (by omega) (by omega) (by omega) (by omega)]; exact c1
  · exact ⟨mc, by omega⟩
  · rw [fM _ (by omega) (by omega) (by omega) (by omega)]; exact c3
  · rw [fM _ (by omega) (by omega) (by omega) (by omega)]; exact c4
  · rw [fM _ (by omega) (by omega) (by omega) (by omega)]; exact c5
  · rw [fM _ (by omega) (by omega) (by omega) (by omega)]; exact vh k hk
  · rw [fM _ (by omega) (by omega) (by omega) (by omega)]; exact vp k hk
  · rw [fM _ (by omega) (by omega) (by omega) (by omega)]; exact vg k hk
  · rw [fM _ (by omega) (by omega) (by omega) (by omega), fM _ (by omega) (by omega) (by omega) (by omega), fM _ (by omega) (by omega) (by omega) (by omega), fM _ (by omega) (by omega) (by omega) (by omega), fM _ (by omega) (by omega) (by omega) (by omega), fM _ (by omega) (by omega) (by omega) (by omega)]; exact vf f hk
  · by_cases e : k = nE
    · rw [e]; exact ⟨⟨y0, by omega, m0⟩, ⟨y1, by omega, m1⟩⟩
    · rw [fM _ (by omega) (by omega) (by omega) (by omega), fM _ (by omega) (by omega) (by omega) (by omega)]; exact vk k hk
  · rw [fI _ _ (by omega) (by omega) (by omega) (by omega)]; rw [fM _ (by omega) (by omega) (by omega) (by omega)]; exact l11
  · rw [fI _ _ (by omega) (by omega) (by omega) (by omega)]; rw [fM _ (by omega) (by omega) (by omega) (by omega)]; exact l12
  · rw [ic, mc]
  · rw [fI _ _ (by omega) (by omega) (by omega) (by omega)]; rw [fM _ (by omega) (by omega) (by omega) (by omega)]; exact l8
  · rw [fI _ _ (by omega) (by omega) (by omega) (by omega)]; rw [fM _ (by omega) (by omega) (by omega) (by omega)]; exact l9
  · rw [fI _ _ (by omega) (by omega) (by omega) (by omega)]; rw [fM _ (by omega) (by omega) (by omega) (by omega)]; exact l10
  · rw [fI _ _ (by omega) (by omega) (by omega) (by omega)]; rw [fM _ (by omega) (by omega) (by omega) (by omega)]; exact hh k hk
  · rw [fI _ _ (by omega) (by omega) (by omega) (by omega)]; rw [fM _ (by omega) (by omega) (by omega) (by omega)]; exact hp k hk
  · rw [fI _ _ (by omega) (by omega) (by omega) (by omega)]; rw [fM _ (by omega) (by omega) (by omega) (by omega)]; exact hg k hk
  · rw [fI _ _ (by omega) (by omega) (by omega) (by omega), fI _ _ (by omega) (by omega) (by omega) (by omega), fI _ _ (by omega) (by omega) (by omega) (by omega), fI _ _ (by omega) (by omega) (by omega) (by omega), fI _ _ (by omega) (by omega) (by omega) (by omega), fI _ _ (by omega) (by omega) (by omega) (by omega)]; rw [fM _ (by omega) (by omega) (by omega) (by omega), fM _ (by omega) (by omega) (by omega) (by omega), fM _ (by omega) (by omega) (by omega) (by omega), fM _ (by omega) (by omega) (by omega) (by omega), fM _ (by omega) (by omega) (by omega) (by omega), fM _ (by omega) (by omega) (by omega) (by omega)]; exact hf f hk
  · by_cases e : k = nE
    · rw [e, i0, i1, m0, m1]; exact ⟨rfl, rfl⟩
    · rw [fI _ _ (by omega) (by omega) (by omega) (by omega), fI _ _ (by omega) (by omega) (by omega) (by omega)]; rw [fM _ (by omega) (by omega) (by omega) (by omega), fM _ (by omega) (by omega) (by omega) (by omega)]; exact he k (by omega)
  · rw [fM _ (by omega) (by omega) (by omega) (by omega), fM _ (by omega) (by omega) (by omega) (by omega)]; exact hz f (by omega) h2
  · rw [i15, f5]; exact ho q hq
  · rw [fJ _ _ (by omega) (by omega) (by omega), fK _ (by omega) (by omega)]; exact n1 k hk
  · rw [fJ _ _ (by omega) (by omega) (by omega), fK _ (by omega) (by omega)]; exact n2 k hk
  · by_cases e : k = nE
    · rw [e, jc, kc]; exact ⟨L, hw⟩
    · rw [fJ _ _ (by omega) (by omega) (by omega), fK _ (by omega) (by omega)]; exact n3 k (by omega)
theorem FdR.find (ha : 6 ≤ a) (h : FdR a nP nF nE nW nH nR I J I' J') (hn : nF < 10) {I1 I1' : FI} {J1 J1' : FJ} {ux uy : Int64} {L : List Nat} (hw : WordR ux uy L) (fI : ∀ q j, a ≤ q → q ≤ a + 8 → ¬ (q = a ∧ (j = 12 ∨ j = 14 ∨ j = 15)) → ¬ (q = a + 4 ∧ nF * 6 ≤ j ∧ j < nF * 6 + 6) → I1 q j = I q j) (ic : I1 a 12 = nI (nF + 1)) (fJ : ∀ q j, a + 1 ≤ q → q ≤ a + 3 → ¬ (q = a + 2 ∧ j = nF) → J1 q j = J q j) (jc : J1 (a + 2) nF = ux) (fM : ∀ j, j < 102 → ¬ (j = 1 ∨ j = 30 + nF ∨ j = 40 + nF ∨ j = 50 + nF ∨ j = 60 + nF ∨ j = 70 + nF ∨ j = 80 + nF) → I1' 207 j = I' 207 j) (mc : I1' 207 1 = nI (nF + 1)) (fK : ∀ j, j < 22 → j ≠ 6 + nF → J1' 212 j = J' 212 j) (kc : J1' 212 (6 + nF) = uy) {y0 y1 y2 y3 y4 y5 : Nat} (b0 : y0 ≤ 3) (b1 : y1 < nW) (b2 : y2 < nH) (b3 : y3 ≤ 9) (b4 : y4 ≤ 999) (b5 : y5 ≤ 99) (i0 : I1 (a + 4) (nF * 6) = nI y0) (i1 : I1 (a + 4) (nF * 6 + 1) = nI y1) (i2 : I1 (a + 4) (nF * 6 + 2) = nI y2) (i3 : I1 (a + 4) (nF * 6 + 3) = nI y3) (i4 : I1 (a + 4) (nF * 6 + 4) = nI y4) (i5 : I1 (a + 4) (nF * 6 + 5) = nI y5) (m0 : I1' 207 (30 + nF) = nI y0) (m1 : I1' 207 (40 + nF) = nI y1) (m2 : I1' 207 (50 + nF) = nI y2) (m3 : I1' 207 (60 + nF) = nI y3) (m4 : I1' 207 (70 + nF) = nI y4) (m5 : I1' 207 (80 + nF) = nI y5) (f5 : ∀ j, I1' 215 j = I' 215 j) (i15 : I1 a 15 = I a 15) : FdR a nP (nF + 1) nE nW nH nR I1 J1 I1' J1' := by
  obtain ⟨⟨c0, c1, c2, c3, c4, c5, vh, vp, vg, vf, vk⟩, ⟨⟨l11, l12, l13, l8, l9, l10⟩, hh, hp, hg, hf, he⟩, hz, ho, n1, n2, n3⟩ := h
  have hP6 := c0.2
  have hF10 := c1.2
  have hE6 := c2.2
  refine ⟨⟨?_, ?_, ?_, ?_, ?_, ?_, fun k hk => ?_, fun k hk => ?_, fun k hk => ?_, fun f hk => ?_, fun k hk => ?_⟩, ⟨⟨?_, ?_, ?_, ?_, ?_, ?_⟩, fun k hk => ?_, fun k hk => ?_, fun k hk => ?_, fun f hk => ?_, fun k hk => ?_⟩, fun f h1 h2 => ?_, fun q hq => ?_, fun k hk => ?_, fun k hk => ?_, fun k hk => ?_⟩
  · rw [fM _ (by omega) (by omega)]; exact c0
  · exact ⟨mc, by omega⟩
  · rw [fM _ (by omega) (by omega)]; exact c2
  · rw [fM _ (by omega) (by omega)]; exact c3
  · rw [fM _ (by omega) (by omega)]; exact c4
  · rw [fM _ (by omega) (by omega)]; exact c5
  · rw [fM _ (by omega) (by omega)]; exact vh k hk
  · rw [fM _ (by omega) (by omega)]; exact vp k hk
  · rw [fM _ (by omega) (by omega)]; exact vg k hk
  · by_cases e : f = nF
    · rw [e]; exact ⟨⟨y0, by omega, m0⟩, ⟨y1, by omega, m1⟩, ⟨y2, by omega, m2⟩, ⟨y3, by omega, m3⟩, ⟨y4, by omega, m4⟩, ⟨y5, by omega, m5⟩⟩
    · rw [fM _ (by omega) (by omega), fM _ (by omega) (by omega), fM _ (by omega) (by omega), fM _ (by omega) (by omega), fM _ (by omega) (by omega), fM _ (by omega) (by omega)]; exact vf f hk
  · rw [fM _ (by omega) (by omega), fM _ (by omega) (by omega)]; exact vk k hk
  · rw [fI _ _ (by omega) (by omega) (by omega) (by omega)]; rw [fM _ (by omega) (by omega)]; exact l11
  · rw [ic, mc]
  · rw [fI _ _ (by omega) (by omega) (by omega) (by omega)]; rw [fM _ (by omega) (by omega)]; exact l13
  · rw [fI _ _ (by omega) (by omega) (by omega) (by omega)]; rw [fM _ (by omega) (by omega)]; exact l8
  · rw [fI _ _ (by omega) (by omega) (by omega) (by omega)]; rw [fM _ (by omega) (by omega)]; exact l9
  · rw [fI _ _ (by omega) (by omega) (by omega) (by omega)]; rw [fM _ (by omega) (by omega)]; exact l10
  · rw [fI _ _ (by omega) (by omega) (by omega) (by omega)]; rw [fM _ (by omega) (by omega)]; exact hh k hk
  · rw [fI _ _ (by omega) (by omega) (by omega) (by omega)]; rw [fM _ (by omega) (by omega)]; exact hp k hk
  · rw [fI _ _ (by omega) (by omega) (by omega) (by omega)]; rw [fM _ (by omega) (by omega)]; exact hg k hk
  · by_cases e : f = nF
    · rw [e, i0, i1, i2, i3, i4, i5, m0, m1, m2, m3, m4, m5]; exact ⟨rfl, rfl, rfl, rfl, rfl, rfl⟩
    · rw [fI _ _ (by omega) (by omega) (by omega) (by omega), fI _ _ (by omega) (by omega) (by omega) (by omega), fI _ _ (by omega) (by omega) (by omega) (by omega), fI _ _ (by omega) (by omega) (by omega) (by omega), fI _ _ (by omega) (by omega) (by omega) (by omega), fI _ _ (by omega) (by omega) (by omega) (by omega)]; rw [fM _ (by omega) (by omega), fM _ (by omega) (by omega), fM _ (by omega) (by omega), fM _ (by omega) (by omega), fM _ (by omega) (by omega), fM _ (by omega) (by omega)]; exact hf f (by omega)
  · rw [fI _ _ (by omega) (by omega) (by omega) (by omega), fI _ _ (by omega) (by omega) (by omega) (by omega)]; rw [fM _ (by omega) (by omega), fM _ (by omega) (by omega)]; exact he k hk
  · rw [fM _ (by omega) (by omega), fM _ (by omega) (by omega)]; exact hz f (by omega) h2
  · rw [i15, f5]; exact ho q hq
  · rw [fJ _ _ (by omega) (by omega) (by omega), fK _ (by omega) (by omega)]; exact n1 k hk
  · by_cases e : k = nF
    · rw [e, jc, kc]; exact ⟨L, hw⟩
    · rw [fJ _ _ (by omega) (by omega) (by omega), fK _ (by omega) (by omega)]; exact n2 k (by omega)
  · rw [fJ _ _ (by omega) (by omega) (by omega), fK _ (by omega) (by omega)]; exact n3 k hk
theorem full_q (h : At m i t I J I' J') (ht : 2 < t.1) : ∃ I1 I1', Land_reachNewName N a 1 false I J = some (false, I1, J) ∧ Mod_bad 4 I' = some (false, I1') ∧ FlR I1 I1' ∧ Kp I J I' J' I1 J I1' J' := by
  obtain ⟨I1, I1', f1, f2, f3, f4⟩ := fail_q h (k := 4) (by omega)
  have f1' : Tape_fail 1 4 I = some (false, I1) := f1
  refine ⟨I1, I1', ?_, f2, f3, f4⟩
  unfold Land_reachNewName
  simp only [↓reduceIte, f1', Option.bind_some, Bool.false_eq_true]
theorem person_l (hN : 2000 ≤ N) (ha : 6 ≤ a) (ha2 : a ≤ 20) (h : At m i t I J I' J') (hf : FdR a nP nF nE nW nH nR I J I' J') (ht : 2 < t.1) : ∃ v I1 J1 I1' J1', Land_readPerson N a 1 I J = some (v, I1, J1) ∧ Mod_readPerson N I' J' = some (v, I1', J1') ∧ OutD a m i v I J I' J' I1 J1 I1' J1' := by
  have hP := hf.1.1.2
  have e1 : I' 207 0 = nI nP := hf.1.1.1
  have e2 : I a 11 = nI nP := hf.2.1.1.1.trans e1
  have g0 : in9 (0 : Int32) 102 = True := in9_t (k := 0) (by omega) (by omega)
  have c1 : (6 ≤ nI nP) = (6 ≤ nP) := by rw [L_6, le_nI (by omega) (by omega)]
  have c2 : (nI nP = (6 : Int32)) = (nP = 6) := by rw [L_6, eq_nI (by omega) (by omega)]
  unfold Land_readPerson Mod_readPerson Mod_readFirst
  by_cases z : nP = 6
  · have y1 : (6 ≤ nP) = True := eq_true (by omega)
    have y2 : (nP = 6) = True := eq_true z
    obtain ⟨I1, I1', f1, f2, f3, f4⟩ := full_q (N := N) (a := a) h ht
    refine ⟨false, I1, J, I1', J', ?_, ?_, f4.f, f4.1 _ _ (by omega), fun q => absurd q (by simp), fun _ => f3⟩
    · simp only [↓reduceIte, e2, c1, y1, f1, Option.bind_some, Bool.false_eq_true]
    · simp only [↓reduceIte, g0, T_0, e1, c2, y2, f2, Option.bind_some, Bool.false_eq_true]
  · have y1 : (6 ≤ nP) = False := eq_false (by omega)
    have y2 : (nP = 6) = False := eq_false z
    obtain ⟨v, I1, J1, I1', J1', X, Y, r1, r2, r3, r4, r5, r6, r7⟩ := reach_q hN ha h hf (by omega) (slot := nP) (by omega)
    have x0 : X 207 0 = nI nP := by rw [r4]; exact e1
    cases v with
    | false =>
      rw [if_neg (by simp)] at r3
      refine ⟨false, I1, J1, I1', J1', ?_, ?_, r5.f, r5.1 _ _ (by omega), fun q => absurd q (by simp), r7⟩
      · simp only [↓reduceIte, e2, c1, y1, r1, Option.bind_some, Bool.false_eq_true]
      · simp only [↓reduceIte, g0, T_0, e1, c2, y2, r2, x0, r3, Option.bind_some, Bool.false_eq_true]
    | true =>
      rw [if_pos rfl] at r3
      obtain ⟨t1, b1, b2⟩ := r6 rfl
      have e3 : I1 a 11 = nI nP := by rw [r5.1 _ _ (by omega)]; exact e2
      have gp : in9 (nI nP) 6 = True := in9_t (by omega) (by omega)
      have tp : (nI nP).toNatClampNeg = nP := tN (by omega)
      obtain ⟨t2, I2, J2, I2', J2', s1, s2, s3, s4, s5, s6⟩ := next_q hN (b1.congr (I1 := up2 I1 a 11 (nI (nP + 1))) (J1 := up2 J1 (a + 1) nP (J1 1 10)) (I1' := I1') (J1' := up2 J1' 212 nP (J1' 204 12)) (fun x j w => by rw [u_o (by omega)]) (fun x j w => by rw [u_o (by omega)]) (fun _ _ _ => rfl) (by rw [u_o (by omega)])) (by omega)
      have x2 : I2' 207 0 = nI nP := by rw [s4.2.2.1 _ _ (by omega), r5.2.2.1 _ _ (by omega)]; exact e1
      refine ⟨true, I2, J2, up2 I2' 207 0 (nI (nP + 1)), J2', ?_, ?_, ⟨fun x j w1 w2 => ?_, fun x j w1 w2 => ?_, fun x j w1 w2 w3 => ?_, fun x j w1 w2 => ?_⟩, ?_, fun _ => ⟨_, t2, nP + 1, nF, nE, nW, nH, nR, by omega, s3.upM (by omega) (by omega), hf.person ha (by omega) (b1.word b2) (fun q j a1 a2 a3 => ?_) ?_ (fun q j a1 a2 a3 => ?_) ?_ (fun j a1 a2 => ?_) u_s (fun j a1 a2 => ?_) ?_ (fun j => ?_) ?_⟩, fun q => absurd q (by simp)⟩
      · simp only [↓reduceIte, e2, c1, y1, r1, e3, gp, tp, nS, s1, Option.bind_some]
      · simp only [↓reduceIte, g0, T_0, e1, c2, y2, r2, x0, r3, s2, x2, nS, Option.bind_some]
      · rw [s4.1 _ _ w1, u_o (by omega), r5.1 _ _ w1]
      · rw [s4.2.1 _ _ w1, u_o (by omega), r5.2.1 _ _ w1]
      · rw [u_o w2, s4.2.2.1 _ _ w1, r5.2.2.1 _ _ w1]
      · rw [s4.2.2.2 _ _ w1, u_o w2, r5.2.2.2 _ _ w1]
      · rw [s4.1 _ _ (by omega), u_j (by omega), r5.1 _ _ (by omega)]
      · rw [s4.1 _ _ (by omega), up2_ff (by omega), r5.1 _ _ (by omega)]
      · rw [s4.1 _ _ (by omega), u_s]
      · rw [s4.2.1 _ _ (by omega), up2_ff (by omega), r5.2.1 _ _ (by omega)]
      · rw [s4.2.1 _ _ (by omega), u_s]
      · rw [u_j a2, s4.2.2.1 _ _ (by omega), r5.2.2.1 _ _ (by omega)]
      · rw [s4.2.2.2 _ _ (by omega), u_j (by omega), r5.2.2.2 _ _ (by omega)]
      · rw [s4.2.2.2 _ _ (by omega), Nat.zero_add, u_s]
      · rw [u_o (by omega), s4.2.2.1 _ _ (by omega), r5.2.2.1 _ _ (by omega)]
      · rw [s4.1 _ _ (by omega), u_j (by omega), r5.1 _ _ (by omega)]
theorem fear_l (hN : 2000 ≤ N) (ha : 6 ≤ a) (ha2 : a ≤ 20) (h : At m i t I J I' J') (hf : FdR a nP nF nE nW nH nR I J I' J') (ht : 2 < t.1) : ∃ v I1 J1 I1' J1', Land_readFear N a 1 I J = some (v, I1, J1) ∧ Mod_readFear N I' J' = some (v, I1', J1') ∧ OutD a m i v I J I' J' I1 J1 I1' J1' := by
  have hE := hf.1.2.2.1.2
  have e1 : I' 207 2 = nI nE := hf.1.2.2.1.1
  have e2 : I a 13 = nI nE := hf.2.1.1.2.2.1.trans e1
  have g0 : in9 (2 : Int32) 102 = True := in9_t (k := 2) (by omega) (by omega)
  have c1 : (6 ≤ nI nE) = (6 ≤ nE) := by rw [L_6, le_nI (by omega) (by omega)]
  have c2 : (nI nE = (6 : Int32)) = (nE = 6) := by rw [L_6, eq_nI (by omega) (by omega)]
  unfold Land_readFear Mod_readFear Mod_readFirst
  by_cases z : nE = 6
  · have y1 : (6 ≤ nE) = True := eq_true (by omega)
    have y2 : (nE = 6) = True := eq_true z
    obtain ⟨I1, I1', f1, f2, f3, f4⟩ := full_q (N := N) (a := a) h ht
    refine ⟨false, I1, J, I1', J', ?_, ?_, f4.f, f4.1 _ _ (by omega), fun q => absurd q (by simp), fun _ => f3⟩
    · simp only [↓reduceIte, e2, c1, y1, f1, Option.bind_some, Bool.false_eq_true]
    · simp only [↓reduceIte, g0, T_2, e1, c2, y2, f2, Option.bind_some, Bool.false_eq_true]
  · have y1 : (6 ≤ nE) = False := eq_false (by omega)
    have y2 : (nE = 6) = False := eq_false z
    obtain ⟨v, I1, J1, I1', J1', X, Y, r1, r2, r3, r4, r5, r6, r7⟩ := reach_q hN ha h hf (by omega) (slot := 16 + nE) (by omega)
    have x0 : X 207 2 = nI nE := by rw [r4]; exact e1
    have a16 : (16 : Int32) + nI nE = nI (16 + nE) := nA 16 _
    cases v with
    | false =>
      rw [if_neg (by simp)] at r3
      refine ⟨false, I1, J1, I1', J1', ?_, ?_, r5.f, r5.1 _ _ (by omega), fun q => absurd q (by simp), r7⟩
      · simp only [↓reduceIte, e2, c1, y1, r1, Option.bind_some, Bool.false_eq_true]
      · simp only [↓reduceIte, g0, T_2, e1, c2, y2, r2, x0, a16, r3, Option.bind_some, Bool.false_eq_true]
    | true =>
      rw [if_pos rfl] at r3
      obtain ⟨t1, b1, b2⟩ := r6 rfl
      have e3 : I1 a 13 = nI nE := by rw [r5.1 _ _ (by omega)]; exact e2
      have gp : in9 (nI nE) 6 = True := in9_t (by omega) (by omega)
      have tp : (nI nE).toNatClampNeg = nE := tN (by omega)
      obtain ⟨t2, I2, J2, I2', J2', s1, s2, s3, s4, s5, s6⟩ := next_q hN (b1.congr (I1 := I1) (J1 := up2 J1 (a + 3) nE (J1 1 10)) (I1' := I1') (J1' := up2 J1' 212 (16 + nE) (J1' 204 12)) (fun _ _ _ => rfl) (fun x j w => by rw [u_o (by omega)]) (fun _ _ _ => rfl) (by rw [u_o (by omega)])) (by omega)
      have kp2 : KpF a I J I' J' I2 J2 I2' J2' := (r5.f).trans (KpF.trans ⟨fun _ _ _ _ => rfl, fun x j w1 w2 => up2_ff (by omega), fun _ _ _ _ _ => rfl, fun x j w1 w2 => up2_ff (by omega)⟩ s4.f)
      have rn : Mod_readNew N (nI (16 + nE)) X Y = some (true, I2', J2') := by rw [r3, s2]; rfl
      obtain ⟨v, I3, J3, I3', J3', d1, d2, d3, d4, d5⟩ := takeNum_q hN s3 (lo := 0) (hi := 999) (by omega) (by omega)
      have d1' : Tape_takeNumber 1 0 999 I2 J2 = some (v, I3, J3) := d1
      have d2' : Mod_readNumber N 0 999 I2' J2' = some (v, I3', J3') := d2
      have k14 : I3 a 14 = I a 14 := by rw [d3.1 _ _ (by omega), s4.1 _ _ (by omega), r5.1 _ _ (by omega)]
      have a90 : (90 : Int32) + nI nE = nI (90 + nE) := ax_90 _
      have a96 : (96 : Int32) + nI nE = nI (96 + nE) := ax_96 _
      have g90 : in9 (nI (90 + nE)) 102 = True := in9_t (by omega) (by omega)
      have t90 : (nI (90 + nE)).toNatClampNeg = 90 + nE := tN (by omega)
      have p90 := fun (X : FI) => put_t (I := X) (k := 90 + nE) (by omega)
      have p96 := fun (X : FI) => put_t (I := X) (k := 96 + nE) (by omega)
      cases v with
      | false =>
        refine ⟨false, I3, J3, I3', J3', ?_, ?_, kp2.trans d3.f, k14, fun q => absurd q (by simp), d5⟩
        · simp only [↓reduceIte, e2, c1, y1, r1, e3, gp, tp, s1, d1', Option.bind_some, Bool.false_eq_true]
        · simp only [↓reduceIte, g0, T_2, e1, c2, y2, r2, x0, a16, rn, d2', put_f, Option.bind_some, Bool.false_eq_true]
      | true =>
        obtain ⟨x, t3, x1, x2, x3, x4, x5⟩ := d4 rfl
        obtain ⟨v, I4, J4, I4', J4', g1, g2, g3, g4, g5⟩ := takeNum_q hN (x5.upM (x := 207) (k := 90 + nE) (v := nI x) (by omega) (by omega)) (lo := x) (hi := 999) (by omega) (by omega)
        have g1' : Tape_takeNumber 1 (nI x) 999 I3 J3 = some (v, I4, J4) := g1
        have g2' : Mod_readNumber N (nI x) 999 (up2 I3' 207 (90 + nE) (nI x)) J3' = some (v, I4', J4') := g2
        have kp4 : KpF a I J I' J' I4 J4 I4' J4' := ((kp2.trans d3.f).upM).trans g3.f
        have k14b : I4 a 14 = I a 14 := by rw [g3.1 _ _ (by omega)]; exact k14
        have u90 : ∀ w, up2 I3' 207 (90 + nE) w 207 (90 + nE) = w := fun w => u_s
        cases v with
        | false =>
          refine ⟨false, I4, J4, I4', J4', ?_, ?_, kp4, k14b, fun q => absurd q (by simp), g5⟩
          · simp only [↓reduceIte, e2, c1, y1, r1, e3, gp, tp, s1, d1', x3, g1', Option.bind_some, Bool.false_eq_true]
          · simp only [↓reduceIte, g0, T_2, e1, c2, y2, r2, x0, a16, rn, d2', p90, a90, g90, t90, x4, u90, g2', put_f, Option.bind_some, Bool.false_eq_true]
        | true =>
          obtain ⟨y, t4, w1, w2, w3, w4, w5⟩ := g4 rfl
          have e4 : I4 a 13 = nI nE := by rw [g3.1 _ _ (by omega), d3.1 _ _ (by omega), s4.1 _ _ (by omega)]; exact e3
          have m2 : (2 : Int32) * nI nE = nI (2 * nE) := mx_2 _
          have h0 : in9 (nI (2 * nE)) 12 = True := in9_t (by omega) (by omega)
          have h1 : in9 (nI (2 * nE + 1)) 12 = True := in9_t (by omega) (by omega)
          have q0 : (nI (2 * nE)).toNatClampNeg = 2 * nE := tN (by omega)
          have q1 : (nI (2 * nE + 1)).toNatClampNeg = 2 * nE + 1 := tN (by omega)
          have v1 : ∀ j w, up2 I4 (a + 5) j w a = I4 a := fun j w => u_o (by omega)
          have v2 : ∀ j w, up2 I4 (a + 5) j w 1 = I4 1 := fun j w => u_o (by omega)
          have v3 : ∀ j w j2 w2, up2 (up2 I4 (a + 5) j w) (a + 5) j2 w2 a = I4 a := fun j w j2 w2 => by rw [u_o (by omega), u_o (by omega)]
          have z2 : ∀ w, up2 I4' 207 (96 + nE) w 207 2 = nI nE := fun w => by rw [u_j (by omega), g3.2.2.1 _ _ (by omega), u_j (by omega), d3.2.2.1 _ _ (by omega), s4.2.2.1 _ _ (by omega), r5.2.2.1 _ _ (by omega)]; exact e1
          refine ⟨true, up2 (up2 (up2 I4 (a + 5) (2 * nE) (nI x)) (a + 5) (2 * nE + 1) (nI y)) a 13 (nI (nE + 1)), J4, up2 (up2 I4' 207 (96 + nE) (nI y)) 207 2 (nI (nE + 1)), J4', ?_, ?_, (((kp4.upI (by omega)).upI (by omega)).upI (by omega)).upM.upM, by rw [u_j (by omega), u_o (by omega), u_o (by omega)]; exact k14b, fun _ => ⟨_, t4, nP, nF, nE + 1, nW, nH, nR, by omega, w5.congr (fun q j w => ?_) (fun _ _ _ => rfl) (fun q j w => ?_) rfl, hf.fear ha (by omega) (b1.word b2) (fun q j f1 f2 f3 f4 => ?_) u_s (fun q j f1 f2 f3 => ?_) ?_ (fun j f1 f2 f3 f4 => ?_) u_s (fun j f1 f2 => ?_) ?_ (y0 := x) (y1 := y) x2 w2 ?_ ?_ ?_ ?_ (fun j => ?_) ?_⟩, fun q => absurd q (by simp)⟩
          · simp only [↓reduceIte, e2, c1, y1, r1, e3, gp, tp, s1, d1', x3, g1', e4, m2, h0, q0, v1, v2, v3, nS, h1, q1, w3, Option.bind_some]
          · simp only [↓reduceIte, g0, T_2, e1, c2, y2, r2, x0, a16, rn, d2', p90, a90, g90, t90, x4, u90, g2', p96, a96, w4, z2, nS, Option.bind_some]
          · rw [u_o (by omega), u_o (by omega), u_o (by omega)]
          · rw [u_o (by omega), u_o (by omega)]
          · rw [up2_ff (by omega), up2_ff (by omega), up2_ff (by omega), g3.1 _ _ (by omega), d3.1 _ _ (by omega), s4.1 _ _ (by omega), r5.1 _ _ (by omega)]
          · rw [g3.2.1 _ _ (by omega), d3.2.1 _ _ (by omega), s4.2.1 _ _ (by omega), up2_ff (by omega), r5.2.1 _ _ (by omega)]
          · rw [g3.2.1 _ _ (by omega), d3.2.1 _ _ (by omega), s4.2.1 _ _ (by omega), u_s]
          · rw [u_j f2, u_j f4, g3.2.2.1 _ _ (by omega), u_j f3, d3.2.2.1 _ _ (by omega), s4.2.2.1 _ _ (by omega), r5.2.2.1 _ _ (by omega)]
          · rw [g3.2.2.2 _ _ (by omega), d3.2.2.2 _ _ (by omega), s4.2.2.2 _ _ (by omega), u_j f2, r5.2.2.2 _ _ (by omega)]
          · rw [g3.2.2.2 _ _ (by omega), d3.2.2.2 _ _ (by omega), s4.2.2.2 _ _ (by omega), u_s]
          · rw [u_o (by omega), u_j (by omega), u_s]
          · rw [u_o (by omega), u_s]
          · rw [u_j (by omega), u_j (by omega), g3.2.2.1 _ _ (by omega), u_s]
          · rw [u_j (by omega), u_s]
          · rw [u_o (by omega), u_o (by omega), g3.2.2.1 _ _ (by omega), u_o (by omega), d3.2.2.1 _ _ (by omega), s4.2.2.1 _ _ (by omega), r5.2.2.1 _ _ (by omega)]
          · rw [u_j (by omega), u_o (by omega), u_o (by omega), g3.1 _ _ (by omega), d3.1 _ _ (by omega), s4.1 _ _ (by omega), r5.1 _ _ (by omega)]
end Q84

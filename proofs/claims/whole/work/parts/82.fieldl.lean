/-! a field's lines that tell one number: both sides -/
section Q82
variable {N a b ln sp sn ss nP nF nE nW nH nR : Nat} {I I' : FI} {J J' : FJ} {t : Nat × Nat × List Nat} {m i k : Nat}
theorem put_t {k : Nat} (hk : k < 102) : Mod_put (nI k) true I = some (true, up2 I 207 k (I 204 13)) := by
  have g : in9 (nI k) 102 = True := in9_t (by omega) (by omega)
  have t : (nI k).toNatClampNeg = k := tN (by omega)
  unfold Mod_put
  simp only [↓reduceIte, g, t, Option.bind_some]
theorem put_f (l : Int32) : Mod_put l false I = some (false, I) := by
  unfold Mod_put
  simp only [↓reduceIte, Bool.false_eq_true]
/-- what comes out of a line -/
def OutD (a m i : Nat) (v : Bool) (I : FI) (J : FJ) (I' : FI) (J' : FJ) (I1 : FI) (J1 : FJ) (I1' : FI) (J1' : FJ) : Prop := KpF a I J I' J' I1 J1 I1' J1' ∧ I1 a 14 = I a 14 ∧ (v = true → ∃ i' t' nP nF nE nW nH nR, i < i' ∧ At m i' t' I1 J1 I1' J1' ∧ FdR a nP nF nE nW nH nR I1 J1 I1' J1') ∧ (v = false → FlR I1 I1')
theorem FdR.wide (ha : 6 ≤ a) (h : FdR a nP 0 nE nW nH nR I J I' J') {x : Nat} (h1 : 2 ≤ x) (h2 : x ≤ 6) : FdR a nP 0 nE x nH nR (up2 I a 8 (nI x)) J (up2 I' 207 3 (nI x)) J' := by
  obtain ⟨⟨c0, c1, c2, c3, c4, c5, vh, vp, vg, vf, vk⟩, ⟨⟨l11, l12, l13, l8, l9, l10⟩, hh, hp, hg, hf, he⟩, hz, ho, n1, n2, n3⟩ := h
  have hF10 := c1.2
  have hE6 := c2.2
  refine ⟨⟨?_, ?_, ?_, ?_, ?_, ?_, fun k hk => ?_, fun k hk => ?_, fun k hk => ?_, fun f hk => ?_, fun k hk => ?_⟩, ⟨⟨?_, ?_, ?_, ?_, ?_, ?_⟩, fun k hk => ?_, fun k hk => ?_, fun k hk => ?_, fun f hk => ?_, fun k hk => ?_⟩, fun f h1 h2 => ?_, fun q hq => ?_, n1, n2, n3⟩
  · rw [u_j (by omega)]; exact c0
  · rw [u_j (by omega)]; exact c1
  · rw [u_j (by omega)]; exact c2
  · rw [u_s]; exact ⟨rfl, by omega, by omega⟩
  · rw [u_j (by omega)]; exact c4
  · rw [u_j (by omega)]; exact c5
  · rw [u_j (by omega)]; exact vh k hk
  · rw [u_j (by omega)]; exact vp k hk
  · rw [u_j (by omega)]; exact vg k hk
  · rw [u_j (by omega), u_j (by omega), u_j (by omega), u_j (by omega), u_j (by omega), u_j (by omega)]
    obtain ⟨d1, d2, d3, d4, d5, d6⟩ := vf f hk
    obtain ⟨z1, z2⟩ := hz f (Nat.zero_le _) hk
    exact ⟨d1, ⟨0, by omega, z1⟩, d3, d4, d5, d6⟩
  · rw [u_j (by omega), u_j (by omega)]; exact vk k hk
  · rw [up2_ff (by omega), u_j (by omega)]; exact l11
  · rw [up2_ff (by omega), u_j (by omega)]; exact l12
  · rw [up2_ff (by omega), u_j (by omega)]; exact l13
  · rw [u_s, u_s]
  · rw [up2_ff (by omega), u_j (by omega)]; exact l9
  · rw [up2_ff (by omega), u_j (by omega)]; exact l10
  · rw [up2_ff (by omega), u_j (by omega)]; exact hh k hk
  · rw [up2_ff (by omega), u_j (by omega)]; exact hp k hk
  · rw [up2_ff (by omega), u_j (by omega)]; exact hg k hk
  · exact absurd hk (by omega)
  · rw [up2_ff (by omega), up2_ff (by omega), up2_ff (by omega), up2_ff (by omega)]; exact he k hk
  · rw [u_j (by omega), u_j (by omega)]; exact hz f h1 h2
  · rw [up2_ff (by omega), u_o (by omega)]; exact ho q hq
theorem FdR.high (ha : 6 ≤ a) (h : FdR a nP 0 nE nW nH nR I J I' J') {x : Nat} (h1 : 2 ≤ x) (h2 : x ≤ 6) : FdR a nP 0 nE nW x nR (up2 I a 9 (nI x)) J (up2 I' 207 4 (nI x)) J' := by
  obtain ⟨⟨c0, c1, c2, c3, c4, c5, vh, vp, vg, vf, vk⟩, ⟨⟨l11, l12, l13, l8, l9, l10⟩, hh, hp, hg, hf, he⟩, hz, ho, n1, n2, n3⟩ := h
  have hF10 := c1.2
  have hE6 := c2.2
  refine ⟨⟨?_, ?_, ?_, ?_, ?_, ?_, fun k hk => ?_, fun k hk => ?_, fun k hk => ?_, fun f hk => ?_, fun k hk => ?_⟩, ⟨⟨?_, ?_, ?_, ?_, ?_, ?_⟩, fun k hk => ?_, fun k hk => ?_, fun k hk => ?_, fun f hk => ?_, fun k hk => ?_⟩, fun f h1 h2 => ?_, fun q hq => ?_, n1, n2, n3⟩
  · rw [u_j (by omega)]; exact c0
  · rw [u_j (by omega)]; exact c1
  · rw [u_j (by omega)]; exact c2
  · rw [u_j (by omega)]; exact c3
  · rw [u_s]; exact ⟨rfl, by omega, by omega⟩
  · rw [u_j (by omega)]; exact c5
  · rw [u_j (by omega)]; exact vh k hk
  · rw [u_j (by omega)]; exact vp k hk
  · rw [u_j (by omega)]; exact vg k hk
  · rw [u_j (by omega), u_j (by omega), u_j (by omega), u_j (by omega), u_j (by omega), u_j (by omega)]
    obtain ⟨d1, d2, d3, d4, d5, d6⟩ := vf f hk
    obtain ⟨z1, z2⟩ := hz f (Nat.zero_le _) hk
    exact ⟨d1, d2, ⟨0, by omega, z2⟩, d4, d5, d6⟩
  · rw [u_j (by omega), u_j (by omega)]; exact vk k hk
  · rw [up2_ff (by omega), u_j (by omega)]; exact l11
  · rw [up2_ff (by omega), u_j (by omega)]; exact l12
  · rw [up2_ff (by omega), u_j (by omega)]; exact l13
  · rw [up2_ff (by omega), u_j (by omega)]; exact l8
  · rw [u_s, u_s]
  · rw [up2_ff (by omega), u_j (by omega)]; exact l10
  · rw [up2_ff (by omega), u_j (by omega)]; exact hh k hk
  · rw [up2_ff (by omega), u_j (by omega)]; exact hp k hk
  · rw [up2_ff (by omega), u_j (by omega)]; exact hg k hk
  · exact absurd hk (by omega)
  · rw [up2_ff (by omega), up2_ff (by omega), up2_ff (by omega), up2_ff (by omega)]; exact he k hk
  · rw [u_j (by omega), u_j (by omega)]; exact hz f h1 h2
  · rw [up2_ff (by omega), u_o (by omega)]; exact ho q hq
theorem FdR.rsk (ha : 6 ≤ a) (h : FdR a nP nF nE nW nH nR I J I' J') {x : Nat} (h2 : x ≤ 12) : FdR a nP nF nE nW nH x (up2 I a 10 (nI x)) J (up2 I' 207 5 (nI x)) J' := by
  obtain ⟨⟨c0, c1, c2, c3, c4, c5, vh, vp, vg, vf, vk⟩, ⟨⟨l11, l12, l13, l8, l9, l10⟩, hh, hp, hg, hf, he⟩, hz, ho, n1, n2, n3⟩ := h
  have hF10 := c1.2
  have hE6 := c2.2
  refine ⟨⟨?_, ?_, ?_, ?_, ?_, ?_, fun k hk => ?_, fun k hk => ?_, fun k hk => ?_, fun f hk => ?_, fun k hk => ?_⟩, ⟨⟨?_, ?_, ?_, ?_, ?_, ?_⟩, fun k hk => ?_, fun k hk => ?_, fun k hk => ?_, fun f hk => ?_, fun k hk => ?_⟩, fun f h1 h2 => ?_, fun q hq => ?_, n1, n2, n3⟩
  · rw [u_j (by omega)]; exact c0
  · rw [u_j (by omega)]; exact c1
  · rw [u_j (by omega)]; exact c2
  · rw [u_j (by omega)]; exact c3
  · rw [u_j (by omega)]; exact c4
  · rw [u_s]; exact ⟨rfl, by omega⟩
  · rw [u_j (by omega)]; exact vh k hk
  · rw [u_j (by omega)]; exact vp k hk
  · rw [u_j (by omega)]; exact vg k hk
  · rw [u_j (by omega), u_j (by omega), u_j (by omega), u_j (by omega), u_j (by omega), u_j (by omega)]; exact vf f hk
  · rw [u_j (by omega), u_j (by omega)]; exact vk k hk
  · rw [up2_ff (by omega), u_j (by omega)]; exact l11
  · rw [up2_ff (by omega), u_j (by omega)]; exact l12
  · rw [up2_ff (by omega), u_j (by omega)]; exact l13
  · rw [up2_ff (by omega), u_j (by omega)]; exact l8
  · rw [up2_ff (by omega), u_j (by omega)]; exact l9
  · rw [u_s, u_s]
  · rw [up2_ff (by omega), u_j (by omega)]; exact hh k hk
  · rw [up2_ff (by omega), u_j (by omega)]; exact hp k hk
  · rw [up2_ff (by omega), u_j (by omega)]; exact hg k hk
  · rw [up2_ff (by omega), up2_ff (by omega), up2_ff (by omega), up2_ff (by omega), up2_ff (by omega), up2_ff (by omega), up2_ff (by omega), up2_ff (by omega), up2_ff (by omega), up2_ff (by omega), up2_ff (by omega), up2_ff (by omega)]; exact hf f hk
  · rw [up2_ff (by omega), up2_ff (by omega), up2_ff (by omega), up2_ff (by omega)]; exact he k hk
  · rw [u_j (by omega), u_j (by omega)]; exact hz f h1 h2
  · rw [up2_ff (by omega), u_o (by omega)]; exact ho q hq
theorem FdR.hint (ha : 6 ≤ a) (h : FdR a nP nF nE nW nH nR I J I' J') {r v : Nat} (hr : r < 12) (hv : v ≤ 12) : FdR a nP nF nE nW nH nR (up2 I (a + 6) r (nI v)) J (up2 I' 207 (6 + r) (nI v)) J' := by
  obtain ⟨⟨c0, c1, c2, c3, c4, c5, vh, vp, vg, vf, vk⟩, ⟨⟨l11, l12, l13, l8, l9, l10⟩, hh, hp, hg, hf, he⟩, hz, ho, n1, n2, n3⟩ := h
  have hF10 := c1.2
  have hE6 := c2.2
  refine ⟨⟨?_, ?_, ?_, ?_, ?_, ?_, fun k hk => ?_, fun k hk => ?_, fun k hk => ?_, fun f hk => ?_, fun k hk => ?_⟩, ⟨⟨?_, ?_, ?_, ?_, ?_, ?_⟩, fun k hk => ?_, fun k hk => ?_, fun k hk => ?_, fun f hk => ?_, fun k hk => ?_⟩, fun f h1 h2 => ?_, fun q hq => ?_, n1, n2, n3⟩
  · rw [u_j (by omega)]; exact c0
  · rw [u_j (by omega)]; exact c1
  · rw [u_j (by omega)]; exact c2
  · rw [u_j (by omega)]; exact c3
  · rw [u_j (by omega)]; exact c4
  · rw [u_j (by omega)]; exact c5
  · by_cases e : k = r
    · rw [e, u_s]; exact ⟨v, by omega, rfl⟩
    · rw [u_j (by omega)]; exact vh k hk
  · rw [u_j (by omega)]; exact vp k hk
  · rw [u_j (by omega)]; exact vg k hk
  · rw [u_j (by omega), u_j (by omega), u_j (by omega), u_j (by omega), u_j (by omega), u_j (by omega)]; exact vf f hk
  · rw [u_j (by omega), u_j (by omega)]; exact vk k hk
  · rw [up2_ff (by omega), u_j (by omega)]; exact l11
  · rw [up2_ff (by omega), u_j (by omega)]; exact l12
  · rw [up2_ff (by omega), u_j (by omega)]; exact l13
  · rw [up2_ff (by omega), u_j (by omega)]; exact l8
  · rw [up2_ff (by omega), u_j (by omega)]; exact l9
  · rw [up2_ff (by omega), u_j (by omega)]; exact l10
  · by_cases e : k = r
    · rw [e, u_s, u_s]
    · rw [up2_ff (by omega), u_j (by omega)]; exact hh k hk
  · rw [up2_ff (by omega), u_j (by omega)]; exact hp k hk
  · rw [up2_ff (by omega), u_j (by omega)]; exact hg k hk
  · rw [up2_ff (by omega), up2_ff (by omega), up2_ff (by omega), up2_ff (by omega), up2_ff (by omega), up2_ff (by omega), up2_ff (by omega), up2_ff (by omega), up2_ff (by omega), up2_ff (by omega), up2_ff (by omega), up2_ff (by omega)]; exact hf f hk
  · rw [up2_ff (by omega), up2_ff (by omega), up2_ff (by omega), up2_ff (by omega)]; exact he k hk
  · rw [u_j (by omega), u_j (by omega)]; exact hz f h1 h2
  · rw [up2_ff (by omega), u_o (by omega)]; exact ho q hq
theorem FdR.prior (ha : 6 ≤ a) (h : FdR a nP nF nE nW nH nR I J I' J') {r v : Nat} (hr : r < 3) (hv : 1 ≤ v) (hv2 : v ≤ 99) : FdR a nP nF nE nW nH nR (up2 I (a + 7) r (nI v)) J (up2 I' 207 (18 + r) (nI v)) J' := by
  obtain ⟨⟨c0, c1, c2, c3, c4, c5, vh, vp, vg, vf, vk⟩, ⟨⟨l11, l12, l13, l8, l9, l10⟩, hh, hp, hg, hf, he⟩, hz, ho, n1, n2, n3⟩ := h
  have hF10 := c1.2
  have hE6 := c2.2
  refine ⟨⟨?_, ?_, ?_, ?_, ?_, ?_, fun k hk => ?_, fun k hk => ?_, fun k hk => ?_, fun f hk => ?_, fun k hk => ?_⟩, ⟨⟨?_, ?_, ?_, ?_, ?_, ?_⟩, fun k hk => ?_, fun k hk => ?_, fun k hk => ?_, fun f hk => ?_, fun k hk => ?_⟩, fun f h1 h2 => ?_, fun q hq => ?_, n1, n2, n3⟩
  · rw [u_j (by omega)]; exact c0
  · rw [u_j (by omega)]; exact c1
  · rw [u_j (by omega)]; exact c2
  · rw [u_j (by omega)]; exact c3
  · rw [u_j (by omega)]; exact c4
  · rw [u_j (by omega)]; exact c5
  · rw [u_j (by omega)]; exact vh k hk
  · by_cases e : k = r
    · rw [e, u_s]; exact ⟨v, by omega, by omega, rfl⟩
    · rw [u_j (by omega)]; exact vp k hk
  · rw [u_j (by omega)]; exact vg k hk
  · rw [u_j (by omega), u_j (by omega), u_j (by omega), u_j (by omega), u_j (by omega), u_j (by omega)]; exact vf f hk
  · rw [u_j (by omega), u_j (by omega)]; exact vk k hk
  · rw [up2_ff (by omega), u_j (by omega)]; exact l11
  · rw [up2_ff (by omega), u_j (by omega)]; exact l12
  · rw [up2_ff (by omega), u_j (by omega)]; exact l13
  · rw [up2_ff (by omega), u_j (by omega)]; exact l8
  · rw [up2_ff (by omega), u_j (by omega)]; exact l9
  · rw [up2_ff (by omega), u_j (by omega)]; exact l10
  · rw [up2_ff (by omega), u_j (by omega)]; exact hh k hk
  · by_cases e : k = r
    · rw [e, u_s, u_s]
    · rw [up2_ff (by omega), u_j (by omega)]; exact hp k hk
  · rw [up2_ff (by omega), u_j (by omega)]; exact hg k hk
  · rw [up2_ff (by omega), up2_ff (by omega), up2_ff (by omega), up2_ff (by omega), up2_ff (by omega), up2_ff (by omega), up2_ff (by omega), up2_ff (by omega), up2_ff (by omega), up2_ff (by omega), up2_ff (by omega), up2_ff (by omega)]; exact hf f hk
  · rw [up2_ff (by omega), up2_ff (by omega), up2_ff (by omega), up2_ff (by omega)]; exact he k hk
  · rw [u_j (by omega), u_j (by omega)]; exact hz f h1 h2
  · rw [up2_ff (by omega), u_o (by omega)]; exact ho q hq
theorem FdR.gets (ha : 6 ≤ a) (h : FdR a nP nF nE nW nH nR I J I' J') {r v : Nat} (hr : r < 9) (hv : v ≤ 12) : FdR a nP nF nE nW nH nR (up2 I (a + 8) r (nI v)) J (up2 I' 207 (21 + r) (nI v)) J' := by
  obtain ⟨⟨c0, c1, c2, c3, c4, c5, vh, vp, vg, vf, vk⟩, ⟨⟨l11, l12, l13, l8, l9, l10⟩, hh, hp, hg, hf, he⟩, hz, ho, n1, n2, n3⟩ := h
  have hF10 := c1.2
  have hE6 := c2.2
  refine ⟨⟨?_, ?_, ?_, ?_, ?_, ?_, fun k hk => ?_, fun k hk => ?_, fun k hk => ?_, fun f hk => ?_, fun k hk => ?_⟩, ⟨⟨?_, ?_, ?_, ?_, ?_, ?_⟩, fun k hk => ?_, fun k hk => ?_, fun k hk => ?_, fun f hk => ?_, fun k hk => ?_⟩, fun f h1 h2 => ?_, fun q hq => ?_, n1, n2, n3⟩
  · rw [u_j (by omega)]; exact c0
  · rw [u_j (by omega)]; exact c1
  · rw [u_j (by omega)]; exact c2
  · rw [u_j (by omega)]; exact c3
  · rw [u_j (by omega)]; exact c4
  · rw [u_j (by omega)]; exact c5
  · rw [u_j (by omega)]; exact vh k hk
  · rw [u_j (by omega)]; exact vp k hk
  · by_cases e : k = r
    · rw [e, u_s]; exact ⟨v, by omega, rfl⟩
    · rw [u_j (by omega)]; exact vg k hk
  · rw [u_j (by omega), u_j (by omega), u_j (by omega), u_j (by omega), u_j (by omega), u_j (by omega)]; exact vf f hk
  · rw [u_j (by omega), u_j (by omega)]; exact vk k hk
  · rw [up2_ff (by omega), u_j (by omega)]; exact l11
  · rw [up2_ff (by omega), u_j (by omega)]; exact l12
  · rw [up2_ff (by omega), u_j (by omega)]; exact l13
  · rw [up2_ff (by omega), u_j (by omega)]; exact l8
  · rw [up2_ff (by omega), u_j (by omega)]; exact l9
  · rw [up2_ff (by omega), u_j (by omega)]; exact l10
  · rw [up2_ff (by omega), u_j (by omega)]; exact hh k hk
  · rw [up2_ff (by omega), u_j (by omega)]; exact hp k hk
  · by_cases e : k = r
    · rw [e, u_s, u_s]
    · rw [up2_ff (by omega), u_j (by omega)]; exact hg k hk
  · rw [up2_ff (by omega), up2_ff (by omega), up2_ff (by omega), up2_ff (by omega), up2_ff (by omega), up2_ff (by omega), up2_ff (by omega), up2_ff (by omega), up2_ff (by omega), up2_ff (by omega), up2_ff (by omega), up2_ff (by omega)]; exact hf f hk
  · rw [up2_ff (by omega), up2_ff (by omega), up2_ff (by omega), up2_ff (by omega)]; exact he k hk
  · rw [u_j (by omega), u_j (by omega)]; exact hz f h1 h2
  · rw [up2_ff (by omega), u_o (by omega)]; exact ho q hq
theorem KpF.upI {I1 I1' : FI} {J1 J1' : FJ} {x j : Nat} {v : Int32} (h : KpF a I J I' J' I1 J1 I1' J1') (hx : a ≤ x ∧ x ≤ a + 8) : KpF a I J I' J' (up2 I1 x j v) J1 I1' J1' := ⟨fun y l w u => (up2_ff (by omega)).trans (h.1 y l w u), h.2.1, h.2.2.1, h.2.2.2⟩
theorem KpF.upM {I1 I1' : FI} {J1 J1' : FJ} {j : Nat} {v : Int32} (h : KpF a I J I' J' I1 J1 I1' J1') : KpF a I J I' J' I1 J1 (up2 I1' 207 j v) J1' := ⟨h.1, h.2.1, fun y l w u z => (up2_ff (by omega)).trans (h.2.2.1 y l w u z), h.2.2.2⟩
theorem once14 {q : Nat} {v : Bool} {I1 : FI} {J1 : FJ} (ha : 6 ≤ a) (h : Land_takeOnce a 1 (nI q) I J = some (v, I1, J1)) : I1 a 14 = I a 14 := fr_Land_takeOnce (b := a) (j := 14) (by omega) (by omega) (by omega) (by omega) (by omega) (by omega) (by omega) h
theorem size_q (hN : 2000 ≤ N) (ha : 6 ≤ a) (ha2 : a ≤ 20) (h : At m i t I J I' J') (hf : FdR a nP nF nE nW nH nR I J I' J') (ht : 2 < t.1) : ∃ v I1 J1 I1' J1', Land_readSize a 1 I J = some (v, I1, J1) ∧ Mod_readField N I' J' = some (v, I1', J1') ∧ OutD a m i v I J I' J' I1 J1 I1' J1' := by
  have hF := hf.1.2.1
  have e1 : I' 207 1 = nI nF := hF.1
  have e2 : I a 12 = nI nF := hf.2.1.1.2.1.trans e1
  have c0 : (nI nF ≤ (0 : Int32)) = (nF ≤ 0) := by rw [L_0, le_nI (by omega) (by omega)]
  unfold Land_readSize Mod_readField
  by_cases z : nF = 0
  · subst z
    have y : ((0 : Nat) ≤ 0) = True := eq_true (by omega)
    obtain ⟨v, I1, J1, I1', J1', a1, a2, a3, a4, a5⟩ := once_q hN ha h hf (q := 0) (by omega) ht
    have a1' : Land_takeOnce a 1 0 I J = some (v, I1, J1) := a1
    have a2' : Mod_isFresh N 0 I' J' = some (v, I1', J1') := a2
    have k14 := once14 ha a1
    cases v with
    | false =>
      refine ⟨false, I1, J1, I1', J1', ?_, ?_, a3, k14, fun q => absurd q (by simp), a5⟩
      · simp only [↓reduceIte, e2, c0, y, a1', Option.bind_some, Bool.false_eq_true]
      · simp only [↓reduceIte, T_1, e1, c0, y, a2', Option.bind_some, Bool.false_eq_true]
    | true =>
      obtain ⟨t1, b1, b2⟩ := a4 rfl
      obtain ⟨v, I2, J2, I2', J2', d1, d2, d3, d4, d5⟩ := takeNum_q hN b1 (lo := 2) (hi := 6) (by omega) (by omega)
      have d1' : Tape_takeNumber 1 2 6 I1 J1 = some (v, I2, J2) := d1
      have d2' : Mod_readNumber N 2 6 I1' J1' = some (v, I2', J2') := d2
      have pt := fun (X : FI) => put_t (I := X) (k := 3) (by omega)
      have pt4 := fun (X : FI) => put_t (I := X) (k := 4) (by omega)
      have pt' : ∀ X : FI, Mod_put 3 true X = some (true, up2 X 207 3 (X 204 13)) := pt
      have pt4' : ∀ X : FI, Mod_put 4 true X = some (true, up2 X 207 4 (X 204 13)) := pt4
      cases v with
      | false =>
        refine ⟨false, I2, J2, I2', J2', ?_, ?_, a3.trans d3.f, ?_, fun q => absurd q (by simp), d5⟩
        · simp only [↓reduceIte, e2, c0, y, a1', d1', Option.bind_some, Bool.false_eq_true]
        · simp only [↓reduceIte, T_1, e1, c0, y, a2', d2', put_f, Option.bind_some, Bool.false_eq_true]
        · rw [d3.1 _ _ (by omega)]; exact k14
      | true =>
        obtain ⟨x, t2, x1, x2, x3, x4, x5⟩ := d4 rfl
        have f2 := (b2.kp ha d3).wide ha x1 x2
        have at2 := x5.upI (x := a) (k := 8) (v := nI x) (by omega) (by omega) (by omega) |>.upM (x := 207) (k := 3) (v := nI x) (by omega) (by omega)
        obtain ⟨v, I3, J3, I3', J3', g1, g2, g3, g4, g5⟩ := takeNum_q hN at2 (lo := 2) (hi := 6) (by omega) (by omega)
        have g1' : Tape_takeNumber 1 2 6 (up2 I2 a 8 (nI x)) J2 = some (v, I3, J3) := g1
        have g2' : Mod_readNumber N 2 6 (up2 I2' 207 3 (nI x)) J2' = some (v, I3', J3') := g2
        have kp : KpF a I J I' J' I3 J3 I3' J3' := (((a3.trans d3.f).upI (by omega)).upM).trans g3.f
        have k14b : I3 a 14 = I a 14 := by rw [g3.1 _ _ (by omega), u_j (by omega), d3.1 _ _ (by omega)]; exact k14
        cases v with
        | false =>
          refine ⟨false, I3, J3, I3', J3', ?_, ?_, kp, k14b, fun q => absurd q (by simp), g5⟩
          · simp only [↓reduceIte, e2, c0, y, a1', d1', x3, g1', Option.bind_some, Bool.false_eq_true]
          · simp only [↓reduceIte, T_1, e1, c0, y, a2', d2', pt', x4, g2', put_f, Option.bind_some, Bool.false_eq_true]
        | true =>
          obtain ⟨u, t3, u1, u2, u3, u4, u5⟩ := g4 rfl
          have f3 := (f2.kp ha g3).high ha u1 u2
          refine ⟨true, up2 I3 a 9 (nI u), J3, up2 I3' 207 4 (nI u), J3', ?_, ?_, (kp.upI (by omega)).upM, by rw [u_j (by omega)]; exact k14b, fun _ => ⟨i + 1 + 1 + 1, t3, nP, 0, nE, x, u, nR, by omega, (u5.upI (by omega) (by omega) (by omega)).upM (by omega) (by omega), f3⟩, fun q => absurd q (by simp)⟩
          · simp only [↓reduceIte, e2, c0, y, a1', d1', x3, g1', u3, Option.bind_some]
          · simp only [↓reduceIte, T_1, e1, c0, y, a2', d2', pt', x4, g2', pt4', u4, Option.bind_some]
  · have y : (nF ≤ 0) = False := eq_false (by omega)
    obtain ⟨I2, I2', f1, f2, f3, f4⟩ := fail_q h (k := 3) (by omega)
    have f1' : Tape_fail 1 3 I = some (false, I2) := f1
    have f2' : Mod_bad 3 I' = some (false, I2') := f2
    refine ⟨false, I2, J, I2', J', ?_, ?_, f4.f, f4.1 _ _ (by omega), fun q => absurd q (by simp), fun _ => f3⟩
    · simp only [↓reduceIte, e2, c0, y, f1', Option.bind_some]
    · simp only [↓reduceIte, T_1, e1, c0, y, f2', Option.bind_some]
theorem risk_q (hN : 2000 ≤ N) (ha : 6 ≤ a) (ha2 : a ≤ 20) (h : At m i t I J I' J') (hf : FdR a nP nF nE nW nH nR I J I' J') (ht : 2 < t.1) : ∃ v I1 J1 I1' J1', Land_readRisk a 1 I J = some (v, I1, J1) ∧ (Option.bind (Mod_isFresh N 25 I' J') fun x2 => (if x2.1 then (Option.bind (Mod_readNumber N 0 12 x2.2.1 x2.2.2) fun x3 => (Option.bind (Mod_put 5 x3.1 x3.2.1) fun x4 => (if x4.1 then (some (true, x4.2, x3.2.2)) else (some (false, x4.2, x3.2.2))))) else (some (false, x2.2.1, x2.2.2)))) = some (v, I1', J1') ∧ OutD a m i v I J I' J' I1 J1 I1' J1' := by
  obtain ⟨v, I1, J1, I1', J1', a1, a2, a3, a4, a5⟩ := once_q hN ha h hf (q := 1) (by omega) ht
  have a1' : Land_takeOnce a 1 1 I J = some (v, I1, J1) := a1
  have a2' : Mod_isFresh N 25 I' J' = some (v, I1', J1') := a2
  have k14 := once14 ha a1
  have pt' : ∀ X : FI, Mod_put 5 true X = some (true, up2 X 207 5 (X 204 13)) := fun X => put_t (I := X) (k := 5) (by omega)
  unfold Land_readRisk
  cases v with
  | false =>
    refine ⟨false, I1, J1, I1', J1', ?_, ?_, a3, k14, fun q => absurd q (by simp), a5⟩
    · simp only [↓reduceIte, a1', Option.bind_some, Bool.false_eq_true]
    · simp only [↓reduceIte, a2', Option.bind_some, Bool.false_eq_true]
  | true =>
    obtain ⟨t1, b1, b2⟩ := a4 rfl
    obtain ⟨v, I2, J2, I2', J2', d1, d2, d3, d4, d5⟩ := takeNum_q hN b1 (lo := 0) (hi := 12) (by omega) (by omega)
    have d1' : Tape_takeNumber 1 0 12 I1 J1 = some (v, I2, J2) := d1
    have d2' : Mod_readNumber N 0 12 I1' J1' = some (v, I2', J2') := d2
    have k14b : I2 a 14 = I a 14 := by rw [d3.1 _ _ (by omega)]; exact k14
    cases v with
    | false =>
      refine ⟨false, I2, J2, I2', J2', ?_, ?_, a3.trans d3.f, k14b, fun q => absurd q (by simp), d5⟩
      · simp only [↓reduceIte, a1', d1', Option.bind_some, Bool.false_eq_true]
      · simp only [↓reduceIte, a2', d2', put_f, Option.bind_some, Bool.false_eq_true]
    | true =>
      obtain ⟨x, t2, x1, x2, x3, x4, x5⟩ := d4 rfl
      refine ⟨true, up2 I2 a 10 (nI x), J2, up2 I2' 207 5 (nI x), J2', ?_, ?_, ((a3.trans d3.f).upI (by omega)).upM, by rw [u_j (by omega)]; exact k14b, fun _ => ⟨i + 1 + 1, t2, nP, nF, nE, nW, nH, x, by omega, (x5.upI (by omega) (by omega) (by omega)).upM (by omega) (by omega), (b2.kp ha d3).rsk ha x2⟩, fun q => absurd q (by simp)⟩
      · simp only [↓reduceIte, a1', d1', x3, Option.bind_some]
      · simp only [↓reduceIte, a2', d2', pt', x4, Option.bind_some]
end Q82

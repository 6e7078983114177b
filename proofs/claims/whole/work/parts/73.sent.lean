/-! a sentence as steps and as nodes: both sides -/
section Q73
variable {N a b ln sp sn ss nP nF nE nW nH nR : Nat} {I I' : FI} {J J' : FJ} {t : Nat × Nat × List Nat} {i s o w : Nat} {L : List Nat}
/-- a step that needs no other: words of the book W, F, S against the model's numbers g -/
def LeafR (nP : Nat) (W F S g : Nat → Int32) (s : Nat) : Prop :=
  (∃ x y, ((x = 8 ∧ y = 76) ∨ (x = 9 ∧ y = 77) ∨ (x = 10 ∧ y = 78) ∨ (x = 11 ∧ y = 79) ∨ (x = 19 ∧ y = 74) ∨ (x = 20 ∧ y = 75) ∨ (x = 28 ∧ y = 72) ∨ (x = 29 ∧ y = 73)) ∧ W s = nI x ∧ g (4 * s) = nI y) ∨
  (W s = nI 30 ∧ g (4 * s) = nI 80 ∧ F s = g (4 * s + 1)) ∨
  (∃ x c v, 31 ≤ x ∧ x ≤ 34 ∧ (c = 60 ∨ c = 61 ∨ c = 62) ∧ v ≤ 999 ∧ W s = nI x ∧ g (4 * s) = nI (50 + x) ∧ F s = nI c ∧ g (4 * s + 3) = nI c ∧ S s = nI v ∧ g (4 * s + 2) = nI v)
def NotR (W g : Nat → Int32) (s r : Nat) : Prop := W s = nI 27 ∧ g (4 * s) = nI 1 ∧ g (4 * s + 1) = nI r
def BinR (W g : Nat → Int32) (s r1 r2 : Nat) : Prop := ((W s = nI 26 ∧ g (4 * s) = nI 2) ∨ (W s = nI 25 ∧ g (4 * s) = nI 3)) ∧ g (4 * s + 1) = nI r1 ∧ g (4 * s + 2) = nI r2
/-- behind s steps the nodes L stand on the stack, the last first -/
def StkR (nP : Nat) (W F S g : Nat → Int32) : Nat → List Nat → Prop
  | 0 => fun L => L = []
  | s + 1 => fun L => ∃ K, StkR nP W F S g s K ∧ ((LeafR nP W F S g s ∧ K.length < 20 ∧ L = s :: K) ∨ (∃ r K', K = r :: K' ∧ NotR W g s r ∧ L = s :: K') ∨ (∃ r1 r2 K', K = r2 :: r1 :: K' ∧ BinR W g s r1 r2 ∧ L = s :: K'))
theorem StkR.to {W F S g W1 F1 S1 g1 : Nat → Int32} : ∀ s L, StkR nP W F S g s L → (∀ j, j < s → W1 j = W j ∧ F1 j = F j ∧ S1 j = S j) → (∀ j, j < 4 * s → g1 j = g j) → StkR nP W1 F1 S1 g1 s L := by
  intro s
  induction s with
  | zero => intro L h _ _; exact h
  | succ s ih =>
    intro L h hW hg
    obtain ⟨K, h1, h2⟩ := h
    have e := hW s (by omega)
    refine ⟨K, ih K h1 (fun j hj => hW j (by omega)) (fun j hj => hg j (by omega)), ?_⟩
    rcases h2 with ⟨a1, a2⟩ | ⟨r, K', a1, a2, a3⟩ | ⟨r1, r2, K', a1, a2, a3⟩
    · refine Or.inl ⟨?_, a2⟩
      unfold LeafR
      rw [e.1, e.2.1, e.2.2, hg (4 * s) (by omega), hg (4 * s + 1) (by omega), hg (4 * s + 2) (by omega), hg (4 * s + 3) (by omega)]
      exact a1
    · refine Or.inr (Or.inl ⟨r, K', a1, ?_, a3⟩)
      unfold NotR
      rw [e.1, hg (4 * s) (by omega), hg (4 * s + 1) (by omega)]
      exact a2
    · refine Or.inr (Or.inr ⟨r1, r2, K', a1, ?_, a3⟩)
      unfold BinR
      rw [e.1, hg (4 * s) (by omega), hg (4 * s + 1) (by omega), hg (4 * s + 2) (by omega)]
      exact a2
/-- what reading a sentence may touch -/
def KpS (a : Nat) (I : FI) (J : FJ) (I' : FI) (J' : FJ) (I1 : FI) (J1 : FJ) (I1' : FI) (J1' : FJ) : Prop := (∀ x j, ¬ (x = 1 ∧ 8 ≤ j ∧ j ≤ 15) → ¬ (x = a ∧ (j = 4 ∨ j = 5)) → ¬ (a + 1 ≤ x ∧ x ≤ a + 3) → I1 x j = I x j) ∧ (∀ x j, ¬ (x = 1 ∧ j = 10) → J1 x j = J x j) ∧ (∀ x j, ¬ (x = 204 ∧ ((5 ≤ j ∧ j ≤ 13) ∨ (42 ≤ j ∧ j ≤ 45))) → x ≠ 224 → I1' x j = I' x j) ∧ (∀ x j, ¬ (x = 204 ∧ j = 12) → J1' x j = J' x j)
theorem KpS.rfl : KpS a I J I' J' I J I' J' := ⟨fun _ _ _ _ _ => Eq.refl _, fun _ _ _ => Eq.refl _, fun _ _ _ _ => Eq.refl _, fun _ _ _ => Eq.refl _⟩
theorem KpS.trans {I1 I1' I2 I2' : FI} {J1 J1' J2 J2' : FJ} (h : KpS a I J I' J' I1 J1 I1' J1') (g : KpS a I1 J1 I1' J1' I2 J2 I2' J2') : KpS a I J I' J' I2 J2 I2' J2' := ⟨fun x j w u z => (g.1 x j w u z).trans (h.1 x j w u z), fun x j w => (g.2.1 x j w).trans (h.2.1 x j w), fun x j w u => (g.2.2.1 x j w u).trans (h.2.2.1 x j w u), fun x j w => (g.2.2.2 x j w).trans (h.2.2.2 x j w)⟩
theorem Kp.sk1 {I1 I1' : FI} {J1 J1' : FJ} (h : Kp I J I' J' I1 J1 I1' J1') : KpS a I J I' J' I1 J1 I1' J1' := ⟨fun x j w _ _ => h.1 x j w, h.2.1, fun x j w _ => h.2.2.1 x j (by omega), h.2.2.2⟩
theorem NmR.to4 {I1 I1' : FI} {J1 J1' : FJ} (ha : 45 ≤ a) (h : NmR ln nP nF I J I' J') (g : KpS a I J I' J' I1 J1 I1' J1') : NmR ln nP nF I1 J1 I1' J1' := by
  have h12 := h.2.1
  exact h.to3 (fun j => g.1 _ _ (by have := h.1; omega) (by omega) (by omega)) (fun x j hx => g.2.1 x j (by omega)) (fun j => g.2.2.1 _ _ (by omega) (by omega)) (fun j => g.2.2.2 _ _ (by omega))
/-- both sides as they read a sentence: within w, s steps, o ones, the stack L -/
def SnS (a ln nP nF w s o : Nat) (L : List Nat) (i : Nat) (t : Nat × Nat × List Nat) (I : FI) (J : FJ) (I' : FI) (J' : FJ) : Prop := At 200 i t I J I' J' ∧ NmR ln nP nF I J I' J' ∧ I a 4 = nI s ∧ I' 204 42 = nI s ∧ I a 5 = nI o ∧ I' 204 43 = nI o ∧ I' 204 44 = nI w ∧ s ≤ 2 * o ∧ o ≤ 20 ∧ L.length ≤ o ∧ StkR nP (I (a + 1)) (I (a + 2)) (I (a + 3)) (I' 224) s L
theorem SnS.kp {I1 I1' : FI} {J1 J1' : FJ} {i1 : Nat} {t1 : Nat × Nat × List Nat} (ha : 45 ≤ a) (h : SnS a ln nP nF w s o L i t I J I' J') (g : Kp I J I' J' I1 J1 I1' J1') (hA : At 200 i1 t1 I1 J1 I1' J1') : SnS a ln nP nF w s o L i1 t1 I1 J1 I1' J1' := by
  obtain ⟨h1, h2, h3, h4, h5, h6, h7, h8, h9, h10, h11⟩ := h
  refine ⟨hA, h2.to4 ha (g.sk1 (a := a)), ?_, ?_, ?_, ?_, ?_, h8, h9, h10, h11.to s L ?_ ?_⟩
  · rw [g.1 _ _ (by omega)]; exact h3
  · rw [g.2.2.1 _ _ (by omega)]; exact h4
  · rw [g.1 _ _ (by omega)]; exact h5
  · rw [g.2.2.1 _ _ (by omega)]; exact h6
  · rw [g.2.2.1 _ _ (by omega)]; exact h7
  · exact fun j _ => ⟨g.1 _ _ (by omega), g.1 _ _ (by omega), g.1 _ _ (by omega)⟩
  · exact fun j _ => g.2.2.1 _ _ (by omega)
/-- one step more, on both sides -/
def addI (a s : Nat) (x y z : Int32) (I : FI) : FI := up2 (up2 (up2 (up2 I (a + 1) s x) (a + 2) s y) (a + 3) s z) a 4 (nI (s + 1))
def sayI (s : Nat) (x y z u : Int32) (I : FI) : FI := up2 (up2 (up2 (up2 (up2 I 224 (4 * s) x) 224 (4 * s + 1) y) 224 (4 * s + 2) z) 224 (4 * s + 3) u) 204 42 (nI (s + 1))
theorem add_e {x y z : Int32} (h : I a 4 = nI s) (hs : s < 40) : Sentence_add a x y z I = some (addI a s x y z I) := by
  have t1 : (40 ≤ nI s) = False := by rw [L_40, le_nI (by omega) (by omega)]; exact eq_false (by omega)
  have t2 : in9 (nI s) 40 = True := in9_t (by omega) (by omega)
  have t3 : (nI s).toNatClampNeg = s := tN (by omega)
  have e1 : ∀ v, up2 I (a + 1) s v a = I a := fun v => u_o (by omega)
  have e2 : ∀ v v2, up2 (up2 I (a + 1) s v) (a + 2) s v2 a = I a := fun v v2 => by rw [u_o (by omega), u_o (by omega)]
  have e3 : ∀ v v2 v3, up2 (up2 (up2 I (a + 1) s v) (a + 2) s v2) (a + 3) s v3 a = I a := fun v v2 v3 => by rw [u_o (by omega), u_o (by omega), u_o (by omega)]
  unfold Sentence_add addI
  simp only [↓reduceIte, h, t1, t2, t3, e1, e2, e3, nS, Option.bind_some]
theorem says_e {x y z u : Int32} (h : I' 204 42 = nI s) (hs : s < 40) : Mod_saysOne x y z u I' = some (nI s, sayI s x y z u I') := by
  have m4 : 4 * nI s = nI (4 * s) := mx_4 s
  have a1 : nI (4 * s) + 1 = nI (4 * s + 1) := nA _ 1
  have a2 : nI (4 * s) + 2 = nI (4 * s + 2) := nA _ 2
  have a3 : nI (4 * s) + 3 = nI (4 * s + 3) := nA _ 3
  have g0 : in9 (nI (4 * s)) 240 = True := in9_t (by omega) (by omega)
  have g1 : in9 (nI (4 * s + 1)) 240 = True := in9_t (by omega) (by omega)
  have g2 : in9 (nI (4 * s + 2)) 240 = True := in9_t (by omega) (by omega)
  have g3 : in9 (nI (4 * s + 3)) 240 = True := in9_t (by omega) (by omega)
  have t0 : (nI (4 * s)).toNatClampNeg = 4 * s := tN (by omega)
  have t1 : (nI (4 * s + 1)).toNatClampNeg = 4 * s + 1 := tN (by omega)
  have t2 : (nI (4 * s + 2)).toNatClampNeg = 4 * s + 2 := tN (by omega)
  have t3 : (nI (4 * s + 3)).toNatClampNeg = 4 * s + 3 := tN (by omega)
  have e1 : ∀ k v, up2 I' 224 k v 204 = I' 204 := fun k v => u_o (by omega)
  have e2 : ∀ k v k2 v2, up2 (up2 I' 224 k v) 224 k2 v2 204 = I' 204 := fun k v k2 v2 => by rw [u_o (by omega), u_o (by omega)]
  have e3 : ∀ k v k2 v2 k3 v3, up2 (up2 (up2 I' 224 k v) 224 k2 v2) 224 k3 v3 204 = I' 204 := fun k v k2 v2 k3 v3 => by rw [u_o (by omega), u_o (by omega), u_o (by omega)]
  have e4 : ∀ k v k2 v2 k3 v3 k4 v4, up2 (up2 (up2 (up2 I' 224 k v) 224 k2 v2) 224 k3 v3) 224 k4 v4 204 = I' 204 := fun k v k2 v2 k3 v3 k4 v4 => by rw [u_o (by omega), u_o (by omega), u_o (by omega), u_o (by omega)]
  have us : ∀ (X : FI) v, up2 X 204 42 v 204 42 = v := fun X v => u_s
  have sb1 : nI (s + 1) - 1 = nI s := by rw [L_1, nSb (by omega)]; rfl
  unfold Mod_saysOne sayI
  simp only [↓reduceIte, h, m4, a1, a2, a3, g0, g1, g2, g3, t0, t1, t2, t3, e1, e2, e3, e4, us, sb1, nS, Option.bind_some]
theorem addI_W {x y z : Int32} (ha : 1 ≤ a) : addI a s x y z I (a + 1) s = x ∧ addI a s x y z I (a + 2) s = y ∧ addI a s x y z I (a + 3) s = z ∧ (∀ j, j < s → addI a s x y z I (a + 1) j = I (a + 1) j ∧ addI a s x y z I (a + 2) j = I (a + 2) j ∧ addI a s x y z I (a + 3) j = I (a + 3) j) := by
  unfold addI
  refine ⟨?_, ?_, ?_, fun j hj => ⟨?_, ?_, ?_⟩⟩
  · rw [u_o (by omega), u_o (by omega), u_o (by omega), u_s]
  · rw [u_o (by omega), u_o (by omega), u_s]
  · rw [u_o (by omega), u_s]
  · rw [u_o (by omega), u_o (by omega), u_o (by omega), u_j (by omega)]
  · rw [u_o (by omega), u_o (by omega), u_j (by omega), u_o (by omega)]
  · rw [u_o (by omega), u_j (by omega), u_o (by omega), u_o (by omega)]
theorem sayI_g {x y z u : Int32} : sayI s x y z u I' 224 (4 * s) = x ∧ sayI s x y z u I' 224 (4 * s + 1) = y ∧ sayI s x y z u I' 224 (4 * s + 2) = z ∧ sayI s x y z u I' 224 (4 * s + 3) = u ∧ (∀ j, j < 4 * s → sayI s x y z u I' 224 j = I' 224 j) := by
  unfold sayI
  refine ⟨?_, ?_, ?_, ?_, fun j hj => ?_⟩
  · rw [u_o (by omega), u_j (by omega), u_j (by omega), u_j (by omega), u_s]
  · rw [u_o (by omega), u_j (by omega), u_j (by omega), u_s]
  · rw [u_o (by omega), u_j (by omega), u_s]
  · rw [u_o (by omega), u_s]
  · rw [u_o (by omega), u_j (by omega), u_j (by omega), u_j (by omega), u_j (by omega)]
theorem addI_o {x y z : Int32} {q j : Nat} (h1 : ¬ (a + 1 ≤ q ∧ q ≤ a + 3)) (h2 : ¬ (q = a ∧ j = 4)) : addI a s x y z I q j = I q j := by
  unfold addI
  rw [up2_ff h2, u_o (by omega), u_o (by omega), u_o (by omega)]
theorem sayI_o {x y z u : Int32} {q j : Nat} (h1 : q ≠ 224) (h2 : ¬ (q = 204 ∧ j = 42)) : sayI s x y z u I' q j = I' q j := by
  unfold sayI
  rw [up2_ff h2, u_o h1, u_o h1, u_o h1, u_o h1]
theorem addsay_kp {x y z x' y' z' u' : Int32} : KpS a I J I' J' (addI a s x y z I) J (sayI s x' y' z' u' I') J' := by
  refine ⟨fun x j w1 w2 w3 => ?_, fun _ _ _ => Eq.refl _, fun x j w1 w2 => ?_, fun _ _ _ => Eq.refl _⟩
  · unfold addI
    rw [up2_ff (by omega), u_o (by omega), u_o (by omega), u_o (by omega)]
  · unfold sayI
    rw [up2_ff (by omega), u_o w2, u_o w2, u_o w2, u_o w2]
/-- a step is laid on both sides -/
theorem SnS.push {x y z x' y' z' u' : Int32} {K : List Nat} (ha : 45 ≤ a) (h : SnS a ln nP nF w s o L i t I J I' J') (hs : s < 2 * o) (hK : K.length ≤ o) (hp : (LeafR nP (addI a s x y z I (a + 1)) (addI a s x y z I (a + 2)) (addI a s x y z I (a + 3)) (sayI s x' y' z' u' I' 224) s ∧ L.length < 20 ∧ s :: K = s :: L) ∨ (∃ r K', L = r :: K' ∧ NotR (addI a s x y z I (a + 1)) (sayI s x' y' z' u' I' 224) s r ∧ s :: K = s :: K') ∨ (∃ r1 r2 K', L = r2 :: r1 :: K' ∧ BinR (addI a s x y z I (a + 1)) (sayI s x' y' z' u' I' 224) s r1 r2 ∧ s :: K = s :: K')) (hK2 : (s :: K).length ≤ o) : SnS a ln nP nF w (s + 1) o (s :: K) i t (addI a s x y z I) J (sayI s x' y' z' u' I') J' := by
  obtain ⟨h1, h2, h3, h4, h5, h6, h7, h8, h9, h10, h11⟩ := h
  have kp : KpS a I J I' J' (addI a s x y z I) J (sayI s x' y' z' u' I') J' := addsay_kp
  have hw := addI_W (I := I) (s := s) (x := x) (y := y) (z := z) (show 1 ≤ a by omega)
  have hg := sayI_g (I' := I') (s := s) (x := x') (y := y') (z := z') (u := u')
  refine ⟨h1.congr (fun y j w => addI_o (by omega) (by omega)) (fun _ _ _ => Eq.refl _) (fun y j w => sayI_o (by omega) (by omega)) (Eq.refl _), h2.to4 ha kp, ?_, ?_, ?_, ?_, ?_, by omega, h9, hK2, L, h11.to s L hw.2.2.2 hg.2.2.2.2, hp⟩
  · unfold addI; rw [u_s]
  · unfold sayI; rw [u_s]
  · unfold addI; rw [u_j (by omega), u_o (by omega), u_o (by omega), u_o (by omega)]; exact h5
  · unfold sayI; rw [u_j (by omega), u_o (by omega), u_o (by omega), u_o (by omega), u_o (by omega)]; exact h6
  · unfold sayI; rw [u_j (by omega), u_o (by omega), u_o (by omega), u_o (by omega), u_o (by omega)]; exact h7
end Q73

/-! what is asked of doubt: both sides -/
section Q43
variable {N b ln sp sn ss nP nF nE nW nH nR : Nat} {I I' : FI} {J J' : FJ}
theorem doubt_l {I0 I0' : FI} (h0 : QR N 25 ln nP nF nE nW nH nR I0 I0') {x y n : Nat} (hx : x < nW) (hy : y < nH) (hn : n ≤ 30) (l4 v0 : Int32) : ∀ m k f f' (acc : Int32) (I I' : FI), k + m = n → m < f → m < f' → (∀ q i, q ≤ 34 → I q i = I0 q i) → (∀ i, I' 206 i = I0' 206 i) → (∀ i, i < 107 → I' 210 i = I0' 206 (102 + i)) → ∃ v I1 I1', Hol_doubt_45 N ln sp sn ss f (nI x) (nI y) (nI n) l4 v0 acc (nI k) I = some (v, I1) ∧ Mod_doubt_51 N f' (nI x) (nI y) (nI n) l4 (bitsF (fun f => decide (I0' 206 (135 + f) = 2)) nF) v0 acc (nI k) I' = some (v, I1') ∧ (∀ q i, q ≤ 34 → I1 q i = I0 q i) ∧ (∀ i, I1' 206 i = I0' 206 i) := by
  have hb := h0.bd
  have hN := h0.nN
  intro m
  induction m with
  | zero =>
    intro k f f' acc I I' hk hf hf' g1 g2 g3
    obtain ⟨f, rfl⟩ : ∃ e, f = e + 1 := ⟨f - 1, by omega⟩
    obtain ⟨f', rfl⟩ : ∃ e, f' = e + 1 := ⟨f' - 1, by omega⟩
    obtain rfl : k = n := by omega
    exact ⟨acc, I, I', by simp (disch := omega) only [Hol_doubt_45, le_nI, ifT], by simp (disch := omega) only [Mod_doubt_51, le_nI, ifT], g1, g2⟩
  | succ m ih =>
    intro k f f' acc I I' hk hf hf' g1 g2 g3
    obtain ⟨f, rfl⟩ : ∃ e, f = e + 1 := ⟨f - 1, by omega⟩
    obtain ⟨f', rfl⟩ : ∃ e, f' = e + 1 := ⟨f' - 1, by omega⟩
    have hq : QR N 25 ln nP nF nE nW nH nR I I' := h0.of25 g1 (fun i _ => g2 i)
    obtain ⟨I1, e1, q1, r1⟩ := hq.copy
    obtain ⟨I2, I2', a1, a2, a3, a4, a5, a6⟩ := gath_l (s := bitsF (fun f => decide (I0' 206 (135 + f) = 2)) nF) hx hy (fun x1 x2 x3 x4 x5 x6 x7 x8 I => Mod_doubt_51 N f' x1 x2 x3 x4 x5 x6 x7 x8 I) (nI n) l4 v0 acc (nI k) nF 0 N (N - 10 + (10 - nF)) I1 I' (by omega) (by omega) q1 (fun g _ hg => by rw [told_bt h0 hg, g2]) (fun g hg => by omega)
    obtain ⟨I3', c2, c3, c4, c5, c6⟩ := gath_h (I := I2) (s := bitsF (fun f => decide (I0' 206 (135 + f) = 2)) nF) (l1 := nI x) (l2 := nI y) (fun k a b => told_hi hb.2.1 a b) (fun x1 x2 x3 x4 x5 x6 x7 x8 I => Mod_doubt_51 N f' x1 x2 x3 x4 x5 x6 x7 x8 I) (nI n) l4 v0 acc (nI k) (10 - nF) nF (N - 10) I2' (by omega) (Nat.le_refl _) a3
    rw [c2, show N - 10 + (10 - nF) + nF = N from by omega] at a2
    obtain ⟨M, hM⟩ : ∃ e, N - 10 = e + 1 := ⟨N - 11, by omega⟩
    have A2 : ((10 : Int32) ≤ nI 10) = True := eq_true (by decide)
    rw [hM] at a2
    simp only [↓reduceIte, Mod_doubt_60, A2, Option.bind_some] at a2
    obtain ⟨I4, I4', p1, p2, p3, p4, p5, p6⟩ := pl_l (N := N) (sp := sp) (sn := sn) (ss := ss) (s := bitsF (fun f => decide (I0' 206 (135 + f) = 2)) nF) (l1 := nI x) (l2 := nI y) (z1 := nI x) (z2 := nI y) (z3 := l4 + nI k) (l3 := nI n) (l4 := l4) (l6 := v0) (l7 := acc) (l8 := nI k) (fun x1 x2 x3 x4 x5 x6 x7 x8 I => Mod_doubt_51 N f' x1 x2 x3 x4 x5 x6 x7 x8 I) 3 0 N N (up2 I2 192 0 (l4 + nI k)) (up2 I3' 204 25 (l4 + nI k)) (by omega) (by omega) (by omega) c3.seed (by rw [u_s, u_s])
    have stt : ∀ g, g < nF → bt (bitsF (fun f => decide (I0' 206 (135 + f) = 2)) nF) g = decide (I4' 206 (135 + g) = 0) := by
      intro g hg
      have d1 : I4' 206 (135 + g) = I3' 206 (135 + g) := by
        rw [← p3.stat_35 hg, p4 39 g (by omega) (by omega) (by omega) (by omega) (by omega) (by omega), u_o (by omega), c3.stat_35 hg]
      rw [d1, c4 g hg, a4 g hg]
      cases bt (bitsF (fun f => decide (I0' 206 (135 + f) = 2)) nF) g <;> decide
    have sv := steps_q p3 0
    have sv' := spread_q (N := N) (I' := I4') (s := bitsF (fun f => decide (I0' 206 (135 + f) = 2)) nF) hN hb.2.1 (fun k a b => told_hi hb.2.1 a b)
    rw [spF_congr (q := fun f => decide (I4' 206 (135 + f) = 0)) (fun g hg => stt g hg)] at sv'
    generalize spF (fun f => decide (I4' 206 (135 + f) = 0)) (wayF (I4' 206)) nF = v at sv sv'
    rw [sv, Option.bind_some] at p1
    rw [sv', Option.bind_some] at p2
    have tb := back_e (N := N) (I := I4') hN
    rw [tb, Option.bind_some, Option.bind_some] at p2
    have sp1 : Hol_spreadByPlough N ln sp sn ss (nI x) (nI y) (l4 + nI k) I = some (v, I4) := by
      unfold Hol_spreadByPlough State_gatherTold
      rw [show nI 0 = (0 : Int32) from rfl] at a1 p1
      rw [e1, Option.bind_some, a1, Option.bind_some, Option.bind_some, p1]
    have fr1 : ∀ q i, q ≤ 34 → I4 q i = I0 q i := by
      intro q i hq
      rw [p4 q i (by omega) (by omega) (by omega) (by omega) (by omega) (by omega), u_o (by omega)]
      have : I2 q i = I1 q i := fr_State_gatherTold (N := N) (a0 := 35) (a1 := ln) (l2 := nI x) (l3 := nI y) (by omega) (by omega) (by omega) (by omega) a1
      rw [this, r1 q i (by omega)]
      exact g1 q i hq
    have fr2 : ∀ i, I4' 210 i = I' 210 i := fun i => by rw [p5 210 i (by omega) (by omega), u_o (by omega), c6 210 i (by omega), a6 210 i (by omega)]
    have lo : ∀ j, j < 102 ∨ 209 ≤ j → I4' 206 j = I' 206 j := fun j hj => by rw [p6 j hj, u_o (by omega), c5 j hj, a5 j hj]
    have b1 : ∀ i, cp2 I4' 210 0 206 102 107 206 i = I0' 206 i := by
      intro i
      by_cases z : 102 ≤ i ∧ i < 209
      · rw [cp2_i z.1 (by omega), fr2, g3 _ (by omega)]
        exact congrArg (I0' 206) (by omega)
      · rw [cp2_j (by omega), lo i (by omega)]; exact g2 i
    have b2 : ∀ i, i < 107 → cp2 I4' 210 0 206 102 107 210 i = I0' 206 (102 + i) := fun i hi => by rw [cp2_o (by omega), fr2]; exact g3 i hi
    have A1 : (nI n ≤ nI k) = False := by rw [le_nI (by omega) (by omega)]; exact eq_false (by omega)
    by_cases c : v < v0
    · obtain ⟨v1, I5, I5', x1, x2, x3, x4⟩ := ih (k + 1) f f' acc I4 _ (by omega) (by omega) (by omega) fr1 b1 b2
      refine ⟨v1, I5, I5', ?_, ?_, x3, x4⟩
      · rw [← x1]; simp only [↓reduceIte, Hol_doubt_45, A1, sp1, c, nS, Option.bind_some]
      · rw [if_pos c, nS] at p2
        rw [← x2, ← p2]
        show Mod_doubt_51 N (f' + 1) _ _ _ _ _ _ _ _ _ = _
        simp only [↓reduceIte, Mod_doubt_51, A1]
        exact a2
    · obtain ⟨v1, I5, I5', x1, x2, x3, x4⟩ := ih (k + 1) f f' (acc + 1) I4 _ (by omega) (by omega) (by omega) fr1 b1 b2
      refine ⟨v1, I5, I5', ?_, ?_, x3, x4⟩
      · rw [← x1]; simp only [↓reduceIte, Hol_doubt_45, A1, sp1, c, nS, Option.bind_some]
      · rw [if_neg c, nS] at p2
        rw [← x2, ← p2]
        show Mod_doubt_51 N (f' + 1) _ _ _ _ _ _ _ _ _ = _
        simp only [↓reduceIte, Mod_doubt_51, A1]
        exact a2
theorem op_doubt (h : QR N 25 ln nP nF nE nW nH nR I I') (l1 l2 l3 l4 : Int32) : ∃ v I1 I1', Hol_doubt N ln sp sn ss l1 l2 l3 l4 I = some (v, I1) ∧ Mod_doubt N l1 l2 l3 l4 I' = some (v, I1') ∧ (∀ q i, q ≤ 34 → I1 q i = I q i) ∧ (∀ i, I1' 206 i = I' 206 i) := by
  have hb := h.bd
  have hN := h.nN
  have h1 := h.thr (v := 0)
  have u6 : ∀ i, up2 I' 204 0 0 206 i = I' 206 i := fun i => by rw [u_o (by omega)]
  unfold Hol_doubt Mod_doubt
  rcases is_cell h1 l1 l2 with ⟨a, b, i, j, hi, hj, rfl, rfl⟩ | ⟨a, b⟩
  · by_cases c1 : l3 < 1
    · have c1' := eq_true c1
      refine ⟨-1, I, up2 I' 204 0 0, ?_, ?_, fun _ _ _ => rfl, u6⟩
      · simp only [↓reduceIte, a, c1']
      · simp only [↓reduceIte, b, Mod_isIn, c1', Bool.false_eq_true, Option.bind_some]
    · have c1' := eq_false c1
      obtain ⟨n, hn0, rfl⟩ := nNN (x := l3) (fun z => c1 (Int32.lt_trans z (by decide)))
      by_cases c2 : n ≤ 30
      · have c3 : (nI n ≤ 30) = True := by rw [show (30 : Int32) = nI 30 from id rfl, le_nI (by omega) (by omega)]; exact eq_true c2
        have c4 : (30 < nI n) = False := by rw [show (30 : Int32) = nI 30 from id rfl, lt_nI (by omega) (by omega)]; exact eq_false (by omega)
        obtain ⟨g1, g2⟩ := bits_q h1 2
        have sv := steps_q h1 2
        have sv' := spread_q (N := N) (I' := up2 I' 204 0 0) (s := bitsF (fun f => decide (up2 I' 204 0 0 206 (135 + f) = 2)) nF) hN hb.2.1 (fun k a b => told_hi hb.2.1 a b)
        rw [spF_congr (fun k hk => told_bt h1 hk)] at sv'
        have ea := aside_e (N := N) (I := up2 I' 204 0 0) hN
        obtain ⟨v, I1, I1', x1, x2, x3, x4⟩ := doubt_l (sp := sp) (sn := sn) (ss := ss) h1 hi hj c2 l4 (spF (fun f => decide (up2 I' 204 0 0 206 (135 + f) = 2)) (wayF (up2 I' 204 0 0 206)) nF) n 0 N N 0 I (cp2 (up2 I' 204 0 0) 206 102 210 0 107) (by omega) (by omega) (by omega) (fun _ _ _ => rfl) (fun i => by rw [cp2_o (by omega)]) (fun i hi => by rw [cp2_i (by omega) (by omega)]; exact congrArg _ (by omega))
        rw [show nI 0 = (0 : Int32) from rfl] at x1 x2
        refine ⟨v, I1, I1', ?_, ?_, x3, fun i => (x4 i).trans (u6 i)⟩
        · simp only [↓reduceIte, a, c1', c3, sv, Option.bind_some]; exact x1
        · simp only [↓reduceIte, b, Mod_isIn, c1', c4, g2, sv', ea, Option.bind_some]; exact x2
      · have c3 : (nI n ≤ 30) = False := by rw [show (30 : Int32) = nI 30 from id rfl, le_nI (by omega) (by omega)]; exact eq_false c2
        have c4 : (30 < nI n) = True := by rw [show (30 : Int32) = nI 30 from id rfl, lt_nI (by omega) (by omega)]; exact eq_true (by omega)
        refine ⟨-1, I, up2 I' 204 0 0, ?_, ?_, fun _ _ _ => rfl, u6⟩
        · simp only [↓reduceIte, a, c1', c3]
        · simp only [↓reduceIte, b, Mod_isIn, c1', c4, Bool.false_eq_true, Option.bind_some]
  · refine ⟨-1, I, up2 I' 204 0 0, ?_, ?_, fun _ _ _ => rfl, u6⟩
    · simp only [↓reduceIte, a, Bool.false_eq_true]
    · simp only [↓reduceIte, b, Bool.false_eq_true, Option.bind_some]
end Q43

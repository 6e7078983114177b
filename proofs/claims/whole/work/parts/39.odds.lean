/-! what might come of nights and of ploughing: both sides -/
section Q39
variable {N b ln sp sn ss nP nF nE nW nH nR : Nat} {I I' : FI} {J J' : FJ}
theorem QR.of25 (h : QR N 25 ln nP nF nE nW nH nR I I') {I1 I1' : FI} (h1 : ∀ q j, q ≤ 34 → I1 q j = I q j) (h2 : ∀ j, j < 209 → I1' 206 j = I' 206 j) : QR N 25 ln nP nF nE nW nH nR I1 I1' :=
  ⟨h.nN, h.lw.of (fun j hj => h2 j (by omega)), h.ld.of (fun q j _ g => h1 q j (by have := h.dis; omega)) (fun j hj => h2 j (by omega)) h.bd.2.1 h.bd.2.2.1, h.st.of (fun q j _ g => h1 q j (by omega)) (fun j _ hj => h2 j hj) h.bd.2.1, h.sw.of h.bd.2.1 (fun j _ hj => h2 j hj), h.dis⟩
theorem QR.copy (h : QR N 25 ln nP nF nE nW nH nR I I') : ∃ I1, State_copy 35 25 I = some I1 ∧ QR N 35 ln nP nF nE nW nH nR I1 I' ∧ (∀ q j, q < 35 ∨ 44 < q → I1 q j = I q j) := by
  obtain ⟨I1, e1, e2, e3⟩ := copy_e (a := 35) (b := 25) (by omega) I
  have hd := h.dis
  exact ⟨I1, e1, ⟨h.nN, h.lw, h.ld.of (fun q j _ g => e3 q j (by omega)) (fun _ _ => rfl) h.bd.2.1 h.bd.2.2.1, e2 nF _ h.bd.2.1 h.st, h.sw, by omega⟩, fun q j hq => e3 q j (by omega)⟩
theorem odds_l {I0 I0' : FI} (h0 : QR N 25 ln nP nF nE nW nH nR I0 I0') (hP : 0 < nP) {j n : Nat} (hj : j < nF) (hn : n ≤ 30) (l3 : Int32) : ∀ m k f f' (acc : Int32) (I I' : FI), k + m = n → m < f → m < f' → (∀ q i, q ≤ 34 → I q i = I0 q i) → (∀ i, I' 206 i = I0' 206 i) → (∀ i, i < 107 → I' 210 i = I0' 206 (102 + i)) → ∃ v I1 I1', Hol_odds_40 N ln sp sn ss f (nI j) (nI n) l3 acc (nI k) I = some (v, I1) ∧ Mod_odds_44 N f' (nI j) (nI n) l3 acc (nI k) I' = some (v, I1') ∧ (∀ q i, q ≤ 34 → I1 q i = I0 q i) ∧ (∀ i, I1' 206 i = I0' 206 i) := by
  have hb := h0.bd
  have hN := h0.nN
  intro m
  induction m with
  | zero =>
    intro k f f' acc I I' hk hf hf' g1 g2 g3
    obtain ⟨f, rfl⟩ : ∃ e, f = e + 1 := ⟨f - 1, by omega⟩
    obtain ⟨f', rfl⟩ : ∃ e, f' = e + 1 := ⟨f' - 1, by omega⟩
    obtain rfl : k = n := by omega
    exact ⟨acc, I, I', by simp (disch := omega) only [Hol_odds_40, le_nI, ifT], by simp (disch := omega) only [Mod_odds_44, le_nI, ifT], g1, g2⟩
  | succ m ih =>
    intro k f f' acc I I' hk hf hf' g1 g2 g3
    obtain ⟨f, rfl⟩ : ∃ e, f = e + 1 := ⟨f - 1, by omega⟩
    obtain ⟨f', rfl⟩ : ∃ e, f' = e + 1 := ⟨f' - 1, by omega⟩
    have hq : QR N 25 ln nP nF nE nW nH nR I I' := h0.of25 g1 (fun i _ => g2 i)
    obtain ⟨I1, e1, q1, r1⟩ := hq.copy
    obtain ⟨w, I2, I2', e2, e3, q2, r2, r3⟩ := nights_q q1 hP (n := 20) (by omega) (s := l3 + nI k)
    have e4 := back_e (N := N) (I := I2') hN
    have fr1 : ∀ q i, q ≤ 34 → I2 q i = I0 q i := by
      intro q i hq
      have := fr_State_passNights (b := q) (j := i) (by omega) (by omega) (by omega) (by omega) (by omega) (by omega) (by omega) (by omega) e2
      rw [show I2 q i = _ from this, u_o (by omega), r1 q i (by omega)]
      exact g1 q i hq
    have fr2 : ∀ i, I2' 210 i = I' 210 i := fun i => fr_Mod_passNights (b := 210) (j := i) (by omega) (by omega) e3
    have b1 : ∀ i, cp2 I2' 210 0 206 102 107 206 i = I0' 206 i := by
      intro i
      by_cases z : 102 ≤ i ∧ i < 209
      · rw [cp2_i z.1 (by omega), fr2, g3 _ (by omega)]
        exact congrArg (I0' 206) (by omega)
      · rw [cp2_j (by omega), r3 i (by omega)]; exact g2 i
    have b2 : ∀ i, i < 107 → cp2 I2' 210 0 206 102 107 210 i = I0' 206 (102 + i) := fun i hi => by rw [cp2_o (by omega), fr2]; exact g3 i hi
    have A1 : (nI n ≤ nI k) = False := by rw [le_nI (by omega) (by omega)]; exact eq_false (by omega)
    have G1 : in9 (nI j) 10 = True := in9_t (by omega) (by omega)
    have T1 : (nI j).toNatClampNeg = j := tN (by omega)
    have G2 : in9 (135 + nI j) 451 = True := by rw [ax_135]; exact in9_t (by omega) (by omega)
    have T2 : ((135 : Int32) + nI j).toNatClampNeg = 135 + j := by rw [ax_135]; exact tN (by omega)
    have st := q2.stat_35 hj
    rw [show nI 20 = (20 : Int32) from rfl] at e2 e3
    by_cases c : I2' 206 (135 + j) = 2
    · obtain ⟨v, I3, I3', x1, x2, x3, x4⟩ := ih (k + 1) f f' (acc + 1) I2 _ (by omega) (by omega) (by omega) fr1 b1 b2
      refine ⟨v, I3, I3', ?_, ?_, x3, x4⟩
      · rw [← x1]; simp only [↓reduceIte, Hol_odds_40, A1, e1, e2, G1, T1, st, c, Option.bind_some, nS]
      · rw [← x2]; simp only [↓reduceIte, Mod_odds_44, A1, e3, e4, G2, T2, c, Option.bind_some, nS]
    · obtain ⟨v, I3, I3', x1, x2, x3, x4⟩ := ih (k + 1) f f' acc I2 _ (by omega) (by omega) (by omega) fr1 b1 b2
      refine ⟨v, I3, I3', ?_, ?_, x3, x4⟩
      · rw [← x1]; simp only [↓reduceIte, Hol_odds_40, A1, e1, e2, G1, T1, st, c, Option.bind_some, nS]
      · rw [← x2]; simp only [↓reduceIte, Mod_odds_44, A1, e3, e4, G2, T2, c, Option.bind_some, nS]
theorem op_odds (h : QR N 25 ln nP nF nE nW nH nR I I') (l1 l2 l3 : Int32) : ∃ v I1 I1', Hol_odds N ln sp sn ss l1 l2 l3 I = some (v, I1) ∧ Mod_odds N l1 l2 l3 I' = some (v, I1') ∧ (∀ q i, q ≤ 34 → I1 q i = I q i) ∧ (∀ i, I1' 206 i = I' 206 i) := by
  have hb := h.bd
  have hN := h.nN
  have h1 := h.thr (v := 0)
  have u6 : ∀ i, up2 I' 204 0 0 206 i = I' 206 i := fun i => by rw [u_o (by omega)]
  unfold Hol_odds Mod_odds
  rcases is_find h1 l1 with ⟨a, b, j, hj, rfl⟩ | ⟨a, b⟩
  · by_cases c1 : l2 < 1
    · have c1' := eq_true c1
      refine ⟨-1, I, up2 I' 204 0 0, ?_, ?_, fun _ _ _ => rfl, u6⟩
      · simp only [↓reduceIte, a, c1']
      · simp only [↓reduceIte, b, Mod_isIn, c1', Bool.false_eq_true, Option.bind_some]
    · have c1' := eq_false c1
      by_cases c2 : 30 < l2
      · have c2' := eq_true c2
        refine ⟨-1, I, up2 I' 204 0 0, ?_, ?_, fun _ _ _ => rfl, u6⟩
        · simp only [↓reduceIte, a, c1', c2']
        · simp only [↓reduceIte, b, Mod_isIn, c1', c2', Bool.false_eq_true, Option.bind_some]
      · have c2' := eq_false c2
        obtain ⟨n, hn0, rfl⟩ := nNN (x := l2) (fun z => c1 (Int32.lt_trans z (by decide)))
        have hn : n ≤ 30 := by
          rw [show (30 : Int32) = nI 30 from id rfl, lt_nI (by omega) (by omega)] at c2
          omega
        by_cases c3 : nP = 0
        · have c3' : (nI nP = 0) = True := eq_true (by rw [c3]; rfl)
          refine ⟨-1, I, up2 I' 204 0 0, ?_, ?_, fun _ _ _ => rfl, u6⟩
          · simp only [↓reduceIte, a, c1', c2', h1.cP, c3']
          · simp only [↓reduceIte, b, Mod_isIn, c1', c2', T_0, h1.mP, c3', Option.bind_some]
        · have c3' : (nI nP = 0) = False := by rw [L_0, eq_nI (by omega) (by omega)]; exact eq_false c3
          have ea := aside_e (N := N) (I := up2 I' 204 0 0) hN
          obtain ⟨v, I1, I1', x1, x2, x3, x4⟩ := odds_l (sp := sp) (sn := sn) (ss := ss) h1 (by omega) hj hn l3 n 0 N N 0 I (cp2 (up2 I' 204 0 0) 206 102 210 0 107) (by omega) (by omega) (by omega) (fun _ _ _ => rfl) (fun i => by rw [cp2_o (by omega)]) (fun i hi => by rw [cp2_i (by omega) (by omega)]; exact congrArg _ (by omega))
          refine ⟨v, I1, I1', ?_, ?_, x3, fun i => (x4 i).trans (u6 i)⟩
          · rw [← x1]; simp only [↓reduceIte, a, c1', c2', h1.cP, c3']; rfl
          · rw [← x2]; simp only [↓reduceIte, b, Mod_isIn, c1', c2', T_0, h1.mP, c3', ea, Option.bind_some]; rfl
  · refine ⟨-1, I, up2 I' 204 0 0, ?_, ?_, fun _ _ _ => rfl, u6⟩
    · simp only [↓reduceIte, a, Bool.false_eq_true]
    · simp only [↓reduceIte, b, Bool.false_eq_true, Option.bind_some]
end Q39

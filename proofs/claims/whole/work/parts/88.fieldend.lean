/-! a field that was read begins: both sides -/
section Q88
variable {N a b ln sp sn ss nP nF nE nW nH nR : Nat} {I I' : FI} {J J' : FJ} {m i k : Nat}
theorem f75_e (hN : 2000 ≤ N) (l : Int32) : Mod_field_75 N N l 0 I J = Option.bind (Mod_startSo N I) fun x3 => (Option.bind (some (up2 x3 204 24 (0 : Int32))) fun I4 => (some (l, I4, cp2 J 212 0 211 0 22))) := by
  have key : ∀ m k f, k + m = 22 → m < f → Mod_field_75 N f l (nI k) I (cp2 J 212 0 211 0 k) = Option.bind (Mod_startSo N I) fun x3 => (Option.bind (some (up2 x3 204 24 (0 : Int32))) fun I4 => (some (l, I4, cp2 J 212 0 211 0 22))) := by
    intro m
    induction m with
    | zero =>
      intro k f hk hf
      obtain ⟨f, rfl⟩ : ∃ e, f = e + 1 := ⟨f - 1, by omega⟩
      obtain rfl : k = 22 := by omega
      have A : (22 ≤ nI 22) = True := eq_true (by decide)
      simp only [↓reduceIte, Mod_field_75, A]
    | succ m ih =>
      intro k f hk hf
      obtain ⟨f, rfl⟩ : ∃ e, f = e + 1 := ⟨f - 1, by omega⟩
      have h1 := ih (k + 1) f (by omega) (by omega)
      have e := cp2_s (f := J) (s := 212) (sp := 0) (d := 211) (dp := 0) (k := k)
      simp only [Nat.zero_add] at e
      have e2 : cp2 J 212 0 211 0 k 212 = J 212 := cp2_o (by omega)
      have A : (22 ≤ nI k) = False := by rw [L_22, le_nI (by omega) (by omega)]; exact eq_false (by omega)
      have G : in9 (nI k) 22 = True := in9_t (by omega) (by omega)
      have t : (nI k).toNatClampNeg = k := tN (by omega)
      rw [← h1]
      conv => lhs; rw [Mod_field_75]
      simp only [↓reduceIte, A, G, t, e2, e, nS, Option.bind_some]
  have := key 22 0 N (by omega) (by omega)
  rw [cp2_0] at this
  exact this
theorem f49_e (hN : 2000 ≤ N) (l : Int32) : Mod_field_49 N N l 0 I J = Mod_field_75 N N l 0 (cp2 I 207 0 206 0 102) J := by
  have key : ∀ m k f, k + m = 102 → m < f → Mod_field_49 N f l (nI k) (cp2 I 207 0 206 0 k) J = Mod_field_75 N N l 0 (cp2 I 207 0 206 0 102) J := by
    intro m
    induction m with
    | zero =>
      intro k f hk hf
      obtain ⟨f, rfl⟩ : ∃ e, f = e + 1 := ⟨f - 1, by omega⟩
      obtain rfl : k = 102 := by omega
      have A : (102 ≤ nI 102) = True := eq_true (by decide)
      simp only [↓reduceIte, Mod_field_49, A]
    | succ m ih =>
      intro k f hk hf
      obtain ⟨f, rfl⟩ : ∃ e, f = e + 1 := ⟨f - 1, by omega⟩
      have h1 := ih (k + 1) f (by omega) (by omega)
      have e := cp2_s (f := I) (s := 207) (sp := 0) (d := 206) (dp := 0) (k := k)
      simp only [Nat.zero_add] at e
      have e2 : cp2 I 207 0 206 0 k 207 = I 207 := cp2_o (by omega)
      have A : (102 ≤ nI k) = False := by rw [show (102 : Int32) = nI 102 from rfl, le_nI (by omega) (by omega)]; exact eq_false (by omega)
      have G : in9 (nI k) 102 = True := in9_t (by omega) (by omega)
      have G2 : in9 (nI k) 451 = True := in9_t (by omega) (by omega)
      have t : (nI k).toNatClampNeg = k := tN (by omega)
      rw [← h1]
      conv => lhs; rw [Mod_field_49]
      simp only [↓reduceIte, A, G, G2, t, e2, e, nS, Option.bind_some]
  have := key 102 0 N (by omega) (by omega)
  rw [cp2_0] at this
  exact this
theorem so3_e (hN : 2000 ≤ N) : Mod_startSo N I = Mod_startSo_25 N N 0 (fl3 I 206 102 349 0) := by
  have key : ∀ m k f, k + m = 349 → m < f → Mod_startSo_3 N f (nI (102 + k)) (fl3 I 206 102 k 0) = Mod_startSo_25 N N 0 (fl3 I 206 102 349 0) := by
    intro m
    induction m with
    | zero =>
      intro k f hk hf
      obtain ⟨f, rfl⟩ : ∃ e, f = e + 1 := ⟨f - 1, by omega⟩
      obtain rfl : k = 349 := by omega
      have A : (451 ≤ nI (102 + 349)) = True := eq_true (by decide)
      simp only [↓reduceIte, Mod_startSo_3, A]
    | succ m ih =>
      intro k f hk hf
      obtain ⟨f, rfl⟩ : ∃ e, f = e + 1 := ⟨f - 1, by omega⟩
      have h1 := ih (k + 1) f (by omega) (by omega)
      have e := fl3_s (I := I) (a := 206) (lo := 102) (n := k) (v := 0)
      have A : (451 ≤ nI (102 + k)) = False := by rw [L_451, le_nI (by omega) (by omega)]; exact eq_false (by omega)
      have G : in9 (nI (102 + k)) 451 = True := in9_t (by omega) (by omega)
      have t : (nI (102 + k)).toNatClampNeg = 102 + k := tN (by omega)
      have s : nI (102 + k) + 1 = nI (102 + (k + 1)) := nS _
      rw [← h1]
      conv => lhs; rw [Mod_startSo_3]
      simp only [↓reduceIte, A, G, t, e, s, Option.bind_some]
  have := key 349 0 N (by omega) (by omega)
  rw [fl3_0] at this
  exact this
theorem so25_l : ∀ r k f (I : FI), k + r = 10 → r < f → ∃ I1, Mod_startSo_25 N f (nI k) I = some I1 ∧ (∀ j, k ≤ j → j < 10 → I1 206 (105 + j) = I 206 (40 + j) ∧ I1 206 (115 + j) = I 206 (50 + j) ∧ I1 206 (125 + j) = I 206 (60 + j) ∧ I1 206 (145 + j) = -1) ∧ (∀ q, ¬ (105 + k ≤ q ∧ q < 115) → ¬ (115 + k ≤ q ∧ q < 125) → ¬ (125 + k ≤ q ∧ q < 135) → ¬ (145 + k ≤ q ∧ q < 155) → I1 206 q = I 206 q) ∧ (∀ x j, x ≠ 206 → I1 x j = I x j) := by
  intro r
  induction r with
  | zero =>
    intro k f I hk hf
    obtain ⟨f, rfl⟩ : ∃ e, f = e + 1 := ⟨f - 1, by omega⟩
    have A : (10 ≤ nI k) = True := by rw [L_10, le_nI (by omega) (by omega)]; exact eq_true (by omega)
    refine ⟨I, ?_, fun j h1 h2 => absurd h2 (by omega), fun _ _ _ _ _ => rfl, fun _ _ _ => rfl⟩
    simp only [↓reduceIte, Mod_startSo_25, A]
  | succ r ih =>
    intro k f I hk hf
    obtain ⟨f, rfl⟩ : ∃ e, f = e + 1 := ⟨f - 1, by omega⟩
    have A : (10 ≤ nI k) = False := by rw [L_10, le_nI (by omega) (by omega)]; exact eq_false (by omega)
    have g40 : in9 (nI (40 + k)) 451 = True := in9_t (by omega) (by omega)
    have g50 : in9 (nI (50 + k)) 451 = True := in9_t (by omega) (by omega)
    have g60 : in9 (nI (60 + k)) 451 = True := in9_t (by omega) (by omega)
    have g105 : in9 (nI (105 + k)) 451 = True := in9_t (by omega) (by omega)
    have g115 : in9 (nI (115 + k)) 451 = True := in9_t (by omega) (by omega)
    have g125 : in9 (nI (125 + k)) 451 = True := in9_t (by omega) (by omega)
    have g145 : in9 (nI (145 + k)) 451 = True := in9_t (by omega) (by omega)
    have t40 : (nI (40 + k)).toNatClampNeg = 40 + k := tN (by omega)
    have t50 : (nI (50 + k)).toNatClampNeg = 50 + k := tN (by omega)
    have t60 : (nI (60 + k)).toNatClampNeg = 60 + k := tN (by omega)
    have t105 : (nI (105 + k)).toNatClampNeg = 105 + k := tN (by omega)
    have t115 : (nI (115 + k)).toNatClampNeg = 115 + k := tN (by omega)
    have t125 : (nI (125 + k)).toNatClampNeg = 125 + k := tN (by omega)
    have t145 : (nI (145 + k)).toNatClampNeg = 145 + k := tN (by omega)
    obtain ⟨I1, e1, e2, e3, e4⟩ := ih (k + 1) f (up2 (up2 (up2 (up2 I 206 (105 + k) (I 206 (40 + k))) 206 (115 + k) (I 206 (50 + k))) 206 (125 + k) (I 206 (60 + k))) 206 (145 + k) (-1)) (by omega) (by omega)
    have r1 : up2 I 206 (105 + k) (I 206 (40 + k)) 206 (50 + k) = I 206 (50 + k) := u_j (by omega)
    have r2 : up2 (up2 I 206 (105 + k) (I 206 (40 + k))) 206 (115 + k) (I 206 (50 + k)) 206 (60 + k) = I 206 (60 + k) := by rw [u_j (by omega), u_j (by omega)]
    refine ⟨I1, ?_, fun j h1 h2 => ?_, fun q h1 h2 h3 h4 => ?_, fun x j hx => ?_⟩
    · rw [← e1]
      conv => lhs; rw [Mod_startSo_25]
      simp only [↓reduceIte, A, ax_40, ax_50, ax_60, ax_105, ax_115, ax_125, ax_145, g40, g50, g60, g105, g115, g125, g145, t40, t50, t60, t105, t115, t125, t145, r1, r2, nS, Option.bind_some]
    · by_cases z : j = k
      · rw [z, e3 _ (by omega) (by omega) (by omega) (by omega), e3 _ (by omega) (by omega) (by omega) (by omega), e3 _ (by omega) (by omega) (by omega) (by omega), e3 _ (by omega) (by omega) (by omega) (by omega)]
        refine ⟨?_, ?_, ?_, ?_⟩
        · rw [u_j (by omega), u_j (by omega), u_j (by omega), u_s]
        · rw [u_j (by omega), u_j (by omega), u_s]
        · rw [u_j (by omega), u_s]
        · rw [u_s]
      · obtain ⟨a1, a2, a3, a4⟩ := e2 j (by omega) h2
        rw [a1, a2, a3, a4]
        refine ⟨?_, ?_, ?_, rfl⟩
        · rw [u_j (by omega), u_j (by omega), u_j (by omega), u_j (by omega)]
        · rw [u_j (by omega), u_j (by omega), u_j (by omega), u_j (by omega)]
        · rw [u_j (by omega), u_j (by omega), u_j (by omega), u_j (by omega)]
    · rw [e3 q (by omega) (by omega) (by omega) (by omega), u_j (by omega), u_j (by omega), u_j (by omega), u_j (by omega)]
    · rw [e4 x j hx, u_o hx, u_o hx, u_o hx, u_o hx]
theorem startSo_e (hN : 2000 ≤ N) : ∃ I1, Mod_startSo N I = some I1 ∧ (∀ j, j < 102 → I1 206 j = I 206 j) ∧ (∀ f, f < 10 → I1 206 (105 + f) = I 206 (40 + f) ∧ I1 206 (115 + f) = I 206 (50 + f) ∧ I1 206 (125 + f) = I 206 (60 + f) ∧ I1 206 (145 + f) = -1) ∧ (∀ q, 102 ≤ q → q < 451 → ¬ (105 ≤ q ∧ q < 135) → ¬ (145 ≤ q ∧ q < 155) → I1 206 q = nI 0) ∧ (∀ x j, x ≠ 206 → I1 x j = I x j) := by
  obtain ⟨I1, e1, e2, e3, e4⟩ := so25_l (N := N) 10 0 N (fl3 I 206 102 349 0) (by omega) (by omega)
  refine ⟨I1, (so3_e hN).trans e1, fun j hj => ?_, fun f hf => ?_, fun q h1 h2 h3 h4 => ?_, fun x j hx => ?_⟩
  · rw [e3 j (by omega) (by omega) (by omega) (by omega), fl3_j (by omega)]
  · obtain ⟨a1, a2, a3, a4⟩ := e2 f (Nat.zero_le _) hf
    rw [a1, a2, a3, a4, fl3_j (by omega), fl3_j (by omega), fl3_j (by omega)]
    exact ⟨rfl, rfl, rfl, rfl⟩
  · rw [e3 q (by omega) (by omega) (by omega) (by omega), fl3_i h1 (by omega)]; rfl
  · rw [e4 x j hx, fl3_o hx]
theorem fact_a (h12 : I a 12 = nI nF) (hF : nF ≤ 10) {f w : Nat} (hf : f < nF) (hw : w < 6) : Land_factOf a (nI f) (nI w) I = some (I (a + 4) (f * 6 + w)) := by
  have e : nI f * 6 + nI w = nI (f * 6 + w) := by
    show nI f * nI 6 + nI w = _
    rw [nM, nA]
  have g : in9 (nI (f * 6 + w)) 60 = True := in9_t (by omega) (by omega)
  have t : (nI (f * 6 + w)).toNatClampNeg = f * 6 + w := tN (by omega)
  have c1 : (nI f < (0 : Int32)) = False := by rw [L_0, lt_nI (by omega) (by omega)]; exact eq_false (by omega)
  have c2 : (nI nF ≤ nI f) = False := by rw [le_nI (by omega) (by omega)]; exact eq_false (by omega)
  have c3 : (nI w < (0 : Int32)) = False := by rw [L_0, lt_nI (by omega) (by omega)]; exact eq_false (by omega)
  have c4 : (6 ≤ nI w) = False := by rw [L_6, le_nI (by omega) (by omega)]; exact eq_false (by omega)
  unfold Land_factOf
  simp only [↓reduceIte, h12, c1, c2, c3, c4, e, g, t]
theorem sbegin_l (hN : 2000 ≤ N) (ha : 6 ≤ a) (ha2 : a ≤ 16) (hF : nF ≤ 10) : ∀ r k f (I : FI), k + r = nF → r < f → I a 12 = nI nF → ∃ I1, State_begin_2 N 25 a f (nI k) I = some I1 ∧ (∀ j, k ≤ j → j < nF → I1 26 j = I (a + 4) (j * 6 + 1) ∧ I1 27 j = I (a + 4) (j * 6 + 2) ∧ I1 28 j = I (a + 4) (j * 6 + 3)) ∧ (∀ j, j < k → I1 26 j = I 26 j ∧ I1 27 j = I 27 j ∧ I1 28 j = I 28 j) ∧ (∀ j, j < 10 → I1 29 j = nI 0 ∧ I1 30 j = -1) ∧ (∀ j, j < 6 → I1 31 j = nI 0 ∧ I1 32 j = nI 0 ∧ I1 33 j = nI 0) ∧ (∀ j, j < 36 → I1 34 j = nI 0) ∧ I1 25 9 = nI 0 ∧ I1 25 10 = nI 0 ∧ (∀ x j, ¬ (25 ≤ x ∧ x ≤ 34) → I1 x j = I x j) := by
  intro r
  induction r with
  | zero =>
    intro k f I hk hf h12
    obtain ⟨f, rfl⟩ : ∃ e, f = e + 1 := ⟨f - 1, by omega⟩
    have A : (nI nF ≤ nI k) = True := by rw [le_nI (by omega) (by omega)]; exact eq_true (by omega)
    have e1 := fill_e (N := N) (a := 29) (n0 := 10) (v := 0) (I := I) (by omega) (by omega)
    have e2 := fill_e (N := N) (a := 30) (n0 := 10) (v := -1) (I := fl3 I 29 0 10 0) (by omega) (by omega)
    have e3 := fill_e (N := N) (a := 31) (n0 := 6) (v := 0) (I := fl3 (fl3 I 29 0 10 0) 30 0 10 (-1)) (by omega) (by omega)
    have e4 := fill_e (N := N) (a := 32) (n0 := 6) (v := 0) (I := fl3 (fl3 (fl3 I 29 0 10 0) 30 0 10 (-1)) 31 0 6 0) (by omega) (by omega)
    have e5 := fill_e (N := N) (a := 33) (n0 := 6) (v := 0) (I := fl3 (fl3 (fl3 (fl3 I 29 0 10 0) 30 0 10 (-1)) 31 0 6 0) 32 0 6 0) (by omega) (by omega)
    have e6 := fill_e (N := N) (a := 34) (n0 := 36) (v := 0) (I := fl3 (fl3 (fl3 (fl3 (fl3 I 29 0 10 0) 30 0 10 (-1)) 31 0 6 0) 32 0 6 0) 33 0 6 0) (by omega) (by omega)
    refine ⟨up2 (up2 (fl3 (fl3 (fl3 (fl3 (fl3 (fl3 I 29 0 10 0) 30 0 10 (-1)) 31 0 6 0) 32 0 6 0) 33 0 6 0) 34 0 36 0) 25 9 0) 25 10 0, ?_, fun j h1 h2 => absurd h2 (by omega), fun j hj => ⟨?_, ?_, ?_⟩, fun j hj => ⟨?_, ?_⟩, fun j hj => ⟨?_, ?_, ?_⟩, fun j hj => ?_, ?_, ?_, fun x j hx => ?_⟩
    · simp only [↓reduceIte, State_begin_2, h12, A, Nat.reduceAdd, e1, e2, e3, e4, e5, e6, Option.bind_some]
    · rw [u_o (by omega), u_o (by omega), fl3_o (by omega), fl3_o (by omega), fl3_o (by omega), fl3_o (by omega), fl3_o (by omega), fl3_o (by omega)]
    · rw [u_o (by omega), u_o (by omega), fl3_o (by omega), fl3_o (by omega), fl3_o (by omega), fl3_o (by omega), fl3_o (by omega), fl3_o (by omega)]
    · rw [u_o (by omega), u_o (by omega), fl3_o (by omega), fl3_o (by omega), fl3_o (by omega), fl3_o (by omega), fl3_o (by omega), fl3_o (by omega)]
    · rw [u_o (by omega), u_o (by omega), fl3_o (by omega), fl3_o (by omega), fl3_o (by omega), fl3_o (by omega), fl3_o (by omega), fl3_i (by omega) (by omega)]; rfl
    · rw [u_o (by omega), u_o (by omega), fl3_o (by omega), fl3_o (by omega), fl3_o (by omega), fl3_o (by omega), fl3_i (by omega) (by omega)]
    · rw [u_o (by omega), u_o (by omega), fl3_o (by omega), fl3_o (by omega), fl3_o (by omega), fl3_i (by omega) (by omega)]; rfl
    · rw [u_o (by omega), u_o (by omega), fl3_o (by omega), fl3_o (by omega), fl3_i (by omega) (by omega)]; rfl
    · rw [u_o (by omega), u_o (by omega), fl3_o (by omega), fl3_i (by omega) (by omega)]; rfl
    · rw [u_o (by omega), u_o (by omega), fl3_i (by omega) (by omega)]; rfl
    · rw [u_j (by omega), u_s]; rfl
    · rw [u_s]; rfl
    · rw [u_o (by omega), u_o (by omega), fl3_o (by omega), fl3_o (by omega), fl3_o (by omega), fl3_o (by omega), fl3_o (by omega), fl3_o (by omega)]
  | succ r ih =>
    intro k f I hk hf h12
    obtain ⟨f, rfl⟩ : ∃ e, f = e + 1 := ⟨f - 1, by omega⟩
    have A : (nI nF ≤ nI k) = False := by rw [le_nI (by omega) (by omega)]; exact eq_false (by omega)
    have g : in9 (nI k) 10 = True := in9_t (by omega) (by omega)
    have t : (nI k).toNatClampNeg = k := tN (by omega)
    have f1 : Land_factOf a (nI k) 1 I = some (I (a + 4) (k * 6 + 1)) := fact_a h12 hF (w := 1) (by omega) (by omega)
    have f2 : Land_factOf a (nI k) 2 (up2 I 26 k (I (a + 4) (k * 6 + 1))) = some (I (a + 4) (k * 6 + 2)) := by
      have := fact_a (I := up2 I 26 k (I (a + 4) (k * 6 + 1))) (a := a) (nF := nF) (f := k) (w := 2) (by rw [u_o (by omega)]; exact h12) hF (by omega) (by omega)
      rw [u_o (by omega)] at this
      exact this
    have f3 : Land_factOf a (nI k) 3 (up2 (up2 I 26 k (I (a + 4) (k * 6 + 1))) 27 k (I (a + 4) (k * 6 + 2))) = some (I (a + 4) (k * 6 + 3)) := by
      have := fact_a (I := up2 (up2 I 26 k (I (a + 4) (k * 6 + 1))) 27 k (I (a + 4) (k * 6 + 2))) (a := a) (nF := nF) (f := k) (w := 3) (by rw [u_o (by omega), u_o (by omega)]; exact h12) hF (by omega) (by omega)
      rw [u_o (by omega), u_o (by omega)] at this
      exact this
    obtain ⟨I1, e1, e2, e3, e4, e5, e6, e7, e8, e9⟩ := ih (k + 1) f (up2 (up2 (up2 I 26 k (I (a + 4) (k * 6 + 1))) 27 k (I (a + 4) (k * 6 + 2))) 28 k (I (a + 4) (k * 6 + 3))) (by omega) (by omega) (by rw [u_o (by omega), u_o (by omega), u_o (by omega)]; exact h12)
    refine ⟨I1, ?_, fun j h1 h2 => ?_, fun j hj => ?_, e4, e5, e6, e7, e8, fun x j hx => ?_⟩
    · rw [← e1]
      conv => lhs; rw [State_begin_2]
      simp only [↓reduceIte, h12, A, g, t, f1, f2, f3, nS, Nat.reduceAdd, Option.bind_some]
    · by_cases z : j = k
      · obtain ⟨a1, a2, a3⟩ := e3 k (by omega)
        rw [z, a1, a2, a3]
        refine ⟨?_, ?_, ?_⟩
        · rw [u_o (by omega), u_o (by omega), u_s]
        · rw [u_o (by omega), u_s]
        · rw [u_s]
      · obtain ⟨a1, a2, a3⟩ := e2 j (by omega) h2
        rw [a1, a2, a3, u_o (by omega), u_o (by omega), u_o (by omega)]
        exact ⟨rfl, rfl, rfl⟩
    · obtain ⟨a1, a2, a3⟩ := e3 j (by omega)
      rw [a1, a2, a3]
      refine ⟨?_, ?_, ?_⟩
      · rw [u_o (by omega), u_o (by omega), u_j (by omega)]
      · rw [u_o (by omega), u_j (by omega), u_o (by omega)]
      · rw [u_j (by omega), u_o (by omega), u_o (by omega)]
    · rw [e9 x j hx, u_o (by omega), u_o (by omega), u_o (by omega)]
end Q88

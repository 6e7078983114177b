/-! calls that only ask -/
section Q26
variable {N ln sp sn ss nP nF nE nW nH nR : Nat} {I I' : FI}
theorem op_person (h : QR N 25 ln nP nF nE nW nH nR I I') (l1 l2 : Int32) : ∃ v, Hol_person N ln sp sn ss l1 l2 I = some v ∧ Mod_person N l1 l2 I' = some (v, up2 I' 204 0 0) := by
  have hb := h.bd
  have h1 := h.thr (v := 0)
  unfold Hol_person Mod_person
  rcases is_person h1 l1 with ⟨a, b, j, hj, rfl⟩ | ⟨a, b⟩
  · simp only [a, b, Option.bind_some, if_true]
    by_cases e0 : l2 = 0
    · simp (disch := omega) only [e0, if_true, in9_t, tN, h1.coin_25, ax_155, Option.some.injEq, Prod.mk.injEq, and_true, exists_eq_left']
    simp only [e0, if_false]
    by_cases e1 : l2 = 1
    · simp only [e1, if_true]
      obtain ⟨g1, g2⟩ := had_q h1 (nI j) 1
      simp only [g1, g2, Option.bind_some, Option.some.injEq, Prod.mk.injEq, and_true, exists_eq_left']
    simp only [e1, if_false]
    by_cases e2 : l2 = 2
    · simp (disch := omega) only [e2, if_true, in9_t, tN, h1.digs_25, ax_161, Option.some.injEq, Prod.mk.injEq, and_true, exists_eq_left']
    simp only [e2, if_false]
    by_cases e3 : l2 = 3
    · simp (disch := omega) only [e3, if_true, in9_t, tN, h1.got_25, ax_167, Option.some.injEq, Prod.mk.injEq, and_true, exists_eq_left']
    simp only [e3, if_false]
    exact ⟨_, rfl, rfl⟩
  · simp only [a, b, Option.bind_some, if_false, Bool.false_eq_true]
    exact ⟨_, rfl, rfl⟩
theorem op_cell (h : QR N 25 ln nP nF nE nW nH nR I I') (l1 l2 l3 : Int32) : ∃ v, Hol_cell N ln sp sn ss l1 l2 l3 I = some v ∧ Mod_cell N l1 l2 l3 I' = some (v, up2 I' 204 0 0) := by
  have hb := h.bd
  have h1 := h.thr (v := 0)
  unfold Hol_cell Mod_cell
  rcases is_cell h1 l1 l2 with ⟨a, b, i, j, hi, hj, rfl, rfl⟩ | ⟨a, b⟩
  · simp only [a, b, Option.bind_some, if_true]
    by_cases e0 : l3 = 0
    · simp (disch := omega) only [e0, if_true, mx_6, nA, ax_173, in9_t, tN, h1.dug_25, Nat.add_assoc, Option.some.injEq, Prod.mk.injEq, and_true, exists_eq_left']
    simp only [e0, if_false]
    by_cases e1 : l3 = 1
    · simp only [e1, if_true]
      obtain ⟨g1, g2⟩ := ground_q h1 (nI i) (nI j) 1
      simp only [g1, g2, Option.bind_some, Option.some.injEq, Prod.mk.injEq, and_true, exists_eq_left']
    simp only [e1, if_false]
    by_cases e2 : l3 = 2
    · simp only [e2, if_true]
      obtain ⟨v, -, g1, g2⟩ := worth_q h1 hi hj
      simp only [g1, g2, Option.bind_some, Option.some.injEq, Prod.mk.injEq, and_true, exists_eq_left']
    simp only [e2, if_false]
    exact ⟨_, rfl, rfl⟩
  · simp only [a, b, Option.bind_some, if_false, Bool.false_eq_true]
    exact ⟨_, rfl, rfl⟩
theorem sum6 {a : Nat} {I : FI} (hN : 2000 ≤ N) : State_sumOf N 25 a 6 I = some (I a 0 + I a 1 + I a 2 + I a 3 + I a 4 + I a 5) := by
  have key : ∀ m k n, k + m = 6 → m < n → State_sumOf_4 N 25 a 6 n (itF (fun f x => x + I a f) k 0) (nI k) I = some (itF (fun f x => x + I a f) 6 0) := by
    intro m
    induction m with
    | zero =>
      intro k n hk hn
      obtain ⟨n, rfl⟩ : ∃ e, n = e + 1 := ⟨n - 1, by omega⟩
      obtain rfl : k = 6 := by omega
      simp (disch := omega) only [State_sumOf_4, show Int32.ofNat 6 = nI 6 from rfl, le_nI, ifT]
    | succ m ih =>
      intro k n hk hn
      obtain ⟨n, rfl⟩ : ∃ e, n = e + 1 := ⟨n - 1, by omega⟩
      have h1 := ih (k + 1) n (by omega) (by omega)
      simp (disch := omega) only [State_sumOf_4, show Int32.ofNat 6 = nI 6 from rfl, le_nI, ifF, in9_t, if_true, tN, nS]
      simpa [itF] using h1
  have := key 6 0 N (by omega) (by omega)
  unfold State_sumOf
  refine this.trans ?_
  simp [itF]
theorem sum6m {I : FI} (hN : 2000 ≤ N) (l1 : Int32) : Mod_now_78 N N l1 0 0 I = some (I 206 155 + I 206 156 + I 206 157 + I 206 158 + I 206 159 + I 206 160, I) := by
  have key : ∀ m k n, k + m = 6 → m < n → Mod_now_78 N n l1 (itF (fun f x => x + I 206 (155 + f)) k 0) (nI k) I = some (itF (fun f x => x + I 206 (155 + f)) 6 0, I) := by
    intro m
    induction m with
    | zero =>
      intro k n hk hn
      obtain ⟨n, rfl⟩ : ∃ e, n = e + 1 := ⟨n - 1, by omega⟩
      obtain rfl : k = 6 := by omega
      simp (disch := omega) only [Mod_now_78, L_6, le_nI, ifT]
    | succ m ih =>
      intro k n hk hn
      obtain ⟨n, rfl⟩ : ∃ e, n = e + 1 := ⟨n - 1, by omega⟩
      have h1 := ih (k + 1) n (by omega) (by omega)
      simp (disch := omega) only [Mod_now_78, L_6, le_nI, ifF, ax_155, in9_t, if_true, tN, nS]
      simpa [itF] using h1
  refine (key 6 0 N (by omega) (by omega)).trans ?_
  simp [itF]
theorem op_now (h : QR N 25 ln nP nF nE nW nH nR I I') (l1 : Int32) : ∃ v, Hol_now N ln sp sn ss l1 I = some v ∧ Mod_now N l1 I' = some (v, up2 I' 204 0 0) := by
  have hb := h.bd
  have h1 := h.thr (v := 0)
  unfold Hol_now Mod_now
  simp only [Option.bind_some]
  by_cases e0 : l1 = 0
  · simp only [e0, if_true, h1.night, T_102, Option.some.injEq, Prod.mk.injEq, and_true, exists_eq_left']
  simp only [e0, if_false]
  by_cases e1 : l1 = 1
  · obtain ⟨g1, g2⟩ := bits_q h1 (1 - 1)
    simp only [e1, if_true, g1, g2, Option.bind_some, Option.some.injEq, Prod.mk.injEq, and_true, exists_eq_left']
  simp only [e1, if_false]
  by_cases e2 : l1 = 2
  · obtain ⟨g1, g2⟩ := bits_q h1 (2 - 1)
    simp only [e2, if_true, g1, g2, Option.bind_some, Option.some.injEq, Prod.mk.injEq, and_true, exists_eq_left']
  simp only [e2, if_false]
  by_cases e3 : l1 = 3
  · obtain ⟨g1, g2⟩ := bits_q h1 (3 - 1)
    simp only [e3, if_true, g1, g2, Option.bind_some, Option.some.injEq, Prod.mk.injEq, and_true, exists_eq_left']
  simp only [e3, if_false]
  by_cases e4 : l1 = 4
  · obtain ⟨g1, g2⟩ := bits_q h1 (4 - 1)
    simp only [e4, if_true, g1, g2, Option.bind_some, Option.some.injEq, Prod.mk.injEq, and_true, exists_eq_left']
  simp only [e4, if_false]
  by_cases e5 : l1 = 5
  · simp only [e5, if_true, sum6 h.nN, sum6m h.nN, Option.bind_some]
    refine ⟨_, rfl, ?_⟩
    rw [h1.coin_25 (f := 0) (by omega), h1.coin_25 (f := 1) (by omega), h1.coin_25 (f := 2) (by omega), h1.coin_25 (f := 3) (by omega), h1.coin_25 (f := 4) (by omega), h1.coin_25 (f := 5) (by omega)]
  simp only [e5, if_false]
  by_cases e6 : l1 = 6
  · simp only [e6, if_true, sum6 h.nN, Option.bind_some, T_103]
    refine ⟨_, rfl, ?_⟩
    rw [h1.sum, h1.digs_25 (f := 0) (by omega), h1.digs_25 (f := 1) (by omega), h1.digs_25 (f := 2) (by omega), h1.digs_25 (f := 3) (by omega), h1.digs_25 (f := 4) (by omega), h1.digs_25 (f := 5) (by omega)]
  simp only [e6, if_false]
  by_cases e7 : l1 = 7
  · obtain ⟨s, v, g1, g2, g3⟩ := toldv_q h1
    simp only [e7, if_true, g1, g2, g3, Option.bind_some, Option.some.injEq, Prod.mk.injEq, and_true, exists_eq_left']
  simp only [e7, if_false]
  by_cases e8 : l1 = 8
  · simp only [e8, if_true, h1.ploughs, T_104, Option.some.injEq, Prod.mk.injEq, and_true, exists_eq_left']
  simp only [e8, if_false]
  exact ⟨_, rfl, rfl⟩
theorem op_count (h : QR N 25 ln nP nF nE nW nH nR I I') (ht : I 1 5 = I' 204 2) (l1 : Int32) : Mod_count l1 I' = some (Hol_count ln sp sn ss l1 I, up2 I' 204 0 0) := by
  have h1 := h.thr (v := 0)
  unfold Hol_count Mod_count
  simp only [Option.bind_some, T_0, T_1, T_2, T_3, T_4, T_5, h1.cP, h1.cF, h1.cE, h1.cW, h1.cH, h1.cR, h1.mP, h1.mF, h1.mE, h1.mW, h1.mH, h1.mR, ht, u_j (show (2 : Nat) ≠ 0 by decide)]
  repeat' split
  all_goals rfl
theorem isIn_1 (x : Int32) : Mod_isIn x 0 1 = (if x < 0 then false else if 1 < x then false else true) := rfl
theorem op_fear (h : QR N 25 ln nP nF nE nW nH nR I I') (l1 l2 : Int32) : ∃ v, Hol_fear ln sp sn ss l1 l2 I = some v ∧ Mod_fear l1 l2 I' = some (v, up2 I' 204 0 0) := by
  have hb := h.bd
  have h1 := h.thr (v := 0)
  unfold Hol_fear Mod_fear
  simp only [Option.bind_some, T_2, h1.cE, h1.mE, isIn_n (n := nE) (by omega), isIn_1]
  by_cases a1 : l1 < 0
  · simp only [a1, if_true, if_false, Bool.false_eq_true]; exact ⟨_, rfl, rfl⟩
  simp only [a1, if_false]
  by_cases a2 : nI nE ≤ l1
  · simp only [a2, if_true, if_false, Bool.false_eq_true]; exact ⟨_, rfl, rfl⟩
  obtain ⟨j, hj, rfl⟩ := nIX a1 a2 (by omega)
  simp only [a2, if_false, if_true]
  by_cases a3 : l2 < 0
  · simp only [a3, if_true, if_false, Bool.false_eq_true]; exact ⟨_, rfl, rfl⟩
  simp only [a3, if_false]
  by_cases a4 : 1 < l2
  · have a5 : ¬ l2 ≤ 1 := Int32.not_le.mpr a4
    simp only [a4, a5, if_true, if_false, Bool.false_eq_true]; exact ⟨_, rfl, rfl⟩
  have a5 : l2 ≤ 1 := Int32.not_lt.mp a4
  simp only [a4, a5, if_true, if_false]
  by_cases e : l2 = 0
  · simp (disch := omega) only [e, if_true, Land_fearFrom, mx_2, in9_t, tN, h1.from, ax_90, Option.bind_some, Option.some.injEq, Prod.mk.injEq, and_true, exists_eq_left']
  · simp (disch := omega) only [e, if_false, Land_fearTo, mx_2, nS, in9_t, if_true, tN, h1.to, ax_96, Option.bind_some, Option.some.injEq, Prod.mk.injEq, and_true, exists_eq_left']
theorem op_find (h : QR N 25 ln nP nF nE nW nH nR I I') (l1 l2 : Int32) : (∃ v, Hol_find ln sp sn ss l1 l2 I = some (some v) ∧ Mod_find l1 l2 I' = some (v, up2 I' 204 0 0)) ∨ (Hol_find ln sp sn ss l1 l2 I = some none ∧ Mod_find l1 l2 I' = some (0, up2 (up2 I' 204 0 0) 204 0 1)) := by
  have hb := h.bd
  have h1 := h.thr (v := 0)
  unfold Hol_find Mod_find
  rcases is_find h1 l1 with ⟨a, b, j, hj, rfl⟩ | ⟨a, b⟩
  · simp only [a, b, Option.bind_some, if_true, Mod_refuse]
    by_cases e0 : l2 = 0
    · subst e0
      left
      simp (disch := omega) only [if_neg (show ¬ (0 : Int32) < 0 by decide), if_pos (show (0 : Int32) ≤ 7 by decide), if_neg (show ¬ (0 : Int32) = 1 by decide), if_neg (show ¬ (0 : Int32) = 2 by decide), if_neg (show ¬ (0 : Int32) = 3 by decide), if_neg (show ¬ (0 : Int32) = 4 by decide), if_neg (show ¬ (0 : Int32) = 5 by decide), if_neg (show ¬ (0 : Int32) = 6 by decide), if_neg (show ¬ (0 : Int32) = 7 by decide), if_true, ax_30, in9_t, tN]
      have e := fact_e h1 hj (w := 0) (by decide)
      rw [show nI 0 = (0 : Int32) from rfl] at e
      rw [e]
      exact ⟨_, rfl, by rw [← h1.f_kind hj]; rfl⟩
    by_cases e1 : l2 = 1
    · subst e1; left
      simp (disch := omega) only [if_neg (show ¬ (1 : Int32) < 0 by decide), if_pos (show (1 : Int32) ≤ 7 by decide), if_neg (show ¬ (1 : Int32) = 0 by decide), if_true, ax_105, in9_t, tN]
      exact ⟨_, rfl, by rw [h1.x_25 hj]⟩
    by_cases e2 : l2 = 2
    · subst e2; left
      simp (disch := omega) only [if_neg (show ¬ (2 : Int32) < 0 by decide), if_pos (show (2 : Int32) ≤ 7 by decide), if_neg (show ¬ (2 : Int32) = 0 by decide), if_neg (show ¬ (2 : Int32) = 1 by decide), if_true, ax_115, in9_t, tN]
      exact ⟨_, rfl, by rw [h1.y_25 hj]⟩
    by_cases e3 : l2 = 3
    · subst e3; left
      simp (disch := omega) only [if_neg (show ¬ (3 : Int32) < 0 by decide), if_pos (show (3 : Int32) ≤ 7 by decide), if_neg (show ¬ (3 : Int32) = 0 by decide), if_neg (show ¬ (3 : Int32) = 1 by decide), if_neg (show ¬ (3 : Int32) = 2 by decide), if_true, ax_125, in9_t, tN]
      exact ⟨_, rfl, by rw [h1.deep_25 hj]⟩
    by_cases e4 : l2 = 4
    · subst e4; left
      simp (disch := omega) only [if_neg (show ¬ (4 : Int32) < 0 by decide), if_pos (show (4 : Int32) ≤ 7 by decide), if_neg (show ¬ (4 : Int32) = 0 by decide), if_neg (show ¬ (4 : Int32) = 1 by decide), if_neg (show ¬ (4 : Int32) = 2 by decide), if_neg (show ¬ (4 : Int32) = 3 by decide), if_true, ax_70, in9_t, tN]
      rw [show (4 : Int32) = nI 4 from rfl, fact_e h1 hj (by decide)]
      exact ⟨_, rfl, by rw [← h1.f_year hj]⟩
    by_cases e5 : l2 = 5
    · subst e5; left
      simp (disch := omega) only [if_neg (show ¬ (5 : Int32) < 0 by decide), if_pos (show (5 : Int32) ≤ 7 by decide), if_neg (show ¬ (5 : Int32) = 0 by decide), if_neg (show ¬ (5 : Int32) = 1 by decide), if_neg (show ¬ (5 : Int32) = 2 by decide), if_neg (show ¬ (5 : Int32) = 3 by decide), if_neg (show ¬ (5 : Int32) = 4 by decide), if_true, ax_80, in9_t, tN]
      rw [show (5 : Int32) = nI 5 from rfl, fact_e h1 hj (by decide)]
      exact ⟨_, rfl, by rw [← h1.f_value hj]⟩
    by_cases e6 : l2 = 6
    · subst e6; left
      simp (disch := omega) only [if_neg (show ¬ (6 : Int32) < 0 by decide), if_pos (show (6 : Int32) ≤ 7 by decide), if_neg (show ¬ (6 : Int32) = 0 by decide), if_neg (show ¬ (6 : Int32) = 1 by decide), if_neg (show ¬ (6 : Int32) = 2 by decide), if_neg (show ¬ (6 : Int32) = 3 by decide), if_neg (show ¬ (6 : Int32) = 4 by decide), if_neg (show ¬ (6 : Int32) = 5 by decide), if_true, ax_135, in9_t, tN]
      exact ⟨_, rfl, by rw [h1.stat_25 (by omega)]⟩
    by_cases e7 : l2 = 7
    · subst e7; left
      simp (disch := omega) only [if_neg (show ¬ (7 : Int32) < 0 by decide), if_pos (show (7 : Int32) ≤ 7 by decide), if_neg (show ¬ (7 : Int32) = 0 by decide), if_neg (show ¬ (7 : Int32) = 1 by decide), if_neg (show ¬ (7 : Int32) = 2 by decide), if_neg (show ¬ (7 : Int32) = 3 by decide), if_neg (show ¬ (7 : Int32) = 4 by decide), if_neg (show ¬ (7 : Int32) = 5 by decide), if_neg (show ¬ (7 : Int32) = 6 by decide), if_true, ax_145, in9_t, tN]
      exact ⟨_, rfl, by rw [h1.who_25 (by omega)]⟩
    simp only [e0, e1, e2, e3, e4, e5, e6, e7, if_false]
    right
    by_cases c1 : l2 < 0
    · simp only [c1, if_true]; exact ⟨trivial, trivial⟩
    · simp only [c1, if_false]
      by_cases c2 : l2 ≤ 7
      · exfalso
        obtain ⟨v, hv, rfl⟩ := nNN c1
        rw [L_7, le_nI (by omega) (by omega)] at c2
        have : v = 0 ∨ v = 1 ∨ v = 2 ∨ v = 3 ∨ v = 4 ∨ v = 5 ∨ v = 6 ∨ v = 7 := by omega
        rcases this with rfl | rfl | rfl | rfl | rfl | rfl | rfl | rfl
        · exact e0 rfl
        · exact e1 rfl
        · exact e2 rfl
        · exact e3 rfl
        · exact e4 rfl
        · exact e5 rfl
        · exact e6 rfl
        · exact e7 rfl
      · simp only [c2, if_false]; exact ⟨trivial, trivial⟩
  · simp only [a, b, Option.bind_some, if_false, Bool.false_eq_true, Mod_refuse]
    right; exact ⟨trivial, trivial⟩
end Q26

/-! tokens: what both sides take from them -/
section Q64
variable {N b ln sp sn ss nP nF nE nW nH nR : Nat} {I I' : FI} {J J' : FJ} {t : Nat × Nat × List Nat} {m i : Nat}
theorem oneOf_l (h : CurM t I' J') (hO : TokOK t) {lo hi a : Nat} (hlh : lo ≤ hi) (hhi : hi < 35) (hmap : ∀ w, lo ≤ w → w ≤ hi → ownM.getD w 0 = a + (w - lo)) : ∀ r w f, w + r = hi + 1 → lo ≤ w → (∀ v, lo ≤ v → v < w → ¬ (t.1 = 4 ∧ t.2.1 = a + (v - lo))) → Mod_isOneOf_2 N (f + r + 1) (nI lo) (nI hi) (nI w) I' J' = (if t.1 = 4 ∧ a ≤ t.2.1 ∧ t.2.1 ≤ a + (hi - lo) then some (true, up2 I' 204 13 (nI (t.2.1 - a))) else Mod_bad 1 I') := by
  intro r
  induction r with
  | zero =>
    intro w f hw hl hne
    have no : ¬ (t.1 = 4 ∧ a ≤ t.2.1 ∧ t.2.1 ≤ a + (hi - lo)) := fun q => hne (lo + (t.2.1 - a)) (by omega) (by omega) ⟨q.1, by omega⟩
    have t1 : (nI hi < nI w) = True := by rw [lt_nI (by omega) (by omega)]; exact eq_true (by omega)
    have t2 : (nI w ≤ nI hi) = False := by rw [le_nI (by omega) (by omega)]; exact eq_false (by omega)
    rw [if_neg no]
    simp only [↓reduceIte, Mod_isOneOf_2, t1, t2, bind_eta]
  | succ r ih =>
    intro w f hw hl hne
    have t1 : (nI hi < nI w) = False := by rw [lt_nI (by omega) (by omega)]; exact eq_false (by omega)
    have t2 : (nI w ≤ nI hi) = True := by rw [le_nI (by omega) (by omega)]; exact eq_true (by omega)
    have t3 := isWord_m h hO (k := w) (by omega)
    rw [hmap w hl (by omega)] at t3
    rw [show f + (r + 1) + 1 = (f + r + 1) + 1 from rfl, Mod_isOneOf_2]
    by_cases e : t.1 = 4 ∧ t.2.1 = a + (w - lo)
    · rw [decide_eq_true e] at t3
      rw [if_pos ⟨e.1, by omega, by omega⟩]
      have t4 : nI w - nI lo = nI (t.2.1 - a) := by rw [nSb hl]; congr 1; omega
      simp only [↓reduceIte, t1, t2, t3, t4, Option.bind_some]
    · rw [decide_eq_false e] at t3
      simp only [↓reduceIte, t1, t3, nS, Bool.false_eq_true]
      exact ih (w + 1) f (by omega) (by omega) (fun v h1 h2 => by
        by_cases q : v = w
        · rw [q]; exact e
        · exact hne v h1 (by omega))
theorem oneOf_m (hN : 2000 ≤ N) (h : CurM t I' J') (hO : TokOK t) {lo hi a : Nat} (hl : lo ≤ hi) (hhi : hi < 35) (hmap : ∀ w, lo ≤ w → w ≤ hi → ownM.getD w 0 = a + (w - lo)) : Mod_isOneOf N (nI lo) (nI hi) I' J' = (if t.1 = 4 ∧ a ≤ t.2.1 ∧ t.2.1 ≤ a + (hi - lo) then some (true, up2 I' 204 13 (nI (t.2.1 - a))) else Mod_bad 1 I') := by
  obtain ⟨f, rfl⟩ : ∃ f, N = f + (hi + 1 - lo) + 1 := ⟨N - (hi + 1 - lo) - 1, by omega⟩
  exact oneOf_l h hO hl hhi hmap (hi + 1 - lo) lo f (by omega) (Nat.le_refl _) (fun v h1 h2 => absurd h2 (by omega))
theorem map_kind : ∀ w, 26 ≤ w → w ≤ 29 → ownM.getD w 0 = 8 + (w - 26) := by
  intro w h1 h2
  rcases (show w = 26 ∨ w = 27 ∨ w = 28 ∨ w = 29 by omega) with rfl | rfl | rfl | rfl <;> decide
theorem map_read : ∀ w, 5 ≤ w → w ≤ 7 → ownM.getD w 0 = 12 + (w - 5) := by
  intro w h1 h2
  rcases (show w = 5 ∨ w = 6 ∨ w = 7 by omega) with rfl | rfl | rfl <;> decide
theorem map_role : ∀ w, 10 ≤ w → w ≤ 12 → ownM.getD w 0 = 15 + (w - 10) := by
  intro w h1 h2
  rcases (show w = 10 ∨ w = 11 ∨ w = 12 by omega) with rfl | rfl | rfl <;> decide
theorem isInN {v lo hi : Nat} (hv : v < 2147483648) (hl : lo < 2147483648) (hh : hi < 2147483648) : Mod_isIn (nI v) (nI lo) (nI hi) = decide (lo ≤ v ∧ v ≤ hi) := by
  unfold Mod_isIn
  by_cases a : lo ≤ v
  · rw [if_neg (by rw [lt_nI hv hl]; omega)]
    by_cases b : v ≤ hi
    · rw [if_neg (by rw [lt_nI hh hv]; omega), decide_eq_true ⟨a, b⟩]
    · rw [if_pos (by rw [lt_nI hh hv]; omega), decide_eq_false (fun q => b q.2)]
  · rw [if_pos (by rw [lt_nI hv hl]; omega), decide_eq_false (fun q => a q.1)]
theorem takeNum_q (hN : 2000 ≤ N) (h : At m i t I J I' J') {lo hi : Nat} (hl : lo < 1000) (hh : hi < 1000) : ∃ v I1 J1 I1' J1', Tape_takeNumber 1 (nI lo) (nI hi) I J = some (v, I1, J1) ∧ Mod_readNumber N (nI lo) (nI hi) I' J' = some (v, I1', J1') ∧ Kp I J I' J' I1 J1 I1' J1' ∧ (v = true → ∃ x t', lo ≤ x ∧ x ≤ hi ∧ I1 1 12 = nI x ∧ I1' 204 13 = nI x ∧ At m (i + 1) t' I1 J1 I1' J1') ∧ (v = false → FlR I1 I1') := by
  have hO := h.ok
  have hB := h.curB
  have hM := h.curM
  have lt := tok_lt hO
  have k3 := kind_e hM (k := 3) (by omega)
  have e5 : (I 1 9 = (5 : Int32)) = (t.1 = 5) := by rw [hB.1.1, show (5 : Int32) = nI 5 from rfl, eq_nI (by omega) (by omega)]
  unfold Tape_takeNumber Mod_readNumber
  by_cases a : t.1 = 5
  · have y5 : (t.1 = 5) = True := eq_true a
    have y3 : (I' 204 7 = (3 : Int32)) = True := k3.trans (eq_true (mk_3.mpr a))
    have hv := hO.2.2.2 a
    have hj := hB.1.2.2.2 a
    have hi2 := hM.2.2.2.1 a
    have c1 : (lN t.2.1 < (nI lo).toInt64) = (t.2.1 < lo) := by rw [nI_l (by omega), ltL (by omega) (by omega)]
    have c2 : (lN t.2.1 ≤ (nI hi).toInt64) = (t.2.1 ≤ hi) := by rw [nI_l (by omega), leL (by omega) (by omega)]
    have c3 := isInN (v := t.2.1) (lo := lo) (hi := hi) (by omega) (by omega) (by omega)
    by_cases g1 : lo ≤ t.2.1
    · have z1 : (t.2.1 < lo) = False := eq_false (by omega)
      by_cases g2 : t.2.1 ≤ hi
      · have z2 : (t.2.1 ≤ hi) = True := eq_true g2
        rw [decide_eq_true ⟨g1, g2⟩] at c3
        obtain ⟨t', I1, J1, I1', J1', s1, s2, s3, s4, s5, s6⟩ := next_q hN (h.up12 (v := nI t.2.1) |>.upM (x := 204) (k := 13) (v := nI t.2.1) (by omega) (by omega)) (by omega)
        refine ⟨true, I1, J1, I1', J1', ?_, ?_, ?_, fun _ => ⟨t.2.1, t', g1, g2, by rw [s5, u_s], by rw [s6, u_s], s3⟩, fun q => absurd q (by simp)⟩
        · simp only [↓reduceIte, e5, y5, hj, c1, c2, z1, z2, lN_i, s1, Option.bind_some]
        · simp only [↓reduceIte, y3, hi2, c3, s2, Option.bind_some]
        · exact ⟨fun x j w => (s4.1 x j w).trans (up2_ff (by omega)), s4.2.1, fun x j w => (s4.2.2.1 x j w).trans (up2_ff (by omega)), s4.2.2.2⟩
      · have z2 : (t.2.1 ≤ hi) = False := eq_false g2
        rw [decide_eq_false (fun q => g2 q.2)] at c3
        obtain ⟨I1, I1', f1, f2, f3, f4⟩ := fail_q h (k := 2) (by omega)
        refine ⟨false, I1, J, I1', J', ?_, ?_, f4, fun q => absurd q (by simp), fun _ => f3⟩
        · have f1' : Tape_fail 1 2 I = some (false, I1) := f1
          simp only [↓reduceIte, e5, y5, hj, c1, c2, z1, z2, f1', Option.bind_some]
        · have f2' : Mod_bad 2 I' = some (false, I1') := f2
          simp only [↓reduceIte, y3, hi2, c3, f2', Option.bind_some, Bool.false_eq_true]
    · have z1 : (t.2.1 < lo) = True := eq_true (by omega)
      rw [decide_eq_false (fun q => g1 q.1)] at c3
      obtain ⟨I1, I1', f1, f2, f3, f4⟩ := fail_q h (k := 2) (by omega)
      refine ⟨false, I1, J, I1', J', ?_, ?_, f4, fun q => absurd q (by simp), fun _ => f3⟩
      · have f1' : Tape_fail 1 2 I = some (false, I1) := f1
        simp only [↓reduceIte, e5, y5, hj, c1, z1, f1', Option.bind_some]
      · have f2' : Mod_bad 2 I' = some (false, I1') := f2
        simp only [↓reduceIte, y3, hi2, c3, f2', Option.bind_some, Bool.false_eq_true]
  · have y5 : (t.1 = 5) = False := eq_false a
    have y3 : (I' 204 7 = (3 : Int32)) = False := k3.trans (eq_false (fun q => a (mk_3.mp q)))
    obtain ⟨I1, I1', f1, f2, f3, f4⟩ := fail_q h (k := 1) (fun _ => rfl)
    refine ⟨false, I1, J, I1', J', ?_, ?_, f4, fun q => absurd q (by simp), fun _ => f3⟩
    · have f1' : Tape_fail 1 1 I = some (false, I1) := f1
      simp only [↓reduceIte, e5, y5, f1', Option.bind_some]
    · have f2' : Mod_bad 1 I' = some (false, I1') := f2
      simp only [↓reduceIte, y3, f2', Option.bind_some]
theorem sign_b (h : CurB t I J) (hO : TokOK t) {s : Nat} (hs : s < 100) : (I 1 9 = nI s) = (t.1 = s) := by
  have := tok_lt hO
  rw [h.1.1, eq_nI (by omega) (by omega)]
theorem sign_m (h : CurM t I' J') (hO : TokOK t) {s : Nat} (h6 : 6 ≤ s) (hs : s < 100) : Mod_isSign (nI s) I' = decide (t.1 = s) := by
  have lt := tok_lt hO
  have k4 := kind_e h (k := 4) (by omega)
  unfold Mod_isSign
  by_cases a : mk t.1 = 4
  · have g := mk_4.mp a
    rw [if_pos (show I' 204 7 = (4 : Int32) from (k4.trans (eq_true a)) ▸ trivial), h.2.2.2.2 g]
    by_cases e : t.1 = s
    · rw [e, if_pos rfl, decide_eq_true rfl]
    · rw [if_neg (by rw [eq_nI (by omega) (by omega)]; exact e), decide_eq_false e]
  · rw [if_neg (show ¬ I' 204 7 = (4 : Int32) from fun q => a (k4 ▸ q)), decide_eq_false (fun q => a (mk_4.mpr (by omega)))]
theorem takeSign_q (hN : 2000 ≤ N) (h : At m i t I J I' J') {s : Nat} (h6 : 6 ≤ s) (hs : s < 100) : ∃ v I1 J1 I1' J1', Tape_takeSign 1 (nI s) I J = some (v, I1, J1) ∧ (if (Mod_isSign (nI s) I') then (Option.bind (Mod_go N I' J') fun x2 => (some (true, x2.1, x2.2))) else (Option.bind (Mod_bad 1 I') fun x1 => (some (x1.1, x1.2, J')))) = some (v, I1', J1') ∧ Kp I J I' J' I1 J1 I1' J1' ∧ (v = true → ∃ t', At m (i + 1) t' I1 J1 I1' J1') ∧ (v = false → FlR I1 I1') := by
  have hO := h.ok
  have e1 := sign_b h.curB hO hs
  have e2 := sign_m h.curM hO h6 hs
  unfold Tape_takeSign
  by_cases a : t.1 = s
  · have y : (t.1 = s) = True := eq_true a
    rw [decide_eq_true a] at e2
    obtain ⟨t', I1, J1, I1', J1', s1, s2, s3, s4, s5, s6⟩ := next_q hN h (by omega)
    refine ⟨true, I1, J1, I1', J1', ?_, ?_, s4, fun _ => ⟨t', s3⟩, fun q => absurd q (by simp)⟩
    · simp only [↓reduceIte, e1, y, s1, Option.bind_some]
    · simp only [↓reduceIte, e2, s2, Option.bind_some]
  · have y : (t.1 = s) = False := eq_false a
    rw [decide_eq_false a] at e2
    obtain ⟨I1, I1', f1, f2, f3, f4⟩ := fail_q h (k := 1) (fun _ => rfl)
    refine ⟨false, I1, J, I1', J', ?_, ?_, f4, fun q => absurd q (by simp), fun _ => f3⟩
    · have f1' : Tape_fail 1 1 I = some (false, I1) := f1
      simp only [↓reduceIte, e1, y, f1', Option.bind_some]
    · have f2' : Mod_bad 1 I' = some (false, I1') := f2
      simp only [↓reduceIte, e2, f2', Option.bind_some, Bool.false_eq_true]
theorem readEnd_q (hN : 2000 ≤ N) (h : At m i t I J I' J') : ∃ v I1 J1 I1' J1', Tape_takeSign 1 59 I J = some (v, I1, J1) ∧ Mod_readEnd N I' J' = some (v, I1', J1') ∧ Kp I J I' J' I1 J1 I1' J1' ∧ (v = true → ∃ t', At m (i + 1) t' I1 J1 I1' J1') ∧ (v = false → FlR I1 I1') := takeSign_q hN h (s := 59) (by omega) (by omega)
/-- a name among names, both sides -/
theorem find_l {A B n0 base n : Nat} {x y : Int64} {L : List Nat} (hn : n ≤ n0) (h0 : n0 ≤ 22) (hb : base + n ≤ 22) (hR : ∀ k, k < n → ∃ K, WordR (J A k) (J' B (base + k)) K) (hw : WordR x y L) : ∀ r k f, k + r = n → ∃ v, Land_placeOf_3 N A n0 (f + r + 1) (nI n) x (nI k) J = some v ∧ Mod_findIn_3 N B 22 (f + r + 1) (nI base) (nI n) y (nI k) J' = some v ∧ (v = -1 ∨ ∃ j, j < n ∧ v = nI j) := by
  intro r
  induction r with
  | zero =>
    intro k f hk
    have t1 : (nI n ≤ nI k) = True := by rw [le_nI (by omega) (by omega)]; exact eq_true (by omega)
    refine ⟨-1, ?_, ?_, Or.inl rfl⟩
    · simp only [↓reduceIte, Land_placeOf_3, t1]
    · simp only [↓reduceIte, Mod_findIn_3, t1]
  | succ r ih =>
    intro k f hk
    have t1 : (nI n ≤ nI k) = False := by rw [le_nI (by omega) (by omega)]; exact eq_false (by omega)
    have t2 : (Int32.ofNat n0 ≤ nI k) = False := by rw [show Int32.ofNat n0 = nI n0 from rfl, le_nI (by omega) (by omega)]; exact eq_false (by omega)
    have t3 : in9 (nI k) n0 = True := in9_t (by omega) (by omega)
    have t4 : (nI k).toNatClampNeg = k := tN (by omega)
    have t5 : in9 (nI (base + k)) 22 = True := in9_t (by omega) (by omega)
    have t6 : (nI (base + k)).toNatClampNeg = base + k := tN (by omega)
    obtain ⟨K, hK⟩ := hR k (by omega)
    have we := word_eq hK hw
    rw [show f + (r + 1) + 1 = (f + r + 1) + 1 from rfl, Land_placeOf_3, Mod_findIn_3]
    by_cases e : J A k = x
    · have y1 : (J A k = x) = True := eq_true e
      have y2 : (J' B (base + k) = y) = True := by rw [← we]; exact y1
      refine ⟨nI k, ?_, ?_, Or.inr ⟨k, by omega, rfl⟩⟩
      · simp only [↓reduceIte, t1, t2, t3, t4, y1]
      · simp only [↓reduceIte, t1, nA, t5, t6, y2]
    · have y1 : (J A k = x) = False := eq_false e
      have y2 : (J' B (base + k) = y) = False := by rw [← we]; exact y1
      obtain ⟨v, q1, q2, q3⟩ := ih (k + 1) f (by omega)
      refine ⟨v, ?_, ?_, q3⟩
      · simp only [↓reduceIte, t1, t2, t3, t4, y1, nS]; exact q1
      · simp only [↓reduceIte, t1, nA, t5, t6, y2, nS]; exact q2
theorem find_q (hN : 2000 ≤ N) {A B n0 base n : Nat} {x y : Int64} {L : List Nat} (hn : n ≤ n0) (h0 : n0 ≤ 22) (hb : base + n ≤ 22) (hR : ∀ k, k < n → ∃ K, WordR (J A k) (J' B (base + k)) K) (hw : WordR x y L) : ∃ v, Land_placeOf N A n0 (nI n) x J = some v ∧ Mod_findIn N B 22 (nI base) (nI n) y J' = some v ∧ (v = -1 ∨ ∃ j, j < n ∧ v = nI j) := by
  obtain ⟨f, rfl⟩ : ∃ f, N = f + n + 1 := ⟨N - n - 1, by omega⟩
  exact find_l hn h0 hb hR hw n 0 f (by omega)
theorem At.word (h : At m i t I J I' J') (h3 : t.1 = 3) : WordR (J 1 10) (J' 204 12) t.2.2 := by
  have q := h.ok.2.1 h3
  exact ⟨q.1, q.2.1, q.2.2.1, h.curB.1.2.1 h3, h.curM.2.1 h3⟩
theorem FlR.of {I1 I1' : FI} (h : FlR I I') (h1 : I1 1 14 = I 1 14) (h2 : I1 1 15 = I 1 15) (h3 : I1' 204 10 = I' 204 10) (h4 : I1' 204 11 = I' 204 11) : FlR I1 I1' := by
  unfold FlR
  rw [h1, h2, h3, h4]
  exact h
/-- the letters as both sides have them -/
theorem TapeR.byt {n : Nat} (h : TapeR I I' n) : ∃ c : Nat → Nat, BytB c n I ∧ (∀ i, i < n → c i < 256 ∧ I' 205 i = nI (c i)) := by
  obtain ⟨h1, h2, h3, h4, h5⟩ := h
  have e : ∀ i, i < 940 → (I' 205 i).toNatClampNeg < 256 ∧ I' 205 i = nI (I' 205 i).toNatClampNeg := fun i hi => by
    obtain ⟨v, v1, v2⟩ := h5 i hi
    rw [v2, tN (by omega)]
    exact ⟨v1, rfl⟩
  refine ⟨fun i => (I' 205 i).toNatClampNeg, ⟨h1, h2, fun i hi => ⟨(e i (by omega)).1, ?_⟩⟩, fun i hi => e i (by omega)⟩
  rw [h4 i (by omega)]
  unfold sb
  rw [← (e i (by omega)).2]
theorem begin_q (hN : 2000 ≤ N) (hm : m ≤ 900) (hw : WordsJ J) {n : Nat} (h : TapeR I I' n) : ∃ t I1 J1 I1' J1', Tape_begin N 1 (nI m) I J = some (I1, J1) ∧ Mod_begin N (nI m) I' J' = some (I1', J1') ∧ At m 0 t I1 J1 I1' J1' ∧ I1' 204 2 = nI 0 ∧ I1' 204 0 = nI 0 ∧ (∀ x j, ¬ (x = 1 ∧ 6 ≤ j ∧ j ≤ 15) → x ≠ 4 → x ≠ 5 → I1 x j = I x j) ∧ (∀ x j, x ≠ 6 → ¬ (x = 1 ∧ j = 10) → J1 x j = J x j) ∧ (∀ x j, ¬ (x = 204 ∧ j ≤ 10) → I1' x j = I' x j) ∧ (∀ x j, ¬ (x = 204 ∧ j = 12) → J1' x j = J' x j) := by
  obtain ⟨c, c1, c2⟩ := h.byt
  have h2 := h.2.2.1
  obtain ⟨I1, J1, L, e1, e2, e3, e4⟩ := begin_b hN hm hw c1
  obtain ⟨I1', J1', g1, g2, g3, g4⟩ := go_m (N := N) (c := c) (n := n) (m := m) (i := 0) (I := up2 (up2 (up2 (up2 (up2 (up2 I' 204 0 (nI 0)) 204 2 (nI 0)) 204 3 (nI n)) 204 4 (nI m)) 204 10 (nI 0)) 204 5 (nI 0)) (J := J') hN ⟨c1.1, by rw [u_j (by omega), u_j (by omega), u_j (by omega), u_s], fun i hi => ⟨(c2 i hi).1, by rw [u_o (by omega), u_o (by omega), u_o (by omega), u_o (by omega), u_o (by omega), u_o (by omega)]; exact (c2 i hi).2⟩⟩ hm (by rw [u_j (by omega), u_j (by omega), u_s]) u_s
  refine ⟨_, I1, J1, I1', J1', e1, ?_, ⟨c, n, L, c1.1, hm, Nat.zero_le _, rfl, e2, g2, e3, ?_⟩, ?_, ?_, ?_, ?_, ?_, g4⟩
  · unfold Mod_begin Mod_take
    have r2 : ∀ v, up2 I' 204 0 v 204 2 = nI n := fun v => by rw [u_j (by omega)]; exact h2
    simp only [Option.bind_some, r2]
    exact (congrArg (fun z => Option.bind z fun x7 => some (x7.1, x7.2)) g1)
  · rw [g3 _ _ (by omega), u_j (by omega), u_s]
  · rw [g3 _ _ (by omega), u_j (by omega), u_j (by omega), u_j (by omega), u_j (by omega), u_s]
  · rw [g3 _ _ (by omega), u_j (by omega), u_j (by omega), u_j (by omega), u_j (by omega), u_j (by omega), u_s]
  · intro x j w1 w2 w3
    exact fr_Tape_begin (by omega) (by omega) (by omega) (by omega) (by omega) (by omega) (by omega) (by omega) (by omega) (by omega) e1
  · intro x j w1 w2
    exact fj_Tape_begin (by omega) (by omega) e1
  · intro x j w
    exact (g3 x j (by omega)).trans ((up2_ff (by omega)).trans ((up2_ff (by omega)).trans ((up2_ff (by omega)).trans ((up2_ff (by omega)).trans ((up2_ff (by omega)).trans (up2_ff (by omega)))))))
end Q64

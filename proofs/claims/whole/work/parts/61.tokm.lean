/-! tokens: the model goes on by one -/
section Q61
variable {N b ln sp sn ss nP nF nE nW nH nR : Nat} {I I' : FI} {J J' : FJ} {c : Nat → Nat} {n m : Nat}
/-- the letters on the model's side -/
def BytM (c : Nat → Nat) (n : Nat) (I : FI) : Prop := n ≤ 940 ∧ I 204 3 = nI n ∧ ∀ i, i < n → c i < 256 ∧ I 205 i = nI (c i)
theorem BytM.to {I1 : FI} (h : BytM c n I) (h1 : I1 204 3 = I 204 3) (h2 : ∀ i, I1 205 i = I 205 i) : BytM c n I1 := ⟨h.1, by rw [h1]; exact h.2.1, fun i hi => ⟨(h.2.2 i hi).1, by rw [h2]; exact (h.2.2 i hi).2⟩⟩
theorem cL_pos {q : Nat} (h : isLt (c q) = true) : ∀ d, 1 ≤ cL c q (d + 1) := by
  intro d
  induction d with
  | zero => show 1 ≤ 0 + (if isLt (c (q + 0)) = true then 1 else 0); rw [Nat.add_zero, h, if_pos rfl]; omega
  | succ d ih => show 1 ≤ cL c q (d + 1) + _; omega
theorem cD_pos {q : Nat} (h : isDg (c q) = true) : ∀ d, 1 ≤ cD c q (d + 1) := by
  intro d
  induction d with
  | zero => show 1 ≤ 0 + (if isDg (c (q + 0)) = true then 1 else 0); rw [Nat.add_zero, h, if_pos rfl]; omega
  | succ d ih => show 1 ≤ cD c q (d + 1) + _; omega
theorem b2i_n (x : Bool) : b2i x = nI (if x = true then 1 else 0) := by cases x <;> rfl
/-- one sign of a run -/
theorem run_1 (h : BytM c n I) {q d a g : Nat} (ha : a < 2) (hg : g < 2) (h5 : I 204 5 = nI (q + d)) (h6 : I 204 6 = nI q) (hn : q + d < n) (hc : isAn (c (q + d)) = true) (f : Nat) (l1 : Int32) : Mod_go_215 N (f + 1) l1 (nI a) (nI g) I J = Mod_go_215 N f l1 (nI a) (nI (if g = 1 ∧ (if isLt (c (q + d)) = true then 1 else 0) = a then 1 else 0)) (up2 (up2 I 204 8 (if 3 ≤ d then I 204 8 else ((10 * (I 204 8)) + nI (c (q + d))) - 48)) 204 5 (nI (q + d + 1))) (up2 J 204 12 (if 7 ≤ d then J 204 12 else ((27 * (J 204 12)) + (nI (c (q + d))).toInt64) - 96)) := by
  obtain ⟨h0, h3, hb⟩ := h
  obtain ⟨b1, b2⟩ := hb _ hn
  have t1 : (nI n ≤ nI (q + d)) = False := by rw [le_nI (by omega) (by omega)]; exact eq_false (by omega)
  have t2 : in9 (nI (q + d)) 940 = True := in9_t (by omega) (by omega)
  have t3 : (nI (q + d)).toNatClampNeg = q + d := tN (by omega)
  have t4 : nI (q + d) - nI q = nI d := by rw [nSb (by omega)]; congr 1; omega
  have tA : Mod_tapeAt (nI (q + d)) I = some (nI (c (q + d))) := by
    unfold Mod_tapeAt
    simp only [↓reduceIte, h3, t1, t2, t3, b2]
  have f3 : (3 ≤ nI d) = (3 ≤ d) := by rw [show (3 : Int32) = nI 3 from rfl, le_nI (by omega) (by omega)]
  have f7 : (7 ≤ nI d) = (7 ≤ d) := by rw [show (7 : Int32) = nI 7 from rfl, le_nI (by omega) (by omega)]
  have eq8 : 3 ≤ d → up2 I 204 8 (I 204 8) = I := fun _ => u_e rfl
  have e12 : up2 J 204 12 (J 204 12) = J := u_e rfl
  have e8 : up2 I 204 8 (I 204 8) = I := u_e rfl
  have r5 : ∀ v, up2 I 204 8 v 204 5 = I 204 5 := fun v => u_j (by omega)
  have s1 : Mod_isLetter (nI (c (q + d))) = isLt (c (q + d)) := mLt _ b1
  have s2 : Mod_isDigit (nI (c (q + d))) = isDg (c (q + d)) := mDg _ b1
  have z0 : (nI 0 = (0 : Int32)) = True := eq_true rfl
  have z1 : (nI 1 = (0 : Int32)) = False := eq_false (by decide)
  have c11 : (b2i true = nI 1) = True := eq_true rfl
  have c10 : (b2i true = nI 0) = False := eq_false (by decide)
  have c01 : (b2i false = nI 1) = False := eq_false (by decide)
  have c00 : (b2i false = nI 0) = True := eq_true rfl
  have k0 : (0 : Int32) = nI 0 := rfl
  have k1 : (1 : Int32) = nI 1 := rfl
  conv => lhs; rw [Mod_go_215]
  rcases an_or hc with ⟨x, y⟩ | ⟨x, y⟩
  · rw [x] at s1
    rw [y] at s2
    rw [x]
    have ag : ∀ w : Nat, (w = 0 ∨ w = 1) → w < 2 := fun w hw => by omega
    rcases (show a = 0 ∨ a = 1 by omega) with rfl | rfl <;> rcases (show g = 0 ∨ g = 1 by omega) with rfl | rfl <;> by_cases w3 : 3 ≤ d
    · have y3 : (3 ≤ d) = True := eq_true w3
      by_cases w7 : 7 ≤ d
      · have y7 : (7 ≤ d) = True := eq_true w7
        simp only [↓reduceIte, h5, h6, h3, tA, t2, t3, t4, b2, s1, s2, f3, f7, z0, z1, c11, c10, c01, c00, e8, e12, r5, nS, Nat.reduceAdd, Option.bind_some, Bool.false_eq_true, Nat.zero_ne_one, Nat.one_ne_zero, and_true, and_false, true_and, false_and, y3, y7]
        try rfl
      · have y7 : (7 ≤ d) = False := eq_false w7
        simp only [↓reduceIte, h5, h6, h3, tA, t2, t3, t4, b2, s1, s2, f3, f7, z0, z1, c11, c10, c01, c00, e8, e12, r5, nS, Nat.reduceAdd, Option.bind_some, Bool.false_eq_true, Nat.zero_ne_one, Nat.one_ne_zero, and_true, and_false, true_and, false_and, y3, y7]
        try rfl
    · have y3 : (3 ≤ d) = False := eq_false w3
      have y7 : (7 ≤ d) = False := eq_false (by omega)
      simp only [↓reduceIte, h5, h6, h3, tA, t2, t3, t4, b2, s1, s2, f3, f7, z0, z1, c11, c10, c01, c00, e8, e12, r5, nS, Nat.reduceAdd, Option.bind_some, Bool.false_eq_true, Nat.zero_ne_one, Nat.one_ne_zero, and_true, and_false, true_and, false_and, y3, y7]
      try rfl
    · have y3 : (3 ≤ d) = True := eq_true w3
      by_cases w7 : 7 ≤ d
      · have y7 : (7 ≤ d) = True := eq_true w7
        simp only [↓reduceIte, h5, h6, h3, tA, t2, t3, t4, b2, s1, s2, f3, f7, z0, z1, c11, c10, c01, c00, e8, e12, r5, nS, Nat.reduceAdd, Option.bind_some, Bool.false_eq_true, Nat.zero_ne_one, Nat.one_ne_zero, and_true, and_false, true_and, false_and, y3, y7]
        try rfl
      · have y7 : (7 ≤ d) = False := eq_false w7
        simp only [↓reduceIte, h5, h6, h3, tA, t2, t3, t4, b2, s1, s2, f3, f7, z0, z1, c11, c10, c01, c00, e8, e12, r5, nS, Nat.reduceAdd, Option.bind_some, Bool.false_eq_true, Nat.zero_ne_one, Nat.one_ne_zero, and_true, and_false, true_and, false_and, y3, y7]
        try rfl
    · have y3 : (3 ≤ d) = False := eq_false w3
      have y7 : (7 ≤ d) = False := eq_false (by omega)
      simp only [↓reduceIte, h5, h6, h3, tA, t2, t3, t4, b2, s1, s2, f3, f7, z0, z1, c11, c10, c01, c00, e8, e12, r5, nS, Nat.reduceAdd, Option.bind_some, Bool.false_eq_true, Nat.zero_ne_one, Nat.one_ne_zero, and_true, and_false, true_and, false_and, y3, y7]
      try rfl
    · have y3 : (3 ≤ d) = True := eq_true w3
      by_cases w7 : 7 ≤ d
      · have y7 : (7 ≤ d) = True := eq_true w7
        simp only [↓reduceIte, h5, h6, h3, tA, t2, t3, t4, b2, s1, s2, f3, f7, z0, z1, c11, c10, c01, c00, e8, e12, r5, nS, Nat.reduceAdd, Option.bind_some, Bool.false_eq_true, Nat.zero_ne_one, Nat.one_ne_zero, and_true, and_false, true_and, false_and, y3, y7]
        try rfl
      · have y7 : (7 ≤ d) = False := eq_false w7
        simp only [↓reduceIte, h5, h6, h3, tA, t2, t3, t4, b2, s1, s2, f3, f7, z0, z1, c11, c10, c01, c00, e8, e12, r5, nS, Nat.reduceAdd, Option.bind_some, Bool.false_eq_true, Nat.zero_ne_one, Nat.one_ne_zero, and_true, and_false, true_and, false_and, y3, y7]
        try rfl
    · have y3 : (3 ≤ d) = False := eq_false w3
      have y7 : (7 ≤ d) = False := eq_false (by omega)
      simp only [↓reduceIte, h5, h6, h3, tA, t2, t3, t4, b2, s1, s2, f3, f7, z0, z1, c11, c10, c01, c00, e8, e12, r5, nS, Nat.reduceAdd, Option.bind_some, Bool.false_eq_true, Nat.zero_ne_one, Nat.one_ne_zero, and_true, and_false, true_and, false_and, y3, y7]
      try rfl
    · have y3 : (3 ≤ d) = True := eq_true w3
      by_cases w7 : 7 ≤ d
      · have y7 : (7 ≤ d) = True := eq_true w7
        simp only [↓reduceIte, h5, h6, h3, tA, t2, t3, t4, b2, s1, s2, f3, f7, z0, z1, c11, c10, c01, c00, e8, e12, r5, nS, Nat.reduceAdd, Option.bind_some, Bool.false_eq_true, Nat.zero_ne_one, Nat.one_ne_zero, and_true, and_false, true_and, false_and, y3, y7]
        try rfl
      · have y7 : (7 ≤ d) = False := eq_false w7
        simp only [↓reduceIte, h5, h6, h3, tA, t2, t3, t4, b2, s1, s2, f3, f7, z0, z1, c11, c10, c01, c00, e8, e12, r5, nS, Nat.reduceAdd, Option.bind_some, Bool.false_eq_true, Nat.zero_ne_one, Nat.one_ne_zero, and_true, and_false, true_and, false_and, y3, y7]
        try rfl
    · have y3 : (3 ≤ d) = False := eq_false w3
      have y7 : (7 ≤ d) = False := eq_false (by omega)
      simp only [↓reduceIte, h5, h6, h3, tA, t2, t3, t4, b2, s1, s2, f3, f7, z0, z1, c11, c10, c01, c00, e8, e12, r5, nS, Nat.reduceAdd, Option.bind_some, Bool.false_eq_true, Nat.zero_ne_one, Nat.one_ne_zero, and_true, and_false, true_and, false_and, y3, y7]
      try rfl
  · rw [x] at s1
    rw [y] at s2
    rw [x]
    have ag : ∀ w : Nat, (w = 0 ∨ w = 1) → w < 2 := fun w hw => by omega
    rcases (show a = 0 ∨ a = 1 by omega) with rfl | rfl <;> rcases (show g = 0 ∨ g = 1 by omega) with rfl | rfl <;> by_cases w3 : 3 ≤ d
    · have y3 : (3 ≤ d) = True := eq_true w3
      by_cases w7 : 7 ≤ d
      · have y7 : (7 ≤ d) = True := eq_true w7
        simp only [↓reduceIte, h5, h6, h3, tA, t2, t3, t4, b2, s1, s2, f3, f7, z0, z1, c11, c10, c01, c00, e8, e12, r5, nS, Nat.reduceAdd, Option.bind_some, Bool.false_eq_true, Nat.zero_ne_one, Nat.one_ne_zero, and_true, and_false, true_and, false_and, y3, y7]
        try rfl
      · have y7 : (7 ≤ d) = False := eq_false w7
        simp only [↓reduceIte, h5, h6, h3, tA, t2, t3, t4, b2, s1, s2, f3, f7, z0, z1, c11, c10, c01, c00, e8, e12, r5, nS, Nat.reduceAdd, Option.bind_some, Bool.false_eq_true, Nat.zero_ne_one, Nat.one_ne_zero, and_true, and_false, true_and, false_and, y3, y7]
        try rfl
    · have y3 : (3 ≤ d) = False := eq_false w3
      have y7 : (7 ≤ d) = False := eq_false (by omega)
      simp only [↓reduceIte, h5, h6, h3, tA, t2, t3, t4, b2, s1, s2, f3, f7, z0, z1, c11, c10, c01, c00, e8, e12, r5, nS, Nat.reduceAdd, Option.bind_some, Bool.false_eq_true, Nat.zero_ne_one, Nat.one_ne_zero, and_true, and_false, true_and, false_and, y3, y7]
      try rfl
    · have y3 : (3 ≤ d) = True := eq_true w3
      by_cases w7 : 7 ≤ d
      · have y7 : (7 ≤ d) = True := eq_true w7
        simp only [↓reduceIte, h5, h6, h3, tA, t2, t3, t4, b2, s1, s2, f3, f7, z0, z1, c11, c10, c01, c00, e8, e12, r5, nS, Nat.reduceAdd, Option.bind_some, Bool.false_eq_true, Nat.zero_ne_one, Nat.one_ne_zero, and_true, and_false, true_and, false_and, y3, y7]
        try rfl
      · have y7 : (7 ≤ d) = False := eq_false w7
        simp only [↓reduceIte, h5, h6, h3, tA, t2, t3, t4, b2, s1, s2, f3, f7, z0, z1, c11, c10, c01, c00, e8, e12, r5, nS, Nat.reduceAdd, Option.bind_some, Bool.false_eq_true, Nat.zero_ne_one, Nat.one_ne_zero, and_true, and_false, true_and, false_and, y3, y7]
        try rfl
    · have y3 : (3 ≤ d) = False := eq_false w3
      have y7 : (7 ≤ d) = False := eq_false (by omega)
      simp only [↓reduceIte, h5, h6, h3, tA, t2, t3, t4, b2, s1, s2, f3, f7, z0, z1, c11, c10, c01, c00, e8, e12, r5, nS, Nat.reduceAdd, Option.bind_some, Bool.false_eq_true, Nat.zero_ne_one, Nat.one_ne_zero, and_true, and_false, true_and, false_and, y3, y7]
      try rfl
    · have y3 : (3 ≤ d) = True := eq_true w3
      by_cases w7 : 7 ≤ d
      · have y7 : (7 ≤ d) = True := eq_true w7
        simp only [↓reduceIte, h5, h6, h3, tA, t2, t3, t4, b2, s1, s2, f3, f7, z0, z1, c11, c10, c01, c00, e8, e12, r5, nS, Nat.reduceAdd, Option.bind_some, Bool.false_eq_true, Nat.zero_ne_one, Nat.one_ne_zero, and_true, and_false, true_and, false_and, y3, y7]
        try rfl
      · have y7 : (7 ≤ d) = False := eq_false w7
        simp only [↓reduceIte, h5, h6, h3, tA, t2, t3, t4, b2, s1, s2, f3, f7, z0, z1, c11, c10, c01, c00, e8, e12, r5, nS, Nat.reduceAdd, Option.bind_some, Bool.false_eq_true, Nat.zero_ne_one, Nat.one_ne_zero, and_true, and_false, true_and, false_and, y3, y7]
        try rfl
    · have y3 : (3 ≤ d) = False := eq_false w3
      have y7 : (7 ≤ d) = False := eq_false (by omega)
      simp only [↓reduceIte, h5, h6, h3, tA, t2, t3, t4, b2, s1, s2, f3, f7, z0, z1, c11, c10, c01, c00, e8, e12, r5, nS, Nat.reduceAdd, Option.bind_some, Bool.false_eq_true, Nat.zero_ne_one, Nat.one_ne_zero, and_true, and_false, true_and, false_and, y3, y7]
      try rfl
    · have y3 : (3 ≤ d) = True := eq_true w3
      by_cases w7 : 7 ≤ d
      · have y7 : (7 ≤ d) = True := eq_true w7
        simp only [↓reduceIte, h5, h6, h3, tA, t2, t3, t4, b2, s1, s2, f3, f7, z0, z1, c11, c10, c01, c00, e8, e12, r5, nS, Nat.reduceAdd, Option.bind_some, Bool.false_eq_true, Nat.zero_ne_one, Nat.one_ne_zero, and_true, and_false, true_and, false_and, y3, y7]
        try rfl
      · have y7 : (7 ≤ d) = False := eq_false w7
        simp only [↓reduceIte, h5, h6, h3, tA, t2, t3, t4, b2, s1, s2, f3, f7, z0, z1, c11, c10, c01, c00, e8, e12, r5, nS, Nat.reduceAdd, Option.bind_some, Bool.false_eq_true, Nat.zero_ne_one, Nat.one_ne_zero, and_true, and_false, true_and, false_and, y3, y7]
        try rfl
    · have y3 : (3 ≤ d) = False := eq_false w3
      have y7 : (7 ≤ d) = False := eq_false (by omega)
      simp only [↓reduceIte, h5, h6, h3, tA, t2, t3, t4, b2, s1, s2, f3, f7, z0, z1, c11, c10, c01, c00, e8, e12, r5, nS, Nat.reduceAdd, Option.bind_some, Bool.false_eq_true, Nat.zero_ne_one, Nat.one_ne_zero, and_true, and_false, true_and, false_and, y3, y7]
      try rfl
/-- a whole run -/
theorem run_m {q a : Nat} (ha : a = if isLt (c q) = true then 1 else 0) : ∀ r d f (I : FI) (J : FJ) (l1 : Int32), 1 ≤ d + r → BytM c n I → I 204 5 = nI (q + d) → I 204 6 = nI q → Run c n q (q + d + r) → (cD c q d = 0 → d ≤ 7 → J 204 12 = lN (nameN 27 (ltr c q d))) → (cL c q d = 0 → d ≤ 3 → I 204 8 = nI (dgN c q d)) → ∃ I1 J1, Mod_go_215 N (f + r + 1) l1 (nI a) (nI (if (a = 1 ∧ cD c q d = 0) ∨ (a = 0 ∧ cL c q d = 0) then 1 else 0)) I J = some (I1, J1) ∧ I1 204 5 = nI (q + d + r) ∧ I1 204 6 = nI q ∧ MdT (runT c q (d + r)) (I1 204 7) (I1 204 8) (I1 204 9) (J1 204 12) := by
  intro r
  induction r with
  | zero =>
    intro d f I J l1 hd h h5 h6 hr h12 h8
    obtain ⟨h0, h3, hb⟩ := h
    obtain ⟨a1, a2, a3, a4⟩ := hr
    have hs := cnt_sum d (c := c) (q := q) (fun i hi => a3 (q + i) (by omega) (by omega))
    have tA : ∃ v, Mod_tapeAt (nI (q + d)) I = some v ∧ Mod_isLetter v = false ∧ Mod_isDigit v = false := by
      by_cases w : q + d < n
      · obtain ⟨b1, b2⟩ := hb _ w
        have t1 : (nI n ≤ nI (q + d)) = False := by rw [le_nI (by omega) (by omega)]; exact eq_false (by omega)
        have t2 : in9 (nI (q + d)) 940 = True := in9_t (by omega) (by omega)
        have t3 : (nI (q + d)).toNatClampNeg = q + d := tN (by omega)
        have no := a4 w
        rw [Nat.add_zero] at no
        unfold isAn at no
        rw [Bool.or_eq_false_iff] at no
        refine ⟨nI (c (q + d)), ?_, by rw [mLt _ b1]; exact no.1, by rw [mDg _ b1]; exact no.2⟩
        unfold Mod_tapeAt
        simp only [↓reduceIte, h3, t1, t2, t3, b2]
      · have t1 : (nI n ≤ nI (q + d)) = True := by rw [le_nI (by omega) (by omega)]; exact eq_true (by omega)
        refine ⟨0, ?_, by decide, by decide⟩
        unfold Mod_tapeAt
        simp only [↓reduceIte, h3, t1]
    obtain ⟨v, tA, v1, v2⟩ := tA
    have t4 : nI (q + d) - nI q = nI d := by rw [nSb (by omega)]; congr 1; omega
    have f3 : (nI d ≤ 3) = (d ≤ 3) := by rw [show (3 : Int32) = nI 3 from rfl, le_nI (by omega) (by omega)]
    have f7 : (nI d ≤ 7) = (d ≤ 7) := by rw [show (7 : Int32) = nI 7 from rfl, le_nI (by omega) (by omega)]
    have z0 : (nI 0 = (0 : Int32)) = True := eq_true rfl
    have z1 : (nI 1 = (0 : Int32)) = False := eq_false (by decide)
    obtain ⟨e, rfl⟩ : ∃ e, d = e + 1 := ⟨d - 1, by omega⟩
    have fin : ∀ k, Mod_go_215 N (f + 0 + 1) l1 (nI a) (nI (if (a = 1 ∧ cD c q (e + 1) = 0) ∨ (a = 0 ∧ cL c q (e + 1) = 0) then 1 else 0)) I J = some (up2 I 204 7 (nI k), J) → nI k = nI (mk (runT c q (e + 1 + 0)).1) → ((runT c q (e + 1 + 0)).1 = 3 → J 204 12 = lN (nameN 27 (runT c q (e + 1 + 0)).2.2)) → ((runT c q (e + 1 + 0)).1 = 4 → J 204 12 = lN (nameN 27 (ownB.getD (runT c q (e + 1 + 0)).2.1 []))) → ((runT c q (e + 1 + 0)).1 = 5 → I 204 8 = nI (runT c q (e + 1 + 0)).2.1) → ((runT c q (e + 1 + 0)).1 ≤ 5) → ∃ I1 J1, Mod_go_215 N (f + 0 + 1) l1 (nI a) (nI (if (a = 1 ∧ cD c q (e + 1) = 0) ∨ (a = 0 ∧ cL c q (e + 1) = 0) then 1 else 0)) I J = some (I1, J1) ∧ I1 204 5 = nI (q + (e + 1) + 0) ∧ I1 204 6 = nI q ∧ MdT (runT c q (e + 1 + 0)) (I1 204 7) (I1 204 8) (I1 204 9) (J1 204 12) := fun k x1 x2 x3 x4 x5 x6 => ⟨up2 I 204 7 (nI k), J, x1, by rw [u_j (by omega)]; exact h5, by rw [u_j (by omega)]; exact h6, by rw [u_s]; exact x2, x3, x4, fun y => by rw [u_j (by omega)]; exact x5 y, fun y => absurd y (by omega)⟩
    cases hl : isLt (c q) with
    | true =>
      rw [hl, if_pos rfl] at ha
      have pL := cL_pos hl e
      by_cases w : cD c q (e + 1) = 0
      · have gg : (if (a = 1 ∧ cD c q (e + 1) = 0) ∨ (a = 0 ∧ cL c q (e + 1) = 0) then 1 else 0) = 1 := if_pos (Or.inl ⟨ha, w⟩)
        by_cases w7 : e + 1 ≤ 7
        · have y7 : (e + 1 ≤ 7) = True := eq_true w7
          have hT : runT c q (e + 1 + 0) = (if ltr c q (e + 1) ∈ ownB then (4, ownB.idxOf (ltr c q (e + 1)), []) else (3, 0, ltr c q (e + 1))) := if_pos ⟨w, w7⟩
          have ex : Mod_go_215 N (f + 0 + 1) l1 (nI a) (nI (if (a = 1 ∧ cD c q (e + 1) = 0) ∨ (a = 0 ∧ cL c q (e + 1) = 0) then 1 else 0)) I J = some (up2 I 204 7 (nI 2), J) := by
            rw [gg, ha]
            simp only [↓reduceIte, Mod_go_215, h5, h6, tA, v1, v2, t4, f3, f7, y7, z0, z1, Nat.reduceAdd, Option.bind_some, Bool.false_eq_true]
            try rfl
          by_cases o : ltr c q (e + 1) ∈ ownB
          · rw [if_pos o] at hT
            refine fin 2 ex ?_ ?_ ?_ ?_ ?_
            · rw [hT]; rfl
            · rw [hT]; exact fun x => absurd x (show ¬ 4 = 3 by omega)
            · rw [hT]; intro _; show J 204 12 = lN (nameN 27 (ownB.getD (ownB.idxOf (ltr c q (e + 1))) [])); rw [(ownB_mem _ o).2.1]; exact h12 w w7
            · rw [hT]; exact fun x => absurd x (show ¬ 4 = 5 by omega)
            · rw [hT]; show 4 ≤ 5; omega
          · rw [if_neg o] at hT
            refine fin 2 ex ?_ ?_ ?_ ?_ ?_
            · rw [hT]; rfl
            · rw [hT]; exact fun _ => h12 w w7
            · rw [hT]; exact fun x => absurd x (show ¬ 3 = 4 by omega)
            · rw [hT]; exact fun x => absurd x (show ¬ 3 = 5 by omega)
            · rw [hT]; show 3 ≤ 5; omega
        · have y7 : (e + 1 ≤ 7) = False := eq_false w7
          have hT : runT c q (e + 1 + 0) = (2, 0, []) := by
            unfold runT
            rw [if_neg (fun g => w7 g.2), if_neg (fun g => by have h9 : cL c q (e + 1) = 0 := g.1; omega)]
          refine fin 1 ?_ ?_ ?_ ?_ ?_ ?_
          · rw [gg, ha]
            simp only [↓reduceIte, Mod_go_215, h5, h6, tA, v1, v2, t4, f3, f7, y7, z0, z1, Nat.reduceAdd, Option.bind_some, Bool.false_eq_true]
            try rfl
          · rw [hT]; rfl
          · rw [hT]; exact fun x => absurd x (show ¬ 2 = 3 by omega)
          · rw [hT]; exact fun x => absurd x (show ¬ 2 = 4 by omega)
          · rw [hT]; exact fun x => absurd x (show ¬ 2 = 5 by omega)
          · rw [hT]; show 2 ≤ 5; omega
      · have gg : (if (a = 1 ∧ cD c q (e + 1) = 0) ∨ (a = 0 ∧ cL c q (e + 1) = 0) then 1 else 0) = 0 := if_neg (fun g => by rcases g with g | g <;> omega)
        have hT : runT c q (e + 1 + 0) = (2, 0, []) := by
          unfold runT
          rw [if_neg (fun g => w g.1), if_neg (fun g => by have h9 : cL c q (e + 1) = 0 := g.1; omega)]
        refine fin 1 ?_ ?_ ?_ ?_ ?_ ?_
        · rw [gg, ha]
          simp only [↓reduceIte, Mod_go_215, h5, h6, tA, v1, v2, t4, f3, f7, z0, z1, Nat.reduceAdd, Option.bind_some, Bool.false_eq_true]
          try rfl
        · rw [hT]; rfl
        · rw [hT]; exact fun x => absurd x (show ¬ 2 = 3 by omega)
        · rw [hT]; exact fun x => absurd x (show ¬ 2 = 4 by omega)
        · rw [hT]; exact fun x => absurd x (show ¬ 2 = 5 by omega)
        · rw [hT]; show 2 ≤ 5; omega
    | false =>
      rw [hl, if_neg (by simp)] at ha
      have hd0 : isDg (c q) = true := by
        rcases an_or (a3 q (Nat.le_refl _) (by omega)) with ⟨x, y⟩ | ⟨x, y⟩
        · rw [hl] at x; exact absurd x (by simp)
        · exact y
      have pD := cD_pos hd0 e
      by_cases w : cL c q (e + 1) = 0
      · have gg : (if (a = 1 ∧ cD c q (e + 1) = 0) ∨ (a = 0 ∧ cL c q (e + 1) = 0) then 1 else 0) = 1 := if_pos (Or.inr ⟨ha, w⟩)
        by_cases w3 : e + 1 ≤ 3
        · have y3 : (e + 1 ≤ 3) = True := eq_true w3
          have hT : runT c q (e + 1 + 0) = (5, dgN c q (e + 1), []) := by
            unfold runT
            rw [if_neg (fun g => by have h9 : cD c q (e + 1) = 0 := g.1; omega), if_pos ⟨w, w3⟩]
            try rfl
          refine fin 3 ?_ ?_ ?_ ?_ ?_ ?_
          · rw [gg, ha]
            simp only [↓reduceIte, Mod_go_215, h5, h6, tA, v1, v2, t4, f3, f7, y3, z0, z1, Nat.reduceAdd, Option.bind_some, Bool.false_eq_true]
            try rfl
          · rw [hT]; rfl
          · rw [hT]; exact fun x => absurd x (show ¬ 5 = 3 by omega)
          · rw [hT]; exact fun x => absurd x (show ¬ 5 = 4 by omega)
          · rw [hT]; exact fun _ => h8 w w3
          · rw [hT]; show 5 ≤ 5; omega
        · have y3 : (e + 1 ≤ 3) = False := eq_false w3
          have hT : runT c q (e + 1 + 0) = (2, 0, []) := by
            unfold runT
            rw [if_neg (fun g => by have h9 : cD c q (e + 1) = 0 := g.1; omega), if_neg (fun g => w3 g.2)]
          refine fin 1 ?_ ?_ ?_ ?_ ?_ ?_
          · rw [gg, ha]
            simp only [↓reduceIte, Mod_go_215, h5, h6, tA, v1, v2, t4, f3, f7, y3, z0, z1, Nat.reduceAdd, Option.bind_some, Bool.false_eq_true]
            try rfl
          · rw [hT]; rfl
          · rw [hT]; exact fun x => absurd x (show ¬ 2 = 3 by omega)
          · rw [hT]; exact fun x => absurd x (show ¬ 2 = 4 by omega)
          · rw [hT]; exact fun x => absurd x (show ¬ 2 = 5 by omega)
          · rw [hT]; show 2 ≤ 5; omega
      · have gg : (if (a = 1 ∧ cD c q (e + 1) = 0) ∨ (a = 0 ∧ cL c q (e + 1) = 0) then 1 else 0) = 0 := if_neg (fun g => by rcases g with g | g <;> omega)
        have hT : runT c q (e + 1 + 0) = (2, 0, []) := by
          unfold runT
          rw [if_neg (fun g => by have h9 : cD c q (e + 1) = 0 := g.1; omega), if_neg (fun g => w g.1)]
        refine fin 1 ?_ ?_ ?_ ?_ ?_ ?_
        · rw [gg, ha]
          simp only [↓reduceIte, Mod_go_215, h5, h6, tA, v1, v2, t4, f3, f7, z0, z1, Nat.reduceAdd, Option.bind_some, Bool.false_eq_true]
          try rfl
        · rw [hT]; rfl
        · rw [hT]; exact fun x => absurd x (show ¬ 2 = 3 by omega)
        · rw [hT]; exact fun x => absurd x (show ¬ 2 = 4 by omega)
        · rw [hT]; exact fun x => absurd x (show ¬ 2 = 5 by omega)
        · rw [hT]; show 2 ≤ 5; omega
  | succ r ih =>
    intro d f I J l1 hd h h5 h6 hr h12 h8
    have hr0 := hr
    obtain ⟨a1, a2, a3, a4⟩ := hr
    have hn := h.1
    have hc := a3 (q + d) (by omega) (by omega)
    have hs := cnt_sum d (c := c) (q := q) (fun i hi => a3 (q + i) (by omega) (by omega))
    have eL : cL c q (d + 1) = cL c q d + if isLt (c (q + d)) = true then 1 else 0 := rfl
    have eD : cD c q (d + 1) = cD c q d + if isDg (c (q + d)) = true then 1 else 0 := rfl
    have ha2 : a < 2 := by
      rw [ha]
      cases isLt (c q) with
      | true => rw [if_pos rfl]; omega
      | false => rw [if_neg (by simp)]; omega
    have hg2 : (if (a = 1 ∧ cD c q d = 0) ∨ (a = 0 ∧ cL c q d = 0) then 1 else 0) < 2 := by
      by_cases w : (a = 1 ∧ cD c q d = 0) ∨ (a = 0 ∧ cL c q d = 0)
      · rw [if_pos w]; omega
      · rw [if_neg w]; omega
    have st := run_1 (N := N) (J := J) (a := a) (g := if (a = 1 ∧ cD c q d = 0) ∨ (a = 0 ∧ cL c q d = 0) then 1 else 0) h ha2 hg2 h5 h6 (by omega) hc (f + r + 1) l1
    have gE : (if (if (a = 1 ∧ cD c q d = 0) ∨ (a = 0 ∧ cL c q d = 0) then 1 else 0) = 1 ∧ (if isLt (c (q + d)) = true then 1 else 0) = a then 1 else 0) = (if (a = 1 ∧ cD c q (d + 1) = 0) ∨ (a = 0 ∧ cL c q (d + 1) = 0) then 1 else 0) := by
      rw [eL, eD]
      rcases an_or hc with ⟨x, y⟩ | ⟨x, y⟩
      · rw [x, y, if_pos rfl, if_neg (show ¬ (false = true) from Bool.false_ne_true)]
        by_cases w : (a = 1 ∧ cD c q d = 0) ∨ (a = 0 ∧ cL c q d = 0)
        · rw [if_pos w]
          by_cases w1 : a = 1
          · rw [if_pos ⟨rfl, w1.symm⟩, if_pos (by omega)]
          · rw [if_neg (fun g => w1 g.2.symm), if_neg (by omega)]
        · rw [if_neg w, if_neg (fun g => by have := g.1; omega), if_neg (by omega)]
      · rw [x, y, if_pos rfl, if_neg (show ¬ (false = true) from Bool.false_ne_true)]
        by_cases w : (a = 1 ∧ cD c q d = 0) ∨ (a = 0 ∧ cL c q d = 0)
        · rw [if_pos w]
          by_cases w1 : a = 0
          · rw [if_pos ⟨rfl, w1.symm⟩, if_pos (by omega)]
          · rw [if_neg (fun g => w1 g.2.symm), if_neg (by omega)]
        · rw [if_neg w, if_neg (fun g => by have := g.1; omega), if_neg (by omega)]
    rw [gE] at st
    obtain ⟨I1, J1, e1, e2, e3, e4⟩ := ih (d + 1) f (up2 (up2 I 204 8 (if 3 ≤ d then I 204 8 else ((10 * (I 204 8)) + nI (c (q + d))) - 48)) 204 5 (nI (q + d + 1))) (up2 J 204 12 (if 7 ≤ d then J 204 12 else ((27 * (J 204 12)) + (nI (c (q + d))).toInt64) - 96)) l1 (by omega) (h.to (by rw [u_j (by omega), u_j (by omega)]) (fun i => by rw [u_o (by omega), u_o (by omega)])) u_s (by rw [u_j (by omega), u_j (by omega)]; exact h6) (by rw [show q + (d + 1) + r = q + d + (r + 1) by omega]; exact hr0) (fun p1 p2 => by
      rw [eD] at p1
      rw [u_s, if_neg (by omega), h12 (by omega) (by omega)]
      rcases an_or hc with ⟨x, y⟩ | ⟨x, y⟩
      · have rg := lt_rng x
        rw [show (27 : Int64) = lN 27 from rfl, show (96 : Int64) = lN 96 from rfl, nI_l (by omega), lN_mul, lN_add, lN_sub (by omega)]
        congr 1
        show 27 * nameN 27 (ltr c q d) + c (q + d) - 96 = nameN 27 (ltr c q d ++ [c (q + d) - 96])
        rw [nameN_snoc]
        omega
      · rw [y, if_pos rfl] at p1
        omega) (fun p1 p2 => by
      rw [eL] at p1
      rw [u_j (by omega), u_s, if_neg (by omega), h8 (by omega) (by omega)]
      rcases an_or hc with ⟨x, y⟩ | ⟨x, y⟩
      · rw [x, if_pos rfl] at p1
        omega
      · have rg := dg_rng y
        rw [show (10 : Int32) = nI 10 from rfl, show (48 : Int32) = nI 48 from rfl, nM, nA, nSb (by omega)]
        congr 1
        show 10 * dgN c q d + c (q + d) - 48 = 10 * dgN c q d + (c (q + d) - 48)
        omega)
    refine ⟨I1, J1, ?_, ?_, e3, ?_⟩
    · rw [show f + (r + 1) + 1 = (f + r + 1) + 1 from rfl, st]
      exact e1
    · rw [show q + d + (r + 1) = q + (d + 1) + r by omega]; exact e2
    · rw [show d + (r + 1) = d + 1 + r by omega]; exact e4
end Q61

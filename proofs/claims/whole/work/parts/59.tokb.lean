/-! tokens: the book's side cuts them all -/
theorem u_e {α : Type} {f : Nat → Nat → α} {a k : Nat} {v : α} (h : f a k = v) : up2 f a k v = f := by
  funext x j
  by_cases q : x = a
  · by_cases w : j = k
    · rw [q, w, u_s, h]
    · rw [q, u_j w]
  · rw [u_o q]
theorem s32 {v : Nat} (h : v < 256) : (sb v = 32) = (v = 32) := propext (decide_eq_decide.mp (sb_32 v h))
theorem s10 {v : Nat} (h : v < 256) : (sb v = 10) = (v = 10) := propext (decide_eq_decide.mp (sb_10 v h))
theorem bl_no {v : Nat} (h : isBl v = false) : v ≠ 32 ∧ v ≠ 10 := by
  unfold isBl at h
  rw [Bool.or_eq_false_iff, decide_eq_false_iff_not, decide_eq_false_iff_not] at h
  exact h
theorem bl_yes {v : Nat} (h : isBl v = true) : v = 32 ∨ v = 10 := by
  unfold isBl at h
  rw [Bool.or_eq_true, decide_eq_true_eq, decide_eq_true_eq] at h
  exact h
theorem bind_eta {α β : Type} (x : Option (α × β)) : (Option.bind x fun y => some (y.1, y.2)) = x := by
  cases x with
  | none => rfl
  | some y => rfl
section Q59
variable {N b ln sp sn ss nP nF nE nW nH nR : Nat} {I I' : FI} {J J' : FJ} {c : Nat → Nat} {n m : Nat}
/-- the letters on the book's side -/
def BytB (c : Nat → Nat) (n : Nat) (I : FI) : Prop := n ≤ 940 ∧ I 1 5 = nI n ∧ ∀ i, i < n → c i < 256 ∧ I 2 i = sb (c i)
theorem BytB.to {I1 : FI} (h : BytB c n I) (h1 : I1 1 5 = I 1 5) (h2 : ∀ i, I1 2 i = I 2 i) : BytB c n I1 := ⟨h.1, by rw [h1]; exact h.2.1, fun i hi => ⟨(h.2.2 i hi).1, by rw [h2]; exact (h.2.2 i hi).2⟩⟩
theorem skip_b0 : ∀ r p f (I : FI), BytB c n I → Skip c n p (p + r) → I 1 6 = nI p → Tape_skipBlanks_0 N 1 (f + r + 1) I = some (up2 I 1 6 (nI (p + r))) := by
  intro r
  induction r with
  | zero =>
    intro p f I h hs h6
    obtain ⟨hn, h5, hc⟩ := h
    obtain ⟨a1, a2, a3, a4⟩ := hs
    have e : up2 I 1 6 (nI (p + 0)) = I := u_e h6
    rw [e]
    by_cases q : p < n
    · obtain ⟨b1, b2⟩ := hc p q
      obtain ⟨d1, d2⟩ := bl_no (a4 q)
      have t1 : (nI n ≤ nI p) = False := by rw [le_nI (by omega) (by omega)]; exact eq_false (by omega)
      have t2 : in9 (nI p) 940 = True := in9_t (by omega) (by omega)
      have t3 : (nI p).toNatClampNeg = p := tN (by omega)
      have t4 : (sb (c p) = 32) = False := by rw [s32 b1]; exact eq_false d1
      have t5 : (sb (c p) = 10) = False := by rw [s10 b1]; exact eq_false d2
      simp only [↓reduceIte, Tape_skipBlanks_0, h5, h6, t1, t2, t3, b2, t4, t5, Nat.reduceAdd]
    · have t1 : (nI n ≤ nI p) = True := by rw [le_nI (by omega) (by omega)]; exact eq_true (by omega)
      simp only [↓reduceIte, Tape_skipBlanks_0, h5, h6, t1]
  | succ r ih =>
    intro p f I h hs h6
    have hB := h
    obtain ⟨hn, h5, hc⟩ := h
    obtain ⟨a1, a2, a3, a4⟩ := hs
    have q : p < n := by omega
    obtain ⟨b1, b2⟩ := hc p q
    have t1 : (nI n ≤ nI p) = False := by rw [le_nI (by omega) (by omega)]; exact eq_false (by omega)
    have t2 : in9 (nI p) 940 = True := in9_t (by omega) (by omega)
    have t3 : (nI p).toNatClampNeg = p := tN (by omega)
    have st := ih (p + 1) f (up2 I 1 6 (nI (p + 1))) (hB.to (u_j (by omega)) (fun i => by rw [u_o (by omega)])) ⟨by omega, by omega, fun i x y => a3 i (by omega) (by omega), fun x => by have := a4 (by omega); rwa [show p + (r + 1) = p + 1 + r by omega] at this⟩ u_s
    rw [u_u] at st
    rw [show f + (r + 1) + 1 = (f + r + 1) + 1 from rfl, show p + (r + 1) = p + 1 + r by omega, ← st]
    rcases bl_yes (a3 p (Nat.le_refl _) (by omega)) with d | d
    · have t4 : (sb (c p) = 32) = True := by rw [s32 b1]; exact eq_true d
      rw [Tape_skipBlanks_0]
      simp only [↓reduceIte, h5, h6, t1, t2, t3, b2, t4, Nat.reduceAdd, nS, Option.bind_some]
    · have t4 : (sb (c p) = 32) = False := by rw [s32 b1]; exact eq_false (by omega)
      have t5 : (sb (c p) = 10) = True := by rw [s10 b1]; exact eq_true d
      rw [Tape_skipBlanks_0]
      simp only [↓reduceIte, h5, h6, t1, t2, t3, b2, t4, t5, Nat.reduceAdd, nS, Option.bind_some]
theorem skip_b {p q : Nat} (hN : 2000 ≤ N) (h : BytB c n I) (hs : Skip c n p q) (h6 : I 1 6 = nI p) : Tape_skipBlanks N 1 I = some (up2 I 1 6 (nI q)) := by
  obtain ⟨r, rfl⟩ : ∃ r, q = p + r := ⟨q - p, by have := hs.1; omega⟩
  have hr : r ≤ 940 := by have := hs.2.1; have := h.1; omega
  have e : Tape_skipBlanks N 1 I = Tape_skipBlanks_0 N 1 (N + 1) I := rfl
  obtain ⟨f, rfl⟩ : ∃ f, N = f + r := ⟨N - r, by omega⟩
  rw [e]
  exact skip_b0 r p f I h hs h6
/-- the own words on the book's side -/
def WordsJ (J : FJ) : Prop := ∀ i, i < 35 → J 3 i = lN (nameN 32 (ownB.getD i []))
theorem wordOf_l {L : List Nat} (hw : WordsJ J) (hL : ∀ d, d ∈ L → 1 ≤ d ∧ d ≤ 26) (h7 : L.length ≤ 7) : ∀ r i f, i + r = 35 → (∀ j, j < i → ownB.getD j [] ≠ L) → Tape_wordOf_2 N 1 (f + r + 1) (lN (nameN 32 L)) (nI i) J = some (if L ∈ ownB then nI (ownB.idxOf L) else -1) := by
  intro r
  induction r with
  | zero =>
    intro i f hi hne
    have q : L ∉ ownB := fun q => by
      obtain ⟨a1, a2, a3⟩ := ownB_mem L q
      exact hne _ (by omega) a2
    have t1 : (35 ≤ nI i) = True := by rw [show (35 : Int32) = nI 35 from rfl, le_nI (by omega) (by omega)]; exact eq_true (by omega)
    rw [if_neg q]
    simp only [↓reduceIte, Tape_wordOf_2, t1]
  | succ r ih =>
    intro i f hi hne
    have t1 : (35 ≤ nI i) = False := by rw [show (35 : Int32) = nI 35 from rfl, le_nI (by omega) (by omega)]; exact eq_false (by omega)
    have t2 : in9 (nI i) 35 = True := in9_t (by omega) (by omega)
    have t3 : (nI i).toNatClampNeg = i := tN (by omega)
    have h1 := hw i (by omega)
    obtain ⟨m1, m2⟩ := ownB_idx i (by omega)
    obtain ⟨k1, k2, k3, k4, k5⟩ := ownB_mem _ m1
    have p1 := nameN_7 (B := 32) (by omega) (by omega) k5 k4
    have p2 := nameN_7 (B := 32) (by omega) (by omega) hL h7
    by_cases q : ownB.getD i [] = L
    · have t4 : (lN (nameN 32 (ownB.getD i [])) = lN (nameN 32 L)) = True := eq_true (by rw [q])
      rw [← q, if_pos m1, m2, q]
      simp only [↓reduceIte, Tape_wordOf_2, t1, t2, t3, h1, t4, Nat.reduceAdd]
    · have t4 : (lN (nameN 32 (ownB.getD i [])) = lN (nameN 32 L)) = False := by
        rw [eqL (by omega) (by omega)]
        exact eq_false (fun e => q (nameN_inj (B := 32) (by omega) _ _ _ rfl k5 hL e))
      have st := ih (i + 1) f (by omega) (fun j hj => by
        by_cases w : j = i
        · rw [w]; exact q
        · exact hne j (by omega))
      rw [show f + (r + 1) + 1 = (f + r + 1) + 1 from rfl, ← st, Tape_wordOf_2]
      simp only [↓reduceIte, t1, t2, t3, h1, t4, Nat.reduceAdd, nS]
theorem wordOf_q {L : List Nat} (hN : 2000 ≤ N) (hw : WordsJ J) (hL : ∀ d, d ∈ L → 1 ≤ d ∧ d ≤ 26) (h7 : L.length ≤ 7) : Tape_wordOf N 1 (lN (nameN 32 L)) J = some (if L ∈ ownB then nI (ownB.idxOf L) else -1) := by
  obtain ⟨f, rfl⟩ : ∃ f, N = f + 35 + 1 := ⟨N - 36, by omega⟩
  exact wordOf_l hw hL h7 35 0 f rfl (fun j hj => absurd hj (by omega))
theorem wl_q {x v : Nat} (h1 : 97 ≤ v) (h2 : v ≤ 122) : Tape_withLetter (lN x) (nI v) = lN (32 * x + (v - 96)) := by
  unfold Tape_withLetter
  rw [show (32 : Int64) = lN 32 from rfl, show (97 : Int32) = nI 97 from rfl, nSb h1, nS, nI_l (by omega), lN_mul, lN_add, Nat.mul_comm x 32]
  congr 1
  omega
theorem run_b (hN : 2000 ≤ N) (hw : WordsJ J) {q k : Nat} (hk : k < 901) : ∀ r d f (I : FI) (l4 : Int32) (l5 : Int64), BytB c n I → I 1 6 = nI (q + d) → Run c n q (q + d + r) → (cD c q d = 0 → cL c q d ≤ 7 → l5 = lN (nameN 32 (ltr c q d))) → (cL c q d = 0 → cD c q d ≤ 3 → l4 = nI (dgN c q d)) → ∃ ty v, Tape_readRun_10 N 1 (f + r + 1) (nI k) (nI (cL c q d)) (nI (cD c q d)) l4 l5 I J = some (up2 (up2 I 1 6 (nI (q + d + r))) 4 k ty, up2 J 6 k v) ∧ BkT (runT c q (d + r)) ty v := by
  intro r
  have t9 : in9 (nI k) 901 = True := in9_t (by omega) (by omega)
  have tk : (nI k).toNatClampNeg = k := tN (by omega)
  induction r with
  | zero =>
    intro d f I l4 l5 h h6 hr h1 h2
    obtain ⟨hn, h5, hc⟩ := h
    obtain ⟨a1, a2, a3, a4⟩ := hr
    have hs := cnt_sum d (c := c) (q := q) (fun i hi => a3 (q + i) (by omega) (by omega))
    have e : up2 I 1 6 (nI (q + d + 0)) = I := u_e h6
    rw [e]
    have stop : (nI n ≤ nI (q + d)) = True ∨ ((nI n ≤ nI (q + d)) = False ∧ in9 (nI (q + d)) 940 = True ∧ (nI (q + d)).toNatClampNeg = q + d ∧ I 2 (q + d) = sb (c (q + d)) ∧ Tape_goesOn (sb (c (q + d))) = false) := by
      by_cases g : q + d < n
      · right
        refine ⟨?_, in9_t (by omega) (by omega), tN (by omega), (hc _ g).2, ?_⟩
        · rw [le_nI (by omega) (by omega)]; exact eq_false (by omega)
        · rw [bAn (hc _ g).1]; exact a4 g
      · left
        rw [le_nI (by omega) (by omega)]; exact eq_true (by omega)
    by_cases w : cD c q d = 0
    · have f1 : (nI (cD c q d) = 0) = True := by rw [w]; exact eq_true rfl
      by_cases w7 : cL c q d ≤ 7
      · have f2 : (7 < nI (cL c q d)) = False := by rw [show (7 : Int32) = nI 7 from rfl, lt_nI (by omega) (by omega)]; exact eq_false (by omega)
        have hl := ltr_rng d (c := c) (q := q) (fun i hi => a3 (q + i) (by omega) (by omega)) w
        have hw2 := wordOf_q hN hw hl (by rw [ltr_len]; omega)
        rw [← h1 w w7] at hw2
        have hR : runT c q (d + 0) = (if ltr c q d ∈ ownB then (4, ownB.idxOf (ltr c q d), []) else (3, 0, ltr c q d)) := if_pos ⟨w, by omega⟩
        rw [hR]
        by_cases o : ltr c q d ∈ ownB
        · rw [if_pos o] at hw2
          have oi := (ownB_mem _ o).1
          have f3 : (nI (ownB.idxOf (ltr c q d)) = (-1 : Int32)) = False := propext (nI_ne1 (by omega))
          rw [if_pos o]
          refine ⟨nI 4, (nI (ownB.idxOf (ltr c q d))).toInt64, ?_, rfl, fun x => absurd x (show ¬ 4 = 3 by omega), fun _ => nI_l (by omega), fun x => absurd x (show ¬ 4 = 5 by omega)⟩
          rcases stop with s | ⟨s1, s2, s3, s4, s5⟩
          · simp only [↓reduceIte, Tape_readRun_10, h5, h6, s, f1, f2, hw2, f3, t9, tk, Nat.reduceAdd, Option.bind_some]; rfl
          · simp only [↓reduceIte, Tape_readRun_10, h5, h6, s1, s2, s3, s4, s5, f1, f2, hw2, f3, t9, tk, Nat.reduceAdd, Option.bind_some, Bool.false_eq_true]; rfl
        · rw [if_neg o] at hw2
          rw [if_neg o]
          refine ⟨nI 3, l5, ?_, rfl, fun _ => h1 w w7, fun x => absurd x (show ¬ 3 = 4 by omega), fun x => absurd x (show ¬ 3 = 5 by omega)⟩
          rcases stop with s | ⟨s1, s2, s3, s4, s5⟩
          · simp only [↓reduceIte, Tape_readRun_10, h5, h6, s, f1, f2, hw2, t9, tk, Nat.reduceAdd, Option.bind_some]; rfl
          · simp only [↓reduceIte, Tape_readRun_10, h5, h6, s1, s2, s3, s4, s5, f1, f2, hw2, t9, tk, Nat.reduceAdd, Option.bind_some, Bool.false_eq_true]; rfl
      · have f2 : (7 < nI (cL c q d)) = True := by rw [show (7 : Int32) = nI 7 from rfl, lt_nI (by omega) (by omega)]; exact eq_true (by omega)
        have f4 : (nI (cL c q d) = 0) = False := by rw [L_0, eq_nI (by omega) (by omega)]; exact eq_false (by omega)
        have hR : runT c q (d + 0) = (2, 0, []) := by
          unfold runT
          rw [if_neg (fun g => by have := g.2; omega), if_neg (fun g => by have := g.1; show False; rw [show d + 0 = d from rfl] at this; omega)]
        rw [hR]
        refine ⟨nI 2, l4.toInt64, ?_, rfl, fun x => absurd x (show ¬ 2 = 3 by omega), fun x => absurd x (show ¬ 2 = 4 by omega), fun x => absurd x (show ¬ 2 = 5 by omega)⟩
        rcases stop with s | ⟨s1, s2, s3, s4, s5⟩
        · simp only [↓reduceIte, Tape_readRun_10, h5, h6, s, f1, f2, f4, t9, tk, Nat.reduceAdd, Option.bind_some]; rfl
        · simp only [↓reduceIte, Tape_readRun_10, h5, h6, s1, s2, s3, s4, s5, f1, f2, f4, t9, tk, Nat.reduceAdd, Option.bind_some, Bool.false_eq_true]; rfl
    · have f1 : (nI (cD c q d) = 0) = False := by rw [L_0, eq_nI (by omega) (by omega)]; exact eq_false w
      by_cases w0 : cL c q d = 0
      · have f4 : (nI (cL c q d) = 0) = True := by rw [w0]; exact eq_true rfl
        by_cases w3 : cD c q d ≤ 3
        · have f5 : (3 < nI (cD c q d)) = False := by rw [show (3 : Int32) = nI 3 from rfl, lt_nI (by omega) (by omega)]; exact eq_false (by omega)
          have hR : runT c q (d + 0) = (5, dgN c q d, []) := by
            unfold runT
            rw [if_neg (fun g => w g.1), if_pos ⟨w0, by show d ≤ 3; omega⟩]
            rfl
          have hg := dgN_lt d (c := c) (q := q) (fun i hi => a3 (q + i) (by omega) (by omega)) w0
          have hg2 : 10 ^ d ≤ 10 ^ 3 := Nat.pow_le_pow_right (by omega) (by omega)
          rw [hR]
          refine ⟨nI 5, l4.toInt64, ?_, rfl, fun x => absurd x (show ¬ 5 = 3 by omega), fun x => absurd x (show ¬ 5 = 4 by omega), fun _ => by rw [h2 w0 w3]; exact nI_l (by omega)⟩
          rcases stop with s | ⟨s1, s2, s3, s4, s5⟩
          · simp only [↓reduceIte, Tape_readRun_10, h5, h6, s, f1, f4, f5, t9, tk, Nat.reduceAdd, Option.bind_some]; rfl
          · simp only [↓reduceIte, Tape_readRun_10, h5, h6, s1, s2, s3, s4, s5, f1, f4, f5, t9, tk, Nat.reduceAdd, Option.bind_some, Bool.false_eq_true]; rfl
        · have f5 : (3 < nI (cD c q d)) = True := by rw [show (3 : Int32) = nI 3 from rfl, lt_nI (by omega) (by omega)]; exact eq_true (by omega)
          have hR : runT c q (d + 0) = (2, 0, []) := by
            unfold runT
            rw [if_neg (fun g => w g.1), if_neg (fun g => by have := g.2; rw [show d + 0 = d from rfl] at this; omega)]
          rw [hR]
          refine ⟨nI 2, l4.toInt64, ?_, rfl, fun x => absurd x (show ¬ 2 = 3 by omega), fun x => absurd x (show ¬ 2 = 4 by omega), fun x => absurd x (show ¬ 2 = 5 by omega)⟩
          rcases stop with s | ⟨s1, s2, s3, s4, s5⟩
          · simp only [↓reduceIte, Tape_readRun_10, h5, h6, s, f1, f4, f5, t9, tk, Nat.reduceAdd, Option.bind_some]; rfl
          · simp only [↓reduceIte, Tape_readRun_10, h5, h6, s1, s2, s3, s4, s5, f1, f4, f5, t9, tk, Nat.reduceAdd, Option.bind_some, Bool.false_eq_true]; rfl
      · have f4 : (nI (cL c q d) = 0) = False := by rw [L_0, eq_nI (by omega) (by omega)]; exact eq_false w0
        have hR : runT c q (d + 0) = (2, 0, []) := by
          unfold runT
          rw [if_neg (fun g => w g.1), if_neg (fun g => w0 g.1)]
        rw [hR]
        refine ⟨nI 2, l4.toInt64, ?_, rfl, fun x => absurd x (show ¬ 2 = 3 by omega), fun x => absurd x (show ¬ 2 = 4 by omega), fun x => absurd x (show ¬ 2 = 5 by omega)⟩
        rcases stop with s | ⟨s1, s2, s3, s4, s5⟩
        · simp only [↓reduceIte, Tape_readRun_10, h5, h6, s, f1, f4, t9, tk, Nat.reduceAdd, Option.bind_some]; rfl
        · simp only [↓reduceIte, Tape_readRun_10, h5, h6, s1, s2, s3, s4, s5, f1, f4, t9, tk, Nat.reduceAdd, Option.bind_some, Bool.false_eq_true]; rfl
  | succ r ih =>
    intro d f I l4 l5 h h6 hr h1 h2
    have hB := h
    obtain ⟨hn, h5, hc⟩ := h
    have hr0 := hr
    obtain ⟨a1, a2, a3, a4⟩ := hr
    have hs := cnt_sum d (c := c) (q := q) (fun i hi => a3 (q + i) (by omega) (by omega))
    have g : q + d < n := by omega
    have ga := a3 (q + d) (by omega) (by omega)
    obtain ⟨b1, b2⟩ := hc _ g
    have t1 : (nI n ≤ nI (q + d)) = False := by rw [le_nI (by omega) (by omega)]; exact eq_false (by omega)
    have t2 : in9 (nI (q + d)) 940 = True := in9_t (by omega) (by omega)
    have t3 : (nI (q + d)).toNatClampNeg = q + d := tN (by omega)
    have t4 : Tape_goesOn (sb (c (q + d))) = true := by rw [bAn b1]; exact ga
    have t5 : sb (c (q + d)) = nI (c (q + d)) := sb_same _ b1 t4
    have t6 : Tape_isDigit (sb (c (q + d))) = isDg (c (q + d)) := bDg b1
    have go := fun l4' l5' => ih (d + 1) f (up2 I 1 6 (nI (q + (d + 1)))) l4' l5' (hB.to (u_j (by omega)) (fun i => by rw [u_o (by omega)])) u_s (by rw [show q + (d + 1) + r = q + d + (r + 1) by omega]; exact hr0)
    have eL : cL c q (d + 1) = cL c q d + if isLt (c (q + d)) = true then 1 else 0 := rfl
    have eD : cD c q (d + 1) = cD c q d + if isDg (c (q + d)) = true then 1 else 0 := rfl
    rw [show f + (r + 1) + 1 = (f + r + 1) + 1 from rfl, show d + (r + 1) = d + 1 + r by omega, show q + d + (r + 1) = q + (d + 1) + r by omega]
    have s6 : nI (q + d) + 1 = nI (q + (d + 1)) := nS _
    rcases an_or ga with ⟨x, y⟩ | ⟨x, y⟩
    · rw [x, if_pos rfl] at eL
      rw [y, if_neg (by simp), Nat.add_zero] at eD
      have rg := lt_rng x
      by_cases w7 : cL c q d + 1 ≤ 7
      · have f1 : (nI (cL c q d + 1) ≤ 7) = True := by rw [show (7 : Int32) = nI 7 from rfl, le_nI (by omega) (by omega)]; exact eq_true w7
        obtain ⟨ty, v, e, k1⟩ := go l4 (Tape_withLetter l5 (sb (c (q + d)))) (fun p1 p2 => by
          rw [eD] at p1
          rw [t5, h1 p1 (by omega), wl_q rg.1 rg.2]
          congr 1
          exact (nameN_snoc _ _).symm) (fun p1 => absurd p1 (by omega))
        rw [u_u, eL, eD] at e
        refine ⟨ty, v, ?_, k1⟩
        rw [← e]
        conv => lhs; rw [Tape_readRun_10]
        simp only [↓reduceIte, h5, h6, t1, t2, t3, b2, t4, t6, y, nS, f1, Nat.reduceAdd, Option.bind_some, Bool.false_eq_true, s6, Nat.add_assoc, Nat.add_zero]
      · have f1 : (nI (cL c q d + 1) ≤ 7) = False := by rw [show (7 : Int32) = nI 7 from rfl, le_nI (by omega) (by omega)]; exact eq_false w7
        obtain ⟨ty, v, e, k1⟩ := go l4 0 (fun p1 p2 => absurd p2 (by omega)) (fun p1 => absurd p1 (by omega))
        rw [u_u, eL, eD] at e
        refine ⟨ty, v, ?_, k1⟩
        rw [← e]
        conv => lhs; rw [Tape_readRun_10]
        simp only [↓reduceIte, h5, h6, t1, t2, t3, b2, t4, t6, y, nS, f1, Nat.reduceAdd, Option.bind_some, Bool.false_eq_true, s6, Nat.add_assoc, Nat.add_zero]
    · rw [y, if_pos rfl] at eD
      rw [x, if_neg (by simp), Nat.add_zero] at eL
      have rg := dg_rng y
      by_cases w3 : cD c q d + 1 ≤ 3
      · have f1 : (nI (cD c q d + 1) ≤ 3) = True := by rw [show (3 : Int32) = nI 3 from rfl, le_nI (by omega) (by omega)]; exact eq_true w3
        obtain ⟨ty, v, e, k1⟩ := go (((l4 * 10) + (sb (c (q + d)))) - 48) l5 (fun p1 => absurd p1 (by omega)) (fun p1 p2 => by
          rw [eL] at p1
          rw [t5, h2 p1 (by omega), show (10 : Int32) = nI 10 from rfl, show (48 : Int32) = nI 48 from rfl, nM, nA, nSb (by omega)]
          congr 1
          show dgN c q d * 10 + c (q + d) - 48 = 10 * dgN c q d + (c (q + d) - 48)
          omega)
        rw [u_u, eL, eD] at e
        refine ⟨ty, v, ?_, k1⟩
        rw [← e]
        conv => lhs; rw [Tape_readRun_10]
        simp only [↓reduceIte, h5, h6, t1, t2, t3, b2, t4, t6, y, nS, f1, Nat.reduceAdd, Option.bind_some, s6, Nat.add_assoc, Nat.add_zero]
      · have f1 : (nI (cD c q d + 1) ≤ 3) = False := by rw [show (3 : Int32) = nI 3 from rfl, le_nI (by omega) (by omega)]; exact eq_false w3
        obtain ⟨ty, v, e, k1⟩ := go 0 l5 (fun p1 => absurd p1 (by omega)) (fun p1 p2 => absurd p2 (by omega))
        rw [u_u, eL, eD] at e
        refine ⟨ty, v, ?_, k1⟩
        rw [← e]
        conv => lhs; rw [Tape_readRun_10]
        simp only [↓reduceIte, h5, h6, t1, t2, t3, b2, t4, t6, y, nS, f1, Nat.reduceAdd, Option.bind_some, s6, Nat.add_assoc, Nat.add_zero]
end Q59

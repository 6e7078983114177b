/-! tokens: what the letters say, apart from both sides -/
def isLt (v : Nat) : Bool := decide (97 ≤ v) && decide (v ≤ 122)
def isDg (v : Nat) : Bool := decide (48 ≤ v) && decide (v ≤ 57)
def isAn (v : Nat) : Bool := isLt v || isDg v
def isBl (v : Nat) : Bool := decide (v = 32) || decide (v = 10)
def isSg (v : Nat) : Bool := decide (v = 59) || decide (v = 60) || decide (v = 61) || decide (v = 62) || decide (v = 40) || decide (v = 41)
set_option maxRecDepth 20000 in
theorem mLt : ∀ v, v < 256 → Mod_isLetter (nI v) = isLt v := by decide +kernel
set_option maxRecDepth 20000 in
theorem mDg : ∀ v, v < 256 → Mod_isDigit (nI v) = isDg v := by decide +kernel
theorem bAn {v : Nat} (h : v < 256) : Tape_goesOn (sb v) = isAn v := by
  rw [sb_goes v h, mLt v h, mDg v h]; rfl
theorem bDg {v : Nat} (h : v < 256) : Tape_isDigit (sb v) = isDg v := by
  rw [sb_digit v h, mDg v h]
theorem bSg {v : Nat} (h : v < 256) : Tape_isSign (sb v) = isSg v := by
  rw [sb_sign v h]; rfl
/-- blanks are left behind from p to q -/
def Skip (c : Nat → Nat) (n p q : Nat) : Prop := p ≤ q ∧ q ≤ n ∧ (∀ i, p ≤ i → i < q → isBl (c i) = true) ∧ (q < n → isBl (c q) = false)
def skF (c : Nat → Nat) (n : Nat) : Nat → Nat → Nat
  | 0, p => p
  | k + 1, p => if p < n ∧ isBl (c p) = true then skF c n k (p + 1) else p
theorem skF_ok {c : Nat → Nat} {n : Nat} : ∀ k p, p ≤ n → n ≤ p + k → Skip c n p (skF c n k p) := by
  intro k
  induction k with
  | zero =>
    intro p hp hk
    exact ⟨Nat.le_refl _, hp, fun i a b => absurd b (show ¬ i < p by omega), fun h => absurd h (show ¬ p < n by omega)⟩
  | succ k ih =>
    intro p hp hk
    by_cases h : p < n ∧ isBl (c p) = true
    · have e : skF c n (k + 1) p = skF c n k (p + 1) := if_pos h
      obtain ⟨a1, a2, a3, a4⟩ := ih (p + 1) (by omega) (by omega)
      rw [e]
      refine ⟨by omega, a2, fun i b1 b2 => ?_, a4⟩
      by_cases q : i = p
      · rw [q]; exact h.2
      · exact a3 i (by omega) b2
    · have e : skF c n (k + 1) p = p := if_neg h
      rw [e]
      refine ⟨Nat.le_refl _, hp, fun i a b => absurd b (show ¬ i < p by omega), fun a => ?_⟩
      cases g : isBl (c p) with
      | false => rfl
      | true => exact absurd ⟨a, g⟩ h
def sk (c : Nat → Nat) (n p : Nat) : Nat := skF c n n p
theorem sk_ok {c : Nat → Nat} {n p : Nat} (h : p ≤ n) : Skip c n p (sk c n p) := skF_ok n p h (by omega)
/-- a run goes from q to e -/
def Run (c : Nat → Nat) (n q e : Nat) : Prop := q ≤ e ∧ e ≤ n ∧ (∀ i, q ≤ i → i < e → isAn (c i) = true) ∧ (e < n → isAn (c e) = false)
def rnF (c : Nat → Nat) (n : Nat) : Nat → Nat → Nat
  | 0, p => p
  | k + 1, p => if p < n ∧ isAn (c p) = true then rnF c n k (p + 1) else p
theorem rnF_ok {c : Nat → Nat} {n : Nat} : ∀ k p, p ≤ n → n ≤ p + k → Run c n p (rnF c n k p) := by
  intro k
  induction k with
  | zero =>
    intro p hp hk
    exact ⟨Nat.le_refl _, hp, fun i a b => absurd b (show ¬ i < p by omega), fun h => absurd h (show ¬ p < n by omega)⟩
  | succ k ih =>
    intro p hp hk
    by_cases h : p < n ∧ isAn (c p) = true
    · have e : rnF c n (k + 1) p = rnF c n k (p + 1) := if_pos h
      obtain ⟨a1, a2, a3, a4⟩ := ih (p + 1) (by omega) (by omega)
      rw [e]
      refine ⟨by omega, a2, fun i b1 b2 => ?_, a4⟩
      by_cases q : i = p
      · rw [q]; exact h.2
      · exact a3 i (by omega) b2
    · have e : rnF c n (k + 1) p = p := if_neg h
      rw [e]
      refine ⟨Nat.le_refl _, hp, fun i a b => absurd b (show ¬ i < p by omega), fun a => ?_⟩
      cases g : isAn (c p) with
      | false => rfl
      | true => exact absurd ⟨a, g⟩ h
def rn (c : Nat → Nat) (n p : Nat) : Nat := rnF c n n p
theorem rn_ok {c : Nat → Nat} {n p : Nat} (h : p ≤ n) : Run c n p (rn c n p) := rnF_ok n p h (by omega)
theorem rn_gt {c : Nat → Nat} {n p : Nat} (h : p < n) (ha : isAn (c p) = true) : p < rn c n p := by
  obtain ⟨a1, a2, a3, a4⟩ := rn_ok (c := c) (n := n) (p := p) (by omega)
  by_cases e : p = rn c n p
  · rw [← e] at a4
    rw [a4 h] at ha
    exact absurd ha (by simp)
  · omega
/-- how many of the first d signs from q on are letters, digits -/
def cL (c : Nat → Nat) (q : Nat) : Nat → Nat
  | 0 => 0
  | d + 1 => cL c q d + if isLt (c (q + d)) = true then 1 else 0
def cD (c : Nat → Nat) (q : Nat) : Nat → Nat
  | 0 => 0
  | d + 1 => cD c q d + if isDg (c (q + d)) = true then 1 else 0
def ltr (c : Nat → Nat) (q : Nat) : Nat → List Nat
  | 0 => []
  | d + 1 => ltr c q d ++ [c (q + d) - 96]
def dgN (c : Nat → Nat) (q : Nat) : Nat → Nat
  | 0 => 0
  | d + 1 => 10 * dgN c q d + (c (q + d) - 48)
theorem lt_rng {v : Nat} (h : isLt v = true) : 97 ≤ v ∧ v ≤ 122 := by
  unfold isLt at h
  rw [Bool.and_eq_true, decide_eq_true_eq, decide_eq_true_eq] at h
  exact h
theorem dg_rng {v : Nat} (h : isDg v = true) : 48 ≤ v ∧ v ≤ 57 := by
  unfold isDg at h
  rw [Bool.and_eq_true, decide_eq_true_eq, decide_eq_true_eq] at h
  exact h
theorem an_or {v : Nat} (h : isAn v = true) : (isLt v = true ∧ isDg v = false) ∨ (isLt v = false ∧ isDg v = true) := by
  unfold isAn at h
  cases a : isLt v with
  | true =>
    cases b : isDg v with
    | false => exact Or.inl ⟨rfl, rfl⟩
    | true =>
      have := lt_rng a
      have := dg_rng b
      omega
  | false =>
    rw [a, Bool.false_or] at h
    exact Or.inr ⟨rfl, h⟩
theorem cnt_sum {c : Nat → Nat} {q : Nat} : ∀ d, (∀ i, i < d → isAn (c (q + i)) = true) → cL c q d + cD c q d = d := by
  intro d
  induction d with
  | zero => intro _; rfl
  | succ d ih =>
    intro h
    have h1 := ih (fun i hi => h i (by omega))
    show cL c q d + (if isLt (c (q + d)) = true then 1 else 0) + (cD c q d + if isDg (c (q + d)) = true then 1 else 0) = d + 1
    rcases an_or (h d (by omega)) with ⟨a, b⟩ | ⟨a, b⟩
    · rw [a, b, if_pos rfl, if_neg (by simp)]; omega
    · rw [a, b, if_pos rfl, if_neg (by simp)]; omega
theorem ltr_len {c : Nat → Nat} {q : Nat} : ∀ d, (ltr c q d).length = d := by
  intro d
  induction d with
  | zero => rfl
  | succ d ih => show (ltr c q d ++ [c (q + d) - 96]).length = d + 1; rw [List.length_append, ih]; rfl
theorem ltr_rng {c : Nat → Nat} {q : Nat} : ∀ d, (∀ i, i < d → isAn (c (q + i)) = true) → cD c q d = 0 → ∀ x, x ∈ ltr c q d → 1 ≤ x ∧ x ≤ 26 := by
  intro d
  induction d with
  | zero => intro _ _ x hx; exact absurd hx (by simp [ltr])
  | succ d ih =>
    intro h h0 x hx
    have h1 : cD c q d + (if isDg (c (q + d)) = true then 1 else 0) = 0 := h0
    rcases List.mem_append.mp hx with hx | hx
    · exact ih (fun i hi => h i (by omega)) (by omega) x hx
    · rw [List.mem_singleton] at hx
      rcases an_or (h d (by omega)) with ⟨a, b⟩ | ⟨a, b⟩
      · have := lt_rng a
        omega
      · rw [b, if_pos rfl] at h1
        omega
theorem dgN_lt {c : Nat → Nat} {q : Nat} : ∀ d, (∀ i, i < d → isAn (c (q + i)) = true) → cL c q d = 0 → dgN c q d < 10 ^ d := by
  intro d
  induction d with
  | zero => intro _ _; exact Nat.one_pos
  | succ d ih =>
    intro h h0
    have h1 : cL c q d + (if isLt (c (q + d)) = true then 1 else 0) = 0 := h0
    have h2 := ih (fun i hi => h i (by omega)) (by omega)
    show 10 * dgN c q d + (c (q + d) - 48) < 10 ^ (d + 1)
    rcases an_or (h d (by omega)) with ⟨a, b⟩ | ⟨a, b⟩
    · rw [a, if_pos rfl] at h1
      omega
    · have := dg_rng b
      rw [Nat.pow_succ]
      omega
/-- what a run of d signs is: (3, _, letters) a name, (4, k, _) an own word, (5, v, _) a number, (2, _, _) nothing -/
def runT (c : Nat → Nat) (q d : Nat) : Nat × Nat × List Nat :=
  if cD c q d = 0 ∧ d ≤ 7 then (if ltr c q d ∈ ownB then (4, ownB.idxOf (ltr c q d), []) else (3, 0, ltr c q d))
  else if cL c q d = 0 ∧ d ≤ 3 then (5, dgN c q d, []) else (2, 0, [])
/-- the token that begins behind e, where it lies, where it ends -/
def kT (c : Nat → Nat) (n m e : Nat) : Nat × Nat × List Nat :=
  if sk c n e < n ∧ sk c n e < m then
    (if isAn (c (sk c n e)) = true then runT c (sk c n e) (rn c n (sk c n e) - sk c n e) else if isSg (c (sk c n e)) = true then (c (sk c n e), 0, []) else (2, 0, []))
  else if m < n then (1, 0, []) else (0, 0, [])
def kQ (c : Nat → Nat) (n m e : Nat) : Nat := if sk c n e < n ∧ sk c n e < m then sk c n e else if n < m then n else m
def kE (c : Nat → Nat) (n m e : Nat) : Nat :=
  if sk c n e < n ∧ sk c n e < m then (if isAn (c (sk c n e)) = true then rn c n (sk c n e) else sk c n e + 1) else sk c n e
def tE (c : Nat → Nat) (n m : Nat) : Nat → Nat
  | 0 => 0
  | i + 1 => kE c n m (tE c n m i)
theorem kE_le {c : Nat → Nat} {n m e : Nat} (h : e ≤ n) : e ≤ kE c n m e ∧ kE c n m e ≤ n := by
  obtain ⟨a1, a2, a3, a4⟩ := sk_ok (c := c) h
  obtain ⟨b1, b2, b3, b4⟩ := rn_ok (c := c) a2
  unfold kE
  by_cases g : sk c n e < n ∧ sk c n e < m
  · rw [if_pos g]
    cases isAn (c (sk c n e)) with
    | true => rw [if_pos rfl]; omega
    | false => rw [if_neg (by simp)]; omega
  · rw [if_neg g]; omega
theorem tE_le {c : Nat → Nat} {n m : Nat} : ∀ i, tE c n m i ≤ n := by
  intro i
  induction i with
  | zero => exact Nat.zero_le _
  | succ i ih => exact (kE_le ih).2
def going (c : Nat → Nat) (n m i : Nat) : Prop := sk c n (tE c n m i) < n ∧ sk c n (tE c n m i) < m
theorem tE_ge {c : Nat → Nat} {n m : Nat} : ∀ i, (∀ j, j < i → going c n m j) → i ≤ tE c n m i := by
  intro i
  induction i with
  | zero => intro _; exact Nat.zero_le _
  | succ i ih =>
    intro h
    have h1 := ih (fun j hj => h j (by omega))
    have g : sk c n (tE c n m i) < n ∧ sk c n (tE c n m i) < m := h i (by omega)
    have a1 := (sk_ok (c := c) (tE_le (c := c) (n := n) (m := m) i)).1
    show i + 1 ≤ kE c n m (tE c n m i)
    unfold kE
    rw [if_pos g]
    cases e : isAn (c (sk c n (tE c n m i))) with
    | true =>
      rw [if_pos rfl]
      have := rn_gt g.1 e
      omega
    | false => rw [if_neg (by simp)]; omega
theorem sk_sk {c : Nat → Nat} {n p : Nat} (h : p ≤ n) : sk c n (sk c n p) = sk c n p := by
  obtain ⟨a1, a2, a3, a4⟩ := sk_ok (c := c) h
  obtain ⟨b1, b2, b3, b4⟩ := sk_ok (c := c) a2
  by_cases e : sk c n p = sk c n (sk c n p)
  · exact e.symm
  · have := b3 (sk c n p) (Nat.le_refl _) (by omega)
    rw [a4 (by omega)] at this
    exact absurd this (by simp)
/-- behind the last token all stays as it is -/
theorem stay_kT {c : Nat → Nat} {n m : Nat} {L : Nat} (h : ¬ going c n m L) : ∀ r, kT c n m (tE c n m (L + r)) = kT c n m (tE c n m L) ∧ kQ c n m (tE c n m (L + r)) = kQ c n m (tE c n m L) ∧ sk c n (tE c n m (L + r)) = sk c n (tE c n m L) := by
  intro r
  induction r with
  | zero => exact ⟨rfl, rfl, rfl⟩
  | succ r ih =>
    obtain ⟨i1, i2, i3⟩ := ih
    have g : ¬ (sk c n (tE c n m (L + r)) < n ∧ sk c n (tE c n m (L + r)) < m) := by rw [i3]; exact h
    have e : tE c n m (L + (r + 1)) = sk c n (tE c n m (L + r)) := if_neg g
    have s : sk c n (tE c n m (L + (r + 1))) = sk c n (tE c n m L) := by rw [e, sk_sk (tE_le _), i3]
    have h' : ¬ (sk c n (tE c n m L) < n ∧ sk c n (tE c n m L) < m) := h
    refine ⟨?_, ?_, s⟩
    · unfold kT
      rw [s]
    · unfold kQ
      rw [s]
theorem ownB_idx : ∀ k, k < 35 → ownB.getD k [] ∈ ownB ∧ ownB.idxOf (ownB.getD k []) = k := by decide
theorem ownB_mem : ∀ L, L ∈ ownB → ownB.idxOf L < 35 ∧ ownB.getD (ownB.idxOf L) [] = L ∧ 1 ≤ L.length ∧ L.length ≤ 7 ∧ ∀ d, d ∈ L → 1 ≤ d ∧ d ≤ 26 := by decide
/-- what a token may be -/
def TokOK (t : Nat × Nat × List Nat) : Prop := (t.1 ≤ 5 ∨ isSg t.1 = true) ∧ (t.1 = 3 → (∀ d, d ∈ t.2.2 → 1 ≤ d ∧ d ≤ 26) ∧ 1 ≤ t.2.2.length ∧ t.2.2.length ≤ 7 ∧ t.2.2 ∉ ownB) ∧ (t.1 = 4 → t.2.1 < 35) ∧ (t.1 = 5 → t.2.1 < 1000)
theorem runT_ok {c : Nat → Nat} {q d : Nat} (h : ∀ i, i < d → isAn (c (q + i)) = true) (hd : 1 ≤ d) : TokOK (runT c q d) := by
  unfold runT
  by_cases a : cD c q d = 0 ∧ d ≤ 7
  · rw [if_pos a]
    by_cases b : ltr c q d ∈ ownB
    · rw [if_pos b]
      exact ⟨Or.inl (show 4 ≤ 5 by omega), fun e => absurd e (show ¬ 4 = 3 by omega), fun _ => (ownB_mem _ b).1, fun e => absurd e (show ¬ 4 = 5 by omega)⟩
    · rw [if_neg b]
      refine ⟨Or.inl (show 3 ≤ 5 by omega), fun _ => ⟨ltr_rng d h a.1, ?_, ?_, b⟩, fun e => absurd e (show ¬ 3 = 4 by omega), fun e => absurd e (show ¬ 3 = 5 by omega)⟩
      · show 1 ≤ (ltr c q d).length
        rw [ltr_len]; exact hd
      · show (ltr c q d).length ≤ 7
        rw [ltr_len]; exact a.2
  · rw [if_neg a]
    by_cases b : cL c q d = 0 ∧ d ≤ 3
    · rw [if_pos b]
      refine ⟨Or.inl (show 5 ≤ 5 by omega), fun e => absurd e (show ¬ 5 = 3 by omega), fun e => absurd e (show ¬ 5 = 4 by omega), fun _ => ?_⟩
      show dgN c q d < 1000
      have h1 := dgN_lt d h b.1
      have h2 : 10 ^ d ≤ 10 ^ 3 := Nat.pow_le_pow_right (by omega) b.2
      omega
    · rw [if_neg b]
      exact ⟨Or.inl (show 2 ≤ 5 by omega), fun e => absurd e (show ¬ 2 = 3 by omega), fun e => absurd e (show ¬ 2 = 4 by omega), fun e => absurd e (show ¬ 2 = 5 by omega)⟩
theorem sg_rng {v : Nat} (h : isSg v = true) : v = 59 ∨ v = 60 ∨ v = 61 ∨ v = 62 ∨ v = 40 ∨ v = 41 := by
  unfold isSg at h
  simp only [Bool.or_eq_true, decide_eq_true_eq] at h
  omega
theorem kT_ok {c : Nat → Nat} {n m e : Nat} (he : e ≤ n) : TokOK (kT c n m e) := by
  obtain ⟨a1, a2, a3, a4⟩ := sk_ok (c := c) he
  unfold kT
  by_cases g : sk c n e < n ∧ sk c n e < m
  · rw [if_pos g]
    obtain ⟨b1, b2, b3, b4⟩ := rn_ok (c := c) a2
    cases k : isAn (c (sk c n e)) with
    | true =>
      rw [if_pos rfl]
      have := rn_gt g.1 k
      exact runT_ok (fun i hi => b3 _ (by omega) (by omega)) (by omega)
    | false =>
      rw [if_neg (by simp)]
      cases s : isSg (c (sk c n e)) with
      | true =>
        rw [if_pos rfl]
        have r := sg_rng s
        exact ⟨Or.inr s, fun q => absurd (show c (sk c n e) = 3 from q) (by omega), fun q => absurd (show c (sk c n e) = 4 from q) (by omega), fun q => absurd (show c (sk c n e) = 5 from q) (by omega)⟩
      | false =>
        rw [if_neg (by simp)]
        exact ⟨Or.inl (show 2 ≤ 5 by omega), fun q => absurd q (show ¬ 2 = 3 by omega), fun q => absurd q (show ¬ 2 = 4 by omega), fun q => absurd q (show ¬ 2 = 5 by omega)⟩
  · rw [if_neg g]
    by_cases h : m < n
    · rw [if_pos h]
      exact ⟨Or.inl (show 1 ≤ 5 by omega), fun q => absurd q (show ¬ 1 = 3 by omega), fun q => absurd q (show ¬ 1 = 4 by omega), fun q => absurd q (show ¬ 1 = 5 by omega)⟩
    · rw [if_neg h]
      exact ⟨Or.inl (show 0 ≤ 5 by omega), fun q => absurd q (show ¬ 0 = 3 by omega), fun q => absurd q (show ¬ 0 = 4 by omega), fun q => absurd q (show ¬ 0 = 5 by omega)⟩
/-- a token as the book has it -/
def BkT (t : Nat × Nat × List Nat) (ty : Int32) (v : Int64) : Prop := ty = nI t.1 ∧ (t.1 = 3 → v = lN (nameN 32 t.2.2)) ∧ (t.1 = 4 → v = lN t.2.1) ∧ (t.1 = 5 → v = lN t.2.1)
/-- the model's kinds -/
def mk (k : Nat) : Nat := if k = 0 then 0 else if k ≤ 2 then 1 else if k ≤ 4 then 2 else if k = 5 then 3 else 4
def MdT (t : Nat × Nat × List Nat) (kind num sign : Int32) (w : Int64) : Prop := kind = nI (mk t.1) ∧ (t.1 = 3 → w = lN (nameN 27 t.2.2)) ∧ (t.1 = 4 → w = lN (nameN 27 (ownB.getD t.2.1 []))) ∧ (t.1 = 5 → num = nI t.2.1) ∧ (6 ≤ t.1 → sign = nI t.1)

/-! tokens: the model's next one -/
section Q62
variable {N b ln sp sn ss nP nF nE nW nH nR : Nat} {I I' : FI} {J J' : FJ} {c : Nat → Nat} {n m : Nat}
theorem go_end (hN : 2000 ≤ N) (h : BytM c n I) (hm : m ≤ 900) (h4 : I 204 4 = nI m) {p : Nat} (hp : p ≤ n) (h5 : I 204 5 = nI p) (hb : p < n → isBl (c p) = false) (f : Nat) : ∃ (I1 : FI) (J1 : FJ), Mod_go_0 N (f + 1) I J = some (I1, J1) ∧ I1 204 5 = nI (if p < n ∧ p < m then (if isAn (c p) = true then rn c n p else p + 1) else p) ∧ I1 204 6 = nI (if p < n ∧ p < m then p else if n < m then n else m) ∧ MdT (if p < n ∧ p < m then (if isAn (c p) = true then runT c p (rn c n p - p) else if isSg (c p) = true then (c p, 0, []) else (2, 0, [])) else if m < n then (1, 0, []) else (0, 0, [])) (I1 204 7) (I1 204 8) (I1 204 9) (J1 204 12) := by
  have hM := h
  obtain ⟨h0, h3, hc⟩ := h
  have r3 : ∀ v, up2 I 204 6 v 204 3 = I 204 3 := fun v => u_j (by omega)
  have r4 : ∀ v, up2 I 204 6 v 204 4 = I 204 4 := fun v => u_j (by omega)
  have r5 : ∀ v, up2 I 204 6 v 204 5 = I 204 5 := fun v => u_j (by omega)
  have r6 : ∀ v, up2 I 204 6 v 204 6 = v := fun v => u_s
  have rb : ∀ v, up2 I 204 6 v 205 = I 205 := fun v => u_o (by omega)
  have rz : ∀ u v w, up2 (up2 (up2 I 204 6 u) 204 7 v) 204 9 w 204 5 = I 204 5 := fun u v w => by rw [u_j (by omega), u_j (by omega), u_j (by omega)]
  have f4 : (nI n ≤ nI m) = (n ≤ m) := le_nI (by omega) (by omega)
  have f6 : (nI p < nI m) = (p < m) := lt_nI (by omega) (by omega)
  have f7 : (nI n ≤ nI p) = (n ≤ p) := le_nI (by omega) (by omega)
  have f8 : (nI p < nI n) = (p < n) := lt_nI (by omega) (by omega)
  by_cases w : p < n
  · have y8 : (p < n) = True := eq_true w
    have y7 : (n ≤ p) = False := eq_false (by omega)
    obtain ⟨b1, b2⟩ := hc p w
    obtain ⟨d1, d2⟩ := bl_no (hb w)
    have t2 : in9 (nI p) 940 = True := in9_t (by omega) (by omega)
    have t3 : (nI p).toNatClampNeg = p := tN (by omega)
    have l32 : (nI (c p) = 32) = False := by rw [show (32 : Int32) = nI 32 from rfl, eq_nI (by omega) (by omega)]; exact eq_false d1
    have l10 : (nI (c p) = 10) = False := by rw [L_10, eq_nI (by omega) (by omega)]; exact eq_false d2
    have s1 : Mod_isLetter (nI (c p)) = isLt (c p) := mLt _ b1
    have s2 : Mod_isDigit (nI (c p)) = isDg (c p) := mDg _ b1
    have q59 : (nI (c p) = 59) = (c p = 59) := by rw [show (59 : Int32) = nI 59 from rfl, eq_nI (by omega) (by omega)]
    have q60 : (nI (c p) = 60) = (c p = 60) := by rw [show (60 : Int32) = nI 60 from rfl, eq_nI (by omega) (by omega)]
    have q61 : (nI (c p) = 61) = (c p = 61) := by rw [show (61 : Int32) = nI 61 from rfl, eq_nI (by omega) (by omega)]
    have q62 : (nI (c p) = 62) = (c p = 62) := by rw [show (62 : Int32) = nI 62 from rfl, eq_nI (by omega) (by omega)]
    have q40 : (nI (c p) = 40) = (c p = 40) := by rw [show (40 : Int32) = nI 40 from rfl, eq_nI (by omega) (by omega)]
    have q41 : (nI (c p) = 41) = (c p = 41) := by rw [show (41 : Int32) = nI 41 from rfl, eq_nI (by omega) (by omega)]
    by_cases g : p < m
    · have y6 : (p < m) = True := eq_true g
      have ctx : (n ≤ m) = True ∨ (n ≤ m) = False := by
        by_cases x : n ≤ m
        · exact Or.inl (eq_true x)
        · exact Or.inr (eq_false x)
      have hwg : p < n ∧ p < m := ⟨w, g⟩
      rw [if_pos hwg, if_pos hwg, if_pos hwg]
      cases an : isAn (c p) with
      | true =>
        rw [if_pos (show true = true from rfl), if_pos (show true = true from rfl)]
        have rok := rn_ok (c := c) (n := n) (p := p) hp
        obtain ⟨a1, a2, a3, a4⟩ := rok
        have gt := rn_gt w an
        obtain ⟨e, he⟩ : ∃ e, N = e + (rn c n p - p) + 1 := ⟨N - (rn c n p - p) - 1, by omega⟩
        obtain ⟨I1, J1, e1, e2, e3, e4⟩ := run_m (N := N) (c := c) (n := n) (q := p) (a := if isLt (c p) = true then 1 else 0) rfl (rn c n p - p) 0 e (up2 (up2 I 204 6 (nI p)) 204 8 0) (up2 J 204 12 0) (nI (c p)) (by omega) (hM.to (by rw [u_j (by omega), u_j (by omega)]) (fun i => by rw [u_o (by omega), u_o (by omega)])) (by rw [u_j (by omega), u_j (by omega)]; exact h5) (by rw [u_j (by omega), u_s]) (by rw [show p + 0 + (rn c n p - p) = rn c n p by omega]; exact ⟨a1, a2, a3, a4⟩) (fun _ _ => u_s.trans rfl) (fun _ _ => u_s.trans rfl)
        rw [← he] at e1
        rw [show p + 0 + (rn c n p - p) = rn c n p by omega] at e2
        rw [show 0 + (rn c n p - p) = rn c n p - p by omega] at e4
        refine ⟨I1, J1, ?_, e2, e3, e4⟩
        rcases an_or an with ⟨x, y⟩ | ⟨x, y⟩
        · rw [x] at e1 s1
          rw [y] at s2
          have e5 : Mod_go_215 N N (nI (c p)) (b2i true) 1 (up2 (up2 I 204 6 (nI p)) 204 8 0) (up2 J 204 12 0) = some (I1, J1) := e1
          rw [Mod_go_0]
          rcases ctx with yc | yc
          · simp only [↓reduceIte, h3, h4, h5, r3, r4, r5, r6, rb, rz, f4, f6, f7, f8, y8, y7, t2, t3, b2, l32, l10, s1, s2, nS, Nat.reduceAdd, Option.bind_some, Bool.false_eq_true, yc, e5]
          · simp only [↓reduceIte, h3, h4, h5, r3, r4, r5, r6, rb, rz, f4, f6, f7, f8, y8, y7, t2, t3, b2, l32, l10, s1, s2, nS, Nat.reduceAdd, Option.bind_some, Bool.false_eq_true, yc, y6, e5]
        · rw [x] at e1 s1
          rw [y] at s2
          have e5 : Mod_go_215 N N (nI (c p)) (b2i false) 1 (up2 (up2 I 204 6 (nI p)) 204 8 0) (up2 J 204 12 0) = some (I1, J1) := e1
          rw [Mod_go_0]
          rcases ctx with yc | yc
          · simp only [↓reduceIte, h3, h4, h5, r3, r4, r5, r6, rb, rz, f4, f6, f7, f8, y8, y7, t2, t3, b2, l32, l10, s1, s2, nS, Nat.reduceAdd, Option.bind_some, Bool.false_eq_true, yc, e5]
          · simp only [↓reduceIte, h3, h4, h5, r3, r4, r5, r6, rb, rz, f4, f6, f7, f8, y8, y7, t2, t3, b2, l32, l10, s1, s2, nS, Nat.reduceAdd, Option.bind_some, Bool.false_eq_true, yc, y6, e5]
      | false =>
        rw [if_neg (show ¬ (false = true) from Bool.false_ne_true), if_neg (show ¬ (false = true) from Bool.false_ne_true)]
        unfold isAn at an
        rw [Bool.or_eq_false_iff] at an
        rw [an.1] at s1
        rw [an.2] at s2
        cases sg : isSg (c p) with
        | true =>
          rw [if_pos (show true = true from rfl)]
          have big : 6 ≤ c p ∧ mk (c p) = 4 := by rcases sg_rng sg with z | z | z | z | z | z <;> rw [z] <;> exact ⟨by omega, rfl⟩
          refine ⟨up2 (up2 (up2 (up2 I 204 6 (nI p)) 204 7 (nI 4)) 204 9 (nI (c p))) 204 5 (nI (p + 1)), J, ?_, u_s, by rw [u_j (by omega), u_j (by omega), u_j (by omega), u_s], by rw [u_j (by omega), u_j (by omega), u_s]; exact (congrArg nI big.2).symm, fun x => absurd (show c p = 3 from x) (by omega), fun x => absurd (show c p = 4 from x) (by omega), fun x => absurd (show c p = 5 from x) (by omega), fun _ => by rw [u_j (by omega), u_s]⟩
          rcases sg_rng sg with z | z | z | z | z | z
          · have z59 : (c p = 59) = True := eq_true z
            have z60 : (c p = 60) = False := eq_false (by omega)
            have z61 : (c p = 61) = False := eq_false (by omega)
            have z62 : (c p = 62) = False := eq_false (by omega)
            have z40 : (c p = 40) = False := eq_false (by omega)
            have z41 : (c p = 41) = False := eq_false (by omega)
            rw [Mod_go_0]
            rcases ctx with yc | yc
            · simp only [↓reduceIte, h3, h4, h5, r3, r4, r5, r6, rb, rz, f4, f6, f7, f8, y8, y7, t2, t3, b2, l32, l10, s1, s2, nS, Nat.reduceAdd, Option.bind_some, Bool.false_eq_true, q59, z59, q60, z60, q61, z61, q62, z62, q40, z40, q41, z41, yc]
              rfl
            · simp only [↓reduceIte, h3, h4, h5, r3, r4, r5, r6, rb, rz, f4, f6, f7, f8, y8, y7, t2, t3, b2, l32, l10, s1, s2, nS, Nat.reduceAdd, Option.bind_some, Bool.false_eq_true, q59, z59, q60, z60, q61, z61, q62, z62, q40, z40, q41, z41, yc, y6]
              rfl
          · have z59 : (c p = 59) = False := eq_false (by omega)
            have z60 : (c p = 60) = True := eq_true z
            have z61 : (c p = 61) = False := eq_false (by omega)
            have z62 : (c p = 62) = False := eq_false (by omega)
            have z40 : (c p = 40) = False := eq_false (by omega)
            have z41 : (c p = 41) = False := eq_false (by omega)
            rw [Mod_go_0]
            rcases ctx with yc | yc
            · simp only [↓reduceIte, h3, h4, h5, r3, r4, r5, r6, rb, rz, f4, f6, f7, f8, y8, y7, t2, t3, b2, l32, l10, s1, s2, nS, Nat.reduceAdd, Option.bind_some, Bool.false_eq_true, q59, z59, q60, z60, q61, z61, q62, z62, q40, z40, q41, z41, yc]
              rfl
            · simp only [↓reduceIte, h3, h4, h5, r3, r4, r5, r6, rb, rz, f4, f6, f7, f8, y8, y7, t2, t3, b2, l32, l10, s1, s2, nS, Nat.reduceAdd, Option.bind_some, Bool.false_eq_true, q59, z59, q60, z60, q61, z61, q62, z62, q40, z40, q41, z41, yc, y6]
              rfl
          · have z59 : (c p = 59) = False := eq_false (by omega)
            have z60 : (c p = 60) = False := eq_false (by omega)
            have z61 : (c p = 61) = True := eq_true z
            have z62 : (c p = 62) = False := eq_false (by omega)
            have z40 : (c p = 40) = False := eq_false (by omega)
            have z41 : (c p = 41) = False := eq_false (by omega)
            rw [Mod_go_0]
            rcases ctx with yc | yc
            · simp only [↓reduceIte, h3, h4, h5, r3, r4, r5, r6, rb, rz, f4, f6, f7, f8, y8, y7, t2, t3, b2, l32, l10, s1, s2, nS, Nat.reduceAdd, Option.bind_some, Bool.false_eq_true, q59, z59, q60, z60, q61, z61, q62, z62, q40, z40, q41, z41, yc]
              rfl
            · simp only [↓reduceIte, h3, h4, h5, r3, r4, r5, r6, rb, rz, f4, f6, f7, f8, y8, y7, t2, t3, b2, l32, l10, s1, s2, nS, Nat.reduceAdd, Option.bind_some, Bool.false_eq_true, q59, z59, q60, z60, q61, z61, q62, z62, q40, z40, q41, z41, yc, y6]
              rfl
          · have z59 : (c p = 59) = False := eq_false (by omega)
            have z60 : (c p = 60) = False := eq_false (by omega)
            have z61 : (c p = 61) = False := eq_false (by omega)
            have z62 : (c p = 62) = True := eq_true z
            have z40 : (c p = 40) = False := eq_false (by omega)
            have z41 : (c p = 41) = False := eq_false (by omega)
            rw [Mod_go_0]
            rcases ctx with yc | yc
            · simp only [↓reduceIte, h3, h4, h5, r3, r4, r5, r6, rb, rz, f4, f6, f7, f8, y8, y7, t2, t3, b2, l32, l10, s1, s2, nS, Nat.reduceAdd, Option.bind_some, Bool.false_eq_true, q59, z59, q60, z60, q61, z61, q62, z62, q40, z40, q41, z41, yc]
              rfl
            · simp only [↓reduceIte, h3, h4, h5, r3, r4, r5, r6, rb, rz, f4, f6, f7, f8, y8, y7, t2, t3, b2, l32, l10, s1, s2, nS, Nat.reduceAdd, Option.bind_some, Bool.false_eq_true, q59, z59, q60, z60, q61, z61, q62, z62, q40, z40, q41, z41, yc, y6]
              rfl
          · have z59 : (c p = 59) = False := eq_false (by omega)
            have z60 : (c p = 60) = False := eq_false (by omega)
            have z61 : (c p = 61) = False := eq_false (by omega)
            have z62 : (c p = 62) = False := eq_false (by omega)
            have z40 : (c p = 40) = True := eq_true z
            have z41 : (c p = 41) = False := eq_false (by omega)
            rw [Mod_go_0]
            rcases ctx with yc | yc
            · simp only [↓reduceIte, h3, h4, h5, r3, r4, r5, r6, rb, rz, f4, f6, f7, f8, y8, y7, t2, t3, b2, l32, l10, s1, s2, nS, Nat.reduceAdd, Option.bind_some, Bool.false_eq_true, q59, z59, q60, z60, q61, z61, q62, z62, q40, z40, q41, z41, yc]
              rfl
            · simp only [↓reduceIte, h3, h4, h5, r3, r4, r5, r6, rb, rz, f4, f6, f7, f8, y8, y7, t2, t3, b2, l32, l10, s1, s2, nS, Nat.reduceAdd, Option.bind_some, Bool.false_eq_true, q59, z59, q60, z60, q61, z61, q62, z62, q40, z40, q41, z41, yc, y6]
              rfl
          · have z59 : (c p = 59) = False := eq_false (by omega)
            have z60 : (c p = 60) = False := eq_false (by omega)
            have z61 : (c p = 61) = False := eq_false (by omega)
            have z62 : (c p = 62) = False := eq_false (by omega)
            have z40 : (c p = 40) = False := eq_false (by omega)
            have z41 : (c p = 41) = True := eq_true z
            rw [Mod_go_0]
            rcases ctx with yc | yc
            · simp only [↓reduceIte, h3, h4, h5, r3, r4, r5, r6, rb, rz, f4, f6, f7, f8, y8, y7, t2, t3, b2, l32, l10, s1, s2, nS, Nat.reduceAdd, Option.bind_some, Bool.false_eq_true, q59, z59, q60, z60, q61, z61, q62, z62, q40, z40, q41, z41, yc]
              rfl
            · simp only [↓reduceIte, h3, h4, h5, r3, r4, r5, r6, rb, rz, f4, f6, f7, f8, y8, y7, t2, t3, b2, l32, l10, s1, s2, nS, Nat.reduceAdd, Option.bind_some, Bool.false_eq_true, q59, z59, q60, z60, q61, z61, q62, z62, q40, z40, q41, z41, yc, y6]
              rfl
        | false =>
          rw [if_neg (show ¬ (false = true) from Bool.false_ne_true)]
          have no := sg
          unfold isSg at no
          simp only [Bool.or_eq_false_iff, decide_eq_false_iff_not] at no
          refine ⟨up2 (up2 (up2 (up2 I 204 6 (nI p)) 204 7 (nI 1)) 204 9 (nI (c p))) 204 5 (nI (p + 1)), J, ?_, u_s, by rw [u_j (by omega), u_j (by omega), u_j (by omega), u_s], by rw [u_j (by omega), u_j (by omega), u_s]; rfl, fun x => absurd x (show ¬ 2 = 3 by omega), fun x => absurd x (show ¬ 2 = 4 by omega), fun x => absurd x (show ¬ 2 = 5 by omega), fun x => absurd x (show ¬ 6 ≤ 2 by omega)⟩
          have z59 : (c p = 59) = False := eq_false (by omega)
          have z60 : (c p = 60) = False := eq_false (by omega)
          have z61 : (c p = 61) = False := eq_false (by omega)
          have z62 : (c p = 62) = False := eq_false (by omega)
          have z40 : (c p = 40) = False := eq_false (by omega)
          have z41 : (c p = 41) = False := eq_false (by omega)
          rw [Mod_go_0]
          rcases ctx with yc | yc
          · simp only [↓reduceIte, h3, h4, h5, r3, r4, r5, r6, rb, rz, f4, f6, f7, f8, y8, y7, t2, t3, b2, l32, l10, s1, s2, nS, Nat.reduceAdd, Option.bind_some, Bool.false_eq_true, q59, z59, q60, z60, q61, z61, q62, z62, q40, z40, q41, z41, yc]
            rfl
          · simp only [↓reduceIte, h3, h4, h5, r3, r4, r5, r6, rb, rz, f4, f6, f7, f8, y8, y7, t2, t3, b2, l32, l10, s1, s2, nS, Nat.reduceAdd, Option.bind_some, Bool.false_eq_true, q59, z59, q60, z60, q61, z61, q62, z62, q40, z40, q41, z41, yc, y6]
            rfl
    · have y6 : (p < m) = False := eq_false g
      have y4 : (n ≤ m) = False := eq_false (by omega)
      have ng : ¬ (p < n ∧ p < m) := fun x => g x.2
      rw [if_neg ng, if_neg ng, if_neg ng, if_neg (show ¬ n < m by omega), if_pos (show m < n by omega)]
      refine ⟨up2 (up2 (up2 I 204 6 (nI p)) 204 6 (nI m)) 204 7 (nI 1), J, ?_, by rw [u_j (by omega), u_j (by omega), u_j (by omega)]; exact h5, by rw [u_j (by omega), u_s], by rw [u_s]; rfl, fun x => absurd x (show ¬ 1 = 3 by omega), fun x => absurd x (show ¬ 1 = 4 by omega), fun x => absurd x (show ¬ 1 = 5 by omega), fun x => absurd x (show ¬ 6 ≤ 1 by omega)⟩
      rw [Mod_go_0]
      simp only [↓reduceIte, h3, h4, h5, r3, r4, r5, r6, rb, rz, f4, f6, f7, f8, y8, y7, t2, t3, b2, l32, l10, s1, s2, nS, Nat.reduceAdd, Option.bind_some, Bool.false_eq_true, y4, y6]
      rfl
  · have y8 : (p < n) = False := eq_false w
    have y7 : (n ≤ p) = True := eq_true (by omega)
    have ng : ¬ (p < n ∧ p < m) := fun x => w x.1
    rw [if_neg ng, if_neg ng, if_neg ng]
    by_cases x : n ≤ m
    · have y4 : (n ≤ m) = True := eq_true x
      rw [if_neg (show ¬ m < n by omega)]
      refine ⟨up2 (up2 I 204 6 (nI p)) 204 7 (nI 0), J, ?_, by rw [u_j (by omega), u_j (by omega)]; exact h5, ?_, by rw [u_s]; rfl, fun x => absurd x (show ¬ 0 = 3 by omega), fun x => absurd x (show ¬ 0 = 4 by omega), fun x => absurd x (show ¬ 0 = 5 by omega), fun x => absurd x (show ¬ 6 ≤ 0 by omega)⟩
      · rw [Mod_go_0]
        simp only [↓reduceIte, h3, h4, h5, r3, r4, r5, r6, f4, f6, f7, f8, y8, y7, y4, Option.bind_some]
        rfl
      · rw [u_j (by omega), u_s]
        congr 1
        by_cases x2 : n < m
        · rw [if_pos x2]; omega
        · rw [if_neg x2]; omega
    · have y4 : (n ≤ m) = False := eq_false x
      have y6 : (p < m) = False := eq_false (by omega)
      rw [if_neg (show ¬ n < m by omega), if_pos (show m < n by omega)]
      refine ⟨up2 (up2 (up2 I 204 6 (nI p)) 204 6 (nI m)) 204 7 (nI 1), J, ?_, by rw [u_j (by omega), u_j (by omega), u_j (by omega)]; exact h5, by rw [u_j (by omega), u_s], by rw [u_s]; rfl, fun x => absurd x (show ¬ 1 = 3 by omega), fun x => absurd x (show ¬ 1 = 4 by omega), fun x => absurd x (show ¬ 1 = 5 by omega), fun x => absurd x (show ¬ 6 ≤ 1 by omega)⟩
      rw [Mod_go_0]
      simp only [↓reduceIte, h3, h4, h5, r3, r4, r5, r6, f4, f6, f7, f8, y8, y7, y4, y6, Option.bind_some]
      rfl
theorem go_sk : ∀ r p f (I : FI), BytM c n I → Skip c n p (p + r) → I 204 5 = nI p → Mod_go_0 N (f + r + 1) I J = Mod_go_0 N (f + 1) (up2 I 204 5 (nI (p + r))) J := by
  intro r
  induction r with
  | zero =>
    intro p f I h hs h5
    rw [u_e (show I 204 5 = nI (p + 0) from h5)]
    try rfl
  | succ r ih =>
    intro p f I h hs h5
    have hM := h
    obtain ⟨h0, h3, hc⟩ := h
    obtain ⟨a1, a2, a3, a4⟩ := hs
    have q : p < n := by omega
    obtain ⟨b1, b2⟩ := hc p q
    have t1 : (nI n ≤ nI p) = False := by rw [le_nI (by omega) (by omega)]; exact eq_false (by omega)
    have t2 : in9 (nI p) 940 = True := in9_t (by omega) (by omega)
    have t3 : (nI p).toNatClampNeg = p := tN (by omega)
    have st := ih (p + 1) f (up2 I 204 5 (nI (p + 1))) (hM.to (u_j (by omega)) (fun i => by rw [u_o (by omega)])) ⟨by omega, by omega, fun i x y => a3 i (by omega) (by omega), fun x => by have := a4 (by omega); rwa [show p + (r + 1) = p + 1 + r by omega] at this⟩ u_s
    rw [u_u] at st
    rw [show f + (r + 1) + 1 = (f + r + 1) + 1 from rfl, show p + (r + 1) = p + 1 + r by omega, ← st]
    conv => lhs; rw [Mod_go_0]
    rcases bl_yes (a3 p (Nat.le_refl _) (by omega)) with d | d
    · have t4 : (nI (c p) = 32) = True := by rw [d]; exact eq_true rfl
      simp only [↓reduceIte, h3, h5, t1, t2, t3, b2, t4, nS, Option.bind_some]
    · have t4 : (nI (c p) = 32) = False := by rw [d]; exact eq_false (by decide)
      have t5 : (nI (c p) = 10) = True := by rw [d]; exact eq_true rfl
      simp only [↓reduceIte, h3, h5, t1, t2, t3, b2, t4, t5, nS, Option.bind_some]
/-- the model stands at token i -/
def TkM (c : Nat → Nat) (n m i : Nat) (I : FI) (J : FJ) : Prop := BytM c n I ∧ I 204 4 = nI m ∧ I 204 5 = nI (tE c n m (i + 1)) ∧ I 204 6 = nI (kQ c n m (tE c n m i)) ∧ MdT (kT c n m (tE c n m i)) (I 204 7) (I 204 8) (I 204 9) (J 204 12)
theorem go_m (hN : 2000 ≤ N) (h : BytM c n I) (hm : m ≤ 900) (h4 : I 204 4 = nI m) {i : Nat} (h5 : I 204 5 = nI (tE c n m i)) : ∃ (I1 : FI) (J1 : FJ), Mod_go N I J = some (I1, J1) ∧ TkM c n m i I1 J1 ∧ (∀ x j, ¬ (x = 204 ∧ (j = 5 ∨ j = 6 ∨ j = 7 ∨ j = 8 ∨ j = 9)) → I1 x j = I x j) ∧ (∀ x j, ¬ (x = 204 ∧ j = 12) → J1 x j = J x j) := by
  have ss := sk_ok (c := c) (tE_le (c := c) (n := n) (m := m) i)
  have hn := h.1
  obtain ⟨r, hr⟩ : ∃ r, sk c n (tE c n m i) = tE c n m i + r := ⟨sk c n (tE c n m i) - tE c n m i, by have := ss.1; omega⟩
  have hr2 : r ≤ 940 := by have := ss.2.1; omega
  obtain ⟨f, hf⟩ : ∃ f, N = f + r := ⟨N - r, by omega⟩
  have e0 : Mod_go N I J = Mod_go_0 N (f + r + 1) I J := by rw [← hf]; rfl
  have e1 := go_sk (N := N) (J := J) r (tE c n m i) f I h (by rw [← hr]; exact ss) h5
  rw [← hr] at e1
  obtain ⟨I1, J1, k1, k2, k3, k4⟩ := go_end (N := N) (J := J) hN (h.to (I1 := up2 I 204 5 (nI (sk c n (tE c n m i)))) (u_j (by omega)) (fun i => by rw [u_o (by omega)])) hm (by rw [u_j (by omega)]; exact h4) ss.2.1 u_s ss.2.2.2 f
  rw [← e1, ← e0] at k1
  have fr : ∀ x j, ¬ (x = 204 ∧ (j = 5 ∨ j = 6 ∨ j = 7 ∨ j = 8 ∨ j = 9)) → I1 x j = I x j := fun x j w => fr_Mod_go (by omega) (by omega) (by omega) (by omega) (by omega) k1
  refine ⟨I1, J1, k1, ⟨h.to (fr _ _ (by omega)) (fun i => fr _ _ (by omega)), by rw [fr _ _ (by omega)]; exact h4, k2, k3, k4⟩, fr, fun x j w => fj_Mod_go w k1⟩
end Q62

/-! a book's line is lived: both sides -/
section Q69
variable {N b ln sp sn ss nP nF nE nW nH nR : Nat} {I I' : FI} {J J' : FJ} {k : Nat}
/-- line k: why it is wrong, or what it does -/
def LiveR (N ln nP nF nE nW nH nR k : Nat) (I I' : FI) : Prop :=
  (∃ w w0, Book_whyWrong 55 ln 35 (nI k) I = some w ∧ Mod_whyLine (nI (4 * k)) I' = some w0 ∧ w ≠ 0 ∧ w0 ≠ 0 ∧ w = w0 + 10 * I' 222 (4 * k)) ∨
  (Book_whyWrong 55 ln 35 (nI k) I = some 0 ∧ Mod_whyLine (nI (4 * k)) I' = some 0 ∧ ∃ I1 I1', Book_liveLine N 55 ln 35 192 (nI k) (up2 I 55 5 0) = some I1 ∧ Mod_live N (nI (4 * k)) I' = some I1' ∧ QR N 35 ln nP nF nE nW nH nR I1 I1' ∧ (∀ j, j < 102 ∨ 209 ≤ j → I1' 206 j = I' 206 j))
theorem cell_lt {n x i : Nat} (hx : x < 2147483648) (hi : i < 2147483648) (h : nI x = nI i) (hn : i < n) : x < n := by
  rw [eq_nI hx hi] at h
  omega
theorem QR.up5 {v : Int32} (h : QR N 35 ln nP nF nE nW nH nR I I') : QR N 35 ln nP nF nE nW nH nR (up2 I 55 5 v) I' := h.of (fun q j hq => by rw [u_o (by omega)]) (fun _ _ => rfl)
theorem QR.up192 {v : Int32} (h : QR N 35 ln nP nF nE nW nH nR I I') : QR N 35 ln nP nF nE nW nH nR (up2 I 192 0 v) I' := h.of (fun q j hq => by rw [u_o (by omega)]) (fun _ _ => rfl)
theorem lv_dig (h : QR N 35 ln nP nF nE nW nH nR I I') (hk : k < 40) (q56 : I 56 k = nI 18) (q0 : I' 222 (4 * k) = nI 0) {p x y : Nat} (hp : p < nP) (hx : x < 6) (hy : y < 6) (q57 : I 57 k = nI p) (q1 : I' 222 (4 * k + 1) = nI p) (q58 : I 58 k = nI x) (q2 : I' 222 (4 * k + 2) = nI x) (q59 : I 59 k = nI y) (q3 : I' 222 (4 * k + 3) = nI y) : LiveR N ln nP nF nE nW nH nR k I I' := by
  have hb := h.bd
  have a1 : nI (4 * k) + 1 = nI (4 * k + 1) := nA _ 1
  have a2 : nI (4 * k) + 2 = nI (4 * k + 2) := nA _ 2
  have a3 : nI (4 * k) + 3 = nI (4 * k + 3) := nA _ 3
  have g : in9 (nI k) 40 = True := in9_t (by omega) (by omega)
  have gt : (nI k).toNatClampNeg = k := tN (by omega)
  have g0 : in9 (nI (4 * k)) 160 = True := in9_t (by omega) (by omega)
  have g1 : in9 (nI (4 * k + 1)) 160 = True := in9_t (by omega) (by omega)
  have g2 : in9 (nI (4 * k + 2)) 160 = True := in9_t (by omega) (by omega)
  have g3 : in9 (nI (4 * k + 3)) 160 = True := in9_t (by omega) (by omega)
  have t0 : (nI (4 * k)).toNatClampNeg = 4 * k := tN (by omega)
  have t1 : (nI (4 * k + 1)).toNatClampNeg = 4 * k + 1 := tN (by omega)
  have t2 : (nI (4 * k + 2)).toNatClampNeg = 4 * k + 2 := tN (by omega)
  have t3 : (nI (4 * k + 3)).toNatClampNeg = 4 * k + 3 := tN (by omega)
  have c1 : (nI 18 = (18 : Int32)) = True := eq_true rfl
  have m0 : (nI 0 = (0 : Int32)) = True := eq_true rfl
  rcases is_cell h (nI x) (nI y) with ⟨u1, u2, xi, yi, hxi, hyi, ex, ey⟩ | ⟨u1, u2⟩
  · have hx2 := cell_lt (by omega) (by omega) ex hxi
    have hy2 := cell_lt (by omega) (by omega) ey hyi
    obtain ⟨d, d1, d2, d3⟩ := canDig_q h hx2 hy2
    cases d with
    | true =>
      obtain ⟨v, v1, v2⟩ := d3 rfl
      obtain ⟨w, I1, I1', e1, e2, e3, e4, e5⟩ := dig_q (h.up5 (v := 0) |>.up192 (v := nI p)) hp hx2 hy2 v1 v2
      have r56 : ∀ s, up2 (up2 I 55 5 0) 192 0 s 56 = I 56 := fun s => by rw [u_o (by omega), u_o (by omega)]
      have r58 : ∀ s, up2 (up2 I 55 5 0) 192 0 s 58 = I 58 := fun s => by rw [u_o (by omega), u_o (by omega)]
      have r59 : ∀ s, up2 (up2 I 55 5 0) 192 0 s 59 = I 59 := fun s => by rw [u_o (by omega), u_o (by omega)]
      have r57 : up2 I 55 5 0 57 = I 57 := u_o (by omega)
      refine Or.inr ⟨?_, ?_, I1, I1', ?_, ?_, e3, fun j hj => e5 j hj⟩
      · simp only [↓reduceIte, Book_whyWrong, g, gt, q56, q58, q59, c1, u1, d1, Option.bind_some, Nat.reduceAdd]
      · simp only [↓reduceIte, Mod_whyLine, a1, a2, a3, g0, g1, g2, g3, t0, t2, t3, q0, q2, q3, m0, u2, d2, Option.bind_some]
      · simp only [↓reduceIte, Book_liveLine, g, gt, r56, r57, r58, r59, q56, q57, q58, q59, c1, e1, Option.bind_some, Nat.reduceAdd]
      · simp only [↓reduceIte, Mod_live, a1, a2, a3, g0, g1, g2, g3, t0, t1, t2, t3, q0, q1, q2, q3, m0, e2, Option.bind_some]
    | false =>
      refine Or.inl ⟨1, 1, ?_, ?_, by decide, by decide, by rw [q0]; decide⟩
      · simp only [↓reduceIte, Book_whyWrong, g, gt, q56, q58, q59, c1, u1, d1, Option.bind_some, Nat.reduceAdd, Bool.false_eq_true]
      · simp only [↓reduceIte, Mod_whyLine, a1, a2, a3, g0, g1, g2, g3, t0, t2, t3, q0, q2, q3, m0, u2, d2, Option.bind_some, Bool.false_eq_true]
  · refine Or.inl ⟨9, 9, ?_, ?_, by decide, by decide, by rw [q0]; decide⟩
    · simp only [↓reduceIte, Book_whyWrong, g, gt, q56, q58, q59, c1, u1, Option.bind_some, Nat.reduceAdd, Bool.false_eq_true]
    · simp only [↓reduceIte, Mod_whyLine, a1, a2, a3, g0, g1, g2, g3, t0, t2, t3, q0, q2, q3, m0, u2, Option.bind_some, Bool.false_eq_true]
theorem lv_tell (h : QR N 35 ln nP nF nE nW nH nR I I') (hk : k < 40) (q56 : I 56 k = nI 19) (q0 : I' 222 (4 * k) = nI 1) {f : Nat} (hf : f < nF) (q57 : I 57 k = nI f) (q1 : I' 222 (4 * k + 1) = nI f) : LiveR N ln nP nF nE nW nH nR k I I' := by
  have hb := h.bd
  have a1 : nI (4 * k) + 1 = nI (4 * k + 1) := nA _ 1
  have a2 : nI (4 * k) + 2 = nI (4 * k + 2) := nA _ 2
  have a3 : nI (4 * k) + 3 = nI (4 * k + 3) := nA _ 3
  have g : in9 (nI k) 40 = True := in9_t (by omega) (by omega)
  have gt : (nI k).toNatClampNeg = k := tN (by omega)
  have g0 : in9 (nI (4 * k)) 160 = True := in9_t (by omega) (by omega)
  have g1 : in9 (nI (4 * k + 1)) 160 = True := in9_t (by omega) (by omega)
  have g2 : in9 (nI (4 * k + 2)) 160 = True := in9_t (by omega) (by omega)
  have g3 : in9 (nI (4 * k + 3)) 160 = True := in9_t (by omega) (by omega)
  have t0 : (nI (4 * k)).toNatClampNeg = 4 * k := tN (by omega)
  have t1 : (nI (4 * k + 1)).toNatClampNeg = 4 * k + 1 := tN (by omega)
  have c1 : (nI 19 = (18 : Int32)) = False := eq_false (by decide)
  have c2 : (nI 19 = (19 : Int32)) = True := eq_true rfl
  have m0 : (nI 1 = (0 : Int32)) = False := eq_false (by decide)
  have m1 : (nI 1 = (1 : Int32)) = True := eq_true rfl
  have mv := moved_e h hf
  have hd := isHad_e h (f := f) (by omega)
  by_cases s : I' 206 (135 + f) = 1
  · rw [if_pos s] at mv
    rw [decide_eq_true s] at hd
    have b0 : Book_behind 10 0 = 0 := by decide
    have gf : in9 (nI f) 10 = True := in9_t (by omega) (by omega)
    have gm : in9 (nI (135 + f)) 451 = True := in9_t (by omega) (by omega)
    have tf : (nI f).toNatClampNeg = f := tN (by omega)
    have tm : (nI (135 + f)).toNatClampNeg = 135 + f := tN (by omega)
    have am : (135 : Int32) + nI f = nI (135 + f) := ax_135 f
    have r56 : ∀ s, up2 (up2 I 55 5 0) 192 0 s 56 = I 56 := fun s => by rw [u_o (by omega), u_o (by omega)]
    have r57 : up2 I 55 5 0 57 = I 57 := u_o (by omega)
    refine Or.inr ⟨?_, ?_, _, _, ?_, ?_, (h.up5 (v := 0) |>.up192 (v := nI f)).set_stat hf (v := 2) ⟨2, by omega, rfl⟩ (fun q => absurd q (by decide)), fun j hj => by rw [u_j (by omega)]⟩
    · simp only [↓reduceIte, Book_whyWrong, g, gt, q56, q57, c1, c2, mv, b0, Option.bind_some, Nat.reduceAdd]
    · simp only [↓reduceIte, Mod_whyLine, a1, a2, g0, g1, g2, t0, t1, q0, q1, m0, m1, hd, Option.bind_some]
    · simp only [↓reduceIte, Book_liveLine, g, gt, r56, r57, q56, q57, c1, c2, gf, tf, Option.bind_some, Nat.reduceAdd]
    · simp only [↓reduceIte, Mod_live, a1, a2, a3, g0, g1, g2, g3, t0, t1, q0, q1, m0, m1, am, gm, tm, Option.bind_some]
  · rw [if_neg s] at mv
    rw [decide_eq_false s] at hd
    have b0 : Book_behind 10 1 = 11 := by decide
    refine Or.inl ⟨11, 1, ?_, ?_, by decide, by decide, by rw [q0]; decide⟩
    · simp only [↓reduceIte, Book_whyWrong, g, gt, q56, q57, c1, c2, mv, b0, Option.bind_some, Nat.reduceAdd]
    · simp only [↓reduceIte, Mod_whyLine, a1, a2, g0, g1, g2, t0, t1, q0, q1, m0, m1, hd, Option.bind_some, Bool.false_eq_true]
theorem lv_sell (h : QR N 35 ln nP nF nE nW nH nR I I') (hk : k < 40) (q56 : I 56 k = nI 20) (q0 : I' 222 (4 * k) = nI 2) {f : Nat} (hf : f < nF) (q57 : I 57 k = nI f) (q1 : I' 222 (4 * k + 1) = nI f) : LiveR N ln nP nF nE nW nH nR k I I' := by
  have hb := h.bd
  have a1 : nI (4 * k) + 1 = nI (4 * k + 1) := nA _ 1
  have a2 : nI (4 * k) + 2 = nI (4 * k + 2) := nA _ 2
  have a3 : nI (4 * k) + 3 = nI (4 * k + 3) := nA _ 3
  have g : in9 (nI k) 40 = True := in9_t (by omega) (by omega)
  have gt : (nI k).toNatClampNeg = k := tN (by omega)
  have g0 : in9 (nI (4 * k)) 160 = True := in9_t (by omega) (by omega)
  have g1 : in9 (nI (4 * k + 1)) 160 = True := in9_t (by omega) (by omega)
  have g2 : in9 (nI (4 * k + 2)) 160 = True := in9_t (by omega) (by omega)
  have g3 : in9 (nI (4 * k + 3)) 160 = True := in9_t (by omega) (by omega)
  have t0 : (nI (4 * k)).toNatClampNeg = 4 * k := tN (by omega)
  have t1 : (nI (4 * k + 1)).toNatClampNeg = 4 * k + 1 := tN (by omega)
  have c1 : (nI 20 = (18 : Int32)) = False := eq_false (by decide)
  have c2 : (nI 20 = (19 : Int32)) = False := eq_false (by decide)
  have c3 : (nI 20 = (20 : Int32)) = True := eq_true rfl
  have m0 : (nI 2 = (0 : Int32)) = False := eq_false (by decide)
  have m1 : (nI 2 = (1 : Int32)) = False := eq_false (by decide)
  have m2 : (nI 2 = (2 : Int32)) = True := eq_true rfl
  have mv := moved_e h hf
  have hd := isHad_e h (f := f) (by omega)
  by_cases s : I' 206 (135 + f) = 1
  · rw [if_pos s] at mv
    rw [decide_eq_true s] at hd
    have b0 : Book_behind 20 0 = 0 := by decide
    have r56 : ∀ s, up2 (up2 I 55 5 0) 192 0 s 56 = I 56 := fun s => by rw [u_o (by omega), u_o (by omega)]
    have r57 : up2 I 55 5 0 57 = I 57 := u_o (by omega)
    obtain ⟨I1, I1', e1, e2, e3, e4⟩ := sell_q (h.up5 (v := 0) |>.up192 (v := nI f)) hf s
    refine Or.inr ⟨?_, ?_, I1, I1', ?_, ?_, e3, e4⟩
    · simp only [↓reduceIte, Book_whyWrong, g, gt, q56, q57, c1, c2, c3, mv, b0, Option.bind_some, Nat.reduceAdd]
    · simp only [↓reduceIte, Mod_whyLine, a1, a2, g0, g1, g2, t0, t1, q0, q1, m0, m1, m2, hd, Option.bind_some]
    · simp only [↓reduceIte, Book_liveLine, g, gt, r56, r57, q56, q57, c1, c2, c3, e1, Option.bind_some, Nat.reduceAdd]
    · simp only [↓reduceIte, Mod_live, a1, a2, a3, g0, g1, g2, g3, t0, t1, q0, q1, m0, m1, m2, e2, Option.bind_some]
  · rw [if_neg s] at mv
    rw [decide_eq_false s] at hd
    have b0 : Book_behind 20 1 = 21 := by decide
    refine Or.inl ⟨21, 1, ?_, ?_, by decide, by decide, by rw [q0]; decide⟩
    · simp only [↓reduceIte, Book_whyWrong, g, gt, q56, q57, c1, c2, c3, mv, b0, Option.bind_some, Nat.reduceAdd]
    · simp only [↓reduceIte, Mod_whyLine, a1, a2, g0, g1, g2, t0, t1, q0, q1, m0, m1, m2, hd, Option.bind_some, Bool.false_eq_true]
theorem lv_lay (h : QR N 35 ln nP nF nE nW nH nR I I') (hk : k < 40) (q56 : I 56 k = nI 21) (q0 : I' 222 (4 * k) = nI 3) {f x y : Nat} (hf : f < nF) (hx : x < 6) (hy : y < 6) (q57 : I 57 k = nI f) (q1 : I' 222 (4 * k + 1) = nI f) (q58 : I 58 k = nI x) (q2 : I' 222 (4 * k + 2) = nI x) (q59 : I 59 k = nI y) (q3 : I' 222 (4 * k + 3) = nI y) : LiveR N ln nP nF nE nW nH nR k I I' := by
  have hb := h.bd
  have a1 : nI (4 * k) + 1 = nI (4 * k + 1) := nA _ 1
  have a2 : nI (4 * k) + 2 = nI (4 * k + 2) := nA _ 2
  have a3 : nI (4 * k) + 3 = nI (4 * k + 3) := nA _ 3
  have g : in9 (nI k) 40 = True := in9_t (by omega) (by omega)
  have gt : (nI k).toNatClampNeg = k := tN (by omega)
  have g0 : in9 (nI (4 * k)) 160 = True := in9_t (by omega) (by omega)
  have g1 : in9 (nI (4 * k + 1)) 160 = True := in9_t (by omega) (by omega)
  have g2 : in9 (nI (4 * k + 2)) 160 = True := in9_t (by omega) (by omega)
  have g3 : in9 (nI (4 * k + 3)) 160 = True := in9_t (by omega) (by omega)
  have t0 : (nI (4 * k)).toNatClampNeg = 4 * k := tN (by omega)
  have t1 : (nI (4 * k + 1)).toNatClampNeg = 4 * k + 1 := tN (by omega)
  have t2 : (nI (4 * k + 2)).toNatClampNeg = 4 * k + 2 := tN (by omega)
  have t3 : (nI (4 * k + 3)).toNatClampNeg = 4 * k + 3 := tN (by omega)
  have c1 : (nI 21 = (18 : Int32)) = False := eq_false (by decide)
  have c2 : (nI 21 = (19 : Int32)) = False := eq_false (by decide)
  have c3 : (nI 21 = (20 : Int32)) = False := eq_false (by decide)
  have c4 : (nI 21 = (21 : Int32)) = True := eq_true rfl
  have m0 : (nI 3 = (0 : Int32)) = False := eq_false (by decide)
  have m1 : (nI 3 = (1 : Int32)) = False := eq_false (by decide)
  have m2 : (nI 3 = (2 : Int32)) = False := eq_false (by decide)
  have m3 : (nI 3 = (3 : Int32)) = True := eq_true rfl
  have mv := moved_e h hf
  have hd := isHad_e h (f := f) (by omega)
  rcases is_cell h (nI x) (nI y) with ⟨u1, u2, xi, yi, hxi, hyi, ex, ey⟩ | ⟨u1, u2⟩
  · have hx2 := cell_lt (by omega) (by omega) ex hxi
    have hy2 := cell_lt (by omega) (by omega) ey hyi
    by_cases s : I' 206 (135 + f) = 1
    · rw [if_pos s] at mv
      rw [decide_eq_true s] at hd
      have b0 : Book_behind 30 0 = 0 := by decide
      have r56 : ∀ s, up2 (up2 I 55 5 0) 192 0 s 56 = I 56 := fun s => by rw [u_o (by omega), u_o (by omega)]
      have r58 : ∀ s, up2 (up2 I 55 5 0) 192 0 s 58 = I 58 := fun s => by rw [u_o (by omega), u_o (by omega)]
      have r59 : ∀ s, up2 (up2 I 55 5 0) 192 0 s 59 = I 59 := fun s => by rw [u_o (by omega), u_o (by omega)]
      have r57 : up2 I 55 5 0 57 = I 57 := u_o (by omega)
      obtain ⟨I1, I1', e1, e2, e3, e4⟩ := lay_q (h.up5 (v := 0) |>.up192 (v := nI f)) hf hx2 hy2
      refine Or.inr ⟨?_, ?_, I1, I1', ?_, ?_, e3, e4⟩
      · simp only [↓reduceIte, Book_whyWrong, g, gt, q56, q57, q58, q59, c1, c2, c3, c4, u1, mv, b0, Option.bind_some, Nat.reduceAdd]
      · simp only [↓reduceIte, Mod_whyLine, a1, a2, a3, g0, g1, g2, g3, t0, t1, t2, t3, q0, q1, q2, q3, m0, m1, m2, m3, u2, hd, Option.bind_some]
      · simp only [↓reduceIte, Book_liveLine, g, gt, r56, r57, r58, r59, q56, q57, q58, q59, c1, c2, c3, c4, e1, Option.bind_some, Nat.reduceAdd]
      · simp only [↓reduceIte, Mod_live, a1, a2, a3, g0, g1, g2, g3, t0, t1, t2, t3, q0, q1, q2, q3, m0, m1, m2, m3, e2, Option.bind_some]
    · rw [if_neg s] at mv
      rw [decide_eq_false s] at hd
      have b0 : Book_behind 30 1 = 31 := by decide
      refine Or.inl ⟨31, 1, ?_, ?_, by decide, by decide, by rw [q0]; decide⟩
      · simp only [↓reduceIte, Book_whyWrong, g, gt, q56, q57, q58, q59, c1, c2, c3, c4, u1, mv, b0, Option.bind_some, Nat.reduceAdd]
      · simp only [↓reduceIte, Mod_whyLine, a1, a2, a3, g0, g1, g2, g3, t0, t1, t2, t3, q0, q1, q2, q3, m0, m1, m2, m3, u2, hd, Option.bind_some, Bool.false_eq_true]
  · refine Or.inl ⟨39, 9, ?_, ?_, by decide, by decide, by rw [q0]; decide⟩
    · simp only [↓reduceIte, Book_whyWrong, g, gt, q56, q58, q59, c1, c2, c3, c4, u1, Option.bind_some, Nat.reduceAdd, Bool.false_eq_true]
    · simp only [↓reduceIte, Mod_whyLine, a1, a2, a3, g0, g1, g2, g3, t0, t2, t3, q0, q2, q3, m0, m1, m2, m3, u2, Option.bind_some, Bool.false_eq_true]
theorem lv_give (h : QR N 35 ln nP nF nE nW nH nR I I') (hk : k < 40) (q56 : I 56 k = nI 22) (q0 : I' 222 (4 * k) = nI 4) {f p : Nat} (hf : f < nF) (hp : p < nP) (q57 : I 57 k = nI f) (q1 : I' 222 (4 * k + 1) = nI f) (q58 : I 58 k = nI p) (q2 : I' 222 (4 * k + 2) = nI p) : LiveR N ln nP nF nE nW nH nR k I I' := by
  have hb := h.bd
  have a1 : nI (4 * k) + 1 = nI (4 * k + 1) := nA _ 1
  have a2 : nI (4 * k) + 2 = nI (4 * k + 2) := nA _ 2
  have a3 : nI (4 * k) + 3 = nI (4 * k + 3) := nA _ 3
  have g : in9 (nI k) 40 = True := in9_t (by omega) (by omega)
  have gt : (nI k).toNatClampNeg = k := tN (by omega)
  have g0 : in9 (nI (4 * k)) 160 = True := in9_t (by omega) (by omega)
  have g1 : in9 (nI (4 * k + 1)) 160 = True := in9_t (by omega) (by omega)
  have g2 : in9 (nI (4 * k + 2)) 160 = True := in9_t (by omega) (by omega)
  have g3 : in9 (nI (4 * k + 3)) 160 = True := in9_t (by omega) (by omega)
  have t0 : (nI (4 * k)).toNatClampNeg = 4 * k := tN (by omega)
  have t1 : (nI (4 * k + 1)).toNatClampNeg = 4 * k + 1 := tN (by omega)
  have t2 : (nI (4 * k + 2)).toNatClampNeg = 4 * k + 2 := tN (by omega)
  have c1 : (nI 22 = (18 : Int32)) = False := eq_false (by decide)
  have c2 : (nI 22 = (19 : Int32)) = False := eq_false (by decide)
  have c3 : (nI 22 = (20 : Int32)) = False := eq_false (by decide)
  have c4 : (nI 22 = (21 : Int32)) = False := eq_false (by decide)
  have c5 : (nI 22 = (22 : Int32)) = True := eq_true rfl
  have m0 : (nI 4 = (0 : Int32)) = False := eq_false (by decide)
  have m1 : (nI 4 = (1 : Int32)) = False := eq_false (by decide)
  have m2 : (nI 4 = (2 : Int32)) = False := eq_false (by decide)
  have m3 : (nI 4 = (3 : Int32)) = False := eq_false (by decide)
  have m4 : (nI 4 = (4 : Int32)) = True := eq_true rfl
  have hd := isHad_e h (f := f) (by omega)
  have gf : in9 (nI f) 10 = True := in9_t (by omega) (by omega)
  have gm : in9 (nI (145 + f)) 451 = True := in9_t (by omega) (by omega)
  have tf : (nI f).toNatClampNeg = f := tN (by omega)
  have tm : (nI (145 + f)).toNatClampNeg = 145 + f := tN (by omega)
  have am : (145 : Int32) + nI f = nI (145 + f) := ax_145 f
  have st := h.stat_35 hf
  have wh := h.who_35 hf
  by_cases s : I' 206 (135 + f) = 1
  · have s' : (I' 206 (135 + f) = 1) = True := eq_true s
    rw [decide_eq_true s] at hd
    by_cases e : I' 206 (145 + f) = nI p
    · have e' : (I' 206 (145 + f) = nI p) = True := eq_true e
      have b0 : Book_behind 40 2 = 42 := by decide
      refine Or.inl ⟨42, 2, ?_, ?_, by decide, by decide, by rw [q0]; decide⟩
      · simp only [↓reduceIte, Book_whyWrong, State_whyNotGiven, g, gt, q56, q57, q58, c1, c2, c3, c4, c5, gf, tf, st, wh, s', e', b0, Option.bind_some, Nat.reduceAdd]
      · simp only [↓reduceIte, Mod_whyLine, a1, a2, g0, g1, g2, t0, t1, t2, q0, q1, q2, m0, m1, m2, m3, m4, hd, am, gm, tm, e', Option.bind_some]
    · have e' : (I' 206 (145 + f) = nI p) = False := eq_false e
      have b0 : Book_behind 40 0 = 0 := by decide
      have r56 : ∀ s, up2 (up2 I 55 5 0) 192 0 s 56 = I 56 := fun s => by rw [u_o (by omega), u_o (by omega)]
      have r58 : ∀ s, up2 (up2 I 55 5 0) 192 0 s 58 = I 58 := fun s => by rw [u_o (by omega), u_o (by omega)]
      have r57 : up2 I 55 5 0 57 = I 57 := u_o (by omega)
      refine Or.inr ⟨?_, ?_, _, _, ?_, ?_, (h.up5 (v := 0) |>.up192 (v := nI f)).set_who hf (v := nI p) ⟨p, hp, rfl⟩, fun j hj => by rw [u_j (by omega)]⟩
      · simp only [↓reduceIte, Book_whyWrong, State_whyNotGiven, g, gt, q56, q57, q58, c1, c2, c3, c4, c5, gf, tf, st, wh, s', e', b0, Option.bind_some, Nat.reduceAdd]
      · simp only [↓reduceIte, Mod_whyLine, a1, a2, g0, g1, g2, t0, t1, t2, q0, q1, q2, m0, m1, m2, m3, m4, hd, am, gm, tm, e', Option.bind_some]
      · simp only [↓reduceIte, Book_liveLine, g, gt, r56, r57, r58, q56, q57, q58, c1, c2, c3, c4, c5, gf, tf, Option.bind_some, Nat.reduceAdd]
      · simp only [↓reduceIte, Mod_live, a1, a2, a3, g0, g1, g2, g3, t0, t1, t2, q0, q1, q2, m0, m1, m2, m3, m4, am, gm, tm, Option.bind_some]
  · have s' : (I' 206 (135 + f) = 1) = False := eq_false s
    rw [decide_eq_false s] at hd
    have b0 : Book_behind 40 1 = 41 := by decide
    refine Or.inl ⟨41, 1, ?_, ?_, by decide, by decide, by rw [q0]; decide⟩
    · simp only [↓reduceIte, Book_whyWrong, State_whyNotGiven, g, gt, q56, q57, q58, c1, c2, c3, c4, c5, gf, tf, st, s', b0, Option.bind_some, Nat.reduceAdd]
    · simp only [↓reduceIte, Mod_whyLine, a1, a2, g0, g1, g2, t0, t1, q0, q1, m0, m1, m2, m3, m4, hd, Option.bind_some, Bool.false_eq_true]
theorem lv_pass (h : QR N 35 ln nP nF nE nW nH nR I I') (hk : k < 40) (q56 : I 56 k = nI 24) (q0 : I' 222 (4 * k) = nI 5) {v : Nat} (hv : 1 ≤ v) (hv2 : v ≤ 30) (q57 : I 57 k = nI v) (q2 : I' 222 (4 * k + 2) = nI v) : LiveR N ln nP nF nE nW nH nR k I I' := by
  have hb := h.bd
  have a1 : nI (4 * k) + 1 = nI (4 * k + 1) := nA _ 1
  have a2 : nI (4 * k) + 2 = nI (4 * k + 2) := nA _ 2
  have a3 : nI (4 * k) + 3 = nI (4 * k + 3) := nA _ 3
  have g : in9 (nI k) 40 = True := in9_t (by omega) (by omega)
  have gt : (nI k).toNatClampNeg = k := tN (by omega)
  have g0 : in9 (nI (4 * k)) 160 = True := in9_t (by omega) (by omega)
  have g1 : in9 (nI (4 * k + 1)) 160 = True := in9_t (by omega) (by omega)
  have g2 : in9 (nI (4 * k + 2)) 160 = True := in9_t (by omega) (by omega)
  have g3 : in9 (nI (4 * k + 3)) 160 = True := in9_t (by omega) (by omega)
  have t0 : (nI (4 * k)).toNatClampNeg = 4 * k := tN (by omega)
  have t2 : (nI (4 * k + 2)).toNatClampNeg = 4 * k + 2 := tN (by omega)
  have c1 : (nI 24 = (18 : Int32)) = False := eq_false (by decide)
  have c2 : (nI 24 = (19 : Int32)) = False := eq_false (by decide)
  have c3 : (nI 24 = (20 : Int32)) = False := eq_false (by decide)
  have c4 : (nI 24 = (21 : Int32)) = False := eq_false (by decide)
  have c5 : (nI 24 = (22 : Int32)) = False := eq_false (by decide)
  have c6 : (nI 24 = (23 : Int32)) = False := eq_false (by decide)
  have c7 : (nI 24 = (24 : Int32)) = True := eq_true rfl
  have m0 : (nI 5 = (0 : Int32)) = False := eq_false (by decide)
  have m1 : (nI 5 = (1 : Int32)) = False := eq_false (by decide)
  have m2 : (nI 5 = (2 : Int32)) = False := eq_false (by decide)
  have m3 : (nI 5 = (3 : Int32)) = False := eq_false (by decide)
  have m4 : (nI 5 = (4 : Int32)) = False := eq_false (by decide)
  have m5 : (nI 5 = (5 : Int32)) = True := eq_true rfl
  obtain ⟨w, w1, w2⟩ := h.v_night
  have nt : I 35 9 = nI w := h.night.trans w2
  have f1 : (nI v ≤ 400 - nI w) = (w + v ≤ 400) := by
    rw [L_400, nSb (by omega), le_nI (by omega) (by omega)]
    exact propext ⟨fun _ => by omega, fun _ => by omega⟩
  have f2 : (nI w + nI v ≤ 400) = (w + v ≤ 400) := by rw [nA, L_400, le_nI (by omega) (by omega)]
  have f0 : (nI nP = (0 : Int32)) = (nP = 0) := by rw [L_0, eq_nI (by omega) (by omega)]
  by_cases z : nP = 0
  · have z' : (nP = 0) = True := eq_true z
    refine Or.inl ⟨59, 9, ?_, ?_, by decide, by decide, by rw [q0]; decide⟩
    · simp only [↓reduceIte, Book_whyWrong, g, gt, q56, c1, c2, c3, c4, c5, c6, c7, h.cP, f0, z', Option.bind_some, Nat.reduceAdd]
    · simp only [↓reduceIte, Mod_whyLine, a1, a2, g0, g1, g2, t0, q0, m0, m1, m2, m3, m4, m5, T_0, h.mP, f0, z', Option.bind_some]
  · have z' : (nP = 0) = False := eq_false z
    by_cases y : w + v ≤ 400
    · have y' : (w + v ≤ 400) = True := eq_true y
      have r56 : ∀ s, up2 (up2 I 55 5 0) 192 0 s 56 = I 56 := fun s => by rw [u_o (by omega), u_o (by omega)]
      have r57 : up2 I 55 5 0 57 = I 57 := u_o (by omega)
      obtain ⟨x, I1, I1', e1, e2, e3, e4, e5⟩ := nights_q (h.up5 (v := 0)) (by omega) (n := v) (by omega) (s := nI v)
      refine Or.inr ⟨?_, ?_, I1, I1', ?_, ?_, e3, e5⟩
      · simp only [↓reduceIte, Book_whyWrong, g, gt, q56, q57, c1, c2, c3, c4, c5, c6, c7, h.cP, f0, z', nt, f1, y', Option.bind_some, Nat.reduceAdd]
      · simp only [↓reduceIte, Mod_whyLine, a1, a2, g0, g1, g2, t0, t2, q0, q2, m0, m1, m2, m3, m4, m5, T_0, T_102, h.mP, f0, z', w2, f2, y', Option.bind_some]
      · simp only [↓reduceIte, Book_liveLine, g, gt, r56, r57, q56, q57, c1, c2, c3, c4, c5, c6, e1, Option.bind_some, Nat.reduceAdd]
      · simp only [↓reduceIte, Mod_live, a1, a2, a3, g0, g1, g2, g3, t0, t2, q0, q2, m0, m1, m2, m3, m4, m5, e2, Option.bind_some]
    · have y' : (w + v ≤ 400) = False := eq_false y
      refine Or.inl ⟨51, 1, ?_, ?_, by decide, by decide, by rw [q0]; decide⟩
      · simp only [↓reduceIte, Book_whyWrong, g, gt, q56, q57, c1, c2, c3, c4, c5, c6, c7, h.cP, f0, z', nt, f1, y', Option.bind_some, Nat.reduceAdd]
      · simp only [↓reduceIte, Mod_whyLine, a1, a2, g0, g1, g2, t0, t2, q0, q2, m0, m1, m2, m3, m4, m5, T_0, T_102, h.mP, f0, z', w2, f2, y', Option.bind_some]
theorem lv_plough (h : QR N 35 ln nP nF nE nW nH nR I I') (hk : k < 40) (q56 : I 56 k = nI 23) (q0 : I' 222 (4 * k) = nI 6) {v : Nat} (q57 : I 57 k = nI v) (q2 : I' 222 (4 * k + 2) = nI v) : LiveR N ln nP nF nE nW nH nR k I I' := by
  have a1 : nI (4 * k) + 1 = nI (4 * k + 1) := nA _ 1
  have a2 : nI (4 * k) + 2 = nI (4 * k + 2) := nA _ 2
  have a3 : nI (4 * k) + 3 = nI (4 * k + 3) := nA _ 3
  have g : in9 (nI k) 40 = True := in9_t (by omega) (by omega)
  have gt : (nI k).toNatClampNeg = k := tN (by omega)
  have g0 : in9 (nI (4 * k)) 160 = True := in9_t (by omega) (by omega)
  have g1 : in9 (nI (4 * k + 1)) 160 = True := in9_t (by omega) (by omega)
  have g2 : in9 (nI (4 * k + 2)) 160 = True := in9_t (by omega) (by omega)
  have g3 : in9 (nI (4 * k + 3)) 160 = True := in9_t (by omega) (by omega)
  have t0 : (nI (4 * k)).toNatClampNeg = 4 * k := tN (by omega)
  have t2 : (nI (4 * k + 2)).toNatClampNeg = 4 * k + 2 := tN (by omega)
  have c1 : (nI 23 = (18 : Int32)) = False := eq_false (by decide)
  have c2 : (nI 23 = (19 : Int32)) = False := eq_false (by decide)
  have c3 : (nI 23 = (20 : Int32)) = False := eq_false (by decide)
  have c4 : (nI 23 = (21 : Int32)) = False := eq_false (by decide)
  have c5 : (nI 23 = (22 : Int32)) = False := eq_false (by decide)
  have c6 : (nI 23 = (23 : Int32)) = True := eq_true rfl
  have m0 : (nI 6 = (0 : Int32)) = False := eq_false (by decide)
  have m1 : (nI 6 = (1 : Int32)) = False := eq_false (by decide)
  have m2 : (nI 6 = (2 : Int32)) = False := eq_false (by decide)
  have m3 : (nI 6 = (3 : Int32)) = False := eq_false (by decide)
  have m4 : (nI 6 = (4 : Int32)) = False := eq_false (by decide)
  have m5 : (nI 6 = (5 : Int32)) = False := eq_false (by decide)
  have r56 : ∀ s, up2 (up2 I 55 5 0) 192 0 s 56 = I 56 := fun s => by rw [u_o (by omega), u_o (by omega)]
  have r57 : up2 I 55 5 0 57 = I 57 := u_o (by omega)
  obtain ⟨x, I1, I1', e1, e2, e3, e4, e5⟩ := turn_q ((h.up5 (v := 0)).seed (s := nI v) (s' := nI v)) (u_s.trans u_s.symm)
  refine Or.inr ⟨?_, ?_, I1, I1', ?_, ?_, e3, fun j hj => by rw [e5 j hj, u_o (by omega)]⟩
  · simp only [↓reduceIte, Book_whyWrong, g, gt, q56, c1, c2, c3, c4, c5, c6, Option.bind_some, Nat.reduceAdd]
  · simp only [↓reduceIte, Mod_whyLine, a1, a2, g0, g1, g2, t0, q0, m0, m1, m2, m3, m4, m5, Option.bind_some]
  · simp only [↓reduceIte, Book_liveLine, g, gt, r56, r57, q56, q57, c1, c2, c3, c4, c5, c6, e1, Option.bind_some, Nat.reduceAdd]
  · simp only [↓reduceIte, Mod_live, a1, a2, a3, g0, g1, g2, g3, t0, t2, q0, q2, m0, m1, m2, m3, m4, m5, e2, Option.bind_some]
theorem live_1 (h : QR N 35 ln nP nF nE nW nH nR I I') (hk : k < 40) (hl : LnR nP nF k I I') : LiveR N ln nP nF nE nW nH nR k I I' := by
  rcases hl with ⟨a, c, p, x, y, h1, h2, h3, h4, h5, h6, h7, h8, h9⟩ | ⟨a, c, f, h1, h2, h3⟩ | ⟨a, c, f, h1, h2, h3⟩ | ⟨a, c, f, x, y, h1, h2, h3, h4, h5, h6, h7, h8, h9⟩ | ⟨a, c, f, p, h1, h2, h3, h4, h5, h6⟩ | ⟨a, c, v, h1, h2, h3, h4⟩ | ⟨a, c, v, h1, h2, h3⟩
  · exact lv_dig h hk a c h1 h2 h3 h4 h5 h6 h7 h8 h9
  · exact lv_tell h hk a c h1 h2 h3
  · exact lv_sell h hk a c h1 h2 h3
  · exact lv_lay h hk a c h1 h2 h3 h4 h5 h6 h7 h8 h9
  · exact lv_give h hk a c h1 h2 h3 h4 h5 h6
  · exact lv_pass h hk a c h1 h2 h3 h4
  · exact lv_plough h hk a c h2 h3
end Q69

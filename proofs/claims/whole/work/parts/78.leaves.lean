/-! what a sentence says: leaves, both sides -/
section Q78
variable {N a b ln sp sn ss nP nF nE nW nH nR : Nat} {I I' : FI} {J J' : FJ} {s f : Nat}
/-- two numbers compared by a sign -/
def cmpB (c : Nat) (x y : Int32) : Bool := if c = 60 then decide (¬ y ≤ x) else if c = 61 then decide (x = y) else decide (¬ x ≤ y)
theorem cmp_b {c v : Nat} {x : Int32} (hs : s < 40) (hc : c = 60 ∨ c = 61 ∨ c = 62) (h1 : I (a + 2) s = nI c) (h2 : I (a + 3) s = nI v) : Sentence_compares a x (nI s) I = some (cmpB c x (nI v)) := by
  have G : in9 (nI s) 40 = True := in9_t (by omega) (by omega)
  have T : (nI s).toNatClampNeg = s := tN (by omega)
  unfold Sentence_compares cmpB
  rcases hc with rfl | rfl | rfl
  · have w1 : (nI 60 = (60 : Int32)) = True := eq_true rfl
    simp only [↓reduceIte, G, T, h1, h2, w1]
    by_cases e : nI v ≤ x
    · rw [if_pos e, decide_eq_false (fun q => q e)]
    · rw [if_neg e, decide_eq_true e]
  · have w1 : (nI 61 = (60 : Int32)) = False := eq_false (by decide)
    have w2 : (nI 61 = (61 : Int32)) = True := eq_true rfl
    have w3 : (61 = 60) = False := eq_false (by decide)
    simp only [↓reduceIte, G, T, h1, h2, w1, w2, w3]
    by_cases e : x = nI v
    · rw [if_pos e, decide_eq_true e]
    · rw [if_neg e, decide_eq_false e]
  · have w1 : (nI 62 = (60 : Int32)) = False := eq_false (by decide)
    have w2 : (nI 62 = (61 : Int32)) = False := eq_false (by decide)
    have w3 : (62 = 60) = False := eq_false (by decide)
    have w4 : (62 = 61) = False := eq_false (by decide)
    simp only [↓reduceIte, G, T, h1, h2, w1, w2, w3, w4]
    by_cases e : x ≤ nI v
    · rw [if_pos e, decide_eq_false (fun q => q e)]
    · rw [if_neg e, decide_eq_true e]
theorem cmp_m {c : Nat} {x y : Int32} (hc : c = 60 ∨ c = 61 ∨ c = 62) : (if nI c = 60 then (if y ≤ x then (some false) else (some true)) else (if nI c = 61 then (if x = y then (some true) else (some false)) else (if x ≤ y then (some false) else (some true)))) = some (cmpB c x y) := by
  unfold cmpB
  rcases hc with rfl | rfl | rfl
  · rw [if_pos (show nI 60 = (60 : Int32) from rfl), if_pos (show 60 = 60 from rfl)]
    by_cases e : y ≤ x
    · rw [if_pos e, decide_eq_false (fun q => q e)]
    · rw [if_neg e, decide_eq_true e]
  · rw [if_neg (show ¬ nI 61 = (60 : Int32) by decide), if_pos (show nI 61 = (61 : Int32) from rfl), if_neg (show ¬ 61 = 60 by decide), if_pos rfl]
    by_cases e : x = y
    · rw [if_pos e, decide_eq_true e]
    · rw [if_neg e, decide_eq_false e]
  · rw [if_neg (show ¬ nI 62 = (60 : Int32) by decide), if_neg (show ¬ nI 62 = (61 : Int32) by decide), if_neg (show ¬ 62 = 60 by decide), if_neg (show ¬ 62 = 61 by decide)]
    by_cases e : x ≤ y
    · rw [if_pos e, decide_eq_false (fun q => q e)]
    · rw [if_neg e, decide_eq_true e]
theorem ifB {x y : Int32} : (if x = y then some true else some false) = some (decide (x = y)) := by
  by_cases e : x = y
  · rw [if_pos e, decide_eq_true e]
  · rw [if_neg e, decide_eq_false e]
theorem lf_8 (h : QR N 25 ln nP nF nE nW nH nR I I') (hs : s < 40) (hf : f < nF) (q1 : I (a + 1) s = nI 8) (q2 : I' 206 (211 + 4 * s) = nI 76) : ∃ q : Bool, Sentence_holds a ln 25 (nI s) (nI f) I = some q ∧ ∀ R, Mod_holds R N (nI s) (nI f) I' = some q := by
  have hb := h.bd
  have G : in9 (nI s) 40 = True := in9_t (by omega) (by omega)
  have T : (nI s).toNatClampNeg = s := tN (by omega)
  have Gf : in9 (nI f) 10 = True := in9_t (by omega) (by omega)
  have Tf : (nI f).toNatClampNeg = f := tN (by omega)
  have m4 : 4 * nI s = nI (4 * s) := mx_4 s
  have a1 : nI (211 + 4 * s) + 1 = nI (211 + 4 * s + 1) := nA _ 1
  have a2 : nI (211 + 4 * s) + 2 = nI (211 + 4 * s + 2) := nA _ 2
  have a3 : nI (211 + 4 * s) + 3 = nI (211 + 4 * s + 3) := nA _ 3
  have i0 : in9 (nI (211 + 4 * s)) 451 = True := in9_t (by omega) (by omega)
  have i1 : in9 (nI (211 + 4 * s + 1)) 451 = True := in9_t (by omega) (by omega)
  have i2 : in9 (nI (211 + 4 * s + 2)) 451 = True := in9_t (by omega) (by omega)
  have i3 : in9 (nI (211 + 4 * s + 3)) 451 = True := in9_t (by omega) (by omega)
  have t0 : (nI (211 + 4 * s)).toNatClampNeg = 211 + 4 * s := tN (by omega)
  have t1 : (nI (211 + 4 * s + 1)).toNatClampNeg = 211 + 4 * s + 1 := tN (by omega)
  have t2 : (nI (211 + 4 * s + 2)).toNatClampNeg = 211 + 4 * s + 2 := tN (by omega)
  have t3 : (nI (211 + 4 * s + 3)).toNatClampNeg = 211 + 4 * s + 3 := tN (by omega)
  have c30 : in9 (nI (30 + f)) 451 = True := in9_t (by omega) (by omega)
  have d30 : (nI (30 + f)).toNatClampNeg = 30 + f := tN (by omega)
  have x19 : (nI 8 = (19 : Int32)) = False := eq_false (by decide)
  have x20 : (nI 8 = (20 : Int32)) = False := eq_false (by decide)
  have x21 : (nI 8 = (21 : Int32)) = False := eq_false (by decide)
  have x22 : (nI 8 = (22 : Int32)) = False := eq_false (by decide)
  have x23 : (nI 8 = (23 : Int32)) = False := eq_false (by decide)
  have x24 : (nI 8 = (24 : Int32)) = False := eq_false (by decide)
  have x25 : (nI 8 = (25 : Int32)) = False := eq_false (by decide)
  have x26 : (nI 8 = (26 : Int32)) = False := eq_false (by decide)
  have x27 : (nI 8 = (27 : Int32)) = False := eq_false (by decide)
  have x28 : (nI 8 = (28 : Int32)) = False := eq_false (by decide)
  have x29 : (nI 8 = (29 : Int32)) = False := eq_false (by decide)
  have x30 : (nI 8 = (30 : Int32)) = False := eq_false (by decide)
  have x31 : (nI 8 = (31 : Int32)) = False := eq_false (by decide)
  have x32 : (nI 8 = (32 : Int32)) = False := eq_false (by decide)
  have x33 : (nI 8 = (33 : Int32)) = False := eq_false (by decide)
  have x34 : (nI 8 = (34 : Int32)) = False := eq_false (by decide)
  have x8 : (nI 8 < (8 : Int32)) = False := eq_false (by decide)
  have x11 : ((11 : Int32) < nI 8) = False := eq_false (by decide)
  have y1 : (nI 76 = (1 : Int32)) = False := eq_false (by decide)
  have y2 : (nI 76 = (2 : Int32)) = False := eq_false (by decide)
  have y3 : (nI 76 = (3 : Int32)) = False := eq_false (by decide)
  have y72 : (nI 76 = (72 : Int32)) = False := eq_false (by decide)
  have y73 : (nI 76 = (73 : Int32)) = False := eq_false (by decide)
  have y74 : (nI 76 = (74 : Int32)) = False := eq_false (by decide)
  have y75 : (nI 76 = (75 : Int32)) = False := eq_false (by decide)
  have y76 : (nI 76 = (76 : Int32)) = True := eq_true rfl
  have fe := fact_e h hf (w := 0) (by omega)
  have fe' : Land_factOf ln (nI f) 0 I = some (I' 206 (30 + f)) := by rw [← h.f_kind hf]; exact fe
  have k1 : nI 8 - 8 = nI 0 := by decide
  have k2 : nI 76 - 50 - 26 = nI 0 := by decide
  refine ⟨decide (I' 206 (30 + f) = nI 0), ?_, fun R => ?_⟩
  · simp only [↓reduceIte, Sentence_holds, G, T, Gf, Tf, q1, Nat.reduceAdd, Option.bind_some, x19, x20, x21, x22, x23, x24, x25, x26, x27, x28, x29, x30, x31, x32, x33, x34, x8, x11, fe', k1, ifB]
  · simp only [↓reduceIte, Mod_holds, m4, ax_211, a1, a2, i0, i1, i2, t0, q2, Option.bind_some, y1, y2, y3, y72, y73, y74, y75, y76, ax_30, c30, d30, k2, ifB]
theorem lf_9 (h : QR N 25 ln nP nF nE nW nH nR I I') (hs : s < 40) (hf : f < nF) (q1 : I (a + 1) s = nI 9) (q2 : I' 206 (211 + 4 * s) = nI 77) : ∃ q : Bool, Sentence_holds a ln 25 (nI s) (nI f) I = some q ∧ ∀ R, Mod_holds R N (nI s) (nI f) I' = some q := by
  have hb := h.bd
  have G : in9 (nI s) 40 = True := in9_t (by omega) (by omega)
  have T : (nI s).toNatClampNeg = s := tN (by omega)
  have Gf : in9 (nI f) 10 = True := in9_t (by omega) (by omega)
  have Tf : (nI f).toNatClampNeg = f := tN (by omega)
  have m4 : 4 * nI s = nI (4 * s) := mx_4 s
  have a1 : nI (211 + 4 * s) + 1 = nI (211 + 4 * s + 1) := nA _ 1
  have a2 : nI (211 + 4 * s) + 2 = nI (211 + 4 * s + 2) := nA _ 2
  have a3 : nI (211 + 4 * s) + 3 = nI (211 + 4 * s + 3) := nA _ 3
  have i0 : in9 (nI (211 + 4 * s)) 451 = True := in9_t (by omega) (by omega)
  have i1 : in9 (nI (211 + 4 * s + 1)) 451 = True := in9_t (by omega) (by omega)
  have i2 : in9 (nI (211 + 4 * s + 2)) 451 = True := in9_t (by omega) (by omega)
  have i3 : in9 (nI (211 + 4 * s + 3)) 451 = True := in9_t (by omega) (by omega)
  have t0 : (nI (211 + 4 * s)).toNatClampNeg = 211 + 4 * s := tN (by omega)
  have t1 : (nI (211 + 4 * s + 1)).toNatClampNeg = 211 + 4 * s + 1 := tN (by omega)
  have t2 : (nI (211 + 4 * s + 2)).toNatClampNeg = 211 + 4 * s + 2 := tN (by omega)
  have t3 : (nI (211 + 4 * s + 3)).toNatClampNeg = 211 + 4 * s + 3 := tN (by omega)
  have c30 : in9 (nI (30 + f)) 451 = True := in9_t (by omega) (by omega)
  have d30 : (nI (30 + f)).toNatClampNeg = 30 + f := tN (by omega)
  have x19 : (nI 9 = (19 : Int32)) = False := eq_false (by decide)
  have x20 : (nI 9 = (20 : Int32)) = False := eq_false (by decide)
  have x21 : (nI 9 = (21 : Int32)) = False := eq_false (by decide)
  have x22 : (nI 9 = (22 : Int32)) = False := eq_false (by decide)
  have x23 : (nI 9 = (23 : Int32)) = False := eq_false (by decide)
  have x24 : (nI 9 = (24 : Int32)) = False := eq_false (by decide)
  have x25 : (nI 9 = (25 : Int32)) = False := eq_false (by decide)
  have x26 : (nI 9 = (26 : Int32)) = False := eq_false (by decide)
  have x27 : (nI 9 = (27 : Int32)) = False := eq_false (by decide)
  have x28 : (nI 9 = (28 : Int32)) = False := eq_false (by decide)
  have x29 : (nI 9 = (29 : Int32)) = False := eq_false (by decide)
  have x30 : (nI 9 = (30 : Int32)) = False := eq_false (by decide)
  have x31 : (nI 9 = (31 : Int32)) = False := eq_false (by decide)
  have x32 : (nI 9 = (32 : Int32)) = False := eq_false (by decide)
  have x33 : (nI 9 = (33 : Int32)) = False := eq_false (by decide)
  have x34 : (nI 9 = (34 : Int32)) = False := eq_false (by decide)
  have x8 : (nI 9 < (8 : Int32)) = False := eq_false (by decide)
  have x11 : ((11 : Int32) < nI 9) = False := eq_false (by decide)
  have y1 : (nI 77 = (1 : Int32)) = False := eq_false (by decide)
  have y2 : (nI 77 = (2 : Int32)) = False := eq_false (by decide)
  have y3 : (nI 77 = (3 : Int32)) = False := eq_false (by decide)
  have y72 : (nI 77 = (72 : Int32)) = False := eq_false (by decide)
  have y73 : (nI 77 = (73 : Int32)) = False := eq_false (by decide)
  have y74 : (nI 77 = (74 : Int32)) = False := eq_false (by decide)
  have y75 : (nI 77 = (75 : Int32)) = False := eq_false (by decide)
  have y76 : (nI 77 = (76 : Int32)) = False := eq_false (by decide)
  have y77 : (nI 77 = (77 : Int32)) = True := eq_true rfl
  have fe := fact_e h hf (w := 0) (by omega)
  have fe' : Land_factOf ln (nI f) 0 I = some (I' 206 (30 + f)) := by rw [← h.f_kind hf]; exact fe
  have k1 : nI 9 - 8 = nI 1 := by decide
  have k2 : nI 77 - 50 - 26 = nI 1 := by decide
  refine ⟨decide (I' 206 (30 + f) = nI 1), ?_, fun R => ?_⟩
  · simp only [↓reduceIte, Sentence_holds, G, T, Gf, Tf, q1, Nat.reduceAdd, Option.bind_some, x19, x20, x21, x22, x23, x24, x25, x26, x27, x28, x29, x30, x31, x32, x33, x34, x8, x11, fe', k1, ifB]
  · simp only [↓reduceIte, Mod_holds, m4, ax_211, a1, a2, i0, i1, i2, t0, q2, Option.bind_some, y1, y2, y3, y72, y73, y74, y75, y76, y77, ax_30, c30, d30, k2, ifB]
theorem lf_10 (h : QR N 25 ln nP nF nE nW nH nR I I') (hs : s < 40) (hf : f < nF) (q1 : I (a + 1) s = nI 10) (q2 : I' 206 (211 + 4 * s) = nI 78) : ∃ q : Bool, Sentence_holds a ln 25 (nI s) (nI f) I = some q ∧ ∀ R, Mod_holds R N (nI s) (nI f) I' = some q := by
  have hb := h.bd
  have G : in9 (nI s) 40 = True := in9_t (by omega) (by omega)
  have T : (nI s).toNatClampNeg = s := tN (by omega)
  have Gf : in9 (nI f) 10 = True := in9_t (by omega) (by omega)
  have Tf : (nI f).toNatClampNeg = f := tN (by omega)
  have m4 : 4 * nI s = nI (4 * s) := mx_4 s
  have a1 : nI (211 + 4 * s) + 1 = nI (211 + 4 * s + 1) := nA _ 1
  have a2 : nI (211 + 4 * s) + 2 = nI (211 + 4 * s + 2) := nA _ 2
  have a3 : nI (211 + 4 * s) + 3 = nI (211 + 4 * s + 3) := nA _ 3
  have i0 : in9 (nI (211 + 4 * s)) 451 = True := in9_t (by omega) (by omega)
  have i1 : in9 (nI (211 + 4 * s + 1)) 451 = True := in9_t (by omega) (by omega)
  have i2 : in9 (nI (211 + 4 * s + 2)) 451 = True := in9_t (by omega) (by omega)
  have i3 : in9 (nI (211 + 4 * s + 3)) 451 = True := in9_t (by omega) (by omega)
  have t0 : (nI (211 + 4 * s)).toNatClampNeg = 211 + 4 * s := tN (by omega)
  have t1 : (nI (211 + 4 * s + 1)).toNatClampNeg = 211 + 4 * s + 1 := tN (by omega)
  have t2 : (nI (211 + 4 * s + 2)).toNatClampNeg = 211 + 4 * s + 2 := tN (by omega)
  have t3 : (nI (211 + 4 * s + 3)).toNatClampNeg = 211 + 4 * s + 3 := tN (by omega)
  have c30 : in9 (nI (30 + f)) 451 = True := in9_t (by omega) (by omega)
  have d30 : (nI (30 + f)).toNatClampNeg = 30 + f := tN (by omega)
  have x19 : (nI 10 = (19 : Int32)) = False := eq_false (by decide)
  have x20 : (nI 10 = (20 : Int32)) = False := eq_false (by decide)
  have x21 : (nI 10 = (21 : Int32)) = False := eq_false (by decide)
  have x22 : (nI 10 = (22 : Int32)) = False := eq_false (by decide)
  have x23 : (nI 10 = (23 : Int32)) = False := eq_false (by decide)
  have x24 : (nI 10 = (24 : Int32)) = False := eq_false (by decide)
  have x25 : (nI 10 = (25 : Int32)) = False := eq_false (by decide)
  have x26 : (nI 10 = (26 : Int32)) = False := eq_false (by decide)
  have x27 : (nI 10 = (27 : Int32)) = False := eq_false (by decide)
  have x28 : (nI 10 = (28 : Int32)) = False := eq_false (by decide)
  have x29 : (nI 10 = (29 : Int32)) = False := eq_false (by decide)
  have x30 : (nI 10 = (30 : Int32)) = False := eq_false (by decide)
  have x31 : (nI 10 = (31 : Int32)) = False := eq_false (by decide)
  have x32 : (nI 10 = (32 : Int32)) = False := eq_false (by decide)
  have x33 : (nI 10 = (33 : Int32)) = False := eq_false (by decide)
  have x34 : (nI 10 = (34 : Int32)) = False := eq_false (by decide)
  have x8 : (nI 10 < (8 : Int32)) = False := eq_false (by decide)
  have x11 : ((11 : Int32) < nI 10) = False := eq_false (by decide)
  have y1 : (nI 78 = (1 : Int32)) = False := eq_false (by decide)
  have y2 : (nI 78 = (2 : Int32)) = False := eq_false (by decide)
  have y3 : (nI 78 = (3 : Int32)) = False := eq_false (by decide)
  have y72 : (nI 78 = (72 : Int32)) = False := eq_false (by decide)
  have y73 : (nI 78 = (73 : Int32)) = False := eq_false (by decide)
  have y74 : (nI 78 = (74 : Int32)) = False := eq_false (by decide)
  have y75 : (nI 78 = (75 : Int32)) = False := eq_false (by decide)
  have y76 : (nI 78 = (76 : Int32)) = False := eq_false (by decide)
  have y77 : (nI 78 = (77 : Int32)) = False := eq_false (by decide)
  have y78 : (nI 78 = (78 : Int32)) = True := eq_true rfl
  have fe := fact_e h hf (w := 0) (by omega)
  have fe' : Land_factOf ln (nI f) 0 I = some (I' 206 (30 + f)) := by rw [← h.f_kind hf]; exact fe
  have k1 : nI 10 - 8 = nI 2 := by decide
  have k2 : nI 78 - 50 - 26 = nI 2 := by decide
  refine ⟨decide (I' 206 (30 + f) = nI 2), ?_, fun R => ?_⟩
  · simp only [↓reduceIte, Sentence_holds, G, T, Gf, Tf, q1, Nat.reduceAdd, Option.bind_some, x19, x20, x21, x22, x23, x24, x25, x26, x27, x28, x29, x30, x31, x32, x33, x34, x8, x11, fe', k1, ifB]
  · simp only [↓reduceIte, Mod_holds, m4, ax_211, a1, a2, i0, i1, i2, t0, q2, Option.bind_some, y1, y2, y3, y72, y73, y74, y75, y76, y77, y78, ax_30, c30, d30, k2, ifB]
theorem lf_11 (h : QR N 25 ln nP nF nE nW nH nR I I') (hs : s < 40) (hf : f < nF) (q1 : I (a + 1) s = nI 11) (q2 : I' 206 (211 + 4 * s) = nI 79) : ∃ q : Bool, Sentence_holds a ln 25 (nI s) (nI f) I = some q ∧ ∀ R, Mod_holds R N (nI s) (nI f) I' = some q := by
  have hb := h.bd
  have G : in9 (nI s) 40 = True := in9_t (by omega) (by omega)
  have T : (nI s).toNatClampNeg = s := tN (by omega)
  have Gf : in9 (nI f) 10 = True := in9_t (by omega) (by omega)
  have Tf : (nI f).toNatClampNeg = f := tN (by omega)
  have m4 : 4 * nI s = nI (4 * s) := mx_4 s
  have a1 : nI (211 + 4 * s) + 1 = nI (211 + 4 * s + 1) := nA _ 1
  have a2 : nI (211 + 4 * s) + 2 = nI (211 + 4 * s + 2) := nA _ 2
  have a3 : nI (211 + 4 * s) + 3 = nI (211 + 4 * s + 3) := nA _ 3
  have i0 : in9 (nI (211 + 4 * s)) 451 = True := in9_t (by omega) (by omega)
  have i1 : in9 (nI (211 + 4 * s + 1)) 451 = True := in9_t (by omega) (by omega)
  have i2 : in9 (nI (211 + 4 * s + 2)) 451 = True := in9_t (by omega) (by omega)
  have i3 : in9 (nI (211 + 4 * s + 3)) 451 = True := in9_t (by omega) (by omega)
  have t0 : (nI (211 + 4 * s)).toNatClampNeg = 211 + 4 * s := tN (by omega)
  have t1 : (nI (211 + 4 * s + 1)).toNatClampNeg = 211 + 4 * s + 1 := tN (by omega)
  have t2 : (nI (211 + 4 * s + 2)).toNatClampNeg = 211 + 4 * s + 2 := tN (by omega)
  have t3 : (nI (211 + 4 * s + 3)).toNatClampNeg = 211 + 4 * s + 3 := tN (by omega)
  have c30 : in9 (nI (30 + f)) 451 = True := in9_t (by omega) (by omega)
  have d30 : (nI (30 + f)).toNatClampNeg = 30 + f := tN (by omega)
  have x19 : (nI 11 = (19 : Int32)) = False := eq_false (by decide)
  have x20 : (nI 11 = (20 : Int32)) = False := eq_false (by decide)
  have x21 : (nI 11 = (21 : Int32)) = False := eq_false (by decide)
  have x22 : (nI 11 = (22 : Int32)) = False := eq_false (by decide)
  have x23 : (nI 11 = (23 : Int32)) = False := eq_false (by decide)
  have x24 : (nI 11 = (24 : Int32)) = False := eq_false (by decide)
  have x25 : (nI 11 = (25 : Int32)) = False := eq_false (by decide)
  have x26 : (nI 11 = (26 : Int32)) = False := eq_false (by decide)
  have x27 : (nI 11 = (27 : Int32)) = False := eq_false (by decide)
  have x28 : (nI 11 = (28 : Int32)) = False := eq_false (by decide)
  have x29 : (nI 11 = (29 : Int32)) = False := eq_false (by decide)
  have x30 : (nI 11 = (30 : Int32)) = False := eq_false (by decide)
  have x31 : (nI 11 = (31 : Int32)) = False := eq_false (by decide)
  have x32 : (nI 11 = (32 : Int32)) = False := eq_false (by decide)
  have x33 : (nI 11 = (33 : Int32)) = False := eq_false (by decide)
  have x34 : (nI 11 = (34 : Int32)) = False := eq_false (by decide)
  have x8 : (nI 11 < (8 : Int32)) = False := eq_false (by decide)
  have x11 : ((11 : Int32) < nI 11) = False := eq_false (by decide)
  have y1 : (nI 79 = (1 : Int32)) = False := eq_false (by decide)
  have y2 : (nI 79 = (2 : Int32)) = False := eq_false (by decide)
  have y3 : (nI 79 = (3 : Int32)) = False := eq_false (by decide)
  have y72 : (nI 79 = (72 : Int32)) = False := eq_false (by decide)
  have y73 : (nI 79 = (73 : Int32)) = False := eq_false (by decide)
  have y74 : (nI 79 = (74 : Int32)) = False := eq_false (by decide)
  have y75 : (nI 79 = (75 : Int32)) = False := eq_false (by decide)
  have y76 : (nI 79 = (76 : Int32)) = False := eq_false (by decide)
  have y77 : (nI 79 = (77 : Int32)) = False := eq_false (by decide)
  have y78 : (nI 79 = (78 : Int32)) = False := eq_false (by decide)
  have y79 : (nI 79 = (79 : Int32)) = True := eq_true rfl
  have fe := fact_e h hf (w := 0) (by omega)
  have fe' : Land_factOf ln (nI f) 0 I = some (I' 206 (30 + f)) := by rw [← h.f_kind hf]; exact fe
  have k1 : nI 11 - 8 = nI 3 := by decide
  have k2 : nI 79 - 50 - 26 = nI 3 := by decide
  refine ⟨decide (I' 206 (30 + f) = nI 3), ?_, fun R => ?_⟩
  · simp only [↓reduceIte, Sentence_holds, G, T, Gf, Tf, q1, Nat.reduceAdd, Option.bind_some, x19, x20, x21, x22, x23, x24, x25, x26, x27, x28, x29, x30, x31, x32, x33, x34, x8, x11, fe', k1, ifB]
  · simp only [↓reduceIte, Mod_holds, m4, ax_211, a1, a2, i0, i1, i2, t0, q2, Option.bind_some, y1, y2, y3, y72, y73, y74, y75, y76, y77, y78, y79, ax_30, c30, d30, k2, ifB]
theorem lf_19 (h : QR N 25 ln nP nF nE nW nH nR I I') (hs : s < 40) (hf : f < nF) (q1 : I (a + 1) s = nI 19) (q2 : I' 206 (211 + 4 * s) = nI 74) : ∃ q : Bool, Sentence_holds a ln 25 (nI s) (nI f) I = some q ∧ ∀ R, Mod_holds R N (nI s) (nI f) I' = some q := by
  have hb := h.bd
  have G : in9 (nI s) 40 = True := in9_t (by omega) (by omega)
  have T : (nI s).toNatClampNeg = s := tN (by omega)
  have Gf : in9 (nI f) 10 = True := in9_t (by omega) (by omega)
  have Tf : (nI f).toNatClampNeg = f := tN (by omega)
  have m4 : 4 * nI s = nI (4 * s) := mx_4 s
  have a1 : nI (211 + 4 * s) + 1 = nI (211 + 4 * s + 1) := nA _ 1
  have a2 : nI (211 + 4 * s) + 2 = nI (211 + 4 * s + 2) := nA _ 2
  have a3 : nI (211 + 4 * s) + 3 = nI (211 + 4 * s + 3) := nA _ 3
  have i0 : in9 (nI (211 + 4 * s)) 451 = True := in9_t (by omega) (by omega)
  have i1 : in9 (nI (211 + 4 * s + 1)) 451 = True := in9_t (by omega) (by omega)
  have i2 : in9 (nI (211 + 4 * s + 2)) 451 = True := in9_t (by omega) (by omega)
  have i3 : in9 (nI (211 + 4 * s + 3)) 451 = True := in9_t (by omega) (by omega)
  have t0 : (nI (211 + 4 * s)).toNatClampNeg = 211 + 4 * s := tN (by omega)
  have t1 : (nI (211 + 4 * s + 1)).toNatClampNeg = 211 + 4 * s + 1 := tN (by omega)
  have t2 : (nI (211 + 4 * s + 2)).toNatClampNeg = 211 + 4 * s + 2 := tN (by omega)
  have t3 : (nI (211 + 4 * s + 3)).toNatClampNeg = 211 + 4 * s + 3 := tN (by omega)
  have c135 : in9 (nI (135 + f)) 451 = True := in9_t (by omega) (by omega)
  have d135 : (nI (135 + f)).toNatClampNeg = 135 + f := tN (by omega)
  have x19 : (nI 19 = (19 : Int32)) = True := eq_true rfl
  have y1 : (nI 74 = (1 : Int32)) = False := eq_false (by decide)
  have y2 : (nI 74 = (2 : Int32)) = False := eq_false (by decide)
  have y3 : (nI 74 = (3 : Int32)) = False := eq_false (by decide)
  have y72 : (nI 74 = (72 : Int32)) = False := eq_false (by decide)
  have y73 : (nI 74 = (73 : Int32)) = False := eq_false (by decide)
  have y74 : (nI 74 = (74 : Int32)) = True := eq_true rfl
  have se := h.stat_25 hf
  refine ⟨decide (I' 206 (135 + f) = 2), ?_, fun R => ?_⟩
  · simp only [↓reduceIte, Sentence_holds, G, T, Gf, Tf, q1, Nat.reduceAdd, Option.bind_some, x19, se, ifB]
  · simp only [↓reduceIte, Mod_holds, m4, ax_211, a1, a2, i0, i1, i2, t0, q2, Option.bind_some, y1, y2, y3, y72, y73, y74, ax_135, c135, d135, ifB]
theorem lf_20 (h : QR N 25 ln nP nF nE nW nH nR I I') (hs : s < 40) (hf : f < nF) (q1 : I (a + 1) s = nI 20) (q2 : I' 206 (211 + 4 * s) = nI 75) : ∃ q : Bool, Sentence_holds a ln 25 (nI s) (nI f) I = some q ∧ ∀ R, Mod_holds R N (nI s) (nI f) I' = some q := by
  have hb := h.bd
  have G : in9 (nI s) 40 = True := in9_t (by omega) (by omega)
  have T : (nI s).toNatClampNeg = s := tN (by omega)
  have Gf : in9 (nI f) 10 = True := in9_t (by omega) (by omega)
  have Tf : (nI f).toNatClampNeg = f := tN (by omega)
  have m4 : 4 * nI s = nI (4 * s) := mx_4 s
  have a1 : nI (211 + 4 * s) + 1 = nI (211 + 4 * s + 1) := nA _ 1
  have a2 : nI (211 + 4 * s) + 2 = nI (211 + 4 * s + 2) := nA _ 2
  have a3 : nI (211 + 4 * s) + 3 = nI (211 + 4 * s + 3) := nA _ 3
  have i0 : in9 (nI (211 + 4 * s)) 451 = True := in9_t (by omega) (by omega)
  have i1 : in9 (nI (211 + 4 * s + 1)) 451 = True := in9_t (by omega) (by omega)
  have i2 : in9 (nI (211 + 4 * s + 2)) 451 = True := in9_t (by omega) (by omega)
  have i3 : in9 (nI (211 + 4 * s + 3)) 451 = True := in9_t (by omega) (by omega)
  have t0 : (nI (211 + 4 * s)).toNatClampNeg = 211 + 4 * s := tN (by omega)
  have t1 : (nI (211 + 4 * s + 1)).toNatClampNeg = 211 + 4 * s + 1 := tN (by omega)
  have t2 : (nI (211 + 4 * s + 2)).toNatClampNeg = 211 + 4 * s + 2 := tN (by omega)
  have t3 : (nI (211 + 4 * s + 3)).toNatClampNeg = 211 + 4 * s + 3 := tN (by omega)
  have c135 : in9 (nI (135 + f)) 451 = True := in9_t (by omega) (by omega)
  have d135 : (nI (135 + f)).toNatClampNeg = 135 + f := tN (by omega)
  have x19 : (nI 20 = (19 : Int32)) = False := eq_false (by decide)
  have x20 : (nI 20 = (20 : Int32)) = True := eq_true rfl
  have y1 : (nI 75 = (1 : Int32)) = False := eq_false (by decide)
  have y2 : (nI 75 = (2 : Int32)) = False := eq_false (by decide)
  have y3 : (nI 75 = (3 : Int32)) = False := eq_false (by decide)
  have y72 : (nI 75 = (72 : Int32)) = False := eq_false (by decide)
  have y73 : (nI 75 = (73 : Int32)) = False := eq_false (by decide)
  have y74 : (nI 75 = (74 : Int32)) = False := eq_false (by decide)
  have y75 : (nI 75 = (75 : Int32)) = True := eq_true rfl
  have se := h.stat_25 hf
  refine ⟨decide (I' 206 (135 + f) = 3), ?_, fun R => ?_⟩
  · simp only [↓reduceIte, Sentence_holds, G, T, Gf, Tf, q1, Nat.reduceAdd, Option.bind_some, x19, x20, se, ifB]
  · simp only [↓reduceIte, Mod_holds, m4, ax_211, a1, a2, i0, i1, i2, t0, q2, Option.bind_some, y1, y2, y3, y72, y73, y74, y75, ax_135, c135, d135, ifB]
theorem lf_28 (h : QR N 25 ln nP nF nE nW nH nR I I') (hs : s < 40) (hf : f < nF) (q1 : I (a + 1) s = nI 28) (q2 : I' 206 (211 + 4 * s) = nI 72) : ∃ q : Bool, Sentence_holds a ln 25 (nI s) (nI f) I = some q ∧ ∀ R, Mod_holds R N (nI s) (nI f) I' = some q := by
  have hb := h.bd
  have G : in9 (nI s) 40 = True := in9_t (by omega) (by omega)
  have T : (nI s).toNatClampNeg = s := tN (by omega)
  have Gf : in9 (nI f) 10 = True := in9_t (by omega) (by omega)
  have Tf : (nI f).toNatClampNeg = f := tN (by omega)
  have m4 : 4 * nI s = nI (4 * s) := mx_4 s
  have a1 : nI (211 + 4 * s) + 1 = nI (211 + 4 * s + 1) := nA _ 1
  have a2 : nI (211 + 4 * s) + 2 = nI (211 + 4 * s + 2) := nA _ 2
  have a3 : nI (211 + 4 * s) + 3 = nI (211 + 4 * s + 3) := nA _ 3
  have i0 : in9 (nI (211 + 4 * s)) 451 = True := in9_t (by omega) (by omega)
  have i1 : in9 (nI (211 + 4 * s + 1)) 451 = True := in9_t (by omega) (by omega)
  have i2 : in9 (nI (211 + 4 * s + 2)) 451 = True := in9_t (by omega) (by omega)
  have i3 : in9 (nI (211 + 4 * s + 3)) 451 = True := in9_t (by omega) (by omega)
  have t0 : (nI (211 + 4 * s)).toNatClampNeg = 211 + 4 * s := tN (by omega)
  have t1 : (nI (211 + 4 * s + 1)).toNatClampNeg = 211 + 4 * s + 1 := tN (by omega)
  have t2 : (nI (211 + 4 * s + 2)).toNatClampNeg = 211 + 4 * s + 2 := tN (by omega)
  have t3 : (nI (211 + 4 * s + 3)).toNatClampNeg = 211 + 4 * s + 3 := tN (by omega)
  have c135 : in9 (nI (135 + f)) 451 = True := in9_t (by omega) (by omega)
  have d135 : (nI (135 + f)).toNatClampNeg = 135 + f := tN (by omega)
  have x19 : (nI 28 = (19 : Int32)) = False := eq_false (by decide)
  have x20 : (nI 28 = (20 : Int32)) = False := eq_false (by decide)
  have x21 : (nI 28 = (21 : Int32)) = False := eq_false (by decide)
  have x22 : (nI 28 = (22 : Int32)) = False := eq_false (by decide)
  have x23 : (nI 28 = (23 : Int32)) = False := eq_false (by decide)
  have x24 : (nI 28 = (24 : Int32)) = False := eq_false (by decide)
  have x25 : (nI 28 = (25 : Int32)) = False := eq_false (by decide)
  have x26 : (nI 28 = (26 : Int32)) = False := eq_false (by decide)
  have x27 : (nI 28 = (27 : Int32)) = False := eq_false (by decide)
  have x28 : (nI 28 = (28 : Int32)) = True := eq_true rfl
  have y1 : (nI 72 = (1 : Int32)) = False := eq_false (by decide)
  have y2 : (nI 72 = (2 : Int32)) = False := eq_false (by decide)
  have y3 : (nI 72 = (3 : Int32)) = False := eq_false (by decide)
  have y72 : (nI 72 = (72 : Int32)) = True := eq_true rfl
  have se := h.stat_25 hf
  refine ⟨decide (I' 206 (135 + f) = 0), ?_, fun R => ?_⟩
  · simp only [↓reduceIte, Sentence_holds, G, T, Gf, Tf, q1, Nat.reduceAdd, Option.bind_some, x19, x20, x21, x22, x23, x24, x25, x26, x27, x28, se, ifB]
  · simp only [↓reduceIte, Mod_holds, m4, ax_211, a1, a2, i0, i1, i2, t0, q2, Option.bind_some, y1, y2, y3, y72, ax_135, c135, d135, ifB]
theorem lf_29 (h : QR N 25 ln nP nF nE nW nH nR I I') (hs : s < 40) (hf : f < nF) (q1 : I (a + 1) s = nI 29) (q2 : I' 206 (211 + 4 * s) = nI 73) : ∃ q : Bool, Sentence_holds a ln 25 (nI s) (nI f) I = some q ∧ ∀ R, Mod_holds R N (nI s) (nI f) I' = some q := by
  have hb := h.bd
  have G : in9 (nI s) 40 = True := in9_t (by omega) (by omega)
  have T : (nI s).toNatClampNeg = s := tN (by omega)
  have Gf : in9 (nI f) 10 = True := in9_t (by omega) (by omega)
  have Tf : (nI f).toNatClampNeg = f := tN (by omega)
  have m4 : 4 * nI s = nI (4 * s) := mx_4 s
  have a1 : nI (211 + 4 * s) + 1 = nI (211 + 4 * s + 1) := nA _ 1
  have a2 : nI (211 + 4 * s) + 2 = nI (211 + 4 * s + 2) := nA _ 2
  have a3 : nI (211 + 4 * s) + 3 = nI (211 + 4 * s + 3) := nA _ 3
  have i0 : in9 (nI (211 + 4 * s)) 451 = True := in9_t (by omega) (by omega)
  have i1 : in9 (nI (211 + 4 * s + 1)) 451 = True := in9_t (by omega) (by omega)
  have i2 : in9 (nI (211 + 4 * s + 2)) 451 = True := in9_t (by omega) (by omega)
  have i3 : in9 (nI (211 + 4 * s + 3)) 451 = True := in9_t (by omega) (by omega)
  have t0 : (nI (211 + 4 * s)).toNatClampNeg = 211 + 4 * s := tN (by omega)
  have t1 : (nI (211 + 4 * s + 1)).toNatClampNeg = 211 + 4 * s + 1 := tN (by omega)
  have t2 : (nI (211 + 4 * s + 2)).toNatClampNeg = 211 + 4 * s + 2 := tN (by omega)
  have t3 : (nI (211 + 4 * s + 3)).toNatClampNeg = 211 + 4 * s + 3 := tN (by omega)
  have x19 : (nI 29 = (19 : Int32)) = False := eq_false (by decide)
  have x20 : (nI 29 = (20 : Int32)) = False := eq_false (by decide)
  have x21 : (nI 29 = (21 : Int32)) = False := eq_false (by decide)
  have x22 : (nI 29 = (22 : Int32)) = False := eq_false (by decide)
  have x23 : (nI 29 = (23 : Int32)) = False := eq_false (by decide)
  have x24 : (nI 29 = (24 : Int32)) = False := eq_false (by decide)
  have x25 : (nI 29 = (25 : Int32)) = False := eq_false (by decide)
  have x26 : (nI 29 = (26 : Int32)) = False := eq_false (by decide)
  have x27 : (nI 29 = (27 : Int32)) = False := eq_false (by decide)
  have x28 : (nI 29 = (28 : Int32)) = False := eq_false (by decide)
  have x29 : (nI 29 = (29 : Int32)) = True := eq_true rfl
  have y1 : (nI 73 = (1 : Int32)) = False := eq_false (by decide)
  have y2 : (nI 73 = (2 : Int32)) = False := eq_false (by decide)
  have y3 : (nI 73 = (3 : Int32)) = False := eq_false (by decide)
  have y72 : (nI 73 = (72 : Int32)) = False := eq_false (by decide)
  have y73 : (nI 73 = (73 : Int32)) = True := eq_true rfl
  have se := h.stat_25 hf
  have hd := isHad_e h (f := f) (by omega)
  refine ⟨decide (I' 206 (135 + f) = 1), ?_, fun R => ?_⟩
  · simp only [↓reduceIte, Sentence_holds, G, T, Gf, Tf, q1, Nat.reduceAdd, Option.bind_some, x19, x20, x21, x22, x23, x24, x25, x26, x27, x28, x29, se, ifB]
  · simp only [↓reduceIte, Mod_holds, m4, ax_211, a1, a2, i0, i1, i2, t0, q2, Option.bind_some, y1, y2, y3, y72, y73, hd]
theorem lf_30 (h : QR N 25 ln nP nF nE nW nH nR I I') (hs : s < 40) (hf : f < nF) (q1 : I (a + 1) s = nI 30) (q2 : I' 206 (211 + 4 * s) = nI 80) (q3 : I (a + 2) s = I' 206 (211 + 4 * s + 1)) : ∃ q : Bool, Sentence_holds a ln 25 (nI s) (nI f) I = some q ∧ ∀ R, Mod_holds R N (nI s) (nI f) I' = some q := by
  have hb := h.bd
  have G : in9 (nI s) 40 = True := in9_t (by omega) (by omega)
  have T : (nI s).toNatClampNeg = s := tN (by omega)
  have Gf : in9 (nI f) 10 = True := in9_t (by omega) (by omega)
  have Tf : (nI f).toNatClampNeg = f := tN (by omega)
  have m4 : 4 * nI s = nI (4 * s) := mx_4 s
  have a1 : nI (211 + 4 * s) + 1 = nI (211 + 4 * s + 1) := nA _ 1
  have a2 : nI (211 + 4 * s) + 2 = nI (211 + 4 * s + 2) := nA _ 2
  have a3 : nI (211 + 4 * s) + 3 = nI (211 + 4 * s + 3) := nA _ 3
  have i0 : in9 (nI (211 + 4 * s)) 451 = True := in9_t (by omega) (by omega)
  have i1 : in9 (nI (211 + 4 * s + 1)) 451 = True := in9_t (by omega) (by omega)
  have i2 : in9 (nI (211 + 4 * s + 2)) 451 = True := in9_t (by omega) (by omega)
  have i3 : in9 (nI (211 + 4 * s + 3)) 451 = True := in9_t (by omega) (by omega)
  have t0 : (nI (211 + 4 * s)).toNatClampNeg = 211 + 4 * s := tN (by omega)
  have t1 : (nI (211 + 4 * s + 1)).toNatClampNeg = 211 + 4 * s + 1 := tN (by omega)
  have t2 : (nI (211 + 4 * s + 2)).toNatClampNeg = 211 + 4 * s + 2 := tN (by omega)
  have t3 : (nI (211 + 4 * s + 3)).toNatClampNeg = 211 + 4 * s + 3 := tN (by omega)
  have c145 : in9 (nI (145 + f)) 451 = True := in9_t (by omega) (by omega)
  have d145 : (nI (145 + f)).toNatClampNeg = 145 + f := tN (by omega)
  have x19 : (nI 30 = (19 : Int32)) = False := eq_false (by decide)
  have x20 : (nI 30 = (20 : Int32)) = False := eq_false (by decide)
  have x21 : (nI 30 = (21 : Int32)) = False := eq_false (by decide)
  have x22 : (nI 30 = (22 : Int32)) = False := eq_false (by decide)
  have x23 : (nI 30 = (23 : Int32)) = False := eq_false (by decide)
  have x24 : (nI 30 = (24 : Int32)) = False := eq_false (by decide)
  have x25 : (nI 30 = (25 : Int32)) = False := eq_false (by decide)
  have x26 : (nI 30 = (26 : Int32)) = False := eq_false (by decide)
  have x27 : (nI 30 = (27 : Int32)) = False := eq_false (by decide)
  have x28 : (nI 30 = (28 : Int32)) = False := eq_false (by decide)
  have x29 : (nI 30 = (29 : Int32)) = False := eq_false (by decide)
  have x30 : (nI 30 = (30 : Int32)) = True := eq_true rfl
  have y1 : (nI 80 = (1 : Int32)) = False := eq_false (by decide)
  have y2 : (nI 80 = (2 : Int32)) = False := eq_false (by decide)
  have y3 : (nI 80 = (3 : Int32)) = False := eq_false (by decide)
  have y72 : (nI 80 = (72 : Int32)) = False := eq_false (by decide)
  have y73 : (nI 80 = (73 : Int32)) = False := eq_false (by decide)
  have y74 : (nI 80 = (74 : Int32)) = False := eq_false (by decide)
  have y75 : (nI 80 = (75 : Int32)) = False := eq_false (by decide)
  have y76 : (nI 80 = (76 : Int32)) = False := eq_false (by decide)
  have y77 : (nI 80 = (77 : Int32)) = False := eq_false (by decide)
  have y78 : (nI 80 = (78 : Int32)) = False := eq_false (by decide)
  have y79 : (nI 80 = (79 : Int32)) = False := eq_false (by decide)
  have y80 : (nI 80 = (80 : Int32)) = True := eq_true rfl
  have se := h.stat_25 hf
  have we := h.who_25 hf
  have hd := isHad_e h (f := f) (by omega)
  by_cases e : I' 206 (135 + f) = 1
  · have e1 : (I' 206 (135 + f) = 1) = True := eq_true e
    rw [decide_eq_true e] at hd
    refine ⟨decide (I' 206 (145 + f) = I' 206 (211 + 4 * s + 1)), ?_, fun R => ?_⟩
    · simp only [↓reduceIte, Sentence_holds, G, T, Gf, Tf, q1, Nat.reduceAdd, Option.bind_some, x19, x20, x21, x22, x23, x24, x25, x26, x27, x28, x29, x30, se, e1, we, q3, ifB]
    · simp only [↓reduceIte, Mod_holds, m4, ax_211, a1, a2, i0, i1, i2, t0, q2, Option.bind_some, y1, y2, y3, y72, y73, y74, y75, y76, y77, y78, y79, y80, hd, ax_145, c145, d145, t1, ifB]
  · have e1 : (I' 206 (135 + f) = 1) = False := eq_false e
    rw [decide_eq_false e] at hd
    refine ⟨false, ?_, fun R => ?_⟩
    · simp only [↓reduceIte, Sentence_holds, G, T, Gf, Tf, q1, Nat.reduceAdd, Option.bind_some, x19, x20, x21, x22, x23, x24, x25, x26, x27, x28, x29, x30, se, e1]
    · simp only [↓reduceIte, Mod_holds, m4, ax_211, a1, a2, i0, i1, i2, t0, q2, Option.bind_some, y1, y2, y3, y72, y73, y74, y75, y76, y77, y78, y79, y80, hd, Bool.false_eq_true]
theorem lf_31 (h : QR N 25 ln nP nF nE nW nH nR I I') (hs : s < 40) (hf : f < nF) (q1 : I (a + 1) s = nI 31) (q2 : I' 206 (211 + 4 * s) = nI 81) {c v : Nat} (hc : c = 60 ∨ c = 61 ∨ c = 62) (q3 : I (a + 2) s = nI c) (q4 : I' 206 (211 + 4 * s + 3) = nI c) (q5 : I (a + 3) s = nI v) (q6 : I' 206 (211 + 4 * s + 2) = nI v) : ∃ q : Bool, Sentence_holds a ln 25 (nI s) (nI f) I = some q ∧ ∀ R, Mod_holds R N (nI s) (nI f) I' = some q := by
  have hb := h.bd
  have G : in9 (nI s) 40 = True := in9_t (by omega) (by omega)
  have T : (nI s).toNatClampNeg = s := tN (by omega)
  have Gf : in9 (nI f) 10 = True := in9_t (by omega) (by omega)
  have Tf : (nI f).toNatClampNeg = f := tN (by omega)
  have m4 : 4 * nI s = nI (4 * s) := mx_4 s
  have a1 : nI (211 + 4 * s) + 1 = nI (211 + 4 * s + 1) := nA _ 1
  have a2 : nI (211 + 4 * s) + 2 = nI (211 + 4 * s + 2) := nA _ 2
  have a3 : nI (211 + 4 * s) + 3 = nI (211 + 4 * s + 3) := nA _ 3
  have i0 : in9 (nI (211 + 4 * s)) 451 = True := in9_t (by omega) (by omega)
  have i1 : in9 (nI (211 + 4 * s + 1)) 451 = True := in9_t (by omega) (by omega)
  have i2 : in9 (nI (211 + 4 * s + 2)) 451 = True := in9_t (by omega) (by omega)
  have i3 : in9 (nI (211 + 4 * s + 3)) 451 = True := in9_t (by omega) (by omega)
  have t0 : (nI (211 + 4 * s)).toNatClampNeg = 211 + 4 * s := tN (by omega)
  have t1 : (nI (211 + 4 * s + 1)).toNatClampNeg = 211 + 4 * s + 1 := tN (by omega)
  have t2 : (nI (211 + 4 * s + 2)).toNatClampNeg = 211 + 4 * s + 2 := tN (by omega)
  have t3 : (nI (211 + 4 * s + 3)).toNatClampNeg = 211 + 4 * s + 3 := tN (by omega)
  have c70 : in9 (nI (70 + f)) 451 = True := in9_t (by omega) (by omega)
  have d70 : (nI (70 + f)).toNatClampNeg = 70 + f := tN (by omega)
  have x19 : (nI 31 = (19 : Int32)) = False := eq_false (by decide)
  have x20 : (nI 31 = (20 : Int32)) = False := eq_false (by decide)
  have x21 : (nI 31 = (21 : Int32)) = False := eq_false (by decide)
  have x22 : (nI 31 = (22 : Int32)) = False := eq_false (by decide)
  have x23 : (nI 31 = (23 : Int32)) = False := eq_false (by decide)
  have x24 : (nI 31 = (24 : Int32)) = False := eq_false (by decide)
  have x25 : (nI 31 = (25 : Int32)) = False := eq_false (by decide)
  have x26 : (nI 31 = (26 : Int32)) = False := eq_false (by decide)
  have x27 : (nI 31 = (27 : Int32)) = False := eq_false (by decide)
  have x28 : (nI 31 = (28 : Int32)) = False := eq_false (by decide)
  have x29 : (nI 31 = (29 : Int32)) = False := eq_false (by decide)
  have x30 : (nI 31 = (30 : Int32)) = False := eq_false (by decide)
  have x31 : (nI 31 = (31 : Int32)) = True := eq_true rfl
  have y1 : (nI 81 = (1 : Int32)) = False := eq_false (by decide)
  have y2 : (nI 81 = (2 : Int32)) = False := eq_false (by decide)
  have y3 : (nI 81 = (3 : Int32)) = False := eq_false (by decide)
  have y72 : (nI 81 = (72 : Int32)) = False := eq_false (by decide)
  have y73 : (nI 81 = (73 : Int32)) = False := eq_false (by decide)
  have y74 : (nI 81 = (74 : Int32)) = False := eq_false (by decide)
  have y75 : (nI 81 = (75 : Int32)) = False := eq_false (by decide)
  have y76 : (nI 81 = (76 : Int32)) = False := eq_false (by decide)
  have y77 : (nI 81 = (77 : Int32)) = False := eq_false (by decide)
  have y78 : (nI 81 = (78 : Int32)) = False := eq_false (by decide)
  have y79 : (nI 81 = (79 : Int32)) = False := eq_false (by decide)
  have y80 : (nI 81 = (80 : Int32)) = False := eq_false (by decide)
  have z31 : (nI 81 - 50 = (31 : Int32)) = True := eq_true (by decide)
  have fe : Land_factOf ln (nI f) 4 I = some (I' 206 (70 + f)) := by rw [← h.f_year hf]; exact fact_e h hf (w := 4) (by omega)
  have cb := cmp_b (x := I' 206 (70 + f)) hs hc q3 q5
  refine ⟨cmpB c (I' 206 (70 + f)) (nI v), ?_, fun R => ?_⟩
  · simp only [↓reduceIte, Sentence_holds, G, T, Gf, Tf, q1, Nat.reduceAdd, Option.bind_some, x19, x20, x21, x22, x23, x24, x25, x26, x27, x28, x29, x30, x31, fe, cb]
  · simp only [↓reduceIte, Mod_holds, m4, ax_211, a1, a2, i0, i1, i2, t0, q2, Option.bind_some, y1, y2, y3, y72, y73, y74, y75, y76, y77, y78, y79, y80, z31, ax_70, c70, d70, a3, i3, t2, t3, q4, q6]
    exact cmp_m hc
theorem lf_32 (h : QR N 25 ln nP nF nE nW nH nR I I') (hs : s < 40) (hf : f < nF) (q1 : I (a + 1) s = nI 32) (q2 : I' 206 (211 + 4 * s) = nI 82) {c v : Nat} (hc : c = 60 ∨ c = 61 ∨ c = 62) (q3 : I (a + 2) s = nI c) (q4 : I' 206 (211 + 4 * s + 3) = nI c) (q5 : I (a + 3) s = nI v) (q6 : I' 206 (211 + 4 * s + 2) = nI v) : ∃ q : Bool, Sentence_holds a ln 25 (nI s) (nI f) I = some q ∧ ∀ R, Mod_holds R N (nI s) (nI f) I' = some q := by
  have hb := h.bd
  have G : in9 (nI s) 40 = True := in9_t (by omega) (by omega)
  have T : (nI s).toNatClampNeg = s := tN (by omega)
  have Gf : in9 (nI f) 10 = True := in9_t (by omega) (by omega)
  have Tf : (nI f).toNatClampNeg = f := tN (by omega)
  have m4 : 4 * nI s = nI (4 * s) := mx_4 s
  have a1 : nI (211 + 4 * s) + 1 = nI (211 + 4 * s + 1) := nA _ 1
  have a2 : nI (211 + 4 * s) + 2 = nI (211 + 4 * s + 2) := nA _ 2
  have a3 : nI (211 + 4 * s) + 3 = nI (211 + 4 * s + 3) := nA _ 3
  have i0 : in9 (nI (211 + 4 * s)) 451 = True := in9_t (by omega) (by omega)
  have i1 : in9 (nI (211 + 4 * s + 1)) 451 = True := in9_t (by omega) (by omega)
  have i2 : in9 (nI (211 + 4 * s + 2)) 451 = True := in9_t (by omega) (by omega)
  have i3 : in9 (nI (211 + 4 * s + 3)) 451 = True := in9_t (by omega) (by omega)
  have t0 : (nI (211 + 4 * s)).toNatClampNeg = 211 + 4 * s := tN (by omega)
  have t1 : (nI (211 + 4 * s + 1)).toNatClampNeg = 211 + 4 * s + 1 := tN (by omega)
  have t2 : (nI (211 + 4 * s + 2)).toNatClampNeg = 211 + 4 * s + 2 := tN (by omega)
  have t3 : (nI (211 + 4 * s + 3)).toNatClampNeg = 211 + 4 * s + 3 := tN (by omega)
  have c80 : in9 (nI (80 + f)) 451 = True := in9_t (by omega) (by omega)
  have d80 : (nI (80 + f)).toNatClampNeg = 80 + f := tN (by omega)
  have x19 : (nI 32 = (19 : Int32)) = False := eq_false (by decide)
  have x20 : (nI 32 = (20 : Int32)) = False := eq_false (by decide)
  have x21 : (nI 32 = (21 : Int32)) = False := eq_false (by decide)
  have x22 : (nI 32 = (22 : Int32)) = False := eq_false (by decide)
  have x23 : (nI 32 = (23 : Int32)) = False := eq_false (by decide)
  have x24 : (nI 32 = (24 : Int32)) = False := eq_false (by decide)
  have x25 : (nI 32 = (25 : Int32)) = False := eq_false (by decide)
  have x26 : (nI 32 = (26 : Int32)) = False := eq_false (by decide)
  have x27 : (nI 32 = (27 : Int32)) = False := eq_false (by decide)
  have x28 : (nI 32 = (28 : Int32)) = False := eq_false (by decide)
  have x29 : (nI 32 = (29 : Int32)) = False := eq_false (by decide)
  have x30 : (nI 32 = (30 : Int32)) = False := eq_false (by decide)
  have x31 : (nI 32 = (31 : Int32)) = False := eq_false (by decide)
  have x32 : (nI 32 = (32 : Int32)) = True := eq_true rfl
  have y1 : (nI 82 = (1 : Int32)) = False := eq_false (by decide)
  have y2 : (nI 82 = (2 : Int32)) = False := eq_false (by decide)
  have y3 : (nI 82 = (3 : Int32)) = False := eq_false (by decide)
  have y72 : (nI 82 = (72 : Int32)) = False := eq_false (by decide)
  have y73 : (nI 82 = (73 : Int32)) = False := eq_false (by decide)
  have y74 : (nI 82 = (74 : Int32)) = False := eq_false (by decide)
  have y75 : (nI 82 = (75 : Int32)) = False := eq_false (by decide)
  have y76 : (nI 82 = (76 : Int32)) = False := eq_false (by decide)
  have y77 : (nI 82 = (77 : Int32)) = False := eq_false (by decide)
  have y78 : (nI 82 = (78 : Int32)) = False := eq_false (by decide)
  have y79 : (nI 82 = (79 : Int32)) = False := eq_false (by decide)
  have y80 : (nI 82 = (80 : Int32)) = False := eq_false (by decide)
  have z31 : (nI 82 - 50 = (31 : Int32)) = False := eq_false (by decide)
  have z32 : (nI 82 - 50 = (32 : Int32)) = True := eq_true (by decide)
  have fe : Land_factOf ln (nI f) 5 I = some (I' 206 (80 + f)) := by rw [← h.f_value hf]; exact fact_e h hf (w := 5) (by omega)
  have cb := cmp_b (x := I' 206 (80 + f)) hs hc q3 q5
  refine ⟨cmpB c (I' 206 (80 + f)) (nI v), ?_, fun R => ?_⟩
  · simp only [↓reduceIte, Sentence_holds, G, T, Gf, Tf, q1, Nat.reduceAdd, Option.bind_some, x19, x20, x21, x22, x23, x24, x25, x26, x27, x28, x29, x30, x31, x32, fe, cb]
  · simp only [↓reduceIte, Mod_holds, m4, ax_211, a1, a2, i0, i1, i2, t0, q2, Option.bind_some, y1, y2, y3, y72, y73, y74, y75, y76, y77, y78, y79, y80, z31, z32, ax_80, c80, d80, a3, i3, t2, t3, q4, q6]
    exact cmp_m hc
theorem lf_33 (h : QR N 25 ln nP nF nE nW nH nR I I') (hs : s < 40) (hf : f < nF) (q1 : I (a + 1) s = nI 33) (q2 : I' 206 (211 + 4 * s) = nI 83) {c v : Nat} (hc : c = 60 ∨ c = 61 ∨ c = 62) (q3 : I (a + 2) s = nI c) (q4 : I' 206 (211 + 4 * s + 3) = nI c) (q5 : I (a + 3) s = nI v) (q6 : I' 206 (211 + 4 * s + 2) = nI v) : ∃ q : Bool, Sentence_holds a ln 25 (nI s) (nI f) I = some q ∧ ∀ R, Mod_holds R N (nI s) (nI f) I' = some q := by
  have hb := h.bd
  have G : in9 (nI s) 40 = True := in9_t (by omega) (by omega)
  have T : (nI s).toNatClampNeg = s := tN (by omega)
  have Gf : in9 (nI f) 10 = True := in9_t (by omega) (by omega)
  have Tf : (nI f).toNatClampNeg = f := tN (by omega)
  have m4 : 4 * nI s = nI (4 * s) := mx_4 s
  have a1 : nI (211 + 4 * s) + 1 = nI (211 + 4 * s + 1) := nA _ 1
  have a2 : nI (211 + 4 * s) + 2 = nI (211 + 4 * s + 2) := nA _ 2
  have a3 : nI (211 + 4 * s) + 3 = nI (211 + 4 * s + 3) := nA _ 3
  have i0 : in9 (nI (211 + 4 * s)) 451 = True := in9_t (by omega) (by omega)
  have i1 : in9 (nI (211 + 4 * s + 1)) 451 = True := in9_t (by omega) (by omega)
  have i2 : in9 (nI (211 + 4 * s + 2)) 451 = True := in9_t (by omega) (by omega)
  have i3 : in9 (nI (211 + 4 * s + 3)) 451 = True := in9_t (by omega) (by omega)
  have t0 : (nI (211 + 4 * s)).toNatClampNeg = 211 + 4 * s := tN (by omega)
  have t1 : (nI (211 + 4 * s + 1)).toNatClampNeg = 211 + 4 * s + 1 := tN (by omega)
  have t2 : (nI (211 + 4 * s + 2)).toNatClampNeg = 211 + 4 * s + 2 := tN (by omega)
  have t3 : (nI (211 + 4 * s + 3)).toNatClampNeg = 211 + 4 * s + 3 := tN (by omega)
  have c125 : in9 (nI (125 + f)) 451 = True := in9_t (by omega) (by omega)
  have d125 : (nI (125 + f)).toNatClampNeg = 125 + f := tN (by omega)
  have x19 : (nI 33 = (19 : Int32)) = False := eq_false (by decide)
  have x20 : (nI 33 = (20 : Int32)) = False := eq_false (by decide)
  have x21 : (nI 33 = (21 : Int32)) = False := eq_false (by decide)
  have x22 : (nI 33 = (22 : Int32)) = False := eq_false (by decide)
  have x23 : (nI 33 = (23 : Int32)) = False := eq_false (by decide)
  have x24 : (nI 33 = (24 : Int32)) = False := eq_false (by decide)
  have x25 : (nI 33 = (25 : Int32)) = False := eq_false (by decide)
  have x26 : (nI 33 = (26 : Int32)) = False := eq_false (by decide)
  have x27 : (nI 33 = (27 : Int32)) = False := eq_false (by decide)
  have x28 : (nI 33 = (28 : Int32)) = False := eq_false (by decide)
  have x29 : (nI 33 = (29 : Int32)) = False := eq_false (by decide)
  have x30 : (nI 33 = (30 : Int32)) = False := eq_false (by decide)
  have x31 : (nI 33 = (31 : Int32)) = False := eq_false (by decide)
  have x32 : (nI 33 = (32 : Int32)) = False := eq_false (by decide)
  have x33 : (nI 33 = (33 : Int32)) = True := eq_true rfl
  have y1 : (nI 83 = (1 : Int32)) = False := eq_false (by decide)
  have y2 : (nI 83 = (2 : Int32)) = False := eq_false (by decide)
  have y3 : (nI 83 = (3 : Int32)) = False := eq_false (by decide)
  have y72 : (nI 83 = (72 : Int32)) = False := eq_false (by decide)
  have y73 : (nI 83 = (73 : Int32)) = False := eq_false (by decide)
  have y74 : (nI 83 = (74 : Int32)) = False := eq_false (by decide)
  have y75 : (nI 83 = (75 : Int32)) = False := eq_false (by decide)
  have y76 : (nI 83 = (76 : Int32)) = False := eq_false (by decide)
  have y77 : (nI 83 = (77 : Int32)) = False := eq_false (by decide)
  have y78 : (nI 83 = (78 : Int32)) = False := eq_false (by decide)
  have y79 : (nI 83 = (79 : Int32)) = False := eq_false (by decide)
  have y80 : (nI 83 = (80 : Int32)) = False := eq_false (by decide)
  have z31 : (nI 83 - 50 = (31 : Int32)) = False := eq_false (by decide)
  have z32 : (nI 83 - 50 = (32 : Int32)) = False := eq_false (by decide)
  have z33 : (nI 83 - 50 = (33 : Int32)) = True := eq_true (by decide)
  have fe := h.deep_25 hf
  have cb := cmp_b (x := I' 206 (125 + f)) hs hc q3 q5
  refine ⟨cmpB c (I' 206 (125 + f)) (nI v), ?_, fun R => ?_⟩
  · simp only [↓reduceIte, Sentence_holds, G, T, Gf, Tf, q1, Nat.reduceAdd, Option.bind_some, x19, x20, x21, x22, x23, x24, x25, x26, x27, x28, x29, x30, x31, x32, x33, fe, cb]
  · simp only [↓reduceIte, Mod_holds, m4, ax_211, a1, a2, i0, i1, i2, t0, q2, Option.bind_some, y1, y2, y3, y72, y73, y74, y75, y76, y77, y78, y79, y80, z31, z32, z33, ax_125, c125, d125, a3, i3, t2, t3, q4, q6]
    exact cmp_m hc
theorem lf_34 (h : QR N 25 ln nP nF nE nW nH nR I I') (hs : s < 40) (hf : f < nF) (q1 : I (a + 1) s = nI 34) (q2 : I' 206 (211 + 4 * s) = nI 84) {c v : Nat} (hc : c = 60 ∨ c = 61 ∨ c = 62) (q3 : I (a + 2) s = nI c) (q4 : I' 206 (211 + 4 * s + 3) = nI c) (q5 : I (a + 3) s = nI v) (q6 : I' 206 (211 + 4 * s + 2) = nI v) : ∃ q : Bool, Sentence_holds a ln 25 (nI s) (nI f) I = some q ∧ ∀ R, Mod_holds R N (nI s) (nI f) I' = some q := by
  have hb := h.bd
  have G : in9 (nI s) 40 = True := in9_t (by omega) (by omega)
  have T : (nI s).toNatClampNeg = s := tN (by omega)
  have Gf : in9 (nI f) 10 = True := in9_t (by omega) (by omega)
  have Tf : (nI f).toNatClampNeg = f := tN (by omega)
  have m4 : 4 * nI s = nI (4 * s) := mx_4 s
  have a1 : nI (211 + 4 * s) + 1 = nI (211 + 4 * s + 1) := nA _ 1
  have a2 : nI (211 + 4 * s) + 2 = nI (211 + 4 * s + 2) := nA _ 2
  have a3 : nI (211 + 4 * s) + 3 = nI (211 + 4 * s + 3) := nA _ 3
  have i0 : in9 (nI (211 + 4 * s)) 451 = True := in9_t (by omega) (by omega)
  have i1 : in9 (nI (211 + 4 * s + 1)) 451 = True := in9_t (by omega) (by omega)
  have i2 : in9 (nI (211 + 4 * s + 2)) 451 = True := in9_t (by omega) (by omega)
  have i3 : in9 (nI (211 + 4 * s + 3)) 451 = True := in9_t (by omega) (by omega)
  have t0 : (nI (211 + 4 * s)).toNatClampNeg = 211 + 4 * s := tN (by omega)
  have t1 : (nI (211 + 4 * s + 1)).toNatClampNeg = 211 + 4 * s + 1 := tN (by omega)
  have t2 : (nI (211 + 4 * s + 2)).toNatClampNeg = 211 + 4 * s + 2 := tN (by omega)
  have t3 : (nI (211 + 4 * s + 3)).toNatClampNeg = 211 + 4 * s + 3 := tN (by omega)
  have x19 : (nI 34 = (19 : Int32)) = False := eq_false (by decide)
  have x20 : (nI 34 = (20 : Int32)) = False := eq_false (by decide)
  have x21 : (nI 34 = (21 : Int32)) = False := eq_false (by decide)
  have x22 : (nI 34 = (22 : Int32)) = False := eq_false (by decide)
  have x23 : (nI 34 = (23 : Int32)) = False := eq_false (by decide)
  have x24 : (nI 34 = (24 : Int32)) = False := eq_false (by decide)
  have x25 : (nI 34 = (25 : Int32)) = False := eq_false (by decide)
  have x26 : (nI 34 = (26 : Int32)) = False := eq_false (by decide)
  have x27 : (nI 34 = (27 : Int32)) = False := eq_false (by decide)
  have x28 : (nI 34 = (28 : Int32)) = False := eq_false (by decide)
  have x29 : (nI 34 = (29 : Int32)) = False := eq_false (by decide)
  have x30 : (nI 34 = (30 : Int32)) = False := eq_false (by decide)
  have x31 : (nI 34 = (31 : Int32)) = False := eq_false (by decide)
  have x32 : (nI 34 = (32 : Int32)) = False := eq_false (by decide)
  have x33 : (nI 34 = (33 : Int32)) = False := eq_false (by decide)
  have x34 : (nI 34 = (34 : Int32)) = True := eq_true rfl
  have y1 : (nI 84 = (1 : Int32)) = False := eq_false (by decide)
  have y2 : (nI 84 = (2 : Int32)) = False := eq_false (by decide)
  have y3 : (nI 84 = (3 : Int32)) = False := eq_false (by decide)
  have y72 : (nI 84 = (72 : Int32)) = False := eq_false (by decide)
  have y73 : (nI 84 = (73 : Int32)) = False := eq_false (by decide)
  have y74 : (nI 84 = (74 : Int32)) = False := eq_false (by decide)
  have y75 : (nI 84 = (75 : Int32)) = False := eq_false (by decide)
  have y76 : (nI 84 = (76 : Int32)) = False := eq_false (by decide)
  have y77 : (nI 84 = (77 : Int32)) = False := eq_false (by decide)
  have y78 : (nI 84 = (78 : Int32)) = False := eq_false (by decide)
  have y79 : (nI 84 = (79 : Int32)) = False := eq_false (by decide)
  have y80 : (nI 84 = (80 : Int32)) = False := eq_false (by decide)
  have z31 : (nI 84 - 50 = (31 : Int32)) = False := eq_false (by decide)
  have z32 : (nI 84 - 50 = (32 : Int32)) = False := eq_false (by decide)
  have z33 : (nI 84 - 50 = (33 : Int32)) = False := eq_false (by decide)
  have fe : True := trivial
  have cb := cmp_b (x := nI f) hs hc q3 q5
  refine ⟨cmpB c (nI f) (nI v), ?_, fun R => ?_⟩
  · simp only [↓reduceIte, Sentence_holds, G, T, Gf, Tf, q1, Nat.reduceAdd, Option.bind_some, x19, x20, x21, x22, x23, x24, x25, x26, x27, x28, x29, x30, x31, x32, x33, x34, fe, cb]
  · simp only [↓reduceIte, Mod_holds, m4, ax_211, a1, a2, i0, i1, i2, t0, q2, Option.bind_some, y1, y2, y3, y72, y73, y74, y75, y76, y77, y78, y79, y80, z31, z32, z33, a3, i3, t2, t3, q4, q6]
    exact cmp_m hc
theorem leaf_e (h : QR N 25 ln nP nF nE nW nH nR I I') (hs : s < 40) (hf : f < nF) (hl : LeafR nP (I (a + 1)) (I (a + 2)) (I (a + 3)) (fun j => I' 206 (211 + j)) s) : ∃ q : Bool, Sentence_holds a ln 25 (nI s) (nI f) I = some q ∧ ∀ R, Mod_holds R N (nI s) (nI f) I' = some q := by
  rcases hl with ⟨x, y, hxy, q1, q2⟩ | ⟨q1, q2, q3⟩ | ⟨x, c, v, h1, h2, hc, hv, q1, q2, q3, q4, q5, q6⟩
  · rcases hxy with ⟨rfl, rfl⟩ | ⟨rfl, rfl⟩ | ⟨rfl, rfl⟩ | ⟨rfl, rfl⟩ | ⟨rfl, rfl⟩ | ⟨rfl, rfl⟩ | ⟨rfl, rfl⟩ | ⟨rfl, rfl⟩
    · exact lf_8 h hs hf q1 q2
    · exact lf_9 h hs hf q1 q2
    · exact lf_10 h hs hf q1 q2
    · exact lf_11 h hs hf q1 q2
    · exact lf_19 h hs hf q1 q2
    · exact lf_20 h hs hf q1 q2
    · exact lf_28 h hs hf q1 q2
    · exact lf_29 h hs hf q1 q2
  · exact lf_30 h hs hf q1 q2 q3
  · rcases (show x = 31 ∨ x = 32 ∨ x = 33 ∨ x = 34 by omega) with rfl | rfl | rfl | rfl
    · exact lf_31 h hs hf q1 q2 hc q3 q4 q5 q6
    · exact lf_32 h hs hf q1 q2 hc q3 q4 q5 q6
    · exact lf_33 h hs hf q1 q2 hc q3 q4 q5 q6
    · exact lf_34 h hs hf q1 q2 hc q3 q4 q5 q6
end Q78

/-! the best way to walk: the model's side -/
/-- what the model's walk keeps -/
def RtM (n : Nat) (w : Nat → Int32) (I : FI) (k : Nat) (vis path : Nat → Nat) (st : Nat × (Nat → Nat)) : Prop :=
  I 206 = w ∧ I 204 31 = nI st.1 - 1 ∧ (∀ c, c < 36 → I 219 c = nI (vis c)) ∧ (∀ j, j < k → I 217 j = nI (path j)) ∧ (0 < st.1 → ∀ j, j < n → I 218 j = nI (st.2 j)) ∧ st.1 ≤ 200
theorem add_m1 (y : Nat) : nI (y + 1) + (-1) = nI y := by rw [← Int32.sub_eq_add_neg, nI_pred]
theorem add_z (y : Nat) : nI y + 0 = nI y := nA y 0
theorem zero_m1 : nI 0 + (-1) = -1 := by decide
theorem c107 : ((4 : Int32) ≤ 0) = False ∧ ((4 : Int32) ≤ 1) = False ∧ ((4 : Int32) ≤ 2) = False ∧ ((4 : Int32) ≤ 3) = False ∧ ((0 : Int32) = 1) = False ∧ ((0 : Int32) = 2) = False ∧ ((0 : Int32) = 3) = False ∧ ((1 : Int32) = 0) = False ∧ ((1 : Int32) = 2) = False ∧ ((1 : Int32) = 3) = False ∧ ((2 : Int32) = 0) = False ∧ ((2 : Int32) = 1) = False ∧ ((2 : Int32) = 3) = False ∧ ((3 : Int32) = 0) = False ∧ ((3 : Int32) = 1) = False ∧ ((3 : Int32) = 2) = False :=
  ⟨eq_false (by decide), eq_false (by decide), eq_false (by decide), eq_false (by decide), eq_false (by decide), eq_false (by decide), eq_false (by decide), eq_false (by decide), eq_false (by decide), eq_false (by decide), eq_false (by decide), eq_false (by decide), eq_false (by decide), eq_false (by decide), eq_false (by decide), eq_false (by decide)⟩
section Q37
variable {N b ln sp sn ss nP nF nE nW nH nR : Nat} {I I' : FI} {J J' : FJ}
theorem cell_nn {W H x y : Nat} (h3 : I 206 3 = nI W) (h4 : I 206 4 = nI H) (hW : W ≤ 6) (hH : H ≤ 6) (hx : x < 100) (hy : y < 100) : Mod_isCell (nI x) (nI y) I = some (decide (x < W) && decide (y < H)) := by
  have f1 : (nI x < 0) = False := by rw [L_0, lt_nI (by omega) (by omega)]; exact eq_false (by omega)
  have f2 : (nI y < 0) = False := by rw [L_0, lt_nI (by omega) (by omega)]; exact eq_false (by omega)
  have f3 : (nI W ≤ nI x) = (W ≤ x) := le_nI (by omega) (by omega)
  have f4 : (nI H ≤ nI y) = (H ≤ y) := le_nI (by omega) (by omega)
  unfold Mod_isCell
  rw [T_3, T_4, h3, h4, isIn_n (by omega), isIn_n (by omega)]
  simp only [f1, f2, f3, f4, if_false]
  by_cases a : x < W
  · by_cases c : y < H
    · rw [if_neg (show ¬ W ≤ x by omega), if_neg (show ¬ H ≤ y by omega)]; simp [a, c]
    · rw [if_neg (show ¬ W ≤ x by omega), if_pos (show H ≤ y by omega)]; simp [a, c]
  · rw [if_pos (show W ≤ x by omega)]; simp [a]
theorem cell_nm {W H x : Nat} (h3 : I 206 3 = nI W) (h4 : I 206 4 = nI H) (hW : W ≤ 6) (hH : H ≤ 6) (hx : x < W) : Mod_isCell (nI x) (-1) I = some false := by
  have f1 : (nI x < 0) = False := by rw [L_0, lt_nI (by omega) (by omega)]; exact eq_false (by omega)
  have f2 : ((-1 : Int32) < 0) = True := eq_true neg1_lt
  have f3 : (nI W ≤ nI x) = False := by rw [le_nI (by omega) (by omega)]; exact eq_false (by omega)
  unfold Mod_isCell
  rw [T_3, T_4, h3, h4, isIn_n (by omega), isIn_n (by omega)]
  simp only [↓reduceIte, f1, f2, f3, Bool.false_eq_true]
theorem cell_mn {W H : Nat} (h3 : I 206 3 = nI W) (hW : W ≤ 6) (y : Int32) : Mod_isCell (-1) y I = some false := by
  unfold Mod_isCell
  rw [T_3, h3, isIn_n (by omega), if_pos (show (-1 : Int32) < 0 from neg1_lt)]
  rfl
theorem d107_0 {R : Int32 → Int32 → Int32 → FI → Option FI} {W H m k c : Nat} {l2 l3 l5 : Int32} (h3 : I 206 3 = nI W) (h4 : I 206 4 = nI H) (hW : W ≤ 6) (hH : H ≤ 6) (hx : c % 6 < W) (hy : c / 6 < H) (hk : k + 1 < 8) : Mod_goOn_107 R N (m + 1) (nI k) l2 l3 (nI c) l5 0 I = if decide (0 < c / 6) = true then Option.bind (R (nI k + 1) l2 l5 (up2 I 217 (k + 1) (nI (c - 6)))) (fun y => Mod_goOn_107 R N m (nI k) l2 l3 (nI c) l5 1 y) else Mod_goOn_107 R N m (nI k) l2 l3 (nI c) l5 1 I := by
  have hc : c < 36 := by omega
  obtain ⟨z1, z2, z3, z4, z5, z6, z7, z8, z9, z10, z11, z12, z13, z14, z15, z16⟩ := c107
  have rw1 := rowc_e hc
  have cl1 : nI c - nI (c / 6) * 6 = nI (c % 6) := by rw [← rowc_e hc, colc_e hc]
  have g8 : in9 (nI k + 1) 8 = True := by rw [nS]; exact in9_t (by omega) (by omega)
  have t8 : (nI k + 1).toNatClampNeg = k + 1 := by rw [nS]; exact tN (by omega)
  have s1 : (0 : Int32) + 1 = 1 := by decide
  by_cases z : 0 < c / 6
  · have ey : nI (c / 6) + -1 = nI (c / 6 - 1) := by
      obtain ⟨y, hy⟩ : ∃ y, c / 6 = y + 1 := ⟨c / 6 - 1, by omega⟩
      rw [hy, add_m1]; rfl
    have ce : Mod_isCell (nI (c % 6)) (nI (c / 6 - 1)) I = some true := by rw [cell_nn h3 h4 hW hH (by omega) (by omega)]; simp [hx]; omega
    have ix : (6 : Int32) * nI (c / 6 - 1) + nI (c % 6) = nI (c - 6) := by rw [mx_6, nA]; exact congrArg nI (by omega)
    simp only [↓reduceIte, Mod_goOn_107, z1, z5, z6, rw1, cl1, add_z, ey, ce, ix, g8, t8, s1, z, decide_true, Option.bind_some]
  · have ey : nI (c / 6) + -1 = -1 := by rw [show c / 6 = 0 by omega]; exact zero_m1
    have ce := cell_nm h3 h4 hW hH hx
    simp only [↓reduceIte, Mod_goOn_107, z1, z5, z6, rw1, cl1, add_z, ey, ce, s1, z, decide_false, Bool.false_eq_true, Option.bind_some]
theorem d107_1 {R : Int32 → Int32 → Int32 → FI → Option FI} {W H m k c : Nat} {l2 l3 l5 : Int32} (h3 : I 206 3 = nI W) (h4 : I 206 4 = nI H) (hW : W ≤ 6) (hH : H ≤ 6) (hx : c % 6 < W) (hy : c / 6 < H) (hk : k + 1 < 8) : Mod_goOn_107 R N (m + 1) (nI k) l2 l3 (nI c) l5 1 I = if decide (0 < c % 6) = true then Option.bind (R (nI k + 1) l2 l5 (up2 I 217 (k + 1) (nI (c - 1)))) (fun y => Mod_goOn_107 R N m (nI k) l2 l3 (nI c) l5 2 y) else Mod_goOn_107 R N m (nI k) l2 l3 (nI c) l5 2 I := by
  have hc : c < 36 := by omega
  obtain ⟨z1, z2, z3, z4, z5, z6, z7, z8, z9, z10, z11, z12, z13, z14, z15, z16⟩ := c107
  have rw1 := rowc_e hc
  have cl1 : nI c - nI (c / 6) * 6 = nI (c % 6) := by rw [← rowc_e hc, colc_e hc]
  have g8 : in9 (nI k + 1) 8 = True := by rw [nS]; exact in9_t (by omega) (by omega)
  have t8 : (nI k + 1).toNatClampNeg = k + 1 := by rw [nS]; exact tN (by omega)
  have s1 : (1 : Int32) + 1 = 2 := by decide
  by_cases z : 0 < c % 6
  · have ey : nI (c % 6) + -1 = nI (c % 6 - 1) := by
      obtain ⟨y, hy⟩ : ∃ y, c % 6 = y + 1 := ⟨c % 6 - 1, by omega⟩
      rw [hy, add_m1]; rfl
    have ce : Mod_isCell (nI (c % 6 - 1)) (nI (c / 6)) I = some true := by rw [cell_nn h3 h4 hW hH (by omega) (by omega)]; simp [hy]; omega
    have ix : (6 : Int32) * nI (c / 6) + nI (c % 6 - 1) = nI (c - 1) := by rw [mx_6, nA]; exact congrArg nI (by omega)
    simp only [↓reduceIte, Mod_goOn_107, z2, z8, z10, rw1, cl1, add_z, ey, ce, ix, g8, t8, s1, z, decide_true, Option.bind_some]
  · have ey : nI (c % 6) + -1 = -1 := by rw [show c % 6 = 0 by omega]; exact zero_m1
    have ce := cell_mn (H := H) h3 hW (nI (c / 6))
    simp only [↓reduceIte, Mod_goOn_107, z2, z8, z10, rw1, cl1, add_z, ey, ce, s1, z, decide_false, Bool.false_eq_true, Option.bind_some]
theorem d107_2 {R : Int32 → Int32 → Int32 → FI → Option FI} {W H m k c : Nat} {l2 l3 l5 : Int32} (h3 : I 206 3 = nI W) (h4 : I 206 4 = nI H) (hW : W ≤ 6) (hH : H ≤ 6) (hx : c % 6 < W) (hy : c / 6 < H) (hk : k + 1 < 8) : Mod_goOn_107 R N (m + 1) (nI k) l2 l3 (nI c) l5 2 I = if decide (c % 6 + 1 < W) = true then Option.bind (R (nI k + 1) l2 l5 (up2 I 217 (k + 1) (nI (c + 1)))) (fun y => Mod_goOn_107 R N m (nI k) l2 l3 (nI c) l5 3 y) else Mod_goOn_107 R N m (nI k) l2 l3 (nI c) l5 3 I := by
  have hc : c < 36 := by omega
  obtain ⟨z1, z2, z3, z4, z5, z6, z7, z8, z9, z10, z11, z12, z13, z14, z15, z16⟩ := c107
  have rw1 := rowc_e hc
  have cl1 : nI c - nI (c / 6) * 6 = nI (c % 6) := by rw [← rowc_e hc, colc_e hc]
  have g8 : in9 (nI k + 1) 8 = True := by rw [nS]; exact in9_t (by omega) (by omega)
  have t8 : (nI k + 1).toNatClampNeg = k + 1 := by rw [nS]; exact tN (by omega)
  have s1 : (2 : Int32) + 1 = 3 := by decide
  have ey : nI (c % 6) + 1 = nI (c % 6 + 1) := nS _
  have ce : Mod_isCell (nI (c % 6 + 1)) (nI (c / 6)) I = some (decide (c % 6 + 1 < W)) := by rw [cell_nn h3 h4 hW hH (by omega) (by omega)]; simp [hy]
  have ix : (6 : Int32) * nI (c / 6) + nI (c % 6 + 1) = nI (c + 1) := by rw [mx_6, nA]; exact congrArg nI (by omega)
  simp only [↓reduceIte, Mod_goOn_107, z3, z11, z12, z13, rw1, cl1, add_z, ey, ce, ix, g8, t8, s1, Option.bind_some]
theorem d107_3 {R : Int32 → Int32 → Int32 → FI → Option FI} {W H m k c : Nat} {l2 l3 l5 : Int32} (h3 : I 206 3 = nI W) (h4 : I 206 4 = nI H) (hW : W ≤ 6) (hH : H ≤ 6) (hx : c % 6 < W) (hy : c / 6 < H) (hk : k + 1 < 8) : Mod_goOn_107 R N (m + 1) (nI k) l2 l3 (nI c) l5 3 I = if decide (c / 6 + 1 < H) = true then Option.bind (R (nI k + 1) l2 l5 (up2 I 217 (k + 1) (nI (c + 6)))) (fun y => Mod_goOn_107 R N m (nI k) l2 l3 (nI c) l5 4 y) else Mod_goOn_107 R N m (nI k) l2 l3 (nI c) l5 4 I := by
  have hc : c < 36 := by omega
  obtain ⟨z1, z2, z3, z4, z5, z6, z7, z8, z9, z10, z11, z12, z13, z14, z15, z16⟩ := c107
  have rw1 := rowc_e hc
  have cl1 : nI c - nI (c / 6) * 6 = nI (c % 6) := by rw [← rowc_e hc, colc_e hc]
  have g8 : in9 (nI k + 1) 8 = True := by rw [nS]; exact in9_t (by omega) (by omega)
  have t8 : (nI k + 1).toNatClampNeg = k + 1 := by rw [nS]; exact tN (by omega)
  have s1 : (3 : Int32) + 1 = 4 := by decide
  have ey : nI (c / 6) + 1 = nI (c / 6 + 1) := nS _
  have ce : Mod_isCell (nI (c % 6)) (nI (c / 6 + 1)) I = some (decide (c / 6 + 1 < H)) := by rw [cell_nn h3 h4 hW hH (by omega) (by omega)]; simp [hx]
  have ix : (6 : Int32) * nI (c / 6 + 1) + nI (c % 6) = nI (c + 6) := by rw [mx_6, nA]; exact congrArg nI (by omega)
  simp only [↓reduceIte, Mod_goOn_107, z4, z14, z15, z16, rw1, cl1, add_z, ey, ce, ix, g8, t8, s1, Option.bind_some]
theorem d107_4 {R : Int32 → Int32 → Int32 → FI → Option FI} {m c : Nat} {l1 l2 l3 l5 : Int32} (hc : c < 36) : Mod_goOn_107 R N (m + 1) l1 l2 l3 (nI c) l5 4 I = some (up2 I 219 c (I 219 c - 1)) := by
  have g : in9 (nI c) 36 = True := in9_t (by omega) (by omega)
  have t : (nI c).toNatClampNeg = c := tN (by omega)
  have z : ((4 : Int32) ≤ 4) = True := eq_true (by decide)
  simp only [↓reduceIte, Mod_goOn_107, z, g, t, Option.bind_some]
theorem c66 {R : Int32 → Int32 → Int32 → FI → Option FI} {n : Nat} (hn : n ≤ 8) (l1 l3 l4 l5 : Int32) : ∀ m k f, k + m = n → m < f → Mod_goOn_66 R N f l1 (nI n) l3 l4 l5 (nI k) (cp2 I 217 0 218 0 k) = some (cp2 I 217 0 218 0 n) := by
  intro m
  induction m with
  | zero =>
    intro k f hk hf
    obtain ⟨f, rfl⟩ : ∃ e, f = e + 1 := ⟨f - 1, by omega⟩
    obtain rfl : k = n := by omega
    simp (disch := omega) only [Mod_goOn_66, le_nI, ifT]
  | succ m ih =>
    intro k f hk hf
    obtain ⟨f, rfl⟩ : ∃ e, f = e + 1 := ⟨f - 1, by omega⟩
    have h1 := ih (k + 1) f (by omega) (by omega)
    have e := cp2_s (f := I) (s := 217) (sp := 0) (d := 218) (dp := 0) (k := k)
    rw [Nat.zero_add] at e
    have e2 : cp2 I 217 0 218 0 k 217 = I 217 := cp2_o (by omega)
    simp (disch := omega) only [Mod_goOn_66, le_nI, ifF, in9_t, if_true, tN, e2, e, Option.bind_some, nS]
    exact h1
theorem walk_m {W H n : Nat} {wo : Nat → Nat} {w : Nat → Int32} (hN : 2000 ≤ N) (hW : W ≤ 6) (hH : H ≤ 6) (hn : n ≤ 8) (w3 : w 3 = nI W) (w4 : w 4 = nI H) (hwo : ∀ c, wo c ≤ 12) (hw : ∀ c I2, I2 206 = w → c % 6 < W → c / 6 < H → Mod_worthOf N (nI (c % 6)) (nI (c / 6)) I2 = some (nI (wo c))) : ∀ r k c s vis path (st : Nat × (Nat → Nat)) (I : FI) d, k + r + 1 = n → c % 6 < W → c / 6 < H → s ≤ 12 * k → (∀ c, vis c ≤ k) → r < d → RtM n w I k vis path st → I 217 k = nI c → ∃ I1, Mod_goOn_R N d (nI k) (nI n) (nI s) I = some I1 ∧ RtM n w I1 k vis path (rtS W H wo r k c s vis path st) := by
  intro r
  induction r with
  | zero =>
    intro k c s vis path st I d hk hx hy hs hv hd B hp
    obtain ⟨d, rfl⟩ : ∃ e, d = e + 1 := ⟨d - 1, by omega⟩
    have hc : c < 36 := by omega
    have hg := gv_le (vis := vis) (c := c) hwo
    have hwc := hwo c
    have hvc := hv c
    obtain ⟨a1, a2, a3, a4, a5, a6⟩ := B
    have f4 : in9 (nI k) 8 = True := in9_t (by omega) (by omega)
    have f5 : in9 (nI c) 36 = True := in9_t (by omega) (by omega)
    have tk : (nI k).toNatClampNeg = k := tN (by omega)
    have tc : (nI c).toNatClampNeg = c := tN (by omega)
    have f6 : (nI k + 1 = nI n) = True := by rw [nS, eq_nI (by omega) (by omega)]; exact eq_true (by omega)
    have rw1 := rowc_e hc
    have cl1 : nI c - nI (c / 6) * 6 = nI (c % 6) := by rw [← rowc_e hc, colc_e hc]
    have wr := hw c I a1 hx hy
    have v1 := a3 c hc
    have main : Mod_goOn_R N (d + 1) (nI k) (nI n) (nI s) I = if st.1 ≤ s + gv wo vis c then some (cp2 (up2 I 204 31 (nI (s + gv wo vis c))) 217 0 218 0 n) else some I := by
      show Mod_goOn (Mod_goOn_R N d) N (nI k) (nI n) (nI s) I = _
      have e66 := fun l4 z => c66 (R := Mod_goOn_R N d) (N := N) (I := up2 I 204 31 z) hn (nI k) (nI s) l4 z n 0 N (by omega) (by omega)
      simp only [cp2_0, show nI 0 = (0 : Int32) from rfl] at e66
      by_cases v0 : vis c = 0
      · have e0 : (nI (vis c) = 0) = True := eq_true (by rw [v0]; rfl)
        have eg : gv wo vis c = wo c := by unfold gv; rw [if_pos v0]
        have ec : (nI st.1 - 1 < nI (s + wo c)) = (st.1 ≤ s + wo c) := sub1_lt (by omega) (by omega)
        simp only [↓reduceIte, Mod_goOn, hp, f4, f5, tk, tc, v1, e0, f6, rw1, cl1, wr, a2, nA, ec, eg, e66, Option.bind_some]
      · have e0 : (nI (vis c) = 0) = False := by rw [L_0, eq_nI (by omega) (by omega)]; exact eq_false v0
        have eg : gv wo vis c = 0 := by unfold gv; rw [if_neg v0]
        have ec : (nI st.1 - 1 < nI s) = (st.1 ≤ s) := sub1_lt (by omega) (by omega)
        simp only [↓reduceIte, Mod_goOn, hp, f4, f5, tk, tc, v1, e0, f6, a2, ec, eg, e66, Option.bind_some, Nat.add_zero]
    rw [main]
    unfold rtS
    by_cases h : st.1 ≤ s + gv wo vis c
    · rw [if_pos h, if_pos h]
      refine ⟨_, rfl, ?_⟩
      refine ⟨?_, ?_, fun q h1 => ?_, fun j hj => ?_, fun _ j hj => ?_, ?_⟩
      · rw [cp2_o (by omega), u_o (by omega)]; exact a1
      · rw [cp2_o (by omega), u_s, nI_pred]
      · rw [cp2_o (by omega), u_o (by omega)]; exact a3 q h1
      · rw [cp2_o (by omega), u_o (by omega)]; exact a4 j hj
      · rw [cp2_i (by omega) (by omega), Nat.zero_add, Nat.sub_zero, u_o (by omega)]
        show _ = nI (pt1 path k c j)
        unfold pt1
        by_cases z : j = k
        · rw [if_pos z, z, hp]
        · rw [if_neg z]; exact a4 j (by omega)
      · show s + gv wo vis c + 1 ≤ 200; omega
    · rw [if_neg h, if_neg h]
      exact ⟨_, rfl, a1, a2, a3, a4, a5, a6⟩
  | succ r ih =>
    intro k c s vis path st I d hk hx hy hs hv hd B hp
    obtain ⟨d, rfl⟩ : ∃ e, d = e + 1 := ⟨d - 1, by omega⟩
    have hc : c < 36 := by omega
    have hg := gv_le (vis := vis) (c := c) hwo
    have hwc := hwo c
    have hvc := hv c
    obtain ⟨a1, a2, a3, a4, a5, a6⟩ := B
    have f4 : in9 (nI k) 8 = True := in9_t (by omega) (by omega)
    have f5 : in9 (nI c) 36 = True := in9_t (by omega) (by omega)
    have tk : (nI k).toNatClampNeg = k := tN (by omega)
    have tc : (nI c).toNatClampNeg = c := tN (by omega)
    have f6 : (nI (k + 1) = nI n) = False := by rw [eq_nI (by omega) (by omega)]; exact eq_false (by omega)
    have rw1 := rowc_e hc
    have cl1 : nI c - nI (c / 6) * 6 = nI (c % 6) := by rw [← rowc_e hc, colc_e hc]
    have wr := hw c I a1 hx hy
    have v1 := a3 c hc
    have main : Mod_goOn_R N (d + 1) (nI k) (nI n) (nI s) I = Mod_goOn_107 (Mod_goOn_R N d) N N (nI k) (nI n) (nI s) (nI c) (nI (s + gv wo vis c)) 0 (up2 I 219 c (nI (vis c + 1))) := by
      show Mod_goOn (Mod_goOn_R N d) N (nI k) (nI n) (nI s) I = _
      by_cases v0 : vis c = 0
      · have e0 : (nI (vis c) = 0) = True := eq_true (by rw [v0]; rfl)
        have eg : gv wo vis c = wo c := by unfold gv; rw [if_pos v0]
        simp only [↓reduceIte, Mod_goOn, hp, f4, f5, tk, tc, v1, e0, f6, rw1, cl1, wr, nA, nS, eg, Option.bind_some]
      · have e0 : (nI (vis c) = 0) = False := by rw [L_0, eq_nI (by omega) (by omega)]; exact eq_false v0
        have eg : gv wo vis c = 0 := by unfold gv; rw [if_neg v0]
        simp only [↓reduceIte, Mod_goOn, hp, f4, f5, tk, tc, v1, e0, f6, nS, eg, Option.bind_some, Nat.add_zero]
    rw [main]
    have hvis : ∀ q, pt1 vis c (vis c + 1) q ≤ k + 1 := by
      intro q
      have h1 := hv q
      unfold pt1
      split <;> omega
    unfold rtS nbS
    have go : ∀ c2 (st2 : Nat × (Nat → Nat)) (I2 : FI), c2 % 6 < W → c2 / 6 < H → RtM n w I2 (k + 1) (pt1 vis c (vis c + 1)) (pt1 path k c) st2 → ∃ I3, Mod_goOn_R N d (nI k + 1) (nI n) (nI (s + gv wo vis c)) (up2 I2 217 (k + 1) (nI c2)) = some I3 ∧ RtM n w I3 (k + 1) (pt1 vis c (vis c + 1)) (pt1 path k c) ((fun c2 st => rtS W H wo r (k + 1) c2 (s + gv wo vis c) (pt1 vis c (vis c + 1)) (pt1 path k c) st) c2 st2) := by
      intro c2 st2 I2 h1 h2 B2
      obtain ⟨b1, b2, b3, b4, b5, b6⟩ := B2
      rw [nS]
      refine ih (k + 1) c2 _ _ _ st2 _ d (by omega) h1 h2 (by omega) hvis (by omega) ⟨?_, ?_, fun q h1 => ?_, fun j hj => ?_, fun h0 j hj => ?_, b6⟩ u_s
      · rw [u_o (by omega)]; exact b1
      · rw [u_o (by omega)]; exact b2
      · rw [u_o (by omega)]; exact b3 q h1
      · rw [u_j (by omega)]; exact b4 j hj
      · rw [u_o (by omega)]; exact b5 h0 j hj
    generalize (fun c2 st => rtS W H wo r (k + 1) c2 (s + gv wo vis c) (pt1 vis c (vis c + 1)) (pt1 path k c) st) = A at *
    have B0 : RtM n w (up2 I 219 c (nI (vis c + 1))) (k + 1) (pt1 vis c (vis c + 1)) (pt1 path k c) st := by
      refine ⟨?_, ?_, fun q h1 => ?_, fun j hj => ?_, fun h0 j hj => ?_, a6⟩
      · rw [u_o (by omega)]; exact a1
      · rw [u_o (by omega)]; exact a2
      · unfold pt1
        by_cases z : q = c
        · rw [if_pos z, z, u_s]
        · rw [if_neg z, u_j z]; exact a3 q h1
      · rw [u_o (by omega)]
        unfold pt1
        by_cases z : j = k
        · rw [if_pos z, z, hp]
        · rw [if_neg z]; exact a4 j (by omega)
      · rw [u_o (by omega)]; exact a5 h0 j hj
    have stp : ∀ (q : Bool) c2 (K : FI → Option FI) (st2 : Nat × (Nat → Nat)) (I2 : FI), (q = true → c2 % 6 < W ∧ c2 / 6 < H) → RtM n w I2 (k + 1) (pt1 vis c (vis c + 1)) (pt1 path k c) st2 → ∃ I3, (if q = true then Option.bind (Mod_goOn_R N d (nI k + 1) (nI n) (nI (s + gv wo vis c)) (up2 I2 217 (k + 1) (nI c2))) K else K I2) = K I3 ∧ RtM n w I3 (k + 1) (pt1 vis c (vis c + 1)) (pt1 path k c) (nb1 q c2 A st2) := by
      intro q c2 K st2 I2 hz B2
      cases q with
      | true =>
        obtain ⟨z1, z2⟩ := hz rfl
        obtain ⟨I3, i3, B3⟩ := go c2 st2 I2 z1 z2 B2
        exact ⟨I3, by rw [if_pos rfl, i3, Option.bind_some], B3⟩
      | false => exact ⟨I2, by rw [if_neg (by decide)], B2⟩
    obtain ⟨M, rfl⟩ : ∃ e, N = e + 1 + 1 + 1 + 1 + 1 := ⟨N - 5, by omega⟩
    obtain ⟨I1, i1, B1⟩ := stp (decide (0 < c / 6)) (c - 6) (fun y => Mod_goOn_107 (Mod_goOn_R (M + 1 + 1 + 1 + 1 + 1) d) (M + 1 + 1 + 1 + 1 + 1) (M + 1 + 1 + 1 + 1) (nI k) (nI n) (nI s) (nI c) (nI (s + gv wo vis c)) 1 y) st _ (fun y => by have y2 := of_decide_eq_true y; omega) B0
    rw [d107_0 (B0.1 ▸ w3) (B0.1 ▸ w4) hW hH hx hy (by omega), i1]
    obtain ⟨I2, i2, B2⟩ := stp (decide (0 < c % 6)) (c - 1) (fun y => Mod_goOn_107 (Mod_goOn_R (M + 1 + 1 + 1 + 1 + 1) d) (M + 1 + 1 + 1 + 1 + 1) (M + 1 + 1 + 1) (nI k) (nI n) (nI s) (nI c) (nI (s + gv wo vis c)) 2 y) _ I1 (fun y => by have y2 := of_decide_eq_true y; omega) B1
    rw [d107_1 (B1.1 ▸ w3) (B1.1 ▸ w4) hW hH hx hy (by omega), i2]
    obtain ⟨I3, i3, B3⟩ := stp (decide (c % 6 + 1 < W)) (c + 1) (fun y => Mod_goOn_107 (Mod_goOn_R (M + 1 + 1 + 1 + 1 + 1) d) (M + 1 + 1 + 1 + 1 + 1) (M + 1 + 1) (nI k) (nI n) (nI s) (nI c) (nI (s + gv wo vis c)) 3 y) _ I2 (fun y => by have y2 := of_decide_eq_true y; omega) B2
    rw [d107_2 (B2.1 ▸ w3) (B2.1 ▸ w4) hW hH hx hy (by omega), i3]
    obtain ⟨I4, i4, B4⟩ := stp (decide (c / 6 + 1 < H)) (c + 6) (fun y => Mod_goOn_107 (Mod_goOn_R (M + 1 + 1 + 1 + 1 + 1) d) (M + 1 + 1 + 1 + 1 + 1) (M + 1) (nI k) (nI n) (nI s) (nI c) (nI (s + gv wo vis c)) 4 y) _ I3 (fun y => by have y2 := of_decide_eq_true y; omega) B3
    rw [d107_3 (B3.1 ▸ w3) (B3.1 ▸ w4) hW hH hx hy (by omega), i4, d107_4 hc]
    refine ⟨_, rfl, ?_⟩
    obtain ⟨b1, b2, b3, b4, b5, b6⟩ := B4
    refine ⟨?_, ?_, fun q h1 => ?_, fun j hj => ?_, fun h0 j hj => ?_, b6⟩
    · rw [u_o (by omega)]; exact b1
    · rw [u_o (by omega)]; exact b2
    · by_cases z : q = c
      · rw [z, u_s, b3 c hc]
        unfold pt1
        rw [if_pos rfl, nI_pred]
      · rw [u_j z, b3 q h1]
        unfold pt1
        rw [if_neg z]
    · rw [u_o (by omega), b4 j (by omega)]
      unfold pt1
      rw [if_neg (by omega)]
    · rw [u_o (by omega)]; exact b5 h0 j hj
end Q37

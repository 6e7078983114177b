/-! what is asked of routes: both sides -/
/-- what is kept of the last route -/
def RouteR (I I' : FI) : Prop := (∃ n, n ≤ 8 ∧ I 195 5 = nI n ∧ I' 204 30 = nI n ∧ (∀ j, j < n → I 199 j = I' 218 j)) ∧ (∀ c, c < 36 → I' 219 c = 0)
def woF (N W H : Nat) (I' : FI) (c : Nat) : Nat := if c % 6 < W ∧ c / 6 < H then ((Mod_worthOf N (nI (c % 6)) (nI (c / 6)) I').getD 0).toNatClampNeg else 0
/-- what the book's search has laid so far -/
def RtF (W H : Nat) (wo : Nat → Nat) (I0 I : FI) (y x : Nat) : Prop :=
  (∀ c, c % 6 < W → c / 6 < H → (c / 6 < y ∨ c / 6 = y ∧ c % 6 < x) → I 196 c = nI (wo c)) ∧ (∃ G, G ≤ 12 ∧ I 195 4 = nI G ∧ ∀ c, c % 6 < W → c / 6 < H → (c / 6 < y ∨ c / 6 = y ∧ c % 6 < x) → wo c ≤ G) ∧ (∀ q j, q ≤ 44 → I q j = I0 q j)
section Q38
variable {N b ln sp sn ss nP nF nE nW nH nR : Nat} {I I' I0 : FI} {J J' : FJ}
theorem wo_e (h : QR N 25 ln nP nF nE nW nH nR I I') {c : Nat} (hx : c % 6 < nW) (hy : c / 6 < nH) : woF N nW nH I' c ≤ 12 ∧ State_worthOf N 25 ln (nI (c % 6)) (nI (c / 6)) I = some (nI (woF N nW nH I' c)) ∧ Mod_worthOf N (nI (c % 6)) (nI (c / 6)) I' = some (nI (woF N nW nH I' c)) := by
  obtain ⟨v, hv, e1, e2⟩ := worth_q h hx hy
  have e : woF N nW nH I' c = v := by
    unfold woF
    rw [if_pos ⟨hx, hy⟩, e2]
    exact tN (by omega)
  rw [e]
  exact ⟨hv, e1, e2⟩
theorem wo_12 (h : QR N 25 ln nP nF nE nW nH nR I I') (c : Nat) : woF N nW nH I' c ≤ 12 := by
  by_cases g : c % 6 < nW ∧ c / 6 < nH
  · exact (wo_e h g.1 g.2).1
  · unfold woF
    rw [if_neg g]
    omega
theorem wo_m (h : QR N 25 ln nP nF nE nW nH nR I I') (c : Nat) (I2 : FI) (h2 : I2 206 = I' 206) (hx : c % 6 < nW) (hy : c / 6 < nH) : Mod_worthOf N (nI (c % 6)) (nI (c / 6)) I2 = some (nI (woF N nW nH I' c)) := by
  obtain ⟨-, e1, -⟩ := wo_e h hx hy
  have hq : QR N 25 ln nP nF nE nW nH nR I I2 := h.of (fun _ _ _ => rfl) (fun j _ => by rw [h2])
  obtain ⟨v, hv, e3, e4⟩ := worth_q hq hx hy
  rw [e4, ← e3, e1]
theorem search_i (h : QR N 25 ln nP nF nE nW nH nR I0 I') (K : Int32 → Int32 → Int32 → FI → Option FI) (l3 l4 : Int32) {y : Nat} (hy : y < nH) : ∀ m x f (I : FI), x + m = nW → m < f → RtF nW nH (woF N nW nH I') I0 I y x → ∃ I1, RtF nW nH (woF N nW nH I') I0 I1 (y + 1) 0 ∧ Route_search_20 N 195 ln 25 K f l3 l4 (nI y) (nI x) I = K l3 l4 (nI (y + 1)) I1 := by
  have hb := h.bd
  intro m
  induction m with
  | zero =>
    intro x f I hx hf F
    obtain ⟨f, rfl⟩ : ∃ e, f = e + 1 := ⟨f - 1, by omega⟩
    obtain rfl : x = nW := by omega
    obtain ⟨f1, ⟨G, g1, g2, g3⟩, f3⟩ := F
    have hq : QR N 25 ln nP nF nE x nH nR I I' := h.of f3 (fun _ _ => rfl)
    refine ⟨I, ⟨fun c a1 a2 a3 => f1 c a1 a2 (by omega), ⟨G, g1, g2, fun c a1 a2 a3 => g3 c a1 a2 (by omega)⟩, f3⟩, ?_⟩
    simp (disch := omega) only [Route_search_20, hq.cW, le_nI, ifT, nS]
  | succ m ih =>
    intro x f I hx hf F
    obtain ⟨f, rfl⟩ : ∃ e, f = e + 1 := ⟨f - 1, by omega⟩
    obtain ⟨f1, ⟨G, g1, g2, g3⟩, f3⟩ := F
    have hq : QR N 25 ln nP nF nE nW nH nR I I' := h.of f3 (fun _ _ => rfl)
    have c1 : (6 * y + x) % 6 = x := by omega
    have c2 : (6 * y + x) / 6 = y := by omega
    obtain ⟨b1, b2, -⟩ := wo_e hq (c := 6 * y + x) (by omega) (by omega)
    rw [c1, c2] at b2
    obtain ⟨I1, F1, e1⟩ := ih (x + 1) f (up2 (up2 I 196 (6 * y + x) (nI (woF N nW nH I' (6 * y + x)))) 195 4 (if nI G < nI (woF N nW nH I' (6 * y + x)) then nI (woF N nW nH I' (6 * y + x)) else nI G)) (by omega) (by omega) ⟨fun c a1 a2 a3 => by
        rw [u_o (by omega)]
        by_cases z : c = 6 * y + x
        · rw [z, u_s]
        · rw [u_j z]; exact f1 c a1 a2 (by omega), by
        by_cases q : G < woF N nW nH I' (6 * y + x)
        · refine ⟨woF N nW nH I' (6 * y + x), b1, ?_, fun c a1 a2 a3 => ?_⟩
          · rw [u_s, if_pos (by rw [lt_nI (by omega) (by omega)]; exact q)]
          · by_cases z : c = 6 * y + x
            · rw [z]; exact Nat.le_refl _
            · have := g3 c a1 a2 (by omega)
              omega
        · refine ⟨G, g1, ?_, fun c a1 a2 a3 => ?_⟩
          · rw [u_s, if_neg (by rw [lt_nI (by omega) (by omega)]; exact q)]
          · by_cases z : c = 6 * y + x
            · rw [z]; omega
            · exact g3 c a1 a2 (by omega), fun q j hq => by rw [u_o (by omega), u_o (by omega)]; exact f3 q j hq⟩
    refine ⟨I1, F1, ?_⟩
    rw [← e1]
    have A1 : (nI nW ≤ nI x) = False := by rw [le_nI (by omega) (by omega)]; exact eq_false (by omega)
    have i1 : (6 : Int32) * nI y + nI x = nI (6 * y + x) := by rw [mx_6, nA]
    have G1 : in9 (nI (6 * y + x)) 36 = True := in9_t (by omega) (by omega)
    have t1 : (nI (6 * y + x)).toNatClampNeg = 6 * y + x := tN (by omega)
    have e195 : up2 I 196 (6 * y + x) (nI (woF N nW nH I' (6 * y + x))) 195 = I 195 := u_o (by omega)
    simp only [↓reduceIte, Route_search_20, hq.cW, A1, b2, i1, G1, t1, e195, g2, Option.bind_some, nS]
theorem search_o (h : QR N 25 ln nP nF nE nW nH nR I0 I') (l3 l4 : Int32) : ∀ m y f (I : FI), y + m = nH → m < f → RtF nW nH (woF N nW nH I') I0 I y 0 → ∃ I1 e, RtF nW nH (woF N nW nH I') I0 I1 nH 0 ∧ Route_search_8 N 195 ln 25 f l3 l4 (nI y) I = Route_search_8 N 195 ln 25 (e + 1) l3 l4 (nI nH) I1 := by
  have hb := h.bd
  have hN := h.nN
  intro m
  induction m with
  | zero =>
    intro y f I hy hf F
    obtain ⟨f, rfl⟩ : ∃ e, f = e + 1 := ⟨f - 1, by omega⟩
    obtain rfl : y = nH := by omega
    exact ⟨I, f, F, rfl⟩
  | succ m ih =>
    intro y f I hy hf F
    obtain ⟨f, rfl⟩ : ∃ e, f = e + 1 := ⟨f - 1, by omega⟩
    have hq : QR N 25 ln nP nF nE nW nH nR I I' := h.of F.2.2 (fun _ _ => rfl)
    obtain ⟨I2, F2, e2⟩ := search_i h (fun x3 x4 x5 I => Route_search_8 N 195 ln 25 f x3 x4 x5 I) l3 l4 (y := y) (by omega) nW 0 N I (by omega) (by omega) F
    obtain ⟨I1, e, F1, e1⟩ := ih (y + 1) f I2 (by omega) (by omega) F2
    refine ⟨I1, e, F1, ?_⟩
    rw [← e1, ← e2]
    have A1 : (nI nH ≤ nI y) = False := by rw [le_nI (by omega) (by omega)]; exact eq_false (by omega)
    have Z : nI 0 = (0 : Int32) := rfl
    simp only [↓reduceIte, Route_search_8, hq.cH, A1, Z]
theorem search_q (h : QR N 25 ln nP nF nE nW nH nR I I') {c n : Nat} (hx : c % 6 < nW) (hy : c / 6 < nH) (h1 : 1 ≤ n) (hn : n ≤ 8) : ∃ I1, Route_search N 195 ln 25 (nI c) (nI n) I = some I1 ∧ I1 195 6 = nI (rtS nW nH (woF N nW nH I') (n - 1) 0 c 0 (fun _ => 0) (fun _ => 0) (0, fun _ => 0)).1 - 1 ∧ I1 195 5 = nI n ∧ (∀ j, j < n → I1 199 j = nI ((rtS nW nH (woF N nW nH I') (n - 1) 0 c 0 (fun _ => 0) (fun _ => 0) (0, fun _ => 0)).2 j)) := by
  have hb := h.bd
  have hN := h.nN
  have hd := h.dis
  obtain ⟨I1, e, ⟨f1, ⟨G, g1, g2, g3⟩, f3⟩, e1⟩ := search_o h (nI c) (nI n) nH 0 N (up2 I 195 4 0) (by omega) (by omega) ⟨fun c a1 a2 a3 => by omega, ⟨0, by omega, u_s, fun c a1 a2 a3 => by omega⟩, fun q j hq => by rw [u_o (by omega)]⟩
  have hq : QR N 25 ln nP nF nE nW nH nR I1 I' := h.of f3 (fun _ _ => rfl)
  have A1 : (nI nH ≤ nI nH) = True := eq_true (Int32.le_refl _)
  have fe := fill_e (N := N) (a := 197) (n0 := 36) (v := 0) (I := I1) (by omega) (by omega)
  have B0 : RtB ln nW nH n G (woF N nW nH I') (up2 (up2 (fl3 I1 197 0 36 0) 195 5 (nI n)) 195 6 (-1)) 0 (fun _ => 0) (fun _ => 0) (0, fun _ => 0) := by
    refine ⟨?_, ?_, ?_, ?_, ?_, fun q h1 h2 h3 => ?_, fun q h1 => ?_, fun j hj => by omega, fun h0 => absurd h0 (by show ¬ 0 < 0; omega), by show 0 ≤ 200; omega⟩
    · rw [u_o (by omega), u_o (by omega), fl3_o (by omega)]; exact hq.cW
    · rw [u_o (by omega), u_o (by omega), fl3_o (by omega)]; exact hq.cH
    · rw [u_j (by omega), u_j (by omega), fl3_o (by omega)]; exact g2
    · rw [u_j (by omega), u_s]
    · rw [u_s]; decide
    · rw [u_o (by omega), u_o (by omega), fl3_o (by omega)]; exact f1 q h2 h3 (by omega)
    · rw [u_o (by omega), u_o (by omega), fl3_i (by omega) (by omega)]; rfl
  obtain ⟨I2, e2, B2⟩ := walk_b (N := N) (W := nW) (H := nH) (n := n) (by omega) (by omega) hn (by omega) (fun q => by
    by_cases z : q % 6 < nW ∧ q / 6 < nH
    · exact g3 q z.1 z.2 (by omega)
    · unfold woF
      rw [if_neg z]; omega) g1 (n - 1) 0 c 0 (fun _ => 0) (fun _ => 0) (0, fun _ => 0) _ dK (by omega) hx hy (by omega) (fun _ => by show 0 ≤ 0; omega) (by unfold dK; omega) B0
  have p := rt_pos (W := nW) (H := nH) (wo := woF N nW nH I') (by omega) (n - 1) 0 c 0 (fun _ => 0) (fun _ => 0) (0, fun _ => 0)
  obtain ⟨b1, b2, b3, b4, b5, b6, b7, b8, b9, b10⟩ := B2
  refine ⟨I2, ?_, b5, b4, b9 (by omega)⟩
  unfold Route_search
  rw [Option.bind_some]
  rw [show nI 0 = (0 : Int32) from rfl] at e1 e2
  rw [e1]
  simp only [↓reduceIte, Route_search_8, hq.cH, A1, fe, Option.bind_some]
  rw [e2, Option.bind_some]
theorem op_route (h : QR N 25 ln nP nF nE nW nH nR I I') (h2 : RouteR I I') (l1 l2 l3 : Int32) : ∃ v I1 I1', Hol_route N ln sp sn ss l1 l2 l3 I = some (v, I1) ∧ Mod_route N l1 l2 l3 I' = some (v, I1') ∧ RouteR I1 I1' ∧ I1' 204 0 = 0 := by
  have hb := h.bd
  have hN := h.nN
  have h1 := h.thr (v := 0)
  obtain ⟨⟨n0, r1, r2, r3, r4⟩, r5⟩ := h2
  have RZ : RouteR I (up2 I' 204 0 0) := ⟨⟨n0, r1, r2, by rw [u_j (by omega)]; exact r3, fun j hj => by rw [u_o (by omega)]; exact r4 j hj⟩, fun c hc => by rw [u_o (by omega)]; exact r5 c hc⟩
  unfold Hol_route Mod_route
  rcases is_cell h1 l1 l2 with ⟨a, b, i, j, hi, hj, rfl, rfl⟩ | ⟨a, b⟩
  · by_cases c1 : l3 < 1
    · refine ⟨-1, I, up2 I' 204 0 0, ?_, ?_, RZ, u_s⟩
      · simp only [a, c1, if_true]
      · simp only [↓reduceIte, b, Mod_isIn, c1, Bool.false_eq_true, Option.bind_some]
    · obtain ⟨n, hn0, rfl⟩ := nNN (x := l3) (fun z => c1 (Int32.lt_trans z (by decide)))
      have hn1 : 1 ≤ n := by
        rw [L_1, lt_nI (by omega) (by omega)] at c1
        omega
      have c1' := eq_false c1
      by_cases c2 : n ≤ 8
      · have c3 : (nI n ≤ 8) = True := by rw [L_8, le_nI (by omega) (by omega)]; exact eq_true c2
        have c4 : (8 < nI n) = False := by rw [L_8, lt_nI (by omega) (by omega)]; exact eq_false (by omega)
        have ix : (6 : Int32) * nI j + nI i = nI (6 * j + i) := by rw [mx_6, nA]
        obtain ⟨I1, e1, e2, e3, e4⟩ := search_q h1 (c := 6 * j + i) (n := n) (by omega) (by omega) hn1 c2
        obtain ⟨I2, m1, m2, m3, m4, m5, m6, m7⟩ := walk_m (N := N) (W := nW) (H := nH) (n := n) (wo := woF N nW nH (up2 I' 204 0 0)) (w := I' 206) hN (by omega) (by omega) c2 h.mW h.mH (wo_12 h1) (fun c I2 q hx hy => wo_m h1 c I2 (by rw [q, u_o (by omega)]) hx hy) (n - 1) 0 (6 * j + i) 0 (fun _ => 0) (fun _ => 0) (0, fun _ => 0) (up2 (up2 (up2 I' 204 0 0) 204 31 (-1)) 217 0 (nI (6 * j + i))) dK (by omega) (by omega) (by omega) (by omega) (fun _ => by show 0 ≤ 0; omega) (by unfold dK; omega) ⟨by rw [u_o (by omega), u_o (by omega), u_o (by omega)], by rw [u_o (by omega), u_s]; decide, fun c hc => by rw [u_o (by omega), u_o (by omega), u_o (by omega)]; exact r5 c hc, fun j hj => by omega, fun h0 => absurd h0 (by show ¬ 0 < 0; omega), by show 0 ≤ 200; omega⟩ u_s
        have p := rt_pos (W := nW) (H := nH) (wo := woF N nW nH (up2 I' 204 0 0)) hb.2.2.2.1 (n - 1) 0 (6 * j + i) 0 (fun _ => 0) (fun _ => 0) (0, fun _ => 0)
        rw [show nI 0 = (0 : Int32) from rfl] at m1
        have f0 : I2 204 0 = 0 := by
          have := fr_Mod_goOn_R (b := 204) (j := 0) (by omega) (by omega) (by omega) (by omega) _ _ _ _ _ _ m1
          rw [this, u_o (by omega), u_j (by omega), u_s]
        refine ⟨I1 195 6, I1, up2 I2 204 30 (nI n), ?_, ?_, ⟨⟨n, c2, e3, u_s, fun j hj => ?_⟩, fun c hc => ?_⟩, ?_⟩
        · simp only [↓reduceIte, a, c1', c3, ix, e1, Option.bind_some]
        · simp only [↓reduceIte, b, Mod_isIn, c1', c4, T_0, ix, m1, Option.bind_some]
          rw [u_j (by omega), e2, m3]
        · rw [u_o (by omega), e4 j hj, m6 (by omega) j hj]
        · rw [u_o (by omega), m4 c hc]; rfl
        · rw [u_j (by omega)]; exact f0
      · have c3 : (nI n ≤ 8) = False := by rw [L_8, le_nI (by omega) (by omega)]; exact eq_false c2
        have c4 : (8 < nI n) = True := by rw [L_8, lt_nI (by omega) (by omega)]; exact eq_true (by omega)
        refine ⟨-1, I, up2 I' 204 0 0, ?_, ?_, RZ, u_s⟩
        · simp only [↓reduceIte, a, c1', c3]
        · simp only [↓reduceIte, b, Mod_isIn, c1', c4, Bool.false_eq_true, Option.bind_some]
  · refine ⟨-1, I, up2 I' 204 0 0, ?_, ?_, RZ, u_s⟩
    · simp only [a, Bool.false_eq_true, if_false]
    · simp only [b, Bool.false_eq_true, if_false, Option.bind_some]
theorem op_routeAt (h2 : RouteR I I') (l1 : Int32) : ∃ v, Hol_routeAt ln sp sn ss l1 I = some v ∧ Mod_routeAt l1 I' = some (v, up2 I' 204 0 0) := by
  obtain ⟨⟨n, r1, r2, r3, r4⟩, r5⟩ := h2
  unfold Hol_routeAt Mod_routeAt
  have e30 : up2 I' 204 0 0 204 30 = nI n := by rw [u_j (by omega)]; exact r3
  rw [r2, Option.bind_some, e30, isIn_n (by omega)]
  by_cases c1 : l1 < 0
  · exact ⟨-1, by rw [if_pos c1], by simp only [c1, if_true, Bool.false_eq_true, if_false]⟩
  · obtain ⟨j, hj, rfl⟩ := nNN c1
    rw [if_neg c1, if_neg c1]
    have k1 : (nI j < nI n) = (j < n) := lt_nI (by omega) (by omega)
    have k2 : (nI n ≤ nI j) = (n ≤ j) := le_nI (by omega) (by omega)
    simp only [k1, k2]
    by_cases c2 : j < n
    · have g : in9 (nI j) 8 = True := in9_t (by omega) (by omega)
      refine ⟨I 199 j, ?_, ?_⟩
      · rw [if_pos c2]
        simp only [↓reduceIte, g, tN hj]
      · rw [if_neg (show ¬ n ≤ j by omega)]
        simp only [↓reduceIte, g, tN hj]
        rw [u_o (by omega), r4 j c2]
    · refine ⟨-1, by rw [if_neg c2], ?_⟩
      rw [if_pos (show n ≤ j by omega)]
      simp only [Bool.false_eq_true, if_false]
end Q38

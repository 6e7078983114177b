/-! what ploughing might do to what is told: both sides -/
theorem u_u {α : Type} {f : Nat → Nat → α} {a k : Nat} {v w : α} : up2 (up2 f a k v) a k w = up2 f a k w := by
  funext q j
  unfold up2
  by_cases h : q = a ∧ j = k
  · rw [if_pos h, if_pos h]
  · rw [if_neg h, if_neg h, if_neg h]
section Q42
variable {N b ln sp sn ss nP nF nE nW nH nR : Nat} {I I' : FI} {J J' : FJ}
theorem QR.stat_hi (h : QR N b ln nP nF nE nW nH nR I I') {k : Nat} (hk : nF ≤ k) (h10 : k < 10) : QR N b ln nP nF nE nW nH nR I (up2 I' 206 (135 + k) 3) := by
  have hb := h.bd
  obtain ⟨t1, t2, t3, t4, t5, t6, t7, t8, t9, t10, t11⟩ := h.st
  obtain ⟨s1, s2, s3, s4, s5, s6⟩ := h.sw
  refine ⟨h.nN, h.lw.of (fun j hj => u_j (by omega)), h.ld.of (fun _ _ _ _ => rfl) (fun j hj => u_j (by omega)) h.bd.2.1 h.bd.2.2.1, ⟨fun f hf => ?_, fun f hf => ?_, fun f hf => ?_, fun f hf => ?_, fun f hf => ?_, fun f hf => ?_, fun f hf => ?_, fun f hf => ?_, fun f hf => ?_, ?_, ?_⟩, ⟨fun f hf => ?_, fun f hf => ?_, fun f hf => ?_, fun c hc => ?_, ?_, ?_⟩, h.dis⟩
  · rw [u_j (by omega)]; exact t1 f hf
  · rw [u_j (by omega)]; exact t2 f hf
  · rw [u_j (by omega)]; exact t3 f hf
  · rw [u_j (by omega)]; exact t4 f hf
  · rw [u_j (by omega)]; exact t5 f hf
  · rw [u_j (by omega)]; exact t6 f hf
  · rw [u_j (by omega)]; exact t7 f hf
  · rw [u_j (by omega)]; exact t8 f hf
  · rw [u_j (by omega)]; exact t9 f hf
  · rw [u_j (by omega)]; exact t10
  · rw [u_j (by omega)]; exact t11
  · by_cases z : f = k
    · rw [z, u_s]; exact ⟨3, by omega, rfl⟩
    · rw [u_j (by omega)]; exact s1 f hf
  · by_cases z : f = k
    · rw [z, u_s]; exact fun q => absurd q (by decide)
    · rw [u_j (by omega), u_j (by omega)]; exact s2 f hf
  · rw [u_j (by omega), u_j (by omega), u_j (by omega)]; exact s3 f hf
  · rw [u_j (by omega)]; exact s4 c hc
  · rw [u_j (by omega)]; exact s5
  · rw [u_j (by omega), u_j (by omega), u_j (by omega), u_j (by omega), u_j (by omega), u_j (by omega), u_j (by omega)]; exact s6
theorem lay_x (h : QR N b ln nP nF nE nW nH nR I I') {f x y : Nat} (hf : f < nF) (hx : x < nW) (hy : y < nH) : ∃ I1 I1', State_layFind b (nI f) (nI x) (nI y) I = some I1 ∧ Mod_doLay (nI f) (nI x) (nI y) (up2 I' 206 (135 + f) 3) = some I1' ∧ QR N b ln nP nF nE nW nH nR I1 I1' ∧ (∀ j, j < 102 ∨ 209 ≤ j → I1' 206 j = I' 206 j) ∧ I1' 206 (135 + f) = 0 ∧ (∀ g, g ≠ f → g < 10 → I1' 206 (135 + g) = I' 206 (135 + g)) := by
  have hb := h.bd
  refine ⟨up2 (up2 (up2 (up2 I (b + 4) f 0) (b + 1) f (nI x)) (b + 2) f (nI y)) (b + 3) f 0, up2 (up2 (up2 (up2 I' 206 (135 + f) 0) 206 (105 + f) (nI x)) 206 (115 + f) (nI y)) 206 (125 + f) 0, ?_, ?_, ?_, fun j hj => by simp (disch := omega) only [u_j], ?_, fun g h1 h2 => by simp (disch := omega) only [u_j]⟩
  · unfold State_layFind
    simp (disch := omega) only [in9_t, if_true, tN, Option.bind_some]
  · unfold Mod_doLay
    simp (disch := omega) only [ax_135, ax_105, ax_115, ax_125, in9_t, if_true, tN, Option.bind_some, u_u]
  · exact (((h.set_stat hf ⟨0, by decide, rfl⟩ (fun q => absurd q (by decide))).set_x hf ⟨x, hx, rfl⟩).set_y hf ⟨y, hy, rfl⟩).set_deep hf ⟨0, by decide, rfl⟩
  · rw [u_j (by omega), u_j (by omega), u_j (by omega), u_s]
theorem has_e (s : Int32) {k : Nat} (hk : k < 10) : Mod_has s (nI k) = bt s k := by
  unfold Mod_has
  by_cases q : bt s k = true
  · rw [if_pos (by rw [b_has (by omega)]; exact q), q]
  · rw [if_neg (by rw [b_has (by omega)]; exact q)]
    exact (Bool.eq_false_iff.mpr q).symm
/-- what is told is gathered in one place: first what there is -/
theorem gath_l {s : Int32} {x y : Nat} (hx : x < nW) (hy : y < nH) (K : Int32 → Int32 → Int32 → Int32 → Int32 → Int32 → Int32 → Int32 → FI → Option (Int32 × FI)) (l3 l4 l6 l7 l8 : Int32) : ∀ m k f e (I I' : FI), k + m = nF → m < f → QR N 35 ln nP nF nE nW nH nR I I' → (∀ g, k ≤ g → g < nF → bt s g = decide (I' 206 (135 + g) = 2)) → (∀ g, g < k → I' 206 (135 + g) = if bt s g then 0 else 3) → ∃ I1 I1', State_gatherTold_3 N 35 ln f (nI x) (nI y) (nI k) I = some I1 ∧ Mod_doubt_60 N K (e + m) (nI x) (nI y) l3 l4 s l6 l7 l8 (nI k) I' = Mod_doubt_60 N K e (nI x) (nI y) l3 l4 s l6 l7 l8 (nI nF) I1' ∧ QR N 35 ln nP nF nE nW nH nR I1 I1' ∧ (∀ g, g < nF → I1' 206 (135 + g) = if bt s g then 0 else 3) ∧ (∀ j, j < 102 ∨ 209 ≤ j → I1' 206 j = I' 206 j) ∧ (∀ q j, q ≠ 206 → I1' q j = I' q j) := by
  intro m
  induction m with
  | zero =>
    intro k f e I I' hk hf h g1 g2
    have hb := h.bd
    obtain ⟨f, rfl⟩ : ∃ e, f = e + 1 := ⟨f - 1, by omega⟩
    obtain rfl : k = nF := by omega
    exact ⟨I, I', by simp (disch := omega) only [State_gatherTold_3, h.cF, le_nI, ifT], rfl, h, g2, fun _ _ => rfl, fun _ _ _ => rfl⟩
  | succ m ih =>
    intro k f e I I' hk hf h g1 g2
    have hb := h.bd
    obtain ⟨f, rfl⟩ : ∃ e, f = e + 1 := ⟨f - 1, by omega⟩
    have cF := h.cF
    have A1 : (nI nF ≤ nI k) = False := by rw [le_nI (by omega) (by omega)]; exact eq_false (by omega)
    have A2 : ((10 : Int32) ≤ nI k) = False := by rw [L_10, le_nI (by omega) (by omega)]; exact eq_false (by omega)
    have G : in9 (nI k) 10 = True := in9_t (by omega) (by omega)
    have t : (nI k).toNatClampNeg = k := tN (by omega)
    have G1 : in9 (135 + nI k) 451 = True := by rw [ax_135]; exact in9_t (by omega) (by omega)
    have T1 : ((135 : Int32) + nI k).toNatClampNeg = 135 + k := by rw [ax_135]; exact tN (by omega)
    have st := h.stat_35 (f := k) (by omega)
    have he := has_e s (k := k) (by omega)
    have gk := g1 k (Nat.le_refl _) (by omega)
    by_cases c : I' 206 (135 + k) = 2
    · have bk : bt s k = true := by rw [gk, c]; rfl
      obtain ⟨I2, I2', x1, x2, x3, x4, x5, x6⟩ := lay_x h (f := k) (by omega) hx hy
      obtain ⟨I1, I1', y1, y2, y3, y4, y5, y6⟩ := ih (k + 1) f e I2 I2' (by omega) (by omega) x3 (fun g h1 h2 => by rw [x6 g (by omega) (by omega)]; exact g1 g (by omega) h2) (fun g h1 => by
        by_cases z : g = k
        · rw [z, x5, bk]; rfl
        · rw [x6 g z (by omega)]; exact g2 g (by omega))
      refine ⟨I1, I1', ?_, ?_, y3, y4, fun j hj => (y5 j hj).trans (x4 j hj), fun q j hq => by rw [y6 q j hq, fr_Mod_doLay hq x2, u_o hq]⟩
      · rw [← y1]; simp only [↓reduceIte, State_gatherTold_3, cF, A1, G, t, st, c, x1, nS, Option.bind_some]
      · rw [← y2]
        show Mod_doubt_60 N K ((e + m) + 1) _ _ _ _ _ _ _ _ _ _ = _
        simp only [↓reduceIte, Mod_doubt_60, A2, G1, T1, he, bk, x2, nS, Option.bind_some]
    · have bk : bt s k = false := by rw [gk]; exact decide_eq_false c
      have h3 := h.set_stat (i := k) (by omega) (v := 3) ⟨3, by omega, rfl⟩ (fun q => absurd q (by decide))
      obtain ⟨I1, I1', y1, y2, y3, y4, y5, y6⟩ := ih (k + 1) f e _ _ (by omega) (by omega) h3 (fun g h1 h2 => by rw [u_j (by omega)]; exact g1 g (by omega) h2) (fun g h1 => by
        by_cases z : g = k
        · rw [z, u_s, bk]; rfl
        · rw [u_j (by omega)]; exact g2 g (by omega))
      refine ⟨I1, I1', ?_, ?_, y3, y4, fun j hj => by rw [y5 j hj, u_j (by omega)], fun q j hq => by rw [y6 q j hq, u_o hq]⟩
      · rw [← y1]; simp only [↓reduceIte, State_gatherTold_3, cF, A1, G, t, st, c, nS, Option.bind_some]
      · rw [← y2]
        show Mod_doubt_60 N K ((e + m) + 1) _ _ _ _ _ _ _ _ _ _ = _
        simp only [↓reduceIte, Mod_doubt_60, A2, G1, T1, he, bk, Bool.false_eq_true, nS, Option.bind_some]
/-- then what there is not -/
theorem gath_h {s : Int32} {l1 l2 : Int32} (hs : ∀ k, nF ≤ k → k < 10 → bt s k = false) (K : Int32 → Int32 → Int32 → Int32 → Int32 → Int32 → Int32 → Int32 → FI → Option (Int32 × FI)) (l3 l4 l6 l7 l8 : Int32) : ∀ m k e (I' : FI), k + m = 10 → nF ≤ k → QR N 35 ln nP nF nE nW nH nR I I' → ∃ I1', Mod_doubt_60 N K (e + m) l1 l2 l3 l4 s l6 l7 l8 (nI k) I' = Mod_doubt_60 N K e l1 l2 l3 l4 s l6 l7 l8 (nI 10) I1' ∧ QR N 35 ln nP nF nE nW nH nR I I1' ∧ (∀ g, g < nF → I1' 206 (135 + g) = I' 206 (135 + g)) ∧ (∀ j, j < 102 ∨ 209 ≤ j → I1' 206 j = I' 206 j) ∧ (∀ q j, q ≠ 206 → I1' q j = I' q j) := by
  intro m
  induction m with
  | zero =>
    intro k e I' hk hn h
    obtain rfl : k = 10 := by omega
    exact ⟨I', rfl, h, fun _ _ => rfl, fun _ _ => rfl, fun _ _ _ => rfl⟩
  | succ m ih =>
    intro k e I' hk hn h
    obtain ⟨I1', y2, y3, y4, y5, y6⟩ := ih (k + 1) e _ (by omega) (by omega) (h.stat_hi (k := k) hn (by omega))
    have A2 : ((10 : Int32) ≤ nI k) = False := by rw [L_10, le_nI (by omega) (by omega)]; exact eq_false (by omega)
    have G1 : in9 (135 + nI k) 451 = True := by rw [ax_135]; exact in9_t (by omega) (by omega)
    have T1 : ((135 : Int32) + nI k).toNatClampNeg = 135 + k := by rw [ax_135]; exact tN (by omega)
    have he := has_e s (k := k) (by omega)
    have bk := hs k hn (by omega)
    refine ⟨I1', ?_, y3, fun g hg => by rw [y4 g hg, u_j (by omega)], fun j hj => by rw [y5 j hj, u_j (by omega)], fun q j hq => by rw [y6 q j hq, u_o hq]⟩
    rw [← y2]
    show Mod_doubt_60 N K ((e + m) + 1) _ _ _ _ _ _ _ _ _ _ = _
    simp only [↓reduceIte, Mod_doubt_60, A2, G1, T1, he, bk, Bool.false_eq_true, nS, Option.bind_some]
theorem pl_l {s l1 l2 z1 z2 z3 l3 l4 l6 l7 l8 : Int32} (K : Int32 → Int32 → Int32 → Int32 → Int32 → Int32 → Int32 → Int32 → FI → Option (Int32 × FI)) : ∀ m k f f' (I I' : FI), k + m = 3 → m < f → m < f' → QR N 35 ln nP nF nE nW nH nR I I' → I 192 0 = I' 204 25 → ∃ I1 I1', Hol_spreadByPlough_35 N ln sp sn ss f z1 z2 z3 (nI k) I = Option.bind (State_stepsBetween N 35 ln 0 I1) (fun x4 => some (x4, I1)) ∧ Mod_doubt_115 N K f' l1 l2 l3 l4 s l6 l7 l8 (nI k) I' = Option.bind (Mod_spreadOf N s I1') (fun x7 => if x7 < l6 then Option.bind (Mod_takeBack N I1') (fun x8 => K l1 l2 l3 l4 s l6 l7 (l8 + 1) x8) else Option.bind (Mod_takeBack N I1') (fun x9 => K l1 l2 l3 l4 s l6 (l7 + 1) (l8 + 1) x9)) ∧ QR N 35 ln nP nF nE nW nH nR I1 I1' ∧ (∀ q j, q ≠ 36 → q ≠ 37 → q ≠ 38 → q ≠ 44 → ¬ (q = 35 ∧ j = 10) → ¬ (q = 192 ∧ j = 0) → I1 q j = I q j) ∧ (∀ q j, q ≠ 206 → ¬ (q = 204 ∧ j = 25) → I1' q j = I' q j) ∧ (∀ j, j < 102 ∨ 209 ≤ j → I1' 206 j = I' 206 j) := by
  intro m
  induction m with
  | zero =>
    intro k f f' I I' hk hf hf' h hs
    obtain ⟨f, rfl⟩ : ∃ e, f = e + 1 := ⟨f - 1, by omega⟩
    obtain ⟨f', rfl⟩ : ∃ e, f' = e + 1 := ⟨f' - 1, by omega⟩
    obtain rfl : k = 3 := by omega
    have A1 : ((3 : Int32) ≤ nI 3) = True := eq_true (by decide)
    exact ⟨I, I', by simp only [↓reduceIte, Hol_spreadByPlough_35, A1], by simp only [↓reduceIte, Mod_doubt_115, A1], h, fun _ _ _ _ _ _ _ _ => rfl, fun _ _ _ _ => rfl, fun _ _ => rfl⟩
  | succ m ih =>
    intro k f f' I I' hk hf hf' h hs
    obtain ⟨f, rfl⟩ : ∃ e, f = e + 1 := ⟨f - 1, by omega⟩
    obtain ⟨f', rfl⟩ : ∃ e, f' = e + 1 := ⟨f' - 1, by omega⟩
    have A1 : ((3 : Int32) ≤ nI k) = False := by rw [L_3, le_nI (by omega) (by omega)]; exact eq_false (by omega)
    obtain ⟨v, I2, I2', x1, x2, x3, x4, x5⟩ := turn_q h hs
    obtain ⟨I1, I1', y1, y2, y3, y4, y5, y6⟩ := ih (k + 1) f f' I2 I2' (by omega) (by omega) (by omega) x3 x4
    refine ⟨I1, I1', ?_, ?_, y3, fun q j h1 h2 h3 h4 h5 h6 => ?_, fun q j h1 h2 => ?_, fun j hj => (y6 j hj).trans (x5 j hj)⟩
    · rw [← y1]; simp only [↓reduceIte, Hol_spreadByPlough_35, A1, x1, nS, Option.bind_some]
    · rw [← y2]; simp only [↓reduceIte, Mod_doubt_115, A1, x2, nS, Option.bind_some]
    · rw [y4 q j h1 h2 h3 h4 h5 h6]
      exact fr_State_turnOver h1 h2 h3 h4 h5 h6 x1
    · rw [y5 q j h1 h2]
      exact fr_Mod_doPlough h1 h2 x2
end Q42

/-! how finds are spread, which fears fit: both sides -/
/-- the sum over pairs of members -/
def prF (p : Nat → Bool) (d : Nat → Nat → Int32) (f : Nat) : Nat → Int32 → Int32 := fun g a => bif p f && p g then a + d f g else a
def spF (p : Nat → Bool) (d : Nat → Nat → Int32) (n : Nat) : Int32 := itF (fun f a => itF (prF p d f) f a) n 0
def wayF (w : Nat → Int32) (f g : Nat) : Int32 := Mod_away (w (105 + f)) (w (115 + f)) (w (105 + g)) (w (115 + g))
theorem spF_congr {p q : Nat → Bool} {d : Nat → Nat → Int32} {n : Nat} (h : ∀ k, k < n → p k = q k) : spF p d n = spF q d n := by
  unfold spF
  refine itF_congr (fun f hf x => itF_congr (fun g hg y => ?_))
  unfold prF
  rw [h f hf, h g (by omega)]
theorem spF_ext {p : Nat → Bool} {d : Nat → Nat → Int32} {n m : Nat} (hnm : n ≤ m) (h : ∀ k, n ≤ k → k < m → p k = false) : spF p d m = spF p d n := by
  unfold spF
  refine itF_ext hnm (fun k h1 h2 x => itF_id (fun g hg y => ?_))
  unfold prF
  rw [h k h1 h2]
  rfl
section Q32
variable {N b ln sp sn ss nP nF nE nW nH nR : Nat} {I I' : FI}
theorem steps_i (h : QR N b ln nP nF nE nW nH nR I I') (K : Int32 → Int32 → Int32 → FI → Option Int32) {f : Nat} (hf : f < nF) (w a0 : Int32) : ∀ m g n, g + m = f → m < n → State_stepsBetween_17 N b ln K n w (itF (prF (fun f => decide (I' 206 (135 + f) = w)) (wayF (I' 206)) f) g a0) (nI f) (nI g) I = K w (itF (prF (fun f => decide (I' 206 (135 + f) = w)) (wayF (I' 206)) f) f a0) (nI (f + 1)) I := by
  have hb := h.bd
  intro m
  induction m with
  | zero =>
    intro g n hk hn
    obtain ⟨n, rfl⟩ : ∃ e, n = e + 1 := ⟨n - 1, by omega⟩
    obtain rfl : g = f := by omega
    simp (disch := omega) only [State_stepsBetween_17, le_nI, ifT, nS]
  | succ m ih =>
    intro g n hk hn
    obtain ⟨n, rfl⟩ : ∃ e, n = e + 1 := ⟨n - 1, by omega⟩
    have h1 := ih (g + 1) n (by omega) (by omega)
    have s1 := h.stat (f := f) (by omega)
    have s2 := h.stat (f := g) (by omega)
    have x1 := h.x (f := f) (by omega)
    have x2 := h.x (f := g) (by omega)
    have y1 := h.y (f := f) (by omega)
    have y2 := h.y (f := g) (by omega)
    have A1 : (nI f ≤ nI g) = False := by rw [le_nI (by omega) (by omega)]; exact eq_false (by omega)
    have G1 : in9 (nI f) 10 = True := in9_t (by omega) (by omega)
    have G2 : in9 (nI g) 10 = True := in9_t (by omega) (by omega)
    have T1 : (nI f).toNatClampNeg = f := tN (by omega)
    have T2 : (nI g).toNatClampNeg = g := tN (by omega)
    by_cases c1 : I' 206 (135 + f) = w
    · by_cases c2 : I' 206 (135 + g) = w
      · simp only [↓reduceIte, State_stepsBetween_17, A1, G1, G2, T1, T2, s1, s2, c1, c2, x1, x2, y1, y2, nS]
        rw [← h1]
        simp only [itF, prF, c1, c2, decide_true, Bool.and_self, cond_true, wayF, Mod_away, Mod_size]
      · simp only [↓reduceIte, State_stepsBetween_17, A1, G1, G2, T1, T2, s1, s2, c1, c2, nS]
        rw [← h1]
        simp only [itF, prF, c1, c2, decide_true, decide_false, Bool.and_false, cond_false]
    · simp only [↓reduceIte, State_stepsBetween_17, A1, G1, T1, s1, c1, nS]
      rw [← h1]
      simp only [itF, prF, c1, decide_false, Bool.false_and, cond_false]
theorem steps_q (h : QR N b ln nP nF nE nW nH nR I I') (w : Int32) : State_stepsBetween N b ln w I = some (spF (fun f => decide (I' 206 (135 + f) = w)) (wayF (I' 206)) nF) := by
  have hb := h.bd
  have hN := h.nN
  have key : ∀ m f n, f + m = nF → m < n → State_stepsBetween_5 N b ln n w (itF (fun f a => itF (prF (fun f => decide (I' 206 (135 + f) = w)) (wayF (I' 206)) f) f a) f 0) (nI f) I = some (spF (fun f => decide (I' 206 (135 + f) = w)) (wayF (I' 206)) nF) := by
    intro m
    induction m with
    | zero =>
      intro k n hk hn
      obtain ⟨n, rfl⟩ : ∃ e, n = e + 1 := ⟨n - 1, by omega⟩
      obtain rfl : k = nF := by omega
      simp (disch := omega) only [State_stepsBetween_5, h.cF, le_nI, ifT, spF]
    | succ m ih =>
      intro k n hk hn
      obtain ⟨n, rfl⟩ : ∃ e, n = e + 1 := ⟨n - 1, by omega⟩
      have h1 := ih (k + 1) n (by omega) (by omega)
      have e := steps_i h (fun x2 x3 x4 I => State_stepsBetween_5 N b ln n x2 x3 x4 I) (f := k) (by omega) w (itF (fun f a => itF (prF (fun f => decide (I' 206 (135 + f) = w)) (wayF (I' 206)) f) f a) k 0) k 0 N (by omega) (by omega)
      simp (disch := omega) only [State_stepsBetween_5, h.cF, le_nI, ifF]
      exact e.trans h1
  exact key nF 0 N (by omega) (by omega)
theorem spread_i (K : Int32 → Int32 → Int32 → FI → Option Int32) {f : Nat} (hf : f < 10) (s a0 : Int32) : ∀ m g n, g + m = f → m < n → Mod_spreadOf_13 N K n s (itF (prF (bt s) (wayF (I' 206)) f) g a0) (nI f) (nI g) I' = K s (itF (prF (bt s) (wayF (I' 206)) f) f a0) (nI (f + 1)) I' := by
  intro m
  induction m with
  | zero =>
    intro g n hk hn
    obtain ⟨n, rfl⟩ : ∃ e, n = e + 1 := ⟨n - 1, by omega⟩
    obtain rfl : g = f := by omega
    simp (disch := omega) only [Mod_spreadOf_13, le_nI, ifT, nS]
  | succ m ih =>
    intro g n hk hn
    obtain ⟨n, rfl⟩ : ∃ e, n = e + 1 := ⟨n - 1, by omega⟩
    have h1 := ih (g + 1) n (by omega) (by omega)
    simp (disch := omega) only [Mod_spreadOf_13, Mod_has, le_nI, ifF, b_has, ax_105, ax_115, in9_t, if_true, tN, nS]
    rw [← h1]
    cases c1 : bt s f with
    | true =>
      cases c2 : bt s g with
      | true => simp [itF, prF, c1, c2, wayF]
      | false => simp [itF, prF, c1, c2]
    | false => simp [itF, prF, c1]
theorem spread_q (hN : 2000 ≤ N) {s : Int32} (hF : nF ≤ 10) (hs : ∀ k, nF ≤ k → k < 10 → bt s k = false) : Mod_spreadOf N s I' = some (spF (bt s) (wayF (I' 206)) nF) := by
  rw [← spF_ext (m := 10) hF hs]
  have key : ∀ m f n, f + m = 10 → m < n → Mod_spreadOf_4 N n s (itF (fun f a => itF (prF (bt s) (wayF (I' 206)) f) f a) f 0) (nI f) I' = some (spF (bt s) (wayF (I' 206)) 10) := by
    intro m
    induction m with
    | zero =>
      intro k n hk hn
      obtain ⟨n, rfl⟩ : ∃ e, n = e + 1 := ⟨n - 1, by omega⟩
      obtain rfl : k = 10 := by omega
      simp (disch := omega) only [Mod_spreadOf_4, L_10, le_nI, ifT, spF]
    | succ m ih =>
      intro k n hk hn
      obtain ⟨n, rfl⟩ : ∃ e, n = e + 1 := ⟨n - 1, by omega⟩
      have h1 := ih (k + 1) n (by omega) (by omega)
      have e := spread_i (N := N) (I' := I') (fun x1 x2 x3 I => Mod_spreadOf_4 N n x1 x2 x3 I) (f := k) (by omega) s (itF (fun f a => itF (prF (bt s) (wayF (I' 206)) f) f a) k 0) k 0 N (by omega) (by omega)
      simp (disch := omega) only [Mod_spreadOf_4, L_10, le_nI, ifF]
      exact e.trans h1
  exact key 10 0 N (by omega) (by omega)
theorem told_bt (h : QR N b ln nP nF nE nW nH nR I I') {w : Int32} {k : Nat} (hk : k < nF) : bt (bitsF (fun f => decide (I' 206 (135 + f) = w)) nF) k = decide (I' 206 (135 + k) = w) := by
  have hb := h.bd
  rw [b_bitsF (by omega) (by omega)]
  simp [hk]
theorem op_spread (h : QR N 25 ln nP nF nE nW nH nR I I') : ∃ v, Hol_spread N ln sp sn ss I = some v ∧ Mod_spread N I' = some (v, up2 I' 204 0 0) := by
  have hb := h.bd
  have h1 := h.thr (v := 0)
  unfold Hol_spread Mod_spread
  obtain ⟨g1, g2⟩ := bits_q h1 2
  simp only [g2, steps_q h1, spread_q h.nN hb.2.1 (fun k a b => told_hi hb.2.1 a b), Option.bind_some]
  exact ⟨_, rfl, by rw [spF_congr (fun k hk => told_bt h1 hk)]⟩
/-- the latest year of what is told -/
def latF (p : Nat → Bool) (y : Nat → Int32) : Nat → Int32 → Int32 := fun f a => bif p f then (if a < y f then y f else a) else a
theorem latest_q (h : QR N b ln nP nF nE nW nH nR I I') : State_latestTold N b ln I = some (itF (latF (fun f => decide (I' 206 (135 + f) = 2)) (fun f => I' 206 (70 + f))) nF (-1)) := by
  have hb := h.bd
  have hN := h.nN
  have key : ∀ m k n, k + m = nF → m < n → State_latestTold_4 N b ln n (itF (latF (fun f => decide (I' 206 (135 + f) = 2)) (fun f => I' 206 (70 + f))) k (-1)) (nI k) I = some (itF (latF (fun f => decide (I' 206 (135 + f) = 2)) (fun f => I' 206 (70 + f))) nF (-1)) := by
    intro m
    induction m with
    | zero =>
      intro k n hk hn
      obtain ⟨n, rfl⟩ : ∃ e, n = e + 1 := ⟨n - 1, by omega⟩
      obtain rfl : k = nF := by omega
      simp (disch := omega) only [State_latestTold_4, h.cF, le_nI, ifT]
    | succ m ih =>
      intro k n hk hn
      obtain ⟨n, rfl⟩ : ∃ e, n = e + 1 := ⟨n - 1, by omega⟩
      have h1 := ih (k + 1) n (by omega) (by omega)
      simp (disch := omega) only [State_latestTold_4, h.cF, le_nI, ifF, in9_t, if_true, tN, nS, h.stat, L_4, fact_e h, Option.bind_some, h.f_year]
      rw [← h1]
      by_cases c : I' 206 (135 + k) = 2
      · simp only [c, if_true, itF, latF, decide_true, cond_true]
      · simp only [c, if_false, itF, latF, decide_false, cond_false]
  exact key nF 0 N (by omega) (by omega)
end Q32

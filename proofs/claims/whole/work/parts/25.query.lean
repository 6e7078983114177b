/-! what is asked of what is so: both sides -/
theorem sub1_lt {n j : Nat} (hn : n < 2147483648) (hj : j < 2147483648) : (nI n - 1 < nI j) = (n ≤ j) := by
  cases n with
  | zero =>
    rw [show nI 0 - 1 = -1 from by decide]
    refine (eq_true ?_).trans (eq_true (Nat.zero_le _)).symm
    rw [Int32.lt_iff_toInt_lt, nInt hj]
    have : (-1 : Int32).toInt = -1 := by decide
    omega
  | succ n =>
    rw [nI_pred, lt_nI (by omega) hj]
    exact propext ⟨fun h => by omega, fun h => by omega⟩
theorem isIn_n {n : Nat} (hn : n < 2147483648) (x : Int32) : Mod_isIn x 0 (nI n - 1) = (if x < 0 then false else if nI n ≤ x then false else true) := by
  unfold Mod_isIn
  by_cases h : x < 0
  · rw [if_pos h, if_pos h]
  · rw [if_neg h, if_neg h]
    obtain ⟨j, hj, rfl⟩ := nNN h
    simp only [sub1_lt hn hj, le_nI hn hj]
section Q25
variable {N b ln nP nF nE nW nH nR : Nat} {I I' : FI}
theorem is_person (h : QR N b ln nP nF nE nW nH nR I I') (p : Int32) : (Land_hasPerson ln p I = true ∧ Mod_isPerson p I' = some true ∧ ∃ j, j < nP ∧ p = nI j) ∨ (Land_hasPerson ln p I = false ∧ Mod_isPerson p I' = some false) := by
  have hb := h.bd
  unfold Land_hasPerson Mod_isPerson
  rw [T_0, h.mP, h.cP, isIn_n (by omega)]
  by_cases h1 : p < 0
  · right; simp [h1]
  · by_cases h2 : nI nP ≤ p
    · right; simp [h1, h2]
    · left; exact ⟨by simp [h1, h2], by simp [h1, h2], nIX h1 h2 (by omega)⟩
theorem is_find (h : QR N b ln nP nF nE nW nH nR I I') (p : Int32) : (Land_hasFind ln p I = true ∧ Mod_isFind p I' = some true ∧ ∃ j, j < nF ∧ p = nI j) ∨ (Land_hasFind ln p I = false ∧ Mod_isFind p I' = some false) := by
  have hb := h.bd
  unfold Land_hasFind Mod_isFind
  rw [T_1, h.mF, h.cF, isIn_n (by omega)]
  by_cases h1 : p < 0
  · right; simp [h1]
  · by_cases h2 : nI nF ≤ p
    · right; simp [h1, h2]
    · left; exact ⟨by simp [h1, h2], by simp [h1, h2], nIX h1 h2 (by omega)⟩
theorem is_cell (h : QR N b ln nP nF nE nW nH nR I I') (x y : Int32) : (Land_hasCell ln x y I = true ∧ Mod_isCell x y I' = some true ∧ ∃ i j, i < nW ∧ j < nH ∧ x = nI i ∧ y = nI j) ∨ (Land_hasCell ln x y I = false ∧ Mod_isCell x y I' = some false) := by
  have hb := h.bd
  unfold Land_hasCell Mod_isCell
  rw [T_3, T_4, h.mW, h.cW, h.mH, h.cH, isIn_n (by omega), isIn_n (by omega)]
  by_cases h1 : x < 0
  · right; simp [h1]
  · by_cases h2 : nI nW ≤ x
    · right; simp [h1, h2]
    · by_cases h3 : y < 0
      · right; simp [h1, h2, h3]
      · by_cases h4 : nI nH ≤ y
        · right; simp [h1, h2, h3, h4]
        · left
          obtain ⟨i, hi, rfl⟩ := nIX h1 h2 (by omega)
          obtain ⟨j, hj, rfl⟩ := nIX h3 h4 (by omega)
          exact ⟨by simp [h1, h2, h3, h4], by simp [h1, h2, h3, h4], i, j, hi, hj, rfl, rfl⟩
theorem fact_e (h : QR N b ln nP nF nE nW nH nR I I') {f : Nat} (hf : f < nF) {w : Nat} (hw : w < 6) : Land_factOf ln (nI f) (nI w) I = some (I (ln + 4) (f * 6 + w)) := by
  have hb := h.bd
  unfold Land_factOf
  simp (disch := omega) only [h.cF, L_0, L_6, lt_nI, le_nI, ifF, ifT, nM, nA, in9_t, if_true, tN]
theorem bits_q (h : QR N b ln nP nF nE nW nH nR I I') (w : Int32) : State_bitsOf N b ln w I = some (bitsF (fun f => decide (I' 206 (135 + f) = w)) nF) ∧ Mod_those N w I' = some (bitsF (fun f => decide (I' 206 (135 + f) = w)) nF) := by
  have hb := h.bd
  have hN := h.nN
  have key : ∀ m k n n', k + m = nF → m < n → m < n' → State_bitsOf_5 N b ln n w (bitsF (fun f => decide (I' 206 (135 + f) = w)) k) (nI k) I = some (bitsF (fun f => decide (I' 206 (135 + f) = w)) nF) ∧ Mod_those_4 N n' w (bitsF (fun f => decide (I' 206 (135 + f) = w)) k) (nI k) I' = some (bitsF (fun f => decide (I' 206 (135 + f) = w)) nF) := by
    intro m
    induction m with
    | zero =>
      intro k n n' hk hn hn'
      obtain ⟨n, rfl⟩ : ∃ e, n = e + 1 := ⟨n - 1, by omega⟩
      obtain ⟨n', rfl⟩ : ∃ e, n' = e + 1 := ⟨n' - 1, by omega⟩
      obtain rfl : k = nF := by omega
      simp (disch := omega) only [State_bitsOf_5, Mod_those_4, T_1, h.cF, h.mF, le_nI, ifT, and_self]
    | succ m ih =>
      intro k n n' hk hn hn'
      obtain ⟨n, rfl⟩ : ∃ e, n = e + 1 := ⟨n - 1, by omega⟩
      obtain ⟨n', rfl⟩ : ∃ e, n' = e + 1 := ⟨n' - 1, by omega⟩
      have h1 := ih (k + 1) n n' (by omega) (by omega) (by omega)
      simp (disch := omega) only [State_bitsOf_5, Mod_those_4, T_1, h.cF, h.mF, le_nI, ifF, ax_135, in9_t, if_true, tN, nS, h.stat]
      by_cases hc : I' 206 (135 + k) = w
      · simpa [hc, bitsF] using h1
      · simpa [hc, bitsF] using h1
  exact key nF 0 N N (by omega) (by omega) (by omega)
theorem had_q (h : QR N b ln nP nF nE nW nH nR I I') (p l2 : Int32) : State_hadBy N b ln p I = some (bitsF (fun f => decide (I' 206 (135 + f) = 1 ∧ I' 206 (145 + f) = p)) nF) ∧ Mod_person_62 N N p l2 0 0 I' = some (bitsF (fun f => decide (I' 206 (135 + f) = 1 ∧ I' 206 (145 + f) = p)) nF, I') := by
  have hb := h.bd
  have hN := h.nN
  have key : ∀ m k n n', k + m = nF → m < n → m < n' → State_hadBy_5 N b ln n p (bitsF (fun f => decide (I' 206 (135 + f) = 1 ∧ I' 206 (145 + f) = p)) k) (nI k) I = some (bitsF (fun f => decide (I' 206 (135 + f) = 1 ∧ I' 206 (145 + f) = p)) nF) ∧ Mod_person_62 N n' p l2 (bitsF (fun f => decide (I' 206 (135 + f) = 1 ∧ I' 206 (145 + f) = p)) k) (nI k) I' = some (bitsF (fun f => decide (I' 206 (135 + f) = 1 ∧ I' 206 (145 + f) = p)) nF, I') := by
    intro m
    induction m with
    | zero =>
      intro k n n' hk hn hn'
      obtain ⟨n, rfl⟩ : ∃ e, n = e + 1 := ⟨n - 1, by omega⟩
      obtain ⟨n', rfl⟩ : ∃ e, n' = e + 1 := ⟨n' - 1, by omega⟩
      obtain rfl : k = nF := by omega
      simp (disch := omega) only [State_hadBy_5, Mod_person_62, T_1, h.cF, h.mF, le_nI, ifT, and_self]
    | succ m ih =>
      intro k n n' hk hn hn'
      obtain ⟨n, rfl⟩ : ∃ e, n = e + 1 := ⟨n - 1, by omega⟩
      obtain ⟨n', rfl⟩ : ∃ e, n' = e + 1 := ⟨n' - 1, by omega⟩
      have h1 := ih (k + 1) n n' (by omega) (by omega) (by omega)
      simp (disch := omega) only [State_hadBy_5, Mod_person_62, T_1, h.cF, h.mF, le_nI, ifF, ax_135, ax_145, in9_t, if_true, tN, nS, h.stat, h.who]
      by_cases hc : I' 206 (135 + k) = 1
      · by_cases hd : I' 206 (145 + k) = p
        · simpa [hc, hd, bitsF] using h1
        · simpa [hc, hd, bitsF] using h1
      · simpa [hc, bitsF] using h1
  exact key nF 0 N N (by omega) (by omega) (by omega)
theorem ground_q (h : QR N b ln nP nF nE nW nH nR I I') (x y l3 : Int32) : State_inGroundOf N b ln x y I = some (bitsF (fun f => decide (I' 206 (135 + f) = 0 ∧ I' 206 (105 + f) = x ∧ I' 206 (115 + f) = y)) nF) ∧ Mod_cell_67 N N x y l3 0 0 I' = some (bitsF (fun f => decide (I' 206 (135 + f) = 0 ∧ I' 206 (105 + f) = x ∧ I' 206 (115 + f) = y)) nF, I') := by
  have hb := h.bd
  have hN := h.nN
  have key : ∀ m k n n', k + m = nF → m < n → m < n' → State_inGroundOf_6 N b ln n x y (bitsF (fun f => decide (I' 206 (135 + f) = 0 ∧ I' 206 (105 + f) = x ∧ I' 206 (115 + f) = y)) k) (nI k) I = some (bitsF (fun f => decide (I' 206 (135 + f) = 0 ∧ I' 206 (105 + f) = x ∧ I' 206 (115 + f) = y)) nF) ∧ Mod_cell_67 N n' x y l3 (bitsF (fun f => decide (I' 206 (135 + f) = 0 ∧ I' 206 (105 + f) = x ∧ I' 206 (115 + f) = y)) k) (nI k) I' = some (bitsF (fun f => decide (I' 206 (135 + f) = 0 ∧ I' 206 (105 + f) = x ∧ I' 206 (115 + f) = y)) nF, I') := by
    intro m
    induction m with
    | zero =>
      intro k n n' hk hn hn'
      obtain ⟨n, rfl⟩ : ∃ e, n = e + 1 := ⟨n - 1, by omega⟩
      obtain ⟨n', rfl⟩ : ∃ e, n' = e + 1 := ⟨n' - 1, by omega⟩
      obtain rfl : k = nF := by omega
      simp (disch := omega) only [State_inGroundOf_6, Mod_cell_67, T_1, h.cF, h.mF, le_nI, ifT, and_self]
    | succ m ih =>
      intro k n n' hk hn hn'
      obtain ⟨n, rfl⟩ : ∃ e, n = e + 1 := ⟨n - 1, by omega⟩
      obtain ⟨n', rfl⟩ : ∃ e, n' = e + 1 := ⟨n' - 1, by omega⟩
      have h1 := ih (k + 1) n n' (by omega) (by omega) (by omega)
      simp (disch := omega) only [State_inGroundOf_6, Mod_cell_67, T_1, h.cF, h.mF, le_nI, ifF, ax_135, ax_105, ax_115, in9_t, if_true, tN, nS, h.stat, h.x, h.y]
      by_cases hc : I' 206 (135 + k) = 0
      · by_cases hd : I' 206 (105 + k) = x
        · by_cases he : I' 206 (115 + k) = y
          · simpa [hc, hd, he, bitsF] using h1
          · simpa [hc, hd, he, bitsF] using h1
        · simpa [hc, hd, bitsF] using h1
      · simpa [hc, bitsF] using h1
  exact key nF 0 N N (by omega) (by omega) (by omega)
theorem value_q (h : QR N b ln nP nF nE nW nH nR I I') (s : Int32) (hs : ∀ k, nF ≤ k → k < 10 → bt s k = false) : Land_valueOf N ln s I = some (itF (fun f a => if bt s f = true then a + I' 206 (80 + f) else a) nF 0) ∧ Mod_valueOf N s I' = some (itF (fun f a => if bt s f = true then a + I' 206 (80 + f) else a) nF 0) := by
  have hb := h.bd
  have hN := h.nN
  constructor
  · have key : ∀ m k n, k + m = nF → m < n → Land_valueOf_4 N ln n s (itF (fun f a => if bt s f = true then a + I' 206 (80 + f) else a) k 0) (nI k) I = some (itF (fun f a => if bt s f = true then a + I' 206 (80 + f) else a) nF 0) := by
      intro m
      induction m with
      | zero =>
        intro k n hk hn
        obtain ⟨n, rfl⟩ : ∃ e, n = e + 1 := ⟨n - 1, by omega⟩
        obtain rfl : k = nF := by omega
        simp (disch := omega) only [Land_valueOf_4, h.cF, le_nI, ifT]
      | succ m ih =>
        intro k n hk hn
        obtain ⟨n, rfl⟩ : ∃ e, n = e + 1 := ⟨n - 1, by omega⟩
        have h1 := ih (k + 1) n (by omega) (by omega)
        simp (disch := omega) only [Land_valueOf_4, h.cF, le_nI, ifF, b_has, L_5, fact_e h, Option.bind_some, nS, h.f_value]
        by_cases hc : bt s k = true
        · simpa [hc, itF] using h1
        · simpa [hc, itF] using h1
    exact key nF 0 N (by omega) (by omega)
  · rw [← itF_ext (m := 10) hb.2.1 (fun k h1 h2 x => by rw [hs k h1 h2]; rfl)]
    have key : ∀ m k n, k + m = 10 → m < n → Mod_valueOf_4 N n s (itF (fun f a => if bt s f = true then a + I' 206 (80 + f) else a) k 0) (nI k) I' = some (itF (fun f a => if bt s f = true then a + I' 206 (80 + f) else a) 10 0) := by
      intro m
      induction m with
      | zero =>
        intro k n hk hn
        obtain ⟨n, rfl⟩ : ∃ e, n = e + 1 := ⟨n - 1, by omega⟩
        obtain rfl : k = 10 := by omega
        simp (disch := omega) only [Mod_valueOf_4, L_10, le_nI, ifT]
      | succ m ih =>
        intro k n hk hn
        obtain ⟨n, rfl⟩ : ∃ e, n = e + 1 := ⟨n - 1, by omega⟩
        have h1 := ih (k + 1) n (by omega) (by omega)
        simp (disch := omega) only [Mod_valueOf_4, Mod_has, L_10, le_nI, ifF, b_has, ax_80, in9_t, if_true, tN, nS]
        by_cases hc : bt s k = true
        · simpa [hc, itF] using h1
        · simpa [hc, itF] using h1
    exact key 10 0 N (by omega) (by omega)
theorem told_hi {s : Nat} (hb : s ≤ 10) {p : Nat → Bool} {k : Nat} (h1 : s ≤ k) (h2 : k < 10) : bt (bitsF p s) k = false := by
  rw [b_bitsF (by omega) (by omega)]
  simp; omega
theorem toldv_q (h : QR N b ln nP nF nE nW nH nR I I') : ∃ s v, Mod_those N 2 I' = some s ∧ Mod_valueOf N s I' = some v ∧ State_toldValue N b ln I = some v := by
  have hb := h.bd
  obtain ⟨h1, h2⟩ := bits_q h 2
  obtain ⟨h3, h4⟩ := value_q h (bitsF (fun f => decide (I' 206 (135 + f) = 2)) nF) (fun k g1 g2 => told_hi hb.2.1 g1 g2)
  refine ⟨_, _, h2, h4, ?_⟩
  unfold State_toldValue
  rw [h1, Option.bind_some, h3, Option.bind_some]
/-- how far two numbers are apart -/
def dif (a b : Nat) : Nat := (a - b) + (b - a)
theorem dif_comm (a b : Nat) : dif a b = dif b a := Nat.add_comm _ _
theorem sub_ofInt (a b : Nat) : nI a - nI b = Int32.ofInt ((a : Int) - b) := by
  rw [Int32.ofInt_sub, Int32.ofInt_eq_ofNat, Int32.ofInt_eq_ofNat]; rfl
theorem le0_ofInt {z : Int} (h1 : -2147483648 ≤ z) (h2 : z < 2147483648) : (0 ≤ Int32.ofInt z) = (0 ≤ z) := by
  rw [Int32.le_iff_toInt_le, Int32.toInt_ofInt_of_le (by omega) (by omega)]
  rfl
theorem absN {a b : Nat} (ha : a < 2147483648) (hb : b < 2147483648) : (if 0 ≤ nI a - nI b then nI a - nI b else 0 - (nI a - nI b)) = nI (dif a b) := by
  rw [sub_ofInt]
  by_cases h : 0 ≤ (a : Int) - b
  · rw [if_pos (by rw [le0_ofInt (by omega) (by omega)]; exact h), show (a : Int) - b = ((dif a b : Nat) : Int) from by unfold dif; omega, Int32.ofInt_eq_ofNat]; rfl
  · rw [if_neg (by rw [le0_ofInt (by omega) (by omega)]; exact h), show (0 : Int32) = Int32.ofInt 0 from rfl, ← Int32.ofInt_sub, show (0 : Int) - ((a : Int) - b) = ((dif a b : Nat) : Int) from by unfold dif; omega, Int32.ofInt_eq_ofNat]; rfl
theorem sizeN {a b : Nat} (ha : a < 2147483648) (hb : b < 2147483648) : Mod_size (nI a - nI b) = nI (dif a b) := absN ha hb
theorem neg1_lt : (-1 : Int32) < 0 := by decide
theorem nI_ne1 {v : Nat} (hv : v < 2147483648) : nI v = (-1 : Int32) ↔ False := by
  refine ⟨fun h => ?_, False.elim⟩
  have := congrArg Int32.toInt h
  rw [nInt hv, show (-1 : Int32).toInt = -1 from by decide] at this
  omega
theorem div_nI {a b : Nat} (ha : a < 2147483648) (hb : b < 2147483648) : nI a / nI b = nI (a / b) := (Int32.ofNat_div ha hb).symm
theorem worth_q (h : QR N b ln nP nF nE nW nH nR I I') {x y : Nat} (hx : x < nW) (hy : y < nH) : ∃ v, v ≤ 12 ∧ State_worthOf N b ln (nI x) (nI y) I = some (nI v) ∧ Mod_worthOf N (nI x) (nI y) I' = some (nI v) := by
  have hb := h.bd
  have hN := h.nN
  have key : ∀ m k n n' (z : Int32), k + m = nF → m < n → m < n' → (z = -1 ∨ ∃ v, v ≤ 20 ∧ z = nI v) → ∃ v, v ≤ 12 ∧ State_worthOf_17 N b ln n (nI x) (nI y) z (nI k) I = some (nI v) ∧ Mod_worthOf_27 N n' (nI x) (nI y) z (nI k) I' = some (nI v) := by
    intro m
    induction m with
    | zero =>
      intro k n n' z hk hn hn' hz
      obtain ⟨n, rfl⟩ : ∃ e, n = e + 1 := ⟨n - 1, by omega⟩
      obtain ⟨n', rfl⟩ : ∃ e, n' = e + 1 := ⟨n' - 1, by omega⟩
      obtain rfl : k = nF := by omega
      rcases hz with rfl | ⟨v, hv, rfl⟩
      · refine ⟨1, by decide, ?_, ?_⟩
        · simp (disch := omega) only [State_worthOf_17, h.cF, le_nI, ifT]
          rw [if_neg (by decide)]; rfl
        · simp (disch := omega) only [Mod_worthOf_27, T_1, h.mF, le_nI, ifT, if_true]; rfl
      · refine ⟨12 / (1 + v), Nat.div_le_self _ _, ?_, ?_⟩
        · simp (disch := omega) only [State_worthOf_17, h.cF, L_0, le_nI, ifT, ax_1, eq_nI, L_12, div_nI]
        · simp (disch := omega) only [Mod_worthOf_27, T_1, h.mF, L_0, le_nI, ifT, ax_1, eq_nI, L_12, div_nI, nI_ne1, if_false]
    | succ m ih =>
      intro k n n' z hk hn hn' hz
      obtain ⟨n, rfl⟩ : ∃ e, n = e + 1 := ⟨n - 1, by omega⟩
      obtain ⟨n', rfl⟩ : ∃ e, n' = e + 1 := ⟨n' - 1, by omega⟩
      obtain ⟨vx, hvx, ex⟩ := h.v_x (f := k) (by omega)
      obtain ⟨vy, hvy, ey⟩ := h.v_y (f := k) (by omega)
      simp (disch := omega) only [State_worthOf_17, Mod_worthOf_27, Mod_away, T_1, h.cF, h.mF, le_nI, ifF, ax_135, ax_105, ax_115, in9_t, if_true, tN, nS, h.stat, h.x, h.y, ex, ey, absN, sizeN, nA, dif_comm x vx, dif_comm y vy]
      by_cases hc : I' 206 (135 + k) = 0
      · simpa only [hc, if_true] using ih (k + 1) n n' z (by omega) (by omega) (by omega) hz
      · have hd : dif vx x + dif vy y ≤ 20 := by unfold dif; omega
        rcases hz with rfl | ⟨v, hv, rfl⟩
        · simpa only [hc, if_false, neg1_lt, if_true] using ih (k + 1) n n' (nI (dif vx x + dif vy y)) (by omega) (by omega) (by omega) (Or.inr ⟨_, hd, rfl⟩)
        · simp only [hc, if_false]
          simp (disch := omega) only [L_0, lt_nI, ifF, nI_ne1, le_nI, if_false]
          by_cases he : v ≤ dif vx x + dif vy y
          · simpa only [he, if_true] using ih (k + 1) n n' (nI v) (by omega) (by omega) (by omega) (Or.inr ⟨_, hv, rfl⟩)
          · simpa only [he, if_false] using ih (k + 1) n n' (nI (dif vx x + dif vy y)) (by omega) (by omega) (by omega) (Or.inr ⟨_, hd, rfl⟩)
  obtain ⟨v, hv, ev⟩ := h.v_dug (c := 6 * y + x) (by omega)
  simp (disch := omega) only [State_worthOf, State_canDig, Mod_worthOf, mx_6, nA, ax_173, L_0, lt_nI, ifF, L_36, le_nI, in9_t, if_true, tN, h.dug, Nat.add_assoc, ev, L_10]
  rcases Nat.lt_or_ge v 10 with g | g
  · simp (disch := omega) only [ifF, Option.bind_some, if_true, eq_nI]
    exact key nF 0 N N (-1) (by omega) (by omega) (by omega) (Or.inl rfl)
  · simp (disch := omega) only [ifT, Option.bind_some, eq_nI]
    exact ⟨0, by decide, rfl, rfl⟩
end Q25

/-! beliefs: both sides -/
theorem lI {k : Nat} (h : k < 9223372036854775808) : (lN k).toInt = (k : Int) := Int64.toInt_ofNat_of_lt h
theorem leL {a b : Nat} (ha : a < 9223372036854775808) (hb : b < 9223372036854775808) : (lN a ≤ lN b) = (a ≤ b) := propext (Int64.ofNat_le_iff_le ha hb)
theorem ltL {a b : Nat} (ha : a < 9223372036854775808) (hb : b < 9223372036854775808) : (lN a < lN b) = (a < b) := propext (Int64.ofNat_lt_iff_lt ha hb)
theorem eqL {a b : Nat} (ha : a < 9223372036854775808) (hb : b < 9223372036854775808) : (lN a = lN b) = (a = b) := propext ⟨fun h => by have := congrArg Int64.toInt h; rw [lI ha, lI hb] at this; omega, fun h => by rw [h]⟩
theorem divL {a b : Nat} (ha : a < 9223372036854775808) (hb : b < 9223372036854775808) : lN a / lN b = lN (a / b) := (Int64.ofNat_div ha hb).symm
theorem remL {a b : Nat} : lN a - lN (a / b) * lN b = lN (a % b) := by
  rw [lN_mul, lN_sub (Nat.div_mul_le_self a b)]
  congr 1
  have := Nat.div_add_mod a b
  rw [Nat.mul_comm] at this
  omega
theorem LL_0 : (0 : Int64) = lN 0 := id rfl
theorem LL_1 : (1 : Int64) = lN 1 := id rfl
theorem LL_2 : (2 : Int64) = lN 2 := id rfl
theorem LL_3 : (3 : Int64) = lN 3 := id rfl
theorem LL_12 : (12 : Int64) = lN 12 := id rfl
theorem L_200 : (200 : Int32) = nI 200 := id rfl
theorem half_mod {b c k : Nat} (h0 : 0 < c) (h : c < b) (hb : b < 2 ^ (k + 1)) : b % c < 2 ^ k := by
  have h1 := Nat.mod_lt b h0
  have h2 := Nat.div_add_mod b c
  have h3 : 1 ≤ b / c := Nat.div_pos (Nat.le_of_lt h) h0
  have h4 : c * 1 ≤ c * (b / c) := Nat.mul_le_mul_left c h3
  have h5 : 2 ^ (k + 1) = 2 ^ k + 2 ^ k := by rw [Nat.pow_succ]; omega
  omega
theorem gcd_step {a b : Nat} : Nat.gcd a b = Nat.gcd b (a % b) := by
  rw [Nat.gcd_comm a b, Nat.gcd_rec b a, Nat.gcd_comm]
theorem gcdC {N : Nat} (l0 l2 : Int64) : ∀ k a b i n, b < 2 ^ k → a < 9223372036854775808 → b < 9223372036854775808 → i + 2 * k + 1 ≤ 200 → 2 * k + 1 < n → Beliefs_commonDivisor_9 N n l0 l2 (lN a) (lN b) (nI i) = some (lN (Nat.gcd a b)) := by
  intro k
  induction k with
  | zero =>
    intro a b i n hb ha hb2 hi hn
    obtain ⟨n, rfl⟩ : ∃ e, n = e + 1 := ⟨n - 1, by omega⟩
    obtain rfl : b = 0 := by simpa using hb
    simp (disch := omega) only [Beliefs_commonDivisor_9, L_200, le_nI, ifF, LL_0, if_true, Nat.gcd_zero_right]
  | succ k ih =>
    intro a b i n hb ha hb2 hi hn
    obtain ⟨n, rfl⟩ : ∃ e, n = e + 1 := ⟨n - 1, by omega⟩
    by_cases e : b = 0
    · subst e
      simp (disch := omega) only [Beliefs_commonDivisor_9, L_200, le_nI, ifF, LL_0, if_true, Nat.gcd_zero_right]
    · have hm : a % b < b := Nat.mod_lt _ (Nat.pos_of_ne_zero e)
      simp (disch := omega) only [Beliefs_commonDivisor_9, L_200, le_nI, ifF, LL_0, eqL, ifT, divL, remL, nS]
      obtain ⟨n, rfl⟩ : ∃ e, n = e + 1 := ⟨n - 1, by omega⟩
      rw [gcd_step]
      by_cases e2 : a % b = 0
      · rw [e2]
        simp (disch := omega) only [Beliefs_commonDivisor_9, L_200, le_nI, ifF, LL_0, if_true, Nat.gcd_zero_right]
      · have hm2 := half_mod (Nat.pos_of_ne_zero e2) hm hb
        simp (disch := omega) only [Beliefs_commonDivisor_9, L_200, le_nI, ifF, LL_0, eqL, ifT, divL, remL, nS]
        rw [gcd_step]
        exact ih (a % b) (b % (a % b)) (i + 1 + 1) n hm2 (by omega) (by have := Nat.mod_le b (a % b); omega) (by omega) (by omega)
theorem gcdM {N : Nat} (l0 l2 : Int64) : ∀ k a b n, b < 2 ^ k → a < 9223372036854775808 → b < 9223372036854775808 → 2 * k + 1 < n → Mod_commonLong_6 N n l0 l2 (lN a) (lN b) = some (lN (Nat.gcd a b)) := by
  intro k
  induction k with
  | zero =>
    intro a b n hb ha hb2 hn
    obtain ⟨n, rfl⟩ : ∃ e, n = e + 1 := ⟨n - 1, by omega⟩
    obtain rfl : b = 0 := by simpa using hb
    simp (disch := omega) only [Mod_commonLong_6, LL_0, if_true, Nat.gcd_zero_right]
  | succ k ih =>
    intro a b n hb ha hb2 hn
    obtain ⟨n, rfl⟩ : ∃ e, n = e + 1 := ⟨n - 1, by omega⟩
    by_cases e : b = 0
    · subst e
      simp (disch := omega) only [Mod_commonLong_6, LL_0, if_true, Nat.gcd_zero_right]
    · have hm : a % b < b := Nat.mod_lt _ (Nat.pos_of_ne_zero e)
      simp (disch := omega) only [Mod_commonLong_6, LL_0, eqL, ifF, ifT, divL, remL]
      obtain ⟨n, rfl⟩ : ∃ e, n = e + 1 := ⟨n - 1, by omega⟩
      rw [gcd_step]
      by_cases e2 : a % b = 0
      · rw [e2]
        simp (disch := omega) only [Mod_commonLong_6, LL_0, if_true, Nat.gcd_zero_right]
      · have hm2 := half_mod (Nat.pos_of_ne_zero e2) hm hb
        simp (disch := omega) only [Mod_commonLong_6, LL_0, eqL, ifF, ifT, divL, remL]
        rw [gcd_step]
        exact ih (a % b) (b % (a % b)) n hm2 (by omega) (by have := Nat.mod_le b (a % b); omega) (by omega)
theorem term_q {N a b : Nat} (hN : 2000 ≤ N) (ha : a < 9223372036854775808) (hb : b < 9223372036854775808) (h0 : 0 < b) (w : Int32) : ∃ v, Beliefs_termOf N (lN a) (lN b) w = some v ∧ Mod_part N (lN a) (lN b) w = some v := by
  have hg : 0 < Nat.gcd a b := Nat.gcd_pos_of_pos_right a h0
  have hg2 : Nat.gcd a b ≤ b := Nat.gcd_le_right a h0
  have e1 : Beliefs_commonDivisor N (lN a) (lN b) = some (lN (Nat.gcd a b)) := gcdC _ _ 63 a b 0 N hb ha hb (by omega) (by omega)
  have e2 : Mod_commonLong N (lN b) (lN a) = some (lN (Nat.gcd a b)) := by rw [Nat.gcd_comm]; exact gcdM _ _ 63 b a N ha hb ha (by omega)
  have z : (lN (Nat.gcd a b) = (0 : Int64)) = False := by rw [LL_0, eqL (by omega) (by omega)]; exact eq_false (by omega)
  unfold Beliefs_termOf Mod_part
  rw [e1, e2, Option.bind_some, Option.bind_some]
  simp only [z, not_false_eq_true, if_true, if_false]
  by_cases c : w = 0
  · simp only [c, if_true]; exact ⟨_, rfl, rfl⟩
  · simp only [c, if_false]; exact ⟨_, rfl, rfl⟩
/-- a weight, hint by hint -/
def wgF (p : Nat → Bool) (hv : Nat → Nat) : Nat → Nat → Nat := fun f a => bif p f then a * hv f else a
theorem wgF_le {p : Nat → Bool} {hv : Nat → Nat} {a : Nat} (h : ∀ f, hv f ≤ 12) : ∀ n, itF (wgF p hv) n a ≤ a * 12 ^ n := by
  intro n
  induction n with
  | zero => exact Nat.le_of_eq (by simp [itF])
  | succ n ih =>
    show wgF p hv n (itF (wgF p hv) n a) ≤ _
    unfold wgF
    cases p n with
    | true =>
      rw [cond_true, Nat.pow_succ, ← Nat.mul_assoc]
      exact Nat.mul_le_mul ih (h n)
    | false =>
      rw [cond_false, Nat.pow_succ, ← Nat.mul_assoc]
      exact Nat.le_trans ih (Nat.le_mul_of_pos_right _ (by decide))
/-- a hint's number for a find -/
def hvF (w : Nat → Int32) (r f : Nat) : Nat := min 12 (w (6 + (4 * r + (w (30 + f)).toNatClampNeg))).toNatClampNeg
theorem hvF_le (w : Nat → Int32) (r f : Nat) : hvF w r f ≤ 12 := Nat.min_le_left _ _
def prF0 (w : Nat → Int32) (r : Nat) : Nat := min 99 (w (18 + r)).toNatClampNeg
def wtF (w : Nat → Int32) (p : Nat → Bool) (n r : Nat) : Nat := itF (wgF p (hvF w r)) n (prF0 w r)
theorem wtF_le (w : Nat → Int32) (p : Nat → Bool) {n r : Nat} (hn : n ≤ 10) : wtF w p n r ≤ 6129819058176 := by
  have h1 := wgF_le (p := p) (a := prF0 w r) (hvF_le w r) n
  have h2 : prF0 w r ≤ 99 := Nat.min_le_left _ _
  have h3 : 12 ^ n ≤ 12 ^ 10 := Nat.pow_le_pow_right (by decide) hn
  have h4 : prF0 w r * 12 ^ n ≤ 99 * 12 ^ 10 := Nat.mul_le_mul h2 h3
  have h5 : 99 * 12 ^ 10 = 6129819058176 := by decide
  unfold wtF
  omega
section Q34
variable {N ln sp sn ss nP nF nE nW nH nR : Nat} {I I' : FI} {J J' : FJ}
theorem hv_e (h : QR N 25 ln nP nF nE nW nH nR I I') {r f : Nat} (hr : r < 3) (hf : f < nF) : ∃ c, c ≤ 3 ∧ I' 206 (30 + f) = nI c ∧ I' 206 (6 + (4 * r + c)) = nI (hvF (I' 206) r f) := by
  have hb := h.bd
  obtain ⟨c, hc, ec⟩ := h.v_kind (f := f) (by omega)
  obtain ⟨v, hv, ev⟩ := h.v_hint (k := 4 * r + c) (by omega)
  refine ⟨c, hc, ec, ?_⟩
  unfold hvF
  rw [ec, tN (by omega), ev, tN (by omega), Nat.min_eq_right hv]
theorem pr_e (h : QR N 25 ln nP nF nE nW nH nR I I') {r : Nat} (hr : r < 3) : I' 206 (18 + r) = nI (prF0 (I' 206) r) := by
  obtain ⟨v, h1, hv, ev⟩ := h.v_prior hr
  unfold prF0
  rw [ev, tN (by omega), Nat.min_eq_right hv]
/-- what the weights are, on both sides -/
def BelR (J J' : FJ) (W : Nat → Nat) : Prop := (∀ r, W r ≤ 6129819058176) ∧ 0 < W 0 + W 1 + W 2 ∧ (∀ r, r < 3 → J 194 r = lN (W r)) ∧ J 193 1 = lN (W 0 + W 1 + W 2) ∧ (∀ r, r < 3 → J' 216 r = lN (W r))
theorem weigh_i (h : QR N 25 ln nP nF nE nW nH nR I I') (K : Int32 → Int32 → FI → FJ → Option FJ) {r : Nat} (hr : r < 3) (more : Int32) (p : Nat → Bool) (hp : ∀ f, f < nF → p f = (decide (I' 206 (135 + f) = 2) || decide (nI f = more))) : ∀ m k n, k + m = nF → m < n → Beliefs_weigh_27 N 193 ln 25 K n more (nI r) (lN (itF (wgF p (hvF (I' 206) r)) k (prF0 (I' 206) r))) (nI k) I J = K more (nI (r + 1)) I (up2 (up2 J 194 r (lN (wtF (I' 206) p nF r))) 193 1 (J 193 1 + lN (wtF (I' 206) p nF r))) := by
  have hb := h.bd
  intro m
  induction m with
  | zero =>
    intro k n hk hn
    obtain ⟨n, rfl⟩ : ∃ e, n = e + 1 := ⟨n - 1, by omega⟩
    obtain rfl : k = nF := by omega
    simp (disch := omega) only [Beliefs_weigh_27, h.cF, le_nI, ifT, in9_t, if_true, tN, Option.bind_some, nS, wtF, u_o]
  | succ m ih =>
    intro k n hk hn
    obtain ⟨n, rfl⟩ : ∃ e, n = e + 1 := ⟨n - 1, by omega⟩
    have h1 := ih (k + 1) n (by omega) (by omega)
    obtain ⟨c, hc, ec, eh⟩ := hv_e h hr (f := k) (by omega)
    have hl := hvF_le (I' 206) r k
    have ei : I (ln + 6) (r * 4 + c) = nI (hvF (I' 206) r k) := by rw [h.hint (by omega), ← eh]; congr 1; omega
    have ef : Land_factOf ln (nI k) 0 I = some (nI c) := by
      have := fact_e h (f := k) (by omega) (w := 0) (by decide)
      rw [show nI 0 = (0 : Int32) from rfl] at this
      rw [this, ← ec]
      exact congrArg some (h.f_kind (by omega))
    have A1 : (nI nF ≤ nI k) = False := by rw [le_nI (by omega) (by omega)]; exact eq_false (by omega)
    have G0 : in9 (nI k) 10 = True := in9_t (by omega) (by omega)
    have tk : (nI k).toNatClampNeg = k := tN (by omega)
    have e4 : nI r * 4 + nI c = nI (r * 4 + c) := by rw [L_4, nM, nA]
    have G1 : in9 (nI (r * 4 + c)) 12 = True := in9_t (by omega) (by omega)
    have t1 : (nI (r * 4 + c)).toNatClampNeg = r * 4 + c := tN (by omega)
    have st := h.stat_25 (f := k) (by omega)
    have cF := h.cF
    rw [← h1]
    by_cases c1 : I' 206 (135 + k) = 2
    · simp only [↓reduceIte, Beliefs_weigh_27, cF, A1, G0, tk, st, c1, ef, Option.bind_some, e4, G1, t1, ei, nI_l (show hvF (I' 206) r k < 2147483648 by omega), lN_mul, nS]
      rw [show itF (wgF p (hvF (I' 206) r)) (k + 1) (prF0 (I' 206) r) = itF (wgF p (hvF (I' 206) r)) k (prF0 (I' 206) r) * hvF (I' 206) r k from by
        show wgF p _ k _ = _
        unfold wgF
        rw [hp k (by omega), c1]; simp]
    · by_cases c2 : nI k = more
      · subst c2
        simp only [↓reduceIte, Beliefs_weigh_27, cF, A1, G0, tk, st, c1, ef, Option.bind_some, e4, G1, t1, ei, nI_l (show hvF (I' 206) r k < 2147483648 by omega), lN_mul, nS]
        rw [show itF (wgF p (hvF (I' 206) r)) (k + 1) (prF0 (I' 206) r) = itF (wgF p (hvF (I' 206) r)) k (prF0 (I' 206) r) * hvF (I' 206) r k from by
          show wgF p _ k _ = _
          unfold wgF
          rw [hp k (by omega)]; simp]
      · simp only [↓reduceIte, Beliefs_weigh_27, cF, A1, G0, tk, st, c1, c2, nS]
        rw [show itF (wgF p (hvF (I' 206) r)) (k + 1) (prF0 (I' 206) r) = itF (wgF p (hvF (I' 206) r)) k (prF0 (I' 206) r) from by
          show wgF p _ k _ = _
          unfold wgF
          rw [hp k (by omega)]; simp [c1, c2]]
def stpJ (J : FJ) (r v : Nat) : FJ := up2 (up2 J 194 r (lN v)) 193 1 (J 193 1 + lN v)
theorem weigh_s (h : QR N 25 ln nP nF nE nW nH nR I I') {r n : Nat} (hr : r < 3) (more : Int32) (p : Nat → Bool) (hp : ∀ f, f < nF → p f = (decide (I' 206 (135 + f) = 2) || decide (nI f = more))) : Beliefs_weigh_8 N 193 ln 25 (n + 1) more (nI r) I J = Beliefs_weigh_8 N 193 ln 25 n more (nI (r + 1)) I (stpJ J r (wtF (I' 206) p nF r)) := by
  have hb := h.bd
  have hN := h.nN
  have e := weigh_i h (J := J) (fun x3 x4 I J => Beliefs_weigh_8 N 193 ln 25 n x3 x4 I J) hr more p hp nF 0 N (by omega) (by omega)
  have hq := Nat.min_le_left 99 (I' 206 (18 + r)).toNatClampNeg
  have ep : (I (ln + 7) r).toInt64 = lN (prF0 (I' 206) r) := by
    rw [h.prior hr, pr_e h hr, nI_l (by unfold prF0; omega)]
  simp (disch := omega) only [Beliefs_weigh_8, L_3, le_nI, ifF, in9_t, if_true, tN, ep]
  exact e
theorem weighM_i (h : QR N 25 ln nP nF nE nW nH nR I I') (K : Int32 → Int32 → FI → FJ → Option FJ) {r : Nat} (hr : r < 3) (s : Int32) (hs : ∀ k, nF ≤ k → k < 10 → bt s k = false) : ∀ m k n, k + m = 10 → m < n → Mod_layWeights_25 N K n s (nI r) (nI k) I' (up2 J' 216 r (lN (itF (wgF (bt s) (hvF (I' 206) r)) (min k nF) (prF0 (I' 206) r)))) = K s (nI (r + 1)) I' (up2 J' 216 r (lN (wtF (I' 206) (bt s) nF r))) := by
  have hb := h.bd
  intro m
  induction m with
  | zero =>
    intro k n hk hn
    obtain ⟨n, rfl⟩ : ∃ e, n = e + 1 := ⟨n - 1, by omega⟩
    obtain rfl : k = 10 := by omega
    rw [Nat.min_eq_right hb.2.1]
    simp (disch := omega) only [Mod_layWeights_25, L_10, le_nI, ifT, nS, wtF]
  | succ m ih =>
    intro k n hk hn
    obtain ⟨n, rfl⟩ : ∃ e, n = e + 1 := ⟨n - 1, by omega⟩
    have h1 := ih (k + 1) n (by omega) (by omega)
    have A1 : ((10 : Int32) ≤ nI k) = False := by rw [L_10, le_nI (by omega) (by omega)]; exact eq_false (by omega)
    have hh : Mod_has s (nI k) = bt s k := by
      unfold Mod_has
      by_cases q : bt s k = true
      · rw [if_pos (by rw [b_has (by omega)]; exact q), q]
      · rw [if_neg (by rw [b_has (by omega)]; exact q)]
        exact (Bool.eq_false_iff.mpr q).symm
    cases c : bt s k with
    | true =>
      have hkF : k < nF := by
        rcases Nat.lt_or_ge k nF with g | g
        · exact g
        · rw [hs k g (by omega)] at c; cases c
      obtain ⟨cc, hc, ec, eh⟩ := hv_e h hr (f := k) hkF
      have hl := hvF_le (I' 206) r k
      have e4 : (6 : Int32) + 4 * nI r + nI cc = nI (6 + (4 * r + cc)) := by rw [mx_4, ax_6, nA, Nat.add_assoc]
      have G1 : in9 (nI (6 + (4 * r + cc))) 451 = True := in9_t (by omega) (by omega)
      have t1 : (nI (6 + (4 * r + cc))).toNatClampNeg = 6 + (4 * r + cc) := tN (by omega)
      have G30 : in9 (30 + nI k) 451 = True := by rw [ax_30]; exact in9_t (by omega) (by omega)
      have M30 : ((30 : Int32) + nI k).toNatClampNeg = 30 + k := by rw [ax_30]; exact tN (by omega)
      have Gr : in9 (nI r) 3 = True := in9_t (by omega) (by omega)
      have tr : (nI r).toNatClampNeg = r := tN (by omega)
      rw [Nat.min_eq_left (by omega)] at h1 ⊢
      simp only [↓reduceIte, Mod_layWeights_25, A1, hh, c, Gr, tr, G30, M30, ec, e4, G1, t1, eh, nI_l (show hvF (I' 206) r k < 2147483648 by omega), u_s, lN_mul, Option.bind_some, nS]
      rw [← h1]
      congr 1
      funext q j
      unfold up2
      by_cases g : q = 216 ∧ j = r
      · rw [if_pos g, if_pos g]
        show lN (_ * _) = lN (wgF (bt s) _ k _)
        unfold wgF
        rw [c]; rfl
      · rw [if_neg g, if_neg g, if_neg g]
    | false =>
      simp only [↓reduceIte, Mod_layWeights_25, A1, hh, c, Bool.false_eq_true, nS]
      rw [← h1]
      rcases Nat.lt_or_ge k nF with g | g
      · rw [Nat.min_eq_left (by omega), Nat.min_eq_left (by omega)]
        rw [show itF (wgF (bt s) (hvF (I' 206) r)) (k + 1) (prF0 (I' 206) r) = itF (wgF (bt s) (hvF (I' 206) r)) k (prF0 (I' 206) r) from by
          show wgF (bt s) _ k _ = _
          unfold wgF
          rw [c]; rfl]
      · rw [Nat.min_eq_right g, Nat.min_eq_right (by omega)]
theorem weighM_s (h : QR N 25 ln nP nF nE nW nH nR I I') {r n : Nat} (hr : r < 3) (s : Int32) (hs : ∀ k, nF ≤ k → k < 10 → bt s k = false) : Mod_layWeights_2 N (n + 1) s (nI r) I' J' = Mod_layWeights_2 N n s (nI (r + 1)) I' (up2 J' 216 r (lN (wtF (I' 206) (bt s) nF r))) := by
  have hb := h.bd
  have hN := h.nN
  have e := weighM_i h (J' := J') (fun x1 x2 I J => Mod_layWeights_2 N n x1 x2 I J) hr s hs 10 0 N (by omega) (by omega)
  have ep : (I' 206 (18 + r)).toInt64 = lN (prF0 (I' 206) r) := by
    rw [pr_e h hr, nI_l (by unfold prF0; have := Nat.min_le_left 99 (I' 206 (18 + r)).toNatClampNeg; omega)]
  simp (disch := omega) only [Mod_layWeights_2, L_3, le_nI, ifF, ax_18, in9_t, if_true, tN, ep, Option.bind_some]
  exact e
/-- the three weights, all one where they come to nothing -/
def WF (w : Nat → Int32) (p : Nat → Bool) (n : Nat) : Nat → Nat := fun r => if wtF w p n 0 + wtF w p n 1 + wtF w p n 2 = 0 then 1 else wtF w p n r
theorem ones_b {J : FJ} (hN : 2000 ≤ N) : Arrays_fill_JJV N 194 3 1 J = some (up2 (up2 (up2 J 194 0 1) 194 1 1) 194 2 1) := by
  have e : ∀ M, Arrays_fill_JJV_6 N 194 3 (M + 1 + 1 + 1 + 1) 1 (nI 0) (nI 3) J = some (up2 (up2 (up2 J 194 0 1) 194 1 1) 194 2 1) := by
    intro M
    simp (disch := omega) only [Arrays_fill_JJV_6, le_nI, ifT, ifF, in9_t, if_true, tN, nS, Option.bind_some]
  have := e (N - 4)
  rw [show N - 4 + 1 + 1 + 1 + 1 = N from by omega] at this
  exact this
theorem ones_m {s : Int32} {J : FJ} (hN : 2000 ≤ N) : Mod_layWeights_94 N N s 0 I' J = some (up2 (up2 (up2 J 216 0 1) 216 1 1) 216 2 1) := by
  have e : ∀ M, Mod_layWeights_94 N (M + 1 + 1 + 1 + 1) s (nI 0) I' J = some (up2 (up2 (up2 J 216 0 1) 216 1 1) 216 2 1) := by
    intro M
    simp (disch := omega) only [Mod_layWeights_94, L_3, le_nI, ifT, ifF, in9_t, if_true, tN, nS, Option.bind_some]
  have := e (N - 4)
  rw [show N - 4 + 1 + 1 + 1 + 1 = N from by omega] at this
  exact this
theorem stp3 (J : FJ) (a b c : Nat) : stpJ (stpJ (stpJ (up2 J 193 1 0) 0 a) 1 b) 2 c 193 1 = lN (a + b + c) ∧ stpJ (stpJ (stpJ (up2 J 193 1 0) 0 a) 1 b) 2 c 194 0 = lN a ∧ stpJ (stpJ (stpJ (up2 J 193 1 0) 0 a) 1 b) 2 c 194 1 = lN b ∧ stpJ (stpJ (stpJ (up2 J 193 1 0) 0 a) 1 b) 2 c 194 2 = lN c := by
  refine ⟨?_, ?_, ?_, ?_⟩ <;> simp [stpJ, up2, lN_add]
theorem all_m (J : FJ) {a b c : Nat} (ha : J 216 0 = lN a) (hb : J 216 1 = lN b) (hc : J 216 2 = lN c) : Mod_weightAll J = some (lN (a + b + c)) := by
  unfold Mod_weightAll
  rw [T_0, T_1, T_2, ha, hb, hc, lN_add, lN_add]
theorem weigh_q (h : QR N 25 ln nP nF nE nW nH nR I I') (J J' : FJ) (more s : Int32) (hs : ∀ k, nF ≤ k → k < 10 → bt s k = false) (hp : ∀ f, f < nF → bt s f = (decide (I' 206 (135 + f) = 2) || decide (nI f = more))) : ∃ J1 J1', Beliefs_weigh N 193 ln 25 more I J = some J1 ∧ Mod_layWeights N s I' J' = some J1' ∧ BelR J1 J1' (WF (I' 206) (bt s) nF) := by
  have hb := h.bd
  have hN := h.nN
  have q0 := wtF_le (I' 206) (bt s) (r := 0) hb.2.1
  have q1 := wtF_le (I' 206) (bt s) (r := 1) hb.2.1
  have q2 := wtF_le (I' 206) (bt s) (r := 2) hb.2.1
  have a : ∀ M (J : FJ), Beliefs_weigh_8 N 193 ln 25 (M + 1 + 1 + 1 + 1) more (nI 0) I J = Beliefs_weigh_8 N 193 ln 25 (M + 1) more (nI 3) I (stpJ (stpJ (stpJ J 0 (wtF (I' 206) (bt s) nF 0)) 1 (wtF (I' 206) (bt s) nF 1)) 2 (wtF (I' 206) (bt s) nF 2)) := fun M J => (weigh_s (n := M + 1 + 1 + 1) (r := 0) h (by omega) more (bt s) hp).trans ((weigh_s (n := M + 1 + 1) (r := 1) h (by omega) more (bt s) hp).trans (weigh_s (n := M + 1) (r := 2) h (by omega) more (bt s) hp))
  have b : ∀ M (J' : FJ), Mod_layWeights_2 N (M + 1 + 1 + 1 + 1) s (nI 0) I' J' = Mod_layWeights_2 N (M + 1) s (nI 3) I' (up2 (up2 (up2 J' 216 0 (lN (wtF (I' 206) (bt s) nF 0))) 216 1 (lN (wtF (I' 206) (bt s) nF 1))) 216 2 (lN (wtF (I' 206) (bt s) nF 2))) := fun M J => (weighM_s (n := M + 1 + 1 + 1) (r := 0) h (by omega) s hs).trans ((weighM_s (n := M + 1 + 1) (r := 1) h (by omega) s hs).trans (weighM_s (n := M + 1) (r := 2) h (by omega) s hs))
  have c := a (N - 4) (up2 J 193 1 0)
  have d := b (N - 4) J'
  rw [show N - 4 + 1 + 1 + 1 + 1 = N from by omega] at c d
  obtain ⟨s0, s1, s2, s3⟩ := stp3 J (wtF (I' 206) (bt s) nF 0) (wtF (I' 206) (bt s) nF 1) (wtF (I' 206) (bt s) nF 2)
  unfold Beliefs_weigh Mod_layWeights
  rw [Option.bind_some, show (0 : Int32) = nI 0 from id rfl, c, d]
  have w := all_m (up2 (up2 (up2 J' 216 0 (lN (wtF (I' 206) (bt s) nF 0))) 216 1 (lN (wtF (I' 206) (bt s) nF 1))) 216 2 (lN (wtF (I' 206) (bt s) nF 2))) (a := wtF (I' 206) (bt s) nF 0) (b := wtF (I' 206) (bt s) nF 1) (c := wtF (I' 206) (bt s) nF 2) (by simp [up2]) (by simp [up2]) (by simp [up2])
  have m0 : (up2 (up2 (up2 J' 216 0 (lN (wtF (I' 206) (bt s) nF 0))) 216 1 (lN (wtF (I' 206) (bt s) nF 1))) 216 2 (lN (wtF (I' 206) (bt s) nF 2))) 216 0 = lN (wtF (I' 206) (bt s) nF 0) := by simp [up2]
  have m1 : (up2 (up2 (up2 J' 216 0 (lN (wtF (I' 206) (bt s) nF 0))) 216 1 (lN (wtF (I' 206) (bt s) nF 1))) 216 2 (lN (wtF (I' 206) (bt s) nF 2))) 216 1 = lN (wtF (I' 206) (bt s) nF 1) := by simp [up2]
  have m2 : (up2 (up2 (up2 J' 216 0 (lN (wtF (I' 206) (bt s) nF 0))) 216 1 (lN (wtF (I' 206) (bt s) nF 1))) 216 2 (lN (wtF (I' 206) (bt s) nF 2))) 216 2 = lN (wtF (I' 206) (bt s) nF 2) := by simp [up2]
  generalize stpJ (stpJ (stpJ (up2 J 193 1 0) 0 (wtF (I' 206) (bt s) nF 0)) 1 (wtF (I' 206) (bt s) nF 1)) 2 (wtF (I' 206) (bt s) nF 2) = K at *
  generalize up2 (up2 (up2 J' 216 0 (lN (wtF (I' 206) (bt s) nF 0))) 216 1 (lN (wtF (I' 206) (bt s) nF 1))) 216 2 (lN (wtF (I' 206) (bt s) nF 2)) = K' at *
  have l3 : ((3 : Int32) ≤ nI 3) = True := by rw [L_3, le_nI (by omega) (by omega)]; exact eq_true (by omega)
  by_cases z : wtF (I' 206) (bt s) nF 0 + wtF (I' 206) (bt s) nF 1 + wtF (I' 206) (bt s) nF 2 = 0
  · have z1 : (lN 0 = (0 : Int64)) = True := eq_true rfl
    have z2 : (lN 0 ≤ (0 : Int64)) = True := eq_true (by decide)
    rw [z] at s0 w
    refine ⟨up2 (up2 (up2 (up2 K 194 0 1) 194 1 1) 194 2 1) 193 1 3, up2 (up2 (up2 K' 216 0 1) 216 1 1) 216 2 1, by simp only [↓reduceIte, Beliefs_weigh_8, l3, s0, z1, ones_b hN, Option.bind_some], by rw [Mod_layWeights_2]; simp only [↓reduceIte, l3, w, z2, Option.bind_some]; exact ones_m hN, fun r => by simp only [WF, z, if_true]; omega, by simp [WF, z], fun r hr => ?_, ?_, fun r hr => ?_⟩
    · match r, hr with
      | 0, _ => simp [WF, z, up2]; rfl
      | 1, _ => simp [WF, z, up2]; rfl
      | 2, _ => simp [WF, z, up2]; rfl
    · simp [WF, z, up2]; rfl
    · match r, hr with
      | 0, _ => simp [WF, z, up2]; rfl
      | 1, _ => simp [WF, z, up2]; rfl
      | 2, _ => simp [WF, z, up2]; rfl
  · have z1 : (lN (wtF (I' 206) (bt s) nF 0 + wtF (I' 206) (bt s) nF 1 + wtF (I' 206) (bt s) nF 2) = (0 : Int64)) = False := by rw [LL_0, eqL (by omega) (by omega)]; exact eq_false z
    have z2 : (lN (wtF (I' 206) (bt s) nF 0 + wtF (I' 206) (bt s) nF 1 + wtF (I' 206) (bt s) nF 2) ≤ (0 : Int64)) = False := by rw [LL_0, leL (by omega) (by omega)]; exact eq_false (by omega)
    refine ⟨K, K', by simp only [↓reduceIte, Beliefs_weigh_8, l3, s0, z1], by rw [Mod_layWeights_2]; simp only [↓reduceIte, l3, w, z2, Option.bind_some], fun r => by simp only [WF, z, if_false]; exact wtF_le _ _ hb.2.1, by simp only [WF, z, if_false]; omega, fun r hr => ?_, ?_, fun r hr => ?_⟩
    · simp only [WF, z, if_false]
      match r, hr with
      | 0, _ => exact s1
      | 1, _ => exact s2
      | 2, _ => exact s3
    · simp only [WF, z, if_false]; exact s0
    · simp only [WF, z, if_false]
      match r, hr with
      | 0, _ => exact m0
      | 1, _ => exact m1
      | 2, _ => exact m2
theorem like_q {W : Nat → Nat} (B : BelR J J' W) : ∀ m k l n n', k + m = 3 → l < 3 → m < n → m < n' → ∃ v, Beliefs_likeliest_4 N 193 n (nI l) (nI k) J = some v ∧ Mod_reading_18 N n' (nI l) (nI k) I' J' = some (v, I', J') := by
  obtain ⟨-, -, b3, -, b5⟩ := B
  intro m
  induction m with
  | zero =>
    intro k l n n' hk hl hn hn'
    obtain ⟨n, rfl⟩ : ∃ e, n = e + 1 := ⟨n - 1, by omega⟩
    obtain ⟨n', rfl⟩ : ∃ e, n' = e + 1 := ⟨n' - 1, by omega⟩
    obtain rfl : k = 3 := by omega
    exact ⟨nI l, by simp (disch := omega) only [Beliefs_likeliest_4, L_3, le_nI, ifT], by simp (disch := omega) only [Mod_reading_18, L_3, le_nI, ifT]⟩
  | succ m ih =>
    intro k l n n' hk hl hn hn'
    obtain ⟨n, rfl⟩ : ∃ e, n = e + 1 := ⟨n - 1, by omega⟩
    obtain ⟨n', rfl⟩ : ∃ e, n' = e + 1 := ⟨n' - 1, by omega⟩
    simp (disch := omega) only [Beliefs_likeliest_4, Mod_reading_18, L_3, le_nI, ifF, in9_t, if_true, tN, b3, b5, nS]
    by_cases c : lN (W k) ≤ lN (W l)
    · simp only [c, if_true]; exact ih (k + 1) l n n' (by omega) hl (by omega) (by omega)
    · simp only [c, if_false]; exact ih (k + 1) k n n' (by omega) (by omega) (by omega) (by omega)
theorem mx_e (a x : Int64) : (if x < a then a else x) = (if x ≤ a then a else x) := by
  by_cases h : x ≤ a
  · rw [if_pos h]
    by_cases g : x < a
    · rw [if_pos g]
    · rw [if_neg g]
      exact Int64.le_antisymm h (Int64.not_lt.mp g)
  · rw [if_neg h, if_neg (fun g => h (Int64.le_of_lt g))]
theorem sure_i {W : Nat → Nat} (h : QR N 25 ln nP nF nE nW nH nR I I') (B : BelR J J' W) {g : Nat} (hg : g < 4) : ∀ m k n n' (a c : Int64) (A C : Nat), a = lN A → c = lN C → A ≤ 99999999999999 → C ≤ 99999999999999 → k + m = 3 → m < n → m < n' → ∃ v, v ≤ 199999999999998 ∧ Beliefs_rightGuesses_8 N 193 ln n (nI g) a c (nI k) I J = some (lN v) ∧ Mod_sureBy_8 N n' (nI g) a c (nI k) I' J' = some (lN v) := by
  have hb := h.bd
  obtain ⟨b1, -, b3, -, b5⟩ := B
  intro m
  induction m with
  | zero =>
    intro k n n' a c A C ha hc hA hC hk hn hn'
    subst ha; subst hc
    obtain ⟨n, rfl⟩ : ∃ e, n = e + 1 := ⟨n - 1, by omega⟩
    obtain ⟨n', rfl⟩ : ∃ e, n' = e + 1 := ⟨n' - 1, by omega⟩
    obtain rfl : k = 3 := by omega
    exact ⟨A + C, by omega, by simp (disch := omega) only [Beliefs_rightGuesses_8, L_3, le_nI, ifT, lN_add], by simp (disch := omega) only [Mod_sureBy_8, L_3, le_nI, ifT, lN_add]⟩
  | succ m ih =>
    intro k n n' a c A C ha hc hA hC hk hn hn'
    obtain ⟨n, rfl⟩ : ∃ e, n = e + 1 := ⟨n - 1, by omega⟩
    obtain ⟨n', rfl⟩ : ∃ e, n' = e + 1 := ⟨n' - 1, by omega⟩
    obtain ⟨v, hv, ev⟩ := h.v_hint (k := 4 * k + g) (by omega)
    have e1 : I (ln + 6) (k * 4 + g) = nI v := by rw [h.hint (by omega), ← ev]; exact congrArg (I' 206) (by omega)
    have e2 : I' 206 (6 + 4 * k + g) = nI v := by rw [← ev]; exact congrArg (I' 206) (by omega)
    have t1 : nI k * 4 + nI g = nI (k * 4 + g) := by rw [L_4, nM, nA]
    have t2 : (6 : Int32) + 4 * nI k + nI g = nI (6 + 4 * k + g) := by rw [mx_4, ax_6, nA]
    have t3 : (12 : Int32) - nI v = nI (12 - v) := by rw [L_12, nSb hv]
    have g1 : in9 (nI (k * 4 + g)) 12 = True := in9_t (by omega) (by omega)
    have g2 : in9 (nI (6 + 4 * k + g)) 451 = True := in9_t (by omega) (by omega)
    have g3 : in9 (nI k) 3 = True := in9_t (by omega) (by omega)
    have u1 : (nI (k * 4 + g)).toNatClampNeg = k * 4 + g := tN (by omega)
    have u2 : (nI (6 + 4 * k + g)).toNatClampNeg = 6 + 4 * k + g := tN (by omega)
    have u3 : (nI k).toNatClampNeg = k := tN (by omega)
    have l3 : ((3 : Int32) ≤ nI k) = False := by rw [L_3, le_nI (by omega) (by omega)]; exact eq_false (by omega)
    have w1 := b3 k (by omega)
    have w2 := b5 k (by omega)
    have bw := b1 k
    have x1 : W k * v ≤ 6129819058176 * 12 := Nat.mul_le_mul bw hv
    have x2 : W k * (12 - v) ≤ 6129819058176 * 12 := Nat.mul_le_mul bw (by omega)
    simp only [↓reduceIte, Beliefs_rightGuesses_8, Mod_sureBy_8, l3, t1, t2, g1, g2, g3, u1, u2, u3, e1, e2, t3, w1, w2, nI_l (show v < 2147483648 by omega), nI_l (show 12 - v < 2147483648 by omega), lN_mul, nS, mx_e]
    by_cases c1 : lN (W k * v) ≤ a
    · by_cases c2 : lN (W k * (12 - v)) ≤ c
      · simp only [c1, c2, if_true]; exact ih (k + 1) n n' a c A C ha hc hA hC (by omega) (by omega) (by omega)
      · simp only [c1, c2, if_true, if_false]; exact ih (k + 1) n n' a _ A _ ha rfl hA (by omega) (by omega) (by omega) (by omega)
    · by_cases c2 : lN (W k * (12 - v)) ≤ c
      · simp only [c1, c2, if_true, if_false]; exact ih (k + 1) n n' _ c _ C rfl hc (by omega) hC (by omega) (by omega) (by omega)
      · simp only [c1, c2, if_false]; exact ih (k + 1) n n' _ _ _ _ rfl rfl (by omega) (by omega) (by omega) (by omega) (by omega)
theorem sure_q {W : Nat → Nat} (h : QR N 25 ln nP nF nE nW nH nR I I') (B : BelR J J' W) {g : Nat} (hg : g < 4) : ∃ v, v ≤ 199999999999998 ∧ Beliefs_rightGuesses N 193 ln (nI g) I J = some (lN v) ∧ Mod_sureBy N (nI g) I' J' = some (lN v) := by
  have hN := h.nN
  exact sure_i h B hg 3 0 N N 0 0 0 0 rfl rfl (by omega) (by omega) (by omega) (by omega) (by omega)
theorem asks_q {W : Nat → Nat} (h : QR N 25 ln nP nF nE nW nH nR I I') (B : BelR J J' W) : ∀ m k l n n', k + m = 4 → l < 4 → m < n → m < n' → ∃ v, Beliefs_surestKind_4 N 193 ln n (nI l) (nI k) I J = some v ∧ Mod_asks_18 N n' (nI l) (nI k) I' J' = some (v, I', J') := by
  intro m
  induction m with
  | zero =>
    intro k l n n' hk hl hn hn'
    obtain ⟨n, rfl⟩ : ∃ e, n = e + 1 := ⟨n - 1, by omega⟩
    obtain ⟨n', rfl⟩ : ∃ e, n' = e + 1 := ⟨n' - 1, by omega⟩
    obtain rfl : k = 4 := by omega
    exact ⟨nI l, by simp (disch := omega) only [Beliefs_surestKind_4, L_4, le_nI, ifT], by simp (disch := omega) only [Mod_asks_18, L_4, le_nI, ifT]⟩
  | succ m ih =>
    intro k l n n' hk hl hn hn'
    obtain ⟨n, rfl⟩ : ∃ e, n = e + 1 := ⟨n - 1, by omega⟩
    obtain ⟨n', rfl⟩ : ∃ e, n' = e + 1 := ⟨n' - 1, by omega⟩
    obtain ⟨v, -, v1, v2⟩ := sure_q h B (g := k) (by omega)
    obtain ⟨w, -, w1, w2⟩ := sure_q h B (g := l) hl
    simp (disch := omega) only [Beliefs_surestKind_4, Mod_asks_18, L_4, le_nI, ifF, v1, v2, w1, w2, Option.bind_some, nS]
    by_cases c : lN v ≤ lN w
    · simp only [c, if_true]; exact ih (k + 1) l n n' (by omega) hl (by omega) (by omega)
    · simp only [c, if_false]; exact ih (k + 1) k n n' (by omega) (by omega) (by omega) (by omega)
theorem share_i {W : Nat → Nat} (h : QR N 25 ln nP nF nE nW nH nR I I') (B : BelR J J' W) {g : Nat} (hg : g < 3) : ∀ m k n n' (a : Int64) (A : Nat), a = lN A → A ≤ k * 99999999999999 → k + m = 3 → m < n → m < n' → ∃ v, v ≤ 299999999999997 ∧ Beliefs_shareOf_5 N 193 ln n (nI g) a (nI k) I J = some (lN v) ∧ Mod_getsOf_5 N n' (nI g) a (nI k) I' J' = some (lN v) := by
  have hb := h.bd
  obtain ⟨b1, -, b3, -, b5⟩ := B
  intro m
  induction m with
  | zero =>
    intro k n n' a A ha hA hk hn hn'
    subst ha
    obtain ⟨n, rfl⟩ : ∃ e, n = e + 1 := ⟨n - 1, by omega⟩
    obtain ⟨n', rfl⟩ : ∃ e, n' = e + 1 := ⟨n' - 1, by omega⟩
    obtain rfl : k = 3 := by omega
    exact ⟨A, by omega, by simp (disch := omega) only [Beliefs_shareOf_5, L_3, le_nI, ifT], by simp (disch := omega) only [Mod_getsOf_5, L_3, le_nI, ifT]⟩
  | succ m ih =>
    intro k n n' a A ha hA hk hn hn'
    subst ha
    obtain ⟨n, rfl⟩ : ∃ e, n = e + 1 := ⟨n - 1, by omega⟩
    obtain ⟨n', rfl⟩ : ∃ e, n' = e + 1 := ⟨n' - 1, by omega⟩
    obtain ⟨v, hv, ev⟩ := h.v_gets (k := 3 * k + g) (by omega)
    have e1 : I (ln + 8) (k * 3 + g) = nI v := by rw [h.gets (by omega), ← ev]; exact congrArg (I' 206) (by omega)
    have e2 : I' 206 (21 + 3 * k + g) = nI v := by rw [← ev]; exact congrArg (I' 206) (by omega)
    have t1 : nI k * 3 + nI g = nI (k * 3 + g) := by rw [L_3, nM, nA]
    have t2 : (21 : Int32) + 3 * nI k + nI g = nI (21 + 3 * k + g) := by rw [mx_3, ax_21, nA]
    have g1 : in9 (nI (k * 3 + g)) 9 = True := in9_t (by omega) (by omega)
    have g2 : in9 (nI (21 + 3 * k + g)) 451 = True := in9_t (by omega) (by omega)
    have g3 : in9 (nI k) 3 = True := in9_t (by omega) (by omega)
    have u1 : (nI (k * 3 + g)).toNatClampNeg = k * 3 + g := tN (by omega)
    have u2 : (nI (21 + 3 * k + g)).toNatClampNeg = 21 + 3 * k + g := tN (by omega)
    have u3 : (nI k).toNatClampNeg = k := tN (by omega)
    have l3 : ((3 : Int32) ≤ nI k) = False := by rw [L_3, le_nI (by omega) (by omega)]; exact eq_false (by omega)
    have w1 := b3 k (by omega)
    have w2 := b5 k (by omega)
    have bw := b1 k
    have x1 : W k * v ≤ 6129819058176 * 12 := Nat.mul_le_mul bw hv
    simp only [↓reduceIte, Beliefs_shareOf_5, Mod_getsOf_5, l3, t1, t2, g1, g2, g3, u1, u2, u3, e1, e2, w1, w2, nI_l (show v < 2147483648 by omega), lN_mul, lN_add, nS]
    exact ih (k + 1) n n' _ _ rfl (by omega) (by omega) (by omega) (by omega)
theorem share_q {W : Nat → Nat} (h : QR N 25 ln nP nF nE nW nH nR I I') (B : BelR J J' W) {g : Nat} (hg : g < 3) : ∃ v, v ≤ 299999999999997 ∧ Beliefs_shareOf N 193 ln (nI g) I J = some (lN v) ∧ Mod_getsOf N (nI g) I' J' = some (lN v) := by
  have hN := h.nN
  exact share_i h B hg 3 0 N N 0 0 rfl (by omega) (by omega) (by omega) (by omega)
end Q34

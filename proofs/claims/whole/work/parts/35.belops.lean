/-! what is asked of beliefs: both sides -/
theorem arg_in {n : Nat} (hn : n < 100) (x : Int32) : (Mod_isIn x 0 (nI n) = true ∧ (x < 0) = False ∧ (nI (n + 1) ≤ x) = False ∧ (x ≤ nI n) = True ∧ ∃ j, j ≤ n ∧ x = nI j) ∨ (Mod_isIn x 0 (nI n) = false ∧ ((x < 0) = True ∨ (x < 0) = False ∧ (nI (n + 1) ≤ x) = True ∧ (x ≤ nI n) = False)) := by
  unfold Mod_isIn
  by_cases h : x < 0
  · right; exact ⟨by rw [if_pos h], Or.inl (eq_true h)⟩
  · obtain ⟨j, hj, rfl⟩ := nNN h
    rw [if_neg h]
    simp (disch := omega) only [lt_nI, le_nI]
    by_cases g : n < j
    · right; exact ⟨by rw [if_pos g], Or.inr ⟨eq_false h, eq_true (by omega), eq_false (by omega)⟩⟩
    · left; exact ⟨by rw [if_neg g], eq_false h, eq_false (by omega), eq_true (by omega), j, by omega, rfl⟩
section Q35
variable {N b ln sp sn ss nP nF nE nW nH nR : Nat} {I I' : FI} {J J' : FJ}
theorem m1_ne {k : Nat} (hk : k < 2147483648) : decide (nI k = (-1 : Int32)) = false := decide_eq_false (fun h => by rw [nI_ne1 hk] at h; exact h)
/-- the weights of what is told -/
theorem weigh_t (h : QR N 25 ln nP nF nE nW nH nR I I') (J J' : FJ) : ∃ J1 J1' W, Beliefs_weigh N 193 ln 25 (-1) I J = some J1 ∧ Mod_layWeights N (bitsF (fun f => decide (I' 206 (135 + f) = 2)) nF) I' J' = some J1' ∧ BelR J1 J1' W := by
  have hb := h.bd
  obtain ⟨J1, J1', a, b, B⟩ := weigh_q h J J' (-1) (bitsF (fun f => decide (I' 206 (135 + f) = 2)) nF) (fun k a b => told_hi hb.2.1 a b) (fun f hf => by rw [told_bt h hf, m1_ne (by omega), Bool.or_false])
  exact ⟨J1, J1', _, a, b, B⟩
theorem all_q {W : Nat → Nat} (B : BelR J J' W) : Mod_weightAll J' = some (lN (W 0 + W 1 + W 2)) := all_m J' (B.2.2.2.2 0 (by omega)) (B.2.2.2.2 1 (by omega)) (B.2.2.2.2 2 (by omega))
theorem tot_b {W : Nat → Nat} (B : BelR J J' W) : W 0 + W 1 + W 2 ≤ 18389457174528 := by
  have a := B.1 0
  have b := B.1 1
  have c := B.1 2
  omega
theorem op_reading (h : QR N 25 ln nP nF nE nW nH nR I I') (J J' : FJ) : ∃ v J1 J1', Hol_reading N ln sp sn ss I J = some (v, J1) ∧ Mod_reading N I' J' = some (v, up2 I' 204 0 0, J1') := by
  have hN := h.nN
  have h1 := h.thr (v := 0)
  obtain ⟨g1, g2⟩ := bits_q h1 2
  obtain ⟨J1, J1', W, a, b, B⟩ := weigh_t h1 J J'
  obtain ⟨v, c, d⟩ := like_q (N := N) (I' := up2 I' 204 0 0) B 2 1 0 N N (by omega) (by omega) (by omega) (by omega)
  have c' : Beliefs_likeliest N 193 J1 = some v := c
  refine ⟨v, J1, J1', ?_, ?_⟩
  · unfold Hol_reading
    rw [a, Option.bind_some, c', Option.bind_some]
  · unfold Mod_reading
    rw [Option.bind_some, g2, Option.bind_some, b, Option.bind_some]
    exact d
theorem op_asks (h : QR N 25 ln nP nF nE nW nH nR I I') (J J' : FJ) : ∃ v J1 J1', Hol_asks N ln sp sn ss I J = some (v, J1) ∧ Mod_asks N I' J' = some (v, up2 I' 204 0 0, J1') := by
  have hN := h.nN
  have h1 := h.thr (v := 0)
  obtain ⟨g1, g2⟩ := bits_q h1 2
  obtain ⟨J1, J1', W, a, b, B⟩ := weigh_t h1 J J'
  obtain ⟨v, c, d⟩ := asks_q h1 B 3 1 0 N N (by omega) (by omega) (by omega) (by omega)
  have c' : Beliefs_surestKind N 193 ln I J1 = some v := c
  refine ⟨v, J1, J1', ?_, ?_⟩
  · unfold Hol_asks
    rw [a, Option.bind_some, c', Option.bind_some]
  · unfold Mod_asks
    rw [Option.bind_some, g2, Option.bind_some, b, Option.bind_some]
    exact d
theorem op_belief (h : QR N 25 ln nP nF nE nW nH nR I I') (J J' : FJ) (l1 l2 : Int32) : (∃ v J1 J1', Hol_belief N ln sp sn ss l1 l2 I J = some (some v, J1) ∧ Mod_belief N l1 l2 I' J' = some (v, up2 I' 204 0 0, J1')) ∨ (Hol_belief N ln sp sn ss l1 l2 I J = some (none, J) ∧ Mod_belief N l1 l2 I' J' = some (0, up2 (up2 I' 204 0 0) 204 0 1, J')) := by
  have hN := h.nN
  have h1 := h.thr (v := 0)
  obtain ⟨g1, g2⟩ := bits_q h1 2
  have q1 := arg_in (n := 2) (by omega) l1
  have q2 := arg_in (n := 1) (by omega) l2
  rw [show nI 2 = (2 : Int32) from id rfl, show nI (2 + 1) = (3 : Int32) from id rfl] at q1
  rw [show nI 1 = (1 : Int32) from id rfl] at q2
  unfold Hol_belief Mod_belief
  rcases q1 with ⟨a, b, c, -, i, hi, rfl⟩ | ⟨a, (b | ⟨b, c, -⟩)⟩
  · rcases q2 with ⟨a2, b2, -, d2, k, hk, rfl⟩ | ⟨a2, (b2 | ⟨b2, -, d2⟩)⟩
    · left
      obtain ⟨J1, J1', W, e1, e2, B⟩ := weigh_t h1 J J'
      have tb := tot_b B
      have wb := B.1 i
      obtain ⟨v, f1, f2⟩ := term_q (N := N) (a := W i) (b := W 0 + W 1 + W 2) (by omega) (by omega) (by omega) B.2.1 (nI k)
      have g3 : in9 (nI i) 3 = True := in9_t (by omega) (by omega)
      have u3 : (nI i).toNatClampNeg = i := tN (by omega)
      simp only [↓reduceIte, a, b, c, a2, b2, d2, g2, e1, e2, g3, u3, all_q B, B.2.2.1 i (by omega), B.2.2.2.1, B.2.2.2.2 i (by omega), f1, f2, Option.bind_some]
      exact ⟨_, _, _, rfl, rfl⟩
    · right; simp only [↓reduceIte, a, b, c, a2, b2, Bool.false_eq_true, Mod_refuse, Option.bind_some]; first | exact ⟨rfl, rfl⟩ | exact ⟨trivial, rfl⟩
    · right; simp only [↓reduceIte, a, b, c, a2, b2, d2, Bool.false_eq_true, Mod_refuse, Option.bind_some]; first | exact ⟨rfl, rfl⟩ | exact ⟨trivial, rfl⟩
  · right; simp only [↓reduceIte, a, b, Bool.false_eq_true, Mod_refuse, Option.bind_some]; first | exact ⟨rfl, rfl⟩ | exact ⟨trivial, rfl⟩
  · right; simp only [↓reduceIte, a, b, c, Bool.false_eq_true, Mod_refuse, Option.bind_some]; first | exact ⟨rfl, rfl⟩ | exact ⟨trivial, rfl⟩

theorem op_sure (h : QR N 25 ln nP nF nE nW nH nR I I') (J J' : FJ) (l1 l2 : Int32) : (∃ v J1 J1', Hol_sure N ln sp sn ss l1 l2 I J = some (some v, J1) ∧ Mod_sure N l1 l2 I' J' = some (v, up2 I' 204 0 0, J1')) ∨ (Hol_sure N ln sp sn ss l1 l2 I J = some (none, J) ∧ Mod_sure N l1 l2 I' J' = some (0, up2 (up2 I' 204 0 0) 204 0 1, J')) := by
  have hN := h.nN
  have h1 := h.thr (v := 0)
  obtain ⟨g1, g2⟩ := bits_q h1 2
  have q1 := arg_in (n := 3) (by omega) l1
  have q2 := arg_in (n := 1) (by omega) l2
  rw [show nI 3 = (3 : Int32) from id rfl, show nI (3 + 1) = (4 : Int32) from id rfl] at q1
  rw [show nI 1 = (1 : Int32) from id rfl] at q2
  unfold Hol_sure Mod_sure
  rcases q1 with ⟨a, b, c, -, i, hi, rfl⟩ | ⟨a, (b | ⟨b, c, -⟩)⟩
  · rcases q2 with ⟨a2, b2, -, d2, k, hk, rfl⟩ | ⟨a2, (b2 | ⟨b2, -, d2⟩)⟩
    · left
      obtain ⟨J1, J1', W, e1, e2, B⟩ := weigh_t h1 J J'
      have tb := tot_b B
      have tp := B.2.1
      obtain ⟨s, hs, s1, s2⟩ := sure_q h1 B (g := i) (by omega)
      obtain ⟨v, f1, f2⟩ := term_q (N := N) (a := s) (b := 12 * (W 0 + W 1 + W 2)) (by omega) (by omega) (by omega) (by omega) (nI k)
      rw [← lN_mul, ← LL_12] at f1 f2
      simp only [↓reduceIte, a, b, c, a2, b2, d2, g2, e1, e2, s1, s2, all_q B, B.2.2.2.1, f1, f2, Option.bind_some]
      exact ⟨_, _, _, rfl, rfl⟩
    · right; simp only [↓reduceIte, a, b, c, a2, b2, Bool.false_eq_true, Mod_refuse, Option.bind_some]; first | exact ⟨rfl, rfl⟩ | exact ⟨trivial, rfl⟩
    · right; simp only [↓reduceIte, a, b, c, a2, b2, d2, Bool.false_eq_true, Mod_refuse, Option.bind_some]; first | exact ⟨rfl, rfl⟩ | exact ⟨trivial, rfl⟩
  · right; simp only [↓reduceIte, a, b, Bool.false_eq_true, Mod_refuse, Option.bind_some]; first | exact ⟨rfl, rfl⟩ | exact ⟨trivial, rfl⟩
  · right; simp only [↓reduceIte, a, b, c, Bool.false_eq_true, Mod_refuse, Option.bind_some]; first | exact ⟨rfl, rfl⟩ | exact ⟨trivial, rfl⟩
/-- what is told is worth a number in range -/
theorem told_val (h : QR N b ln nP nF nE nW nH nR I I') (p : Nat → Bool) : ∀ n, n ≤ 10 → ∃ v, v ≤ 99 * n ∧ itF (fun f a => if p f = true then a + I' 206 (80 + f) else a) n 0 = nI v := by
  intro n
  induction n with
  | zero => exact fun _ => ⟨0, by omega, rfl⟩
  | succ n ih =>
    intro hn
    obtain ⟨v, hv, e⟩ := ih (by omega)
    obtain ⟨w, hw, ew⟩ := h.v_value (f := n) (by omega)
    show ∃ u, _ ∧ (if p n = true then itF (fun f a => if p f = true then a + I' 206 (80 + f) else a) n 0 + I' 206 (80 + n) else itF (fun f a => if p f = true then a + I' 206 (80 + f) else a) n 0) = nI u
    rw [e, ew]
    cases p n with
    | true => exact ⟨v + w, by omega, by rw [if_pos rfl, nA]⟩
    | false => exact ⟨v, by omega, by rw [if_neg (by decide)]⟩
theorem op_gains (h : QR N 25 ln nP nF nE nW nH nR I I') (J J' : FJ) (l1 l2 : Int32) : (∃ v J1 J1', Hol_gains N ln sp sn ss l1 l2 I J = some (some v, J1) ∧ Mod_gains N l1 l2 I' J' = some (v, up2 I' 204 0 0, J1')) ∨ (Hol_gains N ln sp sn ss l1 l2 I J = some (none, J) ∧ Mod_gains N l1 l2 I' J' = some (0, up2 (up2 I' 204 0 0) 204 0 1, J')) := by
  have hN := h.nN
  have h1 := h.thr (v := 0)
  have hb := h.bd
  obtain ⟨g1, g2⟩ := bits_q h1 2
  have q1 := arg_in (n := 2) (by omega) l1
  have q2 := arg_in (n := 1) (by omega) l2
  rw [show nI 2 = (2 : Int32) from id rfl, show nI (2 + 1) = (3 : Int32) from id rfl] at q1
  rw [show nI 1 = (1 : Int32) from id rfl] at q2
  unfold Hol_gains Mod_gains
  rcases q1 with ⟨a, b, c, -, i, hi, rfl⟩ | ⟨a, (b | ⟨b, c, -⟩)⟩
  · rcases q2 with ⟨a2, b2, -, d2, k, hk, rfl⟩ | ⟨a2, (b2 | ⟨b2, -, d2⟩)⟩
    · left
      obtain ⟨J1, J1', W, e1, e2, B⟩ := weigh_t h1 J J'
      have tb := tot_b B
      have tp := B.2.1
      obtain ⟨s, hs, s1, s2⟩ := share_q h1 B (g := i) (by omega)
      obtain ⟨p1, p2⟩ := value_q h1 (bitsF (fun f => decide (up2 I' 204 0 0 206 (135 + f) = 2)) nF) (fun k a b => told_hi hb.2.1 a b)
      obtain ⟨vv, hvv, ev⟩ := told_val h1 (bt (bitsF (fun f => decide (up2 I' 204 0 0 206 (135 + f) = 2)) nF)) nF hb.2.1
      have hvs : vv * s ≤ 990 * 299999999999997 := Nat.mul_le_mul (by omega) hs
      obtain ⟨v, f1, f2⟩ := term_q (N := N) (a := vv * s) (b := 12 * (W 0 + W 1 + W 2)) (by omega) (by omega) (by omega) (by omega) (nI k)
      rw [← lN_mul 12, ← LL_12, ← lN_mul] at f1 f2
      rw [ev] at p1 p2
      have tv : State_toldValue N 25 ln I = some (nI vv) := by unfold State_toldValue; rw [g1, Option.bind_some, p1, Option.bind_some]
      simp only [↓reduceIte, a, b, c, a2, b2, d2, g2, e1, e2, s1, s2, tv, p2, nI_l (show vv < 2147483648 by omega), all_q B, B.2.2.2.1, f1, f2, Option.bind_some]
      exact ⟨_, _, _, rfl, rfl⟩
    · right; simp only [↓reduceIte, a, b, c, a2, b2, Bool.false_eq_true, Mod_refuse, Option.bind_some]; first | exact ⟨rfl, rfl⟩ | exact ⟨trivial, rfl⟩
    · right; simp only [↓reduceIte, a, b, c, a2, b2, d2, Bool.false_eq_true, Mod_refuse, Option.bind_some]; first | exact ⟨rfl, rfl⟩ | exact ⟨trivial, rfl⟩
  · right; simp only [↓reduceIte, a, b, Bool.false_eq_true, Mod_refuse, Option.bind_some]; first | exact ⟨rfl, rfl⟩ | exact ⟨trivial, rfl⟩
  · right; simp only [↓reduceIte, a, b, c, Bool.false_eq_true, Mod_refuse, Option.bind_some]; first | exact ⟨rfl, rfl⟩ | exact ⟨trivial, rfl⟩
/-- whole numbers that may be below nothing -/
def lZ (z : Int) : Int64 := Int64.ofInt z
theorem lZ_n (n : Nat) : lN n = lZ n := (Int64.ofInt_eq_ofNat).symm
theorem lZ_mul (a b : Int) : lZ a * lZ b = lZ (a * b) := (Int64.ofInt_mul a b).symm
theorem lZ_sub (a b : Int) : lZ a - lZ b = lZ (a - b) := (Int64.ofInt_sub a b).symm
theorem lZ_lt {a b : Int} (ha : -9223372036854775808 ≤ a) (ha2 : a < 9223372036854775808) (hb : -9223372036854775808 ≤ b) (hb2 : b < 9223372036854775808) : (lZ a < lZ b) = (a < b) := by
  rw [Int64.lt_iff_toInt_lt]
  unfold lZ
  rw [Int64.toInt_ofInt_of_le (by omega) (by omega), Int64.toInt_ofInt_of_le (by omega) (by omega)]
theorem pays_e {v x t r : Nat} (hv : v ≤ 99) (hx : x ≤ 299999999999997) (ht : t ≤ 18389457174528) (hr : r ≤ 12) : ((2 * nI v).toInt64 * lN x < (nI v).toInt64 * (12 - 3 * (nI r).toInt64) * lN t) = ((nI v).toInt64 * (2 * lN x - (12 - 3 * (nI r).toInt64) * lN t) < 0) := by
  have a1 : v * x ≤ 99 * 299999999999997 := Nat.mul_le_mul hv hx
  have a2 : v * t ≤ 99 * 18389457174528 := Nat.mul_le_mul hv ht
  have a3 : r * (v * t) ≤ 12 * (99 * 18389457174528) := Nat.mul_le_mul hr a2
  rw [mx_2, nI_l (show 2 * v < 2147483648 by omega), nI_l (show v < 2147483648 by omega), nI_l (show r < 2147483648 by omega), show (12 : Int64) = lZ 12 from rfl, show (3 : Int64) = lZ 3 from rfl, show (2 : Int64) = lZ 2 from rfl, show (0 : Int64) = lZ 0 from rfl]
  simp only [lZ_n, lZ_mul, lZ_sub]
  have e1 : ((2 * v : Nat) : Int) * (x : Int) = 2 * ((v * x : Nat) : Int) := by rw [Int.natCast_mul, Int.natCast_mul, Int.mul_assoc]; rfl
  have e2 : (v : Int) * (12 - 3 * (r : Int)) * (t : Int) = 12 * ((v * t : Nat) : Int) - 3 * ((r * (v * t) : Nat) : Int) := by
    rw [Int.natCast_mul, Int.natCast_mul, Int.natCast_mul, Int.mul_sub, Int.sub_mul, Int.mul_comm (v : Int) 12, Int.mul_assoc 12, Int.mul_left_comm (v : Int) 3, Int.mul_assoc 3, Int.mul_comm (v : Int) r, Int.mul_assoc (r : Int)]
  have e3 : (v : Int) * (2 * (x : Int) - (12 - 3 * (r : Int)) * (t : Int)) = 2 * ((v * x : Nat) : Int) - (12 * ((v * t : Nat) : Int) - 3 * ((r * (v * t) : Nat) : Int)) := by
    rw [← e2, Int.natCast_mul, Int.mul_sub, Int.mul_left_comm, Int.mul_assoc]
  rw [e1, e2, e3, lZ_lt (by omega) (by omega) (by omega) (by omega), lZ_lt (by omega) (by omega) (by omega) (by omega)]
  exact propext ⟨fun h => by omega, fun h => by omega⟩
theorem op_best (h : QR N 25 ln nP nF nE nW nH nR I I') (J J' : FJ) (l1 : Int32) : ∃ v J1 J1', Hol_best N ln sp sn ss l1 I J = some (v, J1) ∧ Mod_best N l1 I' J' = some (v, up2 I' 204 0 0, J1') := by
  have hN := h.nN
  have h1 := h.thr (v := 0)
  have hb := h.bd
  obtain ⟨g1, g2⟩ := bits_q h1 2
  unfold Hol_best Mod_best
  rcases is_find h1 l1 with ⟨a, b, j, hj, rfl⟩ | ⟨a, b⟩
  · have i1 := isHad_e h1 (f := j) (by omega)
    have s1 := h1.stat_25 (f := j) (by omega)
    have g3 : in9 (nI j) 10 = True := in9_t (by omega) (by omega)
    have u3 : (nI j).toNatClampNeg = j := tN (by omega)
    by_cases c : up2 I' 204 0 0 206 (135 + j) = 1
    · obtain ⟨J1, J1', e1, e2, B⟩ := weigh_q h1 J J' (nI j) (bitsF (fun f => decide (up2 I' 204 0 0 206 (135 + f) = 2)) nF ||| (1 <<< (nI j &&& 31))) (fun k a b => by
        rw [b_or, told_hi hb.2.1 a b, b_one (by omega) (by omega)]
        simp; omega) (fun f hf => by
        rw [b_or, told_bt h1 hf, b_one (by omega) (by omega)]
        simp (disch := omega) only [eq_nI])
      have tb := tot_b B
      obtain ⟨s, hs, p1, p2⟩ := share_q h1 B (g := 1) (by omega)
      obtain ⟨vv, hvv, ev⟩ := h1.v_value (f := j) (by omega)
      have f5 : Land_factOf ln (nI j) 5 I = some (nI vv) := by
        rw [show (5 : Int32) = nI 5 from id rfl, fact_e h1 hj (by decide), ← ev, ← h1.f_value hj]
      have G80 : in9 (80 + nI j) 451 = True := by rw [ax_80]; exact in9_t (by omega) (by omega)
      have U80 : ((80 : Int32) + nI j).toNatClampNeg = 80 + j := by rw [ax_80]; exact tN (by omega)
      rw [show nI 1 = (1 : Int32) from id rfl] at p1 p2
      have A := all_q B
      have T := B.2.2.2.1
      generalize hT : WF (up2 I' 204 0 0 206) (bt (bitsF (fun f => decide (up2 I' 204 0 0 206 (135 + f) = 2)) nF ||| (1 <<< (nI j &&& 31)))) nF 0 + WF (up2 I' 204 0 0 206) (bt (bitsF (fun f => decide (up2 I' 204 0 0 206 (135 + f) = 2)) nF ||| (1 <<< (nI j &&& 31)))) nF 1 + WF (up2 I' 204 0 0 206) (bt (bitsF (fun f => decide (up2 I' 204 0 0 206 (135 + f) = 2)) nF ||| (1 <<< (nI j &&& 31)))) nF 2 = tt at tb A T
      have P := pays_e (v := vv) (x := s) (t := tt) (r := nR) (by omega) hs tb (by omega)
      by_cases q : ((2 : Int32) * nI vv).toInt64 * lN s < (nI vv).toInt64 * ((12 : Int64) - (3 : Int64) * (nI nR).toInt64) * lN tt
      · have q2 := P.mp q
        simp only [↓reduceIte, a, b, g3, u3, s1, i1, c, decide_true, e1, e2, f5, g2, p1, p2, Beliefs_tellingPays, A, G80, U80, ev, T, T_5, h1.cR, h1.mR, q, q2, Bool.false_eq_true, Option.bind_some]
        exact ⟨_, _, _, rfl, rfl⟩
      · have q2 := mt P.mpr q
        simp only [↓reduceIte, a, b, g3, u3, s1, i1, c, decide_true, e1, e2, f5, g2, p1, p2, Beliefs_tellingPays, A, G80, U80, ev, T, T_5, h1.cR, h1.mR, q, q2, Option.bind_some]
        exact ⟨_, _, _, rfl, rfl⟩
    · simp only [↓reduceIte, a, b, g3, u3, s1, i1, c, decide_false, Bool.false_eq_true, Option.bind_some]
      exact ⟨_, _, _, rfl, rfl⟩
  · simp only [↓reduceIte, a, b, Bool.false_eq_true, Option.bind_some]
    exact ⟨_, _, _, rfl, rfl⟩
end Q35

/-! what a sentence says: both sides -/
section Q79
variable {N a b ln sp sn ss nP nF nE nW nH nR : Nat} {I I' : FI} {J J' : FJ} {s f : Nat} {L : List Nat}
theorem allB : ∀ n, n < 11 → ((1 : Int32) <<< (nI n &&& 31)) - 1 = bitsF (fun _ => true) n := by decide +kernel
theorem bF_not {p : Nat → Bool} {n : Nat} (hn : n < 11) : bitsF (fun _ => true) n &&& (bitsF p n ^^^ (-1)) = bitsF (fun k => !p k) n := by
  refine b_ext (fun i hi => ?_)
  rw [b_and, b_xor, b_m1 i hi, b_bitsF (by omega) hi, b_bitsF (by omega) hi, b_bitsF (by omega) hi]
  cases decide (i < n) <;> cases p i <;> rfl
theorem bF_and {p q : Nat → Bool} {n : Nat} (hn : n < 11) : bitsF p n &&& bitsF q n = bitsF (fun k => p k && q k) n := by
  refine b_ext (fun i hi => ?_)
  rw [b_and, b_bitsF (by omega) hi, b_bitsF (by omega) hi, b_bitsF (by omega) hi]
  cases decide (i < n) <;> cases p i <;> cases q i <;> rfl
theorem bF_or {p q : Nat → Bool} {n : Nat} (hn : n < 11) : bitsF p n ||| bitsF q n = bitsF (fun k => p k || q k) n := by
  refine b_ext (fun i hi => ?_)
  rw [b_or, b_bitsF (by omega) hi, b_bitsF (by omega) hi, b_bitsF (by omega) hi]
  cases decide (i < n) <;> cases p i <;> cases q i <;> rfl
theorem step_bits {p : Nat → Bool} (hN : 2000 ≤ N) (hF : nF ≤ 10) (hc : I ln 12 = nI nF) (hp : ∀ f, f < nF → Sentence_holds a ln 25 (nI s) (nI f) I = some (p f)) : Sentence_bitsOfStep N a ln 25 (nI s) I = some (bitsF p nF) := by
  have key : ∀ m k n, k + m = nF → m < n → Sentence_bitsOfStep_6 N a ln 25 n (nI s) (bitsF p k) (nI k) I = some (bitsF p nF) := by
    intro m
    induction m with
    | zero =>
      intro k n hk hn
      obtain ⟨n, rfl⟩ : ∃ e, n = e + 1 := ⟨n - 1, by omega⟩
      obtain rfl : k = nF := by omega
      simp (disch := omega) only [Sentence_bitsOfStep_6, hc, le_nI, ifT]
    | succ m ih =>
      intro k n hk hn
      obtain ⟨n, rfl⟩ : ∃ e, n = e + 1 := ⟨n - 1, by omega⟩
      have h1 := ih (k + 1) n (by omega) (by omega)
      have h2 := hp k (by omega)
      have t1 : (nI nF ≤ nI k) = False := by rw [le_nI (by omega) (by omega)]; exact eq_false (by omega)
      cases e : p k with
      | true =>
        rw [e] at h2
        have e2 : bitsF p (k + 1) = bitsF p k ||| (1 <<< (nI k &&& 31)) := by show (bif p k then _ else _) = _; rw [e]; rfl
        rw [e2] at h1
        simp only [↓reduceIte, Sentence_bitsOfStep_6, hc, t1, h2, nS, Option.bind_some]
        exact h1
      | false =>
        rw [e] at h2
        have e2 : bitsF p (k + 1) = bitsF p k := by show (bif p k then _ else _) = _; rw [e]; rfl
        rw [e2] at h1
        simp only [↓reduceIte, Sentence_bitsOfStep_6, hc, t1, h2, nS, Option.bind_some, Bool.false_eq_true]
        exact h1
  exact key nF 0 N (by omega) (by omega)
/-- what the model's node r says of find f -/
def hP (N : Nat) (I' : FI) (r f : Nat) : Bool := (Mod_holds_R N dK (nI r) (nI f) I').getD false
theorem hP_of {r : Nat} {q : Nat → Bool} (hr : r < 64) (h : ∀ d f, r < d → f < nF → Mod_holds_R N d (nI r) (nI f) I' = some (q f)) : ∀ d f, r < d → f < nF → Mod_holds_R N d (nI r) (nI f) I' = some (hP N I' r f) := by
  intro d f hd hf
  rw [h d f hd hf]
  unfold hP
  rw [h dK f hr hf]
  rfl
theorem hP_eq {r : Nat} {q : Nat → Bool} (hr : r < 64) (h : ∀ d f, r < d → f < nF → Mod_holds_R N d (nI r) (nI f) I' = some (q f)) : ∀ f, f < nF → hP N I' r f = q f := by
  intro f hf
  unfold hP
  rw [h dK f hr hf]
  rfl
theorem m1_n (c : Nat) : nI (c + 1) + (-1) = nI c := by
  rw [← nS, Int32.add_assoc, show (1 : Int32) + (-1) = 0 by decide, Int32.add_zero]
theorem s1_n (c : Nat) : nI (c + 1) - 1 = nI c := by rw [L_1, nSb (by omega)]; rfl
/-- the stack of the book's side says what the model's nodes say -/
def StkV (N a nF c s : Nat) (L : List Nat) (I I' : FI) : Prop := (∀ k, k < L.length → I (a + 4) (L.length - 1 - k) = bitsF (hP N I' (L.getD k 0)) nF) ∧ (∀ r, r ∈ L → r < s ∧ ∀ d f, r < d → f < nF → Mod_holds_R N d (nI r) (nI f) I' = some (hP N I' r f)) ∧ L.length ≤ 20
theorem node_1 {r : Nat} (hs : s < 40) (hr : r < s) (h0 : I' 206 (211 + 4 * s) = nI 1) (h1 : I' 206 (211 + 4 * s + 1) = nI r) (R : Int32 → Int32 → FI → Option Bool) {q : Bool} (hR : R (nI r) (nI f) I' = some q) : Mod_holds R N (nI s) (nI f) I' = some (!q) := by
  have m4 : 4 * nI s = nI (4 * s) := mx_4 s
  have a1 : nI (211 + 4 * s) + 1 = nI (211 + 4 * s + 1) := nA _ 1
  have a2 : nI (211 + 4 * s) + 2 = nI (211 + 4 * s + 2) := nA _ 2
  have i0 : in9 (nI (211 + 4 * s)) 451 = True := in9_t (by omega) (by omega)
  have i1 : in9 (nI (211 + 4 * s + 1)) 451 = True := in9_t (by omega) (by omega)
  have i2 : in9 (nI (211 + 4 * s + 2)) 451 = True := in9_t (by omega) (by omega)
  have t0 : (nI (211 + 4 * s)).toNatClampNeg = 211 + 4 * s := tN (by omega)
  have t1 : (nI (211 + 4 * s + 1)).toNatClampNeg = 211 + 4 * s + 1 := tN (by omega)
  have y1 : (nI 1 = (1 : Int32)) = True := eq_true rfl
  cases q <;> simp only [↓reduceIte, Mod_holds, m4, ax_211, a1, a2, i0, i1, i2, t0, t1, h0, h1, y1, hR, Option.bind_some, Bool.not_true, Bool.not_false, Bool.false_eq_true]
theorem node_2 {r1 r2 : Nat} (hs : s < 40) (h0 : I' 206 (211 + 4 * s) = nI 2) (h1 : I' 206 (211 + 4 * s + 1) = nI r1) (h2 : I' 206 (211 + 4 * s + 2) = nI r2) (R : Int32 → Int32 → FI → Option Bool) {q1 q2 : Bool} (hR1 : R (nI r1) (nI f) I' = some q1) (hR2 : R (nI r2) (nI f) I' = some q2) : Mod_holds R N (nI s) (nI f) I' = some (q1 && q2) := by
  have m4 : 4 * nI s = nI (4 * s) := mx_4 s
  have a1 : nI (211 + 4 * s) + 1 = nI (211 + 4 * s + 1) := nA _ 1
  have a2 : nI (211 + 4 * s) + 2 = nI (211 + 4 * s + 2) := nA _ 2
  have i0 : in9 (nI (211 + 4 * s)) 451 = True := in9_t (by omega) (by omega)
  have i1 : in9 (nI (211 + 4 * s + 1)) 451 = True := in9_t (by omega) (by omega)
  have i2 : in9 (nI (211 + 4 * s + 2)) 451 = True := in9_t (by omega) (by omega)
  have t0 : (nI (211 + 4 * s)).toNatClampNeg = 211 + 4 * s := tN (by omega)
  have t1 : (nI (211 + 4 * s + 1)).toNatClampNeg = 211 + 4 * s + 1 := tN (by omega)
  have t2 : (nI (211 + 4 * s + 2)).toNatClampNeg = 211 + 4 * s + 2 := tN (by omega)
  have y1 : (nI 2 = (1 : Int32)) = False := eq_false (by decide)
  have y2 : (nI 2 = (2 : Int32)) = True := eq_true rfl
  cases q1 <;> cases q2 <;> simp only [↓reduceIte, Mod_holds, m4, ax_211, a1, a2, i0, i1, i2, t0, t1, t2, h0, h1, h2, y1, y2, hR1, hR2, Option.bind_some, Bool.and_true, Bool.and_false, Bool.false_eq_true]
theorem node_3 {r1 r2 : Nat} (hs : s < 40) (h0 : I' 206 (211 + 4 * s) = nI 3) (h1 : I' 206 (211 + 4 * s + 1) = nI r1) (h2 : I' 206 (211 + 4 * s + 2) = nI r2) (R : Int32 → Int32 → FI → Option Bool) {q1 q2 : Bool} (hR1 : R (nI r1) (nI f) I' = some q1) (hR2 : R (nI r2) (nI f) I' = some q2) : Mod_holds R N (nI s) (nI f) I' = some (q1 || q2) := by
  have m4 : 4 * nI s = nI (4 * s) := mx_4 s
  have a1 : nI (211 + 4 * s) + 1 = nI (211 + 4 * s + 1) := nA _ 1
  have a2 : nI (211 + 4 * s) + 2 = nI (211 + 4 * s + 2) := nA _ 2
  have i0 : in9 (nI (211 + 4 * s)) 451 = True := in9_t (by omega) (by omega)
  have i1 : in9 (nI (211 + 4 * s + 1)) 451 = True := in9_t (by omega) (by omega)
  have i2 : in9 (nI (211 + 4 * s + 2)) 451 = True := in9_t (by omega) (by omega)
  have t0 : (nI (211 + 4 * s)).toNatClampNeg = 211 + 4 * s := tN (by omega)
  have t1 : (nI (211 + 4 * s + 1)).toNatClampNeg = 211 + 4 * s + 1 := tN (by omega)
  have t2 : (nI (211 + 4 * s + 2)).toNatClampNeg = 211 + 4 * s + 2 := tN (by omega)
  have y1 : (nI 3 = (1 : Int32)) = False := eq_false (by decide)
  have y2 : (nI 3 = (2 : Int32)) = False := eq_false (by decide)
  have y3 : (nI 3 = (3 : Int32)) = True := eq_true rfl
  cases q1 <;> cases q2 <;> simp only [↓reduceIte, Mod_holds, m4, ax_211, a1, a2, i0, i1, i2, t0, t1, t2, h0, h1, h2, y1, y2, y3, hR1, hR2, Option.bind_some, Bool.or_true, Bool.or_false, Bool.false_eq_true]
/-- a step's word is none of not, and, or -/
theorem leaf_w {W F S g : Nat → Int32} (h : LeafR nP W F S g s) : (W s = (27 : Int32)) = False ∧ (W s = (26 : Int32)) = False ∧ (W s = (25 : Int32)) = False := by
  have key : ∀ x, x < 100 → x ≠ 27 → x ≠ 26 → x ≠ 25 → W s = nI x → (W s = (27 : Int32)) = False ∧ (W s = (26 : Int32)) = False ∧ (W s = (25 : Int32)) = False := fun x h0 h1 h2 h3 e => by
    rw [e, show (27 : Int32) = nI 27 from rfl, show (26 : Int32) = nI 26 from rfl, show (25 : Int32) = nI 25 from rfl, eq_nI (by omega) (by omega), eq_nI (by omega) (by omega), eq_nI (by omega) (by omega)]
    exact ⟨eq_false h1, eq_false h2, eq_false h3⟩
  rcases h with ⟨x, y, hxy, q1, q2⟩ | ⟨q1, q2, q3⟩ | ⟨x, c, v, h1, h2, hc, hv, q1, q2⟩
  · exact key x (by omega) (by omega) (by omega) (by omega) q1
  · exact key 30 (by omega) (by omega) (by omega) (by omega) q1
  · exact key x (by omega) (by omega) (by omega) (by omega) q1
theorem eval_1 {n : Nat} (hn : n ≤ 40) (ha : 45 ≤ a) (h : QR N 25 ln nP nF nE nW nH nR I I') (h4 : I a 4 = nI n) (hs : s < n) {K : List Nat} (hV : StkV N a nF 0 s K I I') (hst : (LeafR nP (I (a + 1)) (I (a + 2)) (I (a + 3)) (fun j => I' 206 (211 + j)) s ∧ K.length < 20 ∧ L = s :: K) ∨ (∃ r K', K = r :: K' ∧ NotR (I (a + 1)) (fun j => I' 206 (211 + j)) s r ∧ L = s :: K') ∨ (∃ r1 r2 K', K = r2 :: r1 :: K' ∧ BinR (I (a + 1)) (fun j => I' 206 (211 + j)) s r1 r2 ∧ L = s :: K')) : ∃ I1, (∀ e, Sentence_bitsOf_15 N a ln 25 (e + 1) (bitsF (fun _ => true) nF) (nI K.length) (nI s) I = Sentence_bitsOf_15 N a ln 25 e (bitsF (fun _ => true) nF) (nI L.length) (nI (s + 1)) I1) ∧ (∀ x j, x ≠ a + 4 → I1 x j = I x j) ∧ StkV N a nF 0 (s + 1) L I1 I' := by
  have hb := h.bd
  have hN := h.nN
  obtain ⟨v1, v2, v3⟩ := hV
  have t1 : (nI n ≤ nI s) = False := by rw [le_nI (by omega) (by omega)]; exact eq_false (by omega)
  have t2 : (40 ≤ nI s) = False := by rw [L_40, le_nI (by omega) (by omega)]; exact eq_false (by omega)
  have t3 : in9 (nI s) 40 = True := in9_t (by omega) (by omega)
  have t4 : (nI s).toNatClampNeg = s := tN (by omega)
  -- a new value on top of K'
  have fin : ∀ (K' : List Nat) (m : Nat) (I1 : FI) (q : Nat → Bool), K'.length = m → m < 20 → (∀ k, k < m → I1 (a + 4) (m - 1 - k) = bitsF (hP N I' (K'.getD k 0)) nF) → (∀ r, r ∈ K' → r < s ∧ ∀ d f, r < d → f < nF → Mod_holds_R N d (nI r) (nI f) I' = some (hP N I' r f)) → I1 (a + 4) m = bitsF q nF → (∀ d f, s < d → f < nF → Mod_holds_R N d (nI s) (nI f) I' = some (q f)) → StkV N a nF 0 (s + 1) (s :: K') I1 I' := by
    intro K' m I1 q hm hm2 x1 x2 x3 x4
    refine ⟨fun k hk => ?_, fun r hr => ?_, by rw [List.length_cons]; omega⟩
    · rw [List.length_cons, hm] at hk ⊢
      cases k with
      | zero =>
        rw [show m + 1 - 1 - 0 = m by omega, x3, List.getD_cons_zero]
        exact (bitsF_congr (hP_eq (by omega) x4)).symm
      | succ k =>
        rw [List.getD_cons_succ, show m + 1 - 1 - (k + 1) = m - 1 - k by omega]
        exact x1 k (by omega)
    · rcases List.mem_cons.mp hr with e | e
      · rw [e]
        exact ⟨by omega, hP_of (by omega) x4⟩
      · obtain ⟨y1, y2⟩ := x2 r e
        exact ⟨by omega, y2⟩
  rcases hst with ⟨hl, hk, rfl⟩ | ⟨r, K', rfl, ⟨q0, q1, q2⟩, rfl⟩ | ⟨r1, r2, K', rfl, ⟨q0, q1, q2⟩, rfl⟩
  · obtain ⟨w1, w2, w3⟩ := leaf_w hl
    have lv : ∀ f, f < nF → ∃ q : Bool, Sentence_holds a ln 25 (nI s) (nI f) I = some q ∧ ∀ R, Mod_holds R N (nI s) (nI f) I' = some q := fun f hf => leaf_e h (by omega) hf hl
    obtain ⟨p, hp⟩ : ∃ p : Nat → Bool, ∀ f, f < nF → Sentence_holds a ln 25 (nI s) (nI f) I = some (p f) ∧ ∀ R, Mod_holds R N (nI s) (nI f) I' = some (p f) := by
      refine ⟨fun f => (Sentence_holds a ln 25 (nI s) (nI f) I).getD false, fun f hf => ?_⟩
      obtain ⟨q, z1, z2⟩ := lv f hf
      have e : (Sentence_holds a ln 25 (nI s) (nI f) I).getD false = q := by rw [z1]; rfl
      show _ = some ((Sentence_holds a ln 25 (nI s) (nI f) I).getD false) ∧ ∀ R, _ = some ((Sentence_holds a ln 25 (nI s) (nI f) I).getD false)
      rw [e]
      exact ⟨z1, z2⟩
    have sb := step_bits (N := N) (s := s) hN hb.2.1 h.cF (fun f hf => (hp f hf).1)
    have g1 : (Int32.ofNat 20 ≤ nI K.length) = False := by rw [show Int32.ofNat 20 = nI 20 from rfl, le_nI (by omega) (by omega)]; exact eq_false (by omega)
    have g2 : in9 (nI K.length) 20 = True := in9_t (by omega) (by omega)
    have g3 : (nI K.length).toNatClampNeg = K.length := tN (by omega)
    refine ⟨up2 I (a + 4) K.length (bitsF p nF), fun e => ?_, fun x j hx => by rw [u_o hx], fin K K.length _ p rfl hk (fun k hk => by rw [u_j (by omega)]; exact v1 k hk) v2 u_s (fun d f hd hf => ?_)⟩
    · conv => lhs; rw [Sentence_bitsOf_15]
      simp only [↓reduceIte, h4, t1, t2, t3, t4, w1, w2, w3, g1, g2, g3, sb, nS, Option.bind_some, List.length_cons]
    · obtain ⟨d, rfl⟩ : ∃ e, d = e + 1 := ⟨d - 1, by omega⟩
      exact (hp f hf).2 _
  · have w1 : (I (a + 1) s = (27 : Int32)) = True := eq_true q0
    have hr := v2 r (by simp)
    have v3' : K'.length + 1 ≤ 20 := v3
    have g0 : (nI (K'.length + 1) ≤ (0 : Int32)) = False := by rw [L_0, le_nI (by omega) (by omega)]; exact eq_false (by omega)
    have g2 : in9 (nI K'.length) 20 = True := in9_t (by omega) (by omega)
    have g3 : (nI K'.length).toNatClampNeg = K'.length := tN (by omega)
    have top := v1 0 (by simp)
    rw [List.length_cons, List.getD_cons_zero, show K'.length + 1 - 1 - 0 = K'.length by omega] at top
    refine ⟨up2 I (a + 4) K'.length (bitsF (fun k => !hP N I' r k) nF), fun e => ?_, fun x j hx => by rw [u_o hx], fin K' K'.length _ (fun k => !hP N I' r k) rfl (by omega) (fun k hk => ?_) (fun x hx => v2 x (by simp [hx])) u_s (fun d f hd hf => ?_)⟩
    · conv => lhs; rw [Sentence_bitsOf_15]
      simp only [↓reduceIte, h4, t1, t2, t3, t4, w1, List.length_cons, g0, s1_n, g2, g3, top, bF_not (show nF < 11 by omega), nS, Option.bind_some]
    · rw [u_j (by omega)]
      have := v1 (k + 1) (by rw [List.length_cons]; omega)
      rw [List.length_cons, List.getD_cons_succ, show K'.length + 1 - 1 - (k + 1) = K'.length - 1 - k by omega] at this
      exact this
    · obtain ⟨d, rfl⟩ : ∃ e, d = e + 1 := ⟨d - 1, by omega⟩
      exact node_1 (N := N) (by omega) hr.1 q1 q2 _ (hr.2 d f (by omega) hf)
  · have hr2 := v2 r2 (by simp)
    have hr1 := v2 r1 (by simp)
    have v3' : K'.length + 1 + 1 ≤ 20 := v3
    have g0 : (nI (K'.length + 1 + 1) ≤ (1 : Int32)) = False := by rw [L_1, le_nI (by omega) (by omega)]; exact eq_false (by omega)
    have g2 : in9 (nI K'.length) 20 = True := in9_t (by omega) (by omega)
    have g3 : (nI K'.length).toNatClampNeg = K'.length := tN (by omega)
    have g4 : in9 (nI (K'.length + 1)) 20 = True := in9_t (by omega) (by omega)
    have g5 : (nI (K'.length + 1)).toNatClampNeg = K'.length + 1 := tN (by omega)
    have top := v1 0 (by simp)
    rw [List.length_cons, List.length_cons, List.getD_cons_zero, show K'.length + 1 + 1 - 1 - 0 = K'.length + 1 by omega] at top
    have und := v1 1 (by simp)
    rw [List.length_cons, List.length_cons, List.getD_cons_succ, List.getD_cons_zero, show K'.length + 1 + 1 - 1 - 1 = K'.length by omega] at und
    have rest : ∀ v k, k < K'.length → up2 I (a + 4) K'.length v (a + 4) (K'.length - 1 - k) = bitsF (hP N I' (K'.getD k 0)) nF := fun v k hk => by
      rw [u_j (by omega)]
      have := v1 (k + 1 + 1) (by rw [List.length_cons, List.length_cons]; omega)
      rw [List.length_cons, List.length_cons, List.getD_cons_succ, List.getD_cons_succ, show K'.length + 1 + 1 - 1 - (k + 1 + 1) = K'.length - 1 - k by omega] at this
      exact this
    rcases q0 with ⟨z1, z2⟩ | ⟨z1, z2⟩
    · have w1 : (I (a + 1) s = (27 : Int32)) = False := by rw [z1]; exact eq_false (by decide)
      have w2 : (I (a + 1) s = (26 : Int32)) = True := eq_true z1
      refine ⟨up2 I (a + 4) K'.length (bitsF (fun k => hP N I' r1 k && hP N I' r2 k) nF), fun e => ?_, fun x j hx => by rw [u_o hx], fin K' K'.length _ (fun k => hP N I' r1 k && hP N I' r2 k) rfl (by omega) (rest _) (fun x hx => v2 x (by simp [hx])) u_s (fun d f hd hf => ?_)⟩
      · conv => lhs; rw [Sentence_bitsOf_15]
        simp only [↓reduceIte, h4, t1, t2, t3, t4, w1, w2, List.length_cons, g0, m1_n, s1_n, g2, g3, g4, g5, top, und, bF_and (show nF < 11 by omega), nS, Option.bind_some]
      · obtain ⟨d, rfl⟩ : ∃ e, d = e + 1 := ⟨d - 1, by omega⟩
        exact node_2 (N := N) (by omega) z2 q1 q2 _ (hr1.2 d f (by omega) hf) (hr2.2 d f (by omega) hf)
    · have w1 : (I (a + 1) s = (27 : Int32)) = False := by rw [z1]; exact eq_false (by decide)
      have w2 : (I (a + 1) s = (26 : Int32)) = False := by rw [z1]; exact eq_false (by decide)
      have w3 : (I (a + 1) s = (25 : Int32)) = True := eq_true z1
      refine ⟨up2 I (a + 4) K'.length (bitsF (fun k => hP N I' r1 k || hP N I' r2 k) nF), fun e => ?_, fun x j hx => by rw [u_o hx], fin K' K'.length _ (fun k => hP N I' r1 k || hP N I' r2 k) rfl (by omega) (rest _) (fun x hx => v2 x (by simp [hx])) u_s (fun d f hd hf => ?_)⟩
      · conv => lhs; rw [Sentence_bitsOf_15]
        simp only [↓reduceIte, h4, t1, t2, t3, t4, w1, w2, w3, List.length_cons, g0, m1_n, s1_n, g2, g3, g4, g5, top, und, bF_or (show nF < 11 by omega), nS, Option.bind_some]
      · obtain ⟨d, rfl⟩ : ∃ e, d = e + 1 := ⟨d - 1, by omega⟩
        exact node_3 (N := N) (by omega) z2 q1 q2 _ (hr1.2 d f (by omega) hf) (hr2.2 d f (by omega) hf)
theorem eval_l {n : Nat} (hn : n ≤ 40) (ha : 45 ≤ a) (h : QR N 25 ln nP nF nE nW nH nR I I') (h4 : I a 4 = nI n) : ∀ s L, s ≤ n → StkR nP (I (a + 1)) (I (a + 2)) (I (a + 3)) (fun j => I' 206 (211 + j)) s L → ∃ I1, (∀ e, Sentence_bitsOf_15 N a ln 25 (e + s) (bitsF (fun _ => true) nF) 0 0 I = Sentence_bitsOf_15 N a ln 25 e (bitsF (fun _ => true) nF) (nI L.length) (nI s) I1) ∧ (∀ x j, x ≠ a + 4 → I1 x j = I x j) ∧ StkV N a nF 0 s L I1 I' := by
  intro s
  induction s with
  | zero =>
    intro L _ hL
    have e : L = [] := hL
    subst e
    exact ⟨I, fun e => rfl, fun _ _ _ => rfl, fun k hk => absurd hk (by simp), fun r hr => absurd hr (by simp), by simp⟩
  | succ s ih =>
    intro L hs hL
    obtain ⟨K, h1, h2⟩ := hL
    obtain ⟨I1, e1, e2, e3⟩ := ih K (by omega) h1
    have A1 : I1 (a + 1) = I (a + 1) := funext (fun j => e2 _ j (by omega))
    have A2 : I1 (a + 2) = I (a + 2) := funext (fun j => e2 _ j (by omega))
    have A3 : I1 (a + 3) = I (a + 3) := funext (fun j => e2 _ j (by omega))
    obtain ⟨I2, g1, g2, g3⟩ := eval_1 (L := L) hn ha (h.of (I1 := I1) (I1' := I') (fun q j hq => e2 q j (by omega)) (fun _ _ => rfl)) (by rw [e2 _ _ (by omega)]; exact h4) (show s < n by omega) e3 (by rw [A1, A2, A3]; exact h2)
    exact ⟨I2, fun e => by rw [show e + (s + 1) = e + 1 + s by omega, e1, g1], fun x j hx => (g2 x j hx).trans (e2 x j hx), g3⟩
theorem op_said (h : QR N 25 ln nP nF nE nW nH nR I I') (ha : 45 ≤ sn) (hS : SentR nP sn I (I' 206)) (l1 : Int32) : ∃ v I2, Hol_said N ln sp sn ss l1 I = some (v, I2) ∧ Mod_said N l1 I' = some (v, up2 I' 204 0 0) ∧ (∀ x j, x ≠ sn + 4 → I2 x j = I x j) := by
  have hb := h.bd
  have h1 := h.thr (v := 0)
  have u6 : up2 I' 204 0 0 206 = I' 206 := u_o (by omega)
  rcases hS with ⟨z1, z2⟩ | ⟨s, o, r, ho, c1, c2, c3, c4, c5, c6, c7⟩
  · refine ⟨-1, I, ?_, ?_, fun _ _ _ => rfl⟩
    · unfold Hol_said
      rw [if_pos (show I sn 5 = 0 from z1)]
    · unfold Mod_said
      rw [Option.bind_some, T_209, u6, if_pos (show I' 206 209 = 0 from z2)]
  · obtain ⟨I1, e1, e2, e3, e4, e5⟩ := eval_l c4 ha h1 c1 s [r] (Nat.le_refl _) (by rw [u6]; exact c7)
    have hN := h.nN
    have hB : Sentence_bitsOf N sn ln 25 I = some (bitsF (hP N (up2 I' 204 0 0) r) nF, I1) := by
      unfold Sentence_bitsOf
      rw [h.cF, allB nF (by omega)]
      obtain ⟨e, he⟩ : ∃ e, N = e + 1 + s := ⟨N - 1 - s, by omega⟩
      have t1 : (nI s ≤ nI s) = True := eq_true (Int32.le_refl _)
      have k0 := e3 0 (by simp)
      rw [List.getD_cons_zero, List.length_singleton, show 1 - 1 - 0 = 0 by omega] at k0
      conv => lhs; rw [he]
      rw [← he]
      have := e1 (e + 1)
      rw [← he] at this
      rw [this, Sentence_bitsOf_15]
      have c1' : I1 sn 4 = nI s := by rw [e2 _ _ (by omega)]; exact c1
      simp only [↓reduceIte, c1', t1, T_0, k0]
    have s5 : ¬ I sn 5 = 0 := by
      rw [c2, L_0, eq_nI (by omega) (by omega)]
      omega
    obtain ⟨v, I2, x1, x2, x3⟩ := said_of (N := N) (sp := sp) (ss := ss) (I' := I') (I1 := I1) hN hb.2.1 s5 (by rw [u6, c5]; decide) hB (by rw [e2 _ _ (by have := h.dis; omega)]; exact h.cF) h1.mF (fun k hk => by
      have := (e4 r (by simp)).2 dK k (by have := (e4 r (by simp)).1; show r < 64; omega) hk
      rw [u6, c6, ← this]) l1
    refine ⟨v, I2, x1, x2, fun x j hx => ?_⟩
    rcases x3 with e | e
    · rw [e]
    · rw [e]; exact e2 x j hx
end Q79

/-! tokens: both sides stand at the same one -/
section Q63
variable {N b ln sp sn ss nP nF nE nW nH nR : Nat} {I I' : FI} {J J' : FJ} {t : Nat × Nat × List Nat} {m i : Nat}
def At (m i : Nat) (t : Nat × Nat × List Nat) (I : FI) (J : FJ) (I' : FI) (J' : FJ) : Prop := ∃ (c : Nat → Nat) (n L : Nat), n ≤ 940 ∧ m ≤ 900 ∧ i ≤ L ∧ kT c n m (tE c n m i) = t ∧ TkB c n m L i I J ∧ TkM c n m i I' J' ∧ I 1 14 = nI 0 ∧ I' 204 10 = nI 0
def CurB (t : Nat × Nat × List Nat) (I : FI) (J : FJ) : Prop := BkT t (I 1 9) (J 1 10) ∧ I 1 11 = (if t.1 = 4 then nI t.2.1 else -1)
def CurM (t : Nat × Nat × List Nat) (I : FI) (J : FJ) : Prop := MdT t (I 204 7) (I 204 8) (I 204 9) (J 204 12)
/-- what reading may touch -/
def Kp (I : FI) (J : FJ) (I' : FI) (J' : FJ) (I1 : FI) (J1 : FJ) (I1' : FI) (J1' : FJ) : Prop := (∀ x j, ¬ (x = 1 ∧ 8 ≤ j ∧ j ≤ 15) → I1 x j = I x j) ∧ (∀ x j, ¬ (x = 1 ∧ j = 10) → J1 x j = J x j) ∧ (∀ x j, ¬ (x = 204 ∧ 5 ≤ j ∧ j ≤ 13) → I1' x j = I' x j) ∧ (∀ x j, ¬ (x = 204 ∧ j = 12) → J1' x j = J' x j)
theorem Kp.rfl : Kp I J I' J' I J I' J' := ⟨fun _ _ _ => Eq.refl _, fun _ _ _ => Eq.refl _, fun _ _ _ => Eq.refl _, fun _ _ _ => Eq.refl _⟩
theorem Kp.trans {I1 I1' I2 I2' : FI} {J1 J1' J2 J2' : FJ} (h : Kp I J I' J' I1 J1 I1' J1') (k : Kp I1 J1 I1' J1' I2 J2 I2' J2') : Kp I J I' J' I2 J2 I2' J2' := ⟨fun x j w => (k.1 x j w).trans (h.1 x j w), fun x j w => (k.2.1 x j w).trans (h.2.1 x j w), fun x j w => (k.2.2.1 x j w).trans (h.2.2.1 x j w), fun x j w => (k.2.2.2 x j w).trans (h.2.2.2 x j w)⟩
/-- what went wrong, alike on both sides -/
def FlR (I I' : FI) : Prop := I 1 14 = I' 204 10 ∧ ∃ q, q ≤ 940 ∧ I 1 15 = nI q ∧ I' 204 11 = nI q
theorem At.ok (h : At m i t I J I' J') : TokOK t := by
  obtain ⟨c, n, L, a1, a2, a3, a4, a5⟩ := h
  rw [← a4]
  exact kT_ok (tE_le i)
theorem At.curB (h : At m i t I J I' J') : CurB t I J := by
  obtain ⟨c, n, L, a1, a2, a3, a4, a5, a6, a7⟩ := h
  rw [← a4]
  exact ⟨a5.2.1, a5.2.2.2⟩
theorem At.curM (h : At m i t I J I' J') : CurM t I' J' := by
  obtain ⟨c, n, L, a1, a2, a3, a4, a5, a6, a7⟩ := h
  rw [← a4]
  exact a6.2.2.2.2
theorem At.i_le (h : At m i t I J I' J') : i ≤ m ∧ m ≤ 900 := by
  obtain ⟨c, n, L, a1, a2, a3, a4, a5, a6, a7⟩ := h
  have := a5.1.1
  omega
theorem At.congr {I1 I1' : FI} {J1 J1' : FJ} (h : At m i t I J I' J') (hI : ∀ x j, (x = 1 ∧ j ≠ 12) ∨ x = 4 ∨ x = 5 → I1 x j = I x j) (hJ : ∀ x j, x = 1 ∨ x = 6 → J1 x j = J x j) (hI' : ∀ x j, (x = 204 ∧ 3 ≤ j ∧ j ≤ 10) ∨ x = 205 → I1' x j = I' x j) (hJ' : J1' 204 12 = J' 204 12) : At m i t I1 J1 I1' J1' := by
  obtain ⟨c, n, L, a1, a2, a3, a4, ⟨⟨b1, b2, b3, b4, b5⟩, b6, b7, b8⟩, ⟨c1, c2, c3, c4, c5⟩, a7, a8⟩ := h
  refine ⟨c, n, L, a1, a2, a3, a4, ⟨⟨b1, b2, fun j hj => (b3 j hj).to (hI _ _ (by omega)) (hI _ _ (by omega)) (hJ _ _ (by omega)), ?_, ?_⟩, ?_, ?_, ?_⟩, ⟨c1.to (hI' _ _ (by omega)) (fun i => hI' _ _ (by omega)), ?_, ?_, ?_, ?_⟩, ?_, ?_⟩
  · rw [hI _ _ (by omega)]; exact b4
  · rw [hI _ _ (by omega)]; exact b5
  · rw [hI _ _ (by omega), hJ _ _ (by omega)]; exact b6
  · rw [hI _ _ (by omega)]; exact b7
  · rw [hI _ _ (by omega)]; exact b8
  · rw [hI' _ _ (by omega)]; exact c2
  · rw [hI' _ _ (by omega)]; exact c3
  · rw [hI' _ _ (by omega)]; exact c4
  · rw [hI' _ _ (by omega), hI' _ _ (by omega), hI' _ _ (by omega), hJ']; exact c5
  · rw [hI _ _ (by omega)]; exact a7
  · rw [hI' _ _ (by omega)]; exact a8
theorem At.upI {x k : Nat} {v : Int32} (h : At m i t I J I' J') (h1 : x ≠ 1) (h4 : x ≠ 4) (h5 : x ≠ 5) : At m i t (up2 I x k v) J I' J' := h.congr (fun y j w => by rw [u_o (by omega)]) (fun _ _ _ => rfl) (fun _ _ _ => rfl) rfl
theorem At.up12 {v : Int32} (h : At m i t I J I' J') : At m i t (up2 I 1 12 v) J I' J' := h.congr (fun y j w => up2_ff (by omega)) (fun _ _ _ => rfl) (fun _ _ _ => rfl) rfl
theorem At.upM {x k : Nat} {v : Int32} (h : At m i t I J I' J') (h1 : ¬ (x = 204 ∧ 3 ≤ k ∧ k ≤ 10)) (h2 : x ≠ 205) : At m i t I J (up2 I' x k v) J' := h.congr (fun _ _ _ => rfl) (fun _ _ _ => rfl) (fun y j w => up2_ff (by omega)) rfl
theorem At.upJ {x k : Nat} {v : Int64} (h : At m i t I J I' J') (h1 : x ≠ 1) (h2 : x ≠ 6) : At m i t I (up2 J x k v) I' J' := h.congr (fun _ _ _ => rfl) (fun y j w => by rw [u_o (by omega)]) (fun _ _ _ => rfl) rfl
theorem At.upK {x k : Nat} {v : Int64} (h : At m i t I J I' J') (h1 : x ≠ 204) : At m i t I J I' (up2 J' x k v) := h.congr (fun _ _ _ => rfl) (fun _ _ _ => rfl) (fun _ _ _ => rfl) (by rw [u_o (by omega)])
theorem not_end {c : Nat → Nat} {n m e : Nat} (h : ¬ (sk c n e < n ∧ sk c n e < m)) : (kT c n m e).1 = 0 ∨ (kT c n m e).1 = 1 := by
  unfold kT
  rw [if_neg h]
  by_cases w : m < n
  · rw [if_pos w]; exact Or.inr rfl
  · rw [if_neg w]; exact Or.inl rfl
/-- both sides go on by one -/
theorem next_q (hN : 2000 ≤ N) (h : At m i t I J I' J') (h2 : 2 ≤ t.1) : ∃ t' I1 J1 I1' J1', Tape_step 1 I J = some (I1, J1) ∧ Mod_go N I' J' = some (I1', J1') ∧ At m (i + 1) t' I1 J1 I1' J1' ∧ Kp I J I' J' I1 J1 I1' J1' ∧ I1 1 12 = I 1 12 ∧ I1' 204 13 = I' 204 13 := by
  obtain ⟨c, n, L, a1, a2, a3, a4, a5, a6, a7, a8⟩ := h
  have hL : i ≠ L := fun q => by
    have e := not_end (c := c) (n := n) (m := m) (e := tE c n m i) (by rw [q]; exact a5.1.2.1)
    rw [a4] at e
    omega
  obtain ⟨I1, J1, e1, e2, e3, e4⟩ := step_b a2 a5.1
  obtain ⟨I1', J1', f1, f2, f3, f4⟩ := go_m (N := N) hN a6.1 a2 a6.2.1 a6.2.2.1 (J := J')
  exact ⟨_, I1, J1, I1', J1', e1, f1, ⟨c, n, L, a1, a2, by omega, rfl, e2, f2, by rw [e3 _ _ (by omega)]; exact a7, by rw [f3 _ _ (by omega)]; exact a8⟩, ⟨fun x j w => e3 x j (by omega), fun x j w => e4 x j w, fun x j w => f3 x j (by omega), fun x j w => f4 x j w⟩, e3 _ _ (by omega), f3 _ _ (by omega)⟩
theorem mk_1 {k : Nat} : mk k = 1 ↔ (k = 1 ∨ k = 2) := by
  unfold mk
  by_cases a : k = 0
  · rw [if_pos a]; omega
  · rw [if_neg a]
    by_cases b : k ≤ 2
    · rw [if_pos b]; omega
    · rw [if_neg b]
      by_cases c : k ≤ 4
      · rw [if_pos c]; omega
      · rw [if_neg c]
        by_cases d : k = 5
        · rw [if_pos d]; omega
        · rw [if_neg d]; omega
theorem mk_2 {k : Nat} : mk k = 2 ↔ (k = 3 ∨ k = 4) := by
  unfold mk
  by_cases a : k = 0
  · rw [if_pos a]; omega
  · rw [if_neg a]
    by_cases b : k ≤ 2
    · rw [if_pos b]; omega
    · rw [if_neg b]
      by_cases c : k ≤ 4
      · rw [if_pos c]; omega
      · rw [if_neg c]
        by_cases d : k = 5
        · rw [if_pos d]; omega
        · rw [if_neg d]; omega
theorem mk_3 {k : Nat} : mk k = 3 ↔ k = 5 := by
  unfold mk
  by_cases a : k = 0
  · rw [if_pos a]; omega
  · rw [if_neg a]
    by_cases b : k ≤ 2
    · rw [if_pos b]; omega
    · rw [if_neg b]
      by_cases c : k ≤ 4
      · rw [if_pos c]; omega
      · rw [if_neg c]
        by_cases d : k = 5
        · rw [if_pos d]; omega
        · rw [if_neg d]; omega
theorem mk_4 {k : Nat} : mk k = 4 ↔ 6 ≤ k := by
  unfold mk
  by_cases a : k = 0
  · rw [if_pos a]; omega
  · rw [if_neg a]
    by_cases b : k ≤ 2
    · rw [if_pos b]; omega
    · rw [if_neg b]
      by_cases c : k ≤ 4
      · rw [if_pos c]; omega
      · rw [if_neg c]
        by_cases d : k = 5
        · rw [if_pos d]; omega
        · rw [if_neg d]; omega
theorem mk_0 {k : Nat} : mk k = 0 ↔ k = 0 := by
  unfold mk
  by_cases a : k = 0
  · rw [if_pos a]; omega
  · rw [if_neg a]
    by_cases b : k ≤ 2
    · rw [if_pos b]; omega
    · rw [if_neg b]
      by_cases c : k ≤ 4
      · rw [if_pos c]; omega
      · rw [if_neg c]
        by_cases d : k = 5
        · rw [if_pos d]; omega
        · rw [if_neg d]; omega
theorem mk_lt (k : Nat) : mk k < 5 := by
  unfold mk
  by_cases a : k = 0
  · rw [if_pos a]; omega
  · rw [if_neg a]
    by_cases b : k ≤ 2
    · rw [if_pos b]; omega
    · rw [if_neg b]
      by_cases c : k ≤ 4
      · rw [if_pos c]; omega
      · rw [if_neg c]
        by_cases d : k = 5
        · rw [if_pos d]; omega
        · rw [if_neg d]; omega
theorem kind_e {k : Nat} (h : CurM t I' J') (hk : k < 5) : (I' 204 7 = nI k) = (mk t.1 = k) := by
  have := mk_lt t.1
  rw [h.1, eq_nI (by omega) (by omega)]
theorem kQ_le {c : Nat → Nat} {n m e : Nat} (hn : n ≤ 940) (he : e ≤ n) : kQ c n m e ≤ 940 := by
  have := (sk_ok (c := c) he).2.1
  unfold kQ
  by_cases w : sk c n e < n ∧ sk c n e < m
  · rw [if_pos w]; omega
  · rw [if_neg w]
    by_cases w2 : n < m
    · rw [if_pos w2]; omega
    · rw [if_neg w2]; omega
theorem fail_q (h : At m i t I J I' J') {k : Nat} (hw : t.1 = 1 ∨ t.1 = 2 → k = 1) : ∃ I1 I1', Tape_fail 1 (nI k) I = some (false, I1) ∧ Mod_bad (nI k) I' = some (false, I1') ∧ FlR I1 I1' ∧ Kp I J I' J' I1 J I1' J' := by
  have hM := h.curM
  obtain ⟨c, n, L, a1, a2, a3, a4, a5, a6, a7, a8⟩ := h
  have e1 : ∀ v, up2 I 1 14 v 1 13 = I 1 13 := fun v => u_j (by omega)
  have e2 : ∀ v, up2 I' 204 10 v 204 6 = I' 204 6 := fun v => u_j (by omega)
  have k1 := kind_e hM (k := 1) (by omega)
  have q := kQ_le (c := c) (m := m) a1 (tE_le (c := c) (n := n) (m := m) i)
  refine ⟨up2 (up2 I 1 14 (nI k)) 1 15 (I 1 13), up2 (up2 I' 204 10 (nI k)) 204 11 (I' 204 6), ?_, ?_, ⟨by rw [u_j (by omega), u_s, u_j (by omega), u_s], _, q, by rw [u_s]; exact a5.2.2.1, by rw [u_s]; exact a6.2.2.2.1⟩, ⟨fun x j w => (up2_ff (by omega)).trans (up2_ff (by omega)), fun _ _ _ => rfl, fun x j w => (up2_ff (by omega)).trans (up2_ff (by omega)), fun _ _ _ => rfl⟩⟩
  · unfold Tape_fail
    simp only [Option.bind_some, e1]
  · unfold Mod_bad
    by_cases w : mk t.1 = 1
    · have y : (I' 204 7 = (1 : Int32)) = True := k1.trans (eq_true w)
      have z : k = 1 := hw (mk_1.mp w)
      rw [z]
      simp only [↓reduceIte, y, Option.bind_some, e2]
      rfl
    · have y : (I' 204 7 = (1 : Int32)) = False := k1.trans (eq_false w)
      simp only [↓reduceIte, y, Option.bind_some, e2]
theorem isWord_b (h : CurB t I J) (hO : TokOK t) {w : Nat} (hw : w < 35) : Tape_isWord 1 (nI w) I = decide (t.1 = 4 ∧ t.2.1 = w) := by
  unfold Tape_isWord
  rw [h.2]
  by_cases a : t.1 = 4
  · have := hO.2.2.1 a
    rw [if_pos a]
    by_cases b : t.2.1 = w
    · rw [b, if_pos rfl, decide_eq_true ⟨a, rfl⟩]
    · rw [if_neg (by rw [eq_nI (by omega) (by omega)]; exact b), decide_eq_false (fun q => b q.2)]
  · rw [if_neg a, if_neg (fun q => by rw [eq_comm, nI_ne1 (by omega)] at q; exact q), decide_eq_false (fun q => a q.1)]
theorem own_27 {i k : Nat} (hi : i < 35) (hk : k < 35) : (lN (nameN 27 (ownB.getD i [])) = lN (nameN 27 (ownB.getD k []))) = (i = k) := by
  obtain ⟨m1, m2⟩ := ownB_idx i hi
  obtain ⟨m3, m4⟩ := ownB_idx k hk
  obtain ⟨k1, k2, k3, k4, k5⟩ := ownB_mem _ m1
  obtain ⟨l1, l2, l3, l4, l5⟩ := ownB_mem _ m3
  have p1 := nameN_7 (B := 27) (by omega) (by omega) k5 k4
  have p2 := nameN_7 (B := 27) (by omega) (by omega) l5 l4
  rw [eqL (by omega) (by omega)]
  refine propext ⟨fun e => ?_, fun e => by rw [e]⟩
  have := nameN_inj (B := 27) (by omega) _ _ _ rfl k5 l5 e
  rw [this, m4] at m2
  exact m2.symm
theorem name_27 {L : List Nat} {k : Nat} (hL : ∀ d, d ∈ L → 1 ≤ d ∧ d ≤ 26) (h7 : L.length ≤ 7) (hn : L ∉ ownB) (hk : k < 35) : (lN (nameN 27 L) = lN (nameN 27 (ownB.getD k []))) = False := by
  obtain ⟨m3, m4⟩ := ownB_idx k hk
  obtain ⟨l1, l2, l3, l4, l5⟩ := ownB_mem _ m3
  have p1 := nameN_7 (B := 27) (by omega) (by omega) hL h7
  have p2 := nameN_7 (B := 27) (by omega) (by omega) l5 l4
  rw [eqL (by omega) (by omega)]
  refine eq_false (fun e => ?_)
  have := nameN_inj (B := 27) (by omega) _ _ _ rfl hL l5 e
  exact hn (by rw [this]; exact m3)
theorem isWord_m (h : CurM t I' J') (hO : TokOK t) {k : Nat} (hk : k < 35) : Mod_isWord (nI k) I' J' = decide (t.1 = 4 ∧ t.2.1 = ownM.getD k 0) := by
  have k2 := kind_e h (k := 2) (by omega)
  have o := ownM_lt k hk
  unfold Mod_isWord
  rw [ownM_w k hk]
  by_cases a : mk t.1 = 2
  · rw [if_pos (show I' 204 7 = (2 : Int32) from (k2.trans (eq_true a)) ▸ trivial)]
    rcases mk_2.mp a with b | b
    · obtain ⟨q1, q2, q3, q4⟩ := hO.2.1 b
      rw [h.2.1 b, if_neg (by rw [name_27 q1 q3 q4 o]; exact id), decide_eq_false (fun q => by omega)]
    · have q := hO.2.2.1 b
      rw [h.2.2.1 b]
      by_cases e : t.2.1 = ownM.getD k 0
      · rw [if_pos (by rw [own_27 q o]; exact e), decide_eq_true ⟨b, e⟩]
      · rw [if_neg (by rw [own_27 q o]; exact e), decide_eq_false (fun q => e q.2)]
  · rw [if_neg (show ¬ I' 204 7 = (2 : Int32) from fun q => a (k2 ▸ q)), decide_eq_false (fun q => a (mk_2.mpr (Or.inr q.1)))]
theorem isName_b (h : CurB t I J) (hO : TokOK t) : Tape_isName 1 I = decide (t.1 = 3) := by
  have := tok_lt hO
  unfold Tape_isName
  rw [h.1.1]
  by_cases a : t.1 = 3
  · rw [if_pos (by rw [a]; rfl), decide_eq_true a]
  · rw [if_neg (by rw [show (3 : Int32) = nI 3 from rfl, eq_nI (by omega) (by omega)]; exact a), decide_eq_false a]
theorem ownM_on : ∀ i, i < 35 → ∃ k, k < 35 ∧ ownM.getD k 0 = i := by decide
theorem isName_l {w : Int64} {L : List Nat} (hw : J' 204 12 = lN (nameN 27 L)) (hL : ∀ d, d ∈ L → 1 ≤ d ∧ d ≤ 26) (h7 : L.length ≤ 7) (hn : L ∉ ownB) : ∀ r k f, k + r = 35 → Mod_isName_12 N (f + r + 1) (nI k) I' J' = some true := by
  intro r
  induction r with
  | zero =>
    intro k f hk
    have t1 : (34 < nI k) = True := by rw [show (34 : Int32) = nI 34 from rfl, lt_nI (by omega) (by omega)]; exact eq_true (by omega)
    simp only [↓reduceIte, Mod_isName_12, t1]
  | succ r ih =>
    intro k f hk
    have t1 : (34 < nI k) = False := by rw [show (34 : Int32) = nI 34 from rfl, lt_nI (by omega) (by omega)]; exact eq_false (by omega)
    have t2 := name_27 hL h7 hn (ownM_lt k (by omega))
    rw [show f + (r + 1) + 1 = (f + r + 1) + 1 from rfl, Mod_isName_12]
    simp only [↓reduceIte, t1, hw, ownM_w k (by omega), t2, nS]
    exact ih (k + 1) f (by omega)
theorem isName_o {j : Nat} (hj : j < 35) (hw : J' 204 12 = lN (nameN 27 (ownB.getD j []))) : ∀ r k f, k + r = 35 → (∀ w, w < k → ownM.getD w 0 ≠ j) → Mod_isName_12 N (f + r + 1) (nI k) I' J' = some false := by
  intro r
  induction r with
  | zero =>
    intro k f hk hne
    obtain ⟨w, h1, h2⟩ := ownM_on j hj
    exact absurd h2 (hne w (by omega))
  | succ r ih =>
    intro k f hk hne
    have t1 : (34 < nI k) = False := by rw [show (34 : Int32) = nI 34 from rfl, lt_nI (by omega) (by omega)]; exact eq_false (by omega)
    have t2 := own_27 hj (ownM_lt k (by omega))
    rw [show f + (r + 1) + 1 = (f + r + 1) + 1 from rfl, Mod_isName_12]
    by_cases e : j = ownM.getD k 0
    · have y : (j = ownM.getD k 0) = True := eq_true e
      simp only [↓reduceIte, t1, hw, ownM_w k (by omega), t2, y]
    · have y : (j = ownM.getD k 0) = False := eq_false e
      simp only [↓reduceIte, t1, hw, ownM_w k (by omega), t2, y, nS]
      exact ih (k + 1) f (by omega) (fun w hw => by
        by_cases q : w = k
        · rw [q]; exact fun x => e x.symm
        · exact hne w (by omega))
theorem isName_m (hN : 2000 ≤ N) (h : CurM t I' J') (hO : TokOK t) : Mod_isName N I' J' = some (decide (t.1 = 3)) := by
  have k2 := kind_e h (k := 2) (by omega)
  obtain ⟨f, rfl⟩ : ∃ f, N = f + 35 + 1 := ⟨N - 36, by omega⟩
  unfold Mod_isName
  by_cases a : mk t.1 = 2
  · rw [if_pos (show I' 204 7 = (2 : Int32) from (k2.trans (eq_true a)) ▸ trivial)]
    rcases mk_2.mp a with b | b
    · obtain ⟨q1, q2, q3, q4⟩ := hO.2.1 b
      rw [decide_eq_true b]
      exact isName_l (w := 0) (h.2.1 b) q1 q3 q4 35 0 f rfl
    · rw [decide_eq_false (show ¬ t.1 = 3 by omega)]
      exact isName_o (hO.2.2.1 b) (h.2.2.1 b) 35 0 f rfl (fun w hw => absurd hw (by omega))
  · rw [if_neg (show ¬ I' 204 7 = (2 : Int32) from fun q => a (k2 ▸ q)), decide_eq_false (fun q => a (mk_2.mpr (Or.inl q)))]
theorem isAmong_b (h : CurB t I J) (hO : TokOK t) {a k : Nat} (ha : a < 100) (hk : k < 100) : Tape_isAmong 1 (nI a) (nI k) I = decide (t.1 = 4 ∧ a ≤ t.2.1 ∧ t.2.1 < a + k) := by
  unfold Tape_isAmong
  rw [h.2, nA]
  by_cases q : t.1 = 4
  · have := hO.2.2.1 q
    rw [if_pos q]
    by_cases x : a ≤ t.2.1
    · rw [if_neg (by rw [lt_nI (by omega) (by omega)]; omega)]
      by_cases y : t.2.1 < a + k
      · rw [if_neg (by rw [le_nI (by omega) (by omega)]; omega), decide_eq_true ⟨q, x, y⟩]
      · rw [if_pos (by rw [le_nI (by omega) (by omega)]; omega), decide_eq_false (fun z => y z.2.2)]
    · rw [if_pos (by rw [lt_nI (by omega) (by omega)]; omega), decide_eq_false (fun z => x z.2.1)]
  · rw [if_neg q, if_pos (m1_lt (by omega)), decide_eq_false (fun z => q z.1)]
end Q63

/-! the best way to walk: one picture, and both sides walk it -/
def pt1 (f : Nat → Nat) (k v : Nat) : Nat → Nat := fun j => if j = k then v else f j
def gv (wo vis : Nat → Nat) (c : Nat) : Nat := if vis c = 0 then wo c else 0
def nb1 (p : Bool) (c : Nat) (a : Nat → Nat × (Nat → Nat) → Nat × (Nat → Nat)) (st : Nat × (Nat → Nat)) : Nat × (Nat → Nat) := bif p then a c st else st
def nbS (W H c : Nat) (a : Nat → Nat × (Nat → Nat) → Nat × (Nat → Nat)) (st : Nat × (Nat → Nat)) : Nat × (Nat → Nat) :=
  nb1 (decide (c / 6 + 1 < H)) (c + 6) a (nb1 (decide (c % 6 + 1 < W)) (c + 1) a (nb1 (decide (0 < c % 6)) (c - 1) a (nb1 (decide (0 < c / 6)) (c - 6) a st)))
def rtS (W H : Nat) (wo : Nat → Nat) : Nat → Nat → Nat → Nat → (Nat → Nat) → (Nat → Nat) → Nat × (Nat → Nat) → Nat × (Nat → Nat)
  | 0, k, c, s, vis, path, st => if st.1 ≤ s + gv wo vis c then (s + gv wo vis c + 1, pt1 path k c) else st
  | r + 1, k, c, s, vis, path, st => nbS W H c (fun c2 st => rtS W H wo r (k + 1) c2 (s + gv wo vis c) (pt1 vis c (vis c + 1)) (pt1 path k c) st) st
theorem gv_le {wo vis : Nat → Nat} {G c : Nat} (h : ∀ c, wo c ≤ G) : gv wo vis c ≤ G := by
  unfold gv
  split
  · exact h c
  · exact Nat.zero_le _
theorem nb1_id {p : Bool} {c : Nat} {a : Nat → Nat × (Nat → Nat) → Nat × (Nat → Nat)} {st : Nat × (Nat → Nat)} (h : ∀ c, a c st = st) : nb1 p c a st = st := by
  unfold nb1
  cases p
  · rfl
  · exact h c
theorem rt_skip {W H G : Nat} {wo : Nat → Nat} (hG : ∀ c, wo c ≤ G) : ∀ r k c s vis path (st : Nat × (Nat → Nat)), s + G * (r + 1) < st.1 → rtS W H wo r k c s vis path st = st := by
  intro r
  induction r with
  | zero =>
    intro k c s vis path st h
    have := gv_le (vis := vis) (c := c) hG
    unfold rtS
    rw [if_neg (by omega)]
  | succ r ih =>
    intro k c s vis path st h
    have g := gv_le (vis := vis) (c := c) hG
    have e : G * (r + 1 + 1) = G * (r + 1) + G := Nat.mul_succ _ _
    have ha : ∀ c2, (fun c2 st => rtS W H wo r (k + 1) c2 (s + gv wo vis c) (pt1 vis c (vis c + 1)) (pt1 path k c) st) c2 st = st := fun c2 => ih _ _ _ _ _ _ (by omega)
    unfold rtS nbS
    rw [nb1_id ha, nb1_id ha, nb1_id ha, nb1_id ha]
theorem nb1_ge {p : Bool} {c : Nat} {a : Nat → Nat × (Nat → Nat) → Nat × (Nat → Nat)} {st : Nat × (Nat → Nat)} (h : ∀ c st, st.1 ≤ (a c st).1 ∧ 1 ≤ (a c st).1) : st.1 ≤ (nb1 p c a st).1 ∧ (p = true → 1 ≤ (nb1 p c a st).1) := by
  unfold nb1
  cases p
  · exact ⟨Nat.le_refl _, fun h => by cases h⟩
  · exact ⟨(h c st).1, fun _ => (h c st).2⟩
theorem rt_pos {W H : Nat} {wo : Nat → Nat} (hW : 2 ≤ W) : ∀ r k c s vis path (st : Nat × (Nat → Nat)), st.1 ≤ (rtS W H wo r k c s vis path st).1 ∧ 1 ≤ (rtS W H wo r k c s vis path st).1 := by
  intro r
  induction r with
  | zero =>
    intro k c s vis path st
    unfold rtS
    split
    · exact ⟨by show st.1 ≤ _ + 1; omega, by show 1 ≤ _ + 1; omega⟩
    · omega
  | succ r ih =>
    intro k c s vis path st
    unfold rtS nbS
    have ha : ∀ c2 st2, st2.1 ≤ ((fun c2 st => rtS W H wo r (k + 1) c2 (s + gv wo vis c) (pt1 vis c (vis c + 1)) (pt1 path k c) st) c2 st2).1 ∧ 1 ≤ ((fun c2 st => rtS W H wo r (k + 1) c2 (s + gv wo vis c) (pt1 vis c (vis c + 1)) (pt1 path k c) st) c2 st2).1 := fun c2 st2 => ih _ _ _ _ _ _
    generalize (fun c2 st => rtS W H wo r (k + 1) c2 (s + gv wo vis c) (pt1 vis c (vis c + 1)) (pt1 path k c) st) = a at *
    have u1 := nb1_ge (p := decide (0 < c / 6)) (c := c - 6) (st := st) ha
    generalize nb1 (decide (0 < c / 6)) (c - 6) a st = s1 at *
    have u2 := nb1_ge (p := decide (0 < c % 6)) (c := c - 1) (st := s1) ha
    generalize nb1 (decide (0 < c % 6)) (c - 1) a s1 = s2 at *
    have u3 := nb1_ge (p := decide (c % 6 + 1 < W)) (c := c + 1) (st := s2) ha
    generalize nb1 (decide (c % 6 + 1 < W)) (c + 1) a s2 = s3 at *
    have u4 := nb1_ge (p := decide (c / 6 + 1 < H)) (c := c + 6) (st := s3) ha
    refine ⟨by omega, ?_⟩
    rcases Nat.eq_zero_or_pos (c % 6) with z | z
    · have := u3.2 (decide_eq_true (by omega))
      omega
    · have := u2.2 (decide_eq_true z)
      omega
theorem obind_ite {α β : Type} {c : Prop} [Decidable c] {a : α} {m : Option α} {f : α → Option β} : Option.bind (if c then some a else m) f = if c then f a else Option.bind m f := by split <;> rfl
theorem obind_id {α : Type} {m : Option α} : (Option.bind m fun x => some x) = m := by cases m <;> rfl
/-- what the book's walk keeps -/
def RtB (ln W H n G : Nat) (wo : Nat → Nat) (I : FI) (k : Nat) (vis path : Nat → Nat) (st : Nat × (Nat → Nat)) : Prop :=
  I ln 8 = nI W ∧ I ln 9 = nI H ∧ I 195 4 = nI G ∧ I 195 5 = nI n ∧ I 195 6 = nI st.1 - 1 ∧ (∀ c, c < 36 → c % 6 < W → c / 6 < H → I 196 c = nI (wo c)) ∧ (∀ c, c < 36 → I 197 c = nI (vis c)) ∧ (∀ j, j < k → I 198 j = nI (path j)) ∧ (0 < st.1 → ∀ j, j < n → I 199 j = nI (st.2 j)) ∧ st.1 ≤ 200
/-- the four ways on, of the book -/
def nbB (R : Nat → Nat → Int32 → Int32 → Int32 → FI → Option FI) (ln : Nat) (l2 l3 s : Int32) (I : FI) : Option FI :=
  Option.bind (if l3 / 6 ≤ 0 then some I else R 195 ln (l2 + 1) (l3 - 6) s I) fun x =>
  Option.bind (if l3 - l3 / 6 * 6 ≤ 0 then some x else R 195 ln (l2 + 1) (l3 - 1) s x) fun x =>
  Option.bind (if x ln 8 ≤ (l3 - l3 / 6 * 6) + 1 then some x else R 195 ln (l2 + 1) (l3 + 1) s x) fun x =>
  Option.bind (if x ln 9 ≤ l3 / 6 + 1 then some x else R 195 ln (l2 + 1) (l3 + 6) s x) fun x =>
  some (up2 x 197 l3.toNatClampNeg (x 197 l3.toNatClampNeg - 1))
section Q36
variable {N b ln sp sn ss nP nF nE nW nH nR : Nat} {I I' : FI} {J J' : FJ}
theorem walk_e {R : Nat → Nat → Int32 → Int32 → Int32 → FI → Option FI} {W H n G : Nat} {wo : Nat → Nat} {k c s : Nat} {vis path : Nat → Nat} {st : Nat × (Nat → Nat)} (hk : k < n) (hn : n ≤ 8) (hx : c % 6 < W) (hy : c / 6 < H) (hc : c < 36) (hv : vis c ≤ k) (hln : ln < 195) (B : RtB ln W H n G wo I k vis path st) : Route_walk R N 195 ln (nI k) (nI c) (nI s) I = if k + 1 = n then Route_keepIfMore 195 (nI (s + gv wo vis c)) (up2 I 198 k (nI c)) else if nI st.1 - 1 < nI (s + gv wo vis c) + nI G * (nI n - nI k - 1) then nbB R ln (nI k) (nI c) (nI (s + gv wo vis c)) (up2 (up2 I 198 k (nI c)) 197 c (nI (vis c) + 1)) else some (up2 I 198 k (nI c)) := by
  obtain ⟨a1, a2, a3, a4, a5, a6, a7, a8, a9, a10⟩ := B
  have f1 : (nI n ≤ nI k) = False := by rw [le_nI (by omega) (by omega)]; exact eq_false (by omega)
  have f2 : (nI c < 0) = False := by rw [L_0, lt_nI (by omega) (by omega)]; exact eq_false (by omega)
  have f3 : (nI c < 36) = True := by rw [L_36, lt_nI (by omega) (by omega)]; exact eq_true hc
  have f4 : in9 (nI k) 8 = True := in9_t (by omega) (by omega)
  have f5 : in9 (nI c) 36 = True := in9_t (by omega) (by omega)
  have tk : (nI k).toNatClampNeg = k := tN (by omega)
  have tc : (nI c).toNatClampNeg = c := tN (by omega)
  have f6 : (nI k + 1 = nI n) = (k + 1 = n) := by rw [nS, eq_nI (by omega) (by omega)]
  have e1 : up2 I 198 k (nI c) 195 = I 195 := u_o (by omega)
  have e2 : up2 I 198 k (nI c) 196 = I 196 := u_o (by omega)
  have e3 : up2 I 198 k (nI c) 197 = I 197 := u_o (by omega)
  have v1 := a7 c hc
  have w1 := a6 c hc hx hy
  by_cases v0 : vis c = 0
  · have e0 : (nI (vis c) = 0) = True := eq_true (by rw [v0]; rfl)
    have eg : gv wo vis c = wo c := by unfold gv; rw [if_pos v0]
    simp only [↓reduceIte, Route_walk, nbB, obind_ite, obind_id, Option.bind_some, f1, f2, f3, f4, f5, f6, tk, tc, e1, e2, e3, e0, eg, a3, a4, a5, v1, w1, nA]
  · have e0 : (nI (vis c) = 0) = False := by rw [L_0, eq_nI (by omega) (by omega)]; exact eq_false v0
    have eg : gv wo vis c = 0 := by unfold gv; rw [if_neg v0]
    have ez : nI s + 0 = nI s := nA s 0
    simp only [↓reduceIte, Route_walk, nbB, obind_ite, obind_id, Option.bind_some, f1, f2, f3, f4, f5, f6, tk, tc, e1, e2, e3, e0, eg, ez, a3, a4, a5, v1, w1, Nat.add_zero]
theorem keep_b {W H n G : Nat} {wo : Nat → Nat} {k c s : Nat} {vis path : Nat → Nat} {st : Nat × (Nat → Nat)} (hk : k + 1 = n) (hn : n ≤ 8) (hs : s ≤ 150) (hln : ln < 195) (B : RtB ln W H n G wo I k vis path st) : ∃ I1, Route_keepIfMore 195 (nI s) (up2 I 198 k (nI c)) = some I1 ∧ RtB ln W H n G wo I1 k vis path (if st.1 ≤ s then (s + 1, pt1 path k c) else st) := by
  obtain ⟨a1, a2, a3, a4, a5, a6, a7, a8, a9, a10⟩ := B
  have e1 : up2 I 198 k (nI c) 195 = I 195 := u_o (by omega)
  unfold Route_keepIfMore
  rw [e1, a5]
  by_cases h : st.1 ≤ s
  · rw [if_neg (Int32.not_le.mpr (by rw [sub1_lt (by omega) (by omega)]; exact h)), if_pos h, Option.bind_some, T_0]
    have e5 : up2 (up2 I 198 k (nI c)) 195 6 (nI s) 195 5 = nI n := by rw [u_j (by omega), e1, a4]
    rw [e5, tN (by omega), if_pos ⟨⟨by decide, by decide, by rw [L_0, le_nI (by omega) (by omega)]; omega⟩, by omega, by omega⟩]
    refine ⟨_, rfl, ?_⟩
    refine ⟨?_, ?_, ?_, ?_, ?_, fun q h1 h2 h3 => ?_, fun q h1 => ?_, fun j hj => ?_, fun _ j hj => ?_, ?_⟩
    · rw [cp2_o (by omega), u_o (by omega), u_o (by omega)]; exact a1
    · rw [cp2_o (by omega), u_o (by omega), u_o (by omega)]; exact a2
    · rw [cp2_o (by omega), u_j (by omega), u_o (by omega)]; exact a3
    · rw [cp2_o (by omega), u_j (by omega), u_o (by omega)]; exact a4
    · rw [cp2_o (by omega), u_s, nI_pred]
    · rw [cp2_o (by omega), u_o (by omega), u_o (by omega)]; exact a6 q h1 h2 h3
    · rw [cp2_o (by omega), u_o (by omega), u_o (by omega)]; exact a7 q h1
    · rw [cp2_o (by omega), u_o (by omega), u_j (by omega)]; exact a8 j hj
    · rw [show 195 + 4 = 199 from rfl, show 195 + 3 = 198 from rfl, cp2_i (by omega) (by omega), Nat.zero_add, Nat.sub_zero, u_o (by omega)]
      show _ = nI (pt1 path k c j)
      unfold pt1
      by_cases z : j = k
      · rw [if_pos z, z, u_s]
      · rw [if_neg z, u_j z]; exact a8 j (by omega)
    · show s + 1 ≤ 200; omega
  · rw [if_pos (Int32.not_lt.mp (by rw [sub1_lt (by omega) (by omega)]; exact h)), if_neg h]
    refine ⟨_, rfl, ?_⟩
    refine ⟨?_, ?_, ?_, ?_, ?_, fun q h1 h2 h3 => ?_, fun q h1 => ?_, fun j hj => ?_, fun h0 j hj => ?_, a10⟩
    · rw [u_o (by omega)]; exact a1
    · rw [u_o (by omega)]; exact a2
    · rw [u_o (by omega)]; exact a3
    · rw [u_o (by omega)]; exact a4
    · rw [u_o (by omega)]; exact a5
    · rw [u_o (by omega)]; exact a6 q h1 h2 h3
    · rw [u_o (by omega)]; exact a7 q h1
    · rw [u_j (by omega)]; exact a8 j hj
    · rw [u_o (by omega)]; exact a9 h0 j hj
theorem rowc_e {c : Nat} (hc : c < 36) : nI c / 6 = nI (c / 6) := by rw [L_6, div_nI (by omega) (by omega)]
theorem colc_e {c : Nat} (hc : c < 36) : nI c - nI c / 6 * 6 = nI (c % 6) := by
  rw [rowc_e hc, L_6, nM, nSb (Nat.div_mul_le_self c 6)]
  exact congrArg nI (by omega)
theorem walk_b {W H n G : Nat} {wo : Nat → Nat} (hW : W ≤ 6) (hH : H ≤ 6) (hn : n ≤ 8) (hln : ln < 195) (hwo : ∀ c, wo c ≤ G) (hG : G ≤ 12) : ∀ r k c s vis path (st : Nat × (Nat → Nat)) (I : FI) d, k + r + 1 = n → c % 6 < W → c / 6 < H → s ≤ 12 * k → (∀ c, vis c ≤ k) → r < d → RtB ln W H n G wo I k vis path st → ∃ I1, Route_walk_R N d 195 ln (nI k) (nI c) (nI s) I = some I1 ∧ RtB ln W H n G wo I1 k vis path (rtS W H wo r k c s vis path st) := by
  intro r
  induction r with
  | zero =>
    intro k c s vis path st I d hk hx hy hs hv hd B
    obtain ⟨d, rfl⟩ : ∃ e, d = e + 1 := ⟨d - 1, by omega⟩
    have hc : c < 36 := by omega
    have hg := gv_le (vis := vis) (c := c) hwo
    show ∃ I1, Route_walk (Route_walk_R N d) N 195 ln (nI k) (nI c) (nI s) I = some I1 ∧ _
    rw [walk_e (by omega) hn hx hy hc (hv c) hln B, if_pos (by omega)]
    exact keep_b (by omega) hn (by omega) hln B
  | succ r ih =>
    intro k c s vis path st I d hk hx hy hs hv hd B
    obtain ⟨d, rfl⟩ : ∃ e, d = e + 1 := ⟨d - 1, by omega⟩
    have hc : c < 36 := by omega
    have hg := gv_le (vis := vis) (c := c) hwo
    show ∃ I1, Route_walk (Route_walk_R N d) N 195 ln (nI k) (nI c) (nI s) I = some I1 ∧ _
    rw [walk_e (by omega) hn hx hy hc (hv c) hln B, if_neg (by omega)]
    have hG1 : G * (r + 1) ≤ 12 * 8 := Nat.mul_le_mul hG (by omega)
    have er : nI n - nI k - 1 = nI (r + 1) := by rw [L_1, nSb (by omega), nSb (by omega)]; exact congrArg nI (by omega)
    obtain ⟨a1, a2, a3, a4, a5, a6, a7, a8, a9, a10⟩ := B
    rw [er, nM, nA]
    have hvis : ∀ q, pt1 vis c (vis c + 1) q ≤ k + 1 := by
      intro q
      have h1 := hv q
      have h2 := hv c
      unfold pt1
      split <;> omega
    by_cases h : st.1 ≤ s + gv wo vis c + G * (r + 1)
    · rw [if_pos (show nI st.1 - 1 < nI (s + gv wo vis c + G * (r + 1)) by rw [sub1_lt (by omega) (by omega)]; exact h)]
      unfold rtS nbS
      have go : ∀ c2 (st2 : Nat × (Nat → Nat)) (I2 : FI), c2 % 6 < W → c2 / 6 < H → RtB ln W H n G wo I2 (k + 1) (pt1 vis c (vis c + 1)) (pt1 path k c) st2 → ∃ I3, Route_walk_R N d 195 ln (nI k + 1) (nI c2) (nI (s + gv wo vis c)) I2 = some I3 ∧ RtB ln W H n G wo I3 (k + 1) (pt1 vis c (vis c + 1)) (pt1 path k c) ((fun c2 st => rtS W H wo r (k + 1) c2 (s + gv wo vis c) (pt1 vis c (vis c + 1)) (pt1 path k c) st) c2 st2) := by
        intro c2 st2 I2 h1 h2 B2
        rw [nS]
        exact ih (k + 1) c2 _ _ _ st2 I2 d (by omega) h1 h2 (by omega) hvis (by omega) B2
      generalize (fun c2 st => rtS W H wo r (k + 1) c2 (s + gv wo vis c) (pt1 vis c (vis c + 1)) (pt1 path k c) st) = A at *
      have B0 : RtB ln W H n G wo (up2 (up2 I 198 k (nI c)) 197 c (nI (vis c) + 1)) (k + 1) (pt1 vis c (vis c + 1)) (pt1 path k c) st := by
        refine ⟨?_, ?_, ?_, ?_, ?_, fun q h1 h2 h3 => ?_, fun q h1 => ?_, fun j hj => ?_, fun h0 j hj => ?_, a10⟩
        · rw [u_o (by omega), u_o (by omega)]; exact a1
        · rw [u_o (by omega), u_o (by omega)]; exact a2
        · rw [u_o (by omega), u_o (by omega)]; exact a3
        · rw [u_o (by omega), u_o (by omega)]; exact a4
        · rw [u_o (by omega), u_o (by omega)]; exact a5
        · rw [u_o (by omega), u_o (by omega)]; exact a6 q h1 h2 h3
        · unfold pt1
          by_cases z : q = c
          · rw [if_pos z, z, u_s, nS]
          · rw [if_neg z, u_j z, u_o (by omega)]; exact a7 q h1
        · rw [u_o (by omega)]
          unfold pt1
          by_cases z : j = k
          · rw [if_pos z, z, u_s]
          · rw [if_neg z, u_j z]; exact a8 j (by omega)
        · rw [u_o (by omega), u_o (by omega)]; exact a9 h0 j hj
      unfold nbB
      rw [colc_e hc, rowc_e hc]
      have stp : ∀ (p : Prop) [Decidable p] (q : Bool) c2 (z : Int32) (st2 : Nat × (Nat → Nat)) (I2 : FI), (p ↔ ¬ q = true) → (q = true → z = nI c2 ∧ c2 % 6 < W ∧ c2 / 6 < H) → RtB ln W H n G wo I2 (k + 1) (pt1 vis c (vis c + 1)) (pt1 path k c) st2 → ∃ I3, (if p then some I2 else Route_walk_R N d 195 ln (nI k + 1) z (nI (s + gv wo vis c)) I2) = some I3 ∧ RtB ln W H n G wo I3 (k + 1) (pt1 vis c (vis c + 1)) (pt1 path k c) (nb1 q c2 A st2) := by
        intro p _ q c2 z st2 I2 hp hz B2
        cases q with
        | true =>
          obtain ⟨rfl, z1, z2⟩ := hz rfl
          rw [if_neg (fun y => hp.mp y rfl)]
          exact go c2 st2 I2 z1 z2 B2
        | false => exact ⟨I2, by rw [if_pos (hp.mpr (by decide))], B2⟩
      obtain ⟨I1, i1, B1⟩ := stp (nI (c / 6) ≤ 0) (decide (0 < c / 6)) (c - 6) (nI c - 6) st _ (by rw [L_0, le_nI (by omega) (by omega), decide_eq_true_eq]; omega) (fun y => by
        have y2 := of_decide_eq_true y
        exact ⟨by rw [L_6, nSb (by omega)], by omega, by omega⟩) B0
      rw [i1, Option.bind_some]
      obtain ⟨I2, i2, B2⟩ := stp (nI (c % 6) ≤ 0) (decide (0 < c % 6)) (c - 1) (nI c - 1) _ I1 (by rw [L_0, le_nI (by omega) (by omega), decide_eq_true_eq]; omega) (fun y => by
        have y2 := of_decide_eq_true y
        exact ⟨by rw [L_1, nSb (by omega)], by omega, by omega⟩) B1
      rw [i2, Option.bind_some]
      obtain ⟨I3, i3, B3⟩ := stp (I2 ln 8 ≤ nI (c % 6) + 1) (decide (c % 6 + 1 < W)) (c + 1) (nI c + 1) _ I2 (by rw [B2.1, nS, le_nI (by omega) (by omega), decide_eq_true_eq]; omega) (fun y => by
        have y2 := of_decide_eq_true y
        exact ⟨by rw [nS], by omega, by omega⟩) B2
      rw [i3, Option.bind_some]
      obtain ⟨I4, i4, B4⟩ := stp (I3 ln 9 ≤ nI (c / 6) + 1) (decide (c / 6 + 1 < H)) (c + 6) (nI c + 6) _ I3 (by rw [B3.2.1, nS, le_nI (by omega) (by omega), decide_eq_true_eq]; omega) (fun y => by
        have y2 := of_decide_eq_true y
        exact ⟨by rw [L_6, nA], by omega, by omega⟩) B3
      rw [i4, Option.bind_some]
      refine ⟨_, rfl, ?_⟩
      obtain ⟨b1, b2, b3, b4, b5, b6, b7, b8, b9, b10⟩ := B4
      rw [tN (by omega)]
      refine ⟨?_, ?_, ?_, ?_, ?_, fun q h1 h2 h3 => ?_, fun q h1 => ?_, fun j hj => ?_, fun h0 j hj => ?_, b10⟩
      · rw [u_o (by omega)]; exact b1
      · rw [u_o (by omega)]; exact b2
      · rw [u_o (by omega)]; exact b3
      · rw [u_o (by omega)]; exact b4
      · rw [u_o (by omega)]; exact b5
      · rw [u_o (by omega)]; exact b6 q h1 h2 h3
      · by_cases z : q = c
        · rw [z, u_s, b7 c hc]
          unfold pt1
          rw [if_pos rfl, nI_pred]
        · rw [u_j z, b7 q h1]
          unfold pt1
          rw [if_neg z]
      · rw [u_o (by omega), b8 j (by omega)]
        unfold pt1
        rw [if_neg (by omega)]
      · rw [u_o (by omega)]; exact b9 h0 j hj
    · rw [if_neg (show ¬ nI st.1 - 1 < nI (s + gv wo vis c + G * (r + 1)) by rw [sub1_lt (by omega) (by omega)]; exact h)]
      refine ⟨_, rfl, ?_⟩
      have sk : rtS W H wo (r + 1) k c s vis path st = st := by
        unfold rtS nbS
        have ha : ∀ c2, (fun c2 st => rtS W H wo r (k + 1) c2 (s + gv wo vis c) (pt1 vis c (vis c + 1)) (pt1 path k c) st) c2 st = st := fun c2 => rt_skip hwo _ _ _ _ _ _ _ (by omega)
        rw [nb1_id ha, nb1_id ha, nb1_id ha, nb1_id ha]
      rw [sk]
      refine ⟨?_, ?_, ?_, ?_, ?_, fun q h1 h2 h3 => ?_, fun q h1 => ?_, fun j hj => ?_, fun h0 j hj => ?_, a10⟩
      · rw [u_o (by omega)]; exact a1
      · rw [u_o (by omega)]; exact a2
      · rw [u_o (by omega)]; exact a3
      · rw [u_o (by omega)]; exact a4
      · rw [u_o (by omega)]; exact a5
      · rw [u_o (by omega)]; exact a6 q h1 h2 h3
      · rw [u_o (by omega)]; exact a7 q h1
      · rw [u_j (by omega)]; exact a8 j hj
      · rw [u_o (by omega)]; exact a9 h0 j hj
end Q36

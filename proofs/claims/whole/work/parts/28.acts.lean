/-! what is done in a field: both sides -/
def fl3 (I : FI) (a lo n : Nat) (v : Int32) : FI := fun b j => if b = a ∧ lo ≤ j ∧ j < lo + n then v else I b j
theorem fl3_0 {I : FI} {a lo : Nat} {v : Int32} : fl3 I a lo 0 v = I := by
  funext b j
  unfold fl3
  rw [if_neg (by omega)]
theorem fl3_s {I : FI} {a lo n : Nat} {v : Int32} : up2 (fl3 I a lo n v) a (lo + n) v = fl3 I a lo (n + 1) v := by
  funext b j
  unfold up2 fl3
  by_cases h : b = a ∧ j = lo + n
  · rw [if_pos h, if_pos (by omega)]
  · rw [if_neg h]
    by_cases g : b = a ∧ lo ≤ j ∧ j < lo + n
    · rw [if_pos g, if_pos (by omega)]
    · rw [if_neg g, if_neg (by omega)]
theorem fl3_o {I : FI} {a lo n : Nat} {v : Int32} {b : Nat} (h : b ≠ a) : fl3 I a lo n v b = I b := by funext j; unfold fl3; rw [if_neg (by omega)]
theorem fl3_i {I : FI} {a lo n : Nat} {v : Int32} {j : Nat} (h : lo ≤ j) (h2 : j < lo + n) : fl3 I a lo n v a j = v := by unfold fl3; rw [if_pos (by omega)]
theorem fl3_j {I : FI} {a lo n : Nat} {v : Int32} {j : Nat} (h : j < lo ∨ lo + n ≤ j) : fl3 I a lo n v a j = I a j := by unfold fl3; rw [if_neg (by omega)]
theorem fill_e {N a n0 : Nat} {v : Int32} {I : FI} (hN : n0 < N) (h0 : n0 < 2147483648) : Arrays_fill N a n0 v I = some (fl3 I a 0 n0 v) := by
  have key : ∀ m k n, k + m = n0 → m < n → Arrays_fill_5 N a n0 n v (nI k) (Int32.ofNat n0) (fl3 I a 0 k v) = some (fl3 I a 0 n0 v) := by
    intro m
    induction m with
    | zero =>
      intro k n hk hn
      obtain ⟨n, rfl⟩ : ∃ e, n = e + 1 := ⟨n - 1, by omega⟩
      obtain rfl : k = n0 := by omega
      simp (disch := omega) only [Arrays_fill_5, show Int32.ofNat k = nI k from rfl, le_nI, ifT]
    | succ m ih =>
      intro k n hk hn
      obtain ⟨n, rfl⟩ : ∃ e, n = e + 1 := ⟨n - 1, by omega⟩
      have h1 := ih (k + 1) n (by omega) (by omega)
      have e := fl3_s (I := I) (a := a) (lo := 0) (n := k) (v := v)
      rw [Nat.zero_add] at e
      simp (disch := omega) only [Arrays_fill_5, show Int32.ofNat n0 = nI n0 from rfl, le_nI, ifF, in9_t, if_true, tN, nS, Option.bind_some, e]
      exact h1
  have := key n0 0 N (by omega) (by omega)
  rw [fl3_0] at this
  exact this
section Q28
variable {N b ln nP nF nE nW nH nR : Nat} {I I' : FI}
theorem hasP_t (h : QR N b ln nP nF nE nW nH nR I I') {p : Nat} (hp : p < nP) : Land_hasPerson ln (nI p) I = true := by
  have hb := h.bd
  unfold Land_hasPerson
  simp (disch := omega) only [L_0, lt_nI, ifF, h.cP, le_nI]
theorem isHad_e (h : QR N b ln nP nF nE nW nH nR I I') {f : Nat} (hf : f < 10) : Mod_isHad (nI f) I' = some (decide (I' 206 (135 + f) = 1)) := by
  have hb := h.bd
  unfold Mod_isHad
  simp (disch := omega) only [ax_135, in9_t, if_true, tN]
  by_cases e : I' 206 (135 + f) = 1
  · simp [e]
  · simp [e]
theorem moved_e (h : QR N b ln nP nF nE nW nH nR I I') {f : Nat} (hf : f < nF) : State_whyNotMoved b (nI f) I = some (if I' 206 (135 + f) = 1 then 0 else 1) := by
  have hb := h.bd
  unfold State_whyNotMoved
  simp (disch := omega) only [in9_t, if_true, tN, h.stat]
  split <;> rfl
theorem sell_q (h : QR N b ln nP nF nE nW nH nR I I') {f : Nat} (hf : f < nF) (hs : I' 206 (135 + f) = nI 1) : ∃ I1 I1', State_sellFind b ln (nI f) I = some I1 ∧ Mod_doSell (nI f) I' = some I1' ∧ QR N b ln nP nF nE nW nH nR I1 I1' ∧ (∀ j, j < 102 ∨ 209 ≤ j → I1' 206 j = I' 206 j) := by
  have hb := h.bd
  obtain ⟨p, hp, ep⟩ := h.v_who (f := f) (by omega) hs
  refine ⟨up2 (up2 I (b + 6) p (I' 206 (155 + p) + I' 206 (80 + f) / 2)) (b + 4) f 3, up2 (up2 I' 206 (155 + p) (I' 206 (155 + p) + I' 206 (80 + f) / 2)) 206 (135 + f) 3, ?_, ?_, ?_, fun j hj => by simp (disch := omega) only [u_j]⟩
  · unfold State_sellFind
    simp (disch := omega) only [in9_t, if_true, tN, h.who, ep, hasP_t h hp, L_5, fact_e h hf, Option.bind_some, h.f_value, h.coin]
  · unfold Mod_doSell
    simp (disch := omega) only [ax_145, ax_155, ax_80, ax_135, in9_t, if_true, tN, ep, Option.bind_some]
  · exact (h.set_coin (by omega)).set_stat hf ⟨3, by decide, rfl⟩ (fun q => absurd q (by decide))
theorem lay_q (h : QR N b ln nP nF nE nW nH nR I I') {f x y : Nat} (hf : f < nF) (hx : x < nW) (hy : y < nH) : ∃ I1 I1', State_layFind b (nI f) (nI x) (nI y) I = some I1 ∧ Mod_doLay (nI f) (nI x) (nI y) I' = some I1' ∧ QR N b ln nP nF nE nW nH nR I1 I1' ∧ (∀ j, j < 102 ∨ 209 ≤ j → I1' 206 j = I' 206 j) := by
  have hb := h.bd
  refine ⟨up2 (up2 (up2 (up2 I (b + 4) f 0) (b + 1) f (nI x)) (b + 2) f (nI y)) (b + 3) f 0, up2 (up2 (up2 (up2 I' 206 (135 + f) 0) 206 (105 + f) (nI x)) 206 (115 + f) (nI y)) 206 (125 + f) 0, ?_, ?_, ?_, fun j hj => by simp (disch := omega) only [u_j]⟩
  · unfold State_layFind
    simp (disch := omega) only [in9_t, if_true, tN, Option.bind_some]
  · unfold Mod_doLay
    simp (disch := omega) only [ax_135, ax_105, ax_115, ax_125, in9_t, if_true, tN, Option.bind_some]
  · exact (((h.set_stat hf ⟨0, by decide, rfl⟩ (fun q => absurd q (by decide))).set_x hf ⟨x, hx, rfl⟩).set_y hf ⟨y, hy, rfl⟩).set_deep hf ⟨0, by decide, rfl⟩
theorem canDig_q (h : QR N b ln nP nF nE nW nH nR I I') {x y : Nat} (hx : x < nW) (hy : y < nH) : ∃ t : Bool, State_canDig b (nI x) (nI y) I = some t ∧ Mod_canDig (nI x) (nI y) I' = some t ∧ (t = true → ∃ v, v < 10 ∧ I' 206 (173 + (6 * y + x)) = nI v) := by
  have hb := h.bd
  obtain ⟨v, hv, ev⟩ := h.v_dug (c := 6 * y + x) (by omega)
  unfold State_canDig Mod_canDig
  simp (disch := omega) only [mx_6, nA, ax_173, L_0, lt_nI, ifF, L_36, le_nI, in9_t, if_true, tN, h.dug, Nat.add_assoc, ev, L_10]
  rcases Nat.lt_or_ge v 10 with g | g
  · exact ⟨true, by rw [if_neg (by omega)], by rw [if_neg (by omega)], fun _ => ⟨v, g, rfl⟩⟩
  · exact ⟨false, by rw [if_pos g], by rw [if_pos g], fun q => by cases q⟩
theorem u_comm {α : Type} {f : Nat → Nat → α} {a k a' k' : Nat} {v v' : α} (h : ¬ (a = a' ∧ k = k')) : up2 (up2 f a k v) a' k' v' = up2 (up2 f a' k' v') a k v := by
  funext q j
  unfold up2
  by_cases h1 : q = a' ∧ j = k'
  · rw [if_pos h1, if_neg (by omega), if_pos h1]
  · rw [if_neg h1, if_neg h1]
theorem QR.set_had (h : QR N b ln nP nF nE nW nH nR I I') {i p : Nat} (hi : i < nF) (hp : p < nP) : QR N b ln nP nF nE nW nH nR (up2 (up2 I (b + 4) i 1) (b + 5) i (nI p)) (up2 (up2 I' 206 (135 + i) 1) 206 (145 + i) (nI p)) := by
  rw [u_comm (by omega), u_comm (f := I') (by omega)]
  exact (h.set_who hi ⟨p, hp, rfl⟩).set_stat hi ⟨1, by decide, rfl⟩ (fun _ => ⟨p, hp, u_s⟩)
theorem dig_l (hcell : Nat) (hc : hcell < 36) {p x y : Nat} : ∀ m k n n' (acc : Int32) (I I' : FI), QR N b ln nP nF nE nW nH nR I I' → p < nP → k + m = nF → m < n → m < n' → ∃ v I1 I1', State_digCell_56 N b ln n (nI p) (nI x) (nI y) (nI hcell) acc (nI k) I = some (v, I1) ∧ Mod_doDig_54 N n' (nI p) (nI x) (nI y) (nI (173 + hcell)) acc (nI k) I' = some (v, I1') ∧ QR N b ln nP nF nE nW nH nR I1 I1' ∧ I1' 206 102 = I' 206 102 ∧ (∀ j, j < 102 ∨ 209 ≤ j → I1' 206 j = I' 206 j) := by
  intro m
  induction m with
  | zero =>
    intro k n n' acc I I' h hp hk hn hn'
    have hb := h.bd
    obtain ⟨n, rfl⟩ : ∃ e, n = e + 1 := ⟨n - 1, by omega⟩
    obtain ⟨n', rfl⟩ : ∃ e, n' = e + 1 := ⟨n' - 1, by omega⟩
    obtain rfl : k = nF := by omega
    refine ⟨acc, up2 I (b + 8) p (I' 206 (167 + p) + acc), up2 I' 206 (167 + p) (I' 206 (167 + p) + acc), ?_, ?_, h.set_got (by omega), u_j (by omega), fun j hj => u_j (by omega)⟩
    · simp (disch := omega) only [State_digCell_56, h.cF, le_nI, ifT, in9_t, if_true, tN, Option.bind_some, h.got]
    · simp (disch := omega) only [Mod_doDig_54, T_1, h.mF, le_nI, ifT, ax_167, in9_t, if_true, tN, Option.bind_some]
  | succ m ih =>
    intro k n n' acc I I' h hp hk hn hn'
    have hb := h.bd
    obtain ⟨n, rfl⟩ : ∃ e, n = e + 1 := ⟨n - 1, by omega⟩
    obtain ⟨n', rfl⟩ : ∃ e, n' = e + 1 := ⟨n' - 1, by omega⟩
    obtain ⟨vd, hvd, ed⟩ := h.v_deep (f := k) (by omega)
    obtain ⟨vc, hvc, ec⟩ := h.v_dug (c := hcell) hc
    simp (disch := omega) only [State_digCell_56, Mod_doDig_54, T_1, h.cF, h.mF, le_nI, lt_nI, ifF, ax_135, ax_105, ax_115, ax_125, ax_145, in9_t, if_true, tN, nS, h.stat, h.x, h.y, h.deep, h.dug, ed, ec]
    by_cases c1 : I' 206 (135 + k) = 0
    · by_cases c2 : I' 206 (105 + k) = nI x
      · by_cases c3 : I' 206 (115 + k) = nI y
        · simp only [c1, c2, c3, if_true]
          rcases Nat.lt_or_ge vd vc with c4 | c4
          · simp (disch := omega) only [ifF, ifT, Option.bind_some]
            obtain ⟨v, I1, I1', g1, g2, g3, g4, g5⟩ := ih (k + 1) n n' (acc + 1) _ _ (h.set_had (i := k) (by omega) hp) hp (by omega) (by omega) (by omega)
            exact ⟨v, I1, I1', g1, g2, g3, by rw [g4, u_j (by omega), u_j (by omega)], fun j hj => by rw [g5 j hj]; simp (disch := omega) only [u_j]⟩
          · simp (disch := omega) only [ifF, ifT]
            exact ih (k + 1) n n' acc I I' h hp (by omega) (by omega) (by omega)
        · simp only [c1, c2, c3, if_true, if_false]
          exact ih (k + 1) n n' acc I I' h hp (by omega) (by omega) (by omega)
      · simp only [c1, c2, if_true, if_false]
        exact ih (k + 1) n n' acc I I' h hp (by omega) (by omega) (by omega)
    · simp only [c1, if_false]
      exact ih (k + 1) n n' acc I I' h hp (by omega) (by omega) (by omega)
theorem dig_q (h : QR N b ln nP nF nE nW nH nR I I') {p x y c : Nat} (hp : p < nP) (hx : x < nW) (hy : y < nH) (hc : c < 10) (ec : I' 206 (173 + (6 * y + x)) = nI c) : ∃ v I1 I1', State_digCell N b ln (nI p) (nI x) (nI y) I = some (v, I1) ∧ Mod_doDig N (nI p) (nI x) (nI y) I' = some (v, I1') ∧ QR N b ln nP nF nE nW nH nR I1 I1' ∧ I1' 206 102 = I' 206 102 ∧ (∀ j, j < 102 ∨ 209 ≤ j → I1' 206 j = I' 206 j) := by
  have hb := h.bd
  have hN := h.nN
  have hd := h.dis
  obtain ⟨t, t1, -, -⟩ := canDig_q h hx hy
  have ht : t = true := by
    have := t1
    unfold State_canDig at this
    simp (disch := omega) only [mx_6, nA, L_0, lt_nI, ifF, L_36, le_nI, in9_t, if_true, tN, h.dug, ec, L_10] at this
    exact (Option.some.inj this).symm
  subst ht
  have h1 := (h.set_dug (i := 6 * y + x) (by omega) (v := nI (c + 1)) ⟨c + 1, by omega, rfl⟩).set_digs (i := p) (by omega)
  obtain ⟨v, I1, I1', e1, e2, e3, e4, e5⟩ := dig_l (6 * y + x) (by omega) (p := p) (x := x) (y := y) nF 0 N N 0 _ _ h1 hp (by omega) (by omega) (by omega)
  refine ⟨v, I1, I1', ?_, ?_, e3, by rw [e4, u_j (by omega), u_j (by omega), u_j (by omega)], fun j hj => by rw [e5 j hj]; simp (disch := omega) only [u_j]⟩
  · unfold State_digCell
    simp (disch := omega) only [hasP_t h hp, t1, Option.bind_some, if_true, mx_6, nA, in9_t, tN, h.dug, ec, nS]
    exact e1
  · unfold Mod_doDig
    simp (disch := omega) only [mx_6, ax_173, nA, Nat.add_assoc, ax_161, in9_t, if_true, tN, Option.bind_some, ec, nS, T_103]
    rw [u_j (j := 161 + p) (k := 103) (by omega)]
    exact e2
theorem digNo_q (h : QR N b ln nP nF nE nW nH nR I I') {p : Int32} {x y : Nat} (hc : State_canDig b (nI x) (nI y) I = some false) : State_digCell N b ln p (nI x) (nI y) I = some (0, I) := by
  unfold State_digCell
  simp only [hc, Option.bind_some, Bool.false_eq_true, if_false]
  split <;> rfl
/-- one draw -/
theorem ush8 (x : Int32) : ∃ q, q < 16777216 ∧ (x.toUInt32 >>> ((8 : Int32).toUInt32 &&& Int32.toUInt32 31)).toInt32 = nI q := by
  have e := pk_ushr x 8 8 (by decide)
  have hx : x.toBitVec.toNat < 4294967296 := x.toBitVec.isLt
  refine ⟨x.toBitVec.toNat / 256, by omega, ?_⟩
  refine Int32.toBitVec_inj.mp (BitVec.eq_of_toNat_eq ?_)
  rw [e]
  show _ = (BitVec.ofNat 32 (x.toBitVec.toNat / 256)).toNat
  rw [BitVec.toNat_ofNat, Nat.mod_eq_of_lt (by omega)]
theorem rem_nI {a n : Nat} (ha : a < 2147483648) (hn : n < 2147483648) : nI a - nI a / nI n * nI n = nI (a % n) := by
  rw [div_nI ha hn, nM, nSb (Nat.div_mul_le_self a n)]
  congr 1
  have := Nat.div_add_mod a n
  rw [Nat.mul_comm] at this
  omega
theorem rem2 {a n : Nat} : nI a - nI (a / n) * nI n = nI (a % n) := by
  rw [nM, nSb (Nat.div_mul_le_self a n)]
  congr 1
  have := Nat.div_add_mod a n
  rw [Nat.mul_comm] at this
  omega
theorem draw_q {n : Nat} (h0 : 0 < n) (hn : n < 2147483648) (hs : I 192 0 = I' 204 25) : ∃ r s, r < n ∧ Draws_below 192 (nI n) I = some (nI r, up2 I 192 0 s) ∧ Mod_draw (nI n) I' = some (nI r, up2 I' 204 25 s) := by
  obtain ⟨q, hq, eq⟩ := ush8 (I' 204 25 * 1103515245 + 12345)
  refine ⟨q % n, I' 204 25 * 1103515245 + 12345, Nat.mod_lt _ h0, ?_, ?_⟩
  · unfold Draws_below
    simp (disch := omega) only [hs, Option.bind_some, L_0, le_nI, eq_nI, ifF, ifT, u_s, eq, rem_nI]
  · unfold Mod_draw
    simp (disch := omega) only [Option.bind_some, L_0, eq_nI, ifT, u_s, eq, rem_nI]
theorem QR.seed (h : QR N b ln nP nF nE nW nH nR I I') {s s' : Int32} : QR N b ln nP nF nE nW nH nR (up2 I 192 0 s) (up2 I' 204 25 s') := h.of (fun q j hq => by rw [u_o (by omega)]) (fun j _ => by rw [u_o (by omega)])
theorem night_l {p c x y : Int32} : ∀ m k n n' (I I' : FI), QR N b ln nP nF nE nW nH nR I I' → I 192 0 = I' 204 25 → k + m = nF → m < n → m < n' → (∃ v, v < 400 ∧ I' 206 102 = nI v) → ∃ I1 I1', State_passNight_46 N b ln 192 n p c (nI k) I = some I1 ∧ Mod_oneNight_70 N n' p c x y (nI k) I' = some I1' ∧ QR N b ln nP nF nE nW nH nR I1 I1' ∧ I1 192 0 = I1' 204 25 ∧ I1' 206 102 = I' 206 102 + 1 ∧ (∀ j, j < 102 ∨ 209 ≤ j → I1' 206 j = I' 206 j) := by
  intro m
  induction m with
  | zero =>
    intro k n n' I I' h hs hk hn hn' hv
    have hb := h.bd
    have hd := h.dis
    obtain ⟨n, rfl⟩ : ∃ e, n = e + 1 := ⟨n - 1, by omega⟩
    obtain ⟨n', rfl⟩ : ∃ e, n' = e + 1 := ⟨n' - 1, by omega⟩
    obtain rfl : k = nF := by omega
    obtain ⟨v, hv, ev⟩ := hv
    refine ⟨up2 I b 9 (nI (v + 1)), up2 I' 206 102 (nI (v + 1)), ?_, ?_, h.set_night ⟨v + 1, by omega, rfl⟩, ?_, ?_, fun j hj => u_j (by omega)⟩
    · simp (disch := omega) only [State_passNight_46, h.cF, le_nI, ifT, Option.bind_some, h.night, ev, nS]
    · simp (disch := omega) only [Mod_oneNight_70, T_1, h.mF, le_nI, ifT, Option.bind_some, T_102, ev, nS]
    · rw [u_o (by omega), u_o (by omega)]; exact hs
    · rw [u_s, ev, nS]
  | succ m ih =>
    intro k n n' I I' h hs hk hn hn' hv
    have hb := h.bd
    have hd := h.dis
    obtain ⟨n, rfl⟩ : ∃ e, n = e + 1 := ⟨n - 1, by omega⟩
    obtain ⟨n', rfl⟩ : ∃ e, n' = e + 1 := ⟨n' - 1, by omega⟩
    simp (disch := omega) only [State_passNight_46, Mod_oneNight_70, T_1, h.cF, h.mF, le_nI, ifF, in9_t, if_true, tN, nS, h.stat, isHad_e h, Option.bind_some, decide_eq_true_eq]
    by_cases c1 : I' 206 (135 + k) = 1
    · obtain ⟨r, s, hr, d1, d2⟩ := draw_q (n := 4) (I := I) (I' := I') (by omega) (by omega) hs
      have h2 := h.seed (s := s) (s' := s)
      have hs2 : up2 I 192 0 s 192 0 = up2 I' 204 25 s 204 25 := by rw [u_s, u_s]
      have hv2 : ∃ v, v < 400 ∧ up2 I' 204 25 s 206 102 = nI v := by rw [u_o (by omega)]; exact hv
      have e102 : up2 I' 204 25 s 206 102 = I' 206 102 := by rw [u_o (by omega)]
      simp only [c1, if_true, L_4, d1, d2, Option.bind_some]
      by_cases r0 : r = 0
      · subst r0
        simp (disch := omega) only [show (nI 0 = (0 : Int32)) = True from eq_true rfl, if_true, ax_135, in9_t, tN, Option.bind_some]
        obtain ⟨I1, I1', g1, g2, g3, g4, g5, g6⟩ := ih (k + 1) n n' (up2 (up2 I 192 0 s) (b + 4) k 2) (up2 (up2 I' 204 25 s) 206 (135 + k) 2) (h2.set_stat (by omega) ⟨2, by decide, rfl⟩ (fun q => absurd q (by decide))) ((congrFun (u_o (by omega)) 0).trans (hs2.trans (congrFun (u_o (by omega)) 25).symm)) (by omega) (by omega) (by omega) (by rw [u_j (by omega)]; exact hv2)
        exact ⟨I1, I1', g1, g2, g3, g4, by rw [g5, u_j (by omega), e102], fun j hj => by rw [g6 j hj]; simp (disch := omega) only [u_j, u_o]⟩
      by_cases r1 : r = 1
      · subst r1
        have hst : up2 I' 204 25 s 206 (135 + k) = nI 1 := by rw [u_o (by omega)]; exact c1
        obtain ⟨I2, I2', s1, s2, s3, s4⟩ := sell_q h2 (f := k) (by omega) hst
        simp (disch := omega) only [show (nI 1 = (0 : Int32)) = False from eq_false (by decide), show (nI 1 = (1 : Int32)) = True from eq_true rfl, if_true, if_false, s1, s2, Option.bind_some]
        have f1 : I2 192 0 = up2 I 192 0 s 192 0 := fr_State_sellFind (by omega) (by omega) s1
        have f2 : I2' 204 25 = up2 I' 204 25 s 204 25 := fr_Mod_doSell (by decide) s2
        have f3 : I2' 206 102 = I' 206 102 := by
          obtain ⟨z, hz, ez⟩ := h2.v_who (f := k) (by omega) hst
          have e := s2
          unfold Mod_doSell at e
          simp (disch := omega) only [ax_145, ax_155, ax_80, ax_135, in9_t, if_true, tN, ez, Option.bind_some] at e
          rw [← Option.some.inj e, u_j (by omega), u_j (by omega), e102]
        obtain ⟨I1, I1', g1, g2, g3, g4, g5, g6⟩ := ih (k + 1) n n' I2 I2' s3 (by rw [f1, f2]; exact hs2) (by omega) (by omega) (by omega) (by rw [f3]; exact hv)
        exact ⟨I1, I1', g1, g2, g3, g4, by rw [g5, f3], fun j hj => by rw [g6 j hj, s4 j hj]; simp (disch := omega) only [u_j, u_o]⟩
      · have q0 : ¬ nI r = (0 : Int32) := by rw [L_0, eq_nI (by omega) (by omega)]; omega
        have q1 : ¬ nI r = (1 : Int32) := by rw [L_1, eq_nI (by omega) (by omega)]; omega
        simp only [q0, q1, if_false]
        obtain ⟨I1, I1', g1, g2, g3, g4, g5, g6⟩ := ih (k + 1) n n' _ _ h2 hs2 (by omega) (by omega) (by omega) hv2
        exact ⟨I1, I1', g1, g2, g3, g4, by rw [g5, e102], fun j hj => by rw [g6 j hj]; simp (disch := omega) only [u_j, u_o]⟩
    · simp only [c1, if_false]
      exact ih (k + 1) n n' I I' h hs (by omega) (by omega) (by omega) hv
theorem col_e (h : QR N b ln nP nF nE nW nH nR I I') {c : Nat} (hc : c < 2147483648) : Land_columnOf ln (nI c) I = some (nI (c % nW)) ∧ Land_rowOf ln (nI c) I = some (nI (c / nW)) := by
  have hb := h.bd
  unfold Land_columnOf Land_rowOf
  simp (disch := omega) only [h.cW, L_0, le_nI, eq_nI, ifF, ifT, div_nI, rem2, and_self]
theorem night_q (h : QR N b ln nP nF nE nW nH nR I I') (hs : I 192 0 = I' 204 25) (hP : 0 < nP) (hv : ∃ v, v < 400 ∧ I' 206 102 = nI v) : ∃ I1 I1', State_passNight N b ln 192 I = some I1 ∧ Mod_oneNight N I' = some I1' ∧ QR N b ln nP nF nE nW nH nR I1 I1' ∧ I1 192 0 = I1' 204 25 ∧ I1' 206 102 = I' 206 102 + 1 ∧ (∀ j, j < 102 ∨ 209 ≤ j → I1' 206 j = I' 206 j) := by
  have hb := h.bd
  have hd := h.dis
  have hN := h.nN
  obtain ⟨p, s, hp, d1, d2⟩ := draw_q (n := nP) (I := I) (I' := I') hP (by omega) hs
  have h2 := h.seed (s := s) (s' := s)
  have hs2 : up2 I 192 0 s 192 0 = up2 I' 204 25 s 204 25 := by rw [u_s, u_s]
  have hwh : nW * nH ≤ 36 := Nat.le_trans (Nat.mul_le_mul hb.2.2.2.2.1 hb.2.2.2.2.2.2.1) (by decide)
  obtain ⟨c, s2, hc, d3, d4⟩ := draw_q (n := nW * nH) (I := up2 I 192 0 s) (I' := up2 I' 204 25 s) (Nat.mul_pos (by omega) (by omega)) (by omega) hs2
  have h3 := h2.seed (s := s2) (s' := s2)
  have hs3 : up2 (up2 I 192 0 s) 192 0 s2 192 0 = up2 (up2 I' 204 25 s) 204 25 s2 204 25 := by rw [u_s, u_s]
  have hx : c % nW < nW := Nat.mod_lt _ (by omega)
  have hy : c / nW < nH := Nat.div_lt_of_lt_mul hc
  obtain ⟨q1, q2⟩ := col_e h3 (c := c) (by omega)
  obtain ⟨t, t1, t2, t3⟩ := canDig_q h3 hx hy
  have e102 : up2 (up2 I' 204 25 s) 204 25 s2 206 102 = I' 206 102 := by rw [u_o (by omega), u_o (by omega)]
  have hv3 : ∃ v, v < 400 ∧ up2 (up2 I' 204 25 s) 204 25 s2 206 102 = nI v := by rw [e102]; exact hv
  unfold State_passNight Mod_oneNight
  simp (disch := omega) only [T_0, T_3, T_4, h.cP, h.mP, d1, d2, Option.bind_some, h2.cW, h2.mW, h2.cH, h2.mH, nM, d3, d4, q1, q2, h3.mW]
  have nz : ¬ nI nW = (0 : Int32) := by rw [L_0, eq_nI (by omega) (by omega)]; omega
  simp (disch := omega) only [if_pos nz, div_nI, rem2, t2, Option.bind_some]
  cases t with
  | true =>
    obtain ⟨v, hv9, ev9⟩ := t3 rfl
    obtain ⟨n9, I2, I2', g1, g2, g3, g4, g5⟩ := dig_q h3 hp hx hy hv9 ev9
    simp only [g1, g2, Option.bind_some, if_true]
    have f1 : I2 192 0 = up2 (up2 I 192 0 s) 192 0 s2 192 0 := fr_State_digCell (by omega) (by omega) (by omega) (by omega) (by omega) g1
    have f2 : I2' 204 25 = up2 (up2 I' 204 25 s) 204 25 s2 204 25 := fr_Mod_doDig (by decide) g2
    obtain ⟨I1, I1', k1, k2, k3, k4, k5, k6⟩ := night_l (N := N) (p := nI p) (c := nI c) (x := nI (c % nW)) (y := nI (c / nW)) nF 0 N N _ _ g3 (by rw [f1, f2]; exact hs3) (by omega) (by omega) (by omega) (by rw [g4]; exact hv3)
    exact ⟨I1, I1', k1, k2, k3, k4, by rw [k5, g4, e102], fun j hj => by rw [k6 j hj, g5 j hj]; simp (disch := omega) only [u_j, u_o]⟩
  | false =>
    simp only [digNo_q h3 t1, Option.bind_some, Bool.false_eq_true, if_false]
    obtain ⟨I1, I1', g1, g2, g3, g4, g5, g6⟩ := night_l (N := N) (p := nI p) (c := nI c) (x := nI (c % nW)) (y := nI (c / nW)) nF 0 N N _ _ h3 hs3 (by omega) (by omega) (by omega) hv3
    exact ⟨I1, I1', g1, g2, g3, g4, by rw [g5, e102], fun j hj => by rw [g6 j hj]; simp (disch := omega) only [u_j, u_o]⟩
theorem nights_l (hP : 0 < nP) {l2 l3 : Int32} {w : Nat} (hw : w ≤ 400) : ∀ m k n n' (I I' : FI), QR N b ln nP nF nE nW nH nR I I' → I 192 0 = I' 204 25 → k + m = w → m < n → m < n' → (∃ v, v + m ≤ 400 ∧ I' 206 102 = nI v) → ∃ I1 I1', State_passNights_17 N b ln 192 n l2 (nI w) (nI k) I = some (nI w, I1) ∧ Mod_passNights_24 N n' l2 l3 (nI w) (nI k) I' = some (nI w, I1') ∧ QR N b ln nP nF nE nW nH nR I1 I1' ∧ I1 192 0 = I1' 204 25 ∧ (∀ j, j < 102 ∨ 209 ≤ j → I1' 206 j = I' 206 j) := by
  intro m
  induction m with
  | zero =>
    intro k n n' I I' h hs hk hn hn' hv
    obtain ⟨n, rfl⟩ : ∃ e, n = e + 1 := ⟨n - 1, by omega⟩
    obtain ⟨n', rfl⟩ : ∃ e, n' = e + 1 := ⟨n' - 1, by omega⟩
    obtain rfl : k = w := by omega
    refine ⟨I, I', ?_, ?_, h, hs, fun _ _ => rfl⟩
    · simp (disch := omega) only [State_passNights_17, le_nI, ifT]
    · simp (disch := omega) only [Mod_passNights_24, le_nI, ifT]
  | succ m ih =>
    intro k n n' I I' h hs hk hn hn' hv
    obtain ⟨n, rfl⟩ : ∃ e, n = e + 1 := ⟨n - 1, by omega⟩
    obtain ⟨n', rfl⟩ : ∃ e, n' = e + 1 := ⟨n' - 1, by omega⟩
    obtain ⟨v, hv, ev⟩ := hv
    obtain ⟨I2, I2', g1, g2, g3, g4, g5, g6⟩ := night_q h hs hP ⟨v, by omega, ev⟩
    simp (disch := omega) only [State_passNights_17, Mod_passNights_24, le_nI, ifF, g1, g2, Option.bind_some, nS]
    obtain ⟨I1, I1', k1, k2, k3, k4, k5⟩ := ih (k + 1) n n' I2 I2' g3 g4 (by omega) (by omega) (by omega) ⟨v + 1, by omega, by rw [g5, ev, nS]⟩
    exact ⟨I1, I1', k1, k2, k3, k4, fun j hj => by rw [k5 j hj, g6 j hj]⟩
theorem nights_q (h : QR N b ln nP nF nE nW nH nR I I') (hP : 0 < nP) {n : Nat} (hn : n ≤ 400) {s : Int32} : ∃ w I1 I1', State_passNights N b ln 192 (nI n) (up2 I 192 0 s) = some (nI w, I1) ∧ Mod_passNights N (nI n) s I' = some (nI w, I1') ∧ QR N b ln nP nF nE nW nH nR I1 I1' ∧ I1 192 0 = I1' 204 25 ∧ (∀ j, j < 102 ∨ 209 ≤ j → I1' 206 j = I' 206 j) := by
  have hb := h.bd
  have hd := h.dis
  have hN := h.nN
  obtain ⟨v, hv, ev⟩ := h.v_night
  have h2 := h.seed (s := s) (s' := s)
  have hs2 : up2 I 192 0 s 192 0 = up2 I' 204 25 s 204 25 := by rw [u_s, u_s]
  have e0 : up2 I' 204 25 s 206 102 = nI v := by rw [u_o (by omega)]; exact ev
  have e1 : up2 I 192 0 s b 9 = nI v := by rw [u_o (by omega), h.night]; exact ev
  have e2 : (400 : Int32) - nI v = nI (400 - v) := by rw [L_400, nSb hv]
  rcases Nat.lt_or_ge (400 - v) n with g | g
  · obtain ⟨I1, I1', k1, k2, k3, k4, k5⟩ := nights_l (N := N) (l2 := nI n) (l3 := s) hP (w := 400 - v) (by omega) (400 - v) 0 N N _ _ h2 hs2 (by omega) (by omega) (by omega) ⟨v, by omega, e0⟩
    refine ⟨400 - v, I1, I1', ?_, ?_, k3, k4, fun j hj => by rw [k5 j hj]; simp (disch := omega) only [u_o]⟩
    · unfold State_passNights
      simp (disch := omega) only [e1, e2, lt_nI, ifT]
      exact k1
    · unfold Mod_passNights Mod_least
      simp (disch := omega) only [Option.bind_some, T_102, e0, e2, le_nI, ifT]
      exact k2
  · obtain ⟨I1, I1', k1, k2, k3, k4, k5⟩ := nights_l (N := N) (l2 := nI n) (l3 := s) hP (w := n) hn n 0 N N _ _ h2 hs2 (by omega) (by omega) (by omega) ⟨v, by omega, e0⟩
    refine ⟨n, I1, I1', ?_, ?_, k3, k4, fun j hj => by rw [k5 j hj]; simp (disch := omega) only [u_o]⟩
    · unfold State_passNights
      simp (disch := omega) only [e1, e2, lt_nI, ifF]
      exact k1
    · unfold Mod_passNights Mod_least
      simp (disch := omega) only [Option.bind_some, T_102, e0, e2, le_nI]
      by_cases q : 400 - v ≤ n
      · obtain rfl : n = 400 - v := by omega
        rw [if_pos (Nat.le_refl _)]; exact k2
      · rw [if_neg q]; exact k2
end Q28

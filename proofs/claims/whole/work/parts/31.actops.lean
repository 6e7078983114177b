/-! calls that act -/
section Q31
variable {N ln sp sn ss nP nF nE nW nH nR : Nat} {I I' : FI}
theorem HistR.thr (h : HistR nP nF nW nH I I') (hF : nF ≤ 10) {v : Int32} : HistR nP nF nW nH I (up2 I' 204 0 v) :=
  h.of hF (fun _ _ _ _ => rfl) (u_j (by decide)) (fun j => by rw [u_o (by decide)])
def ActR (N ln nP nF nE nW nH nR : Nat) (I I' I1 I1' : FI) : Prop := QR N 25 ln nP nF nE nW nH nR I1 I1' ∧ HistR nP nF nW nH I1 I1'
theorem op_tell (h : QR N 25 ln nP nF nE nW nH nR I I') (hH : HistR nP nF nW nH I I') (l1 : Int32) : ∃ v I1 I1', Hol_tell ln sp sn ss l1 I = some (v, I1) ∧ Mod_tell N l1 I' = some (v, I1') ∧ QR N 25 ln nP nF nE nW nH nR I1 I1' ∧ HistR nP nF nW nH I1 I1' ∧ (∀ j, j < 102 ∨ 209 ≤ j → I1' 206 j = I' 206 j) := by
  have hb := h.bd
  have h1 := h.thr (v := 0)
  have hH1 := hH.thr hb.2.1 (v := 0)
  unfold Hol_tell Mod_tell
  rcases is_find h1 l1 with ⟨a, b, j, hj, rfl⟩ | ⟨a, b⟩
  · have mv := moved_e h1 hj
    have hd := isHad_e h1 (f := j) (by omega)
    simp only [↓reduceIte, a, b, Option.bind_some, mv, hd, decide_eq_true_eq]
    by_cases c : up2 I' 204 0 0 206 (135 + j) = 1
    · obtain ⟨I1, I1', k1, k2, k3, k4, -, k6, -⟩ := keep_q h1 hH1
      simp (disch := omega) only [↓reduceIte, c, k1, k2, Option.bind_some, in9_t, tN, ax_135]
      refine ⟨_, _, _, rfl, rfl, k3.set_stat hj ⟨2, by decide, rfl⟩ (fun q => absurd q (by decide)), k4.of hb.2.1 (fun q i g1 g2 => by rw [u_o (by omega)]) (by rw [u_o (by omega)]) (fun i => by rw [u_o (by omega)]), fun j hj => by simp (disch := omega) only [u_o, u_j, k6]⟩
    · have n1 : ¬ (1 : Int32) = 0 := by decide
      simp only [↓reduceIte, c, n1]
      exact ⟨_, _, _, rfl, rfl, h1, hH1, fun j hj => by simp (disch := omega) only [u_o]⟩
  · simp only [↓reduceIte, a, b, Option.bind_some, Bool.false_eq_true]
    exact ⟨_, _, _, rfl, rfl, h1, hH1, fun j hj => by simp (disch := omega) only [u_o]⟩
theorem op_sell (h : QR N 25 ln nP nF nE nW nH nR I I') (hH : HistR nP nF nW nH I I') (l1 : Int32) : ∃ v I1 I1', Hol_sell ln sp sn ss l1 I = some (v, I1) ∧ Mod_sell N l1 I' = some (v, I1') ∧ QR N 25 ln nP nF nE nW nH nR I1 I1' ∧ HistR nP nF nW nH I1 I1' ∧ (∀ j, j < 102 ∨ 209 ≤ j → I1' 206 j = I' 206 j) := by
  have hb := h.bd
  have h1 := h.thr (v := 0)
  have hH1 := hH.thr hb.2.1 (v := 0)
  unfold Hol_sell Mod_sell
  rcases is_find h1 l1 with ⟨a, b, j, hj, rfl⟩ | ⟨a, b⟩
  · have mv := moved_e h1 hj
    have hd := isHad_e h1 (f := j) (by omega)
    simp only [↓reduceIte, a, b, Option.bind_some, mv, hd, decide_eq_true_eq]
    by_cases c : up2 I' 204 0 0 206 (135 + j) = 1
    · obtain ⟨I1, I1', k1, k2, k3, k4, -, k6, -⟩ := keep_q h1 hH1
      obtain ⟨I2, I2', s1, s2, s3, s4⟩ := sell_q k3 hj (by rw [k6]; exact c)
      simp only [↓reduceIte, c, k1, k2, s1, s2, Option.bind_some]
      exact ⟨_, _, _, rfl, rfl, s3, k4.of hb.2.1 (fun q i g1 g2 => fr_State_sellFind (by omega) (by omega) s1) (fr_Mod_doSell (by decide) s2) (fun i => fr_Mod_doSell (by decide) s2), fun j hj => by rw [s4 j hj]; simp (disch := omega) only [u_o, u_j, k6]⟩
    · have n1 : ¬ (1 : Int32) = 0 := by decide
      simp only [↓reduceIte, c, n1]
      exact ⟨_, _, _, rfl, rfl, h1, hH1, fun j hj => by simp (disch := omega) only [u_o]⟩
  · simp only [↓reduceIte, a, b, Option.bind_some, Bool.false_eq_true]
    exact ⟨_, _, _, rfl, rfl, h1, hH1, fun j hj => by simp (disch := omega) only [u_o]⟩
theorem op_lay (h : QR N 25 ln nP nF nE nW nH nR I I') (hH : HistR nP nF nW nH I I') (l1 l2 l3 : Int32) : ∃ v I1 I1', Hol_lay ln sp sn ss l1 l2 l3 I = some (v, I1) ∧ Mod_lay N l1 l2 l3 I' = some (v, I1') ∧ QR N 25 ln nP nF nE nW nH nR I1 I1' ∧ HistR nP nF nW nH I1 I1' ∧ (∀ j, j < 102 ∨ 209 ≤ j → I1' 206 j = I' 206 j) := by
  have hb := h.bd
  have h1 := h.thr (v := 0)
  have hH1 := hH.thr hb.2.1 (v := 0)
  unfold Hol_lay Mod_lay
  rcases is_find h1 l1 with ⟨a, b, j, hj, rfl⟩ | ⟨a, b⟩
  · rcases is_cell h1 l2 l3 with ⟨a2, b2, x, y, hx, hy, rfl, rfl⟩ | ⟨a2, b2⟩
    · have mv := moved_e h1 hj
      have hd := isHad_e h1 (f := j) (by omega)
      simp only [↓reduceIte, a, b, a2, b2, Option.bind_some, mv, hd, decide_eq_true_eq]
      by_cases c : up2 I' 204 0 0 206 (135 + j) = 1
      · obtain ⟨I1, I1', k1, k2, k3, k4, -, k6, -⟩ := keep_q h1 hH1
        obtain ⟨I2, I2', s1, s2, s3, s4⟩ := lay_q k3 hj hx hy
        simp only [↓reduceIte, c, k1, k2, s1, s2, Option.bind_some]
        exact ⟨_, _, _, rfl, rfl, s3, k4.of hb.2.1 (fun q i g1 g2 => fr_State_layFind (by omega) (by omega) (by omega) (by omega) s1) (fr_Mod_doLay (by decide) s2) (fun i => fr_Mod_doLay (by decide) s2), fun j hj => by rw [s4 j hj]; simp (disch := omega) only [u_o, u_j, k6]⟩
      · have n1 : ¬ (1 : Int32) = 0 := by decide
        simp only [↓reduceIte, c, n1]
        exact ⟨_, _, _, rfl, rfl, h1, hH1, fun j hj => by simp (disch := omega) only [u_o]⟩
    · simp only [↓reduceIte, a, b, a2, b2, Option.bind_some, Bool.false_eq_true]
      exact ⟨_, _, _, rfl, rfl, h1, hH1, fun j hj => by simp (disch := omega) only [u_o]⟩
  · simp only [↓reduceIte, a, b, Option.bind_some, Bool.false_eq_true]
    exact ⟨_, _, _, rfl, rfl, h1, hH1, fun j hj => by simp (disch := omega) only [u_o]⟩
theorem op_give (h : QR N 25 ln nP nF nE nW nH nR I I') (hH : HistR nP nF nW nH I I') (l1 l2 : Int32) : ∃ v I1 I1', Hol_give ln sp sn ss l1 l2 I = some (v, I1) ∧ Mod_give N l1 l2 I' = some (v, I1') ∧ QR N 25 ln nP nF nE nW nH nR I1 I1' ∧ HistR nP nF nW nH I1 I1' ∧ (∀ j, j < 102 ∨ 209 ≤ j → I1' 206 j = I' 206 j) := by
  have hb := h.bd
  have h1 := h.thr (v := 0)
  have hH1 := hH.thr hb.2.1 (v := 0)
  unfold Hol_give Mod_give
  rcases is_find h1 l1 with ⟨a, b, j, hj, rfl⟩ | ⟨a, b⟩
  · rcases is_person h1 l2 with ⟨a2, b2, p, hp, rfl⟩ | ⟨a2, b2⟩
    · have hd := isHad_e h1 (f := j) (by omega)
      have st := h1.stat (f := j) hj
      have wh := h1.who (f := j) hj
      have G10 : in9 (nI j) 10 = True := in9_t (by omega) (by omega)
      have tj : (nI j).toNatClampNeg = j := tN (by omega)
      have G145 : in9 (145 + nI j) 451 = True := by rw [ax_145]; exact in9_t (by omega) (by omega)
      have M145 : ((145 : Int32) + nI j).toNatClampNeg = 145 + j := by rw [ax_145]; exact tN (by omega)
      simp only [↓reduceIte, a, b, a2, b2, Option.bind_some, State_whyNotGiven, G10, tj, st, wh, hd, decide_eq_true_eq, G145, M145]
      by_cases c : up2 I' 204 0 0 206 (135 + j) = 1
      · by_cases c2 : up2 I' 204 0 0 206 (145 + j) = nI p
        · have n1 : ¬ (2 : Int32) = 0 := by decide
          simp only [↓reduceIte, c, c2, Option.bind_some, n1]
          exact ⟨_, _, _, rfl, rfl, h1, hH1, fun j hj => by simp (disch := omega) only [u_o]⟩
        · obtain ⟨I1, I1', k1, k2, k3, k4, -, k6, -⟩ := keep_q h1 hH1
          simp only [↓reduceIte, c, c2, k1, k2, Option.bind_some]
          refine ⟨_, _, _, rfl, rfl, k3.set_who hj ⟨p, hp, rfl⟩, k4.of hb.2.1 (fun q i g1 g2 => by rw [u_o (by omega)]) (by rw [u_o (by omega)]) (fun i => by rw [u_o (by omega)]), fun j hj => by simp (disch := omega) only [u_o, u_j, k6]⟩
      · have n1 : ¬ (1 : Int32) = 0 := by decide
        simp only [↓reduceIte, c, Option.bind_some, n1]
        exact ⟨_, _, _, rfl, rfl, h1, hH1, fun j hj => by simp (disch := omega) only [u_o]⟩
    · simp only [↓reduceIte, a, b, a2, b2, Option.bind_some, Bool.false_eq_true]
      exact ⟨_, _, _, rfl, rfl, h1, hH1, fun j hj => by simp (disch := omega) only [u_o]⟩
  · simp only [↓reduceIte, a, b, Option.bind_some, Bool.false_eq_true]
    exact ⟨_, _, _, rfl, rfl, h1, hH1, fun j hj => by simp (disch := omega) only [u_o]⟩
theorem op_dig (h : QR N 25 ln nP nF nE nW nH nR I I') (hH : HistR nP nF nW nH I I') (l1 l2 l3 : Int32) : ∃ v I1 I1', Hol_dig N ln sp sn ss l1 l2 l3 I = some (v, I1) ∧ Mod_dig N l1 l2 l3 I' = some (v, I1') ∧ QR N 25 ln nP nF nE nW nH nR I1 I1' ∧ HistR nP nF nW nH I1 I1' ∧ (∀ j, j < 102 ∨ 209 ≤ j → I1' 206 j = I' 206 j) := by
  have hb := h.bd
  have h1 := h.thr (v := 0)
  have hH1 := hH.thr hb.2.1 (v := 0)
  unfold Hol_dig Mod_dig
  rcases is_person h1 l1 with ⟨a, b, p, hp, rfl⟩ | ⟨a, b⟩
  · rcases is_cell h1 l2 l3 with ⟨a2, b2, x, y, hx, hy, rfl, rfl⟩ | ⟨a2, b2⟩
    · obtain ⟨t, t1, t2, t3⟩ := canDig_q h1 hx hy
      simp only [↓reduceIte, a, b, a2, b2, Option.bind_some, t1, t2]
      cases t with
      | true =>
        obtain ⟨v, hv, ev⟩ := t3 rfl
        obtain ⟨I1, I1', k1, k2, k3, k4, -, k6, -⟩ := keep_q h1 hH1
        obtain ⟨w, I2, I2', s1, s2, s3, -, s4⟩ := dig_q k3 hp hx hy hv (by rw [k6]; exact ev)
        simp only [↓reduceIte, k1, k2, s1, s2, Option.bind_some]
        exact ⟨_, _, _, rfl, rfl, s3, k4.of hb.2.1 (fun q i g1 g2 => fr_State_digCell (by omega) (by omega) (by omega) (by omega) (by omega) s1) (fr_Mod_doDig (by decide) s2) (fun i => fr_Mod_doDig (by decide) s2), fun j hj => by rw [s4 j hj]; simp (disch := omega) only [u_o, u_j, k6]⟩
      | false =>
        simp only [↓reduceIte, Bool.false_eq_true]
        exact ⟨_, _, _, rfl, rfl, h1, hH1, fun j hj => by simp (disch := omega) only [u_o]⟩
    · simp only [↓reduceIte, a, b, a2, b2, Option.bind_some, Bool.false_eq_true]
      exact ⟨_, _, _, rfl, rfl, h1, hH1, fun j hj => by simp (disch := omega) only [u_o]⟩
  · simp only [↓reduceIte, a, b, Option.bind_some, Bool.false_eq_true]
    exact ⟨_, _, _, rfl, rfl, h1, hH1, fun j hj => by simp (disch := omega) only [u_o]⟩
theorem op_plough (h : QR N 25 ln nP nF nE nW nH nR I I') (hH : HistR nP nF nW nH I I') (l1 : Int32) : ∃ v I1 I1', Hol_plough N ln sp sn ss l1 I = some (v, I1) ∧ Mod_plough N l1 I' = some (v, I1') ∧ QR N 25 ln nP nF nE nW nH nR I1 I1' ∧ HistR nP nF nW nH I1 I1' ∧ (∀ j, j < 102 ∨ 209 ≤ j → I1' 206 j = I' 206 j) := by
  have hb := h.bd
  have h1 := h.thr (v := 0)
  have hH1 := hH.thr hb.2.1 (v := 0)
  unfold Hol_plough Mod_plough
  obtain ⟨I1, I1', k1, k2, k3, k4, -, k6, -⟩ := keep_q h1 hH1
  obtain ⟨w, I2, I2', s1, s2, s3, -, s4⟩ := turn_q (k3.seed (s := l1) (s' := l1)) (by rw [u_s, u_s])
  simp only [k1, k2, s1, s2, Option.bind_some]
  refine ⟨_, _, _, rfl, rfl, s3, k4.of hb.2.1 (fun q i g1 g2 => ?_) ?_ (fun i => ?_), fun j hj => by rw [s4 j hj]; simp (disch := omega) only [u_o, u_j, k6]⟩
  · have e : I2 q i = up2 I1 192 0 l1 q i := fr_State_turnOver (by omega) (by omega) (by omega) (by omega) (by omega) (by omega) s1
    rw [e, u_o (by omega)]
  · have e : I2' 204 24 = up2 I1' 204 25 l1 204 24 := fr_Mod_doPlough (by decide) (by decide) s2
    rw [e, u_j (by omega)]
  · have e : I2' 209 i = up2 I1' 204 25 l1 209 i := fr_Mod_doPlough (by omega) (by omega) s2
    rw [e, u_o (by omega)]
theorem isIn_130 (x : Int32) : (Mod_isIn x 1 30 = true ∧ (x < 1) = False ∧ ((30 : Int32) < x) = False ∧ (x ≤ 30) = True ∧ ∃ n, 1 ≤ n ∧ n ≤ 30 ∧ x = nI n) ∨ (Mod_isIn x 1 30 = false ∧ ((x < 1) = True ∨ ((x < 1) = False ∧ ((30 : Int32) < x) = True ∧ (x ≤ 30) = False))) := by
  unfold Mod_isIn
  by_cases a : x < 1
  · right; rw [if_pos a]; exact ⟨rfl, Or.inl (eq_true a)⟩
  · by_cases b : (30 : Int32) < x
    · right; rw [if_neg a, if_pos b]; exact ⟨rfl, Or.inr ⟨eq_false a, eq_true b, eq_false (Int32.not_le.mpr b)⟩⟩
    · left
      rw [if_neg a, if_neg b]
      refine ⟨rfl, eq_false a, eq_false b, eq_true (Int32.not_lt.mp b), ?_⟩
      have n0 : ¬ x < 0 := fun q => a (Int32.lt_iff_toInt_lt.mpr (by have := Int32.lt_iff_toInt_lt.mp q; have e0 : (0 : Int32).toInt = 0 := rfl; have e1 : (1 : Int32).toInt = 1 := rfl; omega))
      obtain ⟨n, hn, rfl⟩ := nNN n0
      rw [L_1, lt_nI hn (by omega)] at a
      rw [L_30, lt_nI (by omega) hn] at b
      exact ⟨n, by omega, by omega, rfl⟩
theorem op_nights (h : QR N 25 ln nP nF nE nW nH nR I I') (hH : HistR nP nF nW nH I I') (l1 l2 : Int32) : ∃ v I1 I1', Hol_nights N ln sp sn ss l1 l2 I = some (v, I1) ∧ Mod_nights N l1 l2 I' = some (v, I1') ∧ QR N 25 ln nP nF nE nW nH nR I1 I1' ∧ HistR nP nF nW nH I1 I1' ∧ (∀ j, j < 102 ∨ 209 ≤ j → I1' 206 j = I' 206 j) := by
  have hb := h.bd
  have h1 := h.thr (v := 0)
  have hH1 := hH.thr hb.2.1 (v := 0)
  unfold Hol_nights Mod_nights
  have cP := h1.cP
  have mP := h1.mP
  rcases isIn_130 l1 with ⟨a, b, c, -, n, hn1, hn2, rfl⟩ | ⟨a, b⟩
  · simp only [↓reduceIte, a, b, c, Option.bind_some, T_0, T_102, cP, mP]
    by_cases e : nP = 0
    · subst e
      have z : nI 0 = (0 : Int32) := rfl
      simp only [↓reduceIte, z]
      exact ⟨_, _, _, rfl, rfl, h1, hH1, fun j hj => by simp (disch := omega) only [u_o]⟩
    · have z : (nI nP = (0 : Int32)) = False := eq_false (by rw [L_0, eq_nI (by omega) (by omega)]; exact e)
      obtain ⟨v, hv, ev⟩ := h1.v_night
      have ng := h1.night
      rw [ev] at ng
      have z2 : (nI v < (400 : Int32)) = (v < 400) := by rw [L_400, lt_nI (by omega) (by omega)]
      have z3 : (nI v = (400 : Int32)) = (v = 400) := by rw [L_400, eq_nI (by omega) (by omega)]
      simp only [↓reduceIte, z, ng, ev, z2, z3]
      by_cases e4 : v < 400
      · have e5 : ¬ v = 400 := by omega
        obtain ⟨I1, I1', k1, k2, k3, k4, -, k6, -⟩ := keep_q h1 hH1
        obtain ⟨w, I2, I2', s1, s2, s3, -, s4⟩ := nights_q k3 (Nat.pos_of_ne_zero e) (n := n) (by omega) (s := l2)
        simp only [↓reduceIte, e4, e5, k1, k2, s1, s2, Option.bind_some]
        refine ⟨_, _, _, rfl, rfl, s3, k4.of hb.2.1 (fun q i g1 g2 => ?_) ?_ (fun i => ?_), fun j hj => by rw [s4 j hj]; simp (disch := omega) only [u_o, u_j, k6]⟩
        · have e : I2 q i = up2 I1 192 0 l2 q i := fr_State_passNights (by omega) (by omega) (by omega) (by omega) (by omega) (by omega) (by omega) (by omega) s1
          rw [e, u_o (by omega)]
        · exact fr_Mod_passNights (by decide) (by decide) s2
        · exact fr_Mod_passNights (by omega) (by omega) s2
      · have e5 : v = 400 := by omega
        simp only [↓reduceIte, e4, e5]
        exact ⟨_, _, _, rfl, rfl, h1, hH1, fun j hj => by simp (disch := omega) only [u_o]⟩
  · simp only [↓reduceIte, a, Option.bind_some, Bool.false_eq_true]
    rcases b with b | ⟨b, c, -⟩
    · simp only [↓reduceIte, b]
      exact ⟨_, _, _, rfl, rfl, h1, hH1, fun j hj => by simp (disch := omega) only [u_o]⟩
    · simp only [↓reduceIte, b, c]
      exact ⟨_, _, _, rfl, rfl, h1, hH1, fun j hj => by simp (disch := omega) only [u_o]⟩
theorem op_undo (h : QR N 25 ln nP nF nE nW nH nR I I') (hH : HistR nP nF nW nH I I') : ∃ v I1 I1', Hol_undo ln sp sn ss I = some (v, I1) ∧ Mod_undo N I' = some (v, I1') ∧ QR N 25 ln nP nF nE nW nH nR I1 I1' ∧ HistR nP nF nW nH I1 I1' ∧ (∀ j, j < 102 ∨ 209 ≤ j → I1' 206 j = I' 206 j) := by
  have hb := h.bd
  have hN := h.nN
  have h1 := h.thr (v := 0)
  have hH1 := hH.thr hb.2.1 (v := 0)
  obtain ⟨fi, sz, a1, a2, a3, a4, a5, a6⟩ := hH1
  unfold Hol_undo Mod_undo History_takeBack
  by_cases e : sz = 0
  · subst e
    have z : nI 0 = (0 : Int32) := rfl
    simp only [↓reduceIte, a3, a5, z, Option.bind_some, Bool.false_eq_true]
    exact ⟨_, _, _, rfl, rfl, h1, ⟨fi, 0, a1, a2, a3, a4, a5, a6⟩, fun j hj => by simp (disch := omega) only [u_o]⟩
  · obtain ⟨z, rfl⟩ : ∃ z, sz = z + 1 := ⟨sz - 1, by omega⟩
    have n0 : (nI (z + 1) = (0 : Int32)) = False := eq_false (by rw [L_0, eq_nI (by omega) (by omega)]; omega)
    have hsl : (fi + z) % 8 < 8 := Nat.mod_lt _ (by decide)
    obtain ⟨I4, c1, c2, c3⟩ := copy_e (a := 25) (b := 62 + 10 * ((fi + z) % 8)) (by omega) (up2 I 60 2 (nI z))
    have k2 : I4 60 2 = nI z := by rw [c3 _ _ (by omega), u_s]
    have k1 : I4 60 1 = nI fi := by rw [c3 _ _ (by omega), u_j (by omega)]; exact a1
    have me : Mod_undo_26 N N 0 (up2 (up2 I' 204 0 0) 204 24 (nI z)) = _ := undo_e (c := z) hN u_s (by omega)
    have e62 : 60 + 2 + 10 * ((fi + z) % 8) = 62 + 10 * ((fi + z) % 8) := by omega
    simp (disch := omega) only [↓reduceIte, a1, a3, a5, n0, Option.bind_some, nI_pred, u_s, u_j, nA, mod8, in9_t, tN, e62, c1, me, k2]
    obtain ⟨g1, g2⟩ := a6 z (by omega)
    have s2 : ∀ j, 102 ≤ j → j < 209 → cp2 (up2 (up2 I' 204 0 0) 204 24 (nI z)) 209 (107 * z) 206 102 107 206 j = (fun k => up2 I' 204 0 0 209 (107 * z + (k - 102))) j := fun j h1 h2 => by
      show _ = up2 I' 204 0 0 209 _
      rw [cp2_i (by omega) (by omega), u_o (by omega)]
    have s3 : ∀ j, j < 102 → cp2 (up2 (up2 I' 204 0 0) 204 24 (nI z)) 209 (107 * z) 206 102 107 206 j = up2 I' 204 0 0 206 j := fun j hj => by
      rw [cp2_j (by omega), u_o (by omega)]
    refine ⟨_, _, _, rfl, rfl, ⟨hN, h1.lw.of s3, h1.ld.of (fun q j _ g => ?_) s3 hb.2.1 hb.2.2.1, ?_, g2.of hb.2.1 s2, h1.dis⟩, ⟨fi, z, k1, a2, k2, by omega, ?_, fun i hi => ?_⟩, fun j hj => by rw [cp2_j (by omega)]; simp (disch := omega) only [u_o]⟩
    · have := h1.dis
      rw [c3 _ _ (by omega), u_o (by omega)]
    · exact (c2 nF _ hb.2.1 (g1.of (fun q j _ _ => by rw [u_o (by omega)]) (fun _ _ _ => rfl) hb.2.1)).of (fun _ _ _ _ => rfl) s2 hb.2.1
    · rw [cp2_o (by omega), u_s]
    · obtain ⟨f1, f2⟩ := a6 i (by omega)
      have s4 : ∀ j, 102 ≤ j → j < 209 → (fun k => cp2 (up2 (up2 I' 204 0 0) 204 24 (nI z)) 209 (107 * z) 206 102 107 209 (107 * i + (k - 102))) j = (fun k => up2 I' 204 0 0 209 (107 * i + (k - 102))) j := fun j _ _ => by
        show cp2 _ _ _ _ _ _ 209 _ = up2 I' 204 0 0 209 _
        rw [cp2_o (by omega), u_o (by omega)]
      exact ⟨f1.of (fun q j _ _ => by rw [c3 _ _ (by omega), u_o (by omega)]) s4 hb.2.1, f2.of hb.2.1 s4⟩
end Q31

/-! what is asked of labels: the whole -/
section Q50
variable {N b ln sp sn ss nP nF nE nW nH nR : Nat} {I I' : FI} {J J' : FJ}
theorem codes_lt {L : List Nat} (h : ∀ d, d ∈ L → 1 ≤ d ∧ d ≤ 26) : ∀ v, v ∈ L.map (fun d => 96 + d) → v < 128 := by
  intro v hv
  obtain ⟨d, hd, rfl⟩ := List.mem_map.mp hv
  have := h d hd
  omega
theorem num_lt {y : Nat} (hy : y ≤ 999) : ∀ v, v ∈ numL y → v < 128 := by
  intro v hv
  unfold numL at hv
  split at hv
  · simp at hv; omega
  · split at hv
    · simp at hv; omega
    · simp at hv; omega
theorem num_len (y : Nat) : (numL y).length ≤ 3 := by
  unfold numL
  split
  · simp
  · split <;> simp
theorem op_label (h : QR N 25 ln nP nF nE nW nH nR I I') (hn : NameR ln nP nF nE J J') (hl : ∃ n, LabR I I' n) (l1 : Int32) : ∃ v I1 I1', Hol_label N ln sp sn ss l1 I J = some (v, I1) ∧ Mod_label N l1 I' J' = some (v, I1') ∧ (∃ n, LabR I1 I1' n) ∧ (∀ q j, q ≠ 201 → ¬ (q = 200 ∧ j = 1) → I1 q j = I q j) ∧ (∀ q j, q ≠ 221 → ¬ (q = 204 ∧ j = 36) → I1' q j = up2 I' 204 0 0 q j) := by
  have hb := h.bd
  have hN := h.nN
  have h1 := h.thr (v := 0)
  unfold Hol_label Mod_label
  rcases is_find h1 l1 with ⟨a, b, j, hj, rfl⟩ | ⟨a, b⟩
  · obtain ⟨L, hL⟩ := hn.2.1 j hj
    obtain ⟨d1, d2, d3, -, -⟩ := hL
    have hL := (hn.2.1 j hj)
    obtain ⟨L, hL⟩ := hL
    have d1 := hL.1
    have d2 := hL.2.1
    have d3 := hL.2.2.1
    have L0 : LabR (up2 I 200 1 0) (up2 (up2 I' 204 0 0) 204 36 0) 0 := ⟨by omega, u_s, u_s, fun i hi => by omega⟩
    obtain ⟨I1, I1', a1, a2, a3, a4, a5⟩ := w_list (L.map (fun d => 96 + d)) 0 _ _ L0 (by rw [List.length_map]; omega) (codes_lt d1)
    rw [List.length_map, Nat.zero_add] at a3
    obtain ⟨I2, I2', b1, b2, b3, b4, b5⟩ := w_one (v := 32) a3 (by omega) (by omega)
    have q2 : QR N 25 ln nP nF nE nW nH nR I2 I2' := h1.of (fun q i hq => by rw [b4 q i (by omega) (by omega), a4 q i (by omega) (by omega), u_o (by omega)]) (fun i _ => by rw [b5 206 i (by omega) (by omega), a5 206 i (by omega) (by omega), u_o (by omega)])
    obtain ⟨hy, ey⟩ := year_w q2 hj
    have yb := year_b q2 hj
    generalize yF (I2' 206) j = y at hy ey yb
    have nl := num_len y
    obtain ⟨I3, I3', c1, c2, c3, c4, c5⟩ := w_list (numL y) _ _ _ b3 (by omega) (num_lt hy)
    have q3 : QR N 25 ln nP nF nE nW nH nR I3 I3' := q2.of (fun q i hq => c4 q i (by omega) (by omega)) (fun i _ => c5 206 i (by omega) (by omega))
    obtain ⟨s, hs, es⟩ := q3.v_stat (f := j) (by omega)
    have st := (q3.stat_25 hj).trans es
    have G : in9 (nI j) 10 = True := in9_t (by omega) (by omega)
    have t : (nI j).toNatClampNeg = j := tN (by omega)
    have G6 : in9 (6 + nI j) 22 = True := by rw [ax_6]; exact in9_t (by omega) (by omega)
    have T6 : ((6 : Int32) + nI j).toNatClampNeg = 6 + j := by rw [ax_6]; exact tN (by omega)
    have G7 : in9 (70 + nI j) 451 = True := by rw [ax_70]; exact in9_t (by omega) (by omega)
    have T7 : ((70 : Int32) + nI j).toNatClampNeg = 70 + j := by rw [ax_70]; exact tN (by omega)
    have G8 : in9 (135 + nI j) 451 = True := by rw [ax_135]; exact in9_t (by omega) (by omega)
    have T8 : ((135 : Int32) + nI j).toNatClampNeg = 135 + j := by rw [ax_135]; exact tN (by omega)
    have G9 : in9 (145 + nI j) 451 = True := by rw [ax_145]; exact in9_t (by omega) (by omega)
    have T9 : ((145 : Int32) + nI j).toNatClampNeg = 145 + j := by rw [ax_145]; exact tN (by omega)
    have nb1 := (name_bq (N := N) hN hL (up2 I 200 1 0)).trans a1
    have nm1 := (name_mq (N := N) hL (up2 (up2 I' 204 0 0) 204 36 0)).1.trans a2
    have yb2 := (num_b (I := I2) hy).trans c1
    have ym2 := (num_m (N := N) (I := I2') hy).trans c2
    rw [show nI 32 = (32 : Int32) from rfl] at b1 b2
    have tx : ∀ (k : Nat) (T : List Nat), k < 5 → strs9.getD k [] = T.map nI → T.length ≤ 100 → Label_addText N 200 (oFF + k + 1) I3 = wB T I3 := fun k T hk hT hl => text_b hN hk hT hl I3
    have x0 : (nI 0 = (0 : Int32)) = True := eq_true (by decide)
    have x10 : (nI 1 = (0 : Int32)) = False := eq_false (by decide)
    have x11 : (nI 1 = (1 : Int32)) = True := eq_true (by decide)
    have x20 : (nI 2 = (0 : Int32)) = False := eq_false (by decide)
    have x21 : (nI 2 = (1 : Int32)) = False := eq_false (by decide)
    have x22 : (nI 2 = (2 : Int32)) = True := eq_true (by decide)
    have x30 : (nI 3 = (0 : Int32)) = False := eq_false (by decide)
    have x31 : (nI 3 = (1 : Int32)) = False := eq_false (by decide)
    have x32 : (nI 3 = (2 : Int32)) = False := eq_false (by decide)
    have frB : ∀ (I9 : FI), (∀ q j, q ≠ 201 → ¬ (q = 200 ∧ j = 1) → I9 q j = I3 q j) → ∀ q j, q ≠ 201 → ¬ (q = 200 ∧ j = 1) → I9 q j = I q j := by
      intro I9 hI q i h1 h2
      rw [hI q i h1 h2, c4 q i h1 h2, b4 q i h1 h2, a4 q i h1 h2]
      by_cases z : q = 200
      · rw [z, u_j (by omega)]
      · rw [u_o z]
    have frM : ∀ (I9 : FI), (∀ q j, q ≠ 221 → ¬ (q = 204 ∧ j = 36) → I9 q j = I3' q j) → ∀ q j, q ≠ 221 → ¬ (q = 204 ∧ j = 36) → I9 q j = up2 I' 204 0 0 q j := by
      intro I9 hI q i h1 h2
      rw [hI q i h1 h2, c5 q i h1 h2, b5 q i h1 h2, a5 q i h1 h2]
      by_cases z : q = 204
      · rw [z, u_j (by omega)]
      · rw [u_o z]
    match s, hs with
    | 0, _ =>
      obtain ⟨I4, I4', e1, e2, e3, e4, e5⟩ := w_list [32, 105, 110, 32, 116, 104, 101, 32, 103, 114, 111, 117, 110, 100] _ _ _ c3 (by show _ + 14 ≤ 40; omega) (by decide)
      have tb := (tx 1 _ (by omega) tx_1 (by decide)).trans e1
      refine ⟨I4 200 1, I4, I4', ?_, ?_, ⟨_, e3⟩, frB I4 e4, frM I4' e5⟩
      · simp only [↓reduceIte, a, Label_write, G, t, nb1, b1, yb, yb2, st, x0, show (1000000002 : Nat) = oFF + 1 + 1 from rfl, tb, Option.bind_some]
      · have m1 : Option.bind (Mod_writeNext N (Mod_spelt 105 110 0 0 0 0) I3') (fun x10 => Option.bind (Mod_writeNext N (Mod_spelt 116 104 101 0 0 0) x10) (fun x11 => Mod_writeNext N (Mod_wordOf 22) x11)) = some I4' := by
          rw [mw_in, mw_the, mw_ground]
          simp only [next_m (dg_ok [9, 14] (by decide)) (by decide) (by decide), next_m (dg_ok [20, 8, 5] (by decide)) (by decide) (by decide), next_m (dg_ok [7, 18, 15, 21, 14, 4] (by decide)) (by decide) (by decide)]
          rw [← e2]
          show _ = wM ((32 :: [9, 14].map (fun d => 96 + d)) ++ ((32 :: [20, 8, 5].map (fun d => 96 + d)) ++ (32 :: [7, 18, 15, 21, 14, 4].map (fun d => 96 + d)))) I3'
          rw [wM_app]
          congr 1
          funext x
          rw [wM_app]
        obtain ⟨y1, z1, m2⟩ := Option.bind_eq_some_iff.mp m1
        obtain ⟨y2, z2, z3⟩ := Option.bind_eq_some_iff.mp m2
        simp only [↓reduceIte, b, G6, T6, nm1, b2, G7, T7, ey, ym2, G8, T8, es, x0, z1, z2, z3, Option.bind_some]
        rw [e3.2.1, e3.2.2.1]
    | 1, _ =>
      obtain ⟨I4, I4', e1, e2, e3, e4, e5⟩ := w_list [32, 104, 97, 100, 32, 98, 121] _ _ _ c3 (by show _ + 7 ≤ 40; omega) (by decide)
      have e3' : LabR I4 I4' (L.length + 1 + (numL y).length + 7) := e3
      obtain ⟨I5, I5', f1, f2, f3, f4, f5⟩ := w_one (v := 32) e3' (by omega) (by omega)
      obtain ⟨p, hp, ep⟩ := q3.v_who (f := j) (by omega) es
      obtain ⟨L2, hL2⟩ := hn.1 p hp
      obtain ⟨I6, I6', g1, g2, g3, g4, g5⟩ := w_list (L2.map (fun d => 96 + d)) _ _ _ f3 (by rw [List.length_map]; have := hL2.2.2.1; omega) (codes_lt hL2.1)
      have q5 : QR N 25 ln nP nF nE nW nH nR I5 I5' := q3.of (fun q i hq => by rw [f4 q i (by omega) (by omega), e4 q i (by omega) (by omega)]) (fun i _ => by rw [f5 206 i (by omega) (by omega), e5 206 i (by omega) (by omega)])
      have w5 : I5' 206 (145 + j) = nI p := by rw [f5 206 _ (by omega) (by omega), e5 206 _ (by omega) (by omega), ep]
      have w4 : I4' 206 (145 + j) = nI p := by rw [e5 206 _ (by omega) (by omega), ep]
      have who := (q5.who_25 hj).trans w5
      have hper : Land_hasPerson ln (nI p) I5 = true := by
        unfold Land_hasPerson
        simp (disch := omega) only [q5.cP, L_0, lt_nI, le_nI, ifF]
      have Gp : in9 (nI p) 6 = True := in9_t (by omega) (by omega)
      have Gp2 : in9 (nI p) 22 = True := in9_t (by omega) (by omega)
      have tp : (nI p).toNatClampNeg = p := tN (by omega)
      have tb : Label_addText N 200 (oFF + 2 + 1) I3 = some I5 := by
        rw [tx 2 _ (by omega) tx_2 (by decide)]
        show wB ([32, 104, 97, 100, 32, 98, 121] ++ [32]) I3 = _
        rw [wB_app, e1]
        show Option.bind (Label_add 200 (nI 32) I4) (wB []) = _
        rw [f1]; rfl
      have nb2 := (name_bq (N := N) hN hL2 I5).trans g1
      have nm2 : Mod_writeNext N (J' 211 p) I4' = some I6' := by
        rw [(name_mq (N := N) hL2 I4').2]
        show Option.bind (Mod_write (nI 32) I4') (wM (L2.map (fun d => 96 + d))) = _
        rw [f2]; exact g2
      refine ⟨I6 200 1, I6, I6', ?_, ?_, ⟨_, g3⟩, frB I6 (fun q i h1 h2 => by rw [g4 q i h1 h2, f4 q i h1 h2, e4 q i h1 h2]), frM I6' (fun q i h1 h2 => by rw [g5 q i h1 h2, f5 q i h1 h2, e5 q i h1 h2])⟩
      · simp only [↓reduceIte, a, Label_write, G, t, nb1, b1, yb, yb2, st, x10, x11, show (1000000003 : Nat) = oFF + 2 + 1 from rfl, tb, who, hper, Gp, tp, nb2, Option.bind_some]
      · have m1 : Option.bind (Mod_writeNext N (Mod_spelt 104 97 100 0 0 0) I3') (fun x10 => Mod_writeNext N (Mod_spelt 98 121 0 0 0 0) x10) = some I4' := by
          rw [mw_had, mw_by]
          simp only [next_m (dg_ok [8, 1, 4] (by decide)) (by decide) (by decide), next_m (dg_ok [2, 25] (by decide)) (by decide) (by decide)]
          rw [← e2]
          show _ = wM ((32 :: [8, 1, 4].map (fun d => 96 + d)) ++ (32 :: [2, 25].map (fun d => 96 + d))) I3'
          rw [wM_app]
        obtain ⟨y1, z1, z2⟩ := Option.bind_eq_some_iff.mp m1
        simp only [↓reduceIte, b, G6, T6, nm1, b2, G7, T7, ey, ym2, G8, T8, es, x10, x11, z1, z2, G9, T9, w4, Gp2, tp, nm2, Option.bind_some]
        rw [g3.2.1, g3.2.2.1]
    | 2, _ =>
      obtain ⟨I4, I4', e1, e2, e3, e4, e5⟩ := w_list [32, 116, 111, 108, 100] _ _ _ c3 (by show _ + 5 ≤ 40; omega) (by decide)
      have tb := (tx 3 _ (by omega) tx_3 (by decide)).trans e1
      refine ⟨I4 200 1, I4, I4', ?_, ?_, ⟨_, e3⟩, frB I4 e4, frM I4' e5⟩
      · simp only [↓reduceIte, a, Label_write, G, t, nb1, b1, yb, yb2, st, x20, x21, x22, show (1000000004 : Nat) = oFF + 3 + 1 from rfl, tb, Option.bind_some]
      · have z1 : Mod_writeNext N (Mod_wordOf 24) I3' = some I4' := by
          rw [mw_told, next_m (dg_ok [20, 15, 12, 4] (by decide)) (by decide) (by decide)]
          exact e2
        simp only [↓reduceIte, b, G6, T6, nm1, b2, G7, T7, ey, ym2, G8, T8, es, x20, x21, x22, z1, Option.bind_some]
        rw [e3.2.1, e3.2.2.1]
    | 3, _ =>
      obtain ⟨I4, I4', e1, e2, e3, e4, e5⟩ := w_list [32, 115, 111, 108, 100] _ _ _ c3 (by show _ + 5 ≤ 40; omega) (by decide)
      have tb := (tx 4 _ (by omega) tx_4 (by decide)).trans e1
      refine ⟨I4 200 1, I4, I4', ?_, ?_, ⟨_, e3⟩, frB I4 e4, frM I4' e5⟩
      · simp only [↓reduceIte, a, Label_write, G, t, nb1, b1, yb, yb2, st, x30, x31, x32, show (1000000005 : Nat) = oFF + 4 + 1 from rfl, tb, Option.bind_some]
      · have z1 : Mod_writeNext N (Mod_wordOf 25) I3' = some I4' := by
          rw [mw_sold, next_m (dg_ok [19, 15, 12, 4] (by decide)) (by decide) (by decide)]
          exact e2
        simp only [↓reduceIte, b, G6, T6, nm1, b2, G7, T7, ey, ym2, G8, T8, es, x30, x31, x32, z1, Option.bind_some]
        rw [e3.2.1, e3.2.2.1]
  · exact ⟨-1, I, up2 I' 204 0 0, by simp only [↓reduceIte, a, Bool.false_eq_true], by simp only [↓reduceIte, b, Bool.false_eq_true, Option.bind_some], by
      obtain ⟨n, g1, g2, g3, g4⟩ := hl
      exact ⟨n, g1, g2, by rw [u_j (by omega)]; exact g3, fun i hi => by rw [u_o (by omega)]; exact g4 i hi⟩, fun _ _ _ _ => rfl, fun _ _ _ _ => rfl⟩
end Q50

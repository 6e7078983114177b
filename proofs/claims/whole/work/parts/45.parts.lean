/-! the two parts of what is told: both sides -/
theorem bits_n {p : Nat → Bool} {n : Nat} (hn : n ≤ 10) : ∃ B, B < 1024 ∧ bitsF p n = nI B := by
  have e : bitsF p n &&& 1023 = bitsF p n := by
    refine b_ext (fun i hi => ?_)
    rw [b_and, b_bitsF (by omega) hi]
    have h : ∀ i, i < 32 → bt 1023 i = decide (i < 10) := by decide +kernel
    rw [h i hi]
    by_cases q : i < n
    · simp [q]; omega
    · simp [q]
  refine ⟨(bitsF p n &&& 1023).toBitVec.toNat, ?_, ?_⟩
  · rw [Int32.toBitVec_and, BitVec.toNat_and]
    have h : (1023 : Int32).toBitVec.toNat = 1023 := by decide
    rw [h]
    have := Nat.and_le_right (n := (bitsF p n).toBitVec.toNat) (m := 1023)
    omega
  · rw [← nI_nat, e]
section Q45
variable {N b ln sp sn ss nP nF nE nW nH nR : Nat} {I I' : FI} {J J' : FJ}
theorem QR.of1 (h : QR N 25 ln nP nF nE nW nH nR I I') (hl : 1 ≤ ln) {I1 I1' : FI} (h1 : ∀ q j, 1 ≤ q → q ≤ 34 → I1 q j = I q j) (h2 : ∀ j, j < 209 → I1' 206 j = I' 206 j) : QR N 25 ln nP nF nE nW nH nR I1 I1' :=
  ⟨h.nN, h.lw.of (fun j hj => h2 j (by omega)), h.ld.of (fun q j _ g => h1 q j (by omega) (by have := h.dis; omega)) (fun j hj => h2 j (by omega)) h.bd.2.1 h.bd.2.2.1, h.st.of (fun q j _ g => h1 q j (by omega) (by omega)) (fun j _ hj => h2 j hj) h.bd.2.1, h.sw.of h.bd.2.1 (fun j _ hj => h2 j hj), h.dis⟩
theorem parts_l {I0 I0' : FI} (h0 : QR N 25 ln nP nF nE nW nH nR I0 I0') (hl : 1 ≤ ln) {B V : Nat} (hB : B < 1024) (hV : V ≤ 990) (hs : ∀ k, nF ≤ k → k < 10 → bt (nI B) k = false) : ∀ m k f f' c (I I' : FI), k + m = B + 1 → m < f → m < f' → c ≤ 5000 → I 0 19 = I' 204 34 → (∀ q j, ¬ (q = 0 ∧ j = 19) → I q j = I0 q j) → (∀ q j, ¬ (q = 204 ∧ j = 34) → I' q j = I0' q j) → ∃ v I1 I1', Hol_parts_35 N ln sp sn ss f (nI B) (nI V) (nI c) (nI k) I = some (v, I1) ∧ Mod_parts_22 N f' (nI B) (nI V) (nI c) (nI k) I' = some (v, I1') ∧ I1 0 19 = I1' 204 34 ∧ (∀ q j, ¬ (q = 0 ∧ j = 19) → I1 q j = I0 q j) ∧ (∀ q j, ¬ (q = 204 ∧ j = 34) → I1' q j = I0' q j) := by
  have hb := h0.bd
  intro m
  induction m with
  | zero =>
    intro k f f' c I I' hk hf hf' hc he g1 g2
    obtain ⟨f, rfl⟩ : ∃ e, f = e + 1 := ⟨f - 1, by omega⟩
    obtain ⟨f', rfl⟩ : ∃ e, f' = e + 1 := ⟨f' - 1, by omega⟩
    have z : (nI B < nI k) = True := by rw [lt_nI (by omega) (by omega)]; exact eq_true (by omega)
    exact ⟨nI c, I, I', by simp only [↓reduceIte, Hol_parts_35, z], by simp only [↓reduceIte, Mod_parts_22, z], he, g1, g2⟩
  | succ m ih =>
    intro k f f' c I I' hk hf hf' hc he g1 g2
    obtain ⟨f, rfl⟩ : ∃ e, f = e + 1 := ⟨f - 1, by omega⟩
    obtain ⟨f', rfl⟩ : ∃ e, f' = e + 1 := ⟨f' - 1, by omega⟩
    have z : (nI B < nI k) = False := by rw [lt_nI (by omega) (by omega)]; exact eq_false (by omega)
    by_cases d : nI k &&& (nI B ^^^ (-1)) = 0
    · have sub : ∀ i, nF ≤ i → i < 10 → bt (nI k) i = false := by
        intro i h1 h2
        have e := congrArg (fun x => bt x i) d
        simp only [b_and, b_xor, b_m1 i (by omega), b_0, hs i h1 h2] at e
        simpa using e
      have hq : QR N 25 ln nP nF nE nW nH nR I I' := h0.of1 hl (fun q j h1 _ => g1 q j (by omega)) (fun j _ => g2 206 j (by omega))
      obtain ⟨v1', v2'⟩ := value_q hq (nI k) sub
      obtain ⟨x, hx, ex⟩ := told_val hq (bt (nI k)) nF hb.2.1
      rw [ex] at v1' v2'
      have e1 : (if 0 ≤ nI V - 2 * nI x then nI V - 2 * nI x else 0 - (nI V - 2 * nI x)) = nI (dif V (2 * x)) := by rw [mx_2]; exact absN (by omega) (by omega)
      have e2 : Mod_size (nI V - 2 * nI x) = nI (dif V (2 * x)) := by rw [mx_2]; exact sizeN (by omega) (by omega)
      have dd : dif V (2 * x) ≤ 5000 := by unfold dif; omega
      have n1 : (nI c = -1) = False := eq_false (fun q => (nI_ne1 (by omega)).mp q)
      by_cases g : c ≤ dif V (2 * x)
      · have t1 : (nI c ≤ nI (dif V (2 * x))) = True := by rw [le_nI (by omega) (by omega)]; exact eq_true g
        have t2 : (nI (dif V (2 * x)) < nI c) = False := by rw [lt_nI (by omega) (by omega)]; exact eq_false (by omega)
        obtain ⟨v, I1, I1', x1, x2, x3⟩ := ih (k + 1) f f' c I I' (by omega) (by omega) (by omega) hc he g1 g2
        refine ⟨v, I1, I1', ?_, ?_, x3⟩
        · rw [← x1]; simp only [↓reduceIte, Hol_parts_35, z, d, v1', e1, t1, nS, Option.bind_some]
        · rw [← x2]; simp only [↓reduceIte, Mod_parts_22, z, d, v2', e2, n1, t2, nS, Option.bind_some]
      · have t1 : (nI c ≤ nI (dif V (2 * x))) = False := by rw [le_nI (by omega) (by omega)]; exact eq_false g
        have t2 : (nI (dif V (2 * x)) < nI c) = True := by rw [lt_nI (by omega) (by omega)]; exact eq_true (by omega)
        obtain ⟨v, I1, I1', x1, x2, x3⟩ := ih (k + 1) f f' (dif V (2 * x)) (up2 I 0 19 (nI k)) (up2 I' 204 34 (nI k)) (by omega) (by omega) (by omega) dd (by rw [u_s, u_s]) (fun q j hq => by
            rw [← g1 q j hq]
            by_cases y : q = 0
            · rw [y, u_j (by omega)]
            · rw [u_o y]) (fun q j hq => by
            rw [← g2 q j hq]
            by_cases y : q = 204
            · rw [y, u_j (by omega)]
            · rw [u_o y])
        refine ⟨v, I1, I1', ?_, ?_, x3⟩
        · rw [← x1]; simp only [↓reduceIte, Hol_parts_35, z, d, v1', e1, t1, nS, Option.bind_some]
        · rw [← x2]; simp only [↓reduceIte, Mod_parts_22, z, d, v2', e2, n1, t2, nS, Option.bind_some]
    · obtain ⟨v, I1, I1', x1, x2, x3⟩ := ih (k + 1) f f' c I I' (by omega) (by omega) (by omega) hc he g1 g2
      refine ⟨v, I1, I1', ?_, ?_, x3⟩
      · rw [← x1]; simp only [↓reduceIte, Hol_parts_35, z, d, nS]
      · rw [← x2]; simp only [↓reduceIte, Mod_parts_22, z, d, nS]
theorem op_parts (h : QR N 25 ln nP nF nE nW nH nR I I') (hl : 1 ≤ ln) : ∃ v I1 I1', Hol_parts N ln sp sn ss I = some (v, I1) ∧ Mod_parts N I' = some (v, I1') ∧ I1 0 19 = I1' 204 34 ∧ (∀ q j, ¬ (q = 0 ∧ j = 19) → I1 q j = I q j) ∧ (∀ q j, ¬ (q = 204 ∧ j = 34) → I1' q j = up2 I' 204 0 0 q j) := by
  have hb := h.bd
  have hN := h.nN
  have h1 := h.thr (v := 0)
  obtain ⟨g1, g2⟩ := bits_q h1 2
  obtain ⟨p1, p2⟩ := value_q h1 (bitsF (fun f => decide (up2 I' 204 0 0 206 (135 + f) = 2)) nF) (fun k a b => told_hi hb.2.1 a b)
  obtain ⟨V, hV, eV⟩ := told_val h1 (bt (bitsF (fun f => decide (up2 I' 204 0 0 206 (135 + f) = 2)) nF)) nF hb.2.1
  have th : ∀ k, nF ≤ k → k < 10 → bt (bitsF (fun f => decide (up2 I' 204 0 0 206 (135 + f) = 2)) nF) k = false := fun k a b => told_hi hb.2.1 a b
  obtain ⟨B, hB, eB⟩ := bits_n (p := fun f => decide (up2 I' 204 0 0 206 (135 + f) = 2)) hb.2.1
  rw [eV] at p1 p2
  rw [eB] at g1 g2 p1 p2 th
  have tv : State_toldValue N 25 ln I = some (nI V) := by unfold State_toldValue; rw [g1, Option.bind_some, p1, Option.bind_some]
  obtain ⟨v, I1, I1', x1, x2, x3, x4, x5⟩ := parts_l (V := V) (sp := sp) (sn := sn) (ss := ss) h1 hl hB (by omega) th B 1 N (N - 1) V (up2 I 0 19 0) (up2 (up2 I' 204 0 0) 204 34 0) (by omega) (by omega) (by omega) (by omega) (by rw [u_s, u_s]) (fun q j hq => by
    by_cases y : q = 0
    · rw [y, u_j (by omega)]
    · rw [u_o y]) (fun q j hq => by
    by_cases y : q = 204
    · rw [y, u_j (by omega)]
    · rw [u_o y])
  refine ⟨v, I1, I1', ?_, ?_, x3, x4, x5⟩
  · unfold Hol_parts
    rw [g1, Option.bind_some, tv, Option.bind_some, Option.bind_some]
    exact x1
  · unfold Mod_parts
    rw [Option.bind_some, g2, Option.bind_some, p2, Option.bind_some, ← x2]
    obtain ⟨M, hM⟩ : ∃ e, N = e + 1 := ⟨N - 1, by omega⟩
    have z : (nI B < 0) = False := by rw [L_0, lt_nI (by omega) (by omega)]; exact eq_false (by omega)
    have d : (0 : Int32) &&& (nI B ^^^ (-1)) = 0 := b_ext (fun i hi => by rw [b_and, b_0]; rfl)
    obtain ⟨-, v0⟩ := value_q h1 0 (fun k _ _ => b_0 k)
    rw [itF_id (fun f _ a => by rw [b_0]; rfl)] at v0
    have e2 : Mod_size (nI V - 2 * 0) = nI V := by
      rw [show (2 : Int32) * 0 = nI 0 from rfl, sizeN (by omega) (by omega)]
      unfold dif
      exact congrArg nI (by omega)
    have s1 : (0 : Int32) + 1 = nI 1 := by decide
    rw [show N - 1 = M from by omega]
    conv => lhs; rw [show Mod_parts_22 N N = Mod_parts_22 N (M + 1) from by rw [← hM]]
    simp only [↓reduceIte, Mod_parts_22, z, d, v0, e2, s1, Option.bind_some]
end Q45

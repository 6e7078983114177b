/-! what is asked of the two pots: both sides -/
section Q41
variable {N b ln sp sn ss nP nF nE nW nH nR : Nat} {I I' : FI} {J J' : FJ}
theorem cut_n {a b d e : Nat} (h1 : b ≤ a) (h2 : e ≤ d) : nI a - nI b + nI d - nI e = nI (a - b + d - e) := by rw [nSb h1, nA, nSb (by omega)]
theorem fact_c {I1 : FI} (h1 : I1 ln = I ln) (h2 : I1 (ln + 4) = I (ln + 4)) (x w : Int32) : Land_factOf ln x w I1 = Land_factOf ln x w I := by
  unfold Land_factOf
  rw [h1, h2]
theorem cut_b {y A : Nat → Nat} {c k : Nat} (hY : ∀ a, a < nF → Land_factOf ln (nI a) 4 I = some (nI (y a))) (hA : ∀ j, j < c → A j < nF) (g : ∀ j, j < c → I 203 j = nI (A j)) (hs : ∀ i j, i < j → j < c → y (A i) ≤ y (A j)) (h1 : 1 ≤ k) (hk : k < c) (hc : c ≤ 10) : Hol_spansCutBehind ln sp sn ss (nI k) (nI c) I = some (nI (cutF y A c k)) := by
  have e1 : nI k - 1 = nI (k - 1) := by rw [L_1, nSb h1]
  have e2 : nI c - 1 = nI (c - 1) := by rw [L_1, nSb (by omega)]
  have G1 : in9 (nI (k - 1)) 10 = True := in9_t (by omega) (by omega)
  have G2 : in9 (nI (c - 1)) 10 = True := in9_t (by omega) (by omega)
  have G3 : in9 (nI k) 10 = True := in9_t (by omega) (by omega)
  have G4 : in9 (0 : Int32) 10 = True := in9_t (k := 0) (by omega) (by omega)
  have T1 : (nI (k - 1)).toNatClampNeg = k - 1 := tN (by omega)
  have T2 : (nI (c - 1)).toNatClampNeg = c - 1 := tN (by omega)
  have T3 : (nI k).toNatClampNeg = k := tN (by omega)
  have s1 : y (A 0) ≤ y (A (k - 1)) := by
    by_cases z : k - 1 = 0
    · rw [z]; exact Nat.le_refl _
    · exact hs 0 (k - 1) (by omega) (by omega)
  have s2 : y (A k) ≤ y (A (c - 1)) := by
    by_cases z : k = c - 1
    · rw [← z]; exact Nat.le_refl _
    · exact hs k (c - 1) (by omega) (by omega)
  unfold Hol_spansCutBehind Hol_yearOfCoin
  simp only [↓reduceIte, e1, e2, G1, G2, G3, G4, T1, T2, T3, T_0, g (k - 1) (by omega), g (c - 1) (by omega), g k hk, g 0 (by omega), hY (A (k - 1)) (hA _ (by omega)), hY (A (c - 1)) (hA _ (by omega)), hY (A k) (hA _ hk), hY (A 0) (hA _ (by omega)), Option.bind_some]
  exact congrArg some (cut_n s1 s2)
theorem cut_m {y A : Nat → Nat} {c k f : Nat} {l2 l3 : Int32} (hF : nF ≤ 10) (hY : ∀ a, a < nF → I' 206 (70 + a) = nI (y a)) (hA : ∀ j, j < c → A j < nF) (g : ∀ j, j < c → I' 220 j = nI (A j)) (hs : ∀ i j, i < j → j < c → y (A i) ≤ y (A j)) (h1 : 1 ≤ k) (hk : k < c) (hc : c ≤ 10) : Mod_pots_132 N (f + 1) (nI c) l2 l3 (nI k) I' = if l2 = -1 then Mod_pots_132 N f (nI c) (nI (cutF y A c k)) (nI k) (nI (k + 1)) I' else if nI (cutF y A c k) < l2 then Mod_pots_132 N f (nI c) (nI (cutF y A c k)) (nI k) (nI (k + 1)) I' else Mod_pots_132 N f (nI c) l2 l3 (nI (k + 1)) I' := by
  have e1 : nI k - 1 = nI (k - 1) := by rw [L_1, nSb h1]
  have e2 : nI c - 1 = nI (c - 1) := by rw [L_1, nSb (by omega)]
  have A1 : (nI c ≤ nI k) = False := by rw [le_nI (by omega) (by omega)]; exact eq_false (by omega)
  have G1 : in9 (nI (k - 1)) 10 = True := in9_t (by omega) (by omega)
  have G2 : in9 (nI (c - 1)) 10 = True := in9_t (by omega) (by omega)
  have G3 : in9 (nI k) 10 = True := in9_t (by omega) (by omega)
  have T1 : (nI (k - 1)).toNatClampNeg = k - 1 := tN (by omega)
  have T2 : (nI (c - 1)).toNatClampNeg = c - 1 := tN (by omega)
  have T3 : (nI k).toNatClampNeg = k := tN (by omega)
  have GA : ∀ j, j < c → in9 (70 + nI (A j)) 451 = True := fun j hj => by have := hA j hj; rw [ax_70]; exact in9_t (by omega) (by omega)
  have TA : ∀ j, j < c → ((70 : Int32) + nI (A j)).toNatClampNeg = 70 + A j := fun j hj => by have := hA j hj; rw [ax_70]; exact tN (by omega)
  have s1 : y (A 0) ≤ y (A (k - 1)) := by
    by_cases z : k - 1 = 0
    · rw [z]; exact Nat.le_refl _
    · exact hs 0 (k - 1) (by omega) (by omega)
  have s2 : y (A k) ≤ y (A (c - 1)) := by
    by_cases z : k = c - 1
    · rw [← z]; exact Nat.le_refl _
    · exact hs k (c - 1) (by omega) (by omega)
  have cn : nI (y (A (k - 1))) - nI (y (A 0)) + nI (y (A (c - 1))) - nI (y (A k)) = nI (cutF y A c k) := cut_n s1 s2
  simp only [↓reduceIte, Mod_pots_132, A1, e1, e2, G1, G2, G3, T1, T2, T3, T_0, g (k - 1) (by omega), g (c - 1) (by omega), g k hk, g 0 (by omega), GA (k - 1) (by omega), GA (c - 1) (by omega), GA k hk, GA 0 (by omega), TA (k - 1) (by omega), TA (c - 1) (by omega), TA k hk, TA 0 (by omega), hY (A (k - 1)) (hA _ (by omega)), hY (A (c - 1)) (hA _ (by omega)), hY (A k) (hA _ hk), hY (A 0) (hA _ (by omega)), cn, nS]
theorem early_l {y A : Nat → Nat} {c p : Nat} (hl : 1 ≤ ln) (hl2 : ln ≤ 30) (hA : ∀ j, j < c → A j < nF) (hs : ∀ i j, i < j → j < c → y (A i) ≤ y (A j)) (h1 : 1 ≤ p) (hp : p < c) (hc : c ≤ 10) (l1 : Int32) : ∀ m k f f' (I I' : FI), k + m = p → m < f → m < f' → (∀ a, a < nF → Land_factOf ln (nI a) 4 I = some (nI (y a))) → (∀ j, j < c → I 203 j = nI (A j)) → (∀ j, j < c → I' 220 j = nI (A j)) → I 0 18 = I' 204 33 → ∃ I1 I1', Hol_pots_51 N ln sp sn ss f (nI c) (nI p) (nI k) I = some (nI (cutF y A c p), I1) ∧ Mod_pots_239 N f' l1 (nI (cutF y A c p)) (nI p) (nI k) I' = some (nI (cutF y A c p), I1') ∧ I1 0 18 = I1' 204 33 ∧ (∀ q j, ¬ (q = 0 ∧ j = 18) → I1 q j = I q j) ∧ (∀ q j, ¬ (q = 204 ∧ j = 33) → I1' q j = I' q j) := by
  intro m
  induction m with
  | zero =>
    intro k f f' I I' hk hf hf' hY g g' he
    obtain ⟨f, rfl⟩ : ∃ e, f = e + 1 := ⟨f - 1, by omega⟩
    obtain ⟨f', rfl⟩ : ∃ e, f' = e + 1 := ⟨f' - 1, by omega⟩
    obtain rfl : k = p := by omega
    have cb := cut_b (sp := sp) (sn := sn) (ss := ss) hY hA g hs h1 hp hc
    refine ⟨I, I', ?_, ?_, he, fun _ _ _ => rfl, fun _ _ _ => rfl⟩
    · simp (disch := omega) only [Hol_pots_51, le_nI, ifT, cb, Option.bind_some]
    · simp (disch := omega) only [Mod_pots_239, le_nI, ifT]
  | succ m ih =>
    intro k f f' I I' hk hf hf' hY g g' he
    obtain ⟨f, rfl⟩ : ∃ e, f = e + 1 := ⟨f - 1, by omega⟩
    obtain ⟨f', rfl⟩ : ∃ e, f' = e + 1 := ⟨f' - 1, by omega⟩
    obtain ⟨I1, I1', x1, x2, x3, x4, x5⟩ := ih (k + 1) f f' (up2 I 0 18 (I 0 18 ||| 1 <<< (I 203 k &&& 31))) (up2 I' 204 33 (I' 204 33 ||| 1 <<< (I' 220 k &&& 31))) (by omega) (by omega) (by omega) (fun a ha => by rw [fact_c (u_o (by omega)) (u_o (by omega))]; exact hY a ha) (fun j hj => by rw [u_o (by omega)]; exact g j hj) (fun j hj => by rw [u_o (by omega)]; exact g' j hj) (by rw [u_s, u_s, he, g k (by omega), g' k (by omega)])
    have A1 : (nI p ≤ nI k) = False := by rw [le_nI (by omega) (by omega)]; exact eq_false (by omega)
    have G : in9 (nI k) 10 = True := in9_t (by omega) (by omega)
    have t : (nI k).toNatClampNeg = k := tN (by omega)
    refine ⟨I1, I1', ?_, ?_, x3, fun q j hq => ?_, fun q j hq => ?_⟩
    · rw [← x1]; simp only [↓reduceIte, Hol_pots_51, A1, G, t, nS, Option.bind_some]
    · rw [← x2]; simp only [↓reduceIte, Mod_pots_239, A1, G, t, nS, Option.bind_some]
    · rw [x4 q j hq]
      by_cases z : q = 0
      · rw [z, u_j (by omega)]
      · rw [u_o z]
    · rw [x5 q j hq]
      by_cases z : q = 204
      · rw [z, u_j (by omega)]
      · rw [u_o z]
theorem least_l {y A : Nat → Nat} {c : Nat} (hN : 2000 ≤ N) (hF : nF ≤ 10) (hl : 1 ≤ ln) (hl2 : ln ≤ 30) (hA : ∀ j, j < c → A j < nF) (hs : ∀ i j, i < j → j < c → y (A i) ≤ y (A j)) (hc : c ≤ 10) (hy : ∀ j, j < c → y (A j) ≤ 999) (hY : ∀ a, a < nF → Land_factOf ln (nI a) 4 I = some (nI (y a))) (hY' : ∀ a, a < nF → I' 206 (70 + a) = nI (y a)) (g : ∀ j, j < c → I 203 j = nI (A j)) (g' : ∀ j, j < c → I' 220 j = nI (A j)) : ∀ m k p f f', k + m = c → 1 ≤ p → p < k → m < f → m < f' → ∃ v I1 I1', Hol_pots_16 N ln sp sn ss f (nI c) (nI p) (nI k) I = some (v, I1) ∧ Mod_pots_132 N f' (nI c) (nI (cutF y A c p)) (nI p) (nI k) I' = some (v, I1') ∧ I1 0 18 = I1' 204 33 ∧ (∀ q j, ¬ (q = 0 ∧ j = 18) → I1 q j = I q j) ∧ (∀ q j, ¬ (q = 204 ∧ j = 33) → I1' q j = I' q j) := by
  intro m
  have bd : ∀ k, 1 ≤ k → k < c → cutF y A c k ≤ 1998 := by
    intro k h1 h2
    have := hy (k - 1) (by omega)
    have := hy (c - 1) (by omega)
    unfold cutF
    omega
  induction m with
  | zero =>
    intro k p f f' hk h1 hp hf hf'
    obtain ⟨f, rfl⟩ : ∃ e, f = e + 1 := ⟨f - 1, by omega⟩
    obtain ⟨f', rfl⟩ : ∃ e, f' = e + 1 := ⟨f' - 1, by omega⟩
    obtain rfl : k = c := by omega
    obtain ⟨I1, I1', x1, x2, x3, x4, x5⟩ := early_l (N := N) (sp := sp) (sn := sn) (ss := ss) hl hl2 hA hs h1 hp hc (nI k) p 0 N N (up2 I 0 18 0) (up2 I' 204 33 0) (by omega) (by omega) (by omega) (fun a ha => by rw [fact_c (u_o (by omega)) (u_o (by omega))]; exact hY a ha) (fun j hj => by rw [u_o (by omega)]; exact g j hj) (fun j hj => by rw [u_o (by omega)]; exact g' j hj) (by rw [u_s, u_s])
    have A1 : (nI k ≤ nI k) = True := eq_true (Int32.le_refl _)
    rw [show nI 0 = (0 : Int32) from rfl] at x1 x2
    refine ⟨nI (cutF y A k p), I1, I1', ?_, ?_, x3, fun q j hq => ?_, fun q j hq => ?_⟩
    · simp only [↓reduceIte, Hol_pots_16, A1, Option.bind_some]; exact x1
    · simp only [↓reduceIte, Mod_pots_132, A1, Option.bind_some]; exact x2
    · rw [x4 q j hq]
      by_cases z : q = 0
      · rw [z, u_j (by omega)]
      · rw [u_o z]
    · rw [x5 q j hq]
      by_cases z : q = 204
      · rw [z, u_j (by omega)]
      · rw [u_o z]
  | succ m ih =>
    intro k p f f' hk h1 hp hf hf'
    obtain ⟨f, rfl⟩ : ∃ e, f = e + 1 := ⟨f - 1, by omega⟩
    obtain ⟨f', rfl⟩ : ∃ e, f' = e + 1 := ⟨f' - 1, by omega⟩
    have c1 := cut_b (sp := sp) (sn := sn) (ss := ss) hY hA g hs (k := k) (by omega) (by omega) hc
    have c2 := cut_b (sp := sp) (sn := sn) (ss := ss) hY hA g hs (k := p) h1 (by omega) hc
    have b1 := bd k (by omega) (by omega)
    have b2 := bd p h1 (by omega)
    have A1 : (nI c ≤ nI k) = False := by rw [le_nI (by omega) (by omega)]; exact eq_false (by omega)
    have n1 : ¬ nI (cutF y A c p) = -1 := fun z => (nI_ne1 (by omega)).mp z
    rw [cut_m (k := k) hF hY' hA g' hs (by omega) (by omega) hc, if_neg n1]
    by_cases z : cutF y A c p ≤ cutF y A c k
    · have z1 : (nI (cutF y A c p) ≤ nI (cutF y A c k)) = True := by rw [le_nI (by omega) (by omega)]; exact eq_true z
      obtain ⟨v, I1, I1', x1, x2, x3⟩ := ih (k + 1) p f f' (by omega) h1 (by omega) (by omega) (by omega)
      rw [if_neg (show ¬ nI (cutF y A c k) < nI (cutF y A c p) by rw [lt_nI (by omega) (by omega)]; omega)]
      refine ⟨v, I1, I1', ?_, x2, x3⟩
      rw [← x1]; simp only [↓reduceIte, Hol_pots_16, A1, c1, c2, z1, nS, Option.bind_some]
    · have z1 : (nI (cutF y A c p) ≤ nI (cutF y A c k)) = False := by rw [le_nI (by omega) (by omega)]; exact eq_false z
      obtain ⟨v, I1, I1', x1, x2, x3⟩ := ih (k + 1) k f f' (by omega) (by omega) (by omega) (by omega) (by omega)
      rw [if_pos (show nI (cutF y A c k) < nI (cutF y A c p) by rw [lt_nI (by omega) (by omega)]; omega)]
      refine ⟨v, I1, I1', ?_, x2, x3⟩
      rw [← x1]; simp only [↓reduceIte, Hol_pots_16, A1, c1, c2, z1, nS, Option.bind_some]
theorem sort_l {w : Nat → Int32} : ∀ m k f f' c (A : Nat → Nat) (I I' : FI), k + m = nF → m < f → m < f' → c ≤ k → QR N 25 ln nP nF nE nW nH nR I I' → I' 206 = w → (∀ j, j < c → A j < nF) → (∀ j, j < c → I 203 j = nI (A j) ∧ I' 220 j = nI (A j)) → (∀ i j, i < j → j < c → yF w (A i) ≤ yF w (A j)) → ∃ (c1 : Nat) (A1 : Nat → Nat) (I1 I1' : FI), c1 ≤ nF ∧ Hol_sortToldCoins_4 N ln sp sn ss f (nI c) (nI k) I = some (nI c1, I1) ∧ Mod_pots_9 N f' (nI c) (nI k) I' = (if 2 ≤ nI c1 then Mod_pots_132 N N (nI c1) (-1) 0 1 I1' else some (-1, I1')) ∧ (∀ j, j < c1 → A1 j < nF) ∧ (∀ j, j < c1 → I1 203 j = nI (A1 j) ∧ I1' 220 j = nI (A1 j)) ∧ (∀ i j, i < j → j < c1 → yF w (A1 i) ≤ yF w (A1 j)) ∧ (∀ q j, q ≠ 203 → I1 q j = I q j) ∧ (∀ q j, q ≠ 220 → I1' q j = I' q j) := by
  intro m
  induction m with
  | zero =>
    intro k f f' c A I I' hk hf hf' hc h hw hA g hs
    have hb := h.bd
    obtain ⟨f, rfl⟩ : ∃ e, f = e + 1 := ⟨f - 1, by omega⟩
    obtain ⟨f', rfl⟩ : ∃ e, f' = e + 1 := ⟨f' - 1, by omega⟩
    obtain rfl : k = nF := by omega
    refine ⟨c, A, I, I', hc, ?_, ?_, hA, g, hs, fun _ _ _ => rfl, fun _ _ _ => rfl⟩
    · simp (disch := omega) only [Hol_sortToldCoins_4, h.cF, le_nI, ifT]
    · have A1 : (nI k ≤ nI k) = True := eq_true (Int32.le_refl _)
      simp only [↓reduceIte, Mod_pots_9, T_1, h.mF, A1]
  | succ m ih =>
    intro k f f' c A I I' hk hf hf' hc h hw hA g hs
    have hb := h.bd
    have hN := h.nN
    obtain ⟨f, rfl⟩ : ∃ e, f = e + 1 := ⟨f - 1, by omega⟩
    obtain ⟨f', rfl⟩ : ∃ e, f' = e + 1 := ⟨f' - 1, by omega⟩
    have A1 : (nI nF ≤ nI k) = False := by rw [le_nI (by omega) (by omega)]; exact eq_false (by omega)
    have cF := h.cF
    have mF := h.mF
    have G : in9 (nI k) 10 = True := in9_t (by omega) (by omega)
    have t : (nI k).toNatClampNeg = k := tN (by omega)
    have st := h.stat_25 (f := k) (by omega)
    have G1 : in9 (135 + nI k) 451 = True := by rw [ax_135]; exact in9_t (by omega) (by omega)
    have T1 : ((135 : Int32) + nI k).toNatClampNeg = 135 + k := by rw [ax_135]; exact tN (by omega)
    have G2 : in9 (30 + nI k) 451 = True := by rw [ax_30]; exact in9_t (by omega) (by omega)
    have T2 : ((30 : Int32) + nI k).toNatClampNeg = 30 + k := by rw [ax_30]; exact tN (by omega)
    have fk : Land_factOf ln (nI k) 0 I = some (I' 206 (30 + k)) := by
      have := fact_e h (f := k) (by omega) (w := 0) (by decide)
      rw [show nI 0 = (0 : Int32) from rfl] at this
      rw [this]
      exact congrArg some (h.f_kind (by omega))
    by_cases z1 : I' 206 (135 + k) = 2
    · by_cases z2 : I' 206 (30 + k) = 0
      · obtain ⟨p0, I2, I2', x0, x1, x2, x3, x4, x5, x6, x7⟩ := ins_q (N := N) (sp := sp) (sn := sn) (ss := ss) (ln := ln) (c := c) (k := k) (A := A) (by omega) (fun x1 x2 I => Hol_sortToldCoins_4 N ln sp sn ss f x1 x2 I) (fun x1 x2 I => Mod_pots_9 N f' x1 x2 I) c N N I I' h (by omega) hA (Nat.le_refl _) (by omega) (by omega) g (fun j a b => by omega) (fun j a b => by omega)
        rw [hw] at x4 x5
        obtain ⟨c1, A1', I1, I1', y0, y1, y2, y3, y4, y5, y6, y7⟩ := ih (k + 1) f f' (c + 1) (ins1 A p0 k) I2 I2' (by omega) (by omega) (by omega) (by omega) (h.of (fun q j hq => x6 q j (by omega)) (fun j _ => x7 206 j (by omega))) (by rw [← hw]; funext j; exact x7 206 j (by omega)) (fun j hj => by
          unfold ins1
          by_cases a : j < p0
          · rw [if_pos a]; exact hA j (by omega)
          · rw [if_neg a]
            by_cases d : j = p0
            · rw [if_pos d]; omega
            · rw [if_neg d]; exact hA (j - 1) (by omega)) x3 (ins_sorted (y := yF w) x0 hs x4 x5)
        refine ⟨c1, A1', I1, I1', y0, ?_, ?_, y3, y4, y5, fun q j hq => (y6 q j hq).trans (x6 q j hq), fun q j hq => (y7 q j hq).trans (x7 q j hq)⟩
        · rw [← y1, ← x1]; simp only [↓reduceIte, Hol_sortToldCoins_4, cF, A1, G, t, st, z1, fk, z2, Option.bind_some]
        · rw [← y2, ← x2]; simp only [↓reduceIte, Mod_pots_9, T_1, mF, A1, G1, T1, G2, T2, z1, z2]
      · obtain ⟨c1, A1', I1, I1', y0, y1, y2, y3⟩ := ih (k + 1) f f' c A I I' (by omega) (by omega) (by omega) (by omega) h hw hA g hs
        refine ⟨c1, A1', I1, I1', y0, ?_, ?_, y3⟩
        · rw [← y1]; simp only [↓reduceIte, Hol_sortToldCoins_4, cF, A1, G, t, st, z1, fk, z2, nS, Option.bind_some]
        · rw [← y2]; simp only [↓reduceIte, Mod_pots_9, T_1, mF, A1, G1, T1, G2, T2, z1, z2, nS]
    · obtain ⟨c1, A1', I1, I1', y0, y1, y2, y3⟩ := ih (k + 1) f f' c A I I' (by omega) (by omega) (by omega) (by omega) h hw hA g hs
      refine ⟨c1, A1', I1, I1', y0, ?_, ?_, y3⟩
      · rw [← y1]; simp only [↓reduceIte, Hol_sortToldCoins_4, cF, A1, G, t, st, z1, nS]
      · rw [← y2]; simp only [↓reduceIte, Mod_pots_9, T_1, mF, A1, G1, T1, z1, nS]
theorem op_pots (h : QR N 25 ln nP nF nE nW nH nR I I') (hl : 1 ≤ ln) (he : I 0 18 = I' 204 33) : ∃ v I1 I1', Hol_pots N ln sp sn ss I = some (v, I1) ∧ Mod_pots N I' = some (v, I1') ∧ I1 0 18 = I1' 204 33 ∧ (∀ q j, q ≠ 203 → ¬ (q = 0 ∧ j = 18) → I1 q j = I q j) ∧ (∀ q j, q ≠ 220 → ¬ (q = 204 ∧ j = 33) → I1' q j = up2 I' 204 0 0 q j) := by
  have hb := h.bd
  have hN := h.nN
  have hd := h.dis
  have h1 := h.thr (v := 0)
  obtain ⟨c, A, I1, I1', y0, y1, y2, y3, y4, y5, y6, y7⟩ := sort_l (N := N) (sp := sp) (sn := sn) (ss := ss) (w := up2 I' 204 0 0 206) nF 0 N N 0 (fun _ => 0) I (up2 I' 204 0 0) (by omega) (by omega) (by omega) (by omega) h1 rfl (fun j hj => by omega) (fun j hj => by omega) (fun i j hi hj => by omega)
  rw [show nI 0 = (0 : Int32) from rfl] at y1 y2
  have y1' : Hol_sortToldCoins N ln sp sn ss I = some (nI c, I1) := y1
  unfold Hol_pots Mod_pots
  rw [y1', Option.bind_some, Option.bind_some, y2]
  have e33 : I1 0 18 = I1' 204 33 := by rw [y6 _ _ (by omega), y7 _ _ (by omega), u_j (by omega)]; exact he
  by_cases z : 2 ≤ c
  · have z1 : (2 : Int32) ≤ nI c := by rw [L_2, le_nI (by omega) (by omega)]; exact z
    simp only [z1, if_true]
    have hq : QR N 25 ln nP nF nE nW nH nR I1 I1' := h1.of (fun q j hq => y6 q j (by omega)) (fun j _ => y7 206 j (by omega))
    have w6 : I1' 206 = up2 I' 204 0 0 206 := by funext j; exact y7 206 j (by omega)
    have g : ∀ j, j < c → I1 203 j = nI (A j) := fun j hj => (y4 j hj).1
    have g' : ∀ j, j < c → I1' 220 j = nI (A j) := fun j hj => (y4 j hj).2
    have hYb : ∀ a, a < nF → Land_factOf ln (nI a) 4 I1 = some (nI (yF (up2 I' 204 0 0 206) a)) := fun a ha => by rw [← w6]; exact year_b hq ha
    have hYm : ∀ a, a < nF → I1' 206 (70 + a) = nI (yF (up2 I' 204 0 0 206) a) := fun a ha => by rw [← w6]; exact (year_w hq ha).2
    have hy9 : ∀ j, j < c → yF (up2 I' 204 0 0 206) (A j) ≤ 999 := fun j hj => by rw [← w6]; exact (year_w hq (y3 j hj)).1
    obtain ⟨M, hM⟩ : ∃ e, N = e + 1 := ⟨N - 1, by omega⟩
    have c0 := cut_m (N := N) (f := M) (l2 := -1) (l3 := 0) (k := 1) (I' := I1') hb.2.1 hYm y3 g' y5 (by omega) (by omega) (by omega)
    rw [← hM, if_pos rfl] at c0
    obtain ⟨v, I2, I2', x1, x2, x3, x4, x5⟩ := least_l (N := N) (ln := ln) (sp := sp) (sn := sn) (ss := ss) (I := I1) (I' := I1') hN hb.2.1 hl (by omega) y3 y5 (by omega) hy9 hYb hYm g g' (c - 2) 2 1 N M (by omega) (by omega) (by omega) (by omega) (by omega)
    refine ⟨v, I2, I2', x1, ?_, x3, fun q j h1 h2 => (x4 q j h2).trans (y6 q j h1), fun q j h1 h2 => (x5 q j h2).trans (y7 q j h1)⟩
    exact (show _ = _ from c0).trans x2
  · have z1 : ¬ (2 : Int32) ≤ nI c := by rw [L_2, le_nI (by omega) (by omega)]; exact z
    simp only [z1, if_false]
    exact ⟨-1, I1, I1', rfl, rfl, e33, fun q j h1 _ => y6 q j h1, fun q j h1 _ => y7 q j h1⟩
theorem op_early (he : I 0 18 = I' 204 33) : Mod_early I' = some (Hol_early ln sp sn ss I, up2 I' 204 0 0) := by
  unfold Mod_early Hol_early
  rw [Option.bind_some, u_j (by omega), he]
end Q41

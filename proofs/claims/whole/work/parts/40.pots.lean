/-! the two pots of told coins: both sides -/
def yF (w : Nat → Int32) (a : Nat) : Nat := (w (70 + a)).toNatClampNeg
def ins1 (A : Nat → Nat) (p k : Nat) : Nat → Nat := fun j => if j < p then A j else if j = p then k else A (j - 1)
/-- how much is left where the pots part before the k-th -/
def cutF (y : Nat → Nat) (A : Nat → Nat) (c k : Nat) : Nat := y (A (k - 1)) - y (A 0) + y (A (c - 1)) - y (A k)
section Q40
variable {N b ln sp sn ss nP nF nE nW nH nR : Nat} {I I' : FI} {J J' : FJ}
theorem year_w (h : QR N b ln nP nF nE nW nH nR I I') {a : Nat} (ha : a < nF) : yF (I' 206) a ≤ 999 ∧ I' 206 (70 + a) = nI (yF (I' 206) a) := by
  have hb := h.bd
  obtain ⟨y, hy, e⟩ := h.v_year (f := a) (by omega)
  unfold yF
  rw [e, tN (by omega)]
  exact ⟨hy, rfl⟩
theorem year_b (h : QR N b ln nP nF nE nW nH nR I I') {a : Nat} (ha : a < nF) : Land_factOf ln (nI a) 4 I = some (nI (yF (I' 206) a)) := by
  rw [show (4 : Int32) = nI 4 from id rfl, fact_e h ha (by decide), h.f_year ha, (year_w h ha).2]
/-- one coin put in its place -/
theorem ins_q {c k : Nat} (hc : c < 10) {A : Nat → Nat} (K : Int32 → Int32 → FI → Option (Int32 × FI)) (K' : Int32 → Int32 → FI → Option (Int32 × FI)) : ∀ p f f' (I I' : FI), QR N 25 ln nP nF nE nW nH nR I I' → k < nF → (∀ j, j < c → A j < nF) → p ≤ c → p < f → p < f' → (∀ j, j < p → I 203 j = nI (A j) ∧ I' 220 j = nI (A j)) → (∀ j, p < j → j ≤ c → I 203 j = nI (A (j - 1)) ∧ I' 220 j = nI (A (j - 1))) → (∀ j, p ≤ j → j < c → yF (I' 206) k < yF (I' 206) (A j)) → ∃ p0 I1 I1', p0 ≤ c ∧ Hol_sortToldCoins_42 N ln sp sn ss K f (nI c) (nI k) (nI p) I = K (nI (c + 1)) (nI (k + 1)) I1 ∧ Mod_pots_50 N K' f' (nI c) (nI k) (nI p) I' = K' (nI (c + 1)) (nI (k + 1)) I1' ∧ (∀ j, j < c + 1 → I1 203 j = nI (ins1 A p0 k j) ∧ I1' 220 j = nI (ins1 A p0 k j)) ∧ (0 < p0 → yF (I' 206) (A (p0 - 1)) ≤ yF (I' 206) k) ∧ (∀ j, p0 ≤ j → j < c → yF (I' 206) k < yF (I' 206) (A j)) ∧ (∀ q j, q ≠ 203 → I1 q j = I q j) ∧ (∀ q j, q ≠ 220 → I1' q j = I' q j) := by
  intro p
  induction p with
  | zero =>
    intro f f' I I' h hk hA hp hf hf' g1 g2 g3
    obtain ⟨f, rfl⟩ : ∃ e, f = e + 1 := ⟨f - 1, by omega⟩
    obtain ⟨f', rfl⟩ : ∃ e, f' = e + 1 := ⟨f' - 1, by omega⟩
    have z : (nI 0 ≤ (0 : Int32)) = True := eq_true (by decide)
    have G : in9 (nI 0) 10 = True := in9_t (by omega) (by omega)
    have t : (nI 0).toNatClampNeg = 0 := tN (by omega)
    refine ⟨0, up2 I 203 0 (nI k), up2 I' 220 0 (nI k), hp, ?_, ?_, fun j hj => ?_, fun q => absurd q (by omega), g3, fun q j hq => by rw [u_o hq], fun q j hq => by rw [u_o hq]⟩
    · simp only [↓reduceIte, Hol_sortToldCoins_42, z, G, t, nS, Option.bind_some]
    · simp only [↓reduceIte, Mod_pots_50, z, G, t, nS, Option.bind_some]
    · unfold ins1
      by_cases q : j = 0
      · rw [if_neg (by omega), if_pos q, q, u_s, u_s]; exact ⟨rfl, rfl⟩
      · rw [if_neg (by omega), if_neg q, u_j q, u_j q]; exact g2 j (by omega) (by omega)
  | succ p ih =>
    intro f f' I I' h hk hA hp hf hf' g1 g2 g3
    obtain ⟨f, rfl⟩ : ∃ e, f = e + 1 := ⟨f - 1, by omega⟩
    obtain ⟨f', rfl⟩ : ∃ e, f' = e + 1 := ⟨f' - 1, by omega⟩
    have hb := h.bd
    obtain ⟨a1, a2⟩ := g1 p (by omega)
    have hAp := hA p (by omega)
    have z : (nI (p + 1) ≤ (0 : Int32)) = False := by rw [L_0, le_nI (by omega) (by omega)]; exact eq_false (by omega)
    have pm : nI (p + 1) - 1 = nI p := nI_pred p
    have pa : nI (p + 1) + (-1) = nI p := add_m1 p
    have G : in9 (nI (p + 1)) 10 = True := in9_t (by omega) (by omega)
    have t : (nI (p + 1)).toNatClampNeg = p + 1 := tN (by omega)
    have Gp : in9 (nI p) 10 = True := in9_t (by omega) (by omega)
    have tp : (nI p).toNatClampNeg = p := tN (by omega)
    have yb := year_b h hAp
    have ybk := year_b h hk
    obtain ⟨w1, w2⟩ := year_w h hAp
    obtain ⟨w3, w4⟩ := year_w h hk
    have G7 : in9 (70 + nI (A p)) 451 = True := by rw [ax_70]; exact in9_t (by omega) (by omega)
    have T7 : ((70 : Int32) + nI (A p)).toNatClampNeg = 70 + A p := by rw [ax_70]; exact tN (by omega)
    have G8 : in9 (70 + nI k) 451 = True := by rw [ax_70]; exact in9_t (by omega) (by omega)
    have T8 : ((70 : Int32) + nI k).toNatClampNeg = 70 + k := by rw [ax_70]; exact tN (by omega)
    have cc : (nI (yF (I' 206) (A p)) ≤ nI (yF (I' 206) k)) = (yF (I' 206) (A p) ≤ yF (I' 206) k) := le_nI (by omega) (by omega)
    by_cases le : yF (I' 206) (A p) ≤ yF (I' 206) k
    · refine ⟨p + 1, up2 I 203 (p + 1) (nI k), up2 I' 220 (p + 1) (nI k), hp, ?_, ?_, fun j hj => ?_, fun _ => le, g3, fun q j hq => by rw [u_o hq], fun q j hq => by rw [u_o hq]⟩
      · simp only [↓reduceIte, Hol_sortToldCoins_42, Hol_yearOfCoin, z, pm, G, t, Gp, tp, a1, yb, ybk, cc, le, nS, Option.bind_some]
      · simp only [↓reduceIte, Mod_pots_50, z, pm, G, t, Gp, tp, a2, G7, T7, G8, T8, w2, w4, cc, le, nS, Option.bind_some]
      · unfold ins1
        by_cases q : j = p + 1
        · rw [if_neg (by omega), if_pos q, q, u_s, u_s]; exact ⟨rfl, rfl⟩
        · rw [u_j q, u_j q]
          by_cases q2 : j < p + 1
          · rw [if_pos q2]; exact g1 j q2
          · rw [if_neg q2, if_neg q]; exact g2 j (by omega) (by omega)
    · obtain ⟨p0, I1, I1', x1, x2, x3, x4, x5, x6, x7, x8⟩ := ih f f' (up2 I 203 (p + 1) (nI (A p))) (up2 I' 220 (p + 1) (nI (A p))) (h.of (fun q j hq => by rw [u_o (by omega)]) (fun j _ => by rw [u_o (by omega)])) hk hA (by omega) (by omega) (by omega) (fun j hj => by rw [u_j (by omega), u_j (by omega)]; exact g1 j (by omega)) (fun j hj hj2 => by
        by_cases q : j = p + 1
        · rw [q, u_s, u_s]; exact ⟨rfl, rfl⟩
        · rw [u_j q, u_j q]; exact g2 j (by omega) hj2) (fun j hj hj2 => by
        rw [u_o (by omega)]
        by_cases q : j = p
        · rw [q]; omega
        · exact g3 j (by omega) hj2)
      rw [u_o (by omega)] at x5 x6
      refine ⟨p0, I1, I1', x1, ?_, ?_, x4, x5, x6, fun q j hq => by rw [x7 q j hq, u_o hq], fun q j hq => by rw [x8 q j hq, u_o hq]⟩
      · rw [← x2]; simp only [↓reduceIte, Hol_sortToldCoins_42, Hol_yearOfCoin, z, pm, pa, G, t, Gp, tp, a1, yb, ybk, cc, le, nS, Option.bind_some]
      · rw [← x3]; simp only [↓reduceIte, Mod_pots_50, z, pm, pa, G, t, Gp, tp, a2, G7, T7, G8, T8, w2, w4, cc, le, nS, Option.bind_some]
theorem ins_sorted {y A : Nat → Nat} {c p k : Nat} (hp : p ≤ c) (h : ∀ i j, i < j → j < c → y (A i) ≤ y (A j)) (h1 : 0 < p → y (A (p - 1)) ≤ y k) (h2 : ∀ j, p ≤ j → j < c → y k < y (A j)) : ∀ i j, i < j → j < c + 1 → y (ins1 A p k i) ≤ y (ins1 A p k j) := by
  intro i j hij hj
  have low : ∀ i, i < p → y (A i) ≤ y k := by
    intro i hi
    by_cases q : i = p - 1
    · rw [q]; exact h1 (by omega)
    · exact Nat.le_trans (h i (p - 1) (by omega) (by omega)) (h1 (by omega))
  unfold ins1
  by_cases a : i < p
  · rw [if_pos a]
    by_cases d : j < p
    · rw [if_pos d]; exact h i j hij (by omega)
    · rw [if_neg d]
      by_cases e : j = p
      · rw [if_pos e]; exact low i a
      · rw [if_neg e]
        exact Nat.le_trans (low i a) (Nat.le_of_lt (h2 (j - 1) (by omega) (by omega)))
  · rw [if_neg a, if_neg (show ¬ j < p by omega), if_neg (show ¬ j = p by omega)]
    by_cases e : i = p
    · rw [if_pos e]; exact Nat.le_of_lt (h2 (j - 1) (by omega) (by omega))
    · rw [if_neg e]
      exact h (i - 1) (j - 1) (by omega) (by omega)
end Q40

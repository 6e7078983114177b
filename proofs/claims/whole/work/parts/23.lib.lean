/-! numbers in range, and the pictures that tie the two sides together -/
theorem nA (a b : Nat) : nI a + nI b = nI (a + b) := (Int32.ofNat_add a b).symm
theorem nM (a b : Nat) : nI a * nI b = nI (a * b) := (Int32.ofNat_mul a b).symm
theorem nS (a : Nat) : nI a + 1 = nI (a + 1) := (Int32.ofNat_add a 1).symm
theorem nSb {a b : Nat} (h : b ≤ a) : nI a - nI b = nI (a - b) := (Int32.ofNat_sub a b h).symm
theorem tN {k : Nat} (h : k < 2147483648) : (nI k).toNatClampNeg = k := Int32.toNatClampNeg_ofNat_of_lt h
theorem nInt {k : Nat} (h : k < 2147483648) : (nI k).toInt = (k : Int) := Int32.toInt_ofNat_of_lt h
theorem le_nI {a b : Nat} (ha : a < 2147483648) (hb : b < 2147483648) : (nI a ≤ nI b) = (a ≤ b) := propext (Int32.ofNat_le_iff_le ha hb)
theorem lt_nI {a b : Nat} (ha : a < 2147483648) (hb : b < 2147483648) : (nI a < nI b) = (a < b) := propext (Int32.ofNat_lt_iff_lt ha hb)
theorem eq_nI {a b : Nat} (ha : a < 2147483648) (hb : b < 2147483648) : (nI a = nI b) = (a = b) := propext ⟨fun h => by have := congrArg Int32.toNatClampNeg h; rwa [tN ha, tN hb] at this, fun h => by rw [h]⟩
theorem in9_t {k n : Nat} (h : k < n) (h2 : k < 2147483648) : in9 (nI k) n = True := eq_true ⟨by rw [show (0 : Int32) = nI 0 from rfl, le_nI (by decide) h2]; exact Nat.zero_le _, by rw [tN h2]; exact h⟩
theorem ifT {α : Type} {c : Prop} [Decidable c] {a b : α} (h : c) : (if c then a else b) = a := if_pos h
theorem ifF {α : Type} {c : Prop} [Decidable c] {a b : α} (h : ¬ c) : (if c then a else b) = b := if_neg h
theorem nNN {x : Int32} (h : ¬ x < 0) : ∃ j : Nat, j < 2147483648 ∧ x = nI j := nI_of h
theorem nIX {x : Int32} {n : Nat} (h : ¬ x < 0) (h2 : ¬ nI n ≤ x) (hn : n < 2147483648) : ∃ j : Nat, j < n ∧ x = nI j := by
  obtain ⟨j, hj, rfl⟩ := nNN h
  rw [le_nI hn hj] at h2
  exact ⟨j, by omega, rfl⟩
theorem u_s {α : Type} {f : Nat → Nat → α} {a k : Nat} {v : α} : up2 f a k v a k = v := by simp [up2]
theorem u_o {α : Type} {f : Nat → Nat → α} {a k : Nat} {v : α} {b : Nat} (h : b ≠ a) : up2 f a k v b = f b := by funext j; simp [up2, h]
theorem u_j {α : Type} {f : Nat → Nat → α} {a k : Nat} {v : α} {j : Nat} (h : j ≠ k) : up2 f a k v a j = f a j := by simp [up2, h]
theorem ax_1 (k : Nat) : (1 : Int32) + nI k = nI (1 + k) := nA 1 k
theorem ax_2 (k : Nat) : (2 : Int32) + nI k = nI (2 + k) := nA 2 k
theorem ax_3 (k : Nat) : (3 : Int32) + nI k = nI (3 + k) := nA 3 k
theorem ax_4 (k : Nat) : (4 : Int32) + nI k = nI (4 + k) := nA 4 k
theorem ax_5 (k : Nat) : (5 : Int32) + nI k = nI (5 + k) := nA 5 k
theorem ax_6 (k : Nat) : (6 : Int32) + nI k = nI (6 + k) := nA 6 k
theorem ax_10 (k : Nat) : (10 : Int32) + nI k = nI (10 + k) := nA 10 k
theorem ax_12 (k : Nat) : (12 : Int32) + nI k = nI (12 + k) := nA 12 k
theorem ax_18 (k : Nat) : (18 : Int32) + nI k = nI (18 + k) := nA 18 k
theorem ax_21 (k : Nat) : (21 : Int32) + nI k = nI (21 + k) := nA 21 k
theorem ax_30 (k : Nat) : (30 : Int32) + nI k = nI (30 + k) := nA 30 k
theorem ax_40 (k : Nat) : (40 : Int32) + nI k = nI (40 + k) := nA 40 k
theorem ax_50 (k : Nat) : (50 : Int32) + nI k = nI (50 + k) := nA 50 k
theorem ax_60 (k : Nat) : (60 : Int32) + nI k = nI (60 + k) := nA 60 k
theorem ax_70 (k : Nat) : (70 : Int32) + nI k = nI (70 + k) := nA 70 k
theorem ax_80 (k : Nat) : (80 : Int32) + nI k = nI (80 + k) := nA 80 k
theorem ax_90 (k : Nat) : (90 : Int32) + nI k = nI (90 + k) := nA 90 k
theorem ax_96 (k : Nat) : (96 : Int32) + nI k = nI (96 + k) := nA 96 k
theorem ax_105 (k : Nat) : (105 : Int32) + nI k = nI (105 + k) := nA 105 k
theorem ax_107 (k : Nat) : (107 : Int32) + nI k = nI (107 + k) := nA 107 k
theorem ax_115 (k : Nat) : (115 : Int32) + nI k = nI (115 + k) := nA 115 k
theorem ax_125 (k : Nat) : (125 : Int32) + nI k = nI (125 + k) := nA 125 k
theorem ax_135 (k : Nat) : (135 : Int32) + nI k = nI (135 + k) := nA 135 k
theorem ax_145 (k : Nat) : (145 : Int32) + nI k = nI (145 + k) := nA 145 k
theorem ax_155 (k : Nat) : (155 : Int32) + nI k = nI (155 + k) := nA 155 k
theorem ax_161 (k : Nat) : (161 : Int32) + nI k = nI (161 + k) := nA 161 k
theorem ax_167 (k : Nat) : (167 : Int32) + nI k = nI (167 + k) := nA 167 k
theorem ax_173 (k : Nat) : (173 : Int32) + nI k = nI (173 + k) := nA 173 k
theorem ax_211 (k : Nat) : (211 : Int32) + nI k = nI (211 + k) := nA 211 k
theorem ax_451 (k : Nat) : (451 : Int32) + nI k = nI (451 + k) := nA 451 k
theorem ax_102 (k : Nat) : (102 : Int32) + nI k = nI (102 + k) := nA 102 k
theorem mx_2 (k : Nat) : (2 : Int32) * nI k = nI (2 * k) := nM 2 k
theorem mx_3 (k : Nat) : (3 : Int32) * nI k = nI (3 * k) := nM 3 k
theorem mx_4 (k : Nat) : (4 : Int32) * nI k = nI (4 * k) := nM 4 k
theorem mx_6 (k : Nat) : (6 : Int32) * nI k = nI (6 * k) := nM 6 k
theorem mx_107 (k : Nat) : (107 : Int32) * nI k = nI (107 * k) := nM 107 k
theorem mx_22 (k : Nat) : (22 : Int32) * nI k = nI (22 * k) := nM 22 k
theorem mx_451 (k : Nat) : (451 : Int32) * nI k = nI (451 * k) := nM 451 k
theorem L_0 : (0 : Int32) = nI 0 := id rfl
theorem L_1 : (1 : Int32) = nI 1 := id rfl
theorem L_2 : (2 : Int32) = nI 2 := id rfl
theorem L_3 : (3 : Int32) = nI 3 := id rfl
theorem L_4 : (4 : Int32) = nI 4 := id rfl
theorem L_5 : (5 : Int32) = nI 5 := id rfl
theorem L_6 : (6 : Int32) = nI 6 := id rfl
theorem L_7 : (7 : Int32) = nI 7 := id rfl
theorem L_8 : (8 : Int32) = nI 8 := id rfl
theorem L_9 : (9 : Int32) = nI 9 := id rfl
theorem L_10 : (10 : Int32) = nI 10 := id rfl
theorem L_11 : (11 : Int32) = nI 11 := id rfl
theorem L_12 : (12 : Int32) = nI 12 := id rfl
theorem L_20 : (20 : Int32) = nI 20 := id rfl
theorem L_30 : (30 : Int32) = nI 30 := id rfl
theorem L_36 : (36 : Int32) = nI 36 := id rfl
theorem L_39 : (39 : Int32) = nI 39 := id rfl
theorem L_40 : (40 : Int32) = nI 40 := id rfl
theorem L_50 : (50 : Int32) = nI 50 := id rfl
theorem L_59 : (59 : Int32) = nI 59 := id rfl
theorem L_60 : (60 : Int32) = nI 60 := id rfl
theorem L_99 : (99 : Int32) = nI 99 := id rfl
theorem L_100 : (100 : Int32) = nI 100 := id rfl
theorem L_400 : (400 : Int32) = nI 400 := id rfl
theorem L_451 : (451 : Int32) = nI 451 := id rfl
theorem L_900 : (900 : Int32) = nI 900 := id rfl
theorem L_940 : (940 : Int32) = nI 940 := id rfl
theorem L_999 : (999 : Int32) = nI 999 := id rfl
theorem T_0 : (0 : Int32).toNatClampNeg = 0 := id rfl
theorem T_1 : (1 : Int32).toNatClampNeg = 1 := id rfl
theorem T_2 : (2 : Int32).toNatClampNeg = 2 := id rfl
theorem T_3 : (3 : Int32).toNatClampNeg = 3 := id rfl
theorem T_4 : (4 : Int32).toNatClampNeg = 4 := id rfl
theorem T_5 : (5 : Int32).toNatClampNeg = 5 := id rfl
theorem T_6 : (6 : Int32).toNatClampNeg = 6 := id rfl
theorem T_7 : (7 : Int32).toNatClampNeg = 7 := id rfl
theorem T_8 : (8 : Int32).toNatClampNeg = 8 := id rfl
theorem T_9 : (9 : Int32).toNatClampNeg = 9 := id rfl
theorem T_10 : (10 : Int32).toNatClampNeg = 10 := id rfl
theorem T_11 : (11 : Int32).toNatClampNeg = 11 := id rfl
theorem T_18 : (18 : Int32).toNatClampNeg = 18 := id rfl
theorem T_19 : (19 : Int32).toNatClampNeg = 19 := id rfl
theorem T_20 : (20 : Int32).toNatClampNeg = 20 := id rfl
theorem T_21 : (21 : Int32).toNatClampNeg = 21 := id rfl
theorem T_102 : (102 : Int32).toNatClampNeg = 102 := id rfl
theorem T_103 : (103 : Int32).toNatClampNeg = 103 := id rfl
theorem T_104 : (104 : Int32).toNatClampNeg = 104 := id rfl
theorem T_209 : (209 : Int32).toNatClampNeg = 209 := id rfl
theorem T_210 : (210 : Int32).toNatClampNeg = 210 := id rfl
theorem T_211 : (211 : Int32).toNatClampNeg = 211 := id rfl
/-- a State at b, as the model's numbers w have it -/
def StR (b nF : Nat) (I : FI) (w : Nat → Int32) : Prop :=
  (∀ f, f < nF → I (b + 1) f = w (105 + f)) ∧ (∀ f, f < nF → I (b + 2) f = w (115 + f)) ∧ (∀ f, f < nF → I (b + 3) f = w (125 + f)) ∧ (∀ f, f < nF → I (b + 4) f = w (135 + f)) ∧ (∀ f, f < nF → I (b + 5) f = w (145 + f)) ∧ (∀ f, f < 6 → I (b + 6) f = w (155 + f)) ∧ (∀ f, f < 6 → I (b + 7) f = w (161 + f)) ∧ (∀ f, f < 6 → I (b + 8) f = w (167 + f)) ∧ (∀ f, f < 36 → I (b + 9) f = w (173 + f)) ∧ I b 9 = w 102 ∧ I b 10 = w 104
theorem StR.x {b nF : Nat} {I : FI} {w : Nat → Int32} (h : StR b nF I w) {f : Nat} (hf : f < nF) : I (b + 1) f = w (105 + f) := h.1 f hf
theorem StR.y {b nF : Nat} {I : FI} {w : Nat → Int32} (h : StR b nF I w) {f : Nat} (hf : f < nF) : I (b + 2) f = w (115 + f) := h.2.1 f hf
theorem StR.deep {b nF : Nat} {I : FI} {w : Nat → Int32} (h : StR b nF I w) {f : Nat} (hf : f < nF) : I (b + 3) f = w (125 + f) := h.2.2.1 f hf
theorem StR.st {b nF : Nat} {I : FI} {w : Nat → Int32} (h : StR b nF I w) {f : Nat} (hf : f < nF) : I (b + 4) f = w (135 + f) := h.2.2.2.1 f hf
theorem StR.who {b nF : Nat} {I : FI} {w : Nat → Int32} (h : StR b nF I w) {f : Nat} (hf : f < nF) : I (b + 5) f = w (145 + f) := h.2.2.2.2.1 f hf
theorem StR.coin {b nF : Nat} {I : FI} {w : Nat → Int32} (h : StR b nF I w) {f : Nat} (hf : f < 6) : I (b + 6) f = w (155 + f) := h.2.2.2.2.2.1 f hf
theorem StR.digs {b nF : Nat} {I : FI} {w : Nat → Int32} (h : StR b nF I w) {f : Nat} (hf : f < 6) : I (b + 7) f = w (161 + f) := h.2.2.2.2.2.2.1 f hf
theorem StR.got {b nF : Nat} {I : FI} {w : Nat → Int32} (h : StR b nF I w) {f : Nat} (hf : f < 6) : I (b + 8) f = w (167 + f) := h.2.2.2.2.2.2.2.1 f hf
theorem StR.dug {b nF : Nat} {I : FI} {w : Nat → Int32} (h : StR b nF I w) {f : Nat} (hf : f < 36) : I (b + 9) f = w (173 + f) := h.2.2.2.2.2.2.2.2.1 f hf
theorem StR.night {b nF : Nat} {I : FI} {w : Nat → Int32} (h : StR b nF I w) : I b 9 = w 102 := h.2.2.2.2.2.2.2.2.2.1
theorem StR.ploughs {b nF : Nat} {I : FI} {w : Nat → Int32} (h : StR b nF I w) : I b 10 = w 104 := h.2.2.2.2.2.2.2.2.2.2
theorem StR.set_x {b nF n : Nat} {I I' : FI} (h : StR b nF I (I' n)) (hn : nF ≤ 10) {i : Nat} (hi : i < 10) {v : Int32} : StR b nF (up2 I (b + 1) i v) (up2 I' n (105 + i) v n) := ⟨fun f hf => by
    by_cases e : f = i
    · subst e; rw [u_s, u_s]
    · rw [u_j e, u_j (by omega)]; exact h.x hf, fun f hf => by rw [u_o (by omega), u_j (by omega)]; exact h.y hf, fun f hf => by rw [u_o (by omega), u_j (by omega)]; exact h.deep hf, fun f hf => by rw [u_o (by omega), u_j (by omega)]; exact h.st hf, fun f hf => by rw [u_o (by omega), u_j (by omega)]; exact h.who hf, fun f hf => by rw [u_o (by omega), u_j (by omega)]; exact h.coin hf, fun f hf => by rw [u_o (by omega), u_j (by omega)]; exact h.digs hf, fun f hf => by rw [u_o (by omega), u_j (by omega)]; exact h.got hf, fun f hf => by rw [u_o (by omega), u_j (by omega)]; exact h.dug hf, by rw [u_o (by omega), u_j (by omega)]; exact h.night, by rw [u_o (by omega), u_j (by omega)]; exact h.ploughs⟩
theorem StR.set_y {b nF n : Nat} {I I' : FI} (h : StR b nF I (I' n)) (hn : nF ≤ 10) {i : Nat} (hi : i < 10) {v : Int32} : StR b nF (up2 I (b + 2) i v) (up2 I' n (115 + i) v n) := ⟨fun f hf => by rw [u_o (by omega), u_j (by omega)]; exact h.x hf, fun f hf => by
    by_cases e : f = i
    · subst e; rw [u_s, u_s]
    · rw [u_j e, u_j (by omega)]; exact h.y hf, fun f hf => by rw [u_o (by omega), u_j (by omega)]; exact h.deep hf, fun f hf => by rw [u_o (by omega), u_j (by omega)]; exact h.st hf, fun f hf => by rw [u_o (by omega), u_j (by omega)]; exact h.who hf, fun f hf => by rw [u_o (by omega), u_j (by omega)]; exact h.coin hf, fun f hf => by rw [u_o (by omega), u_j (by omega)]; exact h.digs hf, fun f hf => by rw [u_o (by omega), u_j (by omega)]; exact h.got hf, fun f hf => by rw [u_o (by omega), u_j (by omega)]; exact h.dug hf, by rw [u_o (by omega), u_j (by omega)]; exact h.night, by rw [u_o (by omega), u_j (by omega)]; exact h.ploughs⟩
theorem StR.set_deep {b nF n : Nat} {I I' : FI} (h : StR b nF I (I' n)) (hn : nF ≤ 10) {i : Nat} (hi : i < 10) {v : Int32} : StR b nF (up2 I (b + 3) i v) (up2 I' n (125 + i) v n) := ⟨fun f hf => by rw [u_o (by omega), u_j (by omega)]; exact h.x hf, fun f hf => by rw [u_o (by omega), u_j (by omega)]; exact h.y hf, fun f hf => by
    by_cases e : f = i
    · subst e; rw [u_s, u_s]
    · rw [u_j e, u_j (by omega)]; exact h.deep hf, fun f hf => by rw [u_o (by omega), u_j (by omega)]; exact h.st hf, fun f hf => by rw [u_o (by omega), u_j (by omega)]; exact h.who hf, fun f hf => by rw [u_o (by omega), u_j (by omega)]; exact h.coin hf, fun f hf => by rw [u_o (by omega), u_j (by omega)]; exact h.digs hf, fun f hf => by rw [u_o (by omega), u_j (by omega)]; exact h.got hf, fun f hf => by rw [u_o (by omega), u_j (by omega)]; exact h.dug hf, by rw [u_o (by omega), u_j (by omega)]; exact h.night, by rw [u_o (by omega), u_j (by omega)]; exact h.ploughs⟩
theorem StR.set_st {b nF n : Nat} {I I' : FI} (h : StR b nF I (I' n)) (hn : nF ≤ 10) {i : Nat} (hi : i < 10) {v : Int32} : StR b nF (up2 I (b + 4) i v) (up2 I' n (135 + i) v n) := ⟨fun f hf => by rw [u_o (by omega), u_j (by omega)]; exact h.x hf, fun f hf => by rw [u_o (by omega), u_j (by omega)]; exact h.y hf, fun f hf => by rw [u_o (by omega), u_j (by omega)]; exact h.deep hf, fun f hf => by
    by_cases e : f = i
    · subst e; rw [u_s, u_s]
    · rw [u_j e, u_j (by omega)]; exact h.st hf, fun f hf => by rw [u_o (by omega), u_j (by omega)]; exact h.who hf, fun f hf => by rw [u_o (by omega), u_j (by omega)]; exact h.coin hf, fun f hf => by rw [u_o (by omega), u_j (by omega)]; exact h.digs hf, fun f hf => by rw [u_o (by omega), u_j (by omega)]; exact h.got hf, fun f hf => by rw [u_o (by omega), u_j (by omega)]; exact h.dug hf, by rw [u_o (by omega), u_j (by omega)]; exact h.night, by rw [u_o (by omega), u_j (by omega)]; exact h.ploughs⟩
theorem StR.set_who {b nF n : Nat} {I I' : FI} (h : StR b nF I (I' n)) (hn : nF ≤ 10) {i : Nat} (hi : i < 10) {v : Int32} : StR b nF (up2 I (b + 5) i v) (up2 I' n (145 + i) v n) := ⟨fun f hf => by rw [u_o (by omega), u_j (by omega)]; exact h.x hf, fun f hf => by rw [u_o (by omega), u_j (by omega)]; exact h.y hf, fun f hf => by rw [u_o (by omega), u_j (by omega)]; exact h.deep hf, fun f hf => by rw [u_o (by omega), u_j (by omega)]; exact h.st hf, fun f hf => by
    by_cases e : f = i
    · subst e; rw [u_s, u_s]
    · rw [u_j e, u_j (by omega)]; exact h.who hf, fun f hf => by rw [u_o (by omega), u_j (by omega)]; exact h.coin hf, fun f hf => by rw [u_o (by omega), u_j (by omega)]; exact h.digs hf, fun f hf => by rw [u_o (by omega), u_j (by omega)]; exact h.got hf, fun f hf => by rw [u_o (by omega), u_j (by omega)]; exact h.dug hf, by rw [u_o (by omega), u_j (by omega)]; exact h.night, by rw [u_o (by omega), u_j (by omega)]; exact h.ploughs⟩
theorem StR.set_coin {b nF n : Nat} {I I' : FI} (h : StR b nF I (I' n)) (hn : nF ≤ 10) {i : Nat} (hi : i < 6) {v : Int32} : StR b nF (up2 I (b + 6) i v) (up2 I' n (155 + i) v n) := ⟨fun f hf => by rw [u_o (by omega), u_j (by omega)]; exact h.x hf, fun f hf => by rw [u_o (by omega), u_j (by omega)]; exact h.y hf, fun f hf => by rw [u_o (by omega), u_j (by omega)]; exact h.deep hf, fun f hf => by rw [u_o (by omega), u_j (by omega)]; exact h.st hf, fun f hf => by rw [u_o (by omega), u_j (by omega)]; exact h.who hf, fun f hf => by
    by_cases e : f = i
    · subst e; rw [u_s, u_s]
    · rw [u_j e, u_j (by omega)]; exact h.coin hf, fun f hf => by rw [u_o (by omega), u_j (by omega)]; exact h.digs hf, fun f hf => by rw [u_o (by omega), u_j (by omega)]; exact h.got hf, fun f hf => by rw [u_o (by omega), u_j (by omega)]; exact h.dug hf, by rw [u_o (by omega), u_j (by omega)]; exact h.night, by rw [u_o (by omega), u_j (by omega)]; exact h.ploughs⟩
theorem StR.set_digs {b nF n : Nat} {I I' : FI} (h : StR b nF I (I' n)) (hn : nF ≤ 10) {i : Nat} (hi : i < 6) {v : Int32} : StR b nF (up2 I (b + 7) i v) (up2 I' n (161 + i) v n) := ⟨fun f hf => by rw [u_o (by omega), u_j (by omega)]; exact h.x hf, fun f hf => by rw [u_o (by omega), u_j (by omega)]; exact h.y hf, fun f hf => by rw [u_o (by omega), u_j (by omega)]; exact h.deep hf, fun f hf => by rw [u_o (by omega), u_j (by omega)]; exact h.st hf, fun f hf => by rw [u_o (by omega), u_j (by omega)]; exact h.who hf, fun f hf => by rw [u_o (by omega), u_j (by omega)]; exact h.coin hf, fun f hf => by
    by_cases e : f = i
    · subst e; rw [u_s, u_s]
    · rw [u_j e, u_j (by omega)]; exact h.digs hf, fun f hf => by rw [u_o (by omega), u_j (by omega)]; exact h.got hf, fun f hf => by rw [u_o (by omega), u_j (by omega)]; exact h.dug hf, by rw [u_o (by omega), u_j (by omega)]; exact h.night, by rw [u_o (by omega), u_j (by omega)]; exact h.ploughs⟩
theorem StR.set_got {b nF n : Nat} {I I' : FI} (h : StR b nF I (I' n)) (hn : nF ≤ 10) {i : Nat} (hi : i < 6) {v : Int32} : StR b nF (up2 I (b + 8) i v) (up2 I' n (167 + i) v n) := ⟨fun f hf => by rw [u_o (by omega), u_j (by omega)]; exact h.x hf, fun f hf => by rw [u_o (by omega), u_j (by omega)]; exact h.y hf, fun f hf => by rw [u_o (by omega), u_j (by omega)]; exact h.deep hf, fun f hf => by rw [u_o (by omega), u_j (by omega)]; exact h.st hf, fun f hf => by rw [u_o (by omega), u_j (by omega)]; exact h.who hf, fun f hf => by rw [u_o (by omega), u_j (by omega)]; exact h.coin hf, fun f hf => by rw [u_o (by omega), u_j (by omega)]; exact h.digs hf, fun f hf => by
    by_cases e : f = i
    · subst e; rw [u_s, u_s]
    · rw [u_j e, u_j (by omega)]; exact h.got hf, fun f hf => by rw [u_o (by omega), u_j (by omega)]; exact h.dug hf, by rw [u_o (by omega), u_j (by omega)]; exact h.night, by rw [u_o (by omega), u_j (by omega)]; exact h.ploughs⟩
theorem StR.set_dug {b nF n : Nat} {I I' : FI} (h : StR b nF I (I' n)) (hn : nF ≤ 10) {i : Nat} (hi : i < 36) {v : Int32} : StR b nF (up2 I (b + 9) i v) (up2 I' n (173 + i) v n) := ⟨fun f hf => by rw [u_o (by omega), u_j (by omega)]; exact h.x hf, fun f hf => by rw [u_o (by omega), u_j (by omega)]; exact h.y hf, fun f hf => by rw [u_o (by omega), u_j (by omega)]; exact h.deep hf, fun f hf => by rw [u_o (by omega), u_j (by omega)]; exact h.st hf, fun f hf => by rw [u_o (by omega), u_j (by omega)]; exact h.who hf, fun f hf => by rw [u_o (by omega), u_j (by omega)]; exact h.coin hf, fun f hf => by rw [u_o (by omega), u_j (by omega)]; exact h.digs hf, fun f hf => by rw [u_o (by omega), u_j (by omega)]; exact h.got hf, fun f hf => by
    by_cases e : f = i
    · subst e; rw [u_s, u_s]
    · rw [u_j e, u_j (by omega)]; exact h.dug hf, by rw [u_o (by omega), u_j (by omega)]; exact h.night, by rw [u_o (by omega), u_j (by omega)]; exact h.ploughs⟩
theorem StR.set_night {b nF n : Nat} {I I' : FI} (h : StR b nF I (I' n)) (hn : nF ≤ 10) {v : Int32} : StR b nF (up2 I b 9 v) (up2 I' n 102 v n) := ⟨fun f hf => by rw [u_o (by omega), u_j (by omega)]; exact h.x hf, fun f hf => by rw [u_o (by omega), u_j (by omega)]; exact h.y hf, fun f hf => by rw [u_o (by omega), u_j (by omega)]; exact h.deep hf, fun f hf => by rw [u_o (by omega), u_j (by omega)]; exact h.st hf, fun f hf => by rw [u_o (by omega), u_j (by omega)]; exact h.who hf, fun f hf => by rw [u_o (by omega), u_j (by omega)]; exact h.coin hf, fun f hf => by rw [u_o (by omega), u_j (by omega)]; exact h.digs hf, fun f hf => by rw [u_o (by omega), u_j (by omega)]; exact h.got hf, fun f hf => by rw [u_o (by omega), u_j (by omega)]; exact h.dug hf, by rw [u_s, u_s], by rw [u_j (by omega), u_j (by omega)]; exact h.ploughs⟩
theorem StR.set_ploughs {b nF n : Nat} {I I' : FI} (h : StR b nF I (I' n)) (hn : nF ≤ 10) {v : Int32} : StR b nF (up2 I b 10 v) (up2 I' n 104 v n) := ⟨fun f hf => by rw [u_o (by omega), u_j (by omega)]; exact h.x hf, fun f hf => by rw [u_o (by omega), u_j (by omega)]; exact h.y hf, fun f hf => by rw [u_o (by omega), u_j (by omega)]; exact h.deep hf, fun f hf => by rw [u_o (by omega), u_j (by omega)]; exact h.st hf, fun f hf => by rw [u_o (by omega), u_j (by omega)]; exact h.who hf, fun f hf => by rw [u_o (by omega), u_j (by omega)]; exact h.coin hf, fun f hf => by rw [u_o (by omega), u_j (by omega)]; exact h.digs hf, fun f hf => by rw [u_o (by omega), u_j (by omega)]; exact h.got hf, fun f hf => by rw [u_o (by omega), u_j (by omega)]; exact h.dug hf, by rw [u_j (by omega), u_j (by omega)]; exact h.night, by rw [u_s, u_s]⟩
theorem StR.of {b nF : Nat} {I I1 : FI} {w w1 : Nat → Int32} (h : StR b nF I w) (h1 : ∀ q j, b ≤ q → q ≤ b + 9 → I1 q j = I q j) (h2 : ∀ j, 102 ≤ j → j < 209 → w1 j = w j) (hn : nF ≤ 10) : StR b nF I1 w1 := ⟨fun f hf => by rw [h1 _ _ (by omega) (by omega), h2 _ (by omega) (by omega)]; exact h.x hf, fun f hf => by rw [h1 _ _ (by omega) (by omega), h2 _ (by omega) (by omega)]; exact h.y hf, fun f hf => by rw [h1 _ _ (by omega) (by omega), h2 _ (by omega) (by omega)]; exact h.deep hf, fun f hf => by rw [h1 _ _ (by omega) (by omega), h2 _ (by omega) (by omega)]; exact h.st hf, fun f hf => by rw [h1 _ _ (by omega) (by omega), h2 _ (by omega) (by omega)]; exact h.who hf, fun f hf => by rw [h1 _ _ (by omega) (by omega), h2 _ (by omega) (by omega)]; exact h.coin hf, fun f hf => by rw [h1 _ _ (by omega) (by omega), h2 _ (by omega) (by omega)]; exact h.digs hf, fun f hf => by rw [h1 _ _ (by omega) (by omega), h2 _ (by omega) (by omega)]; exact h.got hf, fun f hf => by rw [h1 _ _ (by omega) (by omega), h2 _ (by omega) (by omega)]; exact h.dug hf, by rw [h1 _ _ (by omega) (by omega), h2 _ (by omega) (by omega)]; exact h.night, by rw [h1 _ _ (by omega) (by omega), h2 _ (by omega) (by omega)]; exact h.ploughs⟩
/-- what a FIELD's numbers may be -/
def LW (w : Nat → Int32) (nP nF nE nW nH nR : Nat) : Prop := (w 0 = nI nP ∧ nP ≤ 6) ∧ (w 1 = nI nF ∧ nF ≤ 10) ∧ (w 2 = nI nE ∧ nE ≤ 6) ∧ (w 3 = nI nW ∧ 2 ≤ nW ∧ nW ≤ 6) ∧ (w 4 = nI nH ∧ 2 ≤ nH ∧ nH ≤ 6) ∧ (w 5 = nI nR ∧ nR ≤ 12) ∧
  (∀ k, k < 12 → ∃ v, v ≤ 12 ∧ w (6 + k) = nI v) ∧ (∀ k, k < 3 → ∃ v, 1 ≤ v ∧ v ≤ 99 ∧ w (18 + k) = nI v) ∧ (∀ k, k < 9 → ∃ v, v ≤ 12 ∧ w (21 + k) = nI v) ∧
  (∀ f, f < 10 → (∃ v, v ≤ 3 ∧ w (30 + f) = nI v) ∧ (∃ v, v < nW ∧ w (40 + f) = nI v) ∧ (∃ v, v < nH ∧ w (50 + f) = nI v) ∧ (∃ v, v ≤ 9 ∧ w (60 + f) = nI v) ∧ (∃ v, v ≤ 999 ∧ w (70 + f) = nI v) ∧ (∃ v, v ≤ 99 ∧ w (80 + f) = nI v)) ∧
  (∀ k, k < 6 → (∃ v, v ≤ 999 ∧ w (90 + k) = nI v) ∧ (∃ v, v ≤ 999 ∧ w (96 + k) = nI v))
/-- a Land at a, as the model's numbers w have it -/
def LdR (a nF nE : Nat) (I : FI) (w : Nat → Int32) : Prop := (I a 11 = w 0 ∧ I a 12 = w 1 ∧ I a 13 = w 2 ∧ I a 8 = w 3 ∧ I a 9 = w 4 ∧ I a 10 = w 5) ∧
  (∀ k, k < 12 → I (a + 6) k = w (6 + k)) ∧ (∀ k, k < 3 → I (a + 7) k = w (18 + k)) ∧ (∀ k, k < 9 → I (a + 8) k = w (21 + k)) ∧
  (∀ f, f < nF → I (a + 4) (f * 6) = w (30 + f) ∧ I (a + 4) (f * 6 + 1) = w (40 + f) ∧ I (a + 4) (f * 6 + 2) = w (50 + f) ∧ I (a + 4) (f * 6 + 3) = w (60 + f) ∧ I (a + 4) (f * 6 + 4) = w (70 + f) ∧ I (a + 4) (f * 6 + 5) = w (80 + f)) ∧
  (∀ k, k < nE → I (a + 5) (2 * k) = w (90 + k) ∧ I (a + 5) (2 * k + 1) = w (96 + k))
/-- what the numbers of what is so may be -/
def SW (w : Nat → Int32) (nP nF nW nH : Nat) : Prop :=
  (∀ f, f < 10 → ∃ v, v ≤ 3 ∧ w (135 + f) = nI v) ∧
  (∀ f, f < 10 → w (135 + f) = nI 1 → ∃ v, v < nP ∧ w (145 + f) = nI v) ∧
  (∀ f, f < nF → (∃ v, v < nW ∧ w (105 + f) = nI v) ∧ (∃ v, v < nH ∧ w (115 + f) = nI v) ∧ (∃ v, v ≤ 9 ∧ w (125 + f) = nI v)) ∧
  (∀ c, c < 36 → ∃ v, v ≤ 10 ∧ w (173 + c) = nI v) ∧ (∃ v, v ≤ 400 ∧ w 102 = nI v) ∧
  w 103 = w 161 + w 162 + w 163 + w 164 + w 165 + w 166

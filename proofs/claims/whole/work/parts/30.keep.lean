/-! copies, what is kept of acts: both sides -/
theorem cp2_o {α : Type} {f : Nat → Nat → α} {s sp d dp n c : Nat} (h : c ≠ d) : cp2 f s sp d dp n c = f c := by funext j; simp [cp2, h]
theorem cp2_i {α : Type} {f : Nat → Nat → α} {s sp d dp n j : Nat} (h : dp ≤ j) (h2 : j < dp + n) : cp2 f s sp d dp n d j = f s (sp + (j - dp)) := by simp [cp2, h, h2]
theorem cp2_j {α : Type} {f : Nat → Nat → α} {s sp d dp n j : Nat} (h : j < dp ∨ dp + n ≤ j) : cp2 f s sp d dp n d j = f d j := by
  unfold cp2
  rw [if_neg (by omega)]
theorem cp2_0 {α : Type} {f : Nat → Nat → α} {s sp d dp : Nat} : cp2 f s sp d dp 0 = f := by
  funext q j
  unfold cp2
  rw [if_neg (by omega)]
theorem cp2_s {α : Type} {f : Nat → Nat → α} {s sp d dp k : Nat} : up2 (cp2 f s sp d dp k) d (dp + k) (f s (sp + k)) = cp2 f s sp d dp (k + 1) := by
  funext q j
  unfold up2 cp2
  by_cases h : q = d ∧ j = dp + k
  · obtain ⟨rfl, rfl⟩ := h
    rw [if_pos ⟨rfl, rfl⟩, if_pos (by omega)]
    congr 1; omega
  · rw [if_neg h]
    by_cases g : q = d ∧ dp ≤ j ∧ j < dp + k
    · rw [if_pos g, if_pos (by omega)]
    · rw [if_neg g, if_neg (by omega)]
theorem O_6 : (Int32.ofNat 6).toNatClampNeg = 6 := id rfl
theorem O_10 : (Int32.ofNat 10).toNatClampNeg = 10 := id rfl
theorem O_36 : (Int32.ofNat 36).toNatClampNeg = 36 := id rfl
theorem L_107 : (107 : Int32) = nI 107 := id rfl
theorem L_749 : (749 : Int32) = nI 749 := id rfl
theorem L_22 : (22 : Int32) = nI 22 := id rfl
theorem nAr (k c : Nat) : nI k + nI c = nI (k + c) := nA k c
set_option maxRecDepth 8000 in
theorem copy_e {a b : Nat} (h : a + 10 ≤ b ∨ b + 10 ≤ a) (I : FI) : ∃ I1, State_copy a b I = some I1 ∧ (∀ nF w, nF ≤ 10 → StR b nF I w → StR a nF I1 w) ∧ (∀ q j, q < a ∨ a + 9 < q → I1 q j = I q j) := by
  have e : ∃ I1, State_copy a b I = some I1 := by
    unfold State_copy
    simp (disch := omega) only [ifT, Option.bind_some, Option.some.injEq, exists_eq']
  obtain ⟨I1, e⟩ := e
  refine ⟨I1, e, fun nF w hn hS => ?_, fun q j hq => fr_State_copy (by omega) (by omega) (by omega) (by omega) (by omega) (by omega) (by omega) (by omega) (by omega) (by omega) (by omega) e⟩
  unfold State_copy at e
  simp (disch := omega) only [ifT, Option.bind_some, T_0, O_6, O_10, O_36] at e
  obtain rfl := Option.some.inj e
  refine ⟨fun f hf => ?_, fun f hf => ?_, fun f hf => ?_, fun f hf => ?_, fun f hf => ?_, fun f hf => ?_, fun f hf => ?_, fun f hf => ?_, fun f hf => ?_, ?_, ?_⟩
  · simp (disch := omega) only [u_o, cp2_o, cp2_i, Nat.zero_add, Nat.sub_zero]; exact hS.x hf
  · simp (disch := omega) only [u_o, cp2_o, cp2_i, Nat.zero_add, Nat.sub_zero]; exact hS.y hf
  · simp (disch := omega) only [u_o, cp2_o, cp2_i, Nat.zero_add, Nat.sub_zero]; exact hS.deep hf
  · simp (disch := omega) only [u_o, cp2_o, cp2_i, Nat.zero_add, Nat.sub_zero]; exact hS.st hf
  · simp (disch := omega) only [u_o, cp2_o, cp2_i, Nat.zero_add, Nat.sub_zero]; exact hS.who hf
  · simp (disch := omega) only [u_o, cp2_o, cp2_i, Nat.zero_add, Nat.sub_zero]; exact hS.coin hf
  · simp (disch := omega) only [u_o, cp2_o, cp2_i, Nat.zero_add, Nat.sub_zero]; exact hS.digs hf
  · simp (disch := omega) only [u_o, cp2_o, cp2_i, Nat.zero_add, Nat.sub_zero]; exact hS.got hf
  · simp (disch := omega) only [u_o, cp2_o, cp2_i, Nat.zero_add, Nat.sub_zero]; exact hS.dug hf
  · simp (disch := omega) only [u_s, u_j, u_o, cp2_o]; exact hS.night
  · simp (disch := omega) only [u_s, u_j, u_o, cp2_o]; exact hS.ploughs
theorem aside_e {N : Nat} {I : FI} (hN : 2000 ≤ N) : Mod_layAside N I = some (cp2 I 206 102 210 0 107) := by
  have key : ∀ m k n, k + m = 107 → m < n → Mod_layAside_2 N n (nI k) (cp2 I 206 102 210 0 k) = some (cp2 I 206 102 210 0 107) := by
    intro m
    induction m with
    | zero =>
      intro k n hk hn
      obtain ⟨n, rfl⟩ : ∃ e, n = e + 1 := ⟨n - 1, by omega⟩
      obtain rfl : k = 107 := by omega
      simp (disch := omega) only [Mod_layAside_2, L_107, ax_102, le_nI, ifT]
    | succ m ih =>
      intro k n hk hn
      obtain ⟨n, rfl⟩ : ∃ e, n = e + 1 := ⟨n - 1, by omega⟩
      have h1 := ih (k + 1) n (by omega) (by omega)
      have e := cp2_s (f := I) (s := 206) (sp := 102) (d := 210) (dp := 0) (k := k)
      try simp only [Nat.zero_add] at e
      simp (disch := omega) only [Mod_layAside_2, L_107, ax_102, le_nI, ifF, ifT, in9_t, if_true, tN, nS, Option.bind_some, cp2_o, cp2_j, e]
      exact h1
  have := key 107 0 N (by omega) (by omega)
  rw [cp2_0] at this
  exact this
theorem back_e {N : Nat} {I : FI} (hN : 2000 ≤ N) : Mod_takeBack N I = some (cp2 I 210 0 206 102 107) := by
  have key : ∀ m k n, k + m = 107 → m < n → Mod_takeBack_2 N n (nI k) (cp2 I 210 0 206 102 k) = some (cp2 I 210 0 206 102 107) := by
    intro m
    induction m with
    | zero =>
      intro k n hk hn
      obtain ⟨n, rfl⟩ : ∃ e, n = e + 1 := ⟨n - 1, by omega⟩
      obtain rfl : k = 107 := by omega
      simp (disch := omega) only [Mod_takeBack_2, L_107, ax_102, le_nI, ifT]
    | succ m ih =>
      intro k n hk hn
      obtain ⟨n, rfl⟩ : ∃ e, n = e + 1 := ⟨n - 1, by omega⟩
      have h1 := ih (k + 1) n (by omega) (by omega)
      have e := cp2_s (f := I) (s := 210) (sp := 0) (d := 206) (dp := 102) (k := k)
      try simp only [Nat.zero_add] at e
      simp (disch := omega) only [Mod_takeBack_2, L_107, ax_102, le_nI, ifF, ifT, in9_t, if_true, tN, nS, Option.bind_some, cp2_o, cp2_j, e]
      exact h1
  have := key 107 0 N (by omega) (by omega)
  rw [cp2_0] at this
  exact this
theorem undo_e {N c : Nat} {I : FI} (hN : 2000 ≤ N) (hc : I 204 24 = nI c) (h8 : c < 8) : Mod_undo_26 N N 0 I = some (nI c, cp2 I 209 (107 * c) 206 102 107) := by
  have key : ∀ m k n, k + m = 107 → m < n → Mod_undo_26 N n (nI k) (cp2 I 209 (107 * c) 206 102 k) = some (nI c, cp2 I 209 (107 * c) 206 102 107) := by
    intro m
    induction m with
    | zero =>
      intro k n hk hn
      obtain ⟨n, rfl⟩ : ∃ e, n = e + 1 := ⟨n - 1, by omega⟩
      obtain rfl : k = 107 := by omega
      simp (disch := omega) only [Mod_undo_26, L_107, ax_102, nM, nA, hc, cp2_o, le_nI, ifT]
    | succ m ih =>
      intro k n hk hn
      obtain ⟨n, rfl⟩ : ∃ e, n = e + 1 := ⟨n - 1, by omega⟩
      have h1 := ih (k + 1) n (by omega) (by omega)
      have e := cp2_s (f := I) (s := 209) (sp := 107 * c) (d := 206) (dp := 102) (k := k)
      try simp only [Nat.zero_add] at e
      simp (disch := omega) only [Mod_undo_26, L_107, ax_102, nM, nA, hc, cp2_o, le_nI, ifF, ifT, in9_t, if_true, tN, nS, Option.bind_some, cp2_o, cp2_j, e]
      exact h1
  have := key 107 0 N (by omega) (by omega)
  rw [cp2_0] at this
  exact this
theorem snap_e {N c : Nat} {I : FI} (hN : 2000 ≤ N) (hc : I 204 24 = nI c) (h8 : c < 8) : Mod_snap_51 N N 0 I = some (up2 (cp2 I 206 102 209 (107 * c) 107) 204 24 (nI (c + 1))) := by
  have key : ∀ m k n, k + m = 107 → m < n → Mod_snap_51 N n (nI k) (cp2 I 206 102 209 (107 * c) k) = some (up2 (cp2 I 206 102 209 (107 * c) 107) 204 24 (nI (c + 1))) := by
    intro m
    induction m with
    | zero =>
      intro k n hk hn
      obtain ⟨n, rfl⟩ : ∃ e, n = e + 1 := ⟨n - 1, by omega⟩
      obtain rfl : k = 107 := by omega
      simp (disch := omega) only [Mod_snap_51, L_107, ax_102, nM, nA, hc, cp2_o, Option.bind_some, nS, le_nI, ifT]
    | succ m ih =>
      intro k n hk hn
      obtain ⟨n, rfl⟩ : ∃ e, n = e + 1 := ⟨n - 1, by omega⟩
      have h1 := ih (k + 1) n (by omega) (by omega)
      have e := cp2_s (f := I) (s := 206) (sp := 102) (d := 209) (dp := 107 * c) (k := k)
      try simp only [Nat.zero_add] at e
      simp (disch := omega) only [Mod_snap_51, L_107, ax_102, nM, nA, hc, cp2_o, Option.bind_some, nS, le_nI, ifF, ifT, in9_t, if_true, tN, nS, Option.bind_some, cp2_o, cp2_j, e]
      exact h1
  have := key 107 0 N (by omega) (by omega)
  rw [cp2_0] at this
  exact this
theorem shift_e {N : Nat} {I : FI} (hN : 2000 ≤ N) : Mod_snap_11 N N 0 I = Mod_snap_51 N N 0 (up2 (cp2 I 209 107 209 0 749) 204 24 (I 204 24 - 1)) := by
  have key : ∀ m k n, k + m = 749 → m < n → Mod_snap_11 N n (nI k) (cp2 I 209 107 209 0 k) = Mod_snap_51 N N 0 (up2 (cp2 I 209 107 209 0 749) 204 24 (I 204 24 - 1)) := by
    intro m
    induction m with
    | zero =>
      intro k n hk hn
      obtain ⟨n, rfl⟩ : ∃ e, n = e + 1 := ⟨n - 1, by omega⟩
      obtain rfl : k = 749 := by omega
      simp (disch := omega) only [Mod_snap_11, L_749, le_nI, ifT, Option.bind_some, cp2_o]
    | succ m ih =>
      intro k n hk hn
      obtain ⟨n, rfl⟩ : ∃ e, n = e + 1 := ⟨n - 1, by omega⟩
      have h1 := ih (k + 1) n (by omega) (by omega)
      have e := cp2_s (f := I) (s := 209) (sp := 107) (d := 209) (dp := 0) (k := k)
      try simp only [Nat.zero_add] at e
      simp (disch := omega) only [Mod_snap_11, L_749, L_107, nA, le_nI, ifF, in9_t, if_true, tN, nS, Option.bind_some, cp2_j, Nat.add_comm k 107, e]
      exact h1
  have := key 749 0 N (by omega) (by omega)
  rw [cp2_0] at this
  exact this
/-- what is kept of acts -/
def HistR (nP nF nW nH : Nat) (I I' : FI) : Prop := ∃ fi sz, I 60 1 = nI fi ∧ fi < 8 ∧ I 60 2 = nI sz ∧ sz ≤ 8 ∧ I' 204 24 = nI sz ∧ ∀ i, i < sz → StR (62 + 10 * ((fi + i) % 8)) nF I (fun k => I' 209 (107 * i + (k - 102))) ∧ SW (fun k => I' 209 (107 * i + (k - 102))) nP nF nW nH
theorem HistR.of {nP nF nW nH : Nat} {I I' I1 I1' : FI} (h : HistR nP nF nW nH I I') (hF : nF ≤ 10) (h1 : ∀ q j, 60 ≤ q → q < 142 → I1 q j = I q j) (h2 : I1' 204 24 = I' 204 24) (h3 : ∀ j, I1' 209 j = I' 209 j) : HistR nP nF nW nH I1 I1' := by
  obtain ⟨fi, sz, a1, a2, a3, a4, a5, a6⟩ := h
  refine ⟨fi, sz, by rw [h1 _ _ (by omega) (by omega)]; exact a1, a2, by rw [h1 _ _ (by omega) (by omega)]; exact a3, a4, by rw [h2]; exact a5, fun i hi => ?_⟩
  obtain ⟨g1, g2⟩ := a6 i hi
  exact ⟨g1.of (fun q j hq hq2 => h1 q j (by omega) (by omega)) (fun j _ _ => h3 _) hF, g2.of hF (fun j _ _ => h3 _)⟩
section Q30
variable {N ln nP nF nE nW nH nR : Nat} {I I' : FI}
theorem mod8 {a : Nat} (h : a < 2147483648) : nI a - nI a / 8 * 8 = nI (a % 8) := by rw [L_8]; exact rem_nI h (by decide)
theorem keep_q (h : QR N 25 ln nP nF nE nW nH nR I I') (hH : HistR nP nF nW nH I I') : ∃ I1 I1', History_keep 60 25 I = some I1 ∧ Mod_snap N I' = some I1' ∧ QR N 25 ln nP nF nE nW nH nR I1 I1' ∧ HistR nP nF nW nH I1 I1' ∧ (∀ q j, q < 60 ∨ 142 ≤ q → I1 q j = I q j) ∧ (∀ j, I1' 206 j = I' 206 j) ∧ (∀ j, j ≠ 24 → I1' 204 j = I' 204 j) := by
  have hb := h.bd
  have hN := h.nN
  have hd := h.dis
  obtain ⟨fi, sz, a1, a2, a3, a4, a5, a6⟩ := hH
  by_cases e8 : sz = 8
  · subst e8
    obtain ⟨I4, c1, c2, c3⟩ := copy_e (a := 62 + 10 * (((fi + 1) % 8 + 7) % 8)) (b := 25) (by omega) (up2 (up2 I 60 1 (nI ((fi + 1) % 8))) 60 2 (nI 7))
    have hfi : (fi + 1) % 8 < 8 := Nat.mod_lt _ (by decide)
    have hsl : ((fi + 1) % 8 + 7) % 8 < 8 := Nat.mod_lt _ (by decide)
    have k1 : I4 60 1 = nI ((fi + 1) % 8) := by rw [c3 _ _ (by omega), u_j (by omega), u_s]
    have k2 : I4 60 2 = nI 7 := by rw [c3 _ _ (by omega), u_s]
    have fro : ∀ q j, q < 60 ∨ 142 ≤ q → up2 I4 60 2 (nI 8) q j = I q j := fun q j hq => by
      rw [u_o (by omega), c3 _ _ (by omega), u_o (by omega), u_o (by omega)]
    have m1 : Mod_snap N I' = some (up2 (cp2 (up2 (cp2 I' 209 107 209 0 749) 204 24 (nI 7)) 206 102 209 (107 * 7) 107) 204 24 (nI (7 + 1))) := by
      unfold Mod_snap
      rw [a5, if_pos (show nI 8 = (8 : Int32) from rfl), shift_e hN, a5, show nI 8 - 1 = nI 7 from nI_pred 7]
      exact snap_e hN u_s (by omega)
    refine ⟨up2 I4 60 2 (nI 8), _, ?_, m1, ?_, ?_, fro, ?_, ?_⟩
    · unfold History_keep
      rw [if_pos (by rw [a3]; rfl)]
      simp (disch := omega) only [Option.bind_some, a1, a3, nS, mod8, u_s, u_j, show nI 8 - 1 = nI 7 from nI_pred 7, nA, in9_t, if_true, tN]
      rw [show (60 + 2 + 10 * (((fi + 1) % 8 + 7) % 8)) = 62 + 10 * (((fi + 1) % 8 + 7) % 8) from by omega, c1, Option.bind_some, k2, nS]
    · refine h.of (fun q j hq => fro q j (by omega)) (fun j hj => ?_)
      rw [u_o (by omega), cp2_o (by omega), u_o (by omega), cp2_o (by omega)]
    · refine ⟨(fi + 1) % 8, 8, ?_, hfi, u_s, by omega, u_s, fun i hi => ?_⟩
      · rw [u_j (by omega)]; exact k1
      · by_cases e7 : i = 7
        · subst e7
          have s1 := c2 nF (I' 206) hb.2.1 (h.st.of (fun q j g1 g2 => by rw [u_o (by omega), u_o (by omega)]) (fun _ _ _ => rfl) hb.2.1)
          have s2 : ∀ j, 102 ≤ j → j < 209 → (fun k => (up2 (cp2 (up2 (cp2 I' 209 107 209 0 749) 204 24 (nI 7)) 206 102 209 (107 * 7) 107) 204 24 (nI (7 + 1))) 209 (107 * 7 + (k - 102))) j = I' 206 j := fun j g1 g2 => by
            show (up2 _ 204 24 _) 209 _ = _
            rw [u_o (by omega), cp2_i (by omega) (by omega), u_o (by omega), cp2_o (by omega)]
            exact congrArg (I' 206) (by omega)
          exact ⟨s1.of (fun q j g1 g2 => by rw [u_o (by omega)]) s2 hb.2.1, h.sw.of hb.2.1 s2⟩
        · obtain ⟨g1, g2⟩ := a6 (i + 1) (by omega)
          have s2 : ∀ j, 102 ≤ j → j < 209 → (fun k => (up2 (cp2 (up2 (cp2 I' 209 107 209 0 749) 204 24 (nI 7)) 206 102 209 (107 * 7) 107) 204 24 (nI (7 + 1))) 209 (107 * i + (k - 102))) j = (fun k => I' 209 (107 * (i + 1) + (k - 102))) j := fun j g1 g2 => by
            show (up2 _ 204 24 _) 209 _ = I' 209 _
            rw [u_o (by omega), cp2_j (by omega), u_o (by omega), cp2_i (by omega) (by omega)]
            exact congrArg (I' 209) (by omega)
          have ei : ((fi + 1) % 8 + i) % 8 = (fi + (i + 1)) % 8 := by omega
          rw [ei]
          refine ⟨g1.of (fun q j g3 g4 => ?_) s2 hb.2.1, g2.of hb.2.1 s2⟩
          rw [u_o (by omega), c3 _ _ (by omega), u_o (by omega), u_o (by omega)]
    · intro j
      rw [u_o (by omega), cp2_o (by omega), u_o (by omega), cp2_o (by omega)]
    · intro j hj
      rw [u_j hj, cp2_o (by omega), u_j hj, cp2_o (by omega)]
  · have h8 : sz < 8 := by omega
    obtain ⟨I4, c1, c2, c3⟩ := copy_e (a := 62 + 10 * ((fi + sz) % 8)) (b := 25) (by omega) I
    have hsl : (fi + sz) % 8 < 8 := Nat.mod_lt _ (by decide)
    have k1 : I4 60 1 = nI fi := by rw [c3 _ _ (by omega)]; exact a1
    have k2 : I4 60 2 = nI sz := by rw [c3 _ _ (by omega)]; exact a3
    have fro : ∀ q j, q < 60 ∨ 142 ≤ q → up2 I4 60 2 (nI (sz + 1)) q j = I q j := fun q j hq => by
      rw [u_o (by omega), c3 _ _ (by omega)]
    have n8 : ¬ nI sz = (8 : Int32) := by rw [L_8, eq_nI (by omega) (by omega)]; exact e8
    have m1 : Mod_snap N I' = some (up2 (cp2 I' 206 102 209 (107 * sz) 107) 204 24 (nI (sz + 1))) := by
      unfold Mod_snap
      rw [a5, if_neg n8]
      exact snap_e hN a5 h8
    refine ⟨up2 I4 60 2 (nI (sz + 1)), _, ?_, m1, ?_, ?_, fro, ?_, ?_⟩
    · unfold History_keep
      rw [if_neg (by rw [a3]; exact n8)]
      simp (disch := omega) only [Option.bind_some, a1, a3, mod8, nA, in9_t, if_true, tN]
      rw [show (60 + 2 + 10 * ((fi + sz) % 8)) = 62 + 10 * ((fi + sz) % 8) from by omega, c1, Option.bind_some, k2, nS]
    · refine h.of (fun q j hq => fro q j (by omega)) (fun j hj => ?_)
      rw [u_o (by omega), cp2_o (by omega)]
    · refine ⟨fi, sz + 1, ?_, a2, u_s, by omega, u_s, fun i hi => ?_⟩
      · rw [u_j (by omega)]; exact k1
      · by_cases e7 : i = sz
        · subst e7
          have s1 := c2 nF (I' 206) hb.2.1 h.st
          have s2 : ∀ j, 102 ≤ j → j < 209 → (fun k => (up2 (cp2 I' 206 102 209 (107 * i) 107) 204 24 (nI (i + 1))) 209 (107 * i + (k - 102))) j = I' 206 j := fun j g1 g2 => by
            show (up2 _ 204 24 _) 209 _ = _
            rw [u_o (by omega), cp2_i (by omega) (by omega)]
            exact congrArg (I' 206) (by omega)
          exact ⟨s1.of (fun q j g1 g2 => by rw [u_o (by omega)]) s2 hb.2.1, h.sw.of hb.2.1 s2⟩
        · obtain ⟨g1, g2⟩ := a6 i (by omega)
          have s2 : ∀ j, 102 ≤ j → j < 209 → (fun k => (up2 (cp2 I' 206 102 209 (107 * sz) 107) 204 24 (nI (sz + 1))) 209 (107 * i + (k - 102))) j = (fun k => I' 209 (107 * i + (k - 102))) j := fun j g1 g2 => by
            show (up2 _ 204 24 _) 209 _ = I' 209 _
            rw [u_o (by omega), cp2_j (by omega)]
          refine ⟨g1.of (fun q j g3 g4 => ?_) s2 hb.2.1, g2.of hb.2.1 s2⟩
          rw [u_o (by omega), c3 _ _ (by omega)]
    · intro j
      rw [u_o (by omega), cp2_o (by omega)]
    · intro j hj
      rw [u_j hj, cp2_o (by omega)]
end Q30

/-! the invariant of a frame, and what writes and makings do to it -/
def In9 (b0 : Nat) (cst : Nat → Nat) (D : va_G) (cA : Nat → ClassId) (s : State) (μ : Mem) (H : Heap) (locs : List Loc) : Prop := Wd9 b0 cst D cA μ H ∧ va_S (fun q => b0 ≤ q) s.heap H locs ∧ sc9 b0 cst μ s
section INV
variable {b0 : Nat} {cst : Nat → Nat} {D : va_G} {cA : Nat → ClassId} {s : State} {μ μ' : Mem} {H H1 : Heap} {locs L : List Loc} {a : Nat}
theorem In9.set (h : In9 b0 cst D cA s μ H locs) (hh : mHp μ' = mHp μ) (hs : mSh μ' = mSh μ) (ha : a < mHp μ) (ho : ∀ b, b ≠ a → mI μ' b = mI μ b ∧ mJ μ' b = mJ μ b ∧ mP μ' b = mP μ b) (hc : CR9 b0 cst D cA μ' a H1) (hz : H1.size = H.size) (hq : ∀ q, q ≠ b0 + a → H1[q]? = H[q]?) (hL : ∀ q ∈ L, q.base = b0 + a) : In9 b0 cst D cA s μ' H1 (locs ++ L) := by
  obtain ⟨h1, h2, h3, hT⟩ := h
  refine ⟨h1.set hh hs (fun b hb q => q.other hs (ho b hb).1 (ho b hb).2.1 (ho b hb).2.2) hz hq hc, ⟨by rw [hz]; exact h2.1, fun q g1 g2 => ?_, fun q hq' => ?_⟩, fun n hn => ?_, hT⟩
  · rw [hq q (fun e => g2 (by rw [e]; exact Nat.le_add_right _ _))]
    exact h2.2.1 q g1 g2
  · rcases List.mem_append.mp hq' with g | g
    · exact h2.2.2 q g
    · show b0 ≤ q.base
      rw [hL q g]; exact Nat.le_add_right _ _
  · have hne : oFF ≠ a := by have := h1.2.1.1; omega
    rw [hs] at hn
    rw [(ho oFF hne).1]
    exact h3 n hn
theorem CR9.objI {ci : Nat} (hs : mSh μ a = (0, ci)) (hci : ci < 13) {k : Nat} {x : Int32} (h1 : tc9 ci k ≠ 1) (h2 : tc9 ci k ≠ 2) (hO : t_OB (b0 + a) (D.1 ci) (N9 ci) (D.2 ci) H1 (updV (fv9 b0 cst μ a ci) k (.int x))) : CR9 b0 cst D cA (wI μ a k x) a H1 := by
  unfold CR9
  rw [show mSh (wI μ a k x) a = (0, ci) from hs]
  refine ⟨hci, hO.to fun j _ => ?_⟩
  unfold updV
  by_cases e : j = k
  · subst e
    rw [if_pos rfl]
    unfold fv9
    split
    · contradiction
    · contradiction
    · show Value.int x = .int (up2 _ a j x a j)
      simp [up2]
  · rw [if_neg e]
    unfold fv9
    split
    · rfl
    · rfl
    · show Value.int _ = .int (up2 _ a k x a j)
      simp [up2, e]; rfl
theorem CR9.objJ {ci : Nat} (hs : mSh μ a = (0, ci)) (hci : ci < 13) {k : Nat} {x : Int64} (h1 : tc9 ci k = 1) (hO : t_OB (b0 + a) (D.1 ci) (N9 ci) (D.2 ci) H1 (updV (fv9 b0 cst μ a ci) k (.long x))) : CR9 b0 cst D cA (wJ μ a k x) a H1 := by
  unfold CR9
  rw [show mSh (wJ μ a k x) a = (0, ci) from hs]
  refine ⟨hci, hO.to fun j _ => ?_⟩
  unfold updV
  by_cases e : j = k
  · subst e
    rw [if_pos rfl]
    unfold fv9
    rw [h1]
    show Value.long x = .long (up2 _ a j x a j)
    simp [up2]
  · rw [if_neg e]
    unfold fv9
    split
    · show Value.long _ = .long (up2 _ a k x a j)
      simp [up2, e]; rfl
    · rfl
    · rfl
theorem CR9.objP {ci : Nat} (hs : mSh μ a = (0, ci)) (hci : ci < 13) {k x : Nat} (h1 : tc9 ci k = 2) (hO : t_OB (b0 + a) (D.1 ci) (N9 ci) (D.2 ci) H1 (updV (fv9 b0 cst μ a ci) k (.ref (rho9 b0 cst x)))) : CR9 b0 cst D cA (wP μ a k (some x)) a H1 := by
  unfold CR9
  rw [show mSh (wP μ a k (some x)) a = (0, ci) from hs]
  refine ⟨hci, hO.to fun j _ => ?_⟩
  unfold updV
  by_cases e : j = k
  · subst e
    rw [if_pos rfl]
    unfold fv9
    rw [h1]
    show Value.ref _ = rf9 b0 cst (up2 _ a j (some x) a j)
    simp [up2, rf9]
  · rw [if_neg e]
    unfold fv9
    split
    · rfl
    · show rf9 b0 cst _ = rf9 b0 cst (up2 _ a k (some x) a j)
      simp [up2, e]; rfl
    · rfl
theorem CR9.arrI {k n : Nat} (hk : k = 1 ∨ k = 2 ∨ k = 3) (hs : mSh μ a = (k, n)) {i : Nat} {x : Int32} (hc : H1[b0 + a]? = some (arrV (cA k) n (fun j => .int (if j = i then x else mI μ a j)))) : CR9 b0 cst D cA (wI μ a i x) a H1 := by
  unfold CR9
  rw [show mSh (wI μ a i x) a = (k, n) from hs]
  have e : (fun j => Value.int (mI (wI μ a i x) a j)) = fun j => .int (if j = i then x else mI μ a j) := by
    funext j
    show Value.int (up2 _ a i x a j) = _
    simp [up2]; rfl
  rcases hk with rfl | rfl | rfl
  · show _ = some (arrV _ _ _); rw [e]; exact hc
  · show _ = some (arrV _ _ _); rw [e]; exact hc
  · show _ = some (arrV _ _ _); rw [e]; exact hc
theorem CR9.arrJ {n : Nat} (hs : mSh μ a = (4, n)) {i : Nat} {x : Int64} (hc : H1[b0 + a]? = some (arrV (cA 4) n (fun j => .long (if j = i then x else mJ μ a j)))) : CR9 b0 cst D cA (wJ μ a i x) a H1 := by
  unfold CR9
  rw [show mSh (wJ μ a i x) a = (4, n) from hs]
  have e : (fun j => Value.long (mJ (wJ μ a i x) a j)) = fun j => .long (if j = i then x else mJ μ a j) := by
    funext j
    show Value.long (up2 _ a i x a j) = _
    simp [up2]; rfl
  show _ = some (arrV _ _ _); rw [e]; exact hc
theorem CR9.arrP {n : Nat} (hs : mSh μ a = (5, n)) {i x : Nat} (hc : H1[b0 + a]? = some (arrV (cA 5) n (fun j => if j = i then .ref (rho9 b0 cst x) else rf9 b0 cst (mP μ a j)))) : CR9 b0 cst D cA (wP μ a i (some x)) a H1 := by
  unfold CR9
  rw [show mSh (wP μ a i (some x)) a = (5, n) from hs]
  have e : (fun j => rf9 b0 cst (mP (wP μ a i (some x)) a j)) = fun j => if j = i then .ref (rho9 b0 cst x) else rf9 b0 cst (mP μ a j) := by
    funext j
    show rf9 b0 cst (up2 _ a i (some x) a j) = _
    by_cases q : j = i
    · simp [up2, q, rf9]
    · simp [up2, q]; rfl
  show _ = some (arrV _ _ _); rw [e]; exact hc
theorem In9.new {kd : Nat × Nat} {n : Nat} (h : In9 b0 cst D cA s μ H locs) (hlt : mHp μ < oFF) (hk : kd.1 ≠ 6) (hc : CR9 b0 cst D cA (mNew μ kd n) (mHp μ) H1) (hz : H1.size = H.size + 1) (hq : ∀ q, q < H.size → H1[q]? = H[q]?) : In9 b0 cst D cA s (mNew μ kd n) H1 locs := by
  obtain ⟨⟨g1, ⟨g2, g3, g4⟩, g5⟩, h2, h3, hT⟩ := h
  have hsh : ∀ b, mSh (mNew μ kd n) b = if b = mHp μ then kd else mSh μ b := fun b => rfl
  refine ⟨⟨by rw [hz, g1]; rfl, ⟨hlt, fun b hb => ?_, fun b hb => ?_⟩, fun b hb => ?_⟩, ⟨by rw [hz]; have := h2.1; omega, fun q q1 q2 => ?_, h2.2.2⟩, fun L hL => ?_, hT⟩
  · rw [hsh] at hb
    show b < mHp μ + 1
    by_cases e : b = mHp μ
    · omega
    · rw [if_neg e] at hb
      have := g3 b hb
      omega
  · rw [hsh] at hb
    by_cases e : b = mHp μ
    · rw [if_pos e] at hb; exact absurd hb hk
    · rw [if_neg e] at hb
      exact g4 b hb
  · by_cases e : b = mHp μ
    · subst e; exact hc
    · have hb2 : b < mHp μ := by
        have : b < mHp μ + 1 := hb
        omega
      have := (g5 b hb2).kept (H1 := H1) (hq _ (by omega))
      unfold CR9 at this ⊢
      rw [hsh, if_neg e]
      have eI : mI (mNew μ kd n) b = mI μ b := by funext j; show z2 _ _ _ b j = _; simp only [z2]; rw [if_neg (show ¬ b = μ.1.1 from e)]; rfl
      have eJ : mJ (mNew μ kd n) b = mJ μ b := by funext j; show z2 _ _ _ b j = _; simp only [z2]; rw [if_neg (show ¬ b = μ.1.1 from e)]; rfl
      have eP : mP (mNew μ kd n) b = mP μ b := by funext j; show z2 _ _ _ b j = _; simp only [z2]; rw [if_neg (show ¬ b = μ.1.1 from e)]; rfl
      unfold fv9 at this ⊢
      rw [eI, eJ, eP]
      exact this
  · rw [hq q (Nat.lt_of_lt_of_le q1 h2.1)]
    exact h2.2.1 q q1 q2
  · have e : ¬ oFF = mHp μ := by omega
    rw [hsh, if_neg e] at hL
    have eI : mI (mNew μ kd n) oFF = mI μ oFF := by funext j; show z2 _ _ _ oFF j = _; simp only [z2]; rw [if_neg (show ¬ oFF = μ.1.1 from e)]; rfl
    rw [eI]
    exact h3 L hL
theorem CR9.born {ci : Nat} (hci : ci < 13) {n : Nat} (hO : t_OB (b0 + mHp μ) (D.1 ci) (N9 ci) (D.2 ci) H1 (fun k => defaultValue (ty9 ci k))) (ht : ∀ k, k < N9 ci → tc9 ci k ≠ 9) : CR9 b0 cst D cA (mNew μ (0, ci) n) (mHp μ) H1 := by
  unfold CR9
  rw [show mSh (mNew μ (0, ci) n) (mHp μ) = (0, ci) from if_pos rfl]
  refine ⟨hci, hO.to fun j hj => ?_⟩
  have h9 := ht j hj
  unfold fv9
  have eI : mI (mNew μ (0, ci) n) (mHp μ) j = 0 := by show z2 _ μ.1.1 0 μ.1.1 j = _; simp [z2]
  have eJ : mJ (mNew μ (0, ci) n) (mHp μ) j = 0 := by show z2 _ μ.1.1 0 μ.1.1 j = _; simp [z2]
  have eP : mP (mNew μ (0, ci) n) (mHp μ) j = none := by show z2 _ μ.1.1 none μ.1.1 j = _; simp [z2]
  rw [eI, eJ, eP]
  unfold tc9 at h9 ⊢
  generalize ty9 ci j = ty at h9 ⊢
  cases ty <;> first | rfl | exact absurd rfl h9
theorem CR9.bornA {k n w : Nat} (hk : 1 ≤ k ∧ k ≤ 4) (hc : H1[b0 + mHp μ]? = some (arrV (cA k) n (fun _ => defaultValue (aT9 k)))) : CR9 b0 cst D cA (mNew μ (k, n) w) (mHp μ) H1 := by
  unfold CR9
  rw [show mSh (mNew μ (k, n) w) (mHp μ) = (k, n) from if_pos rfl]
  have eI : mI (mNew μ (k, n) w) (mHp μ) = fun _ => 0 := by funext j; show z2 _ μ.1.1 0 μ.1.1 j = _; simp [z2]
  have eJ : mJ (mNew μ (k, n) w) (mHp μ) = fun _ => 0 := by funext j; show z2 _ μ.1.1 0 μ.1.1 j = _; simp [z2]
  rw [eI, eJ]
  obtain ⟨h1, h2⟩ := hk
  match k, h1, h2, hc with
  | 1, _, _, hc => exact hc
  | 2, _, _, hc => exact hc
  | 3, _, _, hc => exact hc
  | 4, _, _, hc => exact hc
theorem CR9.bornQ {n w : Nat} (hc : H1[b0 + mHp μ]? = some (arrV (cA 5) n (fun _ => .null))) : CR9 b0 cst D cA (mNew μ (5, n) w) (mHp μ) H1 := by
  unfold CR9
  rw [show mSh (mNew μ (5, n) w) (mHp μ) = (5, n) from if_pos rfl]
  have eP : mP (mNew μ (5, n) w) (mHp μ) = fun _ => none := by funext j; show z2 _ μ.1.1 none μ.1.1 j = _; simp [z2]
  rw [eP]
  exact hc
set_option maxRecDepth 100000 in
theorem tc9_ok : ∀ ci, ci < 13 → ∀ k, k < N9 ci → tc9 ci k ≠ 9 := by decide +kernel
end INV

/-! ===== Int32 by its bits: bt x i ===== -/
def bt (x : Int32) (i : Nat) : Bool := x.toBitVec.getLsbD i
theorem b_ext {x y : Int32} (h : ∀ i, i < 32 → bt x i = bt y i) : x = y := Int32.toBitVec_inj.mp (BitVec.eq_of_getLsbD_eq (fun i hi => h i hi))
theorem b_or (x y : Int32) (i : Nat) : bt (x ||| y) i = (bt x i || bt y i) := by unfold bt; rw [Int32.toBitVec_or, BitVec.getLsbD_or]
theorem b_and (x y : Int32) (i : Nat) : bt (x &&& y) i = (bt x i && bt y i) := by unfold bt; rw [Int32.toBitVec_and, BitVec.getLsbD_and]
theorem b_xor (x y : Int32) (i : Nat) : bt (x ^^^ y) i = (bt x i ^^ bt y i) := by unfold bt; rw [Int32.toBitVec_xor, BitVec.getLsbD_xor]
theorem b_big {x : Int32} {i : Nat} (h : 32 ≤ i) : bt x i = false := BitVec.getLsbD_of_ge _ _ h
theorem b_255 (i : Nat) : bt 255 i = decide (i < 8) := by
  rcases Nat.lt_or_ge i 32 with h | h
  · exact (by decide +kernel : ∀ i, i < 32 → bt 255 i = decide (i < 8)) i h
  · rw [b_big h, decide_eq_false (by omega)]
theorem b_65535 (i : Nat) : bt 65535 i = decide (i < 16) := by
  rcases Nat.lt_or_ge i 32 with h | h
  · exact (by decide +kernel : ∀ i, i < 32 → bt 65535 i = decide (i < 16)) i h
  · rw [b_big h, decide_eq_false (by omega)]
theorem b_m1 : ∀ i, i < 32 → bt (-1) i = true := by decide +kernel
theorem b_0 (i : Nat) : bt 0 i = false := BitVec.getLsbD_zero
theorem s_l : ∀ n, n < 32 → ((nI n &&& 31).toBitVec.smod 32).toNat = n := by decide +kernel
theorem s_u : ∀ n, n < 32 → (((nI n).toUInt32 &&& Int32.toUInt32 31).toBitVec % 32).toNat = n := by decide +kernel
theorem b_shl (n : Nat) (hn : n < 32) (x : Int32) {i : Nat} (hi : i < 32) : bt (x <<< (nI n &&& 31)) i = (decide (n ≤ i) && bt x (i - n)) := by
  unfold bt
  rw [Int32.toBitVec_shiftLeft]
  show (x.toBitVec <<< ((nI n &&& 31).toBitVec.smod 32).toNat).getLsbD i = _
  rw [s_l n hn, BitVec.getLsbD_shiftLeft]
  rcases Nat.lt_or_ge i n with h | h
  · simp [h, Nat.not_le.mpr h]
  · simp [hi, h, Nat.not_lt.mpr h]
theorem b_ushr (n : Nat) (hn : n < 32) (x : Int32) (i : Nat) : bt ((x.toUInt32 >>> ((nI n).toUInt32 &&& Int32.toUInt32 31)).toInt32) i = bt x (n + i) := by
  show (x.toUInt32 >>> ((nI n).toUInt32 &&& Int32.toUInt32 31)).toBitVec.getLsbD i = x.toUInt32.toBitVec.getLsbD (n + i)
  rw [UInt32.toBitVec_shiftRight]
  show (x.toUInt32.toBitVec >>> (((nI n).toUInt32 &&& Int32.toUInt32 31).toBitVec % 32).toNat).getLsbD i = _
  rw [s_u n hn, BitVec.getLsbD_ushiftRight]
theorem b_sshr (n : Nat) (hn : n < 32) (x : Int32) {i : Nat} (hi : i < 32) : bt (x >>> (nI n &&& 31)) i = if n + i < 32 then bt x (n + i) else bt x 31 := by
  unfold bt
  rw [Int32.toBitVec_shiftRight]
  show (x.toBitVec.sshiftRight ((nI n &&& 31).toBitVec.smod 32).toNat).getLsbD i = _
  rw [s_l n hn, BitVec.getLsbD_sshiftRight, BitVec.msb_eq_getLsbD_last]
  simp [hi]
theorem b_shl8 (x : Int32) {i : Nat} (hi : i < 32) : bt (x <<< ((8 : Int32) &&& 31)) i = (decide (8 ≤ i) && bt x (i - 8)) := b_shl 8 (by omega) x hi
theorem b_shl16 (x : Int32) {i : Nat} (hi : i < 32) : bt (x <<< ((16 : Int32) &&& 31)) i = (decide (16 ≤ i) && bt x (i - 16)) := b_shl 16 (by omega) x hi
theorem b_shl24 (x : Int32) {i : Nat} (hi : i < 32) : bt (x <<< ((24 : Int32) &&& 31)) i = (decide (24 ≤ i) && bt x (i - 24)) := b_shl 24 (by omega) x hi
theorem b_sshr8 (x : Int32) {i : Nat} (hi : i < 32) : bt (x >>> ((8 : Int32) &&& 31)) i = if 8 + i < 32 then bt x (8 + i) else bt x 31 := b_sshr 8 (by omega) x hi
theorem b_1 (i : Nat) : bt 1 i = decide (i = 0) := by
  rcases Nat.lt_or_ge i 32 with h | h
  · exact (by decide +kernel : ∀ i, i < 32 → bt 1 i = decide (i = 0)) i h
  · rw [b_big h, decide_eq_false (by omega)]
theorem b_and1 (x : Int32) : ((x &&& 1) = 1) = (bt x 0 = true) := by
  refine propext ⟨fun h => ?_, fun h => ?_⟩
  · have := congrArg (fun z => bt z 0) h
    simpa [b_and, b_1] using this
  · refine b_ext fun i _ => ?_
    rw [b_and, b_1]
    by_cases hi : i = 0
    · subst hi; simp [h]
    · simp [hi]
theorem b_has {s : Int32} {k : Nat} (hk : k < 32) : (((s >>> (nI k &&& 31)) &&& 1) = 1) = (bt s k = true) := by
  rw [b_and1, b_sshr k hk s (by decide)]
  simp [hk]
/-- a set by its members -/
def bitsF (p : Nat → Bool) : Nat → Int32
  | 0 => 0
  | n + 1 => bif p n then bitsF p n ||| (1 <<< (nI n &&& 31)) else bitsF p n
theorem bitsF_congr {p q : Nat → Bool} {n : Nat} (h : ∀ k, k < n → p k = q k) : bitsF p n = bitsF q n := by
  induction n with
  | zero => rfl
  | succ n ih =>
    unfold bitsF
    rw [h n (by omega), ih (fun k hk => h k (by omega))]
theorem b_one {n i : Nat} (hn : n < 32) (hi : i < 32) : bt (1 <<< (nI n &&& 31)) i = decide (i = n) := by
  rw [b_shl n hn 1 hi, b_1]
  by_cases h : n ≤ i
  · by_cases e : i = n
    · subst e; simp
    · simp [h, e]; omega
  · have : i ≠ n := by omega
    simp [h, this]
theorem b_bitsF {p : Nat → Bool} {n i : Nat} (hn : n ≤ 32) (hi : i < 32) : bt (bitsF p n) i = (decide (i < n) && p i) := by
  induction n with
  | zero => unfold bitsF; rw [b_0]; simp
  | succ n ih =>
    unfold bitsF
    cases hp : p n with
    | true =>
      rw [cond_true, b_or, ih (by omega), b_one (by omega) hi]
      by_cases e : i = n
      · subst e; simp [hp]
      · have : (i < n + 1) = (i < n) := propext ⟨fun h => by omega, fun h => by omega⟩
        simp [e, this]
    | false =>
      rw [cond_false, ih (by omega)]
      by_cases e : i = n
      · subst e; simp [hp]
      · have : (i < n + 1) = (i < n) := propext ⟨fun h => by omega, fun h => by omega⟩
        simp [this]
/-- a loop's sum: what each place does to it -/
def itF {α : Type} (g : Nat → α → α) : Nat → α → α
  | 0, a => a
  | n + 1, a => g n (itF g n a)
theorem itF_congr {α : Type} {g g' : Nat → α → α} {n : Nat} {a : α} (h : ∀ k, k < n → ∀ x, g k x = g' k x) : itF g n a = itF g' n a := by
  induction n with
  | zero => rfl
  | succ n ih =>
    unfold itF
    rw [ih (fun k hk => h k (by omega)), h n (by omega)]
theorem itF_ext {α : Type} {g : Nat → α → α} {n m : Nat} {a : α} (hnm : n ≤ m) (h : ∀ k, n ≤ k → k < m → ∀ x, g k x = x) : itF g m a = itF g n a := by
  induction m with
  | zero => obtain rfl : n = 0 := by omega
            rfl
  | succ m ih =>
    by_cases e : n = m + 1
    · subst e; rfl
    · show g m (itF g m a) = _
      rw [h m (by omega) (by omega), ih (by omega) (fun k h1 h2 => h k h1 (by omega))]
theorem itF_id {α : Type} {g : Nat → α → α} {n : Nat} {a : α} (h : ∀ k, k < n → ∀ x, g k x = x) : itF g n a = a := itF_ext (n := 0) (Nat.zero_le _) (fun k _ h2 => h k h2)

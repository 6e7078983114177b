/-! names in both kinds of writing, and how they are written out -/
theorem s_L : ∀ k, k < 31 → (((nI k).toInt64 &&& 63).toBitVec.smod 64).toNat = k := by decide +kernel
theorem b64_31 : ∀ i, i < 32 → (31 : Int64).toBitVec.getLsbD i = decide (i < 5) := by decide +kernel
theorem bt_nI {m i : Nat} (hi : i < 32) : bt (nI m) i = m.testBit i := by
  show (BitVec.ofNat 32 m).getLsbD i = _
  rw [BitVec.getLsbD_ofNat]
  simp [hi]
theorem dig64 {x k : Nat} (hk : k < 31) : ((lN x >>> ((nI k).toInt64 &&& 63)) &&& 31).toInt32 = nI (x / 2 ^ k % 32) := by
  refine b_ext (fun i hi => ?_)
  rw [bt_nI hi]
  unfold bt
  rw [Int64.toBitVec_toInt32, BitVec.getLsbD_signExtend, if_pos (by omega), Int64.toBitVec_and, BitVec.getLsbD_and, b64_31 i hi, Int64.toBitVec_shiftRight]
  show (decide (i < 32) && (((lN x).toBitVec.sshiftRight (((nI k).toInt64 &&& 63).toBitVec.smod 64).toNat).getLsbD i && decide (i < 5))) = _
  rw [s_L k hk, BitVec.getLsbD_sshiftRight, if_pos (by omega)]
  show (decide (i < 32) && ((!decide (64 ≤ i) && (BitVec.ofNat 64 x).getLsbD (k + i)) && decide (i < 5))) = _
  rw [BitVec.getLsbD_ofNat, show (32 : Nat) = 2 ^ 5 from rfl, Nat.testBit_mod_two_pow, Nat.testBit_div_two_pow]
  have h1 : i < 64 := by omega
  have h2 : k + i < 64 := by omega
  simp [h2, hi, Nat.not_le.mpr h1, Bool.and_comm, Nat.add_comm]
theorem nar_n : ∀ v, v < 128 → vp_nar .byte ((nI v).toInt8.toInt32) = nI v := by decide +kernel
/-- a number spelt with digits -/
def nameN (B : Nat) : List Nat → Nat
  | [] => 0
  | d :: L => d * B ^ L.length + nameN B L
/-- one word in both kinds of writing -/
def WordR (x y : Int64) (L : List Nat) : Prop := (∀ d, d ∈ L → 1 ≤ d ∧ d ≤ 26) ∧ 1 ≤ L.length ∧ L.length ≤ 7 ∧ x = lN (nameN 32 L) ∧ y = lN (nameN 27 L)
theorem nameN_lt {B : Nat} (hB : 27 ≤ B) : ∀ L : List Nat, (∀ d, d ∈ L → 1 ≤ d ∧ d ≤ 26) → nameN B L < B ^ L.length := by
  intro L
  induction L with
  | nil => intro _; exact Nat.one_pos
  | cons d L ih =>
    intro h
    have h1 := ih (fun e he => h e (List.mem_cons_of_mem _ he))
    have h2 := (h d (List.mem_cons_self)).2
    have h3 : (d + 1) * B ^ L.length ≤ B * B ^ L.length := Nat.mul_le_mul_right _ (by omega)
    rw [Nat.add_mul, Nat.one_mul] at h3
    show d * B ^ L.length + nameN B L < B ^ (L.length + 1)
    rw [Nat.pow_succ, Nat.mul_comm (B ^ L.length) B]
    omega
theorem nameN_snoc {B : Nat} (d : Nat) : ∀ L : List Nat, nameN B (L ++ [d]) = B * nameN B L + d := by
  intro L
  induction L with
  | nil => show d * B ^ 0 + 0 = B * 0 + d; simp
  | cons e L ih =>
    show e * B ^ (L ++ [d]).length + nameN B (L ++ [d]) = B * (e * B ^ L.length + nameN B L) + d
    rw [ih, List.length_append, List.length_singleton, Nat.pow_succ, Nat.mul_add, ← Nat.mul_assoc, Nat.mul_comm (e * B ^ L.length) B]
    omega

/-! letters that come, and what is kept of answers: both sides -/
theorem nI_nat (x : Int32) : x = nI x.toBitVec.toNat := by
  apply Int32.toBitVec_inj.mp
  show x.toBitVec = BitVec.ofNat 32 x.toBitVec.toNat
  simp
theorem and255 (x : Int32) : ∃ v, v < 256 ∧ x &&& 255 = nI v := by
  refine ⟨(x &&& 255).toBitVec.toNat, ?_, nI_nat _⟩
  rw [Int32.toBitVec_and, BitVec.toNat_and]
  have h : (255 : Int32).toBitVec.toNat = 255 := by decide
  rw [h]
  have := Nat.and_le_right (n := x.toBitVec.toNat) (m := 255)
  omega
theorem i8_ext {x y : Int32} (h : ∀ i, i < 8 → bt x i = bt y i) : x.toInt8 = y.toInt8 := by
  apply Int8.toBitVec_inj.mp
  rw [Int32.toBitVec_toInt8, Int32.toBitVec_toInt8]
  refine BitVec.eq_of_getLsbD_eq (fun i hi => ?_)
  rw [BitVec.getLsbD_signExtend, BitVec.getLsbD_signExtend, if_pos (by omega), if_pos (by omega)]
  have := h i hi
  unfold bt at this
  rw [this]
theorem byte_e (l : Int32) {s : Nat} (hs : s ≤ 24) : (l >>> (nI s &&& 31)).toInt8 = (((l.toUInt32 >>> ((nI s).toUInt32 &&& Int32.toUInt32 31)).toInt32) &&& 255).toInt8 := by
  refine i8_ext (fun i hi => ?_)
  rw [b_sshr s (by omega) l (by omega), b_and, b_ushr s (by omega), b_255, if_pos (by omega)]
  simp [hi]
/-- letters that have come -/
def TapeR (I I' : FI) (t : Nat) : Prop := t ≤ 940 ∧ I 1 5 = nI t ∧ I' 204 2 = nI t ∧ (∀ i, i < 940 → I 2 i = vp_nar .byte (I' 205 i).toInt8.toInt32) ∧ (∀ i, i < 940 → ∃ v, v < 256 ∧ I' 205 i = nI v)
section Q44
variable {N b ln sp sn ss nP nF nE nW nH nR : Nat} {I I' : FI} {J J' : FJ}
theorem put_1 {t s : Nat} (h : TapeR I I' t) (ht : t < 940) (hs : s ≤ 24) (l : Int32) : ∃ I1 I1', TapeR I1 I1' (t + 1) ∧ (∀ f, Tape_put_3 N 1 (f + 1) l (nI s) I = Tape_put_3 N 1 f l (nI s + (-8)) I1) ∧ (∀ f, Mod_come_3 N (f + 1) l (nI s) I' = Mod_come_3 N f l (nI s + (-8)) I1') := by
  obtain ⟨h1, h2, h3, h4, h5⟩ := h
  have z : (nI s < 0) = False := by rw [L_0, lt_nI (by omega) (by omega)]; exact eq_false (by omega)
  have a : ((Int32.ofNat 940) ≤ nI t) = False := by rw [show Int32.ofNat 940 = nI 940 from rfl, le_nI (by omega) (by omega)]; exact eq_false (by omega)
  have G : in9 (nI t) 940 = True := in9_t (by omega) (by omega)
  have T : (nI t).toNatClampNeg = t := tN (by omega)
  have b5 : ∀ v, up2 I 2 t v 1 = I 1 := fun v => u_o (by omega)
  have b6 : ∀ v, up2 I' 205 t v 204 = I' 204 := fun v => u_o (by omega)
  refine ⟨up2 (up2 I 2 t (vp_nar .byte ((l >>> (nI s &&& 31)).toInt8.toInt32))) 1 5 (nI (t + 1)), up2 (up2 I' 205 t (((l.toUInt32 >>> ((nI s).toUInt32 &&& Int32.toUInt32 31)).toInt32) &&& 255)) 204 2 (nI (t + 1)), ⟨by omega, u_s, u_s, fun i hi => ?_, fun i hi => ?_⟩, fun f => ?_, fun f => ?_⟩
  · rw [u_o (show (2 : Nat) ≠ 1 by omega), u_o (show (205 : Nat) ≠ 204 by omega)]
    by_cases q : i = t
    · rw [q, u_s, u_s, byte_e l hs]
    · rw [u_j q, u_j q]; exact h4 i hi
  · rw [u_o (by omega)]
    by_cases q : i = t
    · rw [q, u_s]; exact and255 _
    · rw [u_j q]; exact h5 i hi
  · simp only [↓reduceIte, Tape_put_3, z, h2, a, G, T, b5, nS, Option.bind_some]
  · simp only [↓reduceIte, Mod_come_3, z, h3, G, T, b6, nS, Option.bind_some]
theorem put_q {t : Nat} (hN : 2000 ≤ N) (h : TapeR I I' t) (ht : t + 4 ≤ 940) (l : Int32) : ∃ I1 I1', TapeR I1 I1' (t + 4) ∧ Tape_put N 1 l I = some I1 ∧ Mod_come N l I' = some I1' := by
  obtain ⟨I1, I1', a1, a2, a3⟩ := put_1 (N := N) (s := 24) h (by omega) (by omega) l
  obtain ⟨I2, I2', b1, b2, b3⟩ := put_1 (N := N) (s := 16) a1 (by omega) (by omega) l
  obtain ⟨I3, I3', c1, c2, c3⟩ := put_1 (N := N) (s := 8) b1 (by omega) (by omega) l
  obtain ⟨I4, I4', d1, d2, d3⟩ := put_1 (N := N) (s := 0) c1 (by omega) (by omega) l
  obtain ⟨M, rfl⟩ : ∃ e, N = e + 1 + 1 + 1 + 1 + 1 := ⟨N - 5, by omega⟩
  rw [show nI 24 + (-8) = nI 16 from by decide] at a2 a3
  rw [show nI 16 + (-8) = nI 8 from by decide] at b2 b3
  rw [show nI 8 + (-8) = nI 0 from by decide] at c2 c3
  have z : (nI 0 + (-8) < (0 : Int32)) = True := eq_true (by decide)
  refine ⟨I4, I4', d1, ?_, ?_⟩
  · unfold Tape_put
    rw [show (24 : Int32) = nI 24 from rfl, a2, b2, c2, d2]
    simp only [↓reduceIte, Tape_put_3, z]
  · unfold Mod_come
    rw [show (24 : Int32) = nI 24 from rfl, a3, b3, c3, d3]
    simp only [↓reduceIte, Mod_come_3, z]
theorem TapeR.thr {t : Nat} (h : TapeR I I' t) {v : Int32} : TapeR I (up2 I' 204 0 v) t := by
  obtain ⟨h1, h2, h3, h4, h5⟩ := h
  refine ⟨h1, h2, by rw [u_j (by omega)]; exact h3, fun i hi => ?_, fun i hi => ?_⟩
  · rw [u_o (by omega)]; exact h4 i hi
  · rw [u_o (by omega)]; exact h5 i hi
theorem op_feed {t : Nat} (hN : 2000 ≤ N) (h : TapeR I I' t) (l1 l2 l3 l4 l5 : Int32) : ∃ v I1 I1' t1, Hol_feed N ln sp sn ss l1 l2 l3 l4 l5 I = some (v, I1) ∧ Mod_feed N l1 l2 l3 l4 l5 I' = some (v, I1') ∧ TapeR I1 I1' t1 := by
  have h0 := h.thr (v := 0)
  have q1 := h0.2.1
  have q2 := h0.2.2.1
  have qt := h0.1
  have e : (nI t + 20 ≤ 940) = (t + 20 ≤ 940) := by rw [show (20 : Int32) = nI 20 from rfl, show (940 : Int32) = nI 940 from rfl, nA, le_nI (by omega) (by omega)]
  unfold Hol_feed Mod_feed
  rw [Option.bind_some, q1, q2]
  by_cases c : t + 20 ≤ 940
  · have c1 : nI t + 20 ≤ 940 := by rw [e]; exact c
    obtain ⟨I1, I1', a1, a2, a3⟩ := put_q hN h0 (by omega) l1
    obtain ⟨I2, I2', b1, b2, b3⟩ := put_q hN a1 (by omega) l2
    obtain ⟨I3, I3', c1', c2, c3⟩ := put_q hN b1 (by omega) l3
    obtain ⟨I4, I4', d1, d2, d3⟩ := put_q hN c1' (by omega) l4
    obtain ⟨I5, I5', e1, e2, e3⟩ := put_q hN d1 (by omega) l5
    refine ⟨I5 1 5, I5, I5', _, ?_, ?_, e1⟩
    · rw [if_pos c1, a2, Option.bind_some, b2, Option.bind_some, c2, Option.bind_some, d2, Option.bind_some, e2, Option.bind_some]
    · rw [if_pos c1, a3, Option.bind_some, b3, Option.bind_some, c3, Option.bind_some, d3, Option.bind_some, e3, Option.bind_some, e1.2.1, e1.2.2.1]
  · have c1 : ¬ nI t + 20 ≤ 940 := by rw [e]; exact c
    exact ⟨-1, I, _, t, by rw [if_neg c1], by rw [if_neg c1], h0⟩
theorem op_end {t : Nat} (h : TapeR I I' t) (l1 : Int32) : ∃ v I1 I1' t1, Hol_end ln sp sn ss l1 I = some (v, I1) ∧ Mod_end l1 I' = some (v, I1') ∧ TapeR I1 I1' t1 := by
  have h0 := h.thr (v := 0)
  have h9 := h0
  obtain ⟨h1, h2, h3, h4, h5⟩ := h0
  unfold Hol_end Mod_end
  simp only [Option.bind_some, h2, h3]
  by_cases c : l1 < 0
  · exact ⟨false, I, _, t, by rw [if_pos c], by rw [if_pos c], h9⟩
  · obtain ⟨j, hj, rfl⟩ := nNN c
    rw [if_neg c, if_neg c]
    by_cases d : nI j ≤ nI t
    · rw [if_pos d, if_pos d]
      have d2 : j ≤ t := by rw [le_nI (by omega) (by omega)] at d; exact d
      refine ⟨true, _, _, j, rfl, rfl, by omega, u_s, u_s, fun i hi => ?_, fun i hi => ?_⟩
      · rw [u_o (by omega), u_o (by omega)]; exact h4 i hi
      · rw [u_o (by omega)]; exact h5 i hi
    · rw [if_neg d, if_neg d]
      exact ⟨false, I, _, t, rfl, rfl, h9⟩
theorem op_parted (he : I 0 19 = I' 204 34) : Mod_parted I' = some (Hol_parted ln sp sn ss I, up2 I' 204 0 0) := by
  unfold Mod_parted Hol_parted
  rw [Option.bind_some, u_j (by omega), he]
theorem op_fault (he : I 0 17 = I' 204 10) : Mod_fault I' = some (Hol_fault ln sp sn ss I, up2 I' 204 0 0) := by
  unfold Mod_fault Hol_fault
  rw [Option.bind_some, u_j (by omega), he]
/-- what is kept of the last book -/
def ToldR (I I' : FI) : Prop := ∀ j, j < 4 → I 202 j = if I' 204 40 = 0 then -1 else I' 223 j
theorem op_told (h : ToldR I I') (l1 : Int32) : ∃ v, Hol_told ln sp sn ss l1 I = some v ∧ Mod_told l1 I' = some (v, up2 I' 204 0 0) := by
  have e40 : up2 I' 204 0 0 204 40 = I' 204 40 := u_j (by omega)
  have e223 : up2 I' 204 0 0 223 = I' 223 := u_o (by omega)
  have q := arg_in (n := 3) (by omega) l1
  rw [show nI 3 = (3 : Int32) from rfl, show nI (3 + 1) = (4 : Int32) from rfl] at q
  unfold Hol_told Mod_told
  rw [Option.bind_some, e40]
  rcases q with ⟨a, b, c, d, i, hi, rfl⟩ | ⟨a, (b | ⟨b, c, d⟩)⟩
  · have l4 : (nI i < Int32.ofNat 4) = True := by rw [show Int32.ofNat 4 = nI 4 from rfl, lt_nI (by omega) (by omega)]; exact eq_true (by omega)
    have g : in9 (nI i) 4 = True := in9_t (by omega) (by omega)
    have t : (nI i).toNatClampNeg = i := tN (by omega)
    have hh := h i (by omega)
    by_cases z : I' 204 40 = 0
    · rw [if_pos z] at hh
      exact ⟨-1, by simp only [↓reduceIte, b, l4, g, t, hh], by simp only [↓reduceIte, z]⟩
    · rw [if_neg z] at hh
      exact ⟨I' 223 i, by simp only [↓reduceIte, b, l4, g, t, hh], by simp only [↓reduceIte, z, a, g, t, e223]⟩
  · refine ⟨-1, by simp only [↓reduceIte, b], ?_⟩
    by_cases z : I' 204 40 = 0
    · simp only [↓reduceIte, z]
    · simp only [↓reduceIte, z, a, Bool.false_eq_true]
  · have l4 : (l1 < Int32.ofNat 4) = False := by
      have c' := of_eq_true c
      exact eq_false (Int32.not_lt.mpr c')
    refine ⟨-1, by simp only [↓reduceIte, b, l4], ?_⟩
    by_cases z : I' 204 40 = 0
    · simp only [↓reduceIte, z]
    · simp only [↓reduceIte, z, a, Bool.false_eq_true]
end Q44

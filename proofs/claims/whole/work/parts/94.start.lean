/-! the start: the two constructors, run out, and what they leave -/
def m0 : Mem := ((0, 0), fun _ => (7, 0), fun _ _ => 0, fun _ _ => 0, fun _ _ => none)
/-- the memory that a run leaves -/
def memR (r : Option Res) : Mem := match r with
  | some (none, false, μ) => μ
  | _ => m0
def okR (r : Option Res) : Bool := match r with
  | some (none, false, _) => true
  | _ => false
theorem memR_e {r : Option Res} (h : okR r = true) : r = some (none, false, memR r) := by
  unfold okR at h
  split at h
  · rfl
  · cases h
def r1 (d : Nat) : Option Res := run 30000 d M_Hol_init 0 (arg9 (mL9 M_Hol_init) [.ref 0]) [] (mNew m0 (0, 11) 20)
def m1 (d : Nat) : Mem := memR (r1 d)
def r2 (d : Nat) : Option Res := run 30000 d M_Mod_init 0 (arg9 (mL9 M_Mod_init) [.ref 204]) [] (mNew (m1 d) (0, 12) 46)
def m2 (d : Nat) : Mem := memR (r2 d)
def m3 (d : Nat) : Mem := mNew (m2 d) (4, 1) 1
def zI (I : FI) (a o n : Nat) (v : Int32) : Bool := (List.range n).all fun k => I a (o + k) == v
theorem zI_e {I : FI} {a o n : Nat} {v : Int32} (h : zI I a o n v = true) (k : Nat) (hk : k < n) : I a (o + k) = v := by
  have := List.all_eq_true.mp h k (List.mem_range.mpr hk)
  exact eq_of_beq this
/-- the cells of the start that are looked at: address, from, how many, what -/
def zonesB : List (Nat × Nat × Nat × Int32) := [(13, 0, 12, 6), (14, 0, 3, 1), (15, 0, 9, 4), (31, 0, 6, 0), (32, 0, 6, 0), (33, 0, 6, 0), (34, 0, 36, 0), (202, 0, 4, -1), (7, 8, 2, 4), (7, 10, 1, 3), (7, 11, 3, 0), (25, 9, 2, 0), (45, 5, 1, 0), (142, 3, 1, 0), (167, 3, 1, 0), (195, 5, 1, 0), (200, 1, 1, 0), (0, 17, 1, 0), (0, 18, 2, -1), (60, 1, 2, 0), (1, 5, 1, 0)]
def zonesM : List (Nat × Nat × Nat × Int32) := [(219, 0, 36, 0), (214, 0, 2, 0), (204, 0, 1, 0), (204, 2, 1, 0), (204, 10, 1, 0), (204, 24, 1, 0), (204, 30, 1, 0), (204, 33, 2, -1), (204, 36, 1, 0), (204, 40, 1, 0), (206, 0, 3, 0), (206, 3, 2, 4), (206, 5, 1, 3), (206, 6, 12, 6), (206, 18, 3, 1), (206, 21, 9, 4), (206, 30, 115, 0), (206, 145, 10, -1), (206, 155, 55, 0)]
def chkZ (L : List (Nat × Nat × Nat × Int32)) (I : FI) : Bool := L.all fun z => zI I z.1 z.2.1 z.2.2.1 z.2.2.2
theorem chkZ_e {L : List (Nat × Nat × Nat × Int32)} {I : FI} (h : chkZ L I = true) {a o n : Nat} {v : Int32} (hm : (a, o, n, v) ∈ L) (k : Nat) (hk : k < n) : I a (o + k) = v :=
  zI_e (List.all_eq_true.mp h _ hm) k hk
def chkW (J : FJ) : Bool := (List.range 35).all fun i => J 3 i == lN (nameN 32 (ownB.getD i []))
def D9 : Nat := 1000
set_option maxRecDepth 1000000 in
theorem m1_ok : okR (r1 D9) = true := by decide +kernel
set_option maxRecDepth 1000000 in
theorem m2_ok : (okR (r2 D9) && (mHp (m1 D9) == 204 && (mHp (m2 D9) == 225 && (mSl (m2 D9) == 10647 && chkZ zonesB (mI (m2 D9)))))) = true := by decide +kernel

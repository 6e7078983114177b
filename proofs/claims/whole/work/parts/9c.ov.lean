/-! the script beside a memory: what runs without it runs with it too -/
def Ov (L : Nat) (xs : Nat → Int32) (μ : Mem) : Mem := (μ.1, (fun a => if a = oFF then (6, L) else μ.2.1 a), (fun a => if a = oFF then xs else μ.2.2.1 a), μ.2.2.2.1, μ.2.2.2.2)
def Zf (μ : Mem) : Prop := (mSh μ oFF).1 = 7
def Lo (L : Nat) (xs : Nat → Int32) (a b : Option Res) : Prop := ∀ v e μ', a = some (v, e, μ') → Zf μ' ∧ b = some (v, e, Ov L xs μ')
section OV9
variable {L : Nat} {xs : Nat → Int32} {a b : Option Res} {μ : Mem}
theorem ov_hp : mHp (Ov L xs μ) = mHp μ := rfl
theorem ov_J : mJ (Ov L xs μ) = mJ μ := rfl
theorem ov_P : mP (Ov L xs μ) = mP μ := rfl
theorem ov_sh {x : Nat} (h : x ≠ oFF) : mSh (Ov L xs μ) x = mSh μ x := if_neg h
theorem ov_I {x : Nat} (h : x ≠ oFF) : mI (Ov L xs μ) x = mI μ x := if_neg h
theorem ov_ne {x : Nat} (hZ : Zf μ) (h : (mSh μ x).1 ≠ 7) : x ≠ oFF := fun e => h (by rw [e]; exact hZ)
theorem ov_sl : mSl (Ov L xs μ) = mSl μ := rfl
theorem ov_wI {x k : Nat} {v : Int32} (h : x ≠ oFF) : wI (Ov L xs μ) x k v = Ov L xs (wI μ x k v) := by
  have e : up2 (fun a => if a = oFF then xs else μ.2.2.1 a) x k v = fun a => if a = oFF then xs else up2 μ.2.2.1 x k v a := by
    funext c j
    unfold up2
    by_cases e : c = oFF
    · subst e
      rw [if_neg (fun w => h w.1.symm)]
      dsimp only
      simp only [↓reduceIte]
    · dsimp only
      simp only [e, if_false]
  show (μ.1, (fun a => if a = oFF then (6, L) else μ.2.1 a), up2 (fun a => if a = oFF then xs else μ.2.2.1 a) x k v, μ.2.2.2) = Ov L xs (μ.1, μ.2.1, up2 μ.2.2.1 x k v, μ.2.2.2)
  rw [e]
  rfl
theorem ov_wJ {x k : Nat} {v : Int64} : wJ (Ov L xs μ) x k v = Ov L xs (wJ μ x k v) := rfl
theorem ov_wP {x k : Nat} {v : Option Nat} : wP (Ov L xs μ) x k v = Ov L xs (wP μ x k v) := rfl
theorem ov_cpJ {x sp y dp n : Nat} : cpJ (Ov L xs μ) x sp y dp n = Ov L xs (cpJ μ x sp y dp n) := rfl
theorem ov_cpI {x sp y dp n : Nat} (h : x ≠ oFF) (h2 : y ≠ oFF) : cpI (Ov L xs μ) x sp y dp n = Ov L xs (cpI μ x sp y dp n) := by
  have e : cp2 (fun a => if a = oFF then xs else μ.2.2.1 a) x sp y dp n = fun a => if a = oFF then xs else cp2 μ.2.2.1 x sp y dp n a := by
    funext c j
    unfold cp2
    by_cases e : c = oFF
    · subst e
      rw [if_neg (fun w => h2 w.1.symm)]
      dsimp only
      simp only [↓reduceIte]
    · dsimp only
      simp only [e, h, if_false]
  show (μ.1, (fun a => if a = oFF then (6, L) else μ.2.1 a), cp2 (fun a => if a = oFF then xs else μ.2.2.1 a) x sp y dp n, μ.2.2.2) = Ov L xs (μ.1, μ.2.1, cp2 μ.2.2.1 x sp y dp n, μ.2.2.2)
  rw [e]
  rfl
theorem ov_new {kd : Nat × Nat} {n : Nat} (h : mHp μ < oFF) : mNew (Ov L xs μ) kd n = Ov L xs (mNew μ kd n) := by
  have hn : ¬ oFF = μ.1.1 := by have : μ.1.1 < oFF := h; omega
  have e1 : (fun b => if b = μ.1.1 then kd else if b = oFF then (6, L) else μ.2.1 b) = fun b => if b = oFF then (6, L) else if b = μ.1.1 then kd else μ.2.1 b := by
    funext c
    by_cases e : c = oFF
    · rw [e, if_neg hn, if_pos rfl, if_pos rfl]
    · rw [if_neg e, if_neg e]
  have e2 : z2 (fun a => if a = oFF then xs else μ.2.2.1 a) μ.1.1 0 = fun a => if a = oFF then xs else z2 μ.2.2.1 μ.1.1 0 a := by
    funext c j
    unfold z2
    by_cases e : c = oFF
    · rw [e, if_neg hn]
      dsimp only
      simp only [↓reduceIte]
    · dsimp only
      simp only [e, if_false]
  show ((μ.1.1 + 1, μ.1.2 + n), (fun b => if b = μ.1.1 then kd else if b = oFF then (6, L) else μ.2.1 b), z2 (fun a => if a = oFF then xs else μ.2.2.1 a) μ.1.1 0, z2 μ.2.2.2.1 μ.1.1 0, z2 μ.2.2.2.2 μ.1.1 none) = Ov L xs ((μ.1.1 + 1, μ.1.2 + n), (fun b => if b = μ.1.1 then kd else μ.2.1 b), z2 μ.2.2.1 μ.1.1 0, z2 μ.2.2.2.1 μ.1.1 0, z2 μ.2.2.2.2 μ.1.1 none)
  rw [e1, e2]
  rfl
theorem zf_new {kd : Nat × Nat} {n : Nat} (hZ : Zf μ) (h : mHp μ < oFF) : Zf (mNew μ kd n) := by
  have hn : ¬ oFF = mHp μ := by omega
  show (if oFF = mHp μ then kd else mSh μ oFF).1 = 7
  rw [if_neg hn]; exact hZ
theorem lo_none : Lo L xs none b := fun _ _ _ h => by cases h
theorem lo_some {v : Option Value} {e : Bool} (hZ : Zf μ) : Lo L xs (some (v, e, μ)) (some (v, e, Ov L xs μ)) := fun _ _ _ h => by cases h; exact ⟨hZ, rfl⟩
theorem lo_ite {c : Prop} [Decidable c] {a b a2 b2 : Option Res} (h1 : Lo L xs a a2) (h2 : Lo L xs b b2) : Lo L xs (if c then a else b) (if c then a2 else b2) := by by_cases h : c <;> simp only [h, if_true, if_false] <;> assumption
theorem lo_cond {c : Bool} {a b a2 b2 : Option Res} (h1 : Lo L xs a a2) (h2 : Lo L xs b b2) : Lo L xs (bif c then a else b) (bif c then a2 else b2) := by cases c <;> assumption
/-- a test that speaks of memory, none where it fails -/
theorem lo_m {c c2 : Prop} [Decidable c] [Decidable c2] {p : Prop} {a b : Option Res} (h1 : c → p) (h2 : p → c → c2) (h3 : p → c → Lo L xs a b) : Lo L xs (if c then a else none) (if c2 then b else none) := by
  by_cases h : c
  · rw [if_pos h, if_pos (h2 (h1 h) h)]; exact h3 (h1 h) h
  · rw [if_neg h]; exact lo_none
theorem lo_kII {st : List Value} {k k2 : Int32 → Int32 → List Value → Option Res} (h : ∀ x y r, Lo L xs (k x y r) (k2 x y r)) : Lo L xs (kII st k) (kII st k2) := by
  intro v e m hr; unfold kII at hr ⊢; split at hr <;> first | exact h _ _ _ _ _ _ hr | cases hr
theorem lo_kJJ {st : List Value} {k k2 : Int64 → Int64 → List Value → Option Res} (h : ∀ x y r, Lo L xs (k x y r) (k2 x y r)) : Lo L xs (kJJ st k) (kJJ st k2) := by
  intro v e m hr; unfold kJJ at hr ⊢; split at hr <;> first | exact h _ _ _ _ _ _ hr | cases hr
theorem lo_kJI {st : List Value} {k k2 : Int64 → Int32 → List Value → Option Res} (h : ∀ x y r, Lo L xs (k x y r) (k2 x y r)) : Lo L xs (kJI st k) (kJI st k2) := by
  intro v e m hr; unfold kJI at hr ⊢; split at hr <;> first | exact h _ _ _ _ _ _ hr | cases hr
theorem lo_kI {st : List Value} {k k2 : Int32 → List Value → Option Res} (h : ∀ x r, Lo L xs (k x r) (k2 x r)) : Lo L xs (kI st k) (kI st k2) := by
  intro v e m hr; unfold kI at hr ⊢; split at hr <;> first | exact h _ _ _ _ _ hr | cases hr
theorem lo_kJ {st : List Value} {k k2 : Int64 → List Value → Option Res} (h : ∀ x r, Lo L xs (k x r) (k2 x r)) : Lo L xs (kJ st k) (kJ st k2) := by
  intro v e m hr; unfold kJ at hr ⊢; split at hr <;> first | exact h _ _ _ _ _ hr | cases hr
theorem lo_kR {st : List Value} {k k2 : Nat → List Value → Option Res} (h : ∀ x r, Lo L xs (k x r) (k2 x r)) : Lo L xs (kR st k) (kR st k2) := by
  intro v e m hr; unfold kR at hr ⊢; split at hr <;> first | exact h _ _ _ _ _ hr | cases hr
theorem lo_kIR {st : List Value} {k k2 : Nat → Int32 → List Value → Option Res} (h : ∀ x i r, Lo L xs (k x i r) (k2 x i r)) : Lo L xs (kIR st k) (kIR st k2) := by
  intro v e m hr; unfold kIR at hr ⊢; split at hr <;> first | exact h _ _ _ _ _ _ hr | cases hr
theorem lo_sw {k k2 : Nat → Option Res} {x : Int32} {t : Nat} (h : ∀ t, Lo L xs (k t) (k2 t)) : ∀ sw, Lo L xs (sw9 k x t sw) (sw9 k2 x t sw)
  | [] => h t
  | (c, u) :: r => by
    show Lo L xs (if x = c then k u else sw9 k x t r) (if x = c then k2 u else sw9 k2 x t r)
    exact lo_ite (h u) (lo_sw h r)
theorem lo_cV {c c2 : Option Res} {k h k2 h2 : Mem → Option Res} (hc : Lo L xs c c2) (e1 : ∀ ν, Zf ν → Lo L xs (k ν) (k2 (Ov L xs ν))) (e2 : ∀ ν, Zf ν → Lo L xs (h ν) (h2 (Ov L xs ν))) : Lo L xs (cV c k h) (cV c2 k2 h2) := by
  cases c with
  | none => exact lo_none
  | some x =>
    obtain ⟨o, t, ν⟩ := x
    obtain ⟨z, e0⟩ := hc o t ν rfl
    rw [e0]
    cases o with
    | none => cases t with
      | false => exact e1 ν z
      | true => exact e2 ν z
    | some v => exact lo_none
theorem lo_cI {c c2 : Option Res} {k k2 : Int32 → Mem → Option Res} {h h2 : Mem → Option Res} (hc : Lo L xs c c2) (e1 : ∀ x ν, Zf ν → Lo L xs (k x ν) (k2 x (Ov L xs ν))) (e2 : ∀ ν, Zf ν → Lo L xs (h ν) (h2 (Ov L xs ν))) : Lo L xs (cI c k h) (cI c2 k2 h2) := by
  cases c with
  | none => exact lo_none
  | some x =>
    obtain ⟨o, t, ν⟩ := x
    obtain ⟨z, e0⟩ := hc o t ν rfl
    rw [e0]
    cases o with
    | none => cases t with
      | false => exact lo_none
      | true => exact e2 ν z
    | some v => cases t with
      | false => cases v <;> first | exact e1 _ ν z | exact lo_none
      | true => cases v <;> exact lo_none
theorem lo_cJ {c c2 : Option Res} {k k2 : Int64 → Mem → Option Res} {h h2 : Mem → Option Res} (hc : Lo L xs c c2) (e1 : ∀ x ν, Zf ν → Lo L xs (k x ν) (k2 x (Ov L xs ν))) (e2 : ∀ ν, Zf ν → Lo L xs (h ν) (h2 (Ov L xs ν))) : Lo L xs (cJ c k h) (cJ c2 k2 h2) := by
  cases c with
  | none => exact lo_none
  | some x =>
    obtain ⟨o, t, ν⟩ := x
    obtain ⟨z, e0⟩ := hc o t ν rfl
    rw [e0]
    cases o with
    | none => cases t with
      | false => exact lo_none
      | true => exact e2 ν z
    | some v => cases t with
      | false => cases v <;> first | exact e1 _ ν z | exact lo_none
      | true => cases v <;> exact lo_none
theorem lo_rt {rec rec2 : Rec9} (hrec : ∀ d M pc ls st μ, Zf μ → Lo L xs (rec d M pc ls st μ) (rec2 d M pc ls st (Ov L xs μ))) {e d M pc M' nl rt : Nat} {ls : Loc9} {as r : List Value} {h h2 : Mem → Option Res} (hZ : Zf μ) (hh : ∀ ν, Zf ν → Lo L xs (h ν) (h2 (Ov L xs ν))) : Lo L xs (match rt with
    | 0 => cV (rec e M' 0 (arg9 nl as) [] μ) (fun μ => rec d M (pc + 3) ls r μ) h
    | 2 => cJ (rec e M' 0 (arg9 nl as) [] μ) (fun x μ => rec d M (pc + 3) ls (.long x :: r) μ) h
    | _ => cI (rec e M' 0 (arg9 nl as) [] μ) (fun x μ => rec d M (pc + 3) ls (.int x :: r) μ) h) (match rt with
    | 0 => cV (rec2 e M' 0 (arg9 nl as) [] (Ov L xs μ)) (fun μ => rec2 d M (pc + 3) ls r μ) h2
    | 2 => cJ (rec2 e M' 0 (arg9 nl as) [] (Ov L xs μ)) (fun x μ => rec2 d M (pc + 3) ls (.long x :: r) μ) h2
    | _ => cI (rec2 e M' 0 (arg9 nl as) [] (Ov L xs μ)) (fun x μ => rec2 d M (pc + 3) ls (.int x :: r) μ) h2) := by
  match rt with
  | 0 => exact lo_cV (hrec _ _ _ _ _ _ hZ) (fun _ z => hrec _ _ _ _ _ _ z) hh
  | 1 => exact lo_cI (hrec _ _ _ _ _ _ hZ) (fun _ _ z => hrec _ _ _ _ _ _ z) hh
  | 2 => exact lo_cJ (hrec _ _ _ _ _ _ hZ) (fun _ _ z => hrec _ _ _ _ _ _ z) hh
  | _ + 3 => exact lo_cI (hrec _ _ _ _ _ _ hZ) (fun _ _ z => hrec _ _ _ _ _ _ z) hh
theorem lo_call {rec rec2 : Rec9} (hrec : ∀ d M pc ls st μ, Zf μ → Lo L xs (rec d M pc ls st μ) (rec2 d M pc ls st (Ov L xs μ))) {d M pc : Nat} {ls : Loc9} {st : List Value} {M' na kd rt nl ci hd : Nat} (hZ : Zf μ) : Lo L xs (call9 rec d M pc ls st μ M' na kd rt nl ci hd) (call9 rec2 d M pc ls st (Ov L xs μ) M' na kd rt nl ci hd) := by
  unfold call9
  cases d with
  | zero => exact lo_none
  | succ d' =>
    dsimp only
    cases tk9 na [] st with
    | none => exact lo_none
    | some x =>
      obtain ⟨as, r⟩ := x
      dsimp only
      refine lo_cond ?_ lo_none
      cases kd with
      | zero =>
        refine lo_rt hrec hZ (fun ν z => ?_)
        cases hd with
        | zero => exact lo_none
        | succ h => exact hrec _ _ _ _ _ _ z
      | succ kd =>
        cases as with
        | nil => exact lo_none
        | cons v w =>
          cases v
          all_goals first
            | exact lo_none
            | (rename_i x
               refine lo_m (p := x ≠ oFF) (fun h => ov_ne hZ (by simp [h])) (fun n h => by rw [ov_sh n]; exact h) (fun n _ => lo_rt hrec hZ (fun ν z => ?_))
               cases hd with
               | zero => exact lo_none
               | succ h => exact hrec _ _ _ _ _ _ z)
set_option maxHeartbeats 8000000 in
theorem lo_step {rec rec2 : Rec9} (hrec : ∀ d M pc ls st μ, Zf μ → Lo L xs (rec d M pc ls st μ) (rec2 d M pc ls st (Ov L xs μ))) {d M pc : Nat} {ls : Loc9} {st : List Value} {i : Instr} {q : List Nat} {v : Value} {sw : List (Int32 × Nat)} (hZ : Zf μ) : Lo L xs (step9 rec d M pc ls st μ i q v sw) (step9 rec2 d M pc ls st (Ov L xs μ) i q v sw) := by
  unfold step9
  cases i
  case arraylength =>
    dsimp only
    refine lo_kR (fun x r => lo_m (p := x ≠ oFF) (fun h => ov_ne hZ (by omega)) (fun n h => by rw [ov_sh n]; exact h) (fun n _ => ?_))
    rw [ov_sh n]
    exact hrec _ _ _ _ _ _ hZ
  case iaload =>
    dsimp only
    refine lo_kIR (fun x j r => lo_m (p := x ≠ oFF) (fun h => ov_ne hZ (by omega)) (fun n h => by rw [ov_sh n]; exact h) (fun n _ => ?_))
    rw [ov_I n]
    exact hrec _ _ _ _ _ _ hZ
  case baload =>
    dsimp only
    refine lo_kIR (fun x j r => lo_m (p := x ≠ oFF) (fun h => ov_ne hZ (by omega)) (fun n h => by rw [ov_sh n]; exact h) (fun n _ => ?_))
    rw [ov_I n]
    exact hrec _ _ _ _ _ _ hZ
  case laload =>
    dsimp only
    refine lo_kIR (fun x j r => lo_m (p := x ≠ oFF) (fun h => ov_ne hZ (by omega)) (fun n h => by rw [ov_sh n]; exact h) (fun n _ => ?_))
    exact hrec _ _ _ _ _ _ hZ
  case aaload =>
    dsimp only
    refine lo_kIR (fun x j r => lo_m (p := x ≠ oFF) (fun h => ov_ne hZ (by omega)) (fun n h => by rw [ov_sh n]; exact h) (fun n _ => ?_))
    rw [ov_P]
    split
    · exact hrec _ _ _ _ _ _ hZ
    · exact lo_none
  case iastore =>
    dsimp only
    split
    · rename_i y j x r
      refine lo_m (p := x ≠ oFF) (fun h => ov_ne hZ (by omega)) (fun n h => by rw [ov_sh n]; exact h) (fun n _ => ?_)
      rw [ov_wI n]
      exact hrec _ _ _ _ _ _ hZ
    · exact lo_none
  case bastore =>
    dsimp only
    split
    · rename_i y j x r
      by_cases hk : x = oFF
      · subst hk
        have h7 : (mSh μ oFF).1 = 7 := hZ
        intro v e m hr
        exfalso
        split at hr
        · rename_i h
          omega
        · split at hr
          · rename_i h
            omega
          · cases hr
      · rw [ov_sh hk, ov_wI hk, ov_wI hk]
        exact lo_ite (hrec _ _ _ _ _ _ hZ) (lo_ite (hrec _ _ _ _ _ _ hZ) lo_none)
    · exact lo_none
  case lastore =>
    dsimp only
    split
    · rename_i y j x r
      refine lo_m (p := x ≠ oFF) (fun h => ov_ne hZ (by omega)) (fun n h => by rw [ov_sh n]; exact h) (fun n _ => ?_)
      rw [ov_wJ]
      exact hrec _ _ _ _ _ _ hZ
    · exact lo_none
  case aastore =>
    dsimp only
    split
    · rename_i y j x r
      refine lo_m (p := x ≠ oFF ∧ y ≠ oFF) (fun h => ⟨ov_ne hZ (by omega), ov_ne hZ (by simp [h.2.2])⟩) (fun n h => by rw [ov_sh n.1, ov_sh n.2]; exact h) (fun n _ => ?_)
      rw [ov_wP]
      exact hrec _ _ _ _ _ _ hZ
    · exact lo_none
  case getfield =>
    dsimp only
    split
    · refine lo_kR (fun x r => lo_m (p := x ≠ oFF) (fun h => ov_ne hZ (by simp [h])) (fun n h => by rw [ov_sh n]; exact h) (fun n _ => ?_))
      rw [ov_I n, ov_P, ov_J]
      split
      · exact hrec _ _ _ _ _ _ hZ
      · split
        · exact hrec _ _ _ _ _ _ hZ
        · exact lo_none
      · exact hrec _ _ _ _ _ _ hZ
    · exact lo_none
  case putfield =>
    dsimp only
    split
    · split
      · rename_i y x r
        refine lo_m (p := x ≠ oFF) (fun h => ov_ne hZ (by simp [h])) (fun n h => by rw [ov_sh n]; exact h) (fun n _ => ?_)
        rw [ov_wI n]
        exact hrec _ _ _ _ _ _ hZ
      · rename_i y x r
        refine lo_m (p := x ≠ oFF) (fun h => ov_ne hZ (by simp [h])) (fun n h => by rw [ov_sh n]; exact h) (fun n _ => ?_)
        rw [ov_wJ]
        exact hrec _ _ _ _ _ _ hZ
      · rename_i y x r
        refine lo_m (p := x ≠ oFF) (fun h => ov_ne hZ (by simp [h])) (fun n h => by rw [ov_sh n]; exact h) (fun n _ => ?_)
        rw [ov_wP]
        exact hrec _ _ _ _ _ _ hZ
      · rename_i y x r
        refine lo_m (p := x ≠ oFF) (fun h => ov_ne hZ (by simp [h.1])) (fun n h => by rw [ov_sh n]; exact h) (fun n _ => ?_)
        rw [ov_wI n]
        exact hrec _ _ _ _ _ _ hZ
      · exact lo_none
    · exact lo_none
  case new =>
    dsimp only
    split
    · refine lo_m (p := mHp μ < oFF) (fun h => h) (fun _ h => h) (fun n _ => ?_)
      rw [ov_new n]
      exact hrec _ _ _ _ _ _ (zf_new hZ n)
    · refine lo_m (p := mHp μ < oFF) (fun h => h.1) (fun _ h => h) (fun n _ => ?_)
      rw [ov_new n]
      exact lo_cond (lo_some (zf_new hZ n)) lo_none
    · exact lo_none
  case newarray =>
    dsimp only
    split
    · refine lo_kI (fun x r => lo_m (p := mHp μ < oFF) (fun h => h.2.2) (fun _ h => h) (fun n _ => ?_))
      rw [ov_new n]
      exact hrec _ _ _ _ _ _ (zf_new hZ n)
    · exact lo_none
  case anewarray =>
    dsimp only
    refine lo_kI (fun x r => lo_m (p := mHp μ < oFF) (fun h => h.2.2) (fun _ h => h) (fun n _ => ?_))
    rw [ov_new n]
    exact hrec _ _ _ _ _ _ (zf_new hZ n)
  case invokestatic =>
    dsimp only
    split
    · exact lo_call hrec hZ
    · split
      · rename_i n dp y sp x r
        by_cases hk : (mSh μ x).1 = 7
        · intro v e m hr
          exfalso
          split at hr
          · cases hcat : cat9 r with
            | false => rw [hcat] at hr; cases hr
            | true =>
              rw [hcat] at hr
              change (if (mSh μ x).1 = 1 then _ else if (mSh μ x).1 = 4 then _ else none) = _ at hr
              rw [if_neg (by omega), if_neg (by omega)] at hr
              cases hr
          · cases hr
        · have hx := ov_ne hZ hk
          refine lo_m (p := y ≠ oFF) (fun h => ov_ne hZ (by rw [← h.2.1.1]; exact hk)) (fun n h => by rw [ov_sh n, ov_sh hx]; exact h) (fun n _ => ?_)
          rw [ov_sh hx, ov_cpI hx n, ov_cpJ]
          exact lo_cond (lo_ite (hrec _ _ _ _ _ _ hZ) (lo_ite (hrec _ _ _ _ _ _ hZ) lo_none)) lo_none
      · exact lo_none
    all_goals repeat' (first
      | exact lo_none
      | exact hrec _ _ _ _ _ _ hZ
      | refine lo_kII (fun _ _ _ => ?_)
      | refine lo_kJJ (fun _ _ _ => ?_)
      | refine lo_kI (fun _ _ => ?_)
      | refine lo_ite ?_ ?_
      | refine lo_cond ?_ ?_)
  all_goals dsimp only
  all_goals repeat' (first
    | exact lo_none
    | exact hrec _ _ _ _ _ _ hZ
    | exact lo_some hZ
    | exact lo_call hrec hZ
    | exact lo_sw (fun _ => hrec _ _ _ _ _ _ hZ) _
    | refine lo_kII (fun _ _ _ => ?_)
    | refine lo_kJJ (fun _ _ _ => ?_)
    | refine lo_kJI (fun _ _ _ => ?_)
    | refine lo_kIR (fun _ _ _ => ?_)
    | refine lo_kI (fun _ _ => ?_)
    | refine lo_kJ (fun _ _ => ?_)
    | refine lo_kR (fun _ _ => ?_)
    | refine lo_ite ?_ ?_
    | refine lo_cond ?_ ?_
    | split)
theorem lo_run : ∀ (n d M pc : Nat) (ls : Loc9) (st : List Value) (μ : Mem), Zf μ → Lo L xs (run n d M pc ls st μ) (run n d M pc ls st (Ov L xs μ))
  | 0, _, _, _, _, _, _, _ => lo_none
  | n + 1, d, M, pc, ls, st, μ, hZ => by
    show Lo L xs (match code9 M pc with
      | some (c, i, q, v, sw) => step9 (run n) d M pc (cutA c ls) st μ i q v sw
      | none => none) (match code9 M pc with
      | some (c, i, q, v, sw) => step9 (run n) d M pc (cutA c ls) st (Ov L xs μ) i q v sw
      | none => none)
    cases code9 M pc with
    | none => exact lo_none
    | some x => exact lo_step (fun d M pc ls st μ z => lo_run n d M pc ls st μ z) hZ
theorem go_ov {d M pc : Nat} {ls : Loc9} {st : List Value} {v : Option Value} {e : Bool} {μ' : Mem} (hZ : Zf μ) (h : Go d M pc ls st μ (v, e, μ')) : Go d M pc ls st (Ov L xs μ) (v, e, Ov L xs μ') ∧ Zf μ' := by
  obtain ⟨N, hN⟩ := h
  exact ⟨⟨N, fun n hn => (lo_run n d M pc ls st μ hZ v e μ' (hN n hn)).2⟩, (lo_run (L := L) (xs := xs) N d M pc ls st μ hZ v e μ' (hN N (Nat.le_refl _))).1⟩
end OV9

/-! a throw that leaves a method, and the helpers that catch it -/
section XEnds
variable {p : Program} {l : Launch} {e : Env} {R : Room} {s : State} {m : MethodId} {args : Array Value} {below : List Frame} {meth : Method} {c : Code} {H : Heap} {locs : List Loc} {cells slots : Nat} {Q : State → Prop}
variable {mc ms : Nat} {free : Addr → Prop} {A0 A1 : Nat → Prop} {H0 : Heap} {a : Array Value} {ls : Array Slot} {st0 rest : List Value}
variable {Qc : Array Value → State → Outcome → State → Prop} {XC : String → State → State → Prop}
set_option maxHeartbeats 1000000 in
/-- 'throw new E()': new; dup; invokespecial; athrow -/
theorem x_throw0 {cc : ByteArray} {pc : Nat} (hexec : p.tables.exec = Jvm.exec) (hb : c.code = cc) (hl : l.stackTraces = false) {own cls : String} {names : List String} {ik ic mc ms : Nat} {A : Nat → Prop}
    (hown : s.vm.findClass own = some m.cls) (hcls : Bundle.fit cls = true) (hnames : ∀ n ∈ names, Bundle.fit n = true)
    (hk : (Cond.classLink own ik cls).before args s = true) (hini : (Cond.initialized cls).before args s = true) (hat : ∀ w ∈ vx_at0 own ic cls names, w.before args s = true)
    (hgood : ∀ w ∈ Cond.classLink own ik cls :: Cond.initialized cls :: vx_at0 own ic cls names, vx_ot w = true)
    (hU : vx_Zq Bundle.tN "UNASSIGNED_STACK" Bundle.steD A s s.heap) (hN : vx_Zq Bundle.tN "SUPPRESSED_SENTINEL" Bundle.listD A s s.heap) (hS : va_S A s.heap H locs) (hsize : ls.size = c.maxLocals)
    (d0 : decode cc pc = .ok (.new ik, 3)) (d3 : decode cc (pc + 3) = .ok (.dup, 1)) (d4 : decode cc (pc + 4) = .ok (.invokespecial ic, 3)) (d7 : decode cc (pc + 7) = .ok (.athrow, 1))
    (hout : ∀ x ∈ c.exceptionTable.toList, covers x (pc + 7) = false)
    (hRframes : names.length + 3 < R.frames) (hRlocals : (rest.map fun v => v.category).sum + (13 * (names.length + 1) + 42) ≤ R.locals) (hRcells : cells + 1 ≤ R.cells) (hRslots : slots + 6 ≤ R.slots) (hlocks : meth.locks = false)
    (hx : ∀ t : State, s.WarmedH t.vm → t.heap.size = H.size + 1 → (∀ q : Nat, q < H.size → t.heap[q]? = H[q]?) → XC cls s t)
    (hf : ∀ z ∈ locs, free z.base) (hc : cells + 1 ≤ mc) (hs : slots + 6 ≤ ms) :
    W p l e R s m args below meth c H locs cells slots (vx_MQ below Qc XC args s mc ms free) (F0 m pc ls rest) := by
  intro T hT X
  have htr : e.platform.stackTraces = false := (show e.platform.stackTraces = l.stackTraces by rw [X.admits.platform]).trans hl
  have Y := vx_rebase X (R' := { frames := R.frames, locals := R.locals, cells := 1, slots := 6 }) (Nat.le_refl _) (Nat.le_refl _) hRcells hRslots
  obtain ⟨s', hA⟩ : ∃ z, z = (T.setVm s.vm).setFrames (.invoking m args :: below) := ⟨_, rfl⟩
  rw [← hA] at Y
  have hvm : s'.vm = s.vm := by rw [hA]; rfl
  have hhp : s'.heap = H := by rw [hA]; exact hT
  have hW0 : s.WarmedH s'.vm := by rw [hvm]; exact State.WarmedH.refl s
  have hat' : ∀ w ∈ vx_at0 own ic cls names, w.before args s' = true := fun w hw => vx_ot_at hW0 hvm.symm (hgood w (List.mem_cons_of_mem _ (List.mem_cons_of_mem _ hw))) (hat w hw)
  have hk' : (Cond.classLink own ik cls).before args s' = true := vx_ot_at hW0 hvm.symm (hgood _ List.mem_cons_self) hk
  have hini' : (Cond.initialized cls).before args s' = true := vx_ot_at hW0 hvm.symm (hgood _ (List.mem_cons_of_mem _ List.mem_cons_self)) hini
  have hU' : vx_Zq Bundle.tN "UNASSIGNED_STACK" Bundle.steD A s' s'.heap := by rw [hhp]; exact vx_Zq.moved hW0.alike (hU.kept hS.2.1)
  have hN' : vx_Zq Bundle.tN "SUPPRESSED_SENTINEL" Bundle.listD A s' s'.heap := by rw [hhp]; exact vx_Zq.moved hW0.alike (hN.kept hS.2.1)
  have h : ∀ w ∈ Bundle.ownAtoms0 own ic cls names, w.before args s' = true := vx_own hat' (vx_isRefq hU'.1) (vx_isRefq hN'.1) hU'.2.word hN'.2.word
  have hown' : s'.vm.findClass own = some m.cls := by rw [hvm]; exact hown
  have hins : (Cond.instantiable cls 6).before args s' = true := h _ (by simp [Bundle.ownAtoms0])
  obtain ⟨vm₁, cX, kX, hfX, hkX, -, -, X₁, st1⟩ := Y.newCold hexec (own := own) (C := cls) (index := ik) (n := 6) hown' hk' hins hini'
    (g := F0 m pc ls rest) rfl (by rw [hb]; exact d0) (Nat.le_refl _) (Nat.le_refl _)
  generalize hT1 : (T.setVm vm₁).pushCell { cls := cX, slots := kX.instanceTypes.map defaultValue, vm := .none } = T1 at X₁ st1
  have hcat : (Value.ref T.heap.size).category = 1 := rfl
  have hcellA : T1.heap[T.heap.size]? = some (freshCell cX kX) := by rw [← hT1]; exact State.heap_pushCell_size _ _
  have d3' : decode c.code (pc + 3) = .ok (.dup, 1) := by rw [hb]; exact d3
  obtain ⟨U, hsteps, hrun, hend, hW, hsame, ce, hce, hO⟩ := X₁.ctorThrow0 hexec htr (own := own) (cls := cls) (names := names) (ic := ic) hown' hcls hnames h (fun x hx => nomatch hx) hfX hkX hcellA (by rw [hhp, hT]; exact Nat.le_refl _)
    (g := { method := m, pc := pc + 4, locals := ls, stack := .ref T.heap.size :: .ref T.heap.size :: rest, locked := none }) rfl hsize rfl rfl (rest := rest) rfl
    (by rw [hb]; exact d4) (by rw [hb]; exact d7) hout hRframes (by simp only [List.map_cons, List.sum_cons, hcat]; omega) hlocks
  obtain ⟨f1, f2⟩ := vx_frame hsame
  rw [hhp] at f1 f2
  have f3 : U.heap.size = H.size + 1 := by
    obtain ⟨-, -, g3, -⟩ := id hsame
    have g4 : U.heap.size ≤ s'.heap.size + (0 + 1) := g3
    rw [hhp] at g4
    have g5 := (Array.getElem?_eq_some_iff.mp hce).1
    rw [hT] at g5
    omega
  have hWs : s.WarmedH U.vm := State.WarmedH.trans hW0 hW
  have hcl : s.vm.findClass cls = some ce.cls := by
    have h9 := hO.cls
    rw [hvm] at h9
    exact h9
  have hall : s.sameButNew ({ U with vm := s.vm } : State) locs mc ms := by
    subst hA
    obtain ⟨e1, e2⟩ := hsame
    rw [State.setFrames_setFrames] at e1
    have h2 : (T.setVm s.vm).sameButNew ({ U with vm := s.vm } : State) [] (0 + 1) (0 + 6) := ⟨e1, e2⟩
    have h3 := X.same.trans h2
    rw [List.append_nil] at h3
    exact h3.mono hc hs
  refine ⟨U, ?_, .threw T.heap.size, hrun, hend, Or.inr ⟨T.heap.size, rfl, cls, ce, locs, hx U hWs f3 (fun q hq => f2 q hq (fun z hz => nomatch hz)), hce, hO.vm, hcl, hWs, hall, hf⟩⟩
  refine st1 _ ?_
  show Steps p.tables e below (T1.setTop { method := m, pc := pc + 3, locals := ls, stack := .ref T.heap.size :: rest, locked := none }) _
  jvm_step X₁.here [X₁.here.top, hexec, d3', Value.category]
  exact hsteps
end XEnds
def nse9 : String := "java/util/NoSuchElementException"
def up9 : List String := ["java/lang/RuntimeException", "java/lang/Exception"]
/-- the words of the throw that stay under warmer tables -/
def at9L : List Cond := (vx_at0 "HiddenOrLost" 147 nse9 up9).filter goodWord
/-- the others: they follow from these at each state -/
def at9B : List Cond := [.castable nse9 nse9, .declares (Bundle.init0 "java/lang/RuntimeException"), .declares (Bundle.init0 "java/lang/Exception"), .declares (Bundle.init0 "java/lang/Throwable")]
theorem at9_ok : GoodIn lw_tbl at9L := goodIn_r _ [139, 1367, 1376, 1378, 1381, 1383, 1368, 1369, 151, 152, 1370, 1375, 1379, 1395, 1357, 1396, 1359, 1397, 1361, 1371, 1373, 1363, 1385, 1386, 1387, 1388, 1388, 1389, 1390, 1391, 1391, 1392, 1393, 1368, 1384, 1346, 1354, 1355, 1356, 1358, 1360, 1362, 1366, 1365, 1364] (by decide +kernel) (by decide +kernel)
theorem at9_b : ∀ w ∈ (vx_at0 "HiddenOrLost" 147 nse9 up9).filter (fun w => !goodWord w), w ∈ at9B := by decide +kernel
theorem at9_m (w : Cond) (h : (decide (w ∈ at9L) && goodWord w) = true) : w ∈ G9 := by
  rw [Bool.and_eq_true, decide_eq_true_eq] at h
  exact g9 (at9_ok w h.1).1 h.2
theorem dcl9 {args : Array Value} {s : State} {x : MethodName} {b : ByteArray} {n : Nat} {r : Option FieldType} (h1 : (Cond.instanceMethod x).before args s = true) (h2 : (Cond.code x b n r).before args s = true) : (Cond.declares x).before args s = true := by
  obtain ⟨m, meth, e1, e2, e3, -⟩ := Cond.instanceMethod_spec h1
  obtain ⟨meth', c, f1, -, -, -, -, -, -, f2⟩ := Cond.code_spec e1 h2
  cases e2.symm.trans f1
  show (Cond.declares x).holds args s none s [] = true
  simp [Cond.holds, Cond.value, e1, e2, e3, f2]
theorem cst9_ {args : Array Value} {s : State} {C : String} {n : Nat} (h : (Cond.instantiable C n).before args s = true) : (Cond.castable C C).before args s = true := by
  obtain ⟨cC, g⟩ := classAt_of h
  show (Cond.castable C C).holds args s none s [] = true
  simp [Cond.holds, Cond.value, g.1, va_assign g]
theorem cst9 {args : Array Value} {s : State} (h : ∀ w ∈ G9, w.before args s = true) : (Cond.castable nse9 nse9).before args s = true := cst9_ (n := 6) (h _ (at9_m _ (by decide +kernel)))
theorem at9_all {args : Array Value} {s : State} (h : ∀ w ∈ G9, w.before args s = true) : ∀ w ∈ vx_at0 "HiddenOrLost" 147 nse9 up9, w.before args s = true := by
  refine vx_hat (B := at9B) (fun w hw => h w (g9 (at9_ok w hw).1 (List.mem_filter.mp hw).2)) at9_b ?_
  exact vx_c (cst9 h) (vx_c (dcl9 (b := Bundle.five) (n := 1) (r := none) (h _ (at9_m _ (by decide +kernel))) (h _ (at9_m _ (by decide +kernel)))) (vx_c (dcl9 (b := Bundle.five) (n := 1) (r := none) (h _ (at9_m _ (by decide +kernel))) (h _ (at9_m _ (by decide +kernel)))) (vx_c (dcl9 (b := LibCode.Throwable.Init0.code) (n := 1) (r := none) (h _ (at9_m _ (by decide +kernel))) (h _ (at9_m _ (by decide +kernel)))) vx_n)))
theorem at9_g : ∀ w ∈ vx_at0 "HiddenOrLost" 147 nse9 up9, vx_ot w = true := fun w hw => List.all_eq_true.mp (show (vx_at0 "HiddenOrLost" 147 nse9 up9).all vx_ot = true by decide +kernel) w hw
theorem kl9 : Cond.classLink "HiddenOrLost" 145 nse9 ∈ G9 := g9p (i := 1345) (by decide +kernel) rfl
theorem ki9 : Cond.initialized nse9 ∈ G9 := g9p (i := 142) (by decide +kernel) rfl
theorem thr9_ok : ∀ t ∈ thr9, t.1 < 301 ∧ cn9 (mO9 t.1) = "HiddenOrLost" ∧ decode (mB9 t.1) t.2.1 = .ok (.new 145, 3) ∧ t.2.2 = 145 ∧ decode (mB9 t.1) (t.2.1 + 3) = .ok (.dup, 1) ∧ decode (mB9 t.1) (t.2.1 + 4) = .ok (.invokespecial 147, 3) ∧ decode (mB9 t.1) (t.2.1 + 7) = .ok (.athrow, 1) := by decide +kernel

section XMET
variable {l : Launch} {b0 : Nat} {cst : Nat → Nat} {D : va_G} {cA : Nat → ClassId} {n d M : Nat} {as : List Value} {μ μ1 : Mem}
/-- how a throw leaves the memory -/
def XC9 (b0 : Nat) (cst : Nat → Nat) (D : va_G) (cA : Nat → ClassId) (μ1 : Mem) : String → State → State → Prop := fun E st t => E = nse9 ∧ Wd9 b0 cst D cA μ1 t.heap ∧ sc9 b0 cst μ1 t ∧ va_F (fun q => b0 ≤ q) st t
theorem Wd9.thrown {H H1 : Heap} (h : Wd9 b0 cst D cA μ H) (hlt : mHp μ < oFF) (hz : H1.size = H.size + 1) (hq : ∀ q, q < H.size → H1[q]? = H[q]?) : Wd9 b0 cst D cA (mNew μ (9, 0) 6) H1 := by
  obtain ⟨g1, ⟨g2, g3, g4⟩, g5⟩ := h
  have hsh : ∀ b, mSh (mNew μ (9, 0) 6) b = if b = mHp μ then (9, 0) else mSh μ b := fun b => rfl
  refine ⟨by rw [hz, g1]; rfl, ⟨hlt, fun b hb => ?_, fun b hb => ?_⟩, fun b hb => ?_⟩
  · rw [hsh] at hb
    show b < mHp μ + 1
    by_cases e : b = mHp μ
    · omega
    · rw [if_neg e] at hb
      have := g3 b hb
      omega
  · rw [hsh] at hb
    by_cases e : b = mHp μ
    · rw [if_pos e] at hb; exact absurd hb (by decide)
    · rw [if_neg e] at hb
      exact g4 b hb
  · by_cases e : b = mHp μ
    · subst e
      unfold CR9
      rw [hsh, if_pos rfl]
      trivial
    · have hb2 : b < mHp μ := by
        have : b < mHp μ + 1 := hb
        omega
      have := (g5 b hb2).kept (H1 := H1) (hq _ (by omega))
      unfold CR9 at this ⊢
      rw [hsh, if_neg e]
      have eI : mI (mNew μ (9, 0) 6) b = mI μ b := by funext j; show z2 _ _ _ b j = _; simp only [z2]; rw [if_neg (show ¬ b = μ.1.1 from e)]; rfl
      have eJ : mJ (mNew μ (9, 0) 6) b = mJ μ b := by funext j; show z2 _ _ _ b j = _; simp only [z2]; rw [if_neg (show ¬ b = μ.1.1 from e)]; rfl
      have eP : mP (mNew μ (9, 0) 6) b = mP μ b := by funext j; show z2 _ _ _ b j = _; simp only [z2]; rw [if_neg (show ¬ b = μ.1.1 from e)]; rfl
      unfold fv9 at this ⊢
      rw [eI, eJ, eP]
      exact this
theorem sc9.thrown {s : State} (h : sc9 b0 cst μ s) (hlt : mHp μ < oFF) : sc9 b0 cst (mNew μ (9, 0) 6) s := by
  refine ⟨fun L hL => ?_, h.2⟩
  have e : ¬ oFF = mHp μ := by omega
  have hL2 : mSh μ oFF = (6, L) := by
    have : (if oFF = mHp μ then (9, 0) else mSh μ oFF) = (6, L) := hL
    rwa [if_neg e] at this
  have eI : mI (mNew μ (9, 0) 6) oFF = mI μ oFF := by funext j; show z2 _ _ _ oFF j = _; simp only [z2]; rw [if_neg (show ¬ oFF = μ.1.1 from e)]; rfl
  rw [eI]
  exact h.1 L hL2
set_option maxHeartbeats 1000000 in
theorem x_met (hl : l.stackTraces = false) (ih : Snd9 l b0 cst D cA n) (hM : M < 301) (h : run n d M 0 (arg9 (mL9 M) as) [] μ = some (none, true, μ1)) (hw : Nat.ble (cs9 as) (mL9 M) = true) (hokm : okM9 M = true) :
    vx_Met l (mY9 M) (Cond.code (mY9 M) (mB9 M) (mL9 M) (mR9 M) :: G9) { frames := d, cells := mHp μ1 - mHp μ, slots := mSl μ1 - mSl μ, locals := 60 * d } (va_Pc (as.map (tv9 b0 cst)) (fun U => Wd9 b0 cst D cA μ U.heap ∧ S9 D cA U ∧ sc9 b0 cst μ U ∧ b0 ≤ U.heap.size))
      (fun _ _ _ _ => False) (XC9 b0 cst D cA μ1) (mHp μ1 - mHp μ) (mSl μ1 - mSl μ) (fun q => b0 ≤ q) := by
  have hmo : mHp μ ≤ mHp μ1 ∧ mSl μ ≤ mSl μ1 := mo_run n _ _ _ _ _ _ _ h
  unfold okM9 at hokm
  rw [Bool.and_eq_true] at hokm
  obtain ⟨i1, i2, i3, i4, i5⟩ := of_decide_eq_true hokm.1
  refine vx_ofW (cc := mB9 M) (maxL := mL9 M) (ret := mR9 M) i3 rfl ?_
  intro p e s m args below meth c s₁ B hml hno hv
  obtain ⟨rfl, hW, hS, hX, hb0⟩ := hv
  have hts := atoms_spec (ws := Cond.code (mY9 M) (mB9 M) (mL9 M) (mR9 M) :: G9) B.pre
  have hts9 : ∀ w ∈ G9, w.before _ s = true := fun w hw => hts w (List.mem_cons_of_mem _ hw)
  have hown : s.vm.findClass (cn9 (mO9 M)) = some m.cls := by rw [← i2]; exact findClass_of_methodNamed B.named
  have hlocks := B.notSynchronized
  have hname : meth.name = (mY9 M).name := (name_of_methodNamed B.named B.method).1
  rw [lg_entry_eq]
  refine ih d M 0 (arg9 (mL9 M) as) [] μ none true μ1 h p e _ s m _ below meth c ⟨B.exec, B.bytes, hml, hown, hts9, hS, Nat.le_refl _, Nat.le_refl _, hname, hb0⟩ (Or.inl hM) s.heap [] 0 0 (mHp μ1 - mHp μ) (mSl μ1 - mSl μ) _ ⟨hW, va_S.rf, hX⟩ (lk9_entry hw) (by omega) (by omega) (Nat.le_refl _) (Nat.le_refl _) _ (fun q => by cases q) ?_
  intro _ pc' z lsA' rest' μ2 H' locs' cells' slots' hIn' hsz' ht9 hμ1 hlt h8 hc1 hs1 hr8
  obtain ⟨-, o1, d0, -, d3, d4, d7⟩ := thr9_ok _ ht9
  dsimp only at o1 d0 d3 d4 d7
  rw [o1] at hown
  refine x_throw0 (own := "HiddenOrLost") (cls := nse9) (names := up9) (ik := 145) (ic := 147) (A := fun q => b0 ≤ q) B.exec B.bytes hl hown (by decide) (by decide) (hts9 _ kl9) (hts9 _ ki9) (at9_all hts9) (fun w hw => ?_) hX.2.2.2.2.2.1 hX.2.2.2.2.2.2 hIn'.2.1 (hsz'.trans hml.symm) d0 d3 d4 d7 (fun x hx => (hno x hx).elim) ?_ ?_ ?_ ?_ hlocks (fun t hW' hz hq => ?_) hIn'.2.1.2.2 (Nat.le_of_eq hc1) (Nat.le_of_eq hs1)
  · rcases List.mem_cons.mp hw with rfl | hw
    · rfl
    · rcases List.mem_cons.mp hw with rfl | hw
      · rfl
      · exact at9_g w hw
  · show 2 + 3 < d
    omega
  · show (rest'.map fun v => v.category).sum + (13 * (2 + 1) + 42) ≤ 60 * d
    omega
  · show cells' + 1 ≤ mHp μ1 - mHp μ
    omega
  · show slots' + 6 ≤ mSl μ1 - mSl μ
    omega
  · subst hμ1
    have hq2 : ∀ q, q < b0 → t.heap[q]? = s.heap[q]? := fun q hqb => by
      rw [hq q (Nat.lt_of_lt_of_le (by omega) hIn'.2.1.1)]
      exact hIn'.2.1.2.1 q (by omega) (by omega)
    refine ⟨rfl, hIn'.1.thrown hlt hz hq, ((hIn'.2.2.thrown hlt).moved hW'.alike hq2 (hX.2.warm hW' hq2)), by rw [hz]; exact Nat.le_succ_of_le hIn'.2.1.1, fun q g1 g2 => hq2 q (by omega)⟩
end XMET

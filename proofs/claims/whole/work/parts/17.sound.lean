/-! THE SMALL MACHINE IS SOUND -/
theorem len_of {i : Instr} {L k : Nat} (h : (len9 i == 0 || L == len9 i) = true) (hk : len9 i = k) (h0 : k ≠ 0) : L = k := by
  subst hk
  rw [Bool.or_eq_true] at h
  rcases h with h | h
  · exact absurd (by simpa using h) h0
  · simpa using h
def S9 (D : va_G) (cA : Nat → ClassId) (U : State) : Prop := K9 D cA U ∧ NW9 U ∧ va_AO (cn9 9) U
/-- what is so of a frame of method M, with calls d deep before it -/
def SC9 (p : Program) (R : Room) (s : State) (m : MethodId) (args : Array Value) (meth : Method) (c : Code) (b0 : Nat) (D : va_G) (cA : Nat → ClassId) (M d : Nat) : Prop :=
  p.tables.exec = Jvm.exec ∧ c.code = mB9 M ∧ c.maxLocals = mL9 M ∧ s.vm.findClass (cn9 (mO9 M)) = some m.cls ∧ (∀ w ∈ G9, w.before args s = true) ∧ S9 D cA s ∧ d ≤ R.frames ∧ 60 * d ≤ R.locals ∧ meth.name = (mY9 M).name ∧ b0 ≤ s.heap.size
/-- where the method returns rv -/
def Ret9 (M pc : Nat) (rv : Option Value) : Prop := match rv with
  | none => decode (mB9 M) pc = .ok (.return_, 1) ∧ mR9 M = none
  | some (.int x) => decode (mB9 M) pc = .ok (.ireturn, 1) ∧ (mR9 M = some .int ∨ (mR9 M = some .boolean ∧ (x = 0 ∨ x = 1)))
  | some (.long _) => decode (mB9 M) pc = .ok (.lreturn, 1) ∧ mR9 M = some .long
  | _ => False
/-- the texts of the code: to be shown of the JDK's own String -/
def StrR9 (l : Launch) (b0 : Nat) (cst : Nat → Nat) (D : va_G) (cA : Nat → ClassId) : Prop := ∀ (p : Program) (e : Env) (R : Room) (s : State) (m : MethodId) (args : Array Value) (below : List Frame) (meth : Method) (c : Code) (M d : Nat), SC9 p R s m args meth c b0 D cA M d → ∀ (μ : Mem) (H : Heap) (locs : List Loc) (cells slots : Nat) (Q : State → Prop) (pc : Nat) (lsA : Array Slot) (rest : List Value), In9 b0 cst D cA s μ H locs → lsA.size = mL9 M → cells ≤ R.cells → slots ≤ R.slots →
  (∀ z a, decode (mB9 M) pc = .ok (.ldc z, 2) → (lkS.any fun t => t.1 == mO9 M && (t.2.1 == z && oFF + 1 + t.2.2.1 == a)) = true → W p l e R s m args below meth c H locs cells slots Q (F0 m (pc + 2) lsA (.ref (rho9 b0 cst a) :: rest)) → W p l e R s m args below meth c H locs cells slots Q (F0 m pc lsA rest)) ∧
  (∀ z a, decode (mB9 M) pc = .ok (.invokevirtual z, 3) → (lkL.any fun t => t.1 == mO9 M && t.2.1 == z) = true → oFF < a → a ≤ oFF + 5 → 2 ≤ d → (rest.map fun v => v.category).sum ≤ 8 → W p l e R s m args below meth c H locs cells slots Q (F0 m (pc + 3) lsA (.int (Int32.ofNat (sLen (a - oFF - 1))) :: rest)) → W p l e R s m args below meth c H locs cells slots Q (F0 m pc lsA (.ref (rho9 b0 cst a) :: rest))) ∧
  (∀ z a i, decode (mB9 M) pc = .ok (.invokevirtual z, 3) → (lkH.any fun t => t.1 == mO9 M && t.2.1 == z) = true → oFF < a → a ≤ oFF + 5 → 8 ≤ d → in9 i (sLen (a - oFF - 1)) → (rest.map fun v => v.category).sum ≤ 8 → W p l e R s m args below meth c H locs cells slots Q (F0 m (pc + 3) lsA (.int (sCh (a - oFF - 1) i.toNatClampNeg) :: rest)) → W p l e R s m args below meth c H locs cells slots Q (F0 m pc lsA (.int i :: .ref (rho9 b0 cst a) :: rest)))
/-- what a run gives, for every frame that it may be -/
def Snd9 (l : Launch) (b0 : Nat) (cst : Nat → Nat) (D : va_G) (cA : Nat → ClassId) (n : Nat) : Prop := ∀ (d M pc : Nat) (ls : Loc9) (st : List Value) (μ : Mem) (rv : Option Value) (ex : Bool) (μ' : Mem), run n d M pc ls st μ = some (rv, ex, μ') → ∀ (p : Program) (e : Env) (R : Room) (s : State) (m : MethodId) (args : Array Value) (below : List Frame) (meth : Method) (c : Code), SC9 p R s m args meth c b0 D cA M d → (M < 301 ∨ M = 305) → ∀ (H : Heap) (locs : List Loc) (cells slots cf sf : Nat) (lsA : Array Slot), In9 b0 cst D cA s μ H locs → lk9 b0 cst ls (mL9 M) lsA → cells + mHp μ' = cf + mHp μ → slots + mSl μ' = sf + mSl μ → cf ≤ R.cells → sf ≤ R.slots → ∀ (Q : State → Prop),
  (ex = false → ∀ (pc' : Nat) (lsA' : Array Slot) (H' : Heap) (locs' : List Loc), In9 b0 cst D cA s μ' H' locs' → Ret9 M pc' rv → W p l e R s m args below meth c H' locs' cf sf Q (F0 m pc' lsA' (rv.toList.map (tv9 b0 cst)))) →
  (ex = true → ∀ (pc' z : Nat) (lsA' : Array Slot) (rest' : List Value) (μ2 : Mem) (H' : Heap) (locs' : List Loc) (cells' slots' : Nat), In9 b0 cst D cA s μ2 H' locs' → lsA'.size = mL9 M → (M, pc', z) ∈ thr9 → μ' = mNew μ2 (9, 0) 6 → mHp μ2 < oFF → 8 ≤ d → cells' + 1 = cf → slots' + 6 = sf → (rest'.map fun v => v.category).sum ≤ 8 → W p l e R s m args below meth c H' locs' cells' slots' Q (F0 m pc' lsA' rest')) → W p l e R s m args below meth c H locs cells slots Q (F0 m pc lsA (st.map (tv9 b0 cst)))
/-- the law's own calls of methods that catch: to be shown by the kit's rows for exceptions -/
def HlpR9 (l : Launch) (b0 : Nat) (cst : Nat → Nat) (D : va_G) (cA : Nat → ClassId) : Prop := ∀ (p : Program) (e : Env) (R : Room) (s : State) (m : MethodId) (args : Array Value) (below : List Frame) (meth : Method) (c : Code) (d n M' z pc : Nat) (as r : List Value) (x : Int32) (μ μ1 : Mem) (H : Heap) (locs : List Loc) (cells slots : Nat) (Q : State → Prop) (lsA : Array Slot), SC9 p R s m args meth c b0 D cA 305 (d + 1) → Snd9 l b0 cst D cA n → 301 ≤ M' → M' < 305 → mOk9 305 z M' = true → run n d M' 0 (arg9 (mL9 M') as) [] μ = some (some (.int x), false, μ1) → as.length = np9 M' → Nat.ble (cs9 as) (mL9 M') = true → cat9 r = true → In9 b0 cst D cA s μ H locs → lsA.size = mL9 305 → cells + (mHp μ1 - mHp μ) ≤ R.cells → slots + (mSl μ1 - mSl μ) ≤ R.slots → decode (mB9 305) pc = .ok (.invokestatic z, 3) →
  (∀ (H1 : Heap) (locs1 : List Loc), In9 b0 cst D cA s μ1 H1 locs1 → W p l e R s m args below meth c H1 locs1 (cells + (mHp μ1 - mHp μ)) (slots + (mSl μ1 - mSl μ)) Q (F0 m (pc + 3) lsA (.int x :: r.map (tv9 b0 cst)))) → W p l e R s m args below meth c H locs cells slots Q (F0 m pc lsA ((as.map (tv9 b0 cst)).reverse ++ r.map (tv9 b0 cst)))
section SWL
variable {p : Program} {l : Launch} {e : Env} {R : Room} {s : State} {m : MethodId} {args : Array Value} {below : List Frame} {meth : Method} {c : Code} {H : Heap} {locs : List Loc} {cells slots : Nat} {Q : State → Prop}
variable {cc : ByteArray} {pc : Nat} {lsA : Array Slot} {rest : List Value}
theorem sw9_some {f : Nat → Option Res} {x : Int32} {tg : Nat} {r : Res} : ∀ {sw : List (Int32 × Nat)}, sw9 f x tg sw = some r → (∃ (j : Nat) (k : Int32) (t : Nat), sw[j]? = some (k, t) ∧ x = k ∧ f t = some r ∧ ∀ i q, i < j → sw[i]? = some q → x ≠ q.1) ∨ ((∀ q ∈ sw, x ≠ q.1) ∧ f tg = some r)
  | [], h => Or.inr ⟨fun _ q => absurd q List.not_mem_nil, h⟩
  | (k, t) :: sw, h => by
    change (if x = k then f t else sw9 f x tg sw) = some r at h
    split at h
    · rename_i e
      exact Or.inl ⟨0, k, t, rfl, e, h, fun i q hi => absurd hi (Nat.not_lt_zero _)⟩
    · rename_i e
      rcases sw9_some h with ⟨j, k2, t2, h1, h2, h3, h4⟩ | ⟨h1, h2⟩
      · refine Or.inl ⟨j + 1, k2, t2, h1, h2, h3, fun i q hi hq => ?_⟩
        cases i with
        | zero => cases hq; exact e
        | succ i => exact h4 i q (by omega) hq
      · refine Or.inr ⟨fun q hq => ?_, h2⟩
        rcases List.mem_cons.mp hq with rfl | hq
        · exact e
        · exact h1 q hq
theorem s_tsw {z lo hi : Int} {offs : Array Int} {len tg : Nat} {x : Int32} {f : Nat → Option Res} {r : Res} {sw : List (Int32 × Nat)} (hexec : p.tables.exec = Jvm.exec) (hb : c.code = cc) (hdg : decode cc pc = .ok (.tableswitch z lo hi offs, len))
    (hc : (pc : Int) + z = ((tg : Nat) : Int) ∧ hi = lo + sw.length - 1 ∧ sw.length = offs.size ∧ ∀ j, j < sw.length → (sw.map fun x => x.1.toInt)[j]? = some (lo + j) ∧ ∃ o ∈ offs[j]?, (sw.map fun x => ((x.2 : Nat) : Int))[j]? = some ((pc : Int) + o))
    (h : sw9 f x tg sw = some r) (K : ∀ t, f t = some r → W p l e R s m args below meth c H locs cells slots Q (F0 m t lsA rest)) : W p l e R s m args below meth c H locs cells slots Q (F0 m pc lsA (.int x :: rest)) := by
  obtain ⟨h1, h2, h3, h4⟩ := hc
  rcases sw9_some h with ⟨j, k, t, g1, g2, g3, -⟩ | ⟨g1, g2⟩
  · have hj : j < sw.length := (List.getElem?_eq_some_iff.mp g1).1
    obtain ⟨e1, o, ho, e2⟩ := h4 j hj
    rw [List.getElem?_map, g1] at e1 e2
    have e1 : k.toInt = lo + j := Option.some.inj e1
    have e2 : ((t : Nat) : Int) = (pc : Int) + o := Option.some.inj e2
    subst g2
    refine lv_tableIn hexec hb hdg (by omega) (by omega) (off := o) (tgt := t) ?_ (by omega) (K t g3)
    rw [e1, show (lo + (j : Int) - lo).toNat = j by omega]
    exact ho
  · refine lv_tableOut hexec hb hdg ?_ h1 (K tg g2)
    by_cases q1 : x.toInt < lo
    · exact Or.inl q1
    · by_cases q2 : hi < x.toInt
      · exact Or.inr q2
      · exfalso
        obtain ⟨j, hj⟩ : ∃ j : Nat, x.toInt = lo + j := ⟨(x.toInt - lo).toNat, by omega⟩
        have hjl : j < sw.length := by omega
        obtain ⟨e1, -⟩ := h4 j hjl
        rw [List.getElem?_map, Option.map_eq_some_iff] at e1
        obtain ⟨y, hy, hy2⟩ := e1
        exact g1 y (List.mem_of_getElem? hy) (Int32.toInt_inj.mp (by rw [hj, hy2]))
theorem lsw_off {x : Int} {z : Int} : ∀ {ps : List (Int × Int)}, (∀ q ∈ ps, x ≠ q.1) → Op.lookupswitch.offset ps z x = z
  | [], _ => rfl
  | (a, b) :: ps, h => by
    have h1 : ¬ a = x := fun q => h (a, b) List.mem_cons_self q.symm
    have := lsw_off (z := z) (ps := ps) fun q hq => h q (List.mem_cons_of_mem _ hq)
    simp [Op.lookupswitch.offset, h1] at this ⊢
    exact this
theorem lsw_on {x : Int} {z : Int} : ∀ {ps : List (Int × Int)} {j : Nat} {o : Int}, ps[j]? = some (x, o) → (∀ i q, i < j → ps[i]? = some q → x ≠ q.1) → Op.lookupswitch.offset ps z x = o
  | [], j, o, h, _ => by simp at h
  | (a, b) :: ps, 0, o, h, _ => by
    cases h
    simp [Op.lookupswitch.offset]
  | (a, b) :: ps, j + 1, o, h, hn => by
    have h1 : ¬ a = x := fun q => hn 0 (a, b) (by omega) rfl q.symm
    have := lsw_on (z := z) (ps := ps) (j := j) (o := o) h fun i q hi hq => hn (i + 1) q (by omega) hq
    simp [Op.lookupswitch.offset, h1] at this ⊢
    exact this
theorem s_lsw {z : Int} {ps : Array (Int × Int)} {len tg : Nat} {x : Int32} {f : Nat → Option Res} {r : Res} {sw : List (Int32 × Nat)} (hexec : p.tables.exec = Jvm.exec) (hb : c.code = cc) (hdg : decode cc pc = .ok (.lookupswitch z ps, len))
    (hc : (pc : Int) + z = ((tg : Nat) : Int) ∧ (ps.toList.zip (ps.toList.drop 1)).all (fun (a, next) => a.1 < next.1) = true ∧ sw.map (fun x => (x.1.toInt, ((x.2 : Nat) : Int))) = ps.toList.map (fun x => (x.1, (pc : Int) + x.2)))
    (h : sw9 f x tg sw = some r) (K : ∀ t, f t = some r → W p l e R s m args below meth c H locs cells slots Q (F0 m t lsA rest)) : W p l e R s m args below meth c H locs cells slots Q (F0 m pc lsA (.int x :: rest)) := by
  obtain ⟨h1, h2, h3⟩ := hc
  have key : ∀ (i : Nat) (q : Int32 × Nat), sw[i]? = some q → ∃ y : Int × Int, ps.toList[i]? = some y ∧ q.1.toInt = y.1 ∧ ((q.2 : Nat) : Int) = (pc : Int) + y.2 := by
    intro i q hq
    have e := congrArg (fun l => l[i]?) h3
    simp only [List.getElem?_map] at e
    rw [hq] at e
    cases hy : ps.toList[i]? with
    | none => rw [hy] at e; cases e
    | some y =>
      rw [hy] at e
      simp only [Option.map_some, Option.some.injEq, Prod.mk.injEq] at e
      exact ⟨y, rfl, e.1, e.2⟩
  have yek : ∀ (i : Nat) (y : Int × Int), ps.toList[i]? = some y → ∃ q : Int32 × Nat, sw[i]? = some q ∧ q.1.toInt = y.1 := by
    intro i y hy
    have e := congrArg (fun l => l[i]?) h3
    simp only [List.getElem?_map] at e
    rw [hy] at e
    cases hq : sw[i]? with
    | none => rw [hq] at e; cases e
    | some q =>
      rw [hq] at e
      simp only [Option.map_some, Option.some.injEq, Prod.mk.injEq] at e
      exact ⟨q, rfl, e.1⟩
  rcases sw9_some h with ⟨j, k, t, g1, g2, g3, g4⟩ | ⟨g1, g2⟩
  · obtain ⟨y, y1, y2, y3⟩ := key j _ g1
    subst g2
    refine lv_lookup hexec hb hdg h2 (off := y.2) (tgt := t) (lsw_on (j := j) (by rw [y1, y2]) ?_) y3.symm (K t g3)
    intro i w hi hw
    obtain ⟨q, q1, q2⟩ := yek i w hw
    exact fun e => g4 i q hi q1 (Int32.toInt_inj.mp (by rw [q2]; exact e))
  · refine lv_lookup hexec hb hdg h2 (off := z) (tgt := tg) (lsw_off ?_) h1 (K tg g2)
    intro w hw
    obtain ⟨i, hi⟩ := List.getElem?_of_mem hw
    obtain ⟨q, q1, q2⟩ := yek i w hi
    exact fun e => g1 q (List.mem_of_getElem? q1) (Int32.toInt_inj.mp (by rw [q2]; exact e))
end SWL
theorem CR9.arr {b0 : Nat} {cst : Nat → Nat} {D : va_G} {cA : Nat → ClassId} {μ : Mem} {a k : Nat} {H : Heap} (h : CR9 b0 cst D cA μ a H) (hk : (mSh μ a).1 = k) (h3 : k = 1 ∨ k = 2 ∨ k = 3) : H[b0 + a]? = some (arrV (cA k) (mSh μ a).2 (fun j => .int (mI μ a j))) := by
  unfold CR9 at h
  generalize mSh μ a = w at h hk
  obtain ⟨w1, w2⟩ := w
  dsimp only at hk
  subst hk
  rcases h3 with rfl | rfl | rfl <;> exact h
theorem CR9.arrL {b0 : Nat} {cst : Nat → Nat} {D : va_G} {cA : Nat → ClassId} {μ : Mem} {a : Nat} {H : Heap} (h : CR9 b0 cst D cA μ a H) (hk : (mSh μ a).1 = 4) : H[b0 + a]? = some (arrV (cA 4) (mSh μ a).2 (fun j => .long (mJ μ a j))) := by
  unfold CR9 at h
  generalize mSh μ a = w at h hk
  obtain ⟨w1, w2⟩ := w
  dsimp only at hk
  subst hk
  exact h
theorem CR9.arrR {b0 : Nat} {cst : Nat → Nat} {D : va_G} {cA : Nat → ClassId} {μ : Mem} {a : Nat} {H : Heap} (h : CR9 b0 cst D cA μ a H) (hk : (mSh μ a).1 = 5) : H[b0 + a]? = some (arrV (cA 5) (mSh μ a).2 (fun j => rf9 b0 cst (mP μ a j))) := by
  unfold CR9 at h
  generalize mSh μ a = w at h hk
  obtain ⟨w1, w2⟩ := w
  dsimp only at hk
  subst hk
  exact h
theorem pr_eta {w : Nat × Nat} {k : Nat} (h : w.1 = k) : w = (k, w.2) := by
  obtain ⟨a, b⟩ := w
  cases h
  rfl
theorem sc9.moved {b0 : Nat} {cst : Nat → Nat} {μ : Mem} {u U : State} (h : sc9 b0 cst μ u) (hvm : u.vm.Alike U.vm) (hq : ∀ q, q < b0 → U.heap[q]? = u.heap[q]?) (hT : Tx9 b0 cst U) : sc9 b0 cst μ U := by
  refine ⟨fun L hL => ?_, hT⟩
  obtain ⟨h1, h2⟩ := h.1 L hL
  exact ⟨(h1.moved hvm).kept (hq _ h2), h2⟩
/-- a call: from the callee's run -/
theorem s_met {l : Launch} {b0 : Nat} {cst : Nat → Nat} {D : va_G} {cA : Nat → ClassId} {n : Nat} (ih : Snd9 l b0 cst D cA n) {d M : Nat} (hM : M < 301) {as : List Value} {μ μ1 : Mem} {rv : Option Value} (h : run n d M 0 (arg9 (mL9 M) as) [] μ = some (rv, false, μ1)) (hw : Nat.ble (cs9 as) (mL9 M) = true) (hokm : okM9 M = true) :
    Met l (mY9 M) (Cond.code (mY9 M) (mB9 M) (mL9 M) (mR9 M) :: G9) { frames := d, cells := mHp μ1 - mHp μ, slots := mSl μ1 - mSl μ, locals := 60 * d } (va_Pc (as.map (tv9 b0 cst)) (fun U => Wd9 b0 cst D cA μ U.heap ∧ S9 D cA U ∧ sc9 b0 cst μ U ∧ b0 ≤ U.heap.size))
      (fun _ st o t => (o = .returned (rv.map (tv9 b0 cst)) ∧ Wd9 b0 cst D cA μ1 t.heap ∧ sc9 b0 cst μ1 t) ∧ va_F (fun q => b0 ≤ q) st t) (mHp μ1 - mHp μ) (mSl μ1 - mSl μ) (fun q => b0 ≤ q) := by
  have hmo : mHp μ ≤ mHp μ1 ∧ mSl μ ≤ mSl μ1 := mo_run n _ _ _ _ _ _ _ h
  unfold okM9 at hokm
  rw [Bool.and_eq_true] at hokm
  obtain ⟨i1, i2, i3, i4, i5⟩ := of_decide_eq_true hokm.1
  refine Met.ofW (cc := mB9 M) (maxL := mL9 M) (ret := mR9 M) i3 rfl ?_
  intro p e s m args below meth c s₁ B hml hv
  obtain ⟨rfl, hW, hS, hX, hb0⟩ := hv
  have hts := atoms_spec (ws := Cond.code (mY9 M) (mB9 M) (mL9 M) (mR9 M) :: G9) B.pre
  have hown : s.vm.findClass (cn9 (mO9 M)) = some m.cls := by rw [← i2]; exact findClass_of_methodNamed B.named
  have hlocks := B.notSynchronized
  have hname : meth.name = (mY9 M).name := (name_of_methodNamed B.named B.method).1
  rw [lg_entry_eq]
  refine ih d M 0 (arg9 (mL9 M) as) [] μ rv false μ1 h p e _ s m _ below meth c ⟨B.exec, B.bytes, hml, hown, fun w hw => hts w (List.mem_cons_of_mem _ hw), hS, Nat.le_refl _, Nat.le_refl _, hname, hb0⟩ (Or.inl hM) s.heap [] 0 0 (mHp μ1 - mHp μ) (mSl μ1 - mSl μ) _ ⟨hW, va_S.rf, hX⟩ (lk9_entry hw) (by omega) (by omega) (Nat.le_refl _) (Nat.le_refl _) _ ?_ (fun q => by cases q)
  intro _ pc' lsA' H' locs' hIn' hR
  have fin : ∀ t : State, t.heap = H' → s.WarmedH t.vm → (Wd9 b0 cst D cA μ1 t.heap ∧ sc9 b0 cst μ1 t) ∧ va_F (fun q => b0 ≤ q) s t := fun t ht hW => ⟨⟨by rw [ht]; exact hIn'.1, hIn'.2.2.moved hW.alike (fun q hq => by rw [ht]; exact hIn'.2.1.2.1 q (by omega) (by omega)) (hIn'.2.2.2.warm hW (fun q hq => by rw [ht]; exact hIn'.2.1.2.1 q (by omega) (by omega)))⟩, hIn'.2.1.F ht⟩
  cases rv with
  | none =>
    obtain ⟨hd, hr⟩ := hR
    exact W.vret B.exec B.bytes (B.returns.trans hr) (fun t ht hW => ⟨⟨rfl, (fin t ht hW).1⟩, (fin t ht hW).2⟩) hIn'.2.1.2.2 hd
  | some w =>
    cases w with
    | int x =>
      obtain ⟨hd, hr⟩ := hR
      rcases hr with hr | ⟨hr, hx⟩
      · exact W.iret B.exec B.bytes (B.returns.trans hr) (fun t ht hW => ⟨⟨rfl, (fin t ht hW).1⟩, (fin t ht hW).2⟩) hIn'.2.1.2.2 hd
      · exact W.zret B.exec B.bytes (B.returns.trans hr) (by rcases hx with rfl | rfl <;> rfl) (fun t ht hW => ⟨⟨rfl, (fin t ht hW).1⟩, (fin t ht hW).2⟩) hIn'.2.1.2.2 hd
    | long x =>
      obtain ⟨hd, hr⟩ := hR
      exact W.lret B.exec B.bytes (B.returns.trans hr) (fun t ht hW => ⟨⟨rfl, (fin t ht hW).1⟩, (fin t ht hW).2⟩) hIn'.2.1.2.2 hd
    | float x => cases hR
    | double x => cases hR
    | null => cases hR
    | ref x => cases hR
    | retAddr x => cases hR
/-- behind a call -/
theorem s_back {p : Program} {l : Launch} {e : Env} {R : Room} {s : State} {m : MethodId} {args : Array Value} {below : List Frame} {meth : Method} {c : Code} {H : Heap} {locs : List Loc} {cells slots : Nat} {Q : State → Prop} {pc : Nat} {lsA : Array Slot} {st0 rest : List Value} {b0 : Nat} {cst : Nat → Nat} {D : va_G} {cA : Nat → ClassId} {μ μ1 : Mem} {rv : Option Value} {mc ms : Nat}
    (hr : va_Run p l e R s m args below meth c H locs cells slots mc ms (F0 m pc lsA st0) rest (fun st o t => (o = .returned (rv.map (tv9 b0 cst)) ∧ Wd9 b0 cst D cA μ1 t.heap ∧ sc9 b0 cst μ1 t) ∧ va_F (fun q => b0 ≤ q) st t) (fun q => b0 ≤ q)) (hIn : In9 b0 cst D cA s μ H locs) (hb0 : b0 ≤ s.heap.size)
    (kk : ∀ (H1 : Heap) (locs1 : List Loc), In9 b0 cst D cA s μ1 H1 locs1 → W p l e R s m args below meth c H1 locs1 (cells + mc) (slots + ms) Q (F0 m (pc + 3) lsA ((rv.map (tv9 b0 cst)).toList ++ rest))) : W p l e R s m args below meth c H locs cells slots Q (F0 m pc lsA st0) := by
  intro T hT X
  obtain ⟨v, st₀, t, T', L, h0, X', hL, e1, e2, ⟨⟨hv, hW, hX⟩, hz, hk⟩, st⟩ := hr T hT X
  cases hv
  rw [h0] at hz hk
  have hkk : ∀ q, q < s.heap.size → ¬ b0 ≤ q → t.heap[q]? = s.heap[q]? := fun q h1 h2 => by
    rw [hk q (Nat.lt_of_lt_of_le h1 hIn.2.1.1) h2]
    exact hIn.2.1.2.1 q h1 h2
  have hal : s.vm.Alike t.vm := by rw [← e2]; exact X'.warmed.alike
  obtain ⟨t2, a1, b1⟩ := kk T'.heap (locs ++ L) ⟨by rw [e1]; exact hW, ⟨Nat.le_trans hIn.2.1.1 (by rw [e1]; exact hz), fun q h1 h2 => by
      rw [e1]; exact hkk q h1 h2, fun q hq => by
      rcases List.mem_append.mp hq with h | h
      · exact hIn.2.1.2.2 q h
      · exact hL q h⟩, hX.moved hal.symm (fun q hq => (hkk q (by omega) (by omega)).symm) hIn.2.2.2⟩ T' rfl X'
  exact ⟨t2, st t2 a1, b1⟩
/-- the run of a callee, out of its continuation's three shapes -/
theorem cV_some {c : Option Res} {k h : Mem → Option Res} {r : Res} (hh : ∀ ν, h ν = none) (e : cV c k h = some r) : ∃ μ1, c = some (none, false, μ1) ∧ k μ1 = some r := by
  unfold cV at e
  split at e
  · exact ⟨_, rfl, e⟩
  · rw [hh] at e; cases e
  · cases e
theorem cI_some {c : Option Res} {k : Int32 → Mem → Option Res} {h : Mem → Option Res} {r : Res} (hh : ∀ ν, h ν = none) (e : cI c k h = some r) : ∃ x μ1, c = some (some (.int x), false, μ1) ∧ k x μ1 = some r := by
  unfold cI at e
  split at e
  · exact ⟨_, _, rfl, e⟩
  · rw [hh] at e; cases e
  · cases e
theorem cJ_some {c : Option Res} {k : Int64 → Mem → Option Res} {h : Mem → Option Res} {r : Res} (hh : ∀ ν, h ν = none) (e : cJ c k h = some r) : ∃ x μ1, c = some (some (.long x), false, μ1) ∧ k x μ1 = some r := by
  unfold cJ at e
  split at e
  · exact ⟨_, _, rfl, e⟩
  · rw [hh] at e; cases e
  · cases e
/-- what a call without a handler is: the receiver, the callee's run, and what follows -/
theorem call9_some {rec : Rec9} {d M pc : Nat} {ls : Loc9} {st : List Value} {μ : Mem} {M' na kd rt nl ci : Nat} {r : Res} (h : call9 rec d M pc ls st μ M' na kd rt nl ci 0 = some r) : ∃ (d' : Nat) (as rs : List Value) (rv : Option Value) (μ1 : Mem), d = d' + 1 ∧ tk9 na [] st = some (as, rs) ∧ cat9 rs = true ∧ Nat.ble (cs9 as) nl = true ∧ (kd ≠ 0 → ∃ a as', as = .ref a :: as' ∧ mSh μ a = (0, ci)) ∧ rec d' M' 0 (arg9 nl as) [] μ = some (rv, false, μ1) ∧ rec d M (pc + 3) ls (rv.toList ++ rs) μ1 = some r ∧ (rt = 1 → ∃ x, rv = some (.int x)) := by
  unfold call9 at h
  split at h
  · cases h
  · rename_i d'
    split at h
    · cases h
    · rename_i as rs htk
      cases hcat : (cat9 rs && Nat.ble (cs9 as) nl) with
      | false => rw [hcat] at h; cases h
      | true =>
        rw [hcat] at h
        rw [Bool.and_eq_true] at hcat
        have key : ∀ (g : Option Res), g = (match (generalizing := false) rt with
            | 0 => cV (rec d' M' 0 (arg9 nl as) [] μ) (fun μ => rec (d' + 1) M (pc + 3) ls rs μ) (fun _ => none)
            | 2 => cJ (rec d' M' 0 (arg9 nl as) [] μ) (fun x μ => rec (d' + 1) M (pc + 3) ls (.long x :: rs) μ) (fun _ => none)
            | _ => cI (rec d' M' 0 (arg9 nl as) [] μ) (fun x μ => rec (d' + 1) M (pc + 3) ls (.int x :: rs) μ) (fun _ => none)) → g = some r → ∃ (rv : Option Value) (μ1 : Mem), rec d' M' 0 (arg9 nl as) [] μ = some (rv, false, μ1) ∧ rec (d' + 1) M (pc + 3) ls (rv.toList ++ rs) μ1 = some r ∧ (rt = 1 → ∃ x, rv = some (.int x)) := by
          intro g hg hr
          rw [hg] at hr
          split at hr
          · obtain ⟨μ1, e1, e2⟩ := cV_some (fun _ => rfl) hr
            exact ⟨none, μ1, e1, e2, fun q => by cases q⟩
          · obtain ⟨x, μ1, e1, e2⟩ := cJ_some (fun _ => rfl) hr
            exact ⟨some (.long x), μ1, e1, e2, fun q => by cases q⟩
          · obtain ⟨x, μ1, e1, e2⟩ := cI_some (fun _ => rfl) hr
            exact ⟨some (.int x), μ1, e1, e2, fun _ => ⟨x, rfl⟩⟩
        cases kd with
        | zero =>
          obtain ⟨rv, μ1, e1, e2, e3⟩ := key _ rfl h
          exact ⟨d', as, rs, rv, μ1, rfl, htk, hcat.1, hcat.2, fun q => absurd rfl q, e1, e2, e3⟩
        | succ kd =>
          cases as with
          | nil => cases h
          | cons w as' =>
            cases w with
            | ref a =>
              change (if mSh μ a = (0, ci) then _ else none) = some r at h
              by_cases hs : mSh μ a = (0, ci)
              · rw [if_pos hs] at h
                obtain ⟨rv, μ1, e1, e2, e3⟩ := key _ rfl h
                exact ⟨d', _, rs, rv, μ1, rfl, htk, hcat.1, hcat.2, fun _ => ⟨a, as', rfl, hs⟩, e1, e2, e3⟩
              · rw [if_neg hs] at h; cases h
            | int x => cases h
            | long x => cases h
            | float x => cases h
            | double x => cases h
            | null => cases h
            | retAddr x => cases h
theorem np9_ok {M n : Nat} (h : n = np9 M) (h9 : n < 900) : (parseMethodDescriptor (mY9 M).desc).map (fun d => d.parameters.length) = some n := by
  unfold np9 at h
  cases hp : parseMethodDescriptor (mY9 M).desc with
  | none => rw [hp] at h; change n = 999 at h; omega
  | some d => rw [hp] at h; change n = d.parameters.length at h; simp [h]
theorem okM9_spec {M : Nat} (h : okM9 M = true) : Cond.initialized (cn9 (mO9 M)) ∈ G9 ∧ (mY9 M).cls = cn9 (mO9 M) ∧ ((mY9 M).cls ≠ "java/lang/invoke/MethodHandle" ∧ (mY9 M).cls ≠ "java/lang/invoke/VarHandle") ∧ mL9 M ≤ 30 ∧ (mS9 M = true → Cond.static (mY9 M) ∈ G9) ∧ (mS9 M = false → Cond.instanceMethod (mY9 M) ∈ G9 ∧ ((mY9 M).name ≠ "<init>" → Cond.selects (cn9 (mO9 M)) (mY9 M) (mY9 M) ∈ G9)) := by
  unfold okM9 at h
  rw [Bool.and_eq_true] at h
  obtain ⟨i1, i2, -, i4, i5⟩ := of_decide_eq_true h.1
  refine ⟨g9p i1 rfl, i2, i4, i5, fun q => ?_, fun q => ?_⟩
  · have h2 := h.2
    rw [q] at h2
    exact g9p (of_decide_eq_true (show decide _ = true from h2)) rfl
  · have h2 := h.2
    rw [q] at h2
    change (decide _ && (decide _ || decide _)) = true at h2
    rw [Bool.and_eq_true, Bool.or_eq_true] at h2
    refine ⟨g9p (of_decide_eq_true h2.1) rfl, fun hn => ?_⟩
    rcases h2.2 with g | g
    · exact absurd (of_decide_eq_true g) hn
    · exact g9p (of_decide_eq_true g) rfl
theorem mLk9 {M z M' : Nat} (h : mOk9 M z M' = true) : Cond.methodLink (cn9 (mO9 M)) z (mY9 M') ∈ G9 := by
  obtain ⟨t, ht, hx⟩ := List.any_eq_true.mp h
  simp only [Bool.and_eq_true, beq_iff_eq] at hx
  obtain ⟨x1, x2, x3⟩ := hx
  have w := lkM_ok t ht
  rw [x1, x2, x3] at w
  exact g9p w rfl
theorem goodC {M : Nat} (h : Cond.code (mY9 M) (mB9 M) (mL9 M) (mR9 M) ∈ lw_tbl) : GoodIn G9 (Cond.code (mY9 M) (mB9 M) (mL9 M) (mR9 M) :: G9) := by
  intro w hw
  rcases List.mem_cons.mp hw with rfl | hw
  · exact ⟨g9 h rfl, Or.inl rfl⟩
  · exact ⟨hw, good_of_word (List.mem_filter.mp hw).2⟩
theorem getD_take {α : Type} {l : List α} {i k : Nat} {d : α} (hi : i < k) (hk : k ≤ l.length) : l.getD i d ∈ l.take k := by
  have h1 : l[i]? = some (l.getD i d) := by
    rw [List.getD_eq_getElem?_getD, List.getElem?_eq_getElem (by omega)]
    rfl
  refine List.mem_of_getElem? (i := i) ?_
  rw [List.getElem?_take, if_pos hi]
  exact h1
theorem cw9_all {M : Nat} (h : M < 301) : Cond.code (mY9 M) (mB9 M) (mL9 M) (mR9 M) ∈ lw_tbl := by
  by_cases h0 : M < 40
  · have e : mi9 M = mi9_0.getD (M - 0) (0, ⟨"", "", ""⟩, ⟨#[]⟩, 0, none, false) := by
      unfold mi9
      rw [show M / 40 = 0 by omega]
      rfl
    have := cw9_0 _ (getD_take (l := mi9_0) (i := M - 0) (k := 40) (d := (0, ⟨"", "", ""⟩, ⟨#[]⟩, 0, none, false)) (by omega) (by decide))
    rw [← e] at this
    exact this
  by_cases h1 : M < 80
  · have e : mi9 M = mi9_1.getD (M - 40) (0, ⟨"", "", ""⟩, ⟨#[]⟩, 0, none, false) := by
      unfold mi9
      rw [show M / 40 = 1 by omega]
      rfl
    have := cw9_1 _ (getD_take (l := mi9_1) (i := M - 40) (k := 40) (d := (0, ⟨"", "", ""⟩, ⟨#[]⟩, 0, none, false)) (by omega) (by decide))
    rw [← e] at this
    exact this
  by_cases h2 : M < 120
  · have e : mi9 M = mi9_2.getD (M - 80) (0, ⟨"", "", ""⟩, ⟨#[]⟩, 0, none, false) := by
      unfold mi9
      rw [show M / 40 = 2 by omega]
      rfl
    have := cw9_2 _ (getD_take (l := mi9_2) (i := M - 80) (k := 40) (d := (0, ⟨"", "", ""⟩, ⟨#[]⟩, 0, none, false)) (by omega) (by decide))
    rw [← e] at this
    exact this
  by_cases h3 : M < 160
  · have e : mi9 M = mi9_3.getD (M - 120) (0, ⟨"", "", ""⟩, ⟨#[]⟩, 0, none, false) := by
      unfold mi9
      rw [show M / 40 = 3 by omega]
      rfl
    have := cw9_3 _ (getD_take (l := mi9_3) (i := M - 120) (k := 40) (d := (0, ⟨"", "", ""⟩, ⟨#[]⟩, 0, none, false)) (by omega) (by decide))
    rw [← e] at this
    exact this
  by_cases h4 : M < 200
  · have e : mi9 M = mi9_4.getD (M - 160) (0, ⟨"", "", ""⟩, ⟨#[]⟩, 0, none, false) := by
      unfold mi9
      rw [show M / 40 = 4 by omega]
      rfl
    have := cw9_4 _ (getD_take (l := mi9_4) (i := M - 160) (k := 40) (d := (0, ⟨"", "", ""⟩, ⟨#[]⟩, 0, none, false)) (by omega) (by decide))
    rw [← e] at this
    exact this
  by_cases h5 : M < 240
  · have e : mi9 M = mi9_5.getD (M - 200) (0, ⟨"", "", ""⟩, ⟨#[]⟩, 0, none, false) := by
      unfold mi9
      rw [show M / 40 = 5 by omega]
      rfl
    have := cw9_5 _ (getD_take (l := mi9_5) (i := M - 200) (k := 40) (d := (0, ⟨"", "", ""⟩, ⟨#[]⟩, 0, none, false)) (by omega) (by decide))
    rw [← e] at this
    exact this
  by_cases h6 : M < 280
  · have e : mi9 M = mi9_6.getD (M - 240) (0, ⟨"", "", ""⟩, ⟨#[]⟩, 0, none, false) := by
      unfold mi9
      rw [show M / 40 = 6 by omega]
      rfl
    have := cw9_6 _ (getD_take (l := mi9_6) (i := M - 240) (k := 40) (d := (0, ⟨"", "", ""⟩, ⟨#[]⟩, 0, none, false)) (by omega) (by decide))
    rw [← e] at this
    exact this
  by_cases h7 : M < 301
  · have e : mi9 M = mi9_7.getD (M - 280) (0, ⟨"", "", ""⟩, ⟨#[]⟩, 0, none, false) := by
      unfold mi9
      rw [show M / 40 = 7 by omega]
      rfl
    have := cw9_7 _ (getD_take (l := mi9_7) (i := M - 280) (k := 21) (d := (0, ⟨"", "", ""⟩, ⟨#[]⟩, 0, none, false)) (by omega) (by decide))
    rw [← e] at this
    exact this
  omega
theorem CR9.cpyI {b0 : Nat} {cst : Nat → Nat} {D : va_G} {cA : Nat → ClassId} {μ : Mem} {H1 : Heap} {a b sp dp m n : Nat} (hs : mSh μ b = (1, n)) (hc : H1[b0 + b]? = some (arrV (cA 1) n (fun j => .int (va_cpy (mI μ a) (mI μ b) sp dp m j)))) : CR9 b0 cst D cA (cpI μ a sp b dp m) b H1 := by
  unfold CR9
  rw [show mSh (cpI μ a sp b dp m) b = (1, n) from hs]
  have e : (fun j => Value.int (mI (cpI μ a sp b dp m) b j)) = fun j => .int (va_cpy (mI μ a) (mI μ b) sp dp m j) := by
    funext j
    show Value.int (cp2 _ a sp b dp m b j) = _
    simp [cp2, va_cpy]; rfl
  show _ = some (arrV _ _ _); rw [e]; exact hc
theorem CR9.cpyJ {b0 : Nat} {cst : Nat → Nat} {D : va_G} {cA : Nat → ClassId} {μ : Mem} {H1 : Heap} {a b sp dp m n : Nat} (hs : mSh μ b = (4, n)) (hc : H1[b0 + b]? = some (arrV (cA 4) n (fun j => .long (va_cpy (mJ μ a) (mJ μ b) sp dp m j)))) : CR9 b0 cst D cA (cpJ μ a sp b dp m) b H1 := by
  unfold CR9
  rw [show mSh (cpJ μ a sp b dp m) b = (4, n) from hs]
  have e : (fun j => Value.long (mJ (cpJ μ a sp b dp m) b j)) = fun j => .long (va_cpy (mJ μ a) (mJ μ b) sp dp m j) := by
    funext j
    show Value.long (cp2 _ a sp b dp m b j) = _
    simp [cp2, va_cpy]; rfl
  show _ = some (arrV _ _ _); rw [e]; exact hc
theorem cp2_ne {α : Type} {f : Nat → Nat → α} {a b c sp dp n : Nat} (h : c ≠ b) : cp2 f a sp b dp n c = f c := by
  funext j
  simp [cp2, h]
set_option maxHeartbeats 40000000 in
set_option maxRecDepth 100000 in
theorem sound9 {l : Launch} {b0 : Nat} {cst : Nat → Nat} {D : va_G} {cA : Nat → ClassId} (hchk : ∀ M pc, chkE M pc = true) (hstr : StrR9 l b0 cst D cA) (hhlp : HlpR9 l b0 cst D cA) : ∀ n, Snd9 l b0 cst D cA n := by
  intro n
  induction n with
  | zero =>
    intro d M pc ls st μ rv ex μ' h
    cases h
  | succ n ih =>
    intro d M pc ls0 st μ rv ex μ' h p e R s m args below meth c hSC hM H locs cells slots cf sf lsA hIn hl0 hcf hsf hcR hsR Q hret hthr
    have K : ∀ {pc : Nat} {ls : Loc9} {st : List Value} {μ1 : Mem} {H : Heap} {locs : List Loc} {cells slots : Nat} {lsA : Array Slot}, run n d M pc ls st μ1 = some (rv, ex, μ') → In9 b0 cst D cA s μ1 H locs → lk9 b0 cst ls (mL9 M) lsA → cells + mHp μ' = cf + mHp μ1 → slots + mSl μ' = sf + mSl μ1 → W p l e R s m args below meth c H locs cells slots Q (F0 m pc lsA (st.map (tv9 b0 cst))) :=
      fun h h1 h2 h3 h4 => ih d M _ _ _ _ _ _ _ h p e R s m args below meth c hSC hM _ _ _ _ cf sf _ h1 h2 h3 h4 hcR hsR Q hret hthr
    have hck := hchk M pc
    unfold chkE at hck
    change (match code9 M pc with
      | some (c, i, q, v, sw) => step9 (run n) d M pc (cutA c ls0) st μ i q v sw
      | none => none) = _ at h
    cases hcode : code9 M pc with
    | none => rw [hcode] at h; cases h
    | some e0 =>
      obtain ⟨c0, i, q, v, sw⟩ := e0
      rw [hcode] at h hck
      change step9 (run n) d M pc (cutA c0 ls0) st μ i q v sw = _ at h
      change (decide (decode (mB9 M) pc = .ok (i, q.headD 0)) && ((len9 i == 0 || q.headD 0 == len9 i) && chkI M pc i q v sw)) = true at hck
      have hl := hl0.cutA (k := c0)
      generalize cutA c0 ls0 = ls at h hl
      rw [Bool.and_eq_true, Bool.and_eq_true] at hck
      obtain ⟨hd0, hlen, hci⟩ := hck
      replace hd0 := of_decide_eq_true hd0
      have hmo : mHp μ ≤ mHp μ' ∧ mSl μ ≤ mSl μ' := mo_step (fun d M pc ls st μ => mo_run n d M pc ls st μ) _ h
      obtain ⟨hx, hb, hml, hown, hts, ⟨hK, hN, hAO⟩, hfr, hlo, hname, hb0⟩ := id hSC
      cases i with
      | iload k =>
        have hL : q.headD 0 = 2 := len_of hlen rfl (by decide)
        rw [hL] at hd0
        change (match nth9 ls k with
          | some (.int x) => run n d M (pc + q.headD 0) ls (.int x :: st) μ
          | _ => none) = _ at h
        rw [hL] at h
        split at h
        · rename_i x hk
          exact lv_iload hx hb hd0 (hl.2.2 _ _ hk) (K h hIn hl hcf hsf)
        · cases h
      | aload k =>
        have hL : q.headD 0 = 2 := len_of hlen rfl (by decide)
        rw [hL] at hd0
        change (match nth9 ls k with
          | some (.ref x) => run n d M (pc + q.headD 0) ls (.ref x :: st) μ
          | _ => none) = _ at h
        rw [hL] at h
        split at h
        · rename_i x hk
          exact lv_aload hx hb hd0 (hl.2.2 _ _ hk) (K h hIn hl hcf hsf)
        · cases h
      | lload k =>
        have hL : q.headD 0 = 2 := len_of hlen rfl (by decide)
        rw [hL] at hd0
        change (match nth9 ls k with
          | some (.long x) => run n d M (pc + q.headD 0) ls (.long x :: st) μ
          | _ => none) = _ at h
        rw [hL] at h
        split at h
        · rename_i x hk
          exact lv_lload hx hb hd0 (hl.2.2 _ _ hk) (K h hIn hl hcf hsf)
        · cases h
      | iload_n k =>
        have hL : q.headD 0 = 1 := len_of hlen rfl (by decide)
        rw [hL] at hd0
        change (match nth9 ls k.val with
          | some (.int x) => run n d M (pc + q.headD 0) ls (.int x :: st) μ
          | _ => none) = _ at h
        rw [hL] at h
        split at h
        · rename_i x hk
          exact lv_iload_n hx hb hd0 rfl (hl.2.2 _ _ hk) (K h hIn hl hcf hsf)
        · cases h
      | aload_n k =>
        have hL : q.headD 0 = 1 := len_of hlen rfl (by decide)
        rw [hL] at hd0
        change (match nth9 ls k.val with
          | some (.ref x) => run n d M (pc + q.headD 0) ls (.ref x :: st) μ
          | _ => none) = _ at h
        rw [hL] at h
        split at h
        · rename_i x hk
          exact lv_aload_n hx hb hd0 rfl (hl.2.2 _ _ hk) (K h hIn hl hcf hsf)
        · cases h
      | lload_n k =>
        have hL : q.headD 0 = 1 := len_of hlen rfl (by decide)
        rw [hL] at hd0
        change (match nth9 ls k.val with
          | some (.long x) => run n d M (pc + q.headD 0) ls (.long x :: st) μ
          | _ => none) = _ at h
        rw [hL] at h
        split at h
        · rename_i x hk
          exact lv_lload_n hx hb hd0 rfl (hl.2.2 _ _ hk) (K h hIn hl hcf hsf)
        · cases h
      | istore k =>
        have hL : q.headD 0 = 2 := len_of hlen rfl (by decide)
        rw [hL] at hd0
        have hk := of_decide_eq_true (show decide (k < mL9 M) = true from hci)
        change kI st (fun x r => run n d M (pc + q.headD 0) (st1 ls k (.int x)) r μ) = _ at h
        rw [hL] at h
        unfold kI at h
        split at h
        · rename_i x r
          exact lv_istore hx hb hd0 hl.has hk rfl (fun ls' hl' => K h hIn (lk9.put1 (A := lsA) (v := .int x) hl') hcf hsf)
        · cases h
      | astore k =>
        have hL : q.headD 0 = 2 := len_of hlen rfl (by decide)
        rw [hL] at hd0
        have hk := of_decide_eq_true (show decide (k < mL9 M) = true from hci)
        change kR st (fun x r => run n d M (pc + q.headD 0) (st1 ls k (.ref x)) r μ) = _ at h
        rw [hL] at h
        unfold kR at h
        split at h
        · rename_i x r
          exact lv_astore hx hb hd0 hl.has hk rfl (fun ls' hl' => K h hIn (lk9.put1 (A := lsA) (v := .ref x) hl') hcf hsf)
        · cases h
      | lstore k =>
        have hL : q.headD 0 = 2 := len_of hlen rfl (by decide)
        rw [hL] at hd0
        have hk := of_decide_eq_true (show decide (k + 1 < mL9 M) = true from hci)
        change kJ st (fun x r => run n d M (pc + q.headD 0) (st2 ls k (.long x)) r μ) = _ at h
        rw [hL] at h
        unfold kJ at h
        split at h
        · rename_i x r
          exact lv_lstore hx hb hd0 hl.has hk rfl (fun ls' hl' => K h hIn (lk9.put2 (A := lsA) (v := .long x) hl') hcf hsf)
        · cases h
      | istore_n k =>
        have hL : q.headD 0 = 1 := len_of hlen rfl (by decide)
        rw [hL] at hd0
        have hk := of_decide_eq_true (show decide (k.val < mL9 M) = true from hci)
        change kI st (fun x r => run n d M (pc + q.headD 0) (st1 ls k.val (.int x)) r μ) = _ at h
        rw [hL] at h
        unfold kI at h
        split at h
        · rename_i x r
          exact lv_istore_n hx hb hd0 rfl hl.has hk rfl (fun ls' hl' => K h hIn (lk9.put1 (A := lsA) (v := .int x) hl') hcf hsf)
        · cases h
      | astore_n k =>
        have hL : q.headD 0 = 1 := len_of hlen rfl (by decide)
        rw [hL] at hd0
        have hk := of_decide_eq_true (show decide (k.val < mL9 M) = true from hci)
        change kR st (fun x r => run n d M (pc + q.headD 0) (st1 ls k.val (.ref x)) r μ) = _ at h
        rw [hL] at h
        unfold kR at h
        split at h
        · rename_i x r
          exact lv_astore_n hx hb hd0 rfl hl.has hk rfl (fun ls' hl' => K h hIn (lk9.put1 (A := lsA) (v := .ref x) hl') hcf hsf)
        · cases h
      | lstore_n k =>
        have hL : q.headD 0 = 1 := len_of hlen rfl (by decide)
        rw [hL] at hd0
        have hk := of_decide_eq_true (show decide (k.val + 1 < mL9 M) = true from hci)
        change kJ st (fun x r => run n d M (pc + q.headD 0) (st2 ls k.val (.long x)) r μ) = _ at h
        rw [hL] at h
        unfold kJ at h
        split at h
        · rename_i x r
          exact lv_lstore_n hx hb hd0 rfl hl.has hk rfl (fun ls' hl' => K h hIn (lk9.put2 (A := lsA) (v := .long x) hl') hcf hsf)
        · cases h
      | iconst z =>
        have hL : q.headD 0 = 1 := len_of hlen rfl (by decide)
        rw [hL] at hd0
        have hv := of_decide_eq_true (show decide (v = .int (Int32.ofInt z)) = true from hci)
        subst hv
        change run n d M (pc + q.headD 0) ls _ μ = _ at h
        rw [hL] at h
        exact lv_iconst hx hb hd0 rfl (K h hIn hl hcf hsf)
      | bipush z =>
        have hL : q.headD 0 = 2 := len_of hlen rfl (by decide)
        rw [hL] at hd0
        have hv := of_decide_eq_true (show decide (v = .int (Int8.ofInt z).toInt32) = true from hci)
        subst hv
        change run n d M (pc + q.headD 0) ls _ μ = _ at h
        rw [hL] at h
        exact lv_bipush hx hb hd0 rfl (K h hIn hl hcf hsf)
      | sipush z =>
        have hL : q.headD 0 = 3 := len_of hlen rfl (by decide)
        rw [hL] at hd0
        have hv := of_decide_eq_true (show decide (v = .int (Int16.ofInt z).toInt32) = true from hci)
        subst hv
        change run n d M (pc + q.headD 0) ls _ μ = _ at h
        rw [hL] at h
        exact lv_sipush hx hb hd0 rfl (K h hIn hl hcf hsf)
      | lconst z =>
        have hL : q.headD 0 = 1 := len_of hlen rfl (by decide)
        rw [hL] at hd0
        have hv := of_decide_eq_true (show decide (v = .long (Int64.ofNat z.val)) = true from hci)
        subst hv
        change run n d M (pc + q.headD 0) ls _ μ = _ at h
        rw [hL] at h
        exact lv_lconst hx hb hd0 rfl (K h hIn hl hcf hsf)
      | ldc z =>
        have hL : q.headD 0 = 2 := len_of hlen rfl (by decide)
        rw [hL] at hd0
        change run n d M (pc + q.headD 0) ls (v :: st) μ = _ at h
        rw [hL] at h
        cases v with
        | int x =>
          obtain ⟨t, ht, hz⟩ := List.any_eq_true.mp hci
          simp only [Bool.and_eq_true, beq_iff_eq] at hz
          obtain ⟨z1, z2, z3⟩ := hz
          have w1 := lkI_ok t ht
          rw [z1, z2, z3] at w1
          exact lv_ldc hx hb hown (hts _ (g9p w1 rfl)) hd0 (K h hIn hl hcf hsf)
        | ref a =>
          exact (hstr p e R s m args below meth c M d hSC μ H locs cells slots Q pc lsA _ hIn hl.1 (by omega) (by omega)).1 z a hd0 hci (K h hIn hl hcf hsf)
        | long x => cases hci
        | float x => cases hci
        | double x => cases hci
        | null => cases hci
        | retAddr x => cases hci
      | ldc_w z =>
        have hL : q.headD 0 = 3 := len_of hlen rfl (by decide)
        rw [hL] at hd0
        change run n d M (pc + q.headD 0) ls (v :: st) μ = _ at h
        rw [hL] at h
        cases v with
        | int x =>
          obtain ⟨t, ht, hz⟩ := List.any_eq_true.mp hci
          simp only [Bool.and_eq_true, beq_iff_eq] at hz
          obtain ⟨z1, z2, z3⟩ := hz
          have w1 := lkI_ok t ht
          rw [z1, z2, z3] at w1
          exact lv_ldcw hx hb hown (hts _ (g9p w1 rfl)) hd0 (K h hIn hl hcf hsf)
        | ref a => cases hci
        | long x => cases hci
        | float x => cases hci
        | double x => cases hci
        | null => cases hci
        | retAddr x => cases hci
      | ldc2_w z =>
        have hL : q.headD 0 = 3 := len_of hlen rfl (by decide)
        rw [hL] at hd0
        change run n d M (pc + q.headD 0) ls (v :: st) μ = _ at h
        rw [hL] at h
        cases v with
        | long x =>
          obtain ⟨t, ht, hz⟩ := List.any_eq_true.mp hci
          simp only [Bool.and_eq_true, beq_iff_eq] at hz
          obtain ⟨z1, z2, z3⟩ := hz
          have w1 := lkJ_ok t ht
          rw [z1, z2, z3] at w1
          exact lv_ldc2 hx hb hown (hts _ (g9p w1 rfl)) hd0 (K h hIn hl hcf hsf)
        | ref a => cases hci
        | int x => cases hci
        | float x => cases hci
        | double x => cases hci
        | null => cases hci
        | retAddr x => cases hci
      | iinc k z =>
        have hL : q.headD 0 = 3 := len_of hlen rfl (by decide)
        rw [hL] at hd0
        obtain ⟨hv, hk⟩ := of_decide_eq_true (show decide (v = .int (Int32.ofInt z) ∧ k < mL9 M) = true from hci)
        subst hv
        change (match nth9 ls k, Value.int (Int32.ofInt z) with
          | some (.int x), .int y => run n d M (pc + 3) (st1 ls k (.int (x + y))) st μ
          | _, _ => none) = _ at h
        cases hn : nth9 ls k with
        | none => rw [hn] at h; cases h
        | some w =>
          rw [hn] at h
          cases w with
          | int x =>
            have hmem : (k, Value.int x) ∈ lq9 b0 cst ls := lq9_mem.mpr ⟨.int x, hn, rfl⟩
            obtain ⟨j, hj⟩ := List.getElem?_of_mem hmem
            exact lv_iinc hx hb hd0 hl.has hj rfl hk rfl (fun ls' hl' => K h hIn (lk9.put1 (A := lsA) (v := .int (x + Int32.ofInt z)) hl') hcf hsf)
          | ref a => cases h
          | long x => cases h
          | float x => cases h
          | double x => cases h
          | null => cases h
          | retAddr x => cases h
      | iadd =>
        have hL : q.headD 0 = 1 := len_of hlen rfl (by decide)
        rw [hL] at hd0
        change kII st (fun x y r => run n d M (pc + q.headD 0) ls (.int (x + y) :: r) μ) = _ at h
        rw [hL] at h
        unfold kII at h
        split at h
        · exact lv_iadd hx hb hd0 (K h hIn hl hcf hsf)
        · cases h
      | isub =>
        have hL : q.headD 0 = 1 := len_of hlen rfl (by decide)
        rw [hL] at hd0
        change kII st (fun x y r => run n d M (pc + q.headD 0) ls (.int (x - y) :: r) μ) = _ at h
        rw [hL] at h
        unfold kII at h
        split at h
        · exact lv_isub hx hb hd0 (K h hIn hl hcf hsf)
        · cases h
      | imul =>
        have hL : q.headD 0 = 1 := len_of hlen rfl (by decide)
        rw [hL] at hd0
        change kII st (fun x y r => run n d M (pc + q.headD 0) ls (.int (x * y) :: r) μ) = _ at h
        rw [hL] at h
        unfold kII at h
        split at h
        · exact lv_imul hx hb hd0 (K h hIn hl hcf hsf)
        · cases h
      | iand =>
        have hL : q.headD 0 = 1 := len_of hlen rfl (by decide)
        rw [hL] at hd0
        change kII st (fun x y r => run n d M (pc + q.headD 0) ls (.int (x &&& y) :: r) μ) = _ at h
        rw [hL] at h
        unfold kII at h
        split at h
        · exact lv_iand hx hb hd0 (K h hIn hl hcf hsf)
        · cases h
      | ior =>
        have hL : q.headD 0 = 1 := len_of hlen rfl (by decide)
        rw [hL] at hd0
        change kII st (fun x y r => run n d M (pc + q.headD 0) ls (.int (x ||| y) :: r) μ) = _ at h
        rw [hL] at h
        unfold kII at h
        split at h
        · exact lv_ior hx hb hd0 (K h hIn hl hcf hsf)
        · cases h
      | ixor =>
        have hL : q.headD 0 = 1 := len_of hlen rfl (by decide)
        rw [hL] at hd0
        change kII st (fun x y r => run n d M (pc + q.headD 0) ls (.int (x ^^^ y) :: r) μ) = _ at h
        rw [hL] at h
        unfold kII at h
        split at h
        · exact lv_ixor hx hb hd0 (K h hIn hl hcf hsf)
        · cases h
      | ishl =>
        have hL : q.headD 0 = 1 := len_of hlen rfl (by decide)
        rw [hL] at hd0
        change kII st (fun x y r => run n d M (pc + q.headD 0) ls (.int (x <<< (y &&& 31)) :: r) μ) = _ at h
        rw [hL] at h
        unfold kII at h
        split at h
        · exact lv_ishl hx hb hd0 (K h hIn hl hcf hsf)
        · cases h
      | ishr =>
        have hL : q.headD 0 = 1 := len_of hlen rfl (by decide)
        rw [hL] at hd0
        change kII st (fun x y r => run n d M (pc + q.headD 0) ls (.int (x >>> (y &&& 31)) :: r) μ) = _ at h
        rw [hL] at h
        unfold kII at h
        split at h
        · exact lv_ishr hx hb hd0 (K h hIn hl hcf hsf)
        · cases h
      | iushr =>
        have hL : q.headD 0 = 1 := len_of hlen rfl (by decide)
        rw [hL] at hd0
        change kII st (fun x y r => run n d M (pc + q.headD 0) ls (.int ((x.toUInt32 >>> (y.toUInt32 &&& Int32.toUInt32 31)).toInt32) :: r) μ) = _ at h
        rw [hL] at h
        unfold kII at h
        split at h
        · exact lv_iushr hx hb hd0 rfl (K h hIn hl hcf hsf)
        · cases h
      | idiv =>
        have hL : q.headD 0 = 1 := len_of hlen rfl (by decide)
        rw [hL] at hd0
        change kII st (fun x y r => if y = 0 then none else run n d M (pc + q.headD 0) ls (.int (x / y) :: r) μ) = _ at h
        rw [hL] at h
        unfold kII at h
        split at h
        · dsimp only at h
          split at h
          · cases h
          · rename_i hy
            exact lv_idiv hx hb hd0 hy (K h hIn hl hcf hsf)
        · cases h
      | irem =>
        have hL : q.headD 0 = 1 := len_of hlen rfl (by decide)
        rw [hL] at hd0
        change kII st (fun x y r => if y = 0 then none else run n d M (pc + q.headD 0) ls (.int (x - x / y * y) :: r) μ) = _ at h
        rw [hL] at h
        unfold kII at h
        split at h
        · dsimp only at h
          split at h
          · cases h
          · rename_i hy
            exact lv_irem hx hb hd0 hy (K h hIn hl hcf hsf)
        · cases h
      | ldiv =>
        have hL : q.headD 0 = 1 := len_of hlen rfl (by decide)
        rw [hL] at hd0
        change kJJ st (fun x y r => if y = 0 then none else run n d M (pc + q.headD 0) ls (.long (x / y) :: r) μ) = _ at h
        rw [hL] at h
        unfold kJJ at h
        split at h
        · dsimp only at h
          split at h
          · cases h
          · rename_i hy
            exact lv_ldiv hx hb hd0 hy (K h hIn hl hcf hsf)
        · cases h
      | lrem =>
        have hL : q.headD 0 = 1 := len_of hlen rfl (by decide)
        rw [hL] at hd0
        change kJJ st (fun x y r => if y = 0 then none else run n d M (pc + q.headD 0) ls (.long (x - x / y * y) :: r) μ) = _ at h
        rw [hL] at h
        unfold kJJ at h
        split at h
        · dsimp only at h
          split at h
          · cases h
          · rename_i hy
            exact lv_lrem hx hb hd0 hy (K h hIn hl hcf hsf)
        · cases h
      | ladd =>
        have hL : q.headD 0 = 1 := len_of hlen rfl (by decide)
        rw [hL] at hd0
        change kJJ st (fun x y r => run n d M (pc + q.headD 0) ls (.long (x + y) :: r) μ) = _ at h
        rw [hL] at h
        unfold kJJ at h
        split at h
        · exact lv_ladd hx hb hd0 (K h hIn hl hcf hsf)
        · cases h
      | lsub =>
        have hL : q.headD 0 = 1 := len_of hlen rfl (by decide)
        rw [hL] at hd0
        change kJJ st (fun x y r => run n d M (pc + q.headD 0) ls (.long (x - y) :: r) μ) = _ at h
        rw [hL] at h
        unfold kJJ at h
        split at h
        · exact lv_lsub hx hb hd0 (K h hIn hl hcf hsf)
        · cases h
      | lmul =>
        have hL : q.headD 0 = 1 := len_of hlen rfl (by decide)
        rw [hL] at hd0
        change kJJ st (fun x y r => run n d M (pc + q.headD 0) ls (.long (x * y) :: r) μ) = _ at h
        rw [hL] at h
        unfold kJJ at h
        split at h
        · exact lv_lmul hx hb hd0 (K h hIn hl hcf hsf)
        · cases h
      | land =>
        have hL : q.headD 0 = 1 := len_of hlen rfl (by decide)
        rw [hL] at hd0
        change kJJ st (fun x y r => run n d M (pc + q.headD 0) ls (.long (x &&& y) :: r) μ) = _ at h
        rw [hL] at h
        unfold kJJ at h
        split at h
        · exact lv_land hx hb hd0 (K h hIn hl hcf hsf)
        · cases h
      | lshr =>
        have hL : q.headD 0 = 1 := len_of hlen rfl (by decide)
        rw [hL] at hd0
        change kJI st (fun x y r => run n d M (pc + q.headD 0) ls (.long (x >>> (y.toInt64 &&& 63)) :: r) μ) = _ at h
        rw [hL] at h
        unfold kJI at h
        split at h
        · exact lv_lshr hx hb hd0 rfl (K h hIn hl hcf hsf)
        · cases h
      | lcmp =>
        have hL : q.headD 0 = 1 := len_of hlen rfl (by decide)
        rw [hL] at hd0
        change kJJ st (fun x y r => run n d M (pc + q.headD 0) ls (.int (lg_cmp x y) :: r) μ) = _ at h
        rw [hL] at h
        unfold kJJ at h
        split at h
        · exact W.lcmp hx hb hd0 (K h hIn hl hcf hsf)
        · cases h
      | i2l =>
        have hL : q.headD 0 = 1 := len_of hlen rfl (by decide)
        rw [hL] at hd0
        change kI st (fun x r => run n d M (pc + q.headD 0) ls (.long x.toInt64 :: r) μ) = _ at h
        rw [hL] at h
        unfold kI at h
        split at h
        · exact lv_i2l hx hb hd0 rfl (K h hIn hl hcf hsf)
        · cases h
      | l2i =>
        have hL : q.headD 0 = 1 := len_of hlen rfl (by decide)
        rw [hL] at hd0
        change kJ st (fun x r => run n d M (pc + q.headD 0) ls (.int x.toInt32 :: r) μ) = _ at h
        rw [hL] at h
        unfold kJ at h
        split at h
        · exact lv_l2i hx hb hd0 rfl (K h hIn hl hcf hsf)
        · cases h
      | i2b =>
        have hL : q.headD 0 = 1 := len_of hlen rfl (by decide)
        rw [hL] at hd0
        change kI st (fun x r => run n d M (pc + q.headD 0) ls (.int x.toInt8.toInt32 :: r) μ) = _ at h
        rw [hL] at h
        unfold kI at h
        split at h
        · exact lv_i2b hx hb hd0 rfl (K h hIn hl hcf hsf)
        · cases h
      | ineg =>
        have hL : q.headD 0 = 1 := len_of hlen rfl (by decide)
        rw [hL] at hd0
        change kI st (fun x r => run n d M (pc + q.headD 0) ls (.int (0 - x) :: r) μ) = _ at h
        rw [hL] at h
        unfold kI at h
        split at h
        · rename_i x r
          dsimp only at h
          rw [show (0 : Int32) - x = -x from Int32.zero_sub x] at h
          exact lv_ineg hx hb hd0 (K h hIn hl hcf hsf)
        · cases h
      | dup =>
        have hL : q.headD 0 = 1 := len_of hlen rfl (by decide)
        rw [hL] at hd0
        change (match st with
          | x :: r => match x with
            | .long _ => none
            | .double _ => none
            | x => run n d M (pc + q.headD 0) ls (x :: x :: r) μ
          | [] => none) = _ at h
        rw [hL] at h
        cases st with
        | nil => cases h
        | cons x r =>
          cases x with
          | long y => cases h
          | double y => cases h
          | int y => exact lv_dup hx hb hd0 rfl (K h hIn hl hcf hsf)
          | float y => exact lv_dup hx hb hd0 rfl (K h hIn hl hcf hsf)
          | null => exact lv_dup hx hb hd0 rfl (K h hIn hl hcf hsf)
          | ref y => exact lv_dup hx hb hd0 rfl (K h hIn hl hcf hsf)
          | retAddr y => exact lv_dup hx hb hd0 rfl (K h hIn hl hcf hsf)
      | pop =>
        have hL : q.headD 0 = 1 := len_of hlen rfl (by decide)
        rw [hL] at hd0
        change (match st with
          | x :: r => match x with
            | .long _ => none
            | .double _ => none
            | x => run n d M (pc + q.headD 0) ls r μ
          | [] => none) = _ at h
        rw [hL] at h
        cases st with
        | nil => cases h
        | cons x r =>
          cases x with
          | long y => cases h
          | double y => cases h
          | int y => exact lv_pop hx hb hd0 rfl (K h hIn hl hcf hsf)
          | float y => exact lv_pop hx hb hd0 rfl (K h hIn hl hcf hsf)
          | null => exact lv_pop hx hb hd0 rfl (K h hIn hl hcf hsf)
          | ref y => exact lv_pop hx hb hd0 rfl (K h hIn hl hcf hsf)
          | retAddr y => exact lv_pop hx hb hd0 rfl (K h hIn hl hcf hsf)
      | dup2 =>
        have hL : q.headD 0 = 1 := len_of hlen rfl (by decide)
        rw [hL] at hd0
        change (match st with
          | .int y :: .int x :: r => run n d M (pc + q.headD 0) ls (.int y :: .int x :: .int y :: .int x :: r) μ
          | .int y :: .ref x :: r => run n d M (pc + q.headD 0) ls (.int y :: .ref x :: .int y :: .ref x :: r) μ
          | _ => none) = _ at h
        rw [hL] at h
        split at h
        · exact lv_dup2_11 hx hb hd0 rfl rfl (K h hIn hl hcf hsf)
        · exact lv_dup2_11 hx hb hd0 rfl rfl (K h hIn hl hcf hsf)
        · cases h
      | ifCond cd z =>
        have hL : q.headD 0 = 3 := len_of hlen rfl (by decide)
        rw [hL] at hd0
        have ht := of_decide_eq_true (show decide ((pc : Int) + z = (((q.drop 1).headD 0 : Nat) : Int)) = true from hci)
        change kI st _ = _ at h
        unfold kI at h
        split at h
        · dsimp only at h
          cases cd with
          | eq => exact lv_if_eq hx hb hd0 ht (fun hc => K (by dsimp only at h; rw [if_pos hc] at h; exact h) hIn hl hcf hsf) (fun hc => K (by dsimp only at h; rw [if_neg hc] at h; exact h) hIn hl hcf hsf)
          | ne => exact lv_if_ne hx hb hd0 ht (fun hc => K (by dsimp only at h; rw [if_neg hc] at h; exact h) hIn hl hcf hsf) (fun hc => K (by dsimp only at h; rw [if_pos hc] at h; exact h) hIn hl hcf hsf)
          | lt => exact lv_if_lt hx hb hd0 ht (fun hc => K (by dsimp only at h; rw [if_pos hc] at h; exact h) hIn hl hcf hsf) (fun hc => K (by dsimp only at h; rw [if_neg hc] at h; exact h) hIn hl hcf hsf)
          | ge => exact lv_if_ge hx hb hd0 ht (fun hc => K (by dsimp only at h; rw [if_pos hc] at h; exact h) hIn hl hcf hsf) (fun hc => K (by dsimp only at h; rw [if_neg hc] at h; exact h) hIn hl hcf hsf)
          | gt => exact lv_if_gt hx hb hd0 ht (fun hc => K (by dsimp only at h; rw [if_pos hc] at h; exact h) hIn hl hcf hsf) (fun hc => K (by dsimp only at h; rw [if_neg hc] at h; exact h) hIn hl hcf hsf)
          | le => exact lv_if_le hx hb hd0 ht (fun hc => K (by dsimp only at h; rw [if_pos hc] at h; exact h) hIn hl hcf hsf) (fun hc => K (by dsimp only at h; rw [if_neg hc] at h; exact h) hIn hl hcf hsf)
        · cases h
      | if_icmp cd z =>
        have hL : q.headD 0 = 3 := len_of hlen rfl (by decide)
        rw [hL] at hd0
        have ht := of_decide_eq_true (show decide ((pc : Int) + z = (((q.drop 1).headD 0 : Nat) : Int)) = true from hci)
        change kII st _ = _ at h
        unfold kII at h
        split at h
        · dsimp only at h
          cases cd with
          | eq => exact lv_icmp_eq hx hb hd0 ht (fun hc => K (by dsimp only at h; rw [if_pos hc] at h; exact h) hIn hl hcf hsf) (fun hc => K (by dsimp only at h; rw [if_neg hc] at h; exact h) hIn hl hcf hsf)
          | ne => exact lv_icmp_ne hx hb hd0 ht (fun hc => K (by dsimp only at h; rw [if_neg hc] at h; exact h) hIn hl hcf hsf) (fun hc => K (by dsimp only at h; rw [if_pos hc] at h; exact h) hIn hl hcf hsf)
          | lt => exact lv_icmp_lt hx hb hd0 ht (fun hc => K (by dsimp only at h; rw [if_pos hc] at h; exact h) hIn hl hcf hsf) (fun hc => K (by dsimp only at h; rw [if_neg hc] at h; exact h) hIn hl hcf hsf)
          | ge => exact lv_icmp_ge hx hb hd0 ht (fun hc => K (by dsimp only at h; rw [if_pos hc] at h; exact h) hIn hl hcf hsf) (fun hc => K (by dsimp only at h; rw [if_neg hc] at h; exact h) hIn hl hcf hsf)
          | gt => exact lv_icmp_gt hx hb hd0 ht (fun hc => K (by dsimp only at h; rw [if_pos hc] at h; exact h) hIn hl hcf hsf) (fun hc => K (by dsimp only at h; rw [if_neg hc] at h; exact h) hIn hl hcf hsf)
          | le => exact lv_icmp_le hx hb hd0 ht (fun hc => K (by dsimp only at h; rw [if_pos hc] at h; exact h) hIn hl hcf hsf) (fun hc => K (by dsimp only at h; rw [if_neg hc] at h; exact h) hIn hl hcf hsf)
        · cases h
      | ifnull z =>
        have hL : q.headD 0 = 3 := len_of hlen rfl (by decide)
        rw [hL] at hd0
        change kR st (fun _ r => run n d M (pc + 3) ls r μ) = _ at h
        unfold kR at h
        split at h
        · exact lv_ifnull hx hb hd0 (K h hIn hl hcf hsf)
        · cases h
      | goto z =>
        have hL : q.headD 0 = 3 := len_of hlen rfl (by decide)
        rw [hL] at hd0
        have ht := of_decide_eq_true (show decide ((pc : Int) + z = (((q.drop 1).headD 0 : Nat) : Int)) = true from hci)
        change run n d M ((q.drop 1).headD 0) (cut9 ((q.drop 2).headD 0) ls) st μ = _ at h
        exact lv_goto hx hb hd0 ht (K h hIn hl.cut hcf hsf)
      | tableswitch z lo hi offs =>
        change kI st (fun x r => sw9 (fun t => run n d M t ls r μ) x ((q.drop 1).headD 0) sw) = _ at h
        unfold kI at h
        split at h
        · exact s_tsw hx hb hd0 (of_decide_eq_true (show decide _ = true from hci)) h (fun t h => K h hIn hl hcf hsf)
        · cases h
      | lookupswitch z ps =>
        change kI st (fun x r => sw9 (fun t => run n d M t ls r μ) x ((q.drop 1).headD 0) sw) = _ at h
        unfold kI at h
        split at h
        · exact s_lsw hx hb hd0 (of_decide_eq_true (show decide _ = true from hci)) h (fun t h => K h hIn hl hcf hsf)
        · cases h
      | getfield z =>
        have hL : q.headD 0 = 3 := len_of hlen rfl (by decide)
        rw [hL] at hd0
        change (match q with
          | [_, ci, k, tc] => kR st fun a r => if mSh μ a = (0, ci) then (match tc with
              | 1 => run n d M (pc + q.headD 0) ls (.long (mJ μ a k) :: r) μ
              | 2 => match mP μ a k with
                | some b => run n d M (pc + q.headD 0) ls (.ref b :: r) μ
                | none => none
              | _ => run n d M (pc + q.headD 0) ls (.int (mI μ a k) :: r) μ) else none
          | _ => none) = _ at h
        rw [hL] at h
        split at h
        · rename_i q0 ci k tc
          change (fOk9 M z ci k && (decide (ci < 13 ∧ k < N9 ci) && (decide (tc9 ci k ≠ 9) && tc == (bif tc9 ci k == 3 then 0 else tc9 ci k)))) = true at hci
          simp only [Bool.and_eq_true, decide_eq_true_eq, beq_iff_eq] at hci
          obtain ⟨hf, ⟨hc13, hkN⟩, h9, htc⟩ := hci
          unfold kR at h
          split at h
          · rename_i a r
            dsimp only at h
            split at h
            · rename_i hs
              have ha := hIn.1.2.1.2.1 a (by rw [hs]; exact Nat.zero_le _)
              have haF : a < oFF := Nat.lt_of_lt_of_le ha hIn.1.2.1.1
              have hO := ((hIn.1.2.2 a ha).obj hs).2
              show W p l e R s m args below meth c H locs cells slots Q (F0 m pc lsA (.ref (rho9 b0 cst a) :: r.map (tv9 b0 cst)))
              rw [rho9_lt haF]
              refine s_get hx hb hts hown hK hN hc13 hkN hf hO hd0 ?_
              unfold fv9
              generalize tc9 ci k = T at htc h9 ⊢
              by_cases e1 : T = 1
              · subst e1
                subst htc
                exact K h hIn hl hcf hsf
              · by_cases e2 : T = 2
                · subst e2
                  subst htc
                  cases hp : mP μ a k with
                  | none => simp only [show (bif (2 : Nat) == 3 then 0 else 2) = 2 from rfl] at h; rw [hp] at h; cases h
                  | some b =>
                    simp only [show (bif (2 : Nat) == 3 then 0 else 2) = 2 from rfl] at h
                    rw [hp] at h
                    exact K h hIn hl hcf hsf
                · have e3 : tc ≠ 1 ∧ tc ≠ 2 := by
                    rw [htc]
                    by_cases e : T = 3
                    · subst e; decide
                    · rw [show (T == 3) = false from by simpa using e]
                      exact ⟨e1, e2⟩
                  have h' : run n d M (pc + 3) ls (.int (mI μ a k) :: r) μ = some (rv, ex, μ') := by
                    split at h
                    · exact absurd rfl e3.1
                    · exact absurd rfl e3.2
                    · exact h
                  split
                  · exact absurd rfl e1
                  · exact absurd rfl e2
                  · exact K h' hIn hl hcf hsf
            · cases h
          · cases h
        · cases h
      | putfield z =>
        have hL : q.headD 0 = 3 := len_of hlen rfl (by decide)
        rw [hL] at hd0
        change (match q with
          | [_, ci, k, tc] => match tc, st with
            | 0, .int x :: .ref a :: r => if mSh μ a = (0, ci) then run n d M (pc + 3) ls r (wI μ a k x) else none
            | 1, .long x :: .ref a :: r => if mSh μ a = (0, ci) then run n d M (pc + 3) ls r (wJ μ a k x) else none
            | 2, .ref x :: .ref a :: r => if mSh μ a = (0, ci) then run n d M (pc + 3) ls r (wP μ a k (some x)) else none
            | 3, .int x :: .ref a :: r => if mSh μ a = (0, ci) ∧ (x = 0 ∨ x = 1) then run n d M (pc + 3) ls r (wI μ a k x) else none
            | _, _ => none
          | _ => none) = _ at h
        split at h
        · rename_i q0 ci k tc
          change (fOk9 M z ci k && (decide (ci < 13 ∧ k < N9 ci) && (decide (tc9 ci k ≠ 9) && (tc == tc9 ci k && (bif (T9 ci k).2.2.2 then (decide ((mY9 M).name = "<init>" ∧ (T9 ci k).1 = cn9 (mO9 M)) && !(fNest9 M z)) else true))))) = true at hci
          rw [Bool.and_eq_true, Bool.and_eq_true, Bool.and_eq_true, Bool.and_eq_true] at hci
          obtain ⟨hf, hcN, h9, htc, hfin⟩ := hci
          obtain ⟨hc13, hkN⟩ := of_decide_eq_true hcN
          have h9 := of_decide_eq_true h9
          have htc : tc = tc9 ci k := by simpa using htc
          have hfin2 : (T9 ci k).2.2.2 = true → meth.name = "<init>" ∧ (T9 ci k).1 = cn9 (mO9 M) ∧ fNest9 M z = false := by
            intro hF
            rw [hF] at hfin
            simp only [cond_true, Bool.and_eq_true, decide_eq_true_eq, Bool.not_eq_true'] at hfin
            exact ⟨hname.trans hfin.1.1, hfin.1.2, hfin.2⟩
          have fin : ∀ (a : Nat) (r : List Value) (x : Value) (ν : Mem), mSh μ a = (0, ci) → mHp ν = mHp μ → mSl ν = mSl μ → mSh ν = mSh μ → (∀ b, b ≠ a → mI ν b = mI μ b ∧ mJ ν b = mJ μ b ∧ mP ν b = mP μ b) → run n d M (pc + 3) ls r ν = some (rv, ex, μ') → narrow (ty9 ci k) (tv9 b0 cst x) = tv9 b0 cst x → fits (ty9 ci k) (tv9 b0 cst x) = true → (∀ H1, t_OB (b0 + a) (D.1 ci) (N9 ci) (D.2 ci) H1 (updV (fv9 b0 cst μ a ci) k (tv9 b0 cst x)) → CR9 b0 cst D cA ν a H1) → W p l e R s m args below meth c H locs cells slots Q (F0 m pc lsA (tv9 b0 cst x :: .ref (rho9 b0 cst a) :: r.map (tv9 b0 cst))) := by
            intro a r x ν hs hh hsl hsh ho hr hn hft hCR
            have ha := hIn.1.2.1.2.1 a (by rw [hs]; exact Nat.zero_le _)
            have haF : a < oFF := Nat.lt_of_lt_of_le ha hIn.1.2.1.1
            have hO := ((hIn.1.2.2 a ha).obj hs).2
            rw [rho9_lt haF]
            refine s_put hx hb hts hown hK hN hc13 hkN hf hfin2 hO hn hft hd0 (fun H1 i hO1 hz hq => ?_)
            exact K hr (hIn.set hh hsh ha ho (hCR H1 hO1) hz hq (fun y hy => by rcases List.mem_singleton.mp hy with rfl; rfl)) hl (by rw [hh]; exact hcf) (by rw [hsl]; exact hsf)
          split at h
          · rename_i x a r _
            split at h
            · rename_i hs
              have ht : ty9 ci k = .int := by
                unfold tc9 at htc
                generalize ty9 ci k = ty at htc
                cases ty <;> first | rfl | (simp [tcf9] at htc)
              refine fin a r (.int x) (wI μ a k x) hs rfl rfl rfl (fun b hb => ⟨up2_ne hb, rfl, rfl⟩) h (by rw [ht]; rfl) (by rw [ht]; rfl) (fun H1 hO1 => CR9.objI hs hc13 (by rw [← htc]; decide) (by rw [← htc]; decide) hO1)
            · cases h
          · rename_i x a r _
            split at h
            · rename_i hs
              have ht : ty9 ci k = .long := by
                unfold tc9 at htc
                generalize ty9 ci k = ty at htc
                cases ty <;> first | rfl | (simp [tcf9] at htc)
              refine fin a r (.long x) (wJ μ a k x) hs rfl rfl rfl (fun b hb => ⟨rfl, up2_ne hb, rfl⟩) h (by rw [ht]; rfl) (by rw [ht]; rfl) (fun H1 hO1 => CR9.objJ hs hc13 htc.symm hO1)
            · cases h
          · rename_i x a r _
            split at h
            · rename_i hs
              have ht : (∃ y, ty9 ci k = .object y) ∨ ∃ y, ty9 ci k = .array y := by
                unfold tc9 at htc
                generalize ty9 ci k = ty at htc
                cases ty <;> first | exact Or.inl ⟨_, rfl⟩ | exact Or.inr ⟨_, rfl⟩ | (simp [tcf9] at htc)
              refine fin a r (.ref x) (wP μ a k (some x)) hs rfl rfl rfl (fun b hb => ⟨rfl, rfl, up2_ne hb⟩) h (by rcases ht with ⟨y, ht⟩ | ⟨y, ht⟩ <;> rw [ht] <;> rfl) (by rcases ht with ⟨y, ht⟩ | ⟨y, ht⟩ <;> rw [ht] <;> rfl) (fun H1 hO1 => CR9.objP hs hc13 htc.symm hO1)
            · cases h
          · rename_i x a r _
            split at h
            · rename_i hs
              have ht : ty9 ci k = .boolean := by
                unfold tc9 at htc
                generalize ty9 ci k = ty at htc
                cases ty <;> first | rfl | (simp [tcf9] at htc)
              refine fin a r (.int x) (wI μ a k x) hs.1 rfl rfl rfl (fun b hb => ⟨up2_ne hb, rfl, rfl⟩) h (by rw [ht]; rcases hs.2 with rfl | rfl <;> rfl) (by rw [ht]; rcases hs.2 with rfl | rfl <;> rfl) (fun H1 hO1 => CR9.objI hs.1 hc13 (by rw [← htc]; decide) (by rw [← htc]; decide) hO1)
            · cases h
          · cases h
        · cases h
      | arraylength =>
        have hL : q.headD 0 = 1 := len_of hlen rfl (by decide)
        rw [hL] at hd0
        change kR st (fun a r => if 1 ≤ (mSh μ a).1 ∧ (mSh μ a).1 ≤ 6 then run n d M (pc + q.headD 0) ls (.int (Int32.ofNat (mSh μ a).2) :: r) μ else none) = _ at h
        rw [hL] at h
        unfold kR at h
        split at h
        · rename_i a r
          dsimp only at h
          split at h
          · rename_i hs
            show W p l e R s m args below meth c H locs cells slots Q (F0 m pc lsA (.ref (rho9 b0 cst a) :: r.map (tv9 b0 cst)))
            by_cases e6 : (mSh μ a).1 = 6
            · have eo := hIn.1.2.1.2.2 a e6
              subst eo
              obtain ⟨hX, hc0⟩ := hIn.2.2.1 _ (pr_eta e6)
              have er : rho9 b0 cst oFF = cst 0 := by simp [rho9]
              rw [er]
              exact va_slen (A := fun q => b0 ≤ q) hx hb hX (by omega) (by omega) hIn.2.1 hd0 (K h hIn hl hcf hsf)
            · have h5 : (mSh μ a).1 ≤ 5 := by omega
              have ha := hIn.1.2.1.2.1 a h5
              have haF : a < oFF := Nat.lt_of_lt_of_le ha hIn.1.2.1.1
              rw [rho9_lt haF]
              have hCR := hIn.1.2.2 a ha
              have fin : ∀ (k : Nat) (V : Nat → Value) (ty : FieldType), H[b0 + a]? = some (arrV (cA k) (mSh μ a).2 V) → ArrOfT s (cA k) ty → W p l e R s m args below meth c H locs cells slots Q (F0 m pc lsA (.ref (b0 + a) :: r.map (tv9 b0 cst))) := fun k V ty hc hA =>
                W.alen hx hb hc (hA _ V) (by rw [arrV_size]) rfl rfl hd0 (K h hIn hl hcf hsf)
              obtain ⟨k, hk⟩ : ∃ k, (mSh μ a).1 = k := ⟨_, rfl⟩
              have hs1 := hs.1
              rw [hk] at hs1 h5
              match k, hk, hs1, h5 with
              | 1, hk, _, _ => exact fin 1 _ _ (hCR.arr hk (by decide)) (hK.2.1 1 (by decide) (by decide)).1
              | 2, hk, _, _ => exact fin 2 _ _ (hCR.arr hk (by decide)) (hK.2.1 2 (by decide) (by decide)).1
              | 3, hk, _, _ => exact fin 3 _ _ (hCR.arr hk (by decide)) (hK.2.1 3 (by decide) (by decide)).1
              | 4, hk, _, _ => exact fin 4 _ _ (hCR.arrL hk) (hK.2.1 4 (by decide) (by decide)).1
              | 5, hk, _, _ => exact fin 5 _ _ (hCR.arrR hk) hK.2.2.1
          · cases h
        · cases h
      | iaload =>
        have hL : q.headD 0 = 1 := len_of hlen rfl (by decide)
        rw [hL] at hd0
        change kIR st (fun a i r => if ((mSh μ a).1 = 1 ∨ (mSh μ a).1 = 6) ∧ in9 i (mSh μ a).2 then run n d M (pc + q.headD 0) ls (.int (mI μ a i.toNatClampNeg) :: r) μ else none) = _ at h
        rw [hL] at h
        unfold kIR at h
        split at h
        · rename_i i a r
          dsimp only at h
          split at h
          · rename_i hs
            show W p l e R s m args below meth c H locs cells slots Q (F0 m pc lsA (.int i :: .ref (rho9 b0 cst a) :: r.map (tv9 b0 cst)))
            rcases hs.1 with e1 | e6
            · have ha := hIn.1.2.1.2.1 a (by rw [e1]; decide)
              rw [rho9_lt (Nat.lt_of_lt_of_le ha hIn.1.2.1.1)]
              exact s_iald hx hb hK ((hIn.1.2.2 a ha).arr e1 (by decide)) hs.2 hd0 (K h hIn hl hcf hsf)
            · have eo := hIn.1.2.1.2.2 a e6
              subst eo
              obtain ⟨hX, hc0⟩ := hIn.2.2.1 _ (pr_eta e6)
              have er : rho9 b0 cst oFF = cst 0 := by simp [rho9]
              rw [er]
              exact va_sld (A := fun q => b0 ≤ q) hx hb hX (by omega) (by omega) hIn.2.1 (fun z => z.elim (fun y => absurd hs.2.1 (Int32.not_le.mpr y)) (fun y => absurd hs.2.2 (Nat.not_lt.mpr y))) hd0 (K h hIn hl hcf hsf)
          · cases h
        · cases h
      | baload =>
        have hL : q.headD 0 = 1 := len_of hlen rfl (by decide)
        rw [hL] at hd0
        change kIR st (fun a i r => if ((mSh μ a).1 = 2 ∨ (mSh μ a).1 = 3) ∧ in9 i (mSh μ a).2 then run n d M (pc + q.headD 0) ls (.int (mI μ a i.toNatClampNeg) :: r) μ else none) = _ at h
        rw [hL] at h
        unfold kIR at h
        split at h
        · rename_i i a r
          dsimp only at h
          split at h
          · rename_i hs
            have ha := hIn.1.2.1.2.1 a (by rcases hs.1 with q | q <;> rw [q] <;> decide)
            show W p l e R s m args below meth c H locs cells slots Q (F0 m pc lsA (.int i :: .ref (rho9 b0 cst a) :: r.map (tv9 b0 cst)))
            rw [rho9_lt (Nat.lt_of_lt_of_le ha hIn.1.2.1.1)]
            rcases hs.1 with e1 | e1
            · exact s_bald hx hb hK ((hIn.1.2.2 a ha).arr e1 (by decide)) hs.2 hd0 (K h hIn hl hcf hsf)
            · exact s_zald hx hb hK ((hIn.1.2.2 a ha).arr e1 (by decide)) hs.2 hd0 (K h hIn hl hcf hsf)
          · cases h
        · cases h
      | laload =>
        have hL : q.headD 0 = 1 := len_of hlen rfl (by decide)
        rw [hL] at hd0
        change kIR st (fun a i r => if (mSh μ a).1 = 4 ∧ in9 i (mSh μ a).2 then run n d M (pc + q.headD 0) ls (.long (mJ μ a i.toNatClampNeg) :: r) μ else none) = _ at h
        rw [hL] at h
        unfold kIR at h
        split at h
        · rename_i i a r
          dsimp only at h
          split at h
          · rename_i hs
            have ha := hIn.1.2.1.2.1 a (by rw [hs.1]; decide)
            show W p l e R s m args below meth c H locs cells slots Q (F0 m pc lsA (.int i :: .ref (rho9 b0 cst a) :: r.map (tv9 b0 cst)))
            rw [rho9_lt (Nat.lt_of_lt_of_le ha hIn.1.2.1.1)]
            exact s_lald hx hb hK ((hIn.1.2.2 a ha).arrL hs.1) hs.2 hd0 (K h hIn hl hcf hsf)
          · cases h
        · cases h
      | aaload =>
        have hL : q.headD 0 = 1 := len_of hlen rfl (by decide)
        rw [hL] at hd0
        change kIR st (fun a i r => if (mSh μ a).1 = 5 ∧ in9 i (mSh μ a).2 then (match mP μ a i.toNatClampNeg with
          | some b => run n d M (pc + q.headD 0) ls (.ref b :: r) μ
          | none => none) else none) = _ at h
        rw [hL] at h
        unfold kIR at h
        split at h
        · rename_i i a r
          dsimp only at h
          split at h
          · rename_i hs
            have ha := hIn.1.2.1.2.1 a (by rw [hs.1]; decide)
            show W p l e R s m args below meth c H locs cells slots Q (F0 m pc lsA (.int i :: .ref (rho9 b0 cst a) :: r.map (tv9 b0 cst)))
            rw [rho9_lt (Nat.lt_of_lt_of_le ha hIn.1.2.1.1)]
            refine s_aald hx hb hK ((hIn.1.2.2 a ha).arrR hs.1) hs.2 hd0 ?_
            cases hp : mP μ a i.toNatClampNeg with
            | none => rw [hp] at h; cases h
            | some b =>
              rw [hp] at h
              exact K h hIn hl hcf hsf
          · cases h
        · cases h
      | iastore =>
        have hL : q.headD 0 = 1 := len_of hlen rfl (by decide)
        rw [hL] at hd0
        change (match st with
          | .int x :: .int i :: .ref a :: r => if (mSh μ a).1 = 1 ∧ in9 i (mSh μ a).2 then run n d M (pc + 1) ls r (wI μ a i.toNatClampNeg x) else none
          | _ => none) = _ at h
        split at h
        · rename_i x i a r
          split at h
          · rename_i hs
            have ha := hIn.1.2.1.2.1 a (by rw [hs.1]; decide)
            show W p l e R s m args below meth c H locs cells slots Q (F0 m pc lsA (.int x :: .int i :: .ref (rho9 b0 cst a) :: r.map (tv9 b0 cst)))
            rw [rho9_lt (Nat.lt_of_lt_of_le ha hIn.1.2.1.1)]
            refine s_iast hx hb hK ((hIn.1.2.2 a ha).arr hs.1 (by decide)) hs.2 hd0 (fun H1 k e1 hz hq => ?_)
            exact K h (hIn.set rfl rfl ha (fun b hb => ⟨up2_ne hb, rfl, rfl⟩) (CR9.arrI (k := 1) (by decide) (pr_eta hs.1) e1) hz hq (fun y hy => by rcases List.mem_singleton.mp hy with rfl; rfl)) hl hcf hsf
          · cases h
        · cases h
      | lastore =>
        have hL : q.headD 0 = 1 := len_of hlen rfl (by decide)
        rw [hL] at hd0
        change (match st with
          | .long x :: .int i :: .ref a :: r => if (mSh μ a).1 = 4 ∧ in9 i (mSh μ a).2 then run n d M (pc + 1) ls r (wJ μ a i.toNatClampNeg x) else none
          | _ => none) = _ at h
        split at h
        · rename_i x i a r
          split at h
          · rename_i hs
            have ha := hIn.1.2.1.2.1 a (by rw [hs.1]; decide)
            show W p l e R s m args below meth c H locs cells slots Q (F0 m pc lsA (.long x :: .int i :: .ref (rho9 b0 cst a) :: r.map (tv9 b0 cst)))
            rw [rho9_lt (Nat.lt_of_lt_of_le ha hIn.1.2.1.1)]
            refine s_last hx hb hK ((hIn.1.2.2 a ha).arrL hs.1) hs.2 hd0 (fun H1 k e1 hz hq => ?_)
            exact K h (hIn.set rfl rfl ha (fun b hb => ⟨rfl, up2_ne hb, rfl⟩) (CR9.arrJ (pr_eta hs.1) e1) hz hq (fun y hy => by rcases List.mem_singleton.mp hy with rfl; rfl)) hl hcf hsf
          · cases h
        · cases h
      | bastore =>
        have hL : q.headD 0 = 1 := len_of hlen rfl (by decide)
        rw [hL] at hd0
        change (match st with
          | .int x :: .int i :: .ref a :: r => if (mSh μ a).1 = 2 ∧ in9 i (mSh μ a).2 then run n d M (pc + 1) ls r (wI μ a i.toNatClampNeg (vp_nar .byte x))
              else if (mSh μ a).1 = 3 ∧ in9 i (mSh μ a).2 then run n d M (pc + 1) ls r (wI μ a i.toNatClampNeg (vp_nar .boolean x)) else none
          | _ => none) = _ at h
        split at h
        · rename_i x i a r
          split at h
          · rename_i hs
            have ha := hIn.1.2.1.2.1 a (by rw [hs.1]; decide)
            show W p l e R s m args below meth c H locs cells slots Q (F0 m pc lsA (.int x :: .int i :: .ref (rho9 b0 cst a) :: r.map (tv9 b0 cst)))
            rw [rho9_lt (Nat.lt_of_lt_of_le ha hIn.1.2.1.1)]
            refine s_bast hx hb hK ((hIn.1.2.2 a ha).arr hs.1 (by decide)) hs.2 hd0 (fun H1 k e1 hz hq => ?_)
            exact K h (hIn.set rfl rfl ha (fun b hb => ⟨up2_ne hb, rfl, rfl⟩) (CR9.arrI (k := 2) (by decide) (pr_eta hs.1) e1) hz hq (fun y hy => by rcases List.mem_singleton.mp hy with rfl; rfl)) hl hcf hsf
          · split at h
            · rename_i hs
              have ha := hIn.1.2.1.2.1 a (by rw [hs.1]; decide)
              show W p l e R s m args below meth c H locs cells slots Q (F0 m pc lsA (.int x :: .int i :: .ref (rho9 b0 cst a) :: r.map (tv9 b0 cst)))
              rw [rho9_lt (Nat.lt_of_lt_of_le ha hIn.1.2.1.1)]
              refine s_zast hx hb hK ((hIn.1.2.2 a ha).arr hs.1 (by decide)) hs.2 hd0 (fun H1 k e1 hz hq => ?_)
              exact K h (hIn.set rfl rfl ha (fun b hb => ⟨up2_ne hb, rfl, rfl⟩) (CR9.arrI (k := 3) (by decide) (pr_eta hs.1) e1) hz hq (fun y hy => by rcases List.mem_singleton.mp hy with rfl; rfl)) hl hcf hsf
            · cases h
        · cases h
      | aastore =>
        have hL : q.headD 0 = 1 := len_of hlen rfl (by decide)
        rw [hL] at hd0
        change (match st with
          | .ref x :: .int i :: .ref a :: r => if (mSh μ a).1 = 5 ∧ in9 i (mSh μ a).2 ∧ mSh μ x = (0, 9) then run n d M (pc + 1) ls r (wP μ a i.toNatClampNeg (some x)) else none
          | _ => none) = _ at h
        split at h
        · rename_i x i a r
          split at h
          · rename_i hs
            have ha := hIn.1.2.1.2.1 a (by rw [hs.1]; decide)
            have hax := hIn.1.2.1.2.1 x (by rw [hs.2.2]; decide)
            have hxF := Nat.lt_of_lt_of_le hax hIn.1.2.1.1
            show W p l e R s m args below meth c H locs cells slots Q (F0 m pc lsA (.ref (rho9 b0 cst x) :: .int i :: .ref (rho9 b0 cst a) :: r.map (tv9 b0 cst)))
            rw [rho9_lt (Nat.lt_of_lt_of_le ha hIn.1.2.1.1), rho9_lt hxF]
            refine s_aast hx hb hK ((hIn.1.2.2 a ha).arrR hs.1) ((hIn.1.2.2 x hax).obj hs.2.2).2 hs.2.1 hd0 (fun H1 k e1 hz hq => ?_)
            exact K h (hIn.set rfl rfl ha (fun b hb => ⟨rfl, rfl, up2_ne hb⟩) (CR9.arrP (pr_eta hs.1) (by rw [rho9_lt hxF]; exact e1)) hz hq (fun y hy => by rcases List.mem_singleton.mp hy with rfl; rfl)) hl hcf hsf
          · cases h
        · cases h
      | new z =>
        have hL : q.headD 0 = 3 := len_of hlen rfl (by decide)
        rw [hL] at hd0
        change (match q with
          | [_, ci, k, 0] => if mHp μ < oFF then run n d M (pc + 3) ls (.ref (mHp μ) :: st) (mNew μ (0, ci) k) else none
          | [_, _, k, 1] => if mHp μ < oFF ∧ 8 ≤ d then (bif cat9 st then some (none, true, mNew μ (9, 0) k) else none) else none
          | _ => none) = _ at h
        split at h
        · rename_i q0 ci k
          change (decide (ci < 13 ∧ k = N9 ci) && lkN.any fun t => t.1 == mO9 M && (t.2.1 == z && t.2.2.1 == ci)) = true at hci
          rw [Bool.and_eq_true] at hci
          obtain ⟨hc13, hkN⟩ := of_decide_eq_true hci.1
          subst hkN
          split at h
          · rename_i hlt
            have hm2 : mHp (mNew μ (0, ci) (N9 ci)) ≤ mHp μ' ∧ mSl (mNew μ (0, ci) (N9 ci)) ≤ mSl μ' := mo_run n _ _ _ _ _ _ _ h
            have e1 : mHp (mNew μ (0, ci) (N9 ci)) = mHp μ + 1 := rfl
            have e2 : mSl (mNew μ (0, ci) (N9 ci)) = mSl μ + N9 ci := rfl
            rw [e1, e2] at hm2
            refine s_newc hx hb hts hown hK hc13 hci.2 (by omega) (by omega) hd0 (fun H1 hO hz hq => ?_)
            rw [hIn.1.1] at hO ⊢
            have := K h (hIn.new hlt (show (0 : Nat) ≠ 6 by decide) (CR9.born hc13 hO (tc9_ok ci hc13)) (by rw [hz]) hq) hl (cells := cells + 1) (slots := slots + N9 ci) (by rw [e1]; omega) (by rw [e2]; omega)
            rw [show (Value.ref (mHp μ) :: st).map (tv9 b0 cst) = .ref (b0 + mHp μ) :: st.map (tv9 b0 cst) from by rw [List.map_cons]; show Value.ref (rho9 b0 cst (mHp μ)) :: _ = _; rw [rho9_lt hlt]] at this
            exact this
          · cases h
        · rename_i q0 ci k
          change decide (k = 6 ∧ (M, pc, z) ∈ thr9) = true at hci
          obtain ⟨hk6, hthr9⟩ := of_decide_eq_true hci
          subst hk6
          split at h
          · rename_i hlt
            cases hcat : cat9 st with
            | false => rw [hcat] at h; cases h
            | true =>
              rw [hcat] at h
              cases h
              have e1 : mHp (mNew μ (9, 0) 6) = mHp μ + 1 := rfl
              have e2 : mSl (mNew μ (9, 0) 6) = mSl μ + 6 := rfl
              rw [e1] at hcf
              rw [e2] at hsf
              exact hthr rfl pc z lsA _ μ H locs cells slots hIn hl.1 hthr9 rfl hlt.1 hlt.2 (by omega) (by omega) (by rw [tv9_cats]; exact Nat.le_of_ble_eq_true hcat)
          · cases h
        · cases h
      | newarray ty =>
        have hL : q.headD 0 = 2 := len_of hlen rfl (by decide)
        rw [hL] at hd0
        change (match q with
          | [_, k] => kI st fun n9 r => if 0 ≤ n9 ∧ n9.toNatClampNeg ≤ 60000000 ∧ mHp μ < oFF then run n d M (pc + 2) ls (.ref (mHp μ) :: r) (mNew μ (k, n9.toNatClampNeg) n9.toNatClampNeg) else none
          | _ => none) = _ at h
        split at h
        · rename_i q0 k
          have hk : (1 ≤ k ∧ k ≤ 4) ∧ newarray.typeOf ty = aT9 k := by
            cases ty with
            | int => have e : k = 1 := by simpa using (show (k == 1) = true from hci)
                     subst e; exact ⟨by decide, rfl⟩
            | byte => have e : k = 2 := by simpa using (show (k == 2) = true from hci)
                      subst e; exact ⟨by decide, rfl⟩
            | boolean => have e : k = 3 := by simpa using (show (k == 3) = true from hci)
                         subst e; exact ⟨by decide, rfl⟩
            | long => have e : k = 4 := by simpa using (show (k == 4) = true from hci)
                      subst e; exact ⟨by decide, rfl⟩
            | char => cases hci
            | float => cases hci
            | double => cases hci
            | short => cases hci
          unfold kI at h
          split at h
          · rename_i n9 r
            dsimp only at h
            split at h
            · rename_i hs
              obtain ⟨h0, h6, hlt⟩ := hs
              have hm2 : mHp (mNew μ (k, n9.toNatClampNeg) n9.toNatClampNeg) ≤ mHp μ' ∧ mSl (mNew μ (k, n9.toNatClampNeg) n9.toNatClampNeg) ≤ mSl μ' := mo_run n _ _ _ _ _ _ _ h
              have e1 : mHp (mNew μ (k, n9.toNatClampNeg) n9.toNatClampNeg) = mHp μ + 1 := rfl
              have e2 : mSl (mNew μ (k, n9.toNatClampNeg) n9.toNatClampNeg) = mSl μ + n9.toNatClampNeg := rfl
              rw [e1, e2] at hm2
              refine s_newa hx hb hts hK hk.1 hk.2 h0 h6 (by omega) (by omega) hd0 (fun H1 hO hz hq => ?_)
              rw [hIn.1.1] at hO ⊢
              have := K h (hIn.new hlt (show k ≠ 6 by omega) (CR9.bornA hk.1 hO) (by rw [hz]) hq) hl (cells := cells + 1) (slots := slots + n9.toNatClampNeg) (by rw [e1]; omega) (by rw [e2]; omega)
              rw [show (Value.ref (mHp μ) :: r).map (tv9 b0 cst) = .ref (b0 + mHp μ) :: r.map (tv9 b0 cst) from by rw [List.map_cons]; show Value.ref (rho9 b0 cst (mHp μ)) :: _ = _; rw [rho9_lt hlt]] at this
              exact this
            · cases h
          · cases h
        · cases h
      | anewarray z =>
        have hL : q.headD 0 = 3 := len_of hlen rfl (by decide)
        rw [hL] at hd0
        change kI st (fun n9 r => if 0 ≤ n9 ∧ n9.toNatClampNeg ≤ 60000000 ∧ mHp μ < oFF then run n d M (pc + 3) ls (.ref (mHp μ) :: r) (mNew μ (5, n9.toNatClampNeg) n9.toNatClampNeg) else none) = _ at h
        unfold kI at h
        split at h
        · rename_i n9 r
          dsimp only at h
          split at h
          · rename_i hs
            obtain ⟨h0, h6, hlt⟩ := hs
            have hm2 : mHp (mNew μ (5, n9.toNatClampNeg) n9.toNatClampNeg) ≤ mHp μ' ∧ mSl (mNew μ (5, n9.toNatClampNeg) n9.toNatClampNeg) ≤ mSl μ' := mo_run n _ _ _ _ _ _ _ h
            have e1 : mHp (mNew μ (5, n9.toNatClampNeg) n9.toNatClampNeg) = mHp μ + 1 := rfl
            have e2 : mSl (mNew μ (5, n9.toNatClampNeg) n9.toNatClampNeg) = mSl μ + n9.toNatClampNeg := rfl
            rw [e1, e2] at hm2
            refine s_anew hx hb hts hAO hown hK hci h0 h6 (by omega) (by omega) hd0 (fun H1 hO hz hq => ?_)
            rw [hIn.1.1] at hO ⊢
            have := K h (hIn.new hlt (show (5 : Nat) ≠ 6 by decide) (CR9.bornQ hO) (by rw [hz]) hq) hl (cells := cells + 1) (slots := slots + n9.toNatClampNeg) (by rw [e1]; omega) (by rw [e2]; omega)
            rw [show (Value.ref (mHp μ) :: r).map (tv9 b0 cst) = .ref (b0 + mHp μ) :: r.map (tv9 b0 cst) from by rw [List.map_cons]; show Value.ref (rho9 b0 cst (mHp μ)) :: _ = _; rw [rho9_lt hlt]] at this
            exact this
          · cases h
        · cases h
      | ireturn =>
        have hL : q.headD 0 = 1 := len_of hlen rfl (by decide)
        rw [hL] at hd0
        change (match (generalizing := false) st with
          | [.int x] => match (generalizing := false) q with
            | [_, 3] => if x = 0 ∨ x = 1 then some (some (Value.int x), false, μ) else none
            | _ => some (some (Value.int x), false, μ)
          | _ => none : Option Res) = _ at h
        split at h
        · rename_i x
          split at h
          · rename_i q0
            have hr := of_decide_eq_true (show decide ((3 = 1 ∧ mR9 M = some .int) ∨ (3 = 3 ∧ mR9 M = some .boolean)) = true from hci)
            split at h
            · rename_i hs
              cases h
              have e1 : cells = cf := by omega
              have e2 : slots = sf := by omega
              subst e1; subst e2
              exact hret rfl pc lsA H locs hIn ⟨hd0, Or.inr ⟨by rcases hr with ⟨q, -⟩ | ⟨-, q⟩ <;> first | omega | exact q, hs⟩⟩
            · cases h
          · rename_i hq3
            have hr : mR9 M = some .int := by
              change (match (generalizing := false) q with
                | [_, k] => decide ((k = 1 ∧ mR9 M = some .int) ∨ (k = 3 ∧ mR9 M = some .boolean))
                | _ => false) = true at hci
              split at hci
              · rename_i q0 k
                rcases of_decide_eq_true hci with ⟨-, q⟩ | ⟨q, -⟩
                · exact q
                · subst q; exact absurd rfl (hq3 _)
              · cases hci
            cases h
            have e1 : cells = cf := by omega
            have e2 : slots = sf := by omega
            subst e1; subst e2
            exact hret rfl pc lsA H locs hIn ⟨hd0, Or.inl hr⟩
        · cases h
      | lreturn =>
        have hL : q.headD 0 = 1 := len_of hlen rfl (by decide)
        rw [hL] at hd0
        change (match (generalizing := false) st with
          | [.long x] => some (some (Value.long x), false, μ)
          | _ => none : Option Res) = _ at h
        split at h
        · cases h
          have e1 : cells = cf := by omega
          have e2 : slots = sf := by omega
          subst e1; subst e2
          exact hret rfl pc lsA H locs hIn ⟨hd0, of_decide_eq_true hci⟩
        · cases h
      | return_ =>
        have hL : q.headD 0 = 1 := len_of hlen rfl (by decide)
        rw [hL] at hd0
        change (match (generalizing := false) st with
          | [] => some (none, false, μ)
          | _ => none : Option Res) = _ at h
        split at h
        · cases h
          have e1 : cells = cf := by omega
          have e2 : slots = sf := by omega
          subst e1; subst e2
          exact hret rfl pc lsA H locs hIn ⟨hd0, of_decide_eq_true hci⟩
        · cases h
      | invokevirtual z =>
        have hL : q.headD 0 = 3 := len_of hlen rfl (by decide)
        rw [hL] at hd0
        change (match (generalizing := false) q with
          | [_, M', na, kd, rt, nl, ci, hd] => call9 (run n) d M pc ls st μ M' na kd rt nl ci hd
          | [_, 3] => kR st fun a r => if oFF < a ∧ a ≤ oFF + 5 ∧ 2 ≤ d then (bif cat9 r then run n d M (pc + q.headD 0) ls (.int (Int32.ofNat (sLen (a - oFF - 1))) :: r) μ else none) else none
          | [_, 4] => kIR st fun a i r => if oFF < a ∧ a ≤ oFF + 5 ∧ 8 ≤ d ∧ in9 i (sLen (a - oFF - 1)) then (bif cat9 r then run n d M (pc + q.headD 0) ls (.int (sCh (a - oFF - 1) i.toNatClampNeg) :: r) μ else none) else none
          | _ => none) = _ at h
        rw [hL] at h
        change (match (generalizing := false) q with
          | [_, M', na, kd, rt, nl, ci, hd] => call9Ok M z M' na rt nl ci && (decide (M' < 301 ∧ kd = 1 ∧ mS9 M' = false ∧ na = np9 M' + 1 ∧ (mY9 M').name ≠ "<init>" ∧ ci < 13) && (decide (301 ≤ M ∧ M < 305) || hd == 0))
          | [_, 3] => lkL.any fun t => t.1 == mO9 M && t.2.1 == z
          | [_, 4] => lkH.any fun t => t.1 == mO9 M && t.2.1 == z
          | _ => false) = true at hci
        split at h
        · rename_i q0 M' na kd rt nl ci hd
          rw [Bool.and_eq_true] at hci
          obtain ⟨hc1, hc2⟩ := hci
          unfold call9Ok at hc1
          simp only [Bool.and_eq_true, beq_iff_eq, decide_eq_true_eq] at hc1
          obtain ⟨hlk, hnl, hcie, hrt, hrt4, hci18, hna100⟩ := hc1
          subst hnl
          rw [Bool.and_eq_true] at hc2
          obtain ⟨hM3, hkd, hsta, hna, hnin, hc13⟩ := of_decide_eq_true hc2.1
          subst hkd
          have hhd : hd = 0 := by
            have := hc2.2
            rw [Bool.or_eq_true] at this
            rcases this with q | q
            · have := of_decide_eq_true q
              omega
            · simpa using q
        
          subst hhd
          obtain ⟨d', as, rs, rv1, μ1, hd', htk, hcat, hcs, hrecv, hrun, hrest, hrti⟩ := call9_some h
          subst hd'
          obtain ⟨hst, hlen2⟩ := tk9_st htk
          have hmo1 : mHp μ ≤ mHp μ1 ∧ mSl μ ≤ mSl μ1 := mo_run n _ _ _ _ _ _ _ hrun
          have hmo2 : mHp μ1 ≤ mHp μ' ∧ mSl μ1 ≤ mSl μ' := mo_run n _ _ _ _ _ _ _ hrest
          have hrs : ((rs.map (tv9 b0 cst)).map fun v => v.category).sum ≤ 8 := by rw [tv9_cats]; exact Nat.le_of_ble_eq_true hcat
          have kont : ∀ (H1 : Heap) (locs1 : List Loc), In9 b0 cst D cA s μ1 H1 locs1 → W p l e R s m args below meth c H1 locs1 (cells + (mHp μ1 - mHp μ)) (slots + (mSl μ1 - mSl μ)) Q (F0 m (pc + 3) lsA ((rv1.map (tv9 b0 cst)).toList ++ rs.map (tv9 b0 cst))) := fun H1 locs1 hIn1 => by
            have := K hrest hIn1 hl (cells := cells + (mHp μ1 - mHp μ)) (slots := slots + (mSl μ1 - mSl μ)) (by omega) (by omega)
            rw [List.map_append] at this
            cases rv1 <;> exact this
          have hok := okM9_all hM3
          obtain ⟨o1, o2, o3, o4, -, o6⟩ := okM9_spec hok
          obtain ⟨o7, o8⟩ := o6 hsta
          obtain ⟨a, as', has, hs⟩ := hrecv (by decide)
          subst has
          have ha := hIn.1.2.1.2.1 a (by rw [hs]; exact Nat.zero_le _)
          have hO := ((hIn.1.2.2 a ha).obj hs)
          obtain ⟨cellB, c1, c2, c3, -⟩ := hO.2
          have hB : ∃ cellB : Cell, H[b0 + a]? = some cellB ∧ cellB.vm.isStatics = false ∧ s.vm.findClass (cn9 (mO9 M')) = some cellB.cls := ⟨cellB, c1, by rw [c3]; rfl, by rw [c2, ← hcie]; exact (hK.1 ci hc13).2.1⟩
          have hmet := s_met ih hM3 hrun hcs hok
          have hgood := goodC (cw9_all hM3)
          rw [show ((Value.ref a :: as').map (tv9 b0 cst)) = Value.ref (b0 + a) :: as'.map (tv9 b0 cst) from by rw [List.map_cons]; show Value.ref (rho9 b0 cst a) :: _ = _; rw [rho9_lt (Nat.lt_of_lt_of_le ha hIn.1.2.1.1)]] at hmet
          have hcb := callB_of (R := R) (own := cn9 (mO9 M)) (index := z) (rm := { frames := d', cells := mHp μ1 - mHp μ, slots := mSl μ1 - mSl μ, locals := 60 * d' }) (as'.length) hts hgood rfl rfl rfl (hts _ (by rw [o2]; exact o1)) (hts _ (mLk9 hlk)) ⟨o3.1, o3.2, np9_ok (by simp at hlen2; omega) (by simp at hlen2; omega)⟩ ⟨by show d' + 1 ≤ R.frames; omega, by show 8 + (mL9 M' + 11) + 60 * d' ≤ R.locals; omega⟩
          have hr := va_runV (locs := locs) (meth := meth) (below := below) (e := e) (cells := cells) (slots := slots) (mc := mHp μ1 - mHp μ) (ms := mSl μ1 - mSl μ) (rest := rs.map (tv9 b0 cst)) (C := cn9 (mO9 M')) (As := as'.map (tv9 b0 cst)) (b := b0 + a) (g := F0 m pc lsA (st.map (tv9 b0 cst))) ⟨hx, hb, hml, hown, hts⟩ hmet ⟨hcb, hts _ o7, hts _ (o8 hnin)⟩ ⟨fun a U g mk q => by obtain ⟨q0, qW, qS, qX, qb⟩ := q; exact ⟨q0, qW, ⟨qS.1.moved (u := U) (U := U.calling g mk a) (Vm.Alike.refl U.vm), qS.2.1.same (u := U) (U := U.calling g mk a) rfl, qS.2.2.moved (u := U) (U := U.calling g mk a) (Vm.Alike.refl U.vm)⟩, qX.moved (u := U) (U := U.calling g mk a) (Vm.Alike.refl U.vm) (fun _ _ => rfl) (qX.2.same (u := U) (U := U.calling g mk a) rfl rfl), qb⟩, hB, fun U hU hW => ⟨rfl, by rw [hU]; exact hIn.1, ⟨hK.moved hW.alike, hN.warm hW, hAO.moved hW.alike⟩, hIn.2.2.moved hW.alike (fun q hq => by rw [hU]; exact hIn.2.1.2.1 q (by omega) (by omega)) (hIn.2.2.2.warm hW (fun q hq => by rw [hU]; exact hIn.2.1.2.1 q (by omega) (by omega))), by rw [hU]; exact Nat.le_trans hb0 hIn.2.1.1⟩⟩ rfl (by rw [List.length_map]) hl.1 (by
              show st.map (tv9 b0 cst) = _
              rw [hst]
              simp only [List.map_append, List.map_reverse, List.reverse_cons, List.append_assoc, List.map_cons, List.map_nil, List.singleton_append]
              show _ ++ Value.ref (rho9 b0 cst a) :: _ = _
              rw [rho9_lt (Nat.lt_of_lt_of_le ha hIn.1.2.1.1)]) (lv_room hrs) hd0 ⟨by omega, by omega⟩
          exact s_back hr hIn hb0 kont
        · unfold kR at h
          split at h
          · rename_i a r
            dsimp only at h
            split at h
            · rename_i hs
              cases hcat : cat9 r with
              | false => rw [hcat] at h; cases h
              | true =>
                rw [hcat] at h
                exact (hstr p e R s m args below meth c M d hSC μ H locs cells slots Q pc lsA _ hIn hl.1 (by omega) (by omega)).2.1 z a hd0 hci hs.1 hs.2.1 hs.2.2 (by rw [tv9_cats]; exact Nat.le_of_ble_eq_true hcat) (K h hIn hl hcf hsf)
            · cases h
          · cases h
        · unfold kIR at h
          split at h
          · rename_i i a r
            dsimp only at h
            split at h
            · rename_i hs
              cases hcat : cat9 r with
              | false => rw [hcat] at h; cases h
              | true =>
                rw [hcat] at h
                exact (hstr p e R s m args below meth c M d hSC μ H locs cells slots Q pc lsA _ hIn hl.1 (by omega) (by omega)).2.2 z a i hd0 hci hs.1 hs.2.1 hs.2.2.1 hs.2.2.2 (by rw [tv9_cats]; exact Nat.le_of_ble_eq_true hcat) (K h hIn hl hcf hsf)
            · cases h
          · cases h
        · cases h
      | invokestatic z =>
        have hL : q.headD 0 = 3 := len_of hlen rfl (by decide)
        rw [hL] at hd0
        change (match (generalizing := false) q with
          | [_, M', na, kd, rt, nl, ci, hd] => call9 (run n) d M pc ls st μ M' na kd rt nl ci hd
          | [_, 2] => match (generalizing := false) st with
            | .int nn :: .int dp :: .ref b :: .int sp :: .ref a :: r =>
              if d ≠ 0 ∧ ((mSh μ a).1 = (mSh μ b).1 ∧ a ≠ b) ∧ (0 ≤ sp ∧ 0 ≤ dp ∧ 0 ≤ nn) ∧ sp.toNatClampNeg + nn.toNatClampNeg ≤ (mSh μ a).2 ∧ dp.toNatClampNeg + nn.toNatClampNeg ≤ (mSh μ b).2 then (bif cat9 r then
                (if (mSh μ a).1 = 1 then run n d M (pc + 3) ls r (cpI μ a sp.toNatClampNeg b dp.toNatClampNeg nn.toNatClampNeg)
                else if (mSh μ a).1 = 4 then run n d M (pc + 3) ls r (cpJ μ a sp.toNatClampNeg b dp.toNatClampNeg nn.toNatClampNeg) else none) else none) else none
            | _ => none
          | [_, 5] => kI st fun x r => if d ≠ 0 then (bif cat9 r then run n d M (pc + q.headD 0) ls (.int (if 0 ≤ x then x else 0 - x) :: r) μ else none) else none
          | [_, 6] => kII st fun x y r => if d ≠ 0 then (bif cat9 r then run n d M (pc + q.headD 0) ls (.int (if x < y then y else x) :: r) μ else none) else none
          | [_, 7] => kII st fun x y r => if d ≠ 0 then (bif cat9 r then run n d M (pc + q.headD 0) ls (.int (if y < x then y else x) :: r) μ else none) else none
          | [_, 8] => kJJ st fun x y r => if d ≠ 0 then (bif cat9 r then run n d M (pc + q.headD 0) ls (.long (if y < x then x else y) :: r) μ else none) else none
          | _ => none) = _ at h
        rw [hL] at h
        change (match (generalizing := false) q with
          | [_, M', na, kd, rt, nl, ci, hd] => call9Ok M z M' na rt nl ci && decide ((M' < 301 ∨ (M = 305 ∧ M' < 305)) ∧ kd = 0 ∧ mS9 M' = true ∧ na = np9 M' ∧ hd = 0)
          | [_, 2] => lkA.any fun t => t.1 == mO9 M && t.2.1 == z
          | [_, k] => decide (5 ≤ k ∧ k ≤ 8) && lkX.any fun t => t.1 == mO9 M && (t.2.1 == z && t.2.2.1 == k)
          | _ => false) = true at hci
        split at h
        · rename_i q0 M' na kd rt nl ci hd
          rw [Bool.and_eq_true] at hci
          obtain ⟨hc1, hc2⟩ := hci
          unfold call9Ok at hc1
          simp only [Bool.and_eq_true, beq_iff_eq, decide_eq_true_eq] at hc1
          obtain ⟨hlk, hnl, hcie, hrt, hrt4, hci18, hna100⟩ := hc1
          subst hnl
          obtain ⟨hM3, hkd, hsta, hna, hhd⟩ := of_decide_eq_true hc2
          subst hkd
        
          subst hhd
          obtain ⟨d', as, rs, rv1, μ1, hd', htk, hcat, hcs, hrecv, hrun, hrest, hrti⟩ := call9_some h
          subst hd'
          obtain ⟨hst, hlen2⟩ := tk9_st htk
          have hmo1 : mHp μ ≤ mHp μ1 ∧ mSl μ ≤ mSl μ1 := mo_run n _ _ _ _ _ _ _ hrun
          have hmo2 : mHp μ1 ≤ mHp μ' ∧ mSl μ1 ≤ mSl μ' := mo_run n _ _ _ _ _ _ _ hrest
          have hrs : ((rs.map (tv9 b0 cst)).map fun v => v.category).sum ≤ 8 := by rw [tv9_cats]; exact Nat.le_of_ble_eq_true hcat
          have kont : ∀ (H1 : Heap) (locs1 : List Loc), In9 b0 cst D cA s μ1 H1 locs1 → W p l e R s m args below meth c H1 locs1 (cells + (mHp μ1 - mHp μ)) (slots + (mSl μ1 - mSl μ)) Q (F0 m (pc + 3) lsA ((rv1.map (tv9 b0 cst)).toList ++ rs.map (tv9 b0 cst))) := fun H1 locs1 hIn1 => by
            have := K hrest hIn1 hl (cells := cells + (mHp μ1 - mHp μ)) (slots := slots + (mSl μ1 - mSl μ)) (by omega) (by omega)
            rw [List.map_append] at this
            cases rv1 <;> exact this
          rcases Nat.lt_or_ge M' 301 with hM9 | hM9
          · have hok := okM9_all hM9
            obtain ⟨o1, o2, o3, o4, o5, -⟩ := okM9_spec hok
            have hmet := s_met ih hM9 hrun hcs hok
            have hgood := goodC (cw9_all hM9)
            have hcb := callB_of (R := R) (own := cn9 (mO9 M)) (index := z) (rm := { frames := d', cells := mHp μ1 - mHp μ, slots := mSl μ1 - mSl μ, locals := 60 * d' }) (as.length) hts hgood rfl rfl rfl (hts _ (by rw [o2]; exact o1)) (hts _ (mLk9 hlk)) ⟨o3.1, o3.2, np9_ok (by omega) (by omega)⟩ ⟨by show d' + 1 ≤ R.frames; omega, by show 8 + (mL9 M' + 11) + 60 * d' ≤ R.locals; omega⟩
            have hr := va_runS (locs := locs) (meth := meth) (below := below) (e := e) (cells := cells) (slots := slots) (mc := mHp μ1 - mHp μ) (ms := mSl μ1 - mSl μ) (rest := rs.map (tv9 b0 cst)) (As := as.map (tv9 b0 cst)) (g := F0 m pc lsA (st.map (tv9 b0 cst))) ⟨hx, hb, hml, hown, hts⟩ hmet ⟨hcb, hts _ (o5 hsta)⟩ ⟨fun a U g mk q => by obtain ⟨q0, qW, qS, qX, qb⟩ := q; exact ⟨q0, qW, ⟨qS.1.moved (u := U) (U := U.calling g mk a) (Vm.Alike.refl U.vm), qS.2.1.same (u := U) (U := U.calling g mk a) rfl, qS.2.2.moved (u := U) (U := U.calling g mk a) (Vm.Alike.refl U.vm)⟩, qX.moved (u := U) (U := U.calling g mk a) (Vm.Alike.refl U.vm) (fun _ _ => rfl) (qX.2.same (u := U) (U := U.calling g mk a) rfl rfl), qb⟩, fun U hU hW => ⟨rfl, by rw [hU]; exact hIn.1, ⟨hK.moved hW.alike, hN.warm hW, hAO.moved hW.alike⟩, hIn.2.2.moved hW.alike (fun q hq => by rw [hU]; exact hIn.2.1.2.1 q (by omega) (by omega)) (hIn.2.2.2.warm hW (fun q hq => by rw [hU]; exact hIn.2.1.2.1 q (by omega) (by omega))), by rw [hU]; exact Nat.le_trans hb0 hIn.2.1.1⟩⟩ rfl (by rw [List.length_map]) hl.1 (by
              show st.map (tv9 b0 cst) = _
              rw [hst, List.map_append, List.map_reverse]) (lv_room hrs) hd0 ⟨by omega, by omega⟩
            exact s_back hr hIn hb0 kont
          · have hMM : M = 305 ∧ M' < 305 := by
              rcases hM3 with g | g
              · omega
              · exact g
            obtain ⟨hMe, hMl⟩ := hMM
            subst hMe
            have hrt1 : rt = 1 := by
              rw [hrt]
              have : M' = 301 ∨ M' = 302 ∨ M' = 303 ∨ M' = 304 := by omega
              rcases this with rfl | rfl | rfl | rfl <;> decide
            obtain ⟨x, hxv⟩ := hrti hrt1
            subst hxv
            rw [hst, List.map_append, List.map_reverse]
            exact hhlp p e R s m args below meth c d' n M' z pc as rs x μ μ1 H locs cells slots Q lsA hSC ih hM9 hMl hlk hrun (by omega) hcs hcat hIn (hl.1) (by omega) (by omega) hd0 kont
        · split at h
          · rename_i nn dp b sp a r
            split at h
            · rename_i hs
              obtain ⟨hd1, ⟨hab, hne⟩, ⟨hs1, hs2, hs3⟩, hs4, hs5⟩ := hs
              cases hcat : cat9 r with
              | false => rw [hcat] at h; cases h
              | true =>
                rw [hcat] at h
                have hr8 : ((r.map (tv9 b0 cst)).map fun v => v.category).sum ≤ 8 := by rw [tv9_cats]; exact Nat.le_of_ble_eq_true hcat
                have hnw : nativeFrameWords "java/lang/System" "arraycopy" 5 + 11 + 8 ≤ 60 := by decide
                change (if (mSh μ a).1 = 1 then run n d M (pc + 3) ls r (cpI μ a sp.toNatClampNeg b dp.toNatClampNeg nn.toNatClampNeg)
                  else if (mSh μ a).1 = 4 then run n d M (pc + 3) ls r (cpJ μ a sp.toNatClampNeg b dp.toNatClampNeg nn.toNatClampNeg) else none) = _ at h
                split at h
                · rename_i hk1
                  have ha := hIn.1.2.1.2.1 a (by rw [hk1]; decide)
                  have hb2 := hIn.1.2.1.2.1 b (by rw [← hab, hk1]; decide)
                  show W p l e R s m args below meth c H locs cells slots Q (F0 m pc lsA (.int nn :: .int dp :: .ref (rho9 b0 cst b) :: .int sp :: .ref (rho9 b0 cst a) :: r.map (tv9 b0 cst)))
                  rw [rho9_lt (Nat.lt_of_lt_of_le ha hIn.1.2.1.1), rho9_lt (Nat.lt_of_lt_of_le hb2 hIn.1.2.1.1)]
                  refine s_copy (k := 1) Value.int (fun _ _ _ => trivial) (by decide) (fun _ => rfl) hx hb (hml.trans hl.1.symm) hts hown hci hK ((hIn.1.2.2 a ha).arr hk1 (by decide)) ((hIn.1.2.2 b hb2).arr (hab.symm.trans hk1) (by decide)) hs1 hs2 hs3 hs4 hs5 (by omega) (by omega) hd0 (fun H1 L hLb e1 hz hq => ?_)
                  exact K h (hIn.set rfl rfl hb2 (fun y hy => ⟨cp2_ne hy, rfl, rfl⟩) (CR9.cpyI (pr_eta (hab.symm.trans hk1)) e1) hz hq hLb) hl hcf hsf
                · split at h
                  · rename_i hk1
                    have ha := hIn.1.2.1.2.1 a (by rw [hk1]; decide)
                    have hb2 := hIn.1.2.1.2.1 b (by rw [← hab, hk1]; decide)
                    show W p l e R s m args below meth c H locs cells slots Q (F0 m pc lsA (.int nn :: .int dp :: .ref (rho9 b0 cst b) :: .int sp :: .ref (rho9 b0 cst a) :: r.map (tv9 b0 cst)))
                    rw [rho9_lt (Nat.lt_of_lt_of_le ha hIn.1.2.1.1), rho9_lt (Nat.lt_of_lt_of_le hb2 hIn.1.2.1.1)]
                    refine s_copy (k := 4) Value.long (fun _ _ _ => trivial) (by decide) (fun _ => rfl) hx hb (hml.trans hl.1.symm) hts hown hci hK ((hIn.1.2.2 a ha).arrL hk1) ((hIn.1.2.2 b hb2).arrL (hab.symm.trans hk1)) hs1 hs2 hs3 hs4 hs5 (by omega) (by omega) hd0 (fun H1 L hLb e1 hz hq => ?_)
                    exact K h (hIn.set rfl rfl hb2 (fun y hy => ⟨rfl, cp2_ne hy, rfl⟩) (CR9.cpyJ (pr_eta (hab.symm.trans hk1)) e1) hz hq hLb) hl hcf hsf
                  · cases h
            · cases h
          · cases h
        · unfold kI at h
          split at h
          · rename_i x r
            dsimp only at h
            split at h
            · rename_i hd1
              cases hcat : cat9 r with
              | false => rw [hcat] at h; cases h
              | true =>
                rw [hcat] at h
                change (decide (5 ≤ 5 ∧ 5 ≤ 8) && lkX.any fun t => t.1 == mO9 M && (t.2.1 == z && t.2.2.1 == 5)) = true at hci
                rw [Bool.and_eq_true] at hci
                obtain ⟨t, ht, hz⟩ := List.any_eq_true.mp hci.2
                simp only [Bool.and_eq_true, beq_iff_eq] at hz
                obtain ⟨z1, z2, z3⟩ := hz
                have w1 := lkX_ok t ht
                rw [z1, z2, z3] at w1
                have hr8 : ((r.map (tv9 b0 cst)).map fun v => v.category).sum ≤ 8 := by rw [tv9_cats]; exact Nat.le_of_ble_eq_true hcat
                exact va_mabs hx hb (hml.trans hl.1.symm) hown (hts _ (g9p w1 rfl)) (hts _ (g9p xw9_5.2 rfl)) (hts _ (g9p xi9.1 rfl)) (hts _ (g9p xw9_5.1 rfl)) (by omega) (by omega) (by omega) (by omega) hd0 (K h hIn hl hcf hsf)
            · cases h
          · cases h
        · unfold kII at h
          split at h
          · rename_i y x r
            dsimp only at h
            split at h
            · rename_i hd1
              cases hcat : cat9 r with
              | false => rw [hcat] at h; cases h
              | true =>
                rw [hcat] at h
                change (decide (5 ≤ 6 ∧ 6 ≤ 8) && lkX.any fun t => t.1 == mO9 M && (t.2.1 == z && t.2.2.1 == 6)) = true at hci
                rw [Bool.and_eq_true] at hci
                obtain ⟨t, ht, hz⟩ := List.any_eq_true.mp hci.2
                simp only [Bool.and_eq_true, beq_iff_eq] at hz
                obtain ⟨z1, z2, z3⟩ := hz
                have w1 := lkX_ok t ht
                rw [z1, z2, z3] at w1
                have hr8 : ((r.map (tv9 b0 cst)).map fun v => v.category).sum ≤ 8 := by rw [tv9_cats]; exact Nat.le_of_ble_eq_true hcat
                exact va_mmax hx hb (hml.trans hl.1.symm) hown (hts _ (g9p w1 rfl)) (hts _ (g9p xw9_6.2 rfl)) (hts _ (g9p xi9.1 rfl)) (hts _ (g9p xw9_6.1 rfl)) (by omega) (by omega) (by omega) (by omega) hd0 (K h hIn hl hcf hsf)
            · cases h
          · cases h
        · unfold kII at h
          split at h
          · rename_i y x r
            dsimp only at h
            split at h
            · rename_i hd1
              cases hcat : cat9 r with
              | false => rw [hcat] at h; cases h
              | true =>
                rw [hcat] at h
                change (decide (5 ≤ 7 ∧ 7 ≤ 8) && lkX.any fun t => t.1 == mO9 M && (t.2.1 == z && t.2.2.1 == 7)) = true at hci
                rw [Bool.and_eq_true] at hci
                obtain ⟨t, ht, hz⟩ := List.any_eq_true.mp hci.2
                simp only [Bool.and_eq_true, beq_iff_eq] at hz
                obtain ⟨z1, z2, z3⟩ := hz
                have w1 := lkX_ok t ht
                rw [z1, z2, z3] at w1
                have hr8 : ((r.map (tv9 b0 cst)).map fun v => v.category).sum ≤ 8 := by rw [tv9_cats]; exact Nat.le_of_ble_eq_true hcat
                exact va_mmin hx hb (hml.trans hl.1.symm) hown (hts _ (g9p w1 rfl)) (hts _ (g9p xw9_7.2 rfl)) (hts _ (g9p xi9.1 rfl)) (hts _ (g9p xw9_7.1 rfl)) (by omega) (by omega) (by omega) (by omega) hd0 (K h hIn hl hcf hsf)
            · cases h
          · cases h
        · unfold kJJ at h
          split at h
          · rename_i y x r
            dsimp only at h
            split at h
            · rename_i hd1
              cases hcat : cat9 r with
              | false => rw [hcat] at h; cases h
              | true =>
                rw [hcat] at h
                change (decide (5 ≤ 8 ∧ 8 ≤ 8) && lkX.any fun t => t.1 == mO9 M && (t.2.1 == z && t.2.2.1 == 8)) = true at hci
                rw [Bool.and_eq_true] at hci
                obtain ⟨t, ht, hz⟩ := List.any_eq_true.mp hci.2
                simp only [Bool.and_eq_true, beq_iff_eq] at hz
                obtain ⟨z1, z2, z3⟩ := hz
                have w1 := lkX_ok t ht
                rw [z1, z2, z3] at w1
                have hr8 : ((r.map (tv9 b0 cst)).map fun v => v.category).sum ≤ 8 := by rw [tv9_cats]; exact Nat.le_of_ble_eq_true hcat
                exact va_mmax_long hx hb (hml.trans hl.1.symm) hown (hts _ (g9p w1 rfl)) (hts _ (g9p xw9_8.2 rfl)) (hts _ (g9p xi9.1 rfl)) (hts _ (g9p xw9_8.1 rfl)) (by omega) (by omega) (by omega) (by omega) hd0 (K h hIn hl hcf hsf)
            · cases h
          · cases h
        · cases h
      | invokespecial z =>
        have hL : q.headD 0 = 3 := len_of hlen rfl (by decide)
        rw [hL] at hd0
        change (match (generalizing := false) q with
          | [_, M', na, kd, rt, nl, ci, hd] => call9 (run n) d M pc ls st μ M' na kd rt nl ci hd
          | [_, 1] => kR st fun _ r => if d ≠ 0 then (bif cat9 r then run n d M (pc + q.headD 0) ls r μ else none) else none
          | _ => none) = _ at h
        rw [hL] at h
        change (match (generalizing := false) q with
          | [_, M', na, kd, rt, nl, ci, hd] => call9Ok M z M' na rt nl ci && decide (M' < 301 ∧ kd = 1 ∧ mS9 M' = false ∧ na = np9 M' + 1 ∧ (mY9 M').name = "<init>" ∧ rt = 0 ∧ hd = 0)
          | [_, 1] => lkO.any fun t => t.1 == mO9 M && t.2.1 == z
          | _ => false) = true at hci
        split at h
        · rename_i q0 M' na kd rt nl ci hd
          rw [Bool.and_eq_true] at hci
          obtain ⟨hc1, hc2⟩ := hci
          unfold call9Ok at hc1
          simp only [Bool.and_eq_true, beq_iff_eq, decide_eq_true_eq] at hc1
          obtain ⟨hlk, hnl, hcie, hrt, hrt4, hci18, hna100⟩ := hc1
          subst hnl
          obtain ⟨hM3, hkd, hsta, hna, hnin, hrt0, hhd⟩ := of_decide_eq_true hc2
          subst hkd
        
          subst hhd
          obtain ⟨d', as, rs, rv1, μ1, hd', htk, hcat, hcs, hrecv, hrun, hrest, hrti⟩ := call9_some h
          subst hd'
          obtain ⟨hst, hlen2⟩ := tk9_st htk
          have hmo1 : mHp μ ≤ mHp μ1 ∧ mSl μ ≤ mSl μ1 := mo_run n _ _ _ _ _ _ _ hrun
          have hmo2 : mHp μ1 ≤ mHp μ' ∧ mSl μ1 ≤ mSl μ' := mo_run n _ _ _ _ _ _ _ hrest
          have hrs : ((rs.map (tv9 b0 cst)).map fun v => v.category).sum ≤ 8 := by rw [tv9_cats]; exact Nat.le_of_ble_eq_true hcat
          have kont : ∀ (H1 : Heap) (locs1 : List Loc), In9 b0 cst D cA s μ1 H1 locs1 → W p l e R s m args below meth c H1 locs1 (cells + (mHp μ1 - mHp μ)) (slots + (mSl μ1 - mSl μ)) Q (F0 m (pc + 3) lsA ((rv1.map (tv9 b0 cst)).toList ++ rs.map (tv9 b0 cst))) := fun H1 locs1 hIn1 => by
            have := K hrest hIn1 hl (cells := cells + (mHp μ1 - mHp μ)) (slots := slots + (mSl μ1 - mSl μ)) (by omega) (by omega)
            rw [List.map_append] at this
            cases rv1 <;> exact this
          have hok := okM9_all hM3
          obtain ⟨o1, o2, o3, o4, -, o6⟩ := okM9_spec hok
          obtain ⟨o7, -⟩ := o6 hsta
          have hret0 : mR9 M' = none := by
            rw [hrt0] at hrt
            revert hrt
            unfold rt9
            cases mR9 M' with
            | none => exact fun _ => rfl
            | some ty => cases ty <;> first | exact fun q => absurd q (by decide) | exact fun q => absurd (show 0 = 9 from q) (by decide)
          obtain ⟨a, as', has, hs⟩ := hrecv (by decide)
          subst has
          have ha := hIn.1.2.1.2.1 a (by rw [hs]; exact Nat.zero_le _)
          have hmet := s_met ih hM3 hrun hcs hok
          have hgood := goodC (cw9_all hM3)
          rw [show ((Value.ref a :: as').map (tv9 b0 cst)) = Value.ref (b0 + a) :: as'.map (tv9 b0 cst) from by rw [List.map_cons]; show Value.ref (rho9 b0 cst a) :: _ = _; rw [rho9_lt (Nat.lt_of_lt_of_le ha hIn.1.2.1.1)]] at hmet
          have hcb := callB_of (R := R) (own := cn9 (mO9 M)) (index := z) (bytes := mB9 M') (maxL := mL9 M') (ret := none) (ws' := G9) (rm := { frames := d', cells := mHp μ1 - mHp μ, slots := mSl μ1 - mSl μ, locals := 60 * d' }) (as'.length) hts hgood (by rw [hret0]) rfl rfl (hts _ (by rw [o2]; exact o1)) (hts _ (mLk9 hlk)) ⟨o3.1, o3.2, np9_ok (by simp at hlen2; omega) (by simp at hlen2; omega)⟩ ⟨by show d' + 1 ≤ R.frames; omega, by show 8 + (mL9 M' + 11) + 60 * d' ≤ R.locals; omega⟩
          have hr := va_runI (locs := locs) (meth := meth) (below := below) (e := e) (cells := cells) (slots := slots) (mc := mHp μ1 - mHp μ) (ms := mSl μ1 - mSl μ) (rest := rs.map (tv9 b0 cst)) (As := as'.map (tv9 b0 cst)) (b := b0 + a) (g := F0 m pc lsA (st.map (tv9 b0 cst))) ⟨hx, hb, hml, hown, hts⟩ hmet ⟨hcb, hnin, hts _ o7⟩ ⟨fun a U g mk q => by obtain ⟨q0, qW, qS, qX, qb⟩ := q; exact ⟨q0, qW, ⟨qS.1.moved (u := U) (U := U.calling g mk a) (Vm.Alike.refl U.vm), qS.2.1.same (u := U) (U := U.calling g mk a) rfl, qS.2.2.moved (u := U) (U := U.calling g mk a) (Vm.Alike.refl U.vm)⟩, qX.moved (u := U) (U := U.calling g mk a) (Vm.Alike.refl U.vm) (fun _ _ => rfl) (qX.2.same (u := U) (U := U.calling g mk a) rfl rfl), qb⟩, fun U hU hW => ⟨rfl, by rw [hU]; exact hIn.1, ⟨hK.moved hW.alike, hN.warm hW, hAO.moved hW.alike⟩, hIn.2.2.moved hW.alike (fun q hq => by rw [hU]; exact hIn.2.1.2.1 q (by omega) (by omega)) (hIn.2.2.2.warm hW (fun q hq => by rw [hU]; exact hIn.2.1.2.1 q (by omega) (by omega))), by rw [hU]; exact Nat.le_trans hb0 hIn.2.1.1⟩⟩ rfl (by rw [List.length_map]) hl.1 (by
              show st.map (tv9 b0 cst) = _
              rw [hst]
              simp only [List.map_append, List.map_reverse, List.reverse_cons, List.append_assoc, List.map_cons, List.map_nil, List.singleton_append]
              show _ ++ Value.ref (rho9 b0 cst a) :: _ = _
              rw [rho9_lt (Nat.lt_of_lt_of_le ha hIn.1.2.1.1)]) (lv_room hrs) hd0 ⟨by omega, by omega⟩
          exact s_back hr hIn hb0 kont
        · unfold kR at h
          split at h
          · rename_i a r
            dsimp only at h
            split at h
            · rename_i hd1
              cases hcat : cat9 r with
              | false => rw [hcat] at h; cases h
              | true =>
                rw [hcat] at h
                obtain ⟨t, ht, hz⟩ := List.any_eq_true.mp hci
                simp only [Bool.and_eq_true, beq_iff_eq] at hz
                obtain ⟨z1, z2⟩ := hz
                have w1 := lkO_ok t ht
                rw [z1, z2] at w1
                have hr8 : ((r.map (tv9 b0 cst)).map fun v => v.category).sum ≤ 8 := by rw [tv9_cats]; exact Nat.le_of_ble_eq_true hcat
                exact W.objInit hx hb hown (hts _ (g9p w1 rfl)) (hts _ (g9p xi9.2.2.2.2.1 rfl)) (hts _ (g9p xi9.2.2.2.2.2.1 rfl)) (g := F0 m pc lsA _) rfl (hl.1.trans hml.symm) rfl hd0 (by omega) (by show 2 * 0 + _ + 12 ≤ _; omega) (K h hIn hl hcf hsf)
            · cases h
          · cases h
        · cases h
      | _ => cases h

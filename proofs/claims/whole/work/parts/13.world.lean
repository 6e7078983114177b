/-! THE SMALL MACHINE IS THE JVM'S: the world of cells, and rows between the two -/
def fv9 (b0 : Nat) (cst : Nat → Nat) (μ : Mem) (a ci k : Nat) : Value := match tc9 ci k with
  | 1 => .long (mJ μ a k)
  | 2 => rf9 b0 cst (mP μ a k)
  | _ => .int (mI μ a k)
def aT9 (k : Nat) : FieldType := match k with
  | 1 => .int
  | 2 => .byte
  | 3 => .boolean
  | _ => .long
/-- a cell as the small machine has it -/
def CR9 (b0 : Nat) (cst : Nat → Nat) (D : va_G) (cA : Nat → ClassId) (μ : Mem) (a : Nat) (H : Heap) : Prop := match mSh μ a with
  | (0, ci) => ci < 13 ∧ t_OB (b0 + a) (D.1 ci) (N9 ci) (D.2 ci) H (fv9 b0 cst μ a ci)
  | (1, n) => H[b0 + a]? = some (arrV (cA 1) n (fun j => .int (mI μ a j)))
  | (2, n) => H[b0 + a]? = some (arrV (cA 2) n (fun j => .int (mI μ a j)))
  | (3, n) => H[b0 + a]? = some (arrV (cA 3) n (fun j => .int (mI μ a j)))
  | (4, n) => H[b0 + a]? = some (arrV (cA 4) n (fun j => .long (mJ μ a j)))
  | (5, n) => H[b0 + a]? = some (arrV (cA 5) n (fun j => rf9 b0 cst (mP μ a j)))
  | _ => True
theorem CR9.kept {b0 : Nat} {cst : Nat → Nat} {D : va_G} {cA : Nat → ClassId} {μ : Mem} {a : Nat} {H H1 : Heap} (h : CR9 b0 cst D cA μ a H) (hq : H1[b0 + a]? = H[b0 + a]?) : CR9 b0 cst D cA μ a H1 := by
  unfold CR9 at h ⊢
  split at h
  · exact ⟨h.1, h.2.kept hq⟩
  · rw [hq]; exact h
  · rw [hq]; exact h
  · rw [hq]; exact h
  · rw [hq]; exact h
  · rw [hq]; exact h
  · trivial
/-- what the tables say of the classes -/
def K9 (D : va_G) (cA : Nat → ClassId) (U : State) : Prop := (∀ ci, ci < 13 → u_Kn U (cn9 ci) (T9 ci) (N9 ci) (D.1 ci) (D.2 ci)) ∧ (∀ k, 1 ≤ k → k ≤ 4 → ArrOfT U (cA k) (aT9 k) ∧ U.vm.findClass ("[" ++ (aT9 k).toString) = some (cA k)) ∧ ArrOfT U (cA 5) (.object (cn9 9)) ∧ va_RA U (cA 5) (.object (cn9 9))
theorem K9.moved {D : va_G} {cA : Nat → ClassId} {u U : State} (hvm : u.vm.Alike U.vm) (h : K9 D cA u) : K9 D cA U :=
  ⟨fun ci hc => u_Kn_moved hvm (h.1 ci hc), fun k h1 h2 => ⟨arrOfT_moved hvm (h.2.1 k h1 h2).1, by rw [hvm.findClass]; exact (h.2.1 k h1 h2).2⟩, arrOfT_moved hvm h.2.2.1, h.2.2.2.moved hvm⟩
/-- where cells may be -/
def sh9 (μ : Mem) : Prop := mHp μ ≤ oFF ∧ (∀ a, (mSh μ a).1 ≤ 5 → a < mHp μ) ∧ ∀ a, (mSh μ a).1 = 6 → a = oFF
/-- the script, for the law's frame -/
def tx9 (j : Nat) : String := ["field person find fear hint prior gets risk coin pot lid bone hidden lost buried king finder owner digs told sold laid given plough night or and not ground found of year value deep number ", " in the ground", " had by ", " told", " sold"].getD j ""
/-- the texts of the code, and the JDK's statics that are read -/
def Tx9 (b0 : Nat) (cst : Nat → Nat) (s : State) : Prop := (∃ adV : Nat → Nat, vk_S 5 (strs9.map List.length) strs9 (fun i => cst (i + 1)) adV (fun q => b0 ≤ q) s s.heap) ∧ (∀ t ∈ lkS, vk_R (cn9 t.1) t.2.1 (tx9 t.2.2.1) (cst (t.2.2.1 + 1)) s) ∧ va_Z "java/lang/String" "COMPACT_STRINGS" "Z" (.int 1) (fun q => b0 ≤ q) s s.heap ∧ va_Zq "jdk/internal/util/Preconditions" "SIOOBE_FORMATTER" "Ljava/util/function/BiFunction;" (fun q => b0 ≤ q) s s.heap ∧ vx_Zq Bundle.tN "UNASSIGNED_STACK" Bundle.steD (fun q => b0 ≤ q) s s.heap ∧ vx_Zq Bundle.tN "SUPPRESSED_SENTINEL" Bundle.listD (fun q => b0 ≤ q) s s.heap
theorem Tx9.warm {b0 : Nat} {cst : Nat → Nat} {u U : State} (hW : u.WarmedH U.vm) (hq : ∀ q, q < b0 → U.heap[q]? = u.heap[q]?) (h : Tx9 b0 cst u) : Tx9 b0 cst U := by
  obtain ⟨⟨adV, h1⟩, h2, h3, h4, h5, h6⟩ := h
  have hk : ∀ a : Nat, a < u.heap.size → ¬ b0 ≤ a → U.heap[a]? = u.heap[a]? := fun a _ ha => hq a (by omega)
  exact ⟨⟨adV, (h1.moved hW.alike).kept hk⟩, fun t ht => (h2 t ht).warm hW, (h3.moved hW.alike).kept hk, (h4.moved hW.alike).kept hk, (vx_Zq.moved hW.alike h5).kept hk, (vx_Zq.moved hW.alike h6).kept hk⟩
theorem Tx9.same {b0 : Nat} {cst : Nat → Nat} {u U : State} (hv : U.vm = u.vm) (hh : U.heap = u.heap) (h : Tx9 b0 cst u) : Tx9 b0 cst U := by
  obtain ⟨⟨adV, h1⟩, h2, h3, h4, h5, h6⟩ := h
  have ha : u.vm.Alike U.vm := by rw [hv]; exact Vm.Alike.refl _
  refine ⟨⟨adV, ?_⟩, fun t ht => (h2 t ht).same hv, ?_, ?_, ?_, ?_⟩
  · rw [hh]; exact h1.moved ha
  · rw [hh]; exact h3.moved ha
  · rw [hh]; exact h4.moved ha
  · rw [hh]; exact vx_Zq.moved ha h5
  · rw [hh]; exact vx_Zq.moved ha h6
def sc9 (b0 : Nat) (cst : Nat → Nat) (μ : Mem) (s : State) : Prop := (∀ L, mSh μ oFF = (6, L) → va_X (cst 0) L (mI μ oFF) s s.heap ∧ cst 0 < b0) ∧ Tx9 b0 cst s
def Wd9 (b0 : Nat) (cst : Nat → Nat) (D : va_G) (cA : Nat → ClassId) (μ : Mem) (H : Heap) : Prop := H.size = b0 + mHp μ ∧ sh9 μ ∧ ∀ a, a < mHp μ → CR9 b0 cst D cA μ a H
theorem Wd9.set {b0 : Nat} {cst : Nat → Nat} {D : va_G} {cA : Nat → ClassId} {μ μ' : Mem} {a : Nat} {H H1 : Heap} (h : Wd9 b0 cst D cA μ H) (hh : mHp μ' = mHp μ) (hs : mSh μ' = mSh μ) (ho : ∀ b, b ≠ a → CR9 b0 cst D cA μ b H1 → CR9 b0 cst D cA μ' b H1) (hz : H1.size = H.size) (hq : ∀ q, q ≠ b0 + a → H1[q]? = H[q]?) (hc : CR9 b0 cst D cA μ' a H1) : Wd9 b0 cst D cA μ' H1 := by
  obtain ⟨h1, h2, h3⟩ := h
  refine ⟨by rw [hz, h1, hh], by unfold sh9; rw [hh, hs]; exact h2, fun b hb => ?_⟩
  rw [hh] at hb
  by_cases e : b = a
  · subst e; exact hc
  · exact ho b e ((h3 b hb).kept (hq _ (by omega)))
theorem CR9.obj {b0 : Nat} {cst : Nat → Nat} {D : va_G} {cA : Nat → ClassId} {μ : Mem} {a ci : Nat} {H : Heap} (h : CR9 b0 cst D cA μ a H) (hs : mSh μ a = (0, ci)) : ci < 13 ∧ t_OB (b0 + a) (D.1 ci) (N9 ci) (D.2 ci) H (fv9 b0 cst μ a ci) := by
  unfold CR9 at h; rw [hs] at h; exact h
theorem up2_ne {α : Type} {f : Nat → Nat → α} {a b k : Nat} {v : α} (h : b ≠ a) : up2 f a k v b = f b := by
  funext j; simp [up2, h]
theorem up2_at {α : Type} {f : Nat → Nat → α} {a k : Nat} {v : α} : up2 f a k v a = fun j => if j = k then v else f a j := by
  funext j; simp [up2]
theorem CR9.other {b0 : Nat} {cst : Nat → Nat} {D : va_G} {cA : Nat → ClassId} {μ μ' : Mem} {b : Nat} {H : Heap} (h : CR9 b0 cst D cA μ b H) (hs : mSh μ' = mSh μ) (hI : mI μ' b = mI μ b) (hJ : mJ μ' b = mJ μ b) (hP : mP μ' b = mP μ b) : CR9 b0 cst D cA μ' b H := by
  unfold CR9 at h ⊢
  unfold fv9 at h ⊢
  rw [hs, hI, hJ, hP]
  exact h
/-- the links to nest mates' fields -/
def NW9 (U : State) : Prop := ∀ x ∈ lkF, x.2.2.2.2.1 = true → va_Nw (wF9 x) U
theorem NW9.warm {s U : State} (hW : s.WarmedH U.vm) (h : NW9 s) : NW9 U := by
  intro x hx hn
  have := h x hx hn
  unfold wF9 at this ⊢
  rw [if_pos hn] at this ⊢
  exact this.warmF hW
theorem NW9.same {u U : State} (hv : u.vm = U.vm) (h : NW9 u) : NW9 U := by
  intro x hx hn
  have := h x hx hn
  unfold wF9 at this ⊢
  rw [if_pos hn] at this ⊢
  exact this.same rfl hv
section SND
variable {p : Program} {l : Launch} {e : Env} {R : Room} {s : State} {m : MethodId} {args : Array Value} {below : List Frame} {meth : Method} {c : Code} {H : Heap} {locs : List Loc} {cells slots : Nat} {Q : State → Prop}
variable {cc : ByteArray} {pc : Nat} {ls : Array Slot} {rest : List Value} {b0 : Nat} {cst : Nat → Nat} {D : va_G} {cA : Nat → ClassId} {μ : Mem}
theorem s_apart (hts : ∀ w ∈ G9, w.before args s = true) (hK : K9 D cA s) {ci : Nat} (hci : ci < 13) : ∀ x y, x < N9 ci → y < N9 ci → x ≠ y → (D.2 ci) x ≠ (D.2 ci) y := by
  intro x y hx hy hne
  obtain ⟨hS, -⟩ := hK.1 ci hci
  obtain ⟨_, _, _, fa, hia, ea⟩ := hS x hx
  obtain ⟨_, _, _, fb, hib, eb⟩ := hS y hy
  rw [← ea, ← eb]
  refine u_apart (u_lays hts (uinG (by omega)) hx) (u_lays hts (uinG (by omega)) hy) hia hib ?_
  rw [(State.fieldFound?_type hia (ty9_ok ci (by omega) x hx)).1, (State.fieldFound?_type hib (ty9_ok ci (by omega) y hy)).1]
  exact nm9 ci (by omega) x hx y hy hne
/-- a field is read -/
theorem s_get (hexec : p.tables.exec = Jvm.exec) (hb : c.code = cc) {M z ci k a : Nat} (hts : ∀ w ∈ G9, w.before args s = true) (hown : s.vm.findClass (cn9 (mO9 M)) = some m.cls) (hK : K9 D cA s) (hN : NW9 s) (hci : ci < 13) (hk : k < N9 ci) (hf : fOk9 M z ci k = true) {V : Nat → Value} (hO : t_OB a (D.1 ci) (N9 ci) (D.2 ci) H V) (hdg : decode cc pc = .ok (.getfield z, 3))
    (kk : W p l e R s m args below meth c H locs cells slots Q (F0 m (pc + 3) ls (V k :: rest))) : W p l e R s m args below meth c H locs cells slots Q (F0 m pc ls (.ref a :: rest)) := by
  obtain ⟨cell, q1, q2, q3, q4⟩ := hO
  obtain ⟨hS, hfc, kC, hkC, hkind⟩ := hK.1 ci hci
  obtain ⟨cf, kf, fi, f, hi, hsl⟩ := hS k hk
  obtain ⟨t, ht, hx⟩ := List.any_eq_true.mp hf
  simp only [Bool.and_eq_true, beq_iff_eq] at hx
  obtain ⟨x1, x2, x3, x4⟩ := hx
  by_cases hn : t.2.2.2.2.1 = true
  · have hw := hN t ht hn
    unfold wF9 at hw
    rw [if_pos hn, x1, x2, x3, x4] at hw
    refine va_Wgetf hexec hb hown (hw.use rfl) hi (u_facts hfc hkC (u_lays hts (uinG (by omega)) hk) hi).1 q1 (by rw [q3]; exact fun h => by cases h) (v := V k) ?_ rfl rfl hdg kk
    rw [hsl, q4 k hk]
  · have hw := hts _ (g9p (lkF_ok t ht) (by unfold wF9; rw [if_neg hn]; rfl))
    unfold wF9 at hw
    rw [if_neg hn, x1, x2, x3, x4] at hw
    refine W.getf hexec hb hown hw hi (u_facts hfc hkC (u_lays hts (uinG (by omega)) hk) hi).1 q1 (by rw [q3]; exact fun h => by cases h) (v := V k) ?_ rfl rfl hdg kk
    rw [hsl, q4 k hk]
/-- a field is written -/
theorem s_put (hexec : p.tables.exec = Jvm.exec) (hb : c.code = cc) {M z ci k a : Nat} (hts : ∀ w ∈ G9, w.before args s = true) (hown : s.vm.findClass (cn9 (mO9 M)) = some m.cls) (hK : K9 D cA s) (hN : NW9 s) (hci : ci < 13) (hk : k < N9 ci) (hf : fOk9 M z ci k = true) (hfin : (T9 ci k).2.2.2 = true → meth.name = "<init>" ∧ (T9 ci k).1 = cn9 (mO9 M) ∧ fNest9 M z = false) {V : Nat → Value} (hO : t_OB a (D.1 ci) (N9 ci) (D.2 ci) H V) {v : Value} (hn : narrow (ty9 ci k) v = v) (hfit : fits (ty9 ci k) v = true) (hdg : decode cc pc = .ok (.putfield z, 3))
    (kk : ∀ (H1 : Heap) (i : Nat), t_OB a (D.1 ci) (N9 ci) (D.2 ci) H1 (updV V k v) → H1.size = H.size → (∀ q, q ≠ a → H1[q]? = H[q]?) → W p l e R s m args below meth c H1 (locs ++ [⟨a, i⟩]) cells slots Q (F0 m (pc + 3) ls rest)) : W p l e R s m args below meth c H locs cells slots Q (F0 m pc ls (v :: .ref a :: rest)) := by
  have hap := s_apart (args := args) hts hK hci
  obtain ⟨cell, q1, q2, q3, q4⟩ := hO
  obtain ⟨hS, hfc, kC, hkC, hkind⟩ := hK.1 ci hci
  obtain ⟨cf, kf, fi, f, hi, hsl⟩ := hS k hk
  obtain ⟨t, ht, hx⟩ := List.any_eq_true.mp hf
  simp only [Bool.and_eq_true, beq_iff_eq] at hx
  obtain ⟨x1, x2, x3, x4⟩ := hx
  have hd := ty9_ok ci (by omega) k hk
  have hwN : ∀ hn : t.2.2.2.2.1 = true, (Cond.fieldLinkNest (cn9 (mO9 M)) z (T9 ci k).1 (T9 ci k).2.1 (T9 ci k).2.2.1 "HiddenOrLost").before args s = true := fun hn => by
    have hw := hN t ht hn
    unfold wF9 at hw
    rw [if_pos hn, x1, x2, x3, x4] at hw
    exact hw.use rfl
  have hwF : ∀ hn : ¬ t.2.2.2.2.1 = true, (Cond.fieldLink (cn9 (mO9 M)) z (T9 ci k).1 (T9 ci k).2.1 (T9 ci k).2.2.1).before args s = true := fun hn => by
    have hw := hts _ (g9p (lkF_ok t ht) (by unfold wF9; rw [if_neg hn]; rfl))
    unfold wF9 at hw
    rw [if_neg hn, x1, x2, x3, x4] at hw
    exact hw
  have hlay := hts _ (uinG (ci := ci) (by omega) _ (u_in_lay hk))
  unfold u_lay at hlay
  have hst := (u_facts hfc hkC (u_lays hts (uinG (by omega)) hk) hi).1
  have fin : ∀ (H' : Heap), H'[a]? = some (cell.setSlot f.slot v) → t_OB a (D.1 ci) (N9 ci) (D.2 ci) H' (updV V k v) := fun H' e1 => by
    rw [hsl] at e1
    exact ⟨_, e1, q2, q3, t_set q4 hap hk v⟩
  by_cases hF : (T9 ci k).2.2.2 = true
  · rw [if_pos hF] at hlay
    obtain ⟨hin2, hdecl, hnest⟩ := hfin hF
    have hn2 : ¬ t.2.2.2.2.1 = true := by
      intro q
      have : fNest9 M z = true := by
        unfold fNest9
        rw [List.any_eq_true]
        exact ⟨t, ht, by simp [x1, x2, q]⟩
      rw [this] at hnest; cases hnest
    have hw := hwF hn2
    have hcf : m.cls = cf := by
      obtain ⟨_, _, c', _, _, _, -, -, hf', -, -, -, hown2, -⟩ := Cond.laysFinal_spec hlay
      have e1 : c' = cf := by have := hi.symm.trans hf'; simp at this; exact this.1.symm
      rw [hdecl] at hown2
      rw [← e1]; exact Option.some.inj (hown.symm.trans hown2)
    have h6 := u_fits hfc hkC hkind (Or.inr hlay) hi hd hn hfit
    refine W.putFinK hexec hb hown hw hi hst hcf hin2 (by rw [q2]; exact h6) q1 q3 (by rw [hsl]; exact k2_hasslot (q4 k hk)) rfl rfl hdg fun H' e1 e2 e3 => ?_
    exact kk H' _ (fin H' e1) e2 e3
  · rw [if_neg hF] at hlay
    have h6 := u_store hfc hkC hkind hlay hi hd hn hfit
    by_cases hn2 : t.2.2.2.2.1 = true
    · have hw := hwN hn2
      refine va_WputK hexec hb (f := f) hown hw hi hst (by rw [q2]; exact h6) q1 q3 (by rw [hsl]; exact k2_hasslot (q4 k hk)) rfl rfl hdg fun H' e1 e2 e3 => ?_
      exact kk H' _ (fin H' e1) e2 e3
    · have hw := hwF hn2
      refine W.putK hexec hb (f := f) ⟨hown, hw, ⟨_, _, _, hi⟩, hst⟩ (by rw [q2]; exact h6) q1 q3 (by rw [hsl]; exact k2_hasslot (q4 k hk)) rfl rfl hdg fun H' e1 e2 e3 => ?_
      exact kk H' _ (fin H' e1) e2 e3
/-- an array's row is read -/
theorem s_iald (hexec : p.tables.exec = Jvm.exec) (hb : c.code = cc) {a n : Nat} {V : Nat → Int32} (hK : K9 D cA s) (hc : H[a]? = some (arrV (cA 1) n (fun j => .int (V j)))) {i : Int32} (hin : in9 i n) (hdg : decode cc pc = .ok (.iaload, 1))
    (kk : W p l e R s m args below meth c H locs cells slots Q (F0 m (pc + 1) ls (.int (V i.toNatClampNeg) :: rest))) : W p l e R s m args below meth c H locs cells slots Q (F0 m pc ls (.int i :: .ref a :: rest)) :=
  W.iald (v := .int (V i.toNatClampNeg)) hexec hb hc ((hK.2.1 1 (by omega) (by omega)).1 n _) (fun q => by cases q) (by rw [arrV_size]; exact fun q => q.elim (fun z => absurd hin.1 (Int32.not_le.mpr z)) (fun z => absurd hin.2 (Nat.not_lt.mpr z))) (arrV_read _ _ hin.2) rfl rfl hdg kk
theorem s_bald (hexec : p.tables.exec = Jvm.exec) (hb : c.code = cc) {a n : Nat} {V : Nat → Int32} (hK : K9 D cA s) (hc : H[a]? = some (arrV (cA 2) n (fun j => .int (V j)))) {i : Int32} (hin : in9 i n) (hdg : decode cc pc = .ok (.baload, 1))
    (kk : W p l e R s m args below meth c H locs cells slots Q (F0 m (pc + 1) ls (.int (V i.toNatClampNeg) :: rest))) : W p l e R s m args below meth c H locs cells slots Q (F0 m pc ls (.int i :: .ref a :: rest)) :=
  W.bald (v := .int (V i.toNatClampNeg)) hexec hb hc ((hK.2.1 2 (by omega) (by omega)).1 n _) (fun q => by cases q) (by rw [arrV_size]; exact fun q => q.elim (fun z => absurd hin.1 (Int32.not_le.mpr z)) (fun z => absurd hin.2 (Nat.not_lt.mpr z))) (arrV_read _ _ hin.2) rfl rfl hdg kk
theorem s_zald (hexec : p.tables.exec = Jvm.exec) (hb : c.code = cc) {a n : Nat} {V : Nat → Int32} (hK : K9 D cA s) (hc : H[a]? = some (arrV (cA 3) n (fun j => .int (V j)))) {i : Int32} (hin : in9 i n) (hdg : decode cc pc = .ok (.baload, 1))
    (kk : W p l e R s m args below meth c H locs cells slots Q (F0 m (pc + 1) ls (.int (V i.toNatClampNeg) :: rest))) : W p l e R s m args below meth c H locs cells slots Q (F0 m pc ls (.int i :: .ref a :: rest)) :=
  W.zald (v := .int (V i.toNatClampNeg)) hexec hb hc ((hK.2.1 3 (by omega) (by omega)).1 n _) (fun q => by cases q) (by rw [arrV_size]; exact fun q => q.elim (fun z => absurd hin.1 (Int32.not_le.mpr z)) (fun z => absurd hin.2 (Nat.not_lt.mpr z))) (arrV_read _ _ hin.2) rfl rfl hdg kk
theorem s_lald (hexec : p.tables.exec = Jvm.exec) (hb : c.code = cc) {a n : Nat} {V : Nat → Int64} (hK : K9 D cA s) (hc : H[a]? = some (arrV (cA 4) n (fun j => .long (V j)))) {i : Int32} (hin : in9 i n) (hdg : decode cc pc = .ok (.laload, 1))
    (kk : W p l e R s m args below meth c H locs cells slots Q (F0 m (pc + 1) ls (.long (V i.toNatClampNeg) :: rest))) : W p l e R s m args below meth c H locs cells slots Q (F0 m pc ls (.int i :: .ref a :: rest)) :=
  W.lald (v := .long (V i.toNatClampNeg)) hexec hb hc ((hK.2.1 4 (by omega) (by omega)).1 n _) (fun q => by cases q) (by rw [arrV_size]; exact fun q => q.elim (fun z => absurd hin.1 (Int32.not_le.mpr z)) (fun z => absurd hin.2 (Nat.not_lt.mpr z))) (arrV_read _ _ hin.2) rfl rfl hdg kk
theorem s_iast (hexec : p.tables.exec = Jvm.exec) (hb : c.code = cc) {a n : Nat} {V : Nat → Int32} (hK : K9 D cA s) (hc : H[a]? = some (arrV (cA 1) n (fun j => .int (V j)))) {i x : Int32} (hin : in9 i n) (hdg : decode cc pc = .ok (.iastore, 1))
    (kk : ∀ (H1 : Heap) (k : Nat), H1[a]? = some (arrV (cA 1) n (fun j => .int (if j = i.toNatClampNeg then x else V j))) → H1.size = H.size → (∀ q, q ≠ a → H1[q]? = H[q]?) → W p l e R s m args below meth c H1 (locs ++ [⟨a, k⟩]) cells slots Q (F0 m (pc + 1) ls rest)) : W p l e R s m args below meth c H locs cells slots Q (F0 m pc ls (.int x :: .int i :: .ref a :: rest)) := by
  refine W.iast hexec hb hc ((hK.2.1 1 (by omega) (by omega)).1 n _) (fun q => by cases q) (by rw [arrV_size]; exact fun q => q.elim (fun z => absurd hin.1 (Int32.not_le.mpr z)) (fun z => absurd hin.2 (Nat.not_lt.mpr z))) rfl rfl hdg fun H1 e z oq => ?_
  refine kk H1 _ ?_ z oq
  rw [e, arrV_store]
  congr 2
  funext q
  simp only [updV]
  split <;> rfl
theorem s_last (hexec : p.tables.exec = Jvm.exec) (hb : c.code = cc) {a n : Nat} {V : Nat → Int64} (hK : K9 D cA s) (hc : H[a]? = some (arrV (cA 4) n (fun j => .long (V j)))) {i : Int32} {x : Int64} (hin : in9 i n) (hdg : decode cc pc = .ok (.lastore, 1))
    (kk : ∀ (H1 : Heap) (k : Nat), H1[a]? = some (arrV (cA 4) n (fun j => .long (if j = i.toNatClampNeg then x else V j))) → H1.size = H.size → (∀ q, q ≠ a → H1[q]? = H[q]?) → W p l e R s m args below meth c H1 (locs ++ [⟨a, k⟩]) cells slots Q (F0 m (pc + 1) ls rest)) : W p l e R s m args below meth c H locs cells slots Q (F0 m pc ls (.long x :: .int i :: .ref a :: rest)) := by
  refine W.last hexec hb hc ((hK.2.1 4 (by omega) (by omega)).1 n _) (fun q => by cases q) (by rw [arrV_size]; exact fun q => q.elim (fun z => absurd hin.1 (Int32.not_le.mpr z)) (fun z => absurd hin.2 (Nat.not_lt.mpr z))) rfl rfl hdg fun H1 e z oq => ?_
  refine kk H1 _ ?_ z oq
  rw [e, arrV_store]
  congr 2
  funext q
  simp only [updV]
  split <;> rfl
theorem s_bast (hexec : p.tables.exec = Jvm.exec) (hb : c.code = cc) {a n : Nat} {V : Nat → Int32} (hK : K9 D cA s) (hc : H[a]? = some (arrV (cA 2) n (fun j => .int (V j)))) {i x : Int32} (hin : in9 i n) (hdg : decode cc pc = .ok (.bastore, 1))
    (kk : ∀ (H1 : Heap) (k : Nat), H1[a]? = some (arrV (cA 2) n (fun j => .int (if j = i.toNatClampNeg then vp_nar .byte x else V j))) → H1.size = H.size → (∀ q, q ≠ a → H1[q]? = H[q]?) → W p l e R s m args below meth c H1 (locs ++ [⟨a, k⟩]) cells slots Q (F0 m (pc + 1) ls rest)) : W p l e R s m args below meth c H locs cells slots Q (F0 m pc ls (.int x :: .int i :: .ref a :: rest)) := by
  refine W.bast hexec hb hc ((hK.2.1 2 (by omega) (by omega)).1 n _) (fun q => by cases q) (by rw [arrV_size]; exact fun q => q.elim (fun z => absurd hin.1 (Int32.not_le.mpr z)) (fun z => absurd hin.2 (Nat.not_lt.mpr z))) rfl rfl hdg fun H1 e z oq => ?_
  refine kk H1 _ ?_ z oq
  rw [e, arrV_store]
  congr 2
  funext q
  simp only [updV]
  split <;> rfl
theorem s_zast (hexec : p.tables.exec = Jvm.exec) (hb : c.code = cc) {a n : Nat} {V : Nat → Int32} (hK : K9 D cA s) (hc : H[a]? = some (arrV (cA 3) n (fun j => .int (V j)))) {i x : Int32} (hin : in9 i n) (hdg : decode cc pc = .ok (.bastore, 1))
    (kk : ∀ (H1 : Heap) (k : Nat), H1[a]? = some (arrV (cA 3) n (fun j => .int (if j = i.toNatClampNeg then vp_nar .boolean x else V j))) → H1.size = H.size → (∀ q, q ≠ a → H1[q]? = H[q]?) → W p l e R s m args below meth c H1 (locs ++ [⟨a, k⟩]) cells slots Q (F0 m (pc + 1) ls rest)) : W p l e R s m args below meth c H locs cells slots Q (F0 m pc ls (.int x :: .int i :: .ref a :: rest)) := by
  refine W.zast hexec hb hc ((hK.2.1 3 (by omega) (by omega)).1 n _) (fun q => by cases q) (by rw [arrV_size]; exact fun q => q.elim (fun z => absurd hin.1 (Int32.not_le.mpr z)) (fun z => absurd hin.2 (Nat.not_lt.mpr z))) rfl rfl hdg fun H1 e z oq => ?_
  refine kk H1 _ ?_ z oq
  rw [e, arrV_store]
  congr 2
  funext q
  simp only [updV]
  split <;> rfl
end SND

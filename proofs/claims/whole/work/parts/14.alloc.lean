/-! rows that make cells, copy rows, and rows of references -/
section SND2
variable {p : Program} {l : Launch} {e : Env} {R : Room} {s : State} {m : MethodId} {args : Array Value} {below : List Frame} {meth : Method} {c : Code} {H : Heap} {locs : List Loc} {cells slots : Nat} {Q : State → Prop}
variable {cc : ByteArray} {pc : Nat} {ls : Array Slot} {rest : List Value} {b0 : Nat} {cst : Nat → Nat} {D : va_G} {cA : Nat → ClassId} {μ : Mem}
theorem s_aald (hexec : p.tables.exec = Jvm.exec) (hb : c.code = cc) {a n : Nat} {V : Nat → Value} (hK : K9 D cA s) (hc : H[a]? = some (arrV (cA 5) n V)) {i : Int32} (hin : in9 i n) (hdg : decode cc pc = .ok (.aaload, 1))
    (kk : W p l e R s m args below meth c H locs cells slots Q (F0 m (pc + 1) ls (V i.toNatClampNeg :: rest))) : W p l e R s m args below meth c H locs cells slots Q (F0 m pc ls (.int i :: .ref a :: rest)) :=
  W.aald (v := V i.toNatClampNeg) (ty := .object (cn9 9)) hexec hb hc (hK.2.2.1 n _) rfl (fun q => by cases q) (by rw [arrV_size]; exact fun q => q.elim (fun z => absurd hin.1 (Int32.not_le.mpr z)) (fun z => absurd hin.2 (Nat.not_lt.mpr z))) (arrV_read _ _ hin.2) rfl rfl hdg kk
theorem s_aast (hexec : p.tables.exec = Jvm.exec) (hb : c.code = cc) {a n x : Nat} {V V2 : Nat → Value} (hK : K9 D cA s) (hc : H[a]? = some (arrV (cA 5) n V)) (hO : t_OB x (D.1 9) (N9 9) (D.2 9) H V2) {i : Int32} (hin : in9 i n) (hdg : decode cc pc = .ok (.aastore, 1))
    (kk : ∀ (H1 : Heap) (k : Nat), H1[a]? = some (arrV (cA 5) n (fun j => if j = i.toNatClampNeg then .ref x else V j)) → H1.size = H.size → (∀ q, q ≠ a → H1[q]? = H[q]?) → W p l e R s m args below meth c H1 (locs ++ [⟨a, k⟩]) cells slots Q (F0 m (pc + 1) ls rest)) : W p l e R s m args below meth c H locs cells slots Q (F0 m pc ls (.ref x :: .int i :: .ref a :: rest)) := by
  obtain ⟨cellV, g1, g2, g3, -⟩ := hO
  have hcls := (hK.1 9 (by omega)).2
  obtain ⟨kA, comp, k1, k2, k3, -⟩ := hK.2.2.2
  have hcomp : comp = D.1 9 := Option.some.inj (k3.symm.trans hcls.1)
  subst hcomp
  obtain ⟨kC, hkC, -⟩ := hcls.2
  refine W.aast hexec hb hc (fun q h => by cases h) (fun h => by cases h) k1 k2 rfl hkC ⟨Int32.not_lt.mpr hin.1, by rw [arrV_size]; exact hin.2⟩ g1 (fun q h => by rw [g3] at h; cases h) (by rw [g2]; exact hkC) (by rw [g2]; exact va_assign hcls) rfl rfl hdg fun H1 e z oq => ?_
  refine kk H1 _ ?_ z oq
  rw [e, arrV_store]
  rfl
theorem s_newc (hexec : p.tables.exec = Jvm.exec) (hb : c.code = cc) {M z ci : Nat} (hts : ∀ w ∈ G9, w.before args s = true) (hown : s.vm.findClass (cn9 (mO9 M)) = some m.cls) (hK : K9 D cA s) (hci : ci < 13) (hn : (lkN.any fun t => t.1 == mO9 M && (t.2.1 == z && t.2.2.1 == ci)) = true) (hcells : cells + 1 ≤ R.cells) (hslots : slots + N9 ci ≤ R.slots) (hdg : decode cc pc = .ok (.new z, 3))
    (kk : ∀ (H1 : Heap), t_OB H.size (D.1 ci) (N9 ci) (D.2 ci) H1 (fun k => defaultValue (ty9 ci k)) → H1.size = H.size + 1 → (∀ q, q < H.size → H1[q]? = H[q]?) → W p l e R s m args below meth c H1 locs (cells + 1) (slots + N9 ci) Q (F0 m (pc + 3) ls (.ref H.size :: rest))) : W p l e R s m args below meth c H locs cells slots Q (F0 m pc ls rest) := by
  have hKn := hK.1 ci hci
  obtain ⟨t, ht, hx⟩ := List.any_eq_true.mp hn
  simp only [Bool.and_eq_true, beq_iff_eq] at hx
  obtain ⟨x1, x2, x3⟩ := hx
  obtain ⟨w1, w2, w3⟩ := lkN_ok t ht
  rw [x1, x2, x3] at w1
  rw [x3] at w2 w3
  refine W.newcK hexec hb hown (hts _ (g9p w1 rfl)) (hts _ (g9p w2 rfl)) (hts _ (g9p w3 rfl)) rfl hdg hcells hslots hKn.2.1 rfl fun H1 kC hkC e1 z1 o1 => ?_
  exact kk H1 (u_born (ty9 ci) hts (uinG (by omega)) hKn hkC e1 (ty9_ok ci (by omega))) z1 o1
theorem s_newa (hexec : p.tables.exec = Jvm.exec) (hb : c.code = cc) {ty : ArrayType} {k : Nat} (hts : ∀ w ∈ G9, w.before args s = true) (hK : K9 D cA s) (hk : 1 ≤ k ∧ k ≤ 4) (hty : newarray.typeOf ty = aT9 k) {n : Int32} (hn : 0 ≤ n) (hN : n.toNatClampNeg ≤ 60000000) (hcells : cells + 1 ≤ R.cells) (hslots : slots + n.toNatClampNeg ≤ R.slots) (hdg : decode cc pc = .ok (.newarray ty, 2))
    (kk : ∀ (H1 : Heap), H1[H.size]? = some (arrV (cA k) n.toNatClampNeg (fun _ => defaultValue (aT9 k))) → H1.size = H.size + 1 → (∀ q, q < H.size → H1[q]? = H[q]?) → W p l e R s m args below meth c H1 locs (cells + 1) (slots + n.toNatClampNeg) Q (F0 m (pc + 2) ls (.ref H.size :: rest))) : W p l e R s m args below meth c H locs cells slots Q (F0 m pc ls (.int n :: rest)) := by
  have hw : (Cond.arrayClass (newarray.typeOf ty)).before args s = true := by
    rw [hty]
    obtain ⟨h1, h2⟩ := hk
    obtain ⟨a1, a2, a3, a4⟩ := xa9
    match k, h1, h2 with
    | 1, _, _ => first | exact hts _ (g9p a1 rfl) | exact hts _ (g9p a2 rfl) | exact hts _ (g9p a3 rfl) | exact hts _ (g9p a4 rfl)
    | 2, _, _ => first | exact hts _ (g9p a1 rfl) | exact hts _ (g9p a2 rfl) | exact hts _ (g9p a3 rfl) | exact hts _ (g9p a4 rfl)
    | 3, _, _ => first | exact hts _ (g9p a1 rfl) | exact hts _ (g9p a2 rfl) | exact hts _ (g9p a3 rfl) | exact hts _ (g9p a4 rfl)
    | 4, _, _ => first | exact hts _ (g9p a1 rfl) | exact hts _ (g9p a2 rfl) | exact hts _ (g9p a3 rfl) | exact hts _ (g9p a4 rfl)
  refine va_newaK hexec hb hw rfl hdg rfl (Int32.not_lt.mpr hn) rfl ?_ hcells hslots rfl fun H1 cA' e1 z1 o1 hAr hNm => ?_
  · rw [hty]
    have : componentBytes (aT9 k) ≤ 8 := by
      obtain ⟨h1, h2⟩ := hk
      match k, h1, h2 with
      | 1, _, _ => decide
      | 2, _, _ => decide
      | 3, _, _ => decide
      | 4, _, _ => decide
    calc n.toNatClampNeg * componentBytes (aT9 k) ≤ 60000000 * 8 := Nat.mul_le_mul hN this
      _ ≤ 536870912 := by decide
  · rw [hty] at e1 hNm
    have hc : cA' = cA k := Option.some.inj (hNm.symm.trans (hK.2.1 k hk.1 hk.2).2)
    subst hc
    exact kk H1 e1 z1 o1
theorem s_anew (hexec : p.tables.exec = Jvm.exec) (hb : c.code = cc) {M z : Nat} (hts : ∀ w ∈ G9, w.before args s = true) (hover : va_AO (cn9 9) s) (hown : s.vm.findClass (cn9 (mO9 M)) = some m.cls) (hK : K9 D cA s) (hq : (lkQ.any fun t => t.1 == mO9 M && t.2.1 == z) = true) {n : Int32} (hn : 0 ≤ n) (hN : n.toNatClampNeg ≤ 60000000) (hcells : cells + 1 ≤ R.cells) (hslots : slots + n.toNatClampNeg ≤ R.slots) (hdg : decode cc pc = .ok (.anewarray z, 3))
    (kk : ∀ (H1 : Heap), H1[H.size]? = some (arrV (cA 5) n.toNatClampNeg (fun _ => .null)) → H1.size = H.size + 1 → (∀ q, q < H.size → H1[q]? = H[q]?) → W p l e R s m args below meth c H1 locs (cells + 1) (slots + n.toNatClampNeg) Q (F0 m (pc + 3) ls (.ref H.size :: rest))) : W p l e R s m args below meth c H locs cells slots Q (F0 m pc ls (.int n :: rest)) := by
  obtain ⟨t, ht, hx⟩ := List.any_eq_true.mp hq
  simp only [Bool.and_eq_true, beq_iff_eq] at hx
  obtain ⟨x1, x2⟩ := hx
  have w1 := lkQ_ok t ht
  rw [x1, x2] at w1
  refine W.anew hexec hb hown (hts _ (g9p w1 rfl)) (va_AO.use hover) rfl hdg rfl (Int32.not_lt.mpr hn) (by omega) hcells hslots fun cA' kA comp f1 f2 f3 f4 => ?_
  obtain ⟨-, -, -, -, -, f1'⟩ := hK.2.2.2
  have hc : cA' = cA 5 := Option.some.inj (f1.symm.trans f1')
  subst hc
  refine kk _ ?_ (by simp) (fun q hq => by rw [Array.getElem?_push, if_neg (Nat.ne_of_lt hq)])
  rw [← arrV_new]; simp
theorem s_copy {α : Type} (mk : α → Value) (htk : ∀ (U : State) (cm : ClassId) (x : α), U.takes cm (mk x)) {k : Nat} (hk : 1 ≤ k ∧ k ≤ 4) (hfit : ∀ x, fits (aT9 k) (mk x) = true) (hexec : p.tables.exec = Jvm.exec) (hb : c.code = cc) (hml : c.maxLocals = ls.size) {M z : Nat} (hts : ∀ w ∈ G9, w.before args s = true) (hown : s.vm.findClass (cn9 (mO9 M)) = some m.cls) (hl : (lkA.any fun t => t.1 == mO9 M && t.2.1 == z) = true) (hK : K9 D cA s) {a b na nb : Nat} {f g : Nat → α} (ha : H[a]? = some (arrV (cA k) na (fun j => mk (f j)))) (hbb : H[b]? = some (arrV (cA k) nb (fun j => mk (g j))))
    {sp dp n : Int32} (h1 : 0 ≤ sp) (h2 : 0 ≤ dp) (h3 : 0 ≤ n) (h4 : sp.toNatClampNeg + n.toNatClampNeg ≤ na) (h5 : dp.toNatClampNeg + n.toNatClampNeg ≤ nb) (hframes : 1 ≤ R.frames) (hlocals : (rest.map fun v => v.category).sum + (nativeFrameWords "java/lang/System" "arraycopy" 5 + 11) ≤ R.locals) (hdg : decode cc pc = .ok (.invokestatic z, 3))
    (kk : ∀ (H1 : Heap) (L : List Loc), (∀ q ∈ L, q.base = b) → H1[b]? = some (arrV (cA k) nb (fun j => mk (va_cpy f g sp.toNatClampNeg dp.toNatClampNeg n.toNatClampNeg j))) → H1.size = H.size → (∀ q, q ≠ b → H1[q]? = H[q]?) → W p l e R s m args below meth c H1 (locs ++ L) cells slots Q (F0 m (pc + 3) ls rest)) : W p l e R s m args below meth c H locs cells slots Q (F0 m pc ls (.int n :: .int dp :: .ref b :: .int sp :: .ref a :: rest)) := by
  have nn : ∀ z : Int32, 0 ≤ z → z.toInt = (z.toNatClampNeg : Int) := by
    intro z hz
    have hz0 : (0 : Int) ≤ z.toInt := by simpa using Int32.le_iff_toInt_le.mp hz
    show z.toInt = ((z.toInt.toNat : Nat) : Int)
    omega
  obtain ⟨t, ht, hx⟩ := List.any_eq_true.mp hl
  simp only [Bool.and_eq_true, beq_iff_eq] at hx
  obtain ⟨x1, x2⟩ := hx
  have w1 := lkA_ok t ht
  rw [x1, x2] at w1
  obtain ⟨-, i2, i3, i4, -, -, -⟩ := xi9
  intro T hT X
  obtain ⟨-, k0, hk0, cm0, hkk0⟩ := (hK.2.1 k hk.1 hk.2).1 na (fun j => mk (f j))
  have hprim : refKind (aT9 k) = false := by
    obtain ⟨h1, h2⟩ := hk
    match k, h1, h2 with
    | 1, _, _ => decide
    | 2, _, _ => decide
    | 3, _, _ => decide
    | 4, _, _ => decide
  obtain ⟨vm', X', step⟩ := X.arraycopy hexec hown (hts _ (g9p w1 rfl)) (hts _ (g9p i3 rfl)) (hts _ (g9p i4 rfl)) (hts _ (g9p i2 rfl)) (src := a) (dst := b) (cs := arrV (cA k) na (fun j => mk (f j))) (cd := arrV (cA k) nb (fun j => mk (g j))) (srcPos := sp) (destPos := dp) (n := n) (by rw [hT]; exact ha) (by rw [hT]; exact hbb)
    (fun _ h => by cases h) (fun _ h => by cases h) (fun h => by cases h) (fun h => by cases h) hk0 hk0 hkk0 hkk0 (by simp [hprim]) (Int32.not_lt.mpr h1) (Int32.not_lt.mpr h2) (Int32.not_lt.mpr h3)
    (by rw [nn sp h1, nn n h3, arrV_size]; omega)
    (by rw [nn dp h2, nn n h3, arrV_size]; omega)
    (fun vm₁ _ i hi => by
      have e : (arrV (cA k) na (fun j => mk (f j))).slots.getD (sp.toNatClampNeg + i) .null = mk (f (sp.toNatClampNeg + i)) := by
        rw [Array.getD_eq_getD_getElem?, arrV_read _ _ (by omega)]
        rfl
      refine ⟨?_, ?_⟩
      · rw [e]
        exact hfit _
      · rw [e]
        exact htk _ _ _)
    (g := F0 m pc ls (.int n :: .int dp :: .ref b :: .int sp :: .ref a :: rest)) rfl (by rw [hml]) (rest := rest) rfl (by rw [hb]; exact hdg) hframes (by show 2 * 0 + _ + _ ≤ _; omega)
  have e1 : copied (arrV (cA k) na (fun j => mk (f j))) (arrV (cA k) nb (fun j => mk (g j))) sp dp n = arrV (cA k) nb (fun j => mk (va_cpy f g sp.toNatClampNeg dp.toNatClampNeg n.toNatClampNeg j)) := va_copied mk (cA k) (cA k) f g h4
  rw [e1] at X' step
  have hlb : b < H.size := (Array.getElem?_eq_some_iff.mp hbb).1
  have hheap : ((T.setVm vm').setCell b (arrV (cA k) nb (fun j => mk (va_cpy f g sp.toNatClampNeg dp.toNatClampNeg n.toNatClampNeg j)))).heap = H.setIfInBounds b (arrV (cA k) nb (fun j => mk (va_cpy f g sp.toNatClampNeg dp.toNatClampNeg n.toNatClampNeg j))) := by rw [← hT]; rfl
  obtain ⟨t2, a1, b1⟩ := kk _ _ (fun q hq => by obtain ⟨z, -, hz⟩ := List.mem_map.mp hq; rw [← hz]) (by simp [Array.getElem?_setIfInBounds, hlb]) (by simp) (fun q hq => by simp [Array.getElem?_setIfInBounds, Ne.symm hq]) _ hheap X'
  exact ⟨t2, step t2 a1, b1⟩
end SND2

/-! the JDK's own methods of String, by contract -/
def yj_cki : MethodName := ⟨"jdk/internal/util/Preconditions", "checkIndex", "(IILjava/util/function/BiFunction;)I"⟩
theorem wj_cki : Cond.code yj_cki prog_31_method_11_code 3 (some .int) ∈ lw_tbl := List.mem_of_getElem? (i := 188) (by decide +kernel)
theorem dj_cki_0 : decode prog_31_method_11_code 0 = .ok (.iload_n 0, 1) := by decide +kernel
theorem dj_cki_1 : decode prog_31_method_11_code 1 = .ok (.ifCond .lt 8, 3) := by decide +kernel
theorem dj_cki_4 : decode prog_31_method_11_code 4 = .ok (.iload_n 0, 1) := by decide +kernel
theorem dj_cki_5 : decode prog_31_method_11_code 5 = .ok (.iload_n 1, 1) := by decide +kernel
theorem dj_cki_6 : decode prog_31_method_11_code 6 = .ok (.if_icmp .lt 10, 3) := by decide +kernel
theorem dj_cki_16 : decode prog_31_method_11_code 16 = .ok (.iload_n 0, 1) := by decide +kernel
theorem dj_cki_17 : decode prog_31_method_11_code 17 = .ok (.ireturn, 1) := by decide +kernel
def yj_sci : MethodName := ⟨"java/lang/String", "checkIndex", "(II)V"⟩
theorem wj_sci : Cond.code yj_sci prog_22_method_155_code 2 none ∈ lw_tbl := List.mem_of_getElem? (i := 183) (by decide +kernel)
theorem dj_sci_0 : decode prog_22_method_155_code 0 = .ok (.iload_n 0, 1) := by decide +kernel
theorem dj_sci_1 : decode prog_22_method_155_code 1 = .ok (.iload_n 1, 1) := by decide +kernel
theorem dj_sci_2 : decode prog_22_method_155_code 2 = .ok (.getstatic 1053, 3) := by decide +kernel
theorem dj_sci_5 : decode prog_22_method_155_code 5 = .ok (.invokestatic 1059, 3) := by decide +kernel
theorem dj_sci_8 : decode prog_22_method_155_code 8 = .ok (.pop, 1) := by decide +kernel
theorem dj_sci_9 : decode prog_22_method_155_code 9 = .ok (.return_, 1) := by decide +kernel
def yj_lca : MethodName := ⟨"java/lang/StringLatin1", "charAt", "([BI)C"⟩
theorem wj_lca : Cond.code yj_lca prog_23_method_2_code 2 (some .char) ∈ lw_tbl := List.mem_of_getElem? (i := 180) (by decide +kernel)
theorem dj_lca_0 : decode prog_23_method_2_code 0 = .ok (.iload_n 1, 1) := by decide +kernel
theorem dj_lca_1 : decode prog_23_method_2_code 1 = .ok (.aload_n 0, 1) := by decide +kernel
theorem dj_lca_2 : decode prog_23_method_2_code 2 = .ok (.arraylength, 1) := by decide +kernel
theorem dj_lca_3 : decode prog_23_method_2_code 3 = .ok (.invokestatic 9, 3) := by decide +kernel
theorem dj_lca_6 : decode prog_23_method_2_code 6 = .ok (.aload_n 0, 1) := by decide +kernel
theorem dj_lca_7 : decode prog_23_method_2_code 7 = .ok (.iload_n 1, 1) := by decide +kernel
theorem dj_lca_8 : decode prog_23_method_2_code 8 = .ok (.baload, 1) := by decide +kernel
theorem dj_lca_9 : decode prog_23_method_2_code 9 = .ok (.sipush 255, 3) := by decide +kernel
theorem dj_lca_12 : decode prog_23_method_2_code 12 = .ok (.iand, 1) := by decide +kernel
theorem dj_lca_13 : decode prog_23_method_2_code 13 = .ok (.i2c, 1) := by decide +kernel
theorem dj_lca_14 : decode prog_23_method_2_code 14 = .ok (.ireturn, 1) := by decide +kernel
def yj_isl : MethodName := ⟨"java/lang/String", "isLatin1", "()Z"⟩
theorem wj_isl : Cond.code yj_isl prog_22_method_154_code 1 (some .boolean) ∈ lw_tbl := List.mem_of_getElem? (i := 177) (by decide +kernel)
theorem dj_isl_0 : decode prog_22_method_154_code 0 = .ok (.getstatic 38, 3) := by decide +kernel
theorem dj_isl_3 : decode prog_22_method_154_code 3 = .ok (.ifCond .eq 14, 3) := by decide +kernel
theorem dj_isl_6 : decode prog_22_method_154_code 6 = .ok (.aload_n 0, 1) := by decide +kernel
theorem dj_isl_7 : decode prog_22_method_154_code 7 = .ok (.getfield 15, 3) := by decide +kernel
theorem dj_isl_10 : decode prog_22_method_154_code 10 = .ok (.ifCond .ne 7, 3) := by decide +kernel
theorem dj_isl_13 : decode prog_22_method_154_code 13 = .ok (.iconst 1, 1) := by decide +kernel
theorem dj_isl_14 : decode prog_22_method_154_code 14 = .ok (.goto 4, 3) := by decide +kernel
theorem dj_isl_18 : decode prog_22_method_154_code 18 = .ok (.ireturn, 1) := by decide +kernel
def yj_cod : MethodName := ⟨"java/lang/String", "coder", "()B"⟩
theorem wj_cod : Cond.code yj_cod prog_22_method_152_code 1 (some .byte) ∈ lw_tbl := List.mem_of_getElem? (i := 167) (by decide +kernel)
theorem dj_cod_0 : decode prog_22_method_152_code 0 = .ok (.getstatic 38, 3) := by decide +kernel
theorem dj_cod_3 : decode prog_22_method_152_code 3 = .ok (.ifCond .eq 10, 3) := by decide +kernel
theorem dj_cod_6 : decode prog_22_method_152_code 6 = .ok (.aload_n 0, 1) := by decide +kernel
theorem dj_cod_7 : decode prog_22_method_152_code 7 = .ok (.getfield 15, 3) := by decide +kernel
theorem dj_cod_10 : decode prog_22_method_152_code 10 = .ok (.goto 4, 3) := by decide +kernel
theorem dj_cod_14 : decode prog_22_method_152_code 14 = .ok (.ireturn, 1) := by decide +kernel
def yj_slen : MethodName := ⟨"java/lang/String", "length", "()I"⟩
theorem wj_slen : Cond.code yj_slen prog_22_method_54_code 1 (some .int) ∈ lw_tbl := List.mem_of_getElem? (i := 163) (by decide +kernel)
theorem dj_slen_0 : decode prog_22_method_54_code 0 = .ok (.aload_n 0, 1) := by decide +kernel
theorem dj_slen_1 : decode prog_22_method_54_code 1 = .ok (.getfield 9, 3) := by decide +kernel
theorem dj_slen_4 : decode prog_22_method_54_code 4 = .ok (.arraylength, 1) := by decide +kernel
theorem dj_slen_5 : decode prog_22_method_54_code 5 = .ok (.aload_n 0, 1) := by decide +kernel
theorem dj_slen_6 : decode prog_22_method_54_code 6 = .ok (.invokevirtual 335, 3) := by decide +kernel
theorem dj_slen_9 : decode prog_22_method_54_code 9 = .ok (.ishr, 1) := by decide +kernel
theorem dj_slen_10 : decode prog_22_method_54_code 10 = .ok (.ireturn, 1) := by decide +kernel
def yj_cha : MethodName := ⟨"java/lang/String", "charAt", "(I)C"⟩
theorem wj_cha : Cond.code yj_cha prog_22_method_56_code 2 (some .char) ∈ lw_tbl := List.mem_of_getElem? (i := 173) (by decide +kernel)
theorem dj_cha_0 : decode prog_22_method_56_code 0 = .ok (.aload_n 0, 1) := by decide +kernel
theorem dj_cha_1 : decode prog_22_method_56_code 1 = .ok (.invokevirtual 492, 3) := by decide +kernel
theorem dj_cha_4 : decode prog_22_method_56_code 4 = .ok (.ifCond .eq 12, 3) := by decide +kernel
theorem dj_cha_7 : decode prog_22_method_56_code 7 = .ok (.aload_n 0, 1) := by decide +kernel
theorem dj_cha_8 : decode prog_22_method_56_code 8 = .ok (.getfield 9, 3) := by decide +kernel
theorem dj_cha_11 : decode prog_22_method_56_code 11 = .ok (.iload_n 1, 1) := by decide +kernel
theorem dj_cha_12 : decode prog_22_method_56_code 12 = .ok (.invokestatic 495, 3) := by decide +kernel
theorem dj_cha_15 : decode prog_22_method_56_code 15 = .ok (.ireturn, 1) := by decide +kernel
theorem goodJ {y : MethodName} {cc : ByteArray} {mL : Nat} {ret : Option FieldType} (h : Cond.code y cc mL ret ∈ lw_tbl) : GoodIn G9 (Cond.code y cc mL ret :: G9) := by
  intro w hw
  rcases List.mem_cons.mp hw with rfl | hw
  · exact ⟨g9 h rfl, Or.inl rfl⟩
  · exact ⟨hw, good_of_word (List.mem_filter.mp hw).2⟩
/-- a JDK method's contract: with these arguments, where the texts stand and X holds, it answers o and leaves the heap as it was -/
def JM (l : Launch) (b0 : Nat) (cst : Nat → Nat) (X : State → Prop) (y : MethodName) (cc : ByteArray) (mL : Nat) (ret : Option FieldType) (d : Nat) (as : List Value) (o : Option Value) : Prop := Met l y (Cond.code y cc mL ret :: G9) { frames := d, cells := 0, slots := 0, locals := 60 * d } (va_Pc as (fun U => Tx9 b0 cst U ∧ b0 ≤ U.heap.size ∧ X U)) (fun _ st o' t => o' = .returned o ∧ t.heap = st.heap) 0 0 (fun _ => False)
def BlX (X : State → Prop) : Prop := ∀ (a : Array Value) (U : State) (g : JFrame) (mk : MethodId), X U → X (U.calling g mk a)
theorem blT : BlX (fun _ => True) := fun _ _ _ _ _ => trivial
section JDK9
variable {p : Program} {l : Launch} {e : Env} {R : Room} {s : State} {m : MethodId} {args : Array Value} {below : List Frame} {meth : Method} {c : Code} {H : Heap} {locs : List Loc} {cells slots : Nat} {Q : State → Prop}
variable {cc bytes : ByteArray} {pc nL mL d n index : Nat} {ls : Array Slot} {st0 rest As : List Value} {b0 : Nat} {cst : Nat → Nat} {o : Option Value} {X : State → Prop} {y : MethodName} {ret : Option FieldType} {own C : String} {b : Nat}
theorem j_back (hr : va_Run p l e R s m args below meth c H locs cells slots 0 0 (F0 m pc ls st0) rest (fun st o' t => o' = .returned o ∧ t.heap = st.heap) (fun _ => False)) (kk : W p l e R s m args below meth c H locs cells slots Q (F0 m (pc + 3) ls (o.toList ++ rest))) : W p l e R s m args below meth c H locs cells slots Q (F0 m pc ls st0) := by
  intro T hT X
  obtain ⟨v, st₀, t, T', L, h0, X', hL, e1, e2, ⟨hv, hh⟩, st⟩ := hr T hT X
  cases hv
  have hL0 : L = [] := by
    cases L with
    | nil => rfl
    | cons a L => exact (hL a List.mem_cons_self).elim
  subst hL0
  rw [List.append_nil] at X'
  obtain ⟨t2, a1, b1⟩ := kk T' (by rw [e1, hh, h0]) X'
  exact ⟨t2, st t2 a1, b1⟩
theorem j_S (hx : p.tables.exec = Jvm.exec) (hb : c.code = cc) (hml : c.maxLocals = nL) (hsz : ls.size = nL) (hown : s.vm.findClass own = some m.cls) (hts : ∀ w ∈ G9, w.before args s = true) (hT : Tx9 b0 cst s) (hb0 : b0 ≤ s.heap.size) (hS : va_S (fun q => b0 ≤ q) s.heap H locs) (hH : b0 ≤ H.size)
    (hM : JM l b0 cst X y bytes mL ret d As o) (hbl : BlX X) (hX : ∀ U : State, U.heap = H → s.WarmedH U.vm → X U) (h1 : Cond.code y bytes mL ret ∈ lw_tbl) (h2 : Cond.initialized y.cls ∈ G9) (h3 : Cond.methodLink own index y ∈ G9) (h4 : Cond.static y ∈ G9)
    (hd : y.cls ≠ "java/lang/invoke/MethodHandle" ∧ y.cls ≠ "java/lang/invoke/VarHandle" ∧ (parseMethodDescriptor y.desc).map (fun d => d.parameters.length) = some n) (hn : As.length = n) (hfr : d + 1 ≤ R.frames) (hlo : 8 + (mL + 11) + 60 * d ≤ R.locals) (hce : cells ≤ R.cells) (hsl : slots ≤ R.slots) (hrest : (rest.map fun v => v.category).sum ≤ 8) (hst : st0 = As.reverse ++ rest) (hdg : decode cc pc = .ok (.invokestatic index, 3))
    (kk : W p l e R s m args below meth c H locs cells slots Q (F0 m (pc + 3) ls (o.toList ++ rest))) : W p l e R s m args below meth c H locs cells slots Q (F0 m pc ls st0) := by
  subst hst
  have hcb := callB_of (R := R) (own := own) (index := index) (rm := { frames := d, cells := 0, slots := 0, locals := 60 * d }) n hts (goodJ h1) rfl rfl rfl (hts _ h2) (hts _ h3) hd ⟨hfr, hlo⟩
  have hr := va_runS (locs := locs) (meth := meth) (below := below) (e := e) (cells := cells) (slots := slots) (mc := 0) (ms := 0) (rest := rest) (As := As) (g := F0 m pc ls (As.reverse ++ rest)) ⟨hx, hb, hml, hown, hts⟩ hM ⟨hcb, hts _ h4⟩ ⟨fun a U g mk q => by obtain ⟨q0, qT, qb, qX⟩ := q; exact ⟨q0, qT.same (u := U) (U := U.calling g mk a) rfl rfl, qb, hbl _ _ _ _ qX⟩, fun U hU hW => ⟨rfl, hT.warm hW (fun q hq => by rw [hU]; exact hS.2.1 q (by omega) (by omega)), by rw [hU]; exact hH, hX U hU hW⟩⟩ rfl hn hsz rfl (lv_room hrest) hdg ⟨hce, hsl⟩
  exact j_back hr kk
theorem j_V (hx : p.tables.exec = Jvm.exec) (hb : c.code = cc) (hml : c.maxLocals = nL) (hsz : ls.size = nL) (hown : s.vm.findClass own = some m.cls) (hts : ∀ w ∈ G9, w.before args s = true) (hT : Tx9 b0 cst s) (hb0 : b0 ≤ s.heap.size) (hS : va_S (fun q => b0 ≤ q) s.heap H locs) (hH : b0 ≤ H.size)
    (hM : JM l b0 cst X y bytes mL ret d (.ref b :: As) o) (hbl : BlX X) (hX : ∀ U : State, U.heap = H → s.WarmedH U.vm → X U) (h1 : Cond.code y bytes mL ret ∈ lw_tbl) (h2 : Cond.initialized y.cls ∈ G9) (h3 : Cond.methodLink own index y ∈ G9) (h4 : Cond.instanceMethod y ∈ G9 ∧ Cond.selects C y y ∈ G9)
    (hO : va_O C b (fun q => b0 ≤ q) s s.heap)
    (hd : y.cls ≠ "java/lang/invoke/MethodHandle" ∧ y.cls ≠ "java/lang/invoke/VarHandle" ∧ (parseMethodDescriptor y.desc).map (fun d => d.parameters.length) = some n) (hn : As.length = n) (hfr : d + 1 ≤ R.frames) (hlo : 8 + (mL + 11) + 60 * d ≤ R.locals) (hce : cells ≤ R.cells) (hsl : slots ≤ R.slots) (hrest : (rest.map fun v => v.category).sum ≤ 8) (hst : st0 = As.reverse ++ .ref b :: rest) (hdg : decode cc pc = .ok (.invokevirtual index, 3))
    (kk : W p l e R s m args below meth c H locs cells slots Q (F0 m (pc + 3) ls (o.toList ++ rest))) : W p l e R s m args below meth c H locs cells slots Q (F0 m pc ls st0) := by
  subst hst
  have hB : ∃ cellB : Cell, H[b]? = some cellB ∧ cellB.vm.isStatics = false ∧ s.vm.findClass C = some cellB.cls := by
    obtain ⟨cell, q1, q2, q3, -⟩ := hO.kept hS.2.1
    exact ⟨cell, q1, q2, q3⟩
  have hcb := callB_of (R := R) (own := own) (index := index) (rm := { frames := d, cells := 0, slots := 0, locals := 60 * d }) n hts (goodJ h1) rfl rfl rfl (hts _ h2) (hts _ h3) hd ⟨hfr, hlo⟩
  have hr := va_runV (locs := locs) (meth := meth) (below := below) (e := e) (cells := cells) (slots := slots) (mc := 0) (ms := 0) (rest := rest) (C := C) (As := As) (b := b) (g := F0 m pc ls (As.reverse ++ .ref b :: rest)) ⟨hx, hb, hml, hown, hts⟩ hM ⟨hcb, hts _ h4.1, hts _ h4.2⟩ ⟨fun a U g mk q => by obtain ⟨q0, qT, qb, qX⟩ := q; exact ⟨q0, qT.same (u := U) (U := U.calling g mk a) rfl rfl, qb, hbl _ _ _ _ qX⟩, hB, fun U hU hW => ⟨rfl, hT.warm hW (fun q hq => by rw [hU]; exact hS.2.1 q (by omega) (by omega)), by rw [hU]; exact hH, hX U hU hW⟩⟩ rfl hn hsz rfl (lv_room hrest) hdg ⟨hce, hsl⟩
  exact j_back hr kk
end JDK9
section JDKC
variable {l : Launch} {b0 : Nat} {cst : Nat → Nat}
theorem c_cki {i k : Int32} {v : Value} (hv : v = .null ∨ ∃ t, v = .ref t) (h0 : ¬ i < 0) (hk : i < k) : JM l b0 cst (fun _ => True) yj_cki prog_31_method_11_code 3 (some .int) 0 [.int i, .int k, v] (some (.int i)) := by
  refine Met.ofW (cc := prog_31_method_11_code) (maxL := 3) (ret := some .int) (by decide) rfl ?_
  intro p e s m args below meth c s₁ B hml hq
  obtain ⟨rfl, hT, hb0, -⟩ := hq
  have hx := B.exec
  have hb := B.bytes
  have hr := B.returns
  have hlocks := B.notSynchronized
  have hl : lv_has (lg_sl ([.int i, .int k, v]) ++ List.replicate (3 - (lg_sl ([.int i, .int k, v])).length) Slot.unset).toArray 3 [(0, .int i), (1, .int k)] := by
    rcases hv with rfl | ⟨t, rfl⟩
    · exact lv_sub (lv_entry ([.int i, .int k, .null]) (n := 3) (Nat.le_of_ble_eq_true rfl)) [0, 1] rfl
    · exact lv_sub (lv_entry ([.int i, .int k, .ref t]) (n := 3) (Nat.le_of_ble_eq_true rfl)) [0, 1] rfl
  rw [lg_entry_eq]
  generalize (lg_sl ([.int i, .int k, v]) ++ List.replicate (3 - (lg_sl ([.int i, .int k, v])).length) Slot.unset).toArray = ls at hl ⊢
  refine lv_iload_n hx hb dj_cki_0 rfl (lv_at hl 0 rfl) ?_
  refine lv_if_lt (tgt := 9) hx hb dj_cki_1 (by decide) (fun h => absurd h h0) (fun _ => ?_)
  refine lv_iload_n hx hb dj_cki_4 rfl (lv_at hl 0 rfl) ?_
  refine lv_iload_n hx hb dj_cki_5 rfl (lv_at hl 1 rfl) ?_
  refine lv_icmp_lt (tgt := 16) hx hb dj_cki_6 (by decide) (fun _ => ?_) (fun h => absurd hk h)
  refine lv_iload_n hx hb dj_cki_16 rfl (lv_at hl 0 rfl) ?_
  exact W.iret (v := i) hx hb hr (fun t ht hW => ⟨rfl, ht⟩) (fun _ h => nomatch h) dj_cki_17
theorem c_sci {i k : Int32} (h0 : ¬ i < 0) (hk : i < k) : JM l b0 cst (fun _ => True) yj_sci prog_22_method_155_code 2 none 1 [.int i, .int k] none := by
  refine Met.ofW (cc := prog_22_method_155_code) (maxL := 2) (ret := none) (by decide) rfl ?_
  intro p e s m args below meth c s₁ B hml hq
  obtain ⟨rfl, hT, hb0, -⟩ := hq
  have hx := B.exec
  have hb := B.bytes
  have hr := B.returns
  have hlocks := B.notSynchronized
  have hts : ∀ w ∈ G9, w.before _ s = true := fun w hw => atoms_spec (ws := Cond.code yj_sci prog_22_method_155_code 2 none :: G9) B.pre w (List.mem_cons_of_mem _ hw)
  have hown : s.vm.findClass "java/lang/String" = some m.cls := findClass_of_methodNamed B.named
  have hS : va_S (fun q => b0 ≤ q) s.heap s.heap [] := va_S.rf
  have hl := lv_entry ([.int i, .int k]) (n := 2) (Nat.le_of_ble_eq_true rfl)
  rw [lg_entry_eq]
  generalize (lg_sl ([.int i, .int k]) ++ List.replicate (2 - (lg_sl ([.int i, .int k])).length) Slot.unset).toArray = ls at hl ⊢
  have hl : lv_has ls 2 [(0, .int i), (1, .int k)] := hl
  obtain ⟨v, hv, hZ⟩ : ∃ v : Value, (v = .null ∨ ∃ t, v = .ref t) ∧ va_Z "jdk/internal/util/Preconditions" "SIOOBE_FORMATTER" "Ljava/util/function/BiFunction;" v (fun q => b0 ≤ q) s s.heap := by
    rcases hT.2.2.2.1 with hZ | ⟨t, hZ⟩
    · exact ⟨_, Or.inl rfl, hZ⟩
    · exact ⟨_, Or.inr ⟨t, rfl⟩, hZ⟩
  refine lv_iload_n hx hb dj_sci_0 rfl (lv_at hl 0 rfl) ?_
  refine lv_iload_n hx hb dj_sci_1 rfl (lv_at hl 1 rfl) ?_
  refine va_gets (ref := "jdk/internal/util/Preconditions") hx hb hZ hS hown (hts _ (g9p (i := 184) (by decide +kernel) rfl)) (fun _ h => h) dj_sci_2 ?_
  refine j_S (n := 3) (rest := []) hx hb hml hl.1 hown hts hT hb0 hS hb0 (c_cki hv h0 hk) blT (fun _ _ _ => trivial) wj_cki (g9p (i := 124) (by decide +kernel) rfl) (g9p (i := 186) (by decide +kernel) rfl) (g9p (i := 187) (by decide +kernel) rfl) ⟨by decide +kernel, by decide +kernel, by decide +kernel⟩ rfl (Nat.le_of_ble_eq_true rfl) (Nat.le_of_ble_eq_true rfl) (Nat.le_refl _) (Nat.le_refl _) (Nat.zero_le _) rfl dj_sci_5 ?_
  refine lv_pop hx hb dj_sci_8 rfl ?_
  exact W.vret hx hb hr (fun t ht hW => ⟨rfl, ht⟩) (fun _ h => nomatch h) dj_sci_9
theorem getD_mem9 {L9 : List Int32} {k : Nat} (hk : k < L9.length) : L9.getD k 0 ∈ L9 := by
  rw [List.getD_eq_getElem?_getD, List.getElem?_eq_getElem hk]
  exact List.getElem_mem hk
/-- the byte array of a text -/
def XB9 (b0 t j : Nat) (U : State) : Prop := va_T .byte t ((strs9.map List.length).getD j 0) (fun q => .int ((strs9.getD j []).getD q 0)) (fun q => b0 ≤ q) U U.heap
theorem blB {b0 t j : Nat} : BlX (XB9 b0 t j) := fun a U g mk h => va_T.moved (u := U) (U := U.calling g mk a) (Vm.Alike.refl U.vm) h
theorem len9_ok : ∀ j, j < 5 → (strs9.map List.length).getD j 0 = (strs9.getD j []).length ∧ (strs9.getD j []).length < 1000 ∧ ∀ x ∈ strs9.getD j [], ((x &&& 255).toUInt32 % 65536).toInt32 = x ∧ narrow .char (.int x) = .int x := by decide +kernel
theorem c_lca {t j k : Nat} (hj : j < 5) (hk : k < (strs9.getD j []).length) : JM l b0 cst (XB9 b0 t j) yj_lca prog_23_method_2_code 2 (some .char) 2 [.ref t, .int (nI k)] (some (.int ((strs9.getD j []).getD k 0))) := by
  obtain ⟨n1, n2, n3⟩ := len9_ok j hj
  have hmem : (strs9.getD j []).getD k 0 ∈ strs9.getD j [] := getD_mem9 hk
  obtain ⟨n4, n5⟩ := n3 _ hmem
  refine Met.ofW (cc := prog_23_method_2_code) (maxL := 2) (ret := some .char) (by decide) rfl ?_
  intro p e s m args below meth c s₁ B hml hq
  obtain ⟨rfl, hT, hb0, hX⟩ := hq
  have hx := B.exec
  have hb := B.bytes
  have hr := B.returns
  have hlocks := B.notSynchronized
  have hts : ∀ w ∈ G9, w.before _ s = true := fun w hw => atoms_spec (ws := Cond.code yj_lca prog_23_method_2_code 2 (some .char) :: G9) B.pre w (List.mem_cons_of_mem _ hw)
  have hown : s.vm.findClass "java/lang/StringLatin1" = some m.cls := findClass_of_methodNamed B.named
  have hS : va_S (fun q => b0 ≤ q) s.heap s.heap [] := va_S.rf
  have hl := lv_entry ([.ref t, .int (nI k)]) (n := 2) (Nat.le_of_ble_eq_true rfl)
  rw [lg_entry_eq]
  generalize (lg_sl ([.ref t, .int (nI k)]) ++ List.replicate (2 - (lg_sl ([.ref t, .int (nI k)])).length) Slot.unset).toArray = ls at hl ⊢
  have hl : lv_has ls 2 [(0, .ref t), (1, .int (nI k))] := hl
  have hk0 : ¬ nI k < 0 := by
    rw [show (0 : Int32) = nI 0 from rfl, lt_nI (by omega) (by omega)]; omega
  have hkk : nI k < nI ((strs9.map List.length).getD j 0) := by
    rw [lt_nI (by omega) (by omega), n1]; exact hk
  refine lv_iload_n hx hb dj_lca_0 rfl (lv_at hl 1 rfl) ?_
  refine lv_aload_n hx hb dj_lca_1 rfl (lv_at hl 0 rfl) ?_
  refine va_tlen (v := nI ((strs9.map List.length).getD j 0)) hx hb hX hS rfl dj_lca_2 ?_
  refine j_S (n := 2) (rest := []) hx hb hml hl.1 hown hts hT hb0 hS hb0 (c_sci hk0 hkk) blT (fun _ _ _ => trivial) wj_sci (g9p (i := 122) (by decide +kernel) rfl) (g9p (i := 181) (by decide +kernel) rfl) (g9p (i := 182) (by decide +kernel) rfl) ⟨by decide +kernel, by decide +kernel, by decide +kernel⟩ rfl (Nat.le_of_ble_eq_true rfl) (Nat.le_of_ble_eq_true rfl) (Nat.le_refl _) (Nat.le_refl _) (Nat.zero_le _) rfl dj_lca_3 ?_
  refine lv_aload_n hx hb dj_lca_6 rfl (lv_at hl 0 rfl) ?_
  refine lv_iload_n hx hb dj_lca_7 rfl (lv_at hl 1 rfl) ?_
  refine va_tb (v := .int ((strs9.getD j []).getD k 0)) hx hb hX hS (fun q => q.elim hk0 (fun q => by rw [tN (by omega), n1] at q; omega)) (by rw [tN (by omega)]) dj_lca_8 ?_
  refine lv_sipush (v := 255) hx hb dj_lca_9 (by decide +kernel) ?_
  refine lv_iand hx hb dj_lca_12 ?_
  refine lv_i2c hx hb dj_lca_13 n4 ?_
  exact W.zret hx hb hr n5 (fun t ht hW => ⟨rfl, ht⟩) (fun _ h => nomatch h) dj_lca_14
theorem c_isl {j : Nat} (hj : j < 5) : JM l b0 cst (fun _ => True) yj_isl prog_22_method_154_code 1 (some .boolean) 0 [.ref (cst (j + 1))] (some (.int 1)) := by
  refine Met.ofW (cc := prog_22_method_154_code) (maxL := 1) (ret := some .boolean) (by decide) rfl ?_
  intro p e s m args below meth c s₁ B hml hq
  obtain ⟨rfl, hT, hb0, -⟩ := hq
  have hx := B.exec
  have hb := B.bytes
  have hr := B.returns
  have hlocks := B.notSynchronized
  have hts : ∀ w ∈ G9, w.before _ s = true := fun w hw => atoms_spec (ws := Cond.code yj_isl prog_22_method_154_code 1 (some .boolean) :: G9) B.pre w (List.mem_cons_of_mem _ hw)
  have hown : s.vm.findClass "java/lang/String" = some m.cls := findClass_of_methodNamed B.named
  have hS : va_S (fun q => b0 ≤ q) s.heap s.heap [] := va_S.rf
  obtain ⟨adV, hV⟩ := hT.1
  have hl := lv_entry ([.ref (cst (j + 1))]) (n := 1) (Nat.le_of_ble_eq_true rfl)
  rw [lg_entry_eq]
  generalize (lg_sl ([.ref (cst (j + 1))]) ++ List.replicate (1 - (lg_sl ([.ref (cst (j + 1))])).length) Slot.unset).toArray = ls at hl ⊢
  have hl : lv_has ls 1 [(0, .ref (cst (j + 1)))] := hl
  refine va_gets (ref := "java/lang/String") hx hb hT.2.2.1 hS hown (hts _ (g9p (i := 168) (by decide +kernel) rfl)) (fun _ h => h) dj_isl_0 ?_
  refine lv_if_eq (tgt := 17) hx hb dj_isl_3 (by decide) (fun h => absurd h (by decide)) (fun _ => ?_)
  refine lv_aload_n hx hb dj_isl_6 rfl (lv_at hl 0 rfl) ?_
  refine vk_getf (ref := "java/lang/String") hx hb (hV.1 j hj).2.1 hS hown (hts _ (g9p (i := 2106) (by decide +kernel) rfl)) (fun _ h => h) dj_isl_7 ?_
  refine lv_if_ne (tgt := 17) hx hb dj_isl_10 (by decide) (fun h => absurd rfl h) (fun _ => ?_)
  refine lv_iconst (v := 1) hx hb dj_isl_13 (by decide) ?_
  refine lv_goto (tgt := 18) hx hb dj_isl_14 (by decide) ?_
  exact W.zret hx hb hr rfl (fun t ht hW => ⟨rfl, ht⟩) (fun _ h => nomatch h) dj_isl_18
theorem c_cod {j : Nat} (hj : j < 5) : JM l b0 cst (fun _ => True) yj_cod prog_22_method_152_code 1 (some .byte) 0 [.ref (cst (j + 1))] (some (.int 0)) := by
  refine Met.ofW (cc := prog_22_method_152_code) (maxL := 1) (ret := some .byte) (by decide) rfl ?_
  intro p e s m args below meth c s₁ B hml hq
  obtain ⟨rfl, hT, hb0, -⟩ := hq
  have hx := B.exec
  have hb := B.bytes
  have hr := B.returns
  have hlocks := B.notSynchronized
  have hts : ∀ w ∈ G9, w.before _ s = true := fun w hw => atoms_spec (ws := Cond.code yj_cod prog_22_method_152_code 1 (some .byte) :: G9) B.pre w (List.mem_cons_of_mem _ hw)
  have hown : s.vm.findClass "java/lang/String" = some m.cls := findClass_of_methodNamed B.named
  have hS : va_S (fun q => b0 ≤ q) s.heap s.heap [] := va_S.rf
  obtain ⟨adV, hV⟩ := hT.1
  have hl := lv_entry ([.ref (cst (j + 1))]) (n := 1) (Nat.le_of_ble_eq_true rfl)
  rw [lg_entry_eq]
  generalize (lg_sl ([.ref (cst (j + 1))]) ++ List.replicate (1 - (lg_sl ([.ref (cst (j + 1))])).length) Slot.unset).toArray = ls at hl ⊢
  have hl : lv_has ls 1 [(0, .ref (cst (j + 1)))] := hl
  refine va_gets (ref := "java/lang/String") hx hb hT.2.2.1 hS hown (hts _ (g9p (i := 168) (by decide +kernel) rfl)) (fun _ h => h) dj_cod_0 ?_
  refine lv_if_eq (tgt := 13) hx hb dj_cod_3 (by decide) (fun h => absurd h (by decide)) (fun _ => ?_)
  refine lv_aload_n hx hb dj_cod_6 rfl (lv_at hl 0 rfl) ?_
  refine vk_getf (ref := "java/lang/String") hx hb (hV.1 j hj).2.1 hS hown (hts _ (g9p (i := 2106) (by decide +kernel) rfl)) (fun _ h => h) dj_cod_7 ?_
  refine lv_goto (tgt := 14) hx hb dj_cod_10 (by decide) ?_
  exact W.zret hx hb hr rfl (fun t ht hW => ⟨rfl, ht⟩) (fun _ h => nomatch h) dj_cod_14
theorem c_slen {j : Nat} (hj : j < 5) : JM l b0 cst (fun _ => True) yj_slen prog_22_method_54_code 1 (some .int) 1 [.ref (cst (j + 1))] (some (.int (Int32.ofNat (strs9.getD j []).length))) := by
  obtain ⟨n1, n2, n3⟩ := len9_ok j hj
  refine Met.ofW (cc := prog_22_method_54_code) (maxL := 1) (ret := some .int) (by decide) rfl ?_
  intro p e s m args below meth c s₁ B hml hq
  obtain ⟨rfl, hT, hb0, -⟩ := hq
  have hx := B.exec
  have hb := B.bytes
  have hr := B.returns
  have hlocks := B.notSynchronized
  have hts : ∀ w ∈ G9, w.before _ s = true := fun w hw => atoms_spec (ws := Cond.code yj_slen prog_22_method_54_code 1 (some .int) :: G9) B.pre w (List.mem_cons_of_mem _ hw)
  have hown : s.vm.findClass "java/lang/String" = some m.cls := findClass_of_methodNamed B.named
  have hS : va_S (fun q => b0 ≤ q) s.heap s.heap [] := va_S.rf
  obtain ⟨adV, hV⟩ := hT.1
  have hl := lv_entry ([.ref (cst (j + 1))]) (n := 1) (Nat.le_of_ble_eq_true rfl)
  rw [lg_entry_eq]
  generalize (lg_sl ([.ref (cst (j + 1))]) ++ List.replicate (1 - (lg_sl ([.ref (cst (j + 1))])).length) Slot.unset).toArray = ls at hl ⊢
  have hl : lv_has ls 1 [(0, .ref (cst (j + 1)))] := hl
  refine lv_aload_n hx hb dj_slen_0 rfl (lv_at hl 0 rfl) ?_
  refine vk_getf (ref := "java/lang/String") hx hb (hV.1 j hj).2.2.1 hS hown (hts _ (g9p (i := 2105) (by decide +kernel) rfl)) (fun _ h => h) dj_slen_1 ?_
  refine va_tlen (v := Int32.ofNat (strs9.getD j []).length) hx hb (hV.1 j hj).2.2.2 hS (by rw [n1]) dj_slen_4 ?_
  refine lv_aload_n hx hb dj_slen_5 rfl (lv_at hl 0 rfl) ?_
  refine j_V (n := 0) (C := "java/lang/String") (As := []) (rest := [.int (Int32.ofNat (strs9.getD j []).length)]) hx hb hml hl.1 hown hts hT hb0 hS hb0 (c_cod hj) blT (fun _ _ _ => trivial) wj_cod (g9p (i := 122) (by decide +kernel) rfl) (g9p (i := 164) (by decide +kernel) rfl) ⟨g9p (i := 165) (by decide +kernel) rfl, g9p (i := 166) (by decide +kernel) rfl⟩ (hV.1 j hj).1 ⟨by decide +kernel, by decide +kernel, by decide +kernel⟩ rfl (Nat.le_of_ble_eq_true rfl) (Nat.le_of_ble_eq_true rfl) (Nat.le_refl _) (Nat.le_refl _) (Nat.le_of_ble_eq_true rfl) rfl dj_slen_6 ?_
  refine lv_ishr hx hb dj_slen_9 ?_
  have e0 : Int32.ofNat (strs9.getD j []).length >>> ((0 : Int32) &&& 31) = Int32.ofNat (strs9.getD j []).length := by
    rw [show ((0 : Int32) &&& 31) = 0 from rfl]
    simp
  rw [e0]
  exact W.iret hx hb hr (fun t ht hW => ⟨rfl, ht⟩) (fun _ h => nomatch h) dj_slen_10
theorem c_cha {j k : Nat} (hj : j < 5) (hk : k < (strs9.getD j []).length) : JM l b0 cst (fun _ => True) yj_cha prog_22_method_56_code 2 (some .char) 3 [.ref (cst (j + 1)), .int (nI k)] (some (.int ((strs9.getD j []).getD k 0))) := by
  obtain ⟨n1, n2, n3⟩ := len9_ok j hj
  have hmem : (strs9.getD j []).getD k 0 ∈ strs9.getD j [] := getD_mem9 hk
  obtain ⟨n4, n5⟩ := n3 _ hmem
  refine Met.ofW (cc := prog_22_method_56_code) (maxL := 2) (ret := some .char) (by decide) rfl ?_
  intro p e s m args below meth c s₁ B hml hq
  obtain ⟨rfl, hT, hb0, -⟩ := hq
  have hx := B.exec
  have hb := B.bytes
  have hr := B.returns
  have hlocks := B.notSynchronized
  have hts : ∀ w ∈ G9, w.before _ s = true := fun w hw => atoms_spec (ws := Cond.code yj_cha prog_22_method_56_code 2 (some .char) :: G9) B.pre w (List.mem_cons_of_mem _ hw)
  have hown : s.vm.findClass "java/lang/String" = some m.cls := findClass_of_methodNamed B.named
  have hS : va_S (fun q => b0 ≤ q) s.heap s.heap [] := va_S.rf
  obtain ⟨adV, hV⟩ := hT.1
  have hl := lv_entry ([.ref (cst (j + 1)), .int (nI k)]) (n := 2) (Nat.le_of_ble_eq_true rfl)
  rw [lg_entry_eq]
  generalize (lg_sl ([.ref (cst (j + 1)), .int (nI k)]) ++ List.replicate (2 - (lg_sl ([.ref (cst (j + 1)), .int (nI k)])).length) Slot.unset).toArray = ls at hl ⊢
  have hl : lv_has ls 2 [(0, .ref (cst (j + 1))), (1, .int (nI k))] := hl
  refine lv_aload_n hx hb dj_cha_0 rfl (lv_at hl 0 rfl) ?_
  refine j_V (n := 0) (C := "java/lang/String") (As := []) (rest := []) hx hb hml hl.1 hown hts hT hb0 hS hb0 (c_isl hj) blT (fun _ _ _ => trivial) wj_isl (g9p (i := 122) (by decide +kernel) rfl) (g9p (i := 174) (by decide +kernel) rfl) ⟨g9p (i := 175) (by decide +kernel) rfl, g9p (i := 176) (by decide +kernel) rfl⟩ (hV.1 j hj).1 ⟨by decide +kernel, by decide +kernel, by decide +kernel⟩ rfl (Nat.le_of_ble_eq_true rfl) (Nat.le_of_ble_eq_true rfl) (Nat.le_refl _) (Nat.le_refl _) (Nat.zero_le _) rfl dj_cha_1 ?_
  refine lv_if_eq (tgt := 16) hx hb dj_cha_4 (by decide) (fun h => absurd h (by decide)) (fun _ => ?_)
  refine lv_aload_n hx hb dj_cha_7 rfl (lv_at hl 0 rfl) ?_
  refine vk_getf (ref := "java/lang/String") hx hb (hV.1 j hj).2.2.1 hS hown (hts _ (g9p (i := 2105) (by decide +kernel) rfl)) (fun _ h => h) dj_cha_8 ?_
  refine lv_iload_n hx hb dj_cha_11 rfl (lv_at hl 1 rfl) ?_
  refine j_S (n := 2) (rest := []) hx hb hml hl.1 hown hts hT hb0 hS hb0 (c_lca (t := adV j) hj hk) blB (fun U hU hW => by unfold XB9; rw [hU]; exact va_T.moved hW.alike (hV.1 j hj).2.2.2) wj_lca (g9p (i := 123) (by decide +kernel) rfl) (g9p (i := 178) (by decide +kernel) rfl) (g9p (i := 179) (by decide +kernel) rfl) ⟨by decide +kernel, by decide +kernel, by decide +kernel⟩ rfl (Nat.le_of_ble_eq_true rfl) (Nat.le_of_ble_eq_true rfl) (Nat.le_refl _) (Nat.le_refl _) (Nat.zero_le _) rfl dj_cha_12 ?_
  exact W.zret hx hb hr n5 (fun t ht hW => ⟨rfl, ht⟩) (fun _ h => nomatch h) dj_cha_15
end JDKC
/-- the texts of the code: shown -/
theorem lkS9_ok : ∀ t ∈ lkS, t.2.2.1 < 5 := by decide
theorem lkL9_ok : ∀ t ∈ lkL, lw_tbl[t.2.2]? = some (.methodLink (cn9 t.1) t.2.1 yj_slen) := by decide +kernel
theorem lkH9_ok : ∀ t ∈ lkH, lw_tbl[t.2.2]? = some (.methodLink (cn9 t.1) t.2.1 yj_cha) := by decide +kernel
theorem str9 {l : Launch} {b0 : Nat} {cst : Nat → Nat} {D : va_G} {cA : Nat → ClassId} : StrR9 l b0 cst D cA := by
  intro p e R s m args below meth c M d hSC μ H locs cells slots Q pc lsA rest hIn hsz hce hsl
  obtain ⟨hx, hb, hml, hown, hts, -, hfr, hlo, -, hb0⟩ := hSC
  have hT := hIn.2.2.2
  have hS := hIn.2.1
  have hH : b0 ≤ H.size := Nat.le_trans hb0 hS.1
  have hj : ∀ a, oFF < a → a ≤ oFF + 5 → a - oFF - 1 < 5 ∧ rho9 b0 cst a = cst (a - oFF - 1 + 1) := fun a h1 h2 => ⟨by omega, by
    unfold rho9
    rw [if_neg (by omega), show a - oFF - 1 + 1 = a - oFF by omega]⟩
  obtain ⟨adV, hV⟩ := hT.1
  refine ⟨fun z a hdg hz kk => ?_, fun z a hdg hz h1 h2 hd hr kk => ?_, fun z a i hdg hz h1 h2 hd hi hr kk => ?_⟩
  · obtain ⟨t, ht, hz⟩ := List.any_eq_true.mp hz
    simp only [Bool.and_eq_true, beq_iff_eq] at hz
    obtain ⟨z1, z2, z3⟩ := hz
    have w := hT.2.1 t ht
    rw [z1, z2] at w
    refine va_ldcS hx hb hown w hdg ?_
    have e : rho9 b0 cst a = cst (t.2.2.1 + 1) := by
      rw [(hj a (by omega) (by have := lkS9_ok t ht; omega)).2, show a - oFF - 1 + 1 = t.2.2.1 + 1 by omega]
    rw [← e]
    exact kk
  · obtain ⟨t, ht, hz⟩ := List.any_eq_true.mp hz
    simp only [Bool.and_eq_true, beq_iff_eq] at hz
    obtain ⟨z1, z2⟩ := hz
    have w := lkL9_ok t ht
    rw [z1, z2] at w
    obtain ⟨j1, j2⟩ := hj a h1 h2
    rw [j2]
    exact j_V (n := 0) (C := "java/lang/String") (As := []) (rest := rest) hx hb hml (by rw [hsz]) hown hts hT hb0 hS hH (c_slen j1) blT (fun _ _ _ => trivial) wj_slen (g9p (i := 122) (by decide +kernel) rfl) (g9p w rfl) ⟨g9p (i := 161) (by decide +kernel) rfl, g9p (i := 162) (by decide +kernel) rfl⟩ (hV.1 _ j1).1 ⟨by decide +kernel, by decide +kernel, by decide +kernel⟩ rfl (by omega) (by omega) hce hsl hr rfl hdg kk
  · obtain ⟨t, ht, hz⟩ := List.any_eq_true.mp hz
    simp only [Bool.and_eq_true, beq_iff_eq] at hz
    obtain ⟨z1, z2⟩ := hz
    have w := lkH9_ok t ht
    rw [z1, z2] at w
    obtain ⟨j1, j2⟩ := hj a h1 h2
    obtain ⟨k, hk, rfl⟩ := nI_of (Int32.not_lt.mpr hi.1)
    have hk2 : k < (strs9.getD (a - oFF - 1) []).length := by
      have h3 := hi.2
      rw [tN hk] at h3
      exact h3
    rw [j2]
    have kk2 : W p l e R s m args below meth c H locs cells slots Q (F0 m (pc + 3) lsA (.int ((strs9.getD (a - oFF - 1) []).getD k 0) :: rest)) := by
      have q := kk
      unfold sCh at q
      rw [tN hk] at q
      exact q
    exact j_V (n := 1) (C := "java/lang/String") (As := [.int (nI k)]) (rest := rest) hx hb hml (by rw [hsz]) hown hts hT hb0 hS hH (c_cha j1 hk2) blT (fun _ _ _ => trivial) wj_cha (g9p (i := 122) (by decide +kernel) rfl) (g9p w rfl) ⟨g9p (i := 171) (by decide +kernel) rfl, g9p (i := 172) (by decide +kernel) rfl⟩ (hV.1 _ j1).1 ⟨by decide +kernel, by decide +kernel, by decide +kernel⟩ rfl (by omega) (by omega) hce hsl hr rfl hdg kk2

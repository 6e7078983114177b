/-! the start: what the tables and the Statement give of it -/
def tm9 (j : Nat) : Term := match j with
  | 0 => .string "HiddenOrLost$Tape" 64
  | 1 => .string "HiddenOrLost$Label" 46
  | 2 => .string "HiddenOrLost$Label" 52
  | 3 => .string "HiddenOrLost$Label" 64
  | _ => .string "HiddenOrLost$Label" 66
def fl9 : List Cond := flatC (Jvm.Cond.and given_1 narrow_1)
theorem q_ex : ∀ i, i < 5 → Cond.exactly (tm9 i) "java/lang/String" ∈ fl9 := by decide +kernel
theorem q_co : ∀ i, i < 5 → Cond.eq (.field (tm9 i) "java/lang/String" "coder" "B") (.int 0) ∈ fl9 := by decide +kernel
theorem q_ar : ∀ i, i < 5 → Cond.arrayOf (.field (tm9 i) "java/lang/String" "value" "[B") .byte ∈ fl9 := by decide +kernel
theorem q_le : ∀ i, i < 5 → Cond.eq (.length (.field (tm9 i) "java/lang/String" "value" "[B")) (.int (Int32.ofNat ((strs9.map List.length).getD i 0))) ∈ fl9 := by decide +kernel
def bs9 : List Nat := [28, 220, 239, 253, 265]
def el9 (i j : Nat) : Cond := Cond.eq (.elem (.field (tm9 i) "java/lang/String" "value" "[B") (.int (Int32.ofNat j))) (.int ((strs9.getD i []).getD j 0))
theorem q_els : ∀ i, i < 5 → (fl9.drop (bs9.getD i 0)).take ((strs9.map List.length).getD i 0) = (List.range ((strs9.map List.length).getD i 0)).map (el9 i) := by decide +kernel
theorem q_el : ∀ i, i < 5 → ∀ j, j < (strs9.map List.length).getD i 0 → Cond.eq (.elem (.field (tm9 i) "java/lang/String" "value" "[B") (.int (Int32.ofNat j))) (.int ((strs9.getD i []).getD j 0)) ∈ fl9 := fun i hi j hj => by
  have h : el9 i j ∈ (fl9.drop (bs9.getD i 0)).take ((strs9.map List.length).getD i 0) := by
    rw [q_els i hi]
    exact List.mem_map.mpr ⟨j, List.mem_range.mpr hj, rfl⟩
  exact List.mem_of_mem_drop (List.mem_of_mem_take h)
theorem q_hN : ∀ i : Nat, i < 5 → (strs9.map List.length).getD i 0 < 2 ^ 31 := by decide +kernel
theorem q_ne : ∀ i, i < 5 → ∀ j, j < 5 → i ≠ j → Cond.not (Cond.eq (tm9 i) (tm9 j)) ∈ fl9 ∨ Cond.not (Cond.eq (tm9 j) (tm9 i)) ∈ fl9 := by decide +kernel
theorem q_cs : Cond.eq (.static "java/lang/String" "COMPACT_STRINGS" "Z") (.int 1) ∈ fl9 := by decide +kernel
theorem q_si : Cond.isRef (.static "jdk/internal/util/Preconditions" "SIOOBE_FORMATTER" "Ljava/util/function/BiFunction;") ∈ fl9 := by decide +kernel
theorem q_us : Cond.isRef (.static Bundle.tN "UNASSIGNED_STACK" Bundle.steD) ∈ fl9 := by decide +kernel
theorem q_ss : Cond.isRef (.static Bundle.tN "SUPPRESSED_SENTINEL" Bundle.listD) ∈ fl9 := by decide +kernel
theorem q_sr : ∀ t ∈ lkS, lw_tbl[t.2.2.2]? = some (.stringRef (cn9 t.1) t.2.1 (tx9 t.2.2.1)) ∧ tm9 t.2.2.1 = .string (cn9 t.1) t.2.1 ∧ t.2.2.1 < 5 := by decide +kernel
theorem q_in : ∀ ci, ci < 13 → Cond.instantiable (cn9 ci) (N9 ci) ∈ lw_tbl := by decide +kernel
theorem q_ac : ∀ k, k < 5 → 1 ≤ k → Cond.arrayClass (aT9 k) ∈ lw_tbl := by decide +kernel
theorem st_Tx {s : State} {args : Array Value} (hts : ∀ w ∈ lw_tbl, w.before args s = true) (hf : ∀ w ∈ fl9, w.before args s = true) (b : Nat) : ∃ cst : Nat → Nat, cst 0 = b ∧ Tx9 s.heap.size cst s := by
  have hA : ∀ a : Nat, a < s.heap.size → ¬ s.heap.size ≤ a := fun a h => by omega
  obtain ⟨adK, adV, hV, hE⟩ := vk_Sof (args := args) (s := s) (N := 5) (tm := tm9) (len := strs9.map List.length) (byt := strs9) (A := fun q => s.heap.size ≤ q) q_hN (fun i hi => hf _ (q_ex i hi)) (fun i hi => hf _ (q_co i hi)) (fun i hi => hf _ (q_ar i hi)) (fun i hi => hf _ (q_le i hi)) (fun i hi j hj => hf _ (q_el i hi j hj)) (fun i j hi hj hne => (q_ne i hi j hj hne).elim (fun h => Or.inl (hf _ h)) (fun h => Or.inr (hf _ h))) hA
  have hw : ∀ {w : Cond} (i : Nat), lw_tbl[i]? = some w → w.before args s = true := fun i h => hts _ (List.mem_of_getElem? h)
  refine ⟨fun k => match k with | 0 => b | k + 1 => adK k, rfl, ⟨adV, hV⟩, fun t ht => ?_, ?_, ?_, ?_, ?_⟩
  · obtain ⟨h1, h2, h3⟩ := q_sr t ht
    have e := hE _ h3
    rw [h2] at e
    exact vk_R.of (hw _ h1) e
  · exact va_Zof (hw 169 (by decide +kernel)) (hw 122 (by decide +kernel)) (va_eqt (hf _ q_cs)) hA
  · exact va_Zqof (hw 185 (by decide +kernel)) (hw 124 (by decide +kernel)) (hf _ q_si) hA
  · exact vx_Zqof (hw 1372 (by decide +kernel)) (hw 139 (by decide +kernel)) (hf _ q_us) hA
  · exact vx_Zqof (hw 1374 (by decide +kernel)) (hw 139 (by decide +kernel)) (hf _ q_ss) hA
theorem st_K {s : State} {args : Array Value} (hts : ∀ w ∈ lw_tbl, w.before args s = true) : ∃ (D : va_G) (cA : Nat → ClassId), S9 D cA s := by
  have h1 : ∀ ci : Nat, ∃ q : ClassId × (Nat → Nat), ci < 13 → u_Kn s (cn9 ci) (T9 ci) (N9 ci) q.1 q.2 := fun ci => by
    by_cases h : ci < 13
    · obtain ⟨cC, iS, hk⟩ := u_known hts (fun w hw => uin9 (by omega) w hw) (hts _ (q_in ci h))
      exact ⟨(cC, iS), fun _ => hk⟩
    · exact ⟨(0, fun _ => 0), fun q => absurd q h⟩
  obtain ⟨f, hf⟩ := Classical.axiomOfChoice h1
  have hao : (Cond.arrayOver (.object (cn9 9))).before args s = true := hts _ (List.mem_of_getElem? xi9.2.2.2.2.2.2)
  obtain ⟨comp, c5, k5, g1, g2, g3, g4, g5⟩ := Cond.arrayOver_spec hao
  have h2 : ∀ k : Nat, ∃ c : ClassId, (k < 5 → 1 ≤ k → ArrOfT s c (aT9 k) ∧ s.vm.findClass ("[" ++ (aT9 k).toString) = some c) ∧ (k = 5 → c = c5) := fun k => by
    by_cases h : k < 5 ∧ 1 ≤ k
    · obtain ⟨c, kc, cm, a1, a2, a3⟩ := Cond.arrayClass_spec (hts _ (q_ac k h.1 h.2))
      exact ⟨c, fun _ _ => ⟨fun n z => ⟨fun k h => (by cases h), kc, a2, cm, a3⟩, a1⟩, fun q => by omega⟩
    · exact ⟨c5, fun q1 q2 => absurd ⟨q1, q2⟩ h, fun _ => rfl⟩
  obtain ⟨cA, hcA⟩ := Classical.axiomOfChoice h2
  have e5 : cA 5 = c5 := (hcA 5).2 rfl
  refine ⟨(fun ci => (f ci).1, fun ci => (f ci).2), cA, ⟨fun ci hc => hf ci hc, fun k q1 q2 => (hcA k).1 (by omega) q1, ?_, ?_⟩, ?_, ?_⟩
  · rw [e5]
    exact fun n z => ⟨fun k h => (by cases h), k5, g3, comp, g4⟩
  · rw [e5]
    exact ⟨k5, comp, g3, g4, g1, g5⟩
  · intro x hx hn
    refine va_Nw.of ?_ (hts _ (List.mem_of_getElem? (lkF_ok x hx)))
    unfold wF9
    split <;> rfl
  · exact va_AO.of hao
/-! THE CLAIM OUT OF ONE WALK OF THE LAW'S BODY. Your part is whole_start (and what it stands on); all else here is the same for every law, but numbers. -/
def R_law : String := "HiddenOrLostLaw"
def lw_P (b : Addr) (xs : List Int32) (args : Array Value) (s : State) : Prop := args = #[.ref b] ∧ s.IntsAt b xs ∧ xs.length ≤ 3072 ∧ (Jvm.Cond.and given_1 narrow_1).before args s = true
def lw_Q (_ : Array Value) (s : State) (o : Outcome) (t : State) : Prop := o = .returned (some (.int 1)) ∧ Framed s o t [] 601024 7293034
def lw_Z (below : List Frame) (a : Array Value) (s : State) : State → Prop := fun t => ∃ o, t.status = .running ∧ Ended t below o ∧ lw_Q a s o t
/-- the law's own end, with 1 on the stack, nothing written that was there before, its room as the claim has it -/
theorem lw_ret {p : Program} {l : Launch} {e : Env} {s : State} {m : MethodId} {below : List Frame} {meth : Method} {c : Code} {b : Nat} (hx : p.tables.exec = Jvm.exec) (hb : c.code = code) (hr : meth.sig.returnType = ret) (hlocks : meth.locks = false) {pc : Nat} {H : Heap} {ls : Array Slot} (hdg : decode code pc = .ok (.ireturn, 1)) : W p l e room_1 s m #[Value.ref b] below meth c H [] 601024 7293034 (lw_Z below #[Value.ref b] s) (F0 m pc ls [.int 1]) := by
  intro T hT X
  obtain ⟨fs, hret, hrun, hended, hW, hframe⟩ := X.leave (v := some (.int 1)) (hlocks := hlocks) (fun h => by rw [hr] at h; cases h)
  have hmeth' : T.vm.method? m = some meth := X.method'
  refine ⟨T.setFrames fs, ?_, .returned (some (.int 1)), hrun, hended, rfl, ⟨_, rfl⟩, hW, hframe⟩
  jvm_step X.here [X.here.top, hx, hb, hdg, hmeth', hr, ret, narrow_b1]
  (try refine ⟨rfl, ?_⟩); (try refine ⟨rfl, ?_⟩)
  first | (intro acts; rw [hret _ acts rfl rfl rfl]) | rw [hret _ _ rfl rfl rfl]
  exact Steps.refl _
/-- what holds at the law's entry: the machine, the code, the tables' words (any of lw_tbl by 'hts w (by decide +kernel)'), the script of L ints xs at the cell b, what the Statement gives of the start (any of its parts by flat_of_before) -/
def lw_At (p : Program) (s : State) (m : MethodId) (meth : Method) (c : Code) (b L : Nat) (xs : Nat → Int32) : Prop :=
  p.tables.exec = Jvm.exec ∧ c.code = code ∧ meth.sig.returnType = ret ∧ c.maxLocals = 8 ∧ s.vm.findClass R_law = some m.cls ∧ (∀ w ∈ lw_tbl, w.before #[Value.ref b] s = true) ∧ va_X b L xs s s.heap ∧ b < s.heap.size ∧ meth.locks = false ∧ (Jvm.Cond.and given_1 narrow_1).before #[Value.ref b] s = true ∧ meth.name = "law"
-- ===== YOUR PART BEGINS =====
/-- YOUR PART: from the entry, for every script of at most 3072 ints, the law comes to its end with true ('hflags': the launch's flags, for a law that throws: no stack traces) -/
theorem whole_start {p : Program} {e : Env} {s : State} {m : MethodId} {below : List Frame} {meth : Method} {c : Code} (l : Launch) (hflags : l.flags = flags0) {b L : Nat} {xs : Nat → Int32} (hL : L ≤ 3072) (C0 : lw_At p s m meth c b L xs) : W p l e room_1 s m #[Value.ref b] below meth c s.heap [] 0 0 (lw_Z below #[Value.ref b] s) (entryFrame m ([Value.ref b] : List Value).toArray 8) := by
  obtain ⟨hx, hb, hr, hml, hown, hts, hX, hbl, hlocks, hgv, hname⟩ := C0
  have hl9 : l.stackTraces = false := by
    unfold Launch.stackTraces
    rw [hflags]
    decide
  obtain ⟨D, cA, hS9⟩ := st_K hts
  obtain ⟨cst, hc0, hT⟩ := st_Tx hts (flat_of_before _ hgv) b
  obtain ⟨μ', ⟨N, hN⟩, hm1, hm2⟩ := law_go (L := L) (xs := xs) hL
  have hb9 := oFF_big
  have er : [Value.ref oFF].map (tv9 s.heap.size cst) = [Value.ref b] := by
    show [Value.ref (rho9 s.heap.size cst oFF)] = [Value.ref b]
    unfold rho9
    rw [if_neg (Nat.lt_irrefl _), Nat.sub_self, hc0]
  have hl := lk9_entry (b0 := s.heap.size) (cst := cst) (as := [.ref oFF]) (n := 8) rfl
  rw [er] at hl
  rw [lg_entry_eq]
  have hSC : SC9 p room_1 s m #[Value.ref b] meth c s.heap.size D cA 305 1001 := ⟨hx, hb, hml, hown, fun w hw => hts w (List.mem_filter.mp hw).1, hS9, Nat.le_of_ble_eq_true rfl, Nat.le_of_ble_eq_true rfl, hname, Nat.le_refl _⟩
  have hIn : In9 s.heap.size cst D cA s (Ov L xs m0) s.heap [] := by
    refine ⟨⟨rfl, ⟨Nat.zero_le _, fun a ha => ?_, fun a ha => ?_⟩, fun a ha => absurd ha (Nat.not_lt_zero _)⟩, va_S.rf, fun L' hL' => ?_, hT⟩
    · by_cases e : a = oFF
      · rw [e] at ha
        have : (if oFF = oFF then (6, L) else (7, 0) : Nat × Nat).1 ≤ 5 := ha
        rw [if_pos rfl] at this
        exact absurd this (by show ¬ (6 : Nat) ≤ 5; decide)
      · have : (if a = oFF then (6, L) else (7, 0) : Nat × Nat).1 ≤ 5 := ha
        rw [if_neg e] at this
        exact absurd this (by decide)
    · by_cases e : a = oFF
      · exact e
      · have : (if a = oFF then (6, L) else (7, 0) : Nat × Nat).1 = 6 := ha
        rw [if_neg e] at this
        exact absurd this (by decide)
    · have e : (if oFF = oFF then (6, L) else (7, 0) : Nat × Nat) = (6, L') := hL'
      rw [if_pos rfl] at e
      cases e
      rw [hc0]
      refine ⟨?_, hbl⟩
      rw [ov_IO]
      exact hX
  refine sound9 chk_all str9 (hlp9 hl9) N 1001 305 0 [some (.ref oFF), none, none, none, none, none, none, none] [] (Ov L xs m0) (some (.int 1)) false μ' (hN N (Nat.le_refl _)) p e room_1 s m #[Value.ref b] below meth c hSC (Or.inr rfl) s.heap [] 0 0 (mHp μ') (mSl μ') _ hIn hl (by show 0 + mHp μ' = mHp μ' + 0; omega) (by show 0 + mSl μ' = mSl μ' + 0; omega) (Nat.le_trans hm1 (Nat.le_of_ble_eq_true rfl)) (Nat.le_trans hm2 (Nat.le_of_ble_eq_true rfl)) _ ?_ (fun q => by cases q)
  intro _ pc' lsA' H' locs' hIn' hR
  refine va_forget (fun q hq => hIn'.2.1.2.2 q hq) ?_
  refine W.widen (k := 601024) (n := 7293034) (Nat.le_trans hm1 (Nat.le_of_ble_eq_true rfl)) (Nat.le_trans hm2 (Nat.le_of_ble_eq_true rfl)) ?_
  exact lw_ret hx hb hr hlocks hR.1
-- ===== YOUR PART ENDS =====
set_option maxHeartbeats 4000000 in
theorem lw_walk (l : Launch) (hflags : l.flags = flags0) (b : Addr) (xs : List Int32) : MetFree l x (headSpec (Jvm.Cond.code x code maxLocals ret :: tables_1) room_1) (lw_P b xs) (fun _ _ _ _ _ => True) lw_Q := by
  refine MetFree.of_bodyS (code := code) (maxLocals := maxLocals) (ret := ret) (by decide) ?_ ?_
  · intro args s m h hn
    obtain ⟨meth, c, h1, h2, h3, h4, h5, h6, -, -⟩ := Cond.code_spec hn (atoms_spec (ws := Jvm.Cond.code x code maxLocals ret :: tables_1) h _ List.mem_cons_self)
    exact ⟨meth, c, h1, h2, h3, h4, h5, h6⟩
  · intro p e s m args below meth c s₁ B hml0 hP _
    obtain ⟨rfl, hx, hbd, hgv⟩ := hP
    obtain ⟨scr, harrAt, hlist, hof, hsmall⟩ := hx
    obtain ⟨hcb, hkn, -, -⟩ := State.arrayAt?_spec harrAt
    have hown : s.vm.findClass R_law = some m.cls := findClass_of_methodNamed B.named
    have hts0 : ∀ c ∈ (Jvm.Cond.code x code maxLocals ret :: tables_1), c.before #[Value.ref b] s = true := atoms_spec (ws := Jvm.Cond.code x code maxLocals ret :: tables_1) B.pre
    have hts : ∀ w ∈ lw_tbl, w.before #[Value.ref b] s = true := k2_hts_sels lw_privs (fun w hw => hts0 w (List.mem_cons_of_mem _ hw)) lw_privs_ok
    have hml : c.maxLocals = 8 := B.maxLocals_eq (hts0 _ List.mem_cons_self)
    have X₀ : Stand p l e room_1 s m #[Value.ref b] below meth c s₁ [] 0 0 := Stand.of_body B
    have hh0 : s₁.heap = s.heap := by rw [B.state]; rfl
    have hsz : scr.slots.size = xs.length := by rw [← Array.length_toList, hlist, List.length_map]
    have hval : ∀ j : Nat, j < xs.length → scr.slots[j]? = some (.int (xs.getD j 0)) := fun j hj => by
      rw [← Array.getElem?_toList, hlist]
      simp [hj]
    have hbl : b < s.heap.size := (Array.getElem?_eq_some_iff.mp hcb).1
    have hX : va_X b xs.length (fun j => xs.getD j 0) s s.heap := ⟨scr, hcb, hof, hkn, hsz, hval⟩
    have K : W p l e room_1 s m #[Value.ref b] below meth c s₁.heap [] 0 0 (lw_Z below #[Value.ref b] s) (entryFrame m ([Value.ref b] : List Value).toArray 8) := by
      rw [hh0]
      exact whole_start l hflags hbd ⟨B.exec, B.bytes, B.returns, hml, hown, hts, hX, hbl, B.notSynchronized, hgv, (name_of_methodNamed B.named B.method).1⟩
    obtain ⟨t, a1, o, b1, b2, b3⟩ := K s₁ rfl X₀
    exact ⟨t, o, a1, b1, b2, b3⟩
theorem lw_pre_spec {args : Array Value} {s : State} (h : (Jvm.Cond.and given_1 narrow_1).before args s = true) (hr : rest_1_c.before args s = true) : ∃ (b : Addr) (xs : List Int32), lw_P b xs args s := by
  have hs := flat_of_before _ h
  have hq := flat_of_before _ hr
  have hc : (Cond.count 1).before args s = true := hs _ (by decide +kernel)
  have harr : (Cond.arrayOf (.arg 0) .int).before args s = true := hs _ (by decide +kernel)
  have hle : (Cond.le (.length (.arg 0)) (.int 3072)).before args s = true := hs _ (by decide +kernel)
  have hlen : (Cond.isInt (.length (.arg 0))).before args s = true := hq _ (by decide +kernel)
  have hall : (Cond.all (.arg 0) (.isInt (.elem (.arg 0) (.index 0)))).before args s = true := hq _ (by decide +kernel)
  obtain ⟨b, xs, hb, hx⟩ := State.ints_of_pre rfl harr hlen hall
  have hsm : xs.length < 2 ^ 31 := hx.choose_spec.2.2.2
  have hev : (Term.length (.arg 0)).eval args s none [] s = some (.int xs.length.toInt32) := hx.length_eval hb
  have hv := Cond.le_ints hev (show (Term.int 3072).eval args s none [] s = some (.int 3072) from rfl)
  have hd : xs.length.toInt32 ≤ 3072 := by
    simpa [Cond.before, Cond.holds, hv] using hle
  have hN : xs.length ≤ 3072 := (Int32.ofNat_le_ofNat hsm (by decide)).mp (show Int32.ofNat xs.length ≤ Int32.ofNat 3072 from hd)
  exact ⟨b, xs, Cond.one_arg hc (show args[0]? = some (.ref b) from hb), hx, hN, h⟩
theorem lw_comes (l : Launch) (hflags : l.flags = flags0) : Comes l x (Jvm.Cond.code x code maxLocals ret :: tables_1) room_1 (fun tb e args s => Calls_1 tb e args s ∧ rest_1 tb e args s ∧ Pre_1 tb e args s)
    (fun _ _ args s o t => lw_Q args s o t) := by
  intro p e ha hc hk s m args below hf hfit hheap happ hpre
  obtain ⟨b, xs, hP⟩ := lw_pre_spec hpre.2.2 hpre.2.1
  obtain ⟨k, o, h1, h2, h3, hQ⟩ := lw_walk l hflags b xs p e ha hc hk s m args below hf ((Spec.applies_iff_loose hf).mp happ).1 hP trivial
  exact ⟨k, o, h1, h2, h3, hQ⟩
theorem lw_frame {s t : State} {o : Outcome} {args : Array Value} (h : Framed s o t [] 601024 7293034) :
    Framed s o t (fieldLocs frame_1_writes args s ++ arrayLocs frame_1_arrays args s ++ staticLocs frame_1_statics s) 601024 7293034 := h
theorem lw_limb (L : Cond) (hL : ∀ (args : Array Value) (s t : State), L.after args s (.returned (some (.int 1))) t = true) :
    ArmFor flags0 classFile x code maxLocals ret World_1 tables_1 room_1 Calls_1 rest_1 Pre_1
      (fun tb e a s o t => postC L tb e a s o t ∧ Framed s o t (fieldLocs frame_1_writes a s ++ arrayLocs frame_1_arrays a s ++ staticLocs frame_1_statics s) 601024 7293034) := by
  intro l hflags _ _ p e ha hc hk s m args below hf hfit hheap happ hpre
  obtain ⟨k, o, h1, h2, h3, rfl, hF⟩ := lw_comes l hflags p e ha hc hk s m args below hf hfit hheap happ hpre
  exact ⟨k, _, h1, h2, h3, hL args s _, lw_frame hF⟩
theorem i_vc : Claimed_1_1 ∧ Claimed_1_2 := ⟨lw_limb limb_1_1 (fun args s t => by simp [limb_1_1, Cond.after, Cond.holds, Cond.value]), lw_limb limb_1_2 (fun args s t => Cond.after_iff.mpr (by
  first | (rw [show limb_1_2 = Cond.eq .result (.int 1) from rfl, Cond.eq_ints (x := 1) (y := 1) rfl rfl]; simp; done) | (simp [limb_1_2, Cond.value, Term.eval]; done)))⟩

/-! the helpers that catch: their runs read backward, their contracts, and with them the soundness of the small machine for the law -/
section FWD
variable {n d M pc : Nat} {ls : Loc9} {st : List Value} {μ : Mem} {r : Res}
theorem run_up {n m : Nat} (hnm : n ≤ m) (h : run n d M pc ls st μ = some r) : run m d M pc ls st μ = some r := by
  obtain ⟨j, rfl⟩ : ∃ j, m = n + j := ⟨m - n, by omega⟩
  clear hnm
  induction j with
  | zero => exact h
  | succ j ih => exact le_run (n + j) d M pc ls st μ r ih
theorem run_some {c : Nat} {i : Instr} {q : List Nat} {v : Value} {sw : List (Int32 × Nat)} (h : run n d M pc ls st μ = some r) (hc : code9 M pc = some (c, i, q, v, sw)) : ∃ k, n = k + 1 ∧ step9 (run k) d M pc (cutA c ls) st μ i q v sw = some r := by
  cases n with
  | zero => cases h
  | succ k =>
    refine ⟨k, rfl, ?_⟩
    change (match code9 M pc with
      | some (c, i, q, v, sw) => step9 (run k) d M pc (cutA c ls) st μ i q v sw
      | none => none) = some r at h
    rw [hc] at h
    exact h
theorem f_aload_n {k : Fin 4} (h : run n d M pc ls st μ = some r) (hc : code9 M pc = some (0, .aload_n k, [1], .null, [])) : ∃ n' x, n = n' + 1 ∧ nth9 ls k.val = some (.ref x) ∧ run n' d M (pc + 1) ls (.ref x :: st) μ = some r := by
  have h0 := run_some h hc
  clear h
  obtain ⟨k', rfl, h⟩ := h0
  change (match nth9 ls k.val with
    | some (.ref x) => run k' d M (pc + 1) ls (.ref x :: st) μ
    | _ => none) = some r at h
  split at h
  · rename_i x hx
    exact ⟨k', x, rfl, hx, h⟩
  · cases h
theorem f_iload_n {k : Fin 4} (h : run n d M pc ls st μ = some r) (hc : code9 M pc = some (0, .iload_n k, [1], .null, [])) : ∃ n' x, n = n' + 1 ∧ nth9 ls k.val = some (.int x) ∧ run n' d M (pc + 1) ls (.int x :: st) μ = some r := by
  have h0 := run_some h hc
  clear h
  obtain ⟨k', rfl, h⟩ := h0
  change (match nth9 ls k.val with
    | some (.int x) => run k' d M (pc + 1) ls (.int x :: st) μ
    | _ => none) = some r at h
  split at h
  · rename_i x hx
    exact ⟨k', x, rfl, hx, h⟩
  · cases h
theorem f_iconst {k : Int} {v : Value} (h : run n d M pc ls st μ = some r) (hc : code9 M pc = some (0, .iconst k, [1], v, [])) : ∃ n', n = n' + 1 ∧ run n' d M (pc + 1) ls (v :: st) μ = some r := by
  have h0 := run_some h hc
  clear h
  obtain ⟨k', rfl, h⟩ := h0
  exact ⟨k', rfl, h⟩
theorem f_i2l {x : Int32} (h : run n d M pc ls (.int x :: st) μ = some r) (hc : code9 M pc = some (0, .i2l, [1], .null, [])) : ∃ n', n = n' + 1 ∧ run n' d M (pc + 1) ls (.long x.toInt64 :: st) μ = some r := by
  have h0 := run_some h hc
  clear h
  obtain ⟨k', rfl, h⟩ := h0
  exact ⟨k', rfl, h⟩
theorem f_last {x : Int64} {i : Int32} {a : Nat} (h : run n d M pc ls (.long x :: .int i :: .ref a :: st) μ = some r) (hc : code9 M pc = some (0, .lastore, [1], .null, [])) : ∃ n', n = n' + 1 ∧ ((mSh μ a).1 = 4 ∧ in9 i (mSh μ a).2) ∧ run n' d M (pc + 1) ls st (wJ μ a i.toNatClampNeg x) = some r := by
  have h0 := run_some h hc
  clear h
  obtain ⟨k', rfl, h⟩ := h0
  change (if (mSh μ a).1 = 4 ∧ in9 i (mSh μ a).2 then run k' d M (pc + 1) ls st (wJ μ a i.toNatClampNeg x) else none) = some r at h
  split at h
  · rename_i hs
    exact ⟨k', rfl, hs, h⟩
  · cases h
theorem f_goto {z : Int} {t k : Nat} (h : run n d M pc ls st μ = some r) (hc : code9 M pc = some (0, .goto z, [3, t, k], .null, [])) : ∃ n', n = n' + 1 ∧ run n' d M t (cut9 k ls) st μ = some r := by
  have h0 := run_some h hc
  clear h
  obtain ⟨k', rfl, h⟩ := h0
  exact ⟨k', rfl, h⟩
theorem f_astore {c k x : Nat} (h : run n d M pc ls (.ref x :: st) μ = some r) (hc : code9 M pc = some (c, .astore k, [2], .null, [])) : ∃ n', n = n' + 1 ∧ run n' d M (pc + 2) (st1 (cutA c ls) k (.ref x)) st μ = some r := by
  have h0 := run_some h hc
  clear h
  obtain ⟨k', rfl, h⟩ := h0
  exact ⟨k', rfl, h⟩
theorem f_iret {x : Int32} (h : run n d M pc ls [.int x] μ = some r) (hc : code9 M pc = some (0, .ireturn, [1, 1], .null, [])) : r = (some (.int x), false, μ) := by
  have h0 := run_some h hc
  clear h
  obtain ⟨k', rfl, h⟩ := h0
  exact (Option.some.inj h).symm
theorem f_callI {z M' nl hd a : Nat} {l1 l2 : Int32} (h : run n d M pc ls (.int l2 :: .int l1 :: .ref a :: st) μ = some r) (hc : code9 M pc = some (0, .invokevirtual z, [3, M', 3, 1, 1, nl, 11, hd + 1], .null, [])) : ∃ n' d', n = n' + 1 ∧ d = d' + 1 ∧ cat9 st = true ∧ Nat.ble (cs9 [.ref a, .int l1, .int l2]) nl = true ∧ mSh μ a = (0, 11) ∧ ((∃ (v : Int32) (μ2 : Mem), run n' d' M' 0 (arg9 nl [.ref a, .int l1, .int l2]) [] μ = some (some (.int v), false, μ2) ∧ run n' (d' + 1) M (pc + 3) ls (.int v :: st) μ2 = some r) ∨ ∃ μ2, run n' d' M' 0 (arg9 nl [.ref a, .int l1, .int l2]) [] μ = some (none, true, μ2) ∧ run n' (d' + 1) M hd ls [.ref (mHp μ2 - 1)] μ2 = some r) := by
  have h0 := run_some h hc
  clear h
  obtain ⟨k, rfl, h⟩ := h0
  change call9 (run k) d M pc ls (.int l2 :: .int l1 :: .ref a :: st) μ M' 3 1 1 nl 11 (hd + 1) = some r at h
  unfold call9 at h
  cases d with
  | zero => cases h
  | succ d' =>
    change (bif cat9 st && Nat.ble (cs9 [.ref a, .int l1, .int l2]) nl then (if mSh μ a = (0, 11) then cI (run k d' M' 0 (arg9 nl [.ref a, .int l1, .int l2]) [] μ) (fun x μ => run k (d' + 1) M (pc + 3) ls (.int x :: st) μ) (fun μ => run k (d' + 1) M hd ls [.ref (mHp μ - 1)] μ) else none) else none) = some r at h
    cases hcat : (cat9 st && Nat.ble (cs9 [.ref a, .int l1, .int l2]) nl) with
    | false => rw [hcat] at h; cases h
    | true =>
      rw [hcat] at h
      rw [Bool.and_eq_true] at hcat
      change (if mSh μ a = (0, 11) then _ else none) = some r at h
      split at h
      · rename_i hs
        refine ⟨k, d', rfl, rfl, hcat.1, hcat.2, hs, ?_⟩
        unfold cI at h
        split at h
        · rename_i x μ2 he
          exact Or.inl ⟨x, μ2, he, h⟩
        · rename_i μ2 he
          exact Or.inr ⟨μ2, he, h⟩
        · cases h
      · cases h
theorem f_callJ {z M' nl hd a : Nat} {l1 l2 : Int32} (h : run n d M pc ls (.int l2 :: .int l1 :: .ref a :: st) μ = some r) (hc : code9 M pc = some (0, .invokevirtual z, [3, M', 3, 1, 2, nl, 11, hd + 1], .null, [])) : ∃ n' d', n = n' + 1 ∧ d = d' + 1 ∧ cat9 st = true ∧ Nat.ble (cs9 [.ref a, .int l1, .int l2]) nl = true ∧ mSh μ a = (0, 11) ∧ ((∃ (v : Int64) (μ2 : Mem), run n' d' M' 0 (arg9 nl [.ref a, .int l1, .int l2]) [] μ = some (some (.long v), false, μ2) ∧ run n' (d' + 1) M (pc + 3) ls (.long v :: st) μ2 = some r) ∨ ∃ μ2, run n' d' M' 0 (arg9 nl [.ref a, .int l1, .int l2]) [] μ = some (none, true, μ2) ∧ run n' (d' + 1) M hd ls [.ref (mHp μ2 - 1)] μ2 = some r) := by
  have h0 := run_some h hc
  clear h
  obtain ⟨k, rfl, h⟩ := h0
  change call9 (run k) d M pc ls (.int l2 :: .int l1 :: .ref a :: st) μ M' 3 1 2 nl 11 (hd + 1) = some r at h
  unfold call9 at h
  cases d with
  | zero => cases h
  | succ d' =>
    change (bif cat9 st && Nat.ble (cs9 [.ref a, .int l1, .int l2]) nl then (if mSh μ a = (0, 11) then cJ (run k d' M' 0 (arg9 nl [.ref a, .int l1, .int l2]) [] μ) (fun x μ => run k (d' + 1) M (pc + 3) ls (.long x :: st) μ) (fun μ => run k (d' + 1) M hd ls [.ref (mHp μ - 1)] μ) else none) else none) = some r at h
    cases hcat : (cat9 st && Nat.ble (cs9 [.ref a, .int l1, .int l2]) nl) with
    | false => rw [hcat] at h; cases h
    | true =>
      rw [hcat] at h
      rw [Bool.and_eq_true] at hcat
      change (if mSh μ a = (0, 11) then _ else none) = some r at h
      split at h
      · rename_i hs
        refine ⟨k, d', rfl, rfl, hcat.1, hcat.2, hs, ?_⟩
        unfold cJ at h
        split at h
        · rename_i x μ2 he
          exact Or.inl ⟨x, μ2, he, h⟩
        · rename_i μ2 he
          exact Or.inr ⟨μ2, he, h⟩
        · cases h
      · cases h
end FWD
theorem fr_find {n d : Nat} {ls : Loc9} {μ μ1 : Mem} {x : Int32} (h : run n d 301 0 ls [] μ = some (some (.int x), false, μ1)) : ∃ (n' d' o a : Nat) (l1 l2 : Int32), n' ≤ n ∧ d = d' + 1 ∧ nth9 ls 3 = some (.ref o) ∧ nth9 ls 0 = some (.ref a) ∧ nth9 ls 1 = some (.int l1) ∧ nth9 ls 2 = some (.int l2) ∧ mSh μ a = (0, 11) ∧ ((∃ (v : Int32) (μ2 : Mem), run n' d' 165 0 (arg9 3 [.ref a, .int l1, .int l2]) [] μ = some (some (.int v), false, μ2) ∧ ((mSh μ2 o).1 = 4 ∧ in9 0 (mSh μ2 o).2) ∧ x = 0 ∧ μ1 = wJ μ2 o (0 : Int32).toNatClampNeg v.toInt64) ∨ (run n' d' 165 0 (arg9 3 [.ref a, .int l1, .int l2]) [] μ = some (none, true, μ1) ∧ x = 1)) := by
  obtain ⟨n1, o, e1, q3, h1⟩ := f_aload_n h cd301_0
  obtain ⟨n2, e2, h2⟩ := f_iconst h1 cd301_1
  obtain ⟨n3, a, e3, q0, h3⟩ := f_aload_n h2 cd301_2
  obtain ⟨n4, l1, e4, q1, h4⟩ := f_iload_n h3 cd301_3
  obtain ⟨n5, l2, e5, q2, h5⟩ := f_iload_n h4 cd301_4
  obtain ⟨n6, d', e6, ed, -, -, hs, h6⟩ := f_callI h5 cd301_5
  refine ⟨n6, d', o, a, l1, l2, by omega, ed, q3, q0, q1, q2, hs, ?_⟩
  rcases h6 with ⟨v, μ2, hr, h7⟩ | ⟨μ2, hr, h7⟩
  · obtain ⟨n7, e7, h7⟩ := f_i2l h7 cd301_8
    obtain ⟨n8, e8, hs2, h8⟩ := f_last h7 cd301_9
    obtain ⟨n9, e9, h9⟩ := f_goto h8 cd301_10
    obtain ⟨n10, e10, h10⟩ := f_iconst h9 cd301_17
    have e := f_iret h10 cd301_18
    cases e
    exact Or.inl ⟨v, μ2, hr, hs2, rfl, rfl⟩
  · obtain ⟨n8, e8, h8⟩ := f_astore h7 cd301_13
    obtain ⟨n10, e10, h10⟩ := f_iconst h8 cd301_15
    have e := f_iret h10 cd301_16
    cases e
    exact Or.inr ⟨hr, rfl⟩
theorem dk301_0 : decode (mB9 301) 0 = .ok (.aload_n 3, 1) := by decide +kernel
theorem dk301_1 : decode (mB9 301) 1 = .ok (.iconst 0, 1) := by decide +kernel
theorem dk301_2 : decode (mB9 301) 2 = .ok (.aload_n 0, 1) := by decide +kernel
theorem dk301_3 : decode (mB9 301) 3 = .ok (.iload_n 1, 1) := by decide +kernel
theorem dk301_4 : decode (mB9 301) 4 = .ok (.iload_n 2, 1) := by decide +kernel
theorem dk301_5 : decode (mB9 301) 5 = .ok (.invokevirtual 7, 3) := by decide +kernel
theorem dk301_8 : decode (mB9 301) 8 = .ok (.i2l, 1) := by decide +kernel
theorem dk301_9 : decode (mB9 301) 9 = .ok (.lastore, 1) := by decide +kernel
theorem dk301_10 : decode (mB9 301) 10 = .ok (.goto 7, 3) := by decide +kernel
theorem dk301_13 : decode (mB9 301) 13 = .ok (.astore 4, 2) := by decide +kernel
theorem dk301_15 : decode (mB9 301) 15 = .ok (.iconst 1, 1) := by decide +kernel
theorem dk301_16 : decode (mB9 301) 16 = .ok (.ireturn, 1) := by decide +kernel
theorem dk301_17 : decode (mB9 301) 17 = .ok (.iconst 0, 1) := by decide +kernel
theorem dk301_18 : decode (mB9 301) 18 = .ok (.ireturn, 1) := by decide +kernel
theorem wk301 : Cond.codeWith (mY9 301) (mB9 301) 5 (some .int) [(0, 10, 13, 13)] ∈ G9 := g9p (i := 1339) (by decide +kernel) rfl
set_option maxHeartbeats 1000000 in
theorem hm_find {l : Launch} {b0 : Nat} {cst : Nat → Nat} {D : va_G} {cA : Nat → ClassId} {n d : Nat} {as : List Value} {μ μ1 : Mem} {x : Int32} (hl9 : l.stackTraces = false) (ih : Snd9 l b0 cst D cA n) (h : run n d 301 0 (arg9 5 as) [] μ = some (some (.int x), false, μ1)) (hw : Nat.ble (cs9 as) 5 = true) :
    Met l (mY9 301) (Cond.codeWith (mY9 301) (mB9 301) 5 (some .int) [(0, 10, 13, 13)] :: G9) { frames := d, cells := mHp μ1 - mHp μ, slots := mSl μ1 - mSl μ, locals := 60 * d } (va_Pc (as.map (tv9 b0 cst)) (fun U => Wd9 b0 cst D cA μ U.heap ∧ S9 D cA U ∧ sc9 b0 cst μ U ∧ b0 ≤ U.heap.size))
      (fun _ st o t => (o = .returned ((some (Value.int x)).map (tv9 b0 cst)) ∧ Wd9 b0 cst D cA μ1 t.heap ∧ sc9 b0 cst μ1 t) ∧ va_F (fun q => b0 ≤ q) st t) (mHp μ1 - mHp μ) (mSl μ1 - mSl μ) (fun q => b0 ≤ q) := by
  obtain ⟨n', d', o, a, l1, l2, hn, rfl, q3, q0, q1, q2, hs, hrr⟩ := fr_find h
  refine va_MetW (cc := mB9 301) (maxL := 5) (ret := some .int) (hh := [(0, 10, 13, 13)]) (by decide +kernel) rfl ?_
  intro p e s m args below meth c s₁ B hml hv
  obtain ⟨rfl, hW, hS, hX, hb0⟩ := hv
  have hx := B.exec
  have hb := B.bytes
  have hr := B.returns
  have hlocks := B.notSynchronized
  have hts0 := atoms_spec (ws := Cond.codeWith (mY9 301) (mB9 301) 5 (some .int) [(0, 10, 13, 13)] :: G9) B.pre
  have hts : ∀ w ∈ G9, w.before _ s = true := fun w hw => hts0 w (List.mem_cons_of_mem _ hw)
  have hown : s.vm.findClass "HiddenOrLostLaw" = some m.cls := findClass_of_methodNamed B.named
  have htab : c.exceptionTable.toList = tableOf [(0, 10, 13, 13)] := vx_table (x := mY9 301) B (hts0 _ List.mem_cons_self)
  obtain ⟨hK, hN, hAO⟩ := id hS
  have hIn : In9 b0 cst D cA s μ s.heap [] := ⟨hW, va_S.rf, hX⟩
  have ha : a < mHp μ := hW.2.1.2.1 a (by rw [hs]; exact Nat.zero_le _)
  have haF : a < oFF := Nat.lt_of_lt_of_le ha hW.2.1.1
  have hO := (hW.2.2 a ha).obj hs
  obtain ⟨cellB, c1, c2, c3, -⟩ := hO.2
  have hB : ∃ cellB : Cell, s.heap[b0 + a]? = some cellB ∧ cellB.vm.isStatics = false ∧ s.vm.findClass (cn9 (mO9 165)) = some cellB.cls := ⟨cellB, c1, by rw [c3]; rfl, by rw [c2]; exact (hK.1 11 (by decide)).2.1⟩
  have hok := okM9_all (show 165 < 301 by decide)
  obtain ⟨o1, o2, o3, o4, -, o6⟩ := okM9_spec hok
  obtain ⟨o7, o8⟩ := o6 (by decide +kernel)
  have hcs3 : Nat.ble (cs9 [.ref a, .int l1, .int l2]) (mL9 165) = true := rfl
  have hgood := goodC (cw9_all (show 165 < 301 by decide))
  have hlink := mLk9 (M := 301) (z := 7) (M' := 165) (by decide +kernel)
  have hpre : ∀ U : State, U.heap = s.heap → s.WarmedH U.vm → va_Pc (Value.ref (b0 + a) :: [.int l1, .int l2]) (fun U => Wd9 b0 cst D cA μ U.heap ∧ S9 D cA U ∧ sc9 b0 cst μ U ∧ b0 ≤ U.heap.size) (Value.ref (b0 + a) :: [.int l1, .int l2]).toArray U := fun U hU hW' => ⟨rfl, by rw [hU]; exact hW, ⟨hK.moved hW'.alike, hN.warm hW', hAO.moved hW'.alike⟩, hX.moved hW'.alike (fun q _ => by rw [hU]) (hX.2.warm hW' (fun q _ => by rw [hU])), by rw [hU]; exact hb0⟩
  have hbl : FrameBlind (va_Pc (Value.ref (b0 + a) :: [.int l1, .int l2]) (fun U => Wd9 b0 cst D cA μ U.heap ∧ S9 D cA U ∧ sc9 b0 cst μ U ∧ b0 ≤ U.heap.size)) := fun a U g mk q => by obtain ⟨q0, qW, qS, qX, qb⟩ := q; exact ⟨q0, qW, ⟨qS.1.moved (u := U) (U := U.calling g mk a) (Vm.Alike.refl U.vm), qS.2.1.same (u := U) (U := U.calling g mk a) rfl, qS.2.2.moved (u := U) (U := U.calling g mk a) (Vm.Alike.refl U.vm)⟩, qX.moved (u := U) (U := U.calling g mk a) (Vm.Alike.refl U.vm) (fun _ _ => rfl) (qX.2.same (u := U) (U := U.calling g mk a) rfl rfl), qb⟩
  rw [lg_entry_eq]
  have hl := lk9_entry (b0 := b0) (cst := cst) (as := as) (n := 5) hw
  generalize ((lg_sl (as.map (tv9 b0 cst)) ++ List.replicate (5 - (lg_sl (as.map (tv9 b0 cst))).length) Slot.unset).toArray) = ls at hl ⊢
  refine lv_aload_n (i := 3) (x := rho9 b0 cst o) hx hb dk301_0 rfl (hl.2.2 _ _ q3) ?_
  refine lv_iconst (v := 0) hx hb dk301_1 (by decide) ?_
  refine lv_aload_n (i := 0) (x := rho9 b0 cst a) hx hb dk301_2 rfl (hl.2.2 _ _ q0) ?_
  refine lv_iload_n (i := 1) hx hb dk301_3 rfl (hl.2.2 _ _ q1) ?_
  refine lv_iload_n (i := 2) hx hb dk301_4 rfl (hl.2.2 _ _ q2) ?_
  rw [rho9_lt haF]
  rcases hrr with ⟨v, μ2, hrun, hs2, rfl, hμ1⟩ | ⟨hrun, rfl⟩
  · have hmo1 : mHp μ ≤ mHp μ2 ∧ mSl μ ≤ mSl μ2 := mo_run n' _ _ _ _ _ _ _ hrun
    have hmu : mHp μ1 = mHp μ2 ∧ mSl μ1 = mSl μ2 := by rw [hμ1]; exact ⟨rfl, rfl⟩
    have hmet := s_met ih (show 165 < 301 by decide) (run_up hn hrun) hcs3 hok
    rw [show ([Value.ref a, .int l1, .int l2].map (tv9 b0 cst)) = Value.ref (b0 + a) :: [.int l1, .int l2] from by show Value.ref (rho9 b0 cst a) :: _ = _; rw [rho9_lt haF]; rfl] at hmet
    have hcb := callB_of (R := { frames := d' + 1, cells := mHp μ1 - mHp μ, slots := mSl μ1 - mSl μ, locals := 60 * (d' + 1) }) (own := "HiddenOrLostLaw") (index := 7) (rm := { frames := d', cells := mHp μ2 - mHp μ, slots := mSl μ2 - mSl μ, locals := 60 * d' }) 2 hts hgood rfl rfl rfl (hts _ (by rw [o2]; exact o1)) (hts _ hlink) ⟨o3.1, o3.2, by decide +kernel⟩ ⟨Nat.le_refl _, by show 8 + (mL9 165 + 11) + 60 * d' ≤ 60 * (d' + 1); omega⟩
    have hrv := va_runV (l := l) (e := e) (locs := []) (meth := meth) (below := below) (cells := 0) (slots := 0) (mc := mHp μ2 - mHp μ) (ms := mSl μ2 - mSl μ) (rest := [.int 0, .ref (rho9 b0 cst o)]) (C := cn9 (mO9 165)) (As := [.int l1, .int l2]) (b := b0 + a) (g := F0 m 5 ls [.int l2, .int l1, .ref (b0 + a), .int 0, .ref (rho9 b0 cst o)]) ⟨hx, hb, hml, hown, hts⟩ hmet ⟨hcb, hts _ o7, hts _ (o8 (by decide +kernel))⟩ ⟨hbl, hB, hpre⟩ rfl rfl hl.1 rfl (lv_room (Nat.le_of_ble_eq_true rfl)) dk301_5 ⟨by show 0 + _ ≤ mHp μ1 - mHp μ; omega, by show 0 + _ ≤ mSl μ1 - mSl μ; omega⟩
    refine s_back hrv hIn hb0 (fun H1 locs1 hIn1 => ?_)
    have ho : o < mHp μ2 := hIn1.1.2.1.2.1 o (by rw [hs2.1]; decide)
    have hoF : o < oFF := Nat.lt_of_lt_of_le ho hIn1.1.2.1.1
    rw [rho9_lt hoF]
    show W p l e _ s m _ below meth c H1 locs1 (0 + (mHp μ2 - mHp μ)) (0 + (mSl μ2 - mSl μ)) _ (F0 m 8 ls [.int v, .int 0, .ref (b0 + o)])
    refine lv_i2l hx hb dk301_8 rfl ?_
    refine s_last hx hb hK ((hIn1.1.2.2 o ho).arrL hs2.1) hs2.2 dk301_9 (fun H2 k e1 hz hq => ?_)
    have hIn2 : In9 b0 cst D cA s μ1 H2 (locs1 ++ [⟨b0 + o, k⟩]) := by
      rw [hμ1]
      exact hIn1.set rfl rfl ho (fun b hb => ⟨rfl, up2_ne hb, rfl⟩) (CR9.arrJ (pr_eta hs2.1) e1) hz hq (fun y hy => by rcases List.mem_singleton.mp hy with rfl; rfl)
    refine lv_goto (tgt := 17) hx hb dk301_10 (by decide) ?_
    refine lv_iconst (v := 0) hx hb dk301_17 (by decide) ?_
    rw [show 0 + (mHp μ2 - mHp μ) = mHp μ1 - mHp μ by omega, show 0 + (mSl μ2 - mSl μ) = mSl μ1 - mSl μ by omega]
    exact W.iret (v := 0) hx hb hr (fun t ht hW' => ⟨⟨rfl, by rw [ht]; exact hIn2.1, hIn2.2.2.moved hW'.alike (fun q hq => by rw [ht]; exact hIn2.2.1.2.1 q (by omega) (by omega)) (hX.2.warm hW' (fun q hq => by rw [ht]; exact hIn2.2.1.2.1 q (by omega) (by omega)))⟩, hIn2.2.1.F ht⟩) hIn2.2.1.2.2 dk301_18
  · have hmo1 : mHp μ ≤ mHp μ1 ∧ mSl μ ≤ mSl μ1 := mo_run n' _ _ _ _ _ _ _ hrun
    have hmet := x_met hl9 ih (show 165 < 301 by decide) (run_up hn hrun) hcs3 hok
    rw [show ([Value.ref a, .int l1, .int l2].map (tv9 b0 cst)) = Value.ref (b0 + a) :: [.int l1, .int l2] from by show Value.ref (rho9 b0 cst a) :: _ = _; rw [rho9_lt haF]; rfl] at hmet
    have hcb := callB_of (R := { frames := d' + 1, cells := mHp μ1 - mHp μ, slots := mSl μ1 - mSl μ, locals := 60 * (d' + 1) }) (own := "HiddenOrLostLaw") (index := 7) (rm := { frames := d', cells := mHp μ1 - mHp μ, slots := mSl μ1 - mSl μ, locals := 60 * d' }) 2 hts hgood rfl rfl rfl (hts _ (by rw [o2]; exact o1)) (hts _ hlink) ⟨o3.1, o3.2, by decide +kernel⟩ ⟨Nat.le_refl _, by show 8 + (mL9 165 + 11) + 60 * d' ≤ 60 * (d' + 1); omega⟩
    have hrv := vx_runV (l := l) (e := e) (locs := []) (meth := meth) (below := below) (cells := 0) (slots := 0) (mc := mHp μ1 - mHp μ) (ms := mSl μ1 - mSl μ) (rest := [.int 0, .ref (rho9 b0 cst o)]) (C := cn9 (mO9 165)) (As := [.int l1, .int l2]) (b := b0 + a) (g := F0 m 5 ls [.int l2, .int l1, .ref (b0 + a), .int 0, .ref (rho9 b0 cst o)]) ⟨hx, hb, hml, hown, hts⟩ hmet ⟨hcb, hts _ o7, hts _ (o8 (by decide +kernel))⟩ ⟨hbl, hB, hpre⟩ rfl rfl hl.1 rfl (lv_room (Nat.le_of_ble_eq_true rfl)) dk301_5 ⟨by show 0 + _ ≤ mHp μ1 - mHp μ; omega, by show 0 + _ ≤ mSl μ1 - mSl μ; omega⟩
    intro T hT X
    rcases hrv T hT X with ⟨v, st₀, t, T', L, h0, X', hL, e1, e2, hf, st⟩ | ⟨q, st₀, t, T', L, E, ce, h0, X', hL, e1, e2, ⟨hE, hW1, hX1, hF1⟩, hce, hcv, hcl, st⟩
    · exact hf.elim
    · subst hE
      obtain ⟨hz, hk⟩ := hF1
      rw [h0] at hz hk
      have hal : s.vm.Alike t.vm := by rw [← e2]; exact X'.warmed.alike
      have hIn2 : In9 b0 cst D cA s μ1 T'.heap ([] ++ L) := ⟨by rw [e1]; exact hW1, ⟨by rw [e1]; exact hz, fun q h1 h2 => by rw [e1]; exact hk q h1 h2, fun q hq => hL q hq⟩, hX1.moved hal.symm (fun q hq => (hk q (by omega) (by omega)).symm) hX.2⟩
      have kk : W p l e { frames := d' + 1, cells := mHp μ1 - mHp μ, slots := mSl μ1 - mSl μ, locals := 60 * (d' + 1) } s m (as.map (tv9 b0 cst)).toArray below meth c T'.heap ([] ++ L) (0 + (mHp μ1 - mHp μ)) (0 + (mSl μ1 - mSl μ)) (MQ below (fun _ st o t => (o = .returned ((some (Value.int 1)).map (tv9 b0 cst)) ∧ Wd9 b0 cst D cA μ1 t.heap ∧ sc9 b0 cst μ1 t) ∧ va_F (fun q => b0 ≤ q) st t) (as.map (tv9 b0 cst)).toArray s (mHp μ1 - mHp μ) (mSl μ1 - mSl μ) (fun q => b0 ≤ q)) (F0 m 13 ls [.ref q]) := by
        refine lv_astore (nL := 5) (lv := []) hx hb dk301_13 ⟨hl.1, hl.2.1, fun _ h => nomatch h⟩ (by decide) rfl (fun ls' hl' => ?_)
        refine lv_iconst (v := 1) hx hb dk301_15 (by decide) ?_
        rw [show 0 + (mHp μ1 - mHp μ) = mHp μ1 - mHp μ by omega, show 0 + (mSl μ1 - mSl μ) = mSl μ1 - mSl μ by omega]
        exact W.iret (v := 1) hx hb hr (fun t ht hW' => ⟨⟨rfl, by rw [ht]; exact hIn2.1, hIn2.2.2.moved hW'.alike (fun q hq => by rw [ht]; exact hIn2.2.1.2.1 q (by omega) (by omega)) (hX.2.warm hW' (fun q hq => by rw [ht]; exact hIn2.2.1.2.1 q (by omega) (by omega)))⟩, hIn2.2.1.F ht⟩) hIn2.2.1.2.2 dk301_16
      have kx := vx_catch (pc := 5) (rest := [.int 0, .ref (rho9 b0 cst o)]) (own := "HiddenOrLostLaw") (name := nse9) (E := nse9) (ce := ce) (q := q) hown [] ⟨0, 10, 13, 13⟩ [] htab (fun _ h => nomatch h) (by decide) (by decide) (hts _ (g9p (i := 1340) (by decide +kernel) rfl)) (cst9 hts) (by rw [e1]; exact hce) hcv hcl kk
      obtain ⟨t2, a1, b1⟩ := kx T' rfl X'
      exact ⟨t2, st.trans a1, b1⟩
theorem fr_belief {n d : Nat} {ls : Loc9} {μ μ1 : Mem} {x : Int32} (h : run n d 302 0 ls [] μ = some (some (.int x), false, μ1)) : ∃ (n' d' o a : Nat) (l1 l2 : Int32), n' ≤ n ∧ d = d' + 1 ∧ nth9 ls 3 = some (.ref o) ∧ nth9 ls 0 = some (.ref a) ∧ nth9 ls 1 = some (.int l1) ∧ nth9 ls 2 = some (.int l2) ∧ mSh μ a = (0, 11) ∧ ((∃ (v : Int64) (μ2 : Mem), run n' d' 166 0 (arg9 3 [.ref a, .int l1, .int l2]) [] μ = some (some (.long v), false, μ2) ∧ ((mSh μ2 o).1 = 4 ∧ in9 0 (mSh μ2 o).2) ∧ x = 0 ∧ μ1 = wJ μ2 o (0 : Int32).toNatClampNeg v) ∨ (run n' d' 166 0 (arg9 3 [.ref a, .int l1, .int l2]) [] μ = some (none, true, μ1) ∧ x = 1)) := by
  obtain ⟨n1, o, e1, q3, h1⟩ := f_aload_n h cd302_0
  obtain ⟨n2, e2, h2⟩ := f_iconst h1 cd302_1
  obtain ⟨n3, a, e3, q0, h3⟩ := f_aload_n h2 cd302_2
  obtain ⟨n4, l1, e4, q1, h4⟩ := f_iload_n h3 cd302_3
  obtain ⟨n5, l2, e5, q2, h5⟩ := f_iload_n h4 cd302_4
  obtain ⟨n6, d', e6, ed, -, -, hs, h6⟩ := f_callJ h5 cd302_5
  refine ⟨n6, d', o, a, l1, l2, by omega, ed, q3, q0, q1, q2, hs, ?_⟩
  rcases h6 with ⟨v, μ2, hr, h7⟩ | ⟨μ2, hr, h7⟩
  · obtain ⟨n8, e8, hs2, h8⟩ := f_last h7 cd302_8
    obtain ⟨n9, e9, h9⟩ := f_goto h8 cd302_9
    obtain ⟨n10, e10, h10⟩ := f_iconst h9 cd302_16
    have e := f_iret h10 cd302_17
    cases e
    exact Or.inl ⟨v, μ2, hr, hs2, rfl, rfl⟩
  · obtain ⟨n8, e8, h8⟩ := f_astore h7 cd302_12
    obtain ⟨n10, e10, h10⟩ := f_iconst h8 cd302_14
    have e := f_iret h10 cd302_15
    cases e
    exact Or.inr ⟨hr, rfl⟩
theorem dk302_0 : decode (mB9 302) 0 = .ok (.aload_n 3, 1) := by decide +kernel
theorem dk302_1 : decode (mB9 302) 1 = .ok (.iconst 0, 1) := by decide +kernel
theorem dk302_2 : decode (mB9 302) 2 = .ok (.aload_n 0, 1) := by decide +kernel
theorem dk302_3 : decode (mB9 302) 3 = .ok (.iload_n 1, 1) := by decide +kernel
theorem dk302_4 : decode (mB9 302) 4 = .ok (.iload_n 2, 1) := by decide +kernel
theorem dk302_5 : decode (mB9 302) 5 = .ok (.invokevirtual 15, 3) := by decide +kernel
theorem dk302_8 : decode (mB9 302) 8 = .ok (.lastore, 1) := by decide +kernel
theorem dk302_9 : decode (mB9 302) 9 = .ok (.goto 7, 3) := by decide +kernel
theorem dk302_12 : decode (mB9 302) 12 = .ok (.astore 4, 2) := by decide +kernel
theorem dk302_14 : decode (mB9 302) 14 = .ok (.iconst 1, 1) := by decide +kernel
theorem dk302_15 : decode (mB9 302) 15 = .ok (.ireturn, 1) := by decide +kernel
theorem dk302_16 : decode (mB9 302) 16 = .ok (.iconst 0, 1) := by decide +kernel
theorem dk302_17 : decode (mB9 302) 17 = .ok (.ireturn, 1) := by decide +kernel
theorem wk302 : Cond.codeWith (mY9 302) (mB9 302) 5 (some .int) [(0, 9, 12, 13)] ∈ G9 := g9p (i := 1408) (by decide +kernel) rfl
set_option maxHeartbeats 1000000 in
theorem hm_belief {l : Launch} {b0 : Nat} {cst : Nat → Nat} {D : va_G} {cA : Nat → ClassId} {n d : Nat} {as : List Value} {μ μ1 : Mem} {x : Int32} (hl9 : l.stackTraces = false) (ih : Snd9 l b0 cst D cA n) (h : run n d 302 0 (arg9 5 as) [] μ = some (some (.int x), false, μ1)) (hw : Nat.ble (cs9 as) 5 = true) :
    Met l (mY9 302) (Cond.codeWith (mY9 302) (mB9 302) 5 (some .int) [(0, 9, 12, 13)] :: G9) { frames := d, cells := mHp μ1 - mHp μ, slots := mSl μ1 - mSl μ, locals := 60 * d } (va_Pc (as.map (tv9 b0 cst)) (fun U => Wd9 b0 cst D cA μ U.heap ∧ S9 D cA U ∧ sc9 b0 cst μ U ∧ b0 ≤ U.heap.size))
      (fun _ st o t => (o = .returned ((some (Value.int x)).map (tv9 b0 cst)) ∧ Wd9 b0 cst D cA μ1 t.heap ∧ sc9 b0 cst μ1 t) ∧ va_F (fun q => b0 ≤ q) st t) (mHp μ1 - mHp μ) (mSl μ1 - mSl μ) (fun q => b0 ≤ q) := by
  obtain ⟨n', d', o, a, l1, l2, hn, rfl, q3, q0, q1, q2, hs, hrr⟩ := fr_belief h
  refine va_MetW (cc := mB9 302) (maxL := 5) (ret := some .int) (hh := [(0, 9, 12, 13)]) (by decide +kernel) rfl ?_
  intro p e s m args below meth c s₁ B hml hv
  obtain ⟨rfl, hW, hS, hX, hb0⟩ := hv
  have hx := B.exec
  have hb := B.bytes
  have hr := B.returns
  have hlocks := B.notSynchronized
  have hts0 := atoms_spec (ws := Cond.codeWith (mY9 302) (mB9 302) 5 (some .int) [(0, 9, 12, 13)] :: G9) B.pre
  have hts : ∀ w ∈ G9, w.before _ s = true := fun w hw => hts0 w (List.mem_cons_of_mem _ hw)
  have hown : s.vm.findClass "HiddenOrLostLaw" = some m.cls := findClass_of_methodNamed B.named
  have htab : c.exceptionTable.toList = tableOf [(0, 9, 12, 13)] := vx_table (x := mY9 302) B (hts0 _ List.mem_cons_self)
  obtain ⟨hK, hN, hAO⟩ := id hS
  have hIn : In9 b0 cst D cA s μ s.heap [] := ⟨hW, va_S.rf, hX⟩
  have ha : a < mHp μ := hW.2.1.2.1 a (by rw [hs]; exact Nat.zero_le _)
  have haF : a < oFF := Nat.lt_of_lt_of_le ha hW.2.1.1
  have hO := (hW.2.2 a ha).obj hs
  obtain ⟨cellB, c1, c2, c3, -⟩ := hO.2
  have hB : ∃ cellB : Cell, s.heap[b0 + a]? = some cellB ∧ cellB.vm.isStatics = false ∧ s.vm.findClass (cn9 (mO9 166)) = some cellB.cls := ⟨cellB, c1, by rw [c3]; rfl, by rw [c2]; exact (hK.1 11 (by decide)).2.1⟩
  have hok := okM9_all (show 166 < 301 by decide)
  obtain ⟨o1, o2, o3, o4, -, o6⟩ := okM9_spec hok
  obtain ⟨o7, o8⟩ := o6 (by decide +kernel)
  have hcs3 : Nat.ble (cs9 [.ref a, .int l1, .int l2]) (mL9 166) = true := rfl
  have hgood := goodC (cw9_all (show 166 < 301 by decide))
  have hlink := mLk9 (M := 302) (z := 15) (M' := 166) (by decide +kernel)
  have hpre : ∀ U : State, U.heap = s.heap → s.WarmedH U.vm → va_Pc (Value.ref (b0 + a) :: [.int l1, .int l2]) (fun U => Wd9 b0 cst D cA μ U.heap ∧ S9 D cA U ∧ sc9 b0 cst μ U ∧ b0 ≤ U.heap.size) (Value.ref (b0 + a) :: [.int l1, .int l2]).toArray U := fun U hU hW' => ⟨rfl, by rw [hU]; exact hW, ⟨hK.moved hW'.alike, hN.warm hW', hAO.moved hW'.alike⟩, hX.moved hW'.alike (fun q _ => by rw [hU]) (hX.2.warm hW' (fun q _ => by rw [hU])), by rw [hU]; exact hb0⟩
  have hbl : FrameBlind (va_Pc (Value.ref (b0 + a) :: [.int l1, .int l2]) (fun U => Wd9 b0 cst D cA μ U.heap ∧ S9 D cA U ∧ sc9 b0 cst μ U ∧ b0 ≤ U.heap.size)) := fun a U g mk q => by obtain ⟨q0, qW, qS, qX, qb⟩ := q; exact ⟨q0, qW, ⟨qS.1.moved (u := U) (U := U.calling g mk a) (Vm.Alike.refl U.vm), qS.2.1.same (u := U) (U := U.calling g mk a) rfl, qS.2.2.moved (u := U) (U := U.calling g mk a) (Vm.Alike.refl U.vm)⟩, qX.moved (u := U) (U := U.calling g mk a) (Vm.Alike.refl U.vm) (fun _ _ => rfl) (qX.2.same (u := U) (U := U.calling g mk a) rfl rfl), qb⟩
  rw [lg_entry_eq]
  have hl := lk9_entry (b0 := b0) (cst := cst) (as := as) (n := 5) hw
  generalize ((lg_sl (as.map (tv9 b0 cst)) ++ List.replicate (5 - (lg_sl (as.map (tv9 b0 cst))).length) Slot.unset).toArray) = ls at hl ⊢
  refine lv_aload_n (i := 3) (x := rho9 b0 cst o) hx hb dk302_0 rfl (hl.2.2 _ _ q3) ?_
  refine lv_iconst (v := 0) hx hb dk302_1 (by decide) ?_
  refine lv_aload_n (i := 0) (x := rho9 b0 cst a) hx hb dk302_2 rfl (hl.2.2 _ _ q0) ?_
  refine lv_iload_n (i := 1) hx hb dk302_3 rfl (hl.2.2 _ _ q1) ?_
  refine lv_iload_n (i := 2) hx hb dk302_4 rfl (hl.2.2 _ _ q2) ?_
  rw [rho9_lt haF]
  rcases hrr with ⟨v, μ2, hrun, hs2, rfl, hμ1⟩ | ⟨hrun, rfl⟩
  · have hmo1 : mHp μ ≤ mHp μ2 ∧ mSl μ ≤ mSl μ2 := mo_run n' _ _ _ _ _ _ _ hrun
    have hmu : mHp μ1 = mHp μ2 ∧ mSl μ1 = mSl μ2 := by rw [hμ1]; exact ⟨rfl, rfl⟩
    have hmet := s_met ih (show 166 < 301 by decide) (run_up hn hrun) hcs3 hok
    rw [show ([Value.ref a, .int l1, .int l2].map (tv9 b0 cst)) = Value.ref (b0 + a) :: [.int l1, .int l2] from by show Value.ref (rho9 b0 cst a) :: _ = _; rw [rho9_lt haF]; rfl] at hmet
    have hcb := callB_of (R := { frames := d' + 1, cells := mHp μ1 - mHp μ, slots := mSl μ1 - mSl μ, locals := 60 * (d' + 1) }) (own := "HiddenOrLostLaw") (index := 15) (rm := { frames := d', cells := mHp μ2 - mHp μ, slots := mSl μ2 - mSl μ, locals := 60 * d' }) 2 hts hgood rfl rfl rfl (hts _ (by rw [o2]; exact o1)) (hts _ hlink) ⟨o3.1, o3.2, by decide +kernel⟩ ⟨Nat.le_refl _, by show 8 + (mL9 166 + 11) + 60 * d' ≤ 60 * (d' + 1); omega⟩
    have hrv := va_runV (l := l) (e := e) (locs := []) (meth := meth) (below := below) (cells := 0) (slots := 0) (mc := mHp μ2 - mHp μ) (ms := mSl μ2 - mSl μ) (rest := [.int 0, .ref (rho9 b0 cst o)]) (C := cn9 (mO9 166)) (As := [.int l1, .int l2]) (b := b0 + a) (g := F0 m 5 ls [.int l2, .int l1, .ref (b0 + a), .int 0, .ref (rho9 b0 cst o)]) ⟨hx, hb, hml, hown, hts⟩ hmet ⟨hcb, hts _ o7, hts _ (o8 (by decide +kernel))⟩ ⟨hbl, hB, hpre⟩ rfl rfl hl.1 rfl (lv_room (Nat.le_of_ble_eq_true rfl)) dk302_5 ⟨by show 0 + _ ≤ mHp μ1 - mHp μ; omega, by show 0 + _ ≤ mSl μ1 - mSl μ; omega⟩
    refine s_back hrv hIn hb0 (fun H1 locs1 hIn1 => ?_)
    have ho : o < mHp μ2 := hIn1.1.2.1.2.1 o (by rw [hs2.1]; decide)
    have hoF : o < oFF := Nat.lt_of_lt_of_le ho hIn1.1.2.1.1
    rw [rho9_lt hoF]
    show W p l e _ s m _ below meth c H1 locs1 (0 + (mHp μ2 - mHp μ)) (0 + (mSl μ2 - mSl μ)) _ (F0 m 8 ls [.long v, .int 0, .ref (b0 + o)])
    refine s_last hx hb hK ((hIn1.1.2.2 o ho).arrL hs2.1) hs2.2 dk302_8 (fun H2 k e1 hz hq => ?_)
    have hIn2 : In9 b0 cst D cA s μ1 H2 (locs1 ++ [⟨b0 + o, k⟩]) := by
      rw [hμ1]
      exact hIn1.set rfl rfl ho (fun b hb => ⟨rfl, up2_ne hb, rfl⟩) (CR9.arrJ (pr_eta hs2.1) e1) hz hq (fun y hy => by rcases List.mem_singleton.mp hy with rfl; rfl)
    refine lv_goto (tgt := 16) hx hb dk302_9 (by decide) ?_
    refine lv_iconst (v := 0) hx hb dk302_16 (by decide) ?_
    rw [show 0 + (mHp μ2 - mHp μ) = mHp μ1 - mHp μ by omega, show 0 + (mSl μ2 - mSl μ) = mSl μ1 - mSl μ by omega]
    exact W.iret (v := 0) hx hb hr (fun t ht hW' => ⟨⟨rfl, by rw [ht]; exact hIn2.1, hIn2.2.2.moved hW'.alike (fun q hq => by rw [ht]; exact hIn2.2.1.2.1 q (by omega) (by omega)) (hX.2.warm hW' (fun q hq => by rw [ht]; exact hIn2.2.1.2.1 q (by omega) (by omega)))⟩, hIn2.2.1.F ht⟩) hIn2.2.1.2.2 dk302_17
  · have hmo1 : mHp μ ≤ mHp μ1 ∧ mSl μ ≤ mSl μ1 := mo_run n' _ _ _ _ _ _ _ hrun
    have hmet := x_met hl9 ih (show 166 < 301 by decide) (run_up hn hrun) hcs3 hok
    rw [show ([Value.ref a, .int l1, .int l2].map (tv9 b0 cst)) = Value.ref (b0 + a) :: [.int l1, .int l2] from by show Value.ref (rho9 b0 cst a) :: _ = _; rw [rho9_lt haF]; rfl] at hmet
    have hcb := callB_of (R := { frames := d' + 1, cells := mHp μ1 - mHp μ, slots := mSl μ1 - mSl μ, locals := 60 * (d' + 1) }) (own := "HiddenOrLostLaw") (index := 15) (rm := { frames := d', cells := mHp μ1 - mHp μ, slots := mSl μ1 - mSl μ, locals := 60 * d' }) 2 hts hgood rfl rfl rfl (hts _ (by rw [o2]; exact o1)) (hts _ hlink) ⟨o3.1, o3.2, by decide +kernel⟩ ⟨Nat.le_refl _, by show 8 + (mL9 166 + 11) + 60 * d' ≤ 60 * (d' + 1); omega⟩
    have hrv := vx_runV (l := l) (e := e) (locs := []) (meth := meth) (below := below) (cells := 0) (slots := 0) (mc := mHp μ1 - mHp μ) (ms := mSl μ1 - mSl μ) (rest := [.int 0, .ref (rho9 b0 cst o)]) (C := cn9 (mO9 166)) (As := [.int l1, .int l2]) (b := b0 + a) (g := F0 m 5 ls [.int l2, .int l1, .ref (b0 + a), .int 0, .ref (rho9 b0 cst o)]) ⟨hx, hb, hml, hown, hts⟩ hmet ⟨hcb, hts _ o7, hts _ (o8 (by decide +kernel))⟩ ⟨hbl, hB, hpre⟩ rfl rfl hl.1 rfl (lv_room (Nat.le_of_ble_eq_true rfl)) dk302_5 ⟨by show 0 + _ ≤ mHp μ1 - mHp μ; omega, by show 0 + _ ≤ mSl μ1 - mSl μ; omega⟩
    intro T hT X
    rcases hrv T hT X with ⟨v, st₀, t, T', L, h0, X', hL, e1, e2, hf, st⟩ | ⟨q, st₀, t, T', L, E, ce, h0, X', hL, e1, e2, ⟨hE, hW1, hX1, hF1⟩, hce, hcv, hcl, st⟩
    · exact hf.elim
    · subst hE
      obtain ⟨hz, hk⟩ := hF1
      rw [h0] at hz hk
      have hal : s.vm.Alike t.vm := by rw [← e2]; exact X'.warmed.alike
      have hIn2 : In9 b0 cst D cA s μ1 T'.heap ([] ++ L) := ⟨by rw [e1]; exact hW1, ⟨by rw [e1]; exact hz, fun q h1 h2 => by rw [e1]; exact hk q h1 h2, fun q hq => hL q hq⟩, hX1.moved hal.symm (fun q hq => (hk q (by omega) (by omega)).symm) hX.2⟩
      have kk : W p l e { frames := d' + 1, cells := mHp μ1 - mHp μ, slots := mSl μ1 - mSl μ, locals := 60 * (d' + 1) } s m (as.map (tv9 b0 cst)).toArray below meth c T'.heap ([] ++ L) (0 + (mHp μ1 - mHp μ)) (0 + (mSl μ1 - mSl μ)) (MQ below (fun _ st o t => (o = .returned ((some (Value.int 1)).map (tv9 b0 cst)) ∧ Wd9 b0 cst D cA μ1 t.heap ∧ sc9 b0 cst μ1 t) ∧ va_F (fun q => b0 ≤ q) st t) (as.map (tv9 b0 cst)).toArray s (mHp μ1 - mHp μ) (mSl μ1 - mSl μ) (fun q => b0 ≤ q)) (F0 m 12 ls [.ref q]) := by
        refine lv_astore (nL := 5) (lv := []) hx hb dk302_12 ⟨hl.1, hl.2.1, fun _ h => nomatch h⟩ (by decide) rfl (fun ls' hl' => ?_)
        refine lv_iconst (v := 1) hx hb dk302_14 (by decide) ?_
        rw [show 0 + (mHp μ1 - mHp μ) = mHp μ1 - mHp μ by omega, show 0 + (mSl μ1 - mSl μ) = mSl μ1 - mSl μ by omega]
        exact W.iret (v := 1) hx hb hr (fun t ht hW' => ⟨⟨rfl, by rw [ht]; exact hIn2.1, hIn2.2.2.moved hW'.alike (fun q hq => by rw [ht]; exact hIn2.2.1.2.1 q (by omega) (by omega)) (hX.2.warm hW' (fun q hq => by rw [ht]; exact hIn2.2.1.2.1 q (by omega) (by omega)))⟩, hIn2.2.1.F ht⟩) hIn2.2.1.2.2 dk302_15
      have kx := vx_catch (pc := 5) (rest := [.int 0, .ref (rho9 b0 cst o)]) (own := "HiddenOrLostLaw") (name := nse9) (E := nse9) (ce := ce) (q := q) hown [] ⟨0, 9, 12, 13⟩ [] htab (fun _ h => nomatch h) (by decide) (by decide) (hts _ (g9p (i := 1340) (by decide +kernel) rfl)) (cst9 hts) (by rw [e1]; exact hce) hcv hcl kk
      obtain ⟨t2, a1, b1⟩ := kx T' rfl X'
      exact ⟨t2, st.trans a1, b1⟩
theorem fr_sure {n d : Nat} {ls : Loc9} {μ μ1 : Mem} {x : Int32} (h : run n d 303 0 ls [] μ = some (some (.int x), false, μ1)) : ∃ (n' d' o a : Nat) (l1 l2 : Int32), n' ≤ n ∧ d = d' + 1 ∧ nth9 ls 3 = some (.ref o) ∧ nth9 ls 0 = some (.ref a) ∧ nth9 ls 1 = some (.int l1) ∧ nth9 ls 2 = some (.int l2) ∧ mSh μ a = (0, 11) ∧ ((∃ (v : Int64) (μ2 : Mem), run n' d' 167 0 (arg9 3 [.ref a, .int l1, .int l2]) [] μ = some (some (.long v), false, μ2) ∧ ((mSh μ2 o).1 = 4 ∧ in9 0 (mSh μ2 o).2) ∧ x = 0 ∧ μ1 = wJ μ2 o (0 : Int32).toNatClampNeg v) ∨ (run n' d' 167 0 (arg9 3 [.ref a, .int l1, .int l2]) [] μ = some (none, true, μ1) ∧ x = 1)) := by
  obtain ⟨n1, o, e1, q3, h1⟩ := f_aload_n h cd303_0
  obtain ⟨n2, e2, h2⟩ := f_iconst h1 cd303_1
  obtain ⟨n3, a, e3, q0, h3⟩ := f_aload_n h2 cd303_2
  obtain ⟨n4, l1, e4, q1, h4⟩ := f_iload_n h3 cd303_3
  obtain ⟨n5, l2, e5, q2, h5⟩ := f_iload_n h4 cd303_4
  obtain ⟨n6, d', e6, ed, -, -, hs, h6⟩ := f_callJ h5 cd303_5
  refine ⟨n6, d', o, a, l1, l2, by omega, ed, q3, q0, q1, q2, hs, ?_⟩
  rcases h6 with ⟨v, μ2, hr, h7⟩ | ⟨μ2, hr, h7⟩
  · obtain ⟨n8, e8, hs2, h8⟩ := f_last h7 cd303_8
    obtain ⟨n9, e9, h9⟩ := f_goto h8 cd303_9
    obtain ⟨n10, e10, h10⟩ := f_iconst h9 cd303_16
    have e := f_iret h10 cd303_17
    cases e
    exact Or.inl ⟨v, μ2, hr, hs2, rfl, rfl⟩
  · obtain ⟨n8, e8, h8⟩ := f_astore h7 cd303_12
    obtain ⟨n10, e10, h10⟩ := f_iconst h8 cd303_14
    have e := f_iret h10 cd303_15
    cases e
    exact Or.inr ⟨hr, rfl⟩
theorem dk303_0 : decode (mB9 303) 0 = .ok (.aload_n 3, 1) := by decide +kernel
theorem dk303_1 : decode (mB9 303) 1 = .ok (.iconst 0, 1) := by decide +kernel
theorem dk303_2 : decode (mB9 303) 2 = .ok (.aload_n 0, 1) := by decide +kernel
theorem dk303_3 : decode (mB9 303) 3 = .ok (.iload_n 1, 1) := by decide +kernel
theorem dk303_4 : decode (mB9 303) 4 = .ok (.iload_n 2, 1) := by decide +kernel
theorem dk303_5 : decode (mB9 303) 5 = .ok (.invokevirtual 19, 3) := by decide +kernel
theorem dk303_8 : decode (mB9 303) 8 = .ok (.lastore, 1) := by decide +kernel
theorem dk303_9 : decode (mB9 303) 9 = .ok (.goto 7, 3) := by decide +kernel
theorem dk303_12 : decode (mB9 303) 12 = .ok (.astore 4, 2) := by decide +kernel
theorem dk303_14 : decode (mB9 303) 14 = .ok (.iconst 1, 1) := by decide +kernel
theorem dk303_15 : decode (mB9 303) 15 = .ok (.ireturn, 1) := by decide +kernel
theorem dk303_16 : decode (mB9 303) 16 = .ok (.iconst 0, 1) := by decide +kernel
theorem dk303_17 : decode (mB9 303) 17 = .ok (.ireturn, 1) := by decide +kernel
theorem wk303 : Cond.codeWith (mY9 303) (mB9 303) 5 (some .int) [(0, 9, 12, 13)] ∈ G9 := g9p (i := 1421) (by decide +kernel) rfl
set_option maxHeartbeats 1000000 in
theorem hm_sure {l : Launch} {b0 : Nat} {cst : Nat → Nat} {D : va_G} {cA : Nat → ClassId} {n d : Nat} {as : List Value} {μ μ1 : Mem} {x : Int32} (hl9 : l.stackTraces = false) (ih : Snd9 l b0 cst D cA n) (h : run n d 303 0 (arg9 5 as) [] μ = some (some (.int x), false, μ1)) (hw : Nat.ble (cs9 as) 5 = true) :
    Met l (mY9 303) (Cond.codeWith (mY9 303) (mB9 303) 5 (some .int) [(0, 9, 12, 13)] :: G9) { frames := d, cells := mHp μ1 - mHp μ, slots := mSl μ1 - mSl μ, locals := 60 * d } (va_Pc (as.map (tv9 b0 cst)) (fun U => Wd9 b0 cst D cA μ U.heap ∧ S9 D cA U ∧ sc9 b0 cst μ U ∧ b0 ≤ U.heap.size))
      (fun _ st o t => (o = .returned ((some (Value.int x)).map (tv9 b0 cst)) ∧ Wd9 b0 cst D cA μ1 t.heap ∧ sc9 b0 cst μ1 t) ∧ va_F (fun q => b0 ≤ q) st t) (mHp μ1 - mHp μ) (mSl μ1 - mSl μ) (fun q => b0 ≤ q) := by
  obtain ⟨n', d', o, a, l1, l2, hn, rfl, q3, q0, q1, q2, hs, hrr⟩ := fr_sure h
  refine va_MetW (cc := mB9 303) (maxL := 5) (ret := some .int) (hh := [(0, 9, 12, 13)]) (by decide +kernel) rfl ?_
  intro p e s m args below meth c s₁ B hml hv
  obtain ⟨rfl, hW, hS, hX, hb0⟩ := hv
  have hx := B.exec
  have hb := B.bytes
  have hr := B.returns
  have hlocks := B.notSynchronized
  have hts0 := atoms_spec (ws := Cond.codeWith (mY9 303) (mB9 303) 5 (some .int) [(0, 9, 12, 13)] :: G9) B.pre
  have hts : ∀ w ∈ G9, w.before _ s = true := fun w hw => hts0 w (List.mem_cons_of_mem _ hw)
  have hown : s.vm.findClass "HiddenOrLostLaw" = some m.cls := findClass_of_methodNamed B.named
  have htab : c.exceptionTable.toList = tableOf [(0, 9, 12, 13)] := vx_table (x := mY9 303) B (hts0 _ List.mem_cons_self)
  obtain ⟨hK, hN, hAO⟩ := id hS
  have hIn : In9 b0 cst D cA s μ s.heap [] := ⟨hW, va_S.rf, hX⟩
  have ha : a < mHp μ := hW.2.1.2.1 a (by rw [hs]; exact Nat.zero_le _)
  have haF : a < oFF := Nat.lt_of_lt_of_le ha hW.2.1.1
  have hO := (hW.2.2 a ha).obj hs
  obtain ⟨cellB, c1, c2, c3, -⟩ := hO.2
  have hB : ∃ cellB : Cell, s.heap[b0 + a]? = some cellB ∧ cellB.vm.isStatics = false ∧ s.vm.findClass (cn9 (mO9 167)) = some cellB.cls := ⟨cellB, c1, by rw [c3]; rfl, by rw [c2]; exact (hK.1 11 (by decide)).2.1⟩
  have hok := okM9_all (show 167 < 301 by decide)
  obtain ⟨o1, o2, o3, o4, -, o6⟩ := okM9_spec hok
  obtain ⟨o7, o8⟩ := o6 (by decide +kernel)
  have hcs3 : Nat.ble (cs9 [.ref a, .int l1, .int l2]) (mL9 167) = true := rfl
  have hgood := goodC (cw9_all (show 167 < 301 by decide))
  have hlink := mLk9 (M := 303) (z := 19) (M' := 167) (by decide +kernel)
  have hpre : ∀ U : State, U.heap = s.heap → s.WarmedH U.vm → va_Pc (Value.ref (b0 + a) :: [.int l1, .int l2]) (fun U => Wd9 b0 cst D cA μ U.heap ∧ S9 D cA U ∧ sc9 b0 cst μ U ∧ b0 ≤ U.heap.size) (Value.ref (b0 + a) :: [.int l1, .int l2]).toArray U := fun U hU hW' => ⟨rfl, by rw [hU]; exact hW, ⟨hK.moved hW'.alike, hN.warm hW', hAO.moved hW'.alike⟩, hX.moved hW'.alike (fun q _ => by rw [hU]) (hX.2.warm hW' (fun q _ => by rw [hU])), by rw [hU]; exact hb0⟩
  have hbl : FrameBlind (va_Pc (Value.ref (b0 + a) :: [.int l1, .int l2]) (fun U => Wd9 b0 cst D cA μ U.heap ∧ S9 D cA U ∧ sc9 b0 cst μ U ∧ b0 ≤ U.heap.size)) := fun a U g mk q => by obtain ⟨q0, qW, qS, qX, qb⟩ := q; exact ⟨q0, qW, ⟨qS.1.moved (u := U) (U := U.calling g mk a) (Vm.Alike.refl U.vm), qS.2.1.same (u := U) (U := U.calling g mk a) rfl, qS.2.2.moved (u := U) (U := U.calling g mk a) (Vm.Alike.refl U.vm)⟩, qX.moved (u := U) (U := U.calling g mk a) (Vm.Alike.refl U.vm) (fun _ _ => rfl) (qX.2.same (u := U) (U := U.calling g mk a) rfl rfl), qb⟩
  rw [lg_entry_eq]
  have hl := lk9_entry (b0 := b0) (cst := cst) (as := as) (n := 5) hw
  generalize ((lg_sl (as.map (tv9 b0 cst)) ++ List.replicate (5 - (lg_sl (as.map (tv9 b0 cst))).length) Slot.unset).toArray) = ls at hl ⊢
  refine lv_aload_n (i := 3) (x := rho9 b0 cst o) hx hb dk303_0 rfl (hl.2.2 _ _ q3) ?_
  refine lv_iconst (v := 0) hx hb dk303_1 (by decide) ?_
  refine lv_aload_n (i := 0) (x := rho9 b0 cst a) hx hb dk303_2 rfl (hl.2.2 _ _ q0) ?_
  refine lv_iload_n (i := 1) hx hb dk303_3 rfl (hl.2.2 _ _ q1) ?_
  refine lv_iload_n (i := 2) hx hb dk303_4 rfl (hl.2.2 _ _ q2) ?_
  rw [rho9_lt haF]
  rcases hrr with ⟨v, μ2, hrun, hs2, rfl, hμ1⟩ | ⟨hrun, rfl⟩
  · have hmo1 : mHp μ ≤ mHp μ2 ∧ mSl μ ≤ mSl μ2 := mo_run n' _ _ _ _ _ _ _ hrun
    have hmu : mHp μ1 = mHp μ2 ∧ mSl μ1 = mSl μ2 := by rw [hμ1]; exact ⟨rfl, rfl⟩
    have hmet := s_met ih (show 167 < 301 by decide) (run_up hn hrun) hcs3 hok
    rw [show ([Value.ref a, .int l1, .int l2].map (tv9 b0 cst)) = Value.ref (b0 + a) :: [.int l1, .int l2] from by show Value.ref (rho9 b0 cst a) :: _ = _; rw [rho9_lt haF]; rfl] at hmet
    have hcb := callB_of (R := { frames := d' + 1, cells := mHp μ1 - mHp μ, slots := mSl μ1 - mSl μ, locals := 60 * (d' + 1) }) (own := "HiddenOrLostLaw") (index := 19) (rm := { frames := d', cells := mHp μ2 - mHp μ, slots := mSl μ2 - mSl μ, locals := 60 * d' }) 2 hts hgood rfl rfl rfl (hts _ (by rw [o2]; exact o1)) (hts _ hlink) ⟨o3.1, o3.2, by decide +kernel⟩ ⟨Nat.le_refl _, by show 8 + (mL9 167 + 11) + 60 * d' ≤ 60 * (d' + 1); omega⟩
    have hrv := va_runV (l := l) (e := e) (locs := []) (meth := meth) (below := below) (cells := 0) (slots := 0) (mc := mHp μ2 - mHp μ) (ms := mSl μ2 - mSl μ) (rest := [.int 0, .ref (rho9 b0 cst o)]) (C := cn9 (mO9 167)) (As := [.int l1, .int l2]) (b := b0 + a) (g := F0 m 5 ls [.int l2, .int l1, .ref (b0 + a), .int 0, .ref (rho9 b0 cst o)]) ⟨hx, hb, hml, hown, hts⟩ hmet ⟨hcb, hts _ o7, hts _ (o8 (by decide +kernel))⟩ ⟨hbl, hB, hpre⟩ rfl rfl hl.1 rfl (lv_room (Nat.le_of_ble_eq_true rfl)) dk303_5 ⟨by show 0 + _ ≤ mHp μ1 - mHp μ; omega, by show 0 + _ ≤ mSl μ1 - mSl μ; omega⟩
    refine s_back hrv hIn hb0 (fun H1 locs1 hIn1 => ?_)
    have ho : o < mHp μ2 := hIn1.1.2.1.2.1 o (by rw [hs2.1]; decide)
    have hoF : o < oFF := Nat.lt_of_lt_of_le ho hIn1.1.2.1.1
    rw [rho9_lt hoF]
    show W p l e _ s m _ below meth c H1 locs1 (0 + (mHp μ2 - mHp μ)) (0 + (mSl μ2 - mSl μ)) _ (F0 m 8 ls [.long v, .int 0, .ref (b0 + o)])
    refine s_last hx hb hK ((hIn1.1.2.2 o ho).arrL hs2.1) hs2.2 dk303_8 (fun H2 k e1 hz hq => ?_)
    have hIn2 : In9 b0 cst D cA s μ1 H2 (locs1 ++ [⟨b0 + o, k⟩]) := by
      rw [hμ1]
      exact hIn1.set rfl rfl ho (fun b hb => ⟨rfl, up2_ne hb, rfl⟩) (CR9.arrJ (pr_eta hs2.1) e1) hz hq (fun y hy => by rcases List.mem_singleton.mp hy with rfl; rfl)
    refine lv_goto (tgt := 16) hx hb dk303_9 (by decide) ?_
    refine lv_iconst (v := 0) hx hb dk303_16 (by decide) ?_
    rw [show 0 + (mHp μ2 - mHp μ) = mHp μ1 - mHp μ by omega, show 0 + (mSl μ2 - mSl μ) = mSl μ1 - mSl μ by omega]
    exact W.iret (v := 0) hx hb hr (fun t ht hW' => ⟨⟨rfl, by rw [ht]; exact hIn2.1, hIn2.2.2.moved hW'.alike (fun q hq => by rw [ht]; exact hIn2.2.1.2.1 q (by omega) (by omega)) (hX.2.warm hW' (fun q hq => by rw [ht]; exact hIn2.2.1.2.1 q (by omega) (by omega)))⟩, hIn2.2.1.F ht⟩) hIn2.2.1.2.2 dk303_17
  · have hmo1 : mHp μ ≤ mHp μ1 ∧ mSl μ ≤ mSl μ1 := mo_run n' _ _ _ _ _ _ _ hrun
    have hmet := x_met hl9 ih (show 167 < 301 by decide) (run_up hn hrun) hcs3 hok
    rw [show ([Value.ref a, .int l1, .int l2].map (tv9 b0 cst)) = Value.ref (b0 + a) :: [.int l1, .int l2] from by show Value.ref (rho9 b0 cst a) :: _ = _; rw [rho9_lt haF]; rfl] at hmet
    have hcb := callB_of (R := { frames := d' + 1, cells := mHp μ1 - mHp μ, slots := mSl μ1 - mSl μ, locals := 60 * (d' + 1) }) (own := "HiddenOrLostLaw") (index := 19) (rm := { frames := d', cells := mHp μ1 - mHp μ, slots := mSl μ1 - mSl μ, locals := 60 * d' }) 2 hts hgood rfl rfl rfl (hts _ (by rw [o2]; exact o1)) (hts _ hlink) ⟨o3.1, o3.2, by decide +kernel⟩ ⟨Nat.le_refl _, by show 8 + (mL9 167 + 11) + 60 * d' ≤ 60 * (d' + 1); omega⟩
    have hrv := vx_runV (l := l) (e := e) (locs := []) (meth := meth) (below := below) (cells := 0) (slots := 0) (mc := mHp μ1 - mHp μ) (ms := mSl μ1 - mSl μ) (rest := [.int 0, .ref (rho9 b0 cst o)]) (C := cn9 (mO9 167)) (As := [.int l1, .int l2]) (b := b0 + a) (g := F0 m 5 ls [.int l2, .int l1, .ref (b0 + a), .int 0, .ref (rho9 b0 cst o)]) ⟨hx, hb, hml, hown, hts⟩ hmet ⟨hcb, hts _ o7, hts _ (o8 (by decide +kernel))⟩ ⟨hbl, hB, hpre⟩ rfl rfl hl.1 rfl (lv_room (Nat.le_of_ble_eq_true rfl)) dk303_5 ⟨by show 0 + _ ≤ mHp μ1 - mHp μ; omega, by show 0 + _ ≤ mSl μ1 - mSl μ; omega⟩
    intro T hT X
    rcases hrv T hT X with ⟨v, st₀, t, T', L, h0, X', hL, e1, e2, hf, st⟩ | ⟨q, st₀, t, T', L, E, ce, h0, X', hL, e1, e2, ⟨hE, hW1, hX1, hF1⟩, hce, hcv, hcl, st⟩
    · exact hf.elim
    · subst hE
      obtain ⟨hz, hk⟩ := hF1
      rw [h0] at hz hk
      have hal : s.vm.Alike t.vm := by rw [← e2]; exact X'.warmed.alike
      have hIn2 : In9 b0 cst D cA s μ1 T'.heap ([] ++ L) := ⟨by rw [e1]; exact hW1, ⟨by rw [e1]; exact hz, fun q h1 h2 => by rw [e1]; exact hk q h1 h2, fun q hq => hL q hq⟩, hX1.moved hal.symm (fun q hq => (hk q (by omega) (by omega)).symm) hX.2⟩
      have kk : W p l e { frames := d' + 1, cells := mHp μ1 - mHp μ, slots := mSl μ1 - mSl μ, locals := 60 * (d' + 1) } s m (as.map (tv9 b0 cst)).toArray below meth c T'.heap ([] ++ L) (0 + (mHp μ1 - mHp μ)) (0 + (mSl μ1 - mSl μ)) (MQ below (fun _ st o t => (o = .returned ((some (Value.int 1)).map (tv9 b0 cst)) ∧ Wd9 b0 cst D cA μ1 t.heap ∧ sc9 b0 cst μ1 t) ∧ va_F (fun q => b0 ≤ q) st t) (as.map (tv9 b0 cst)).toArray s (mHp μ1 - mHp μ) (mSl μ1 - mSl μ) (fun q => b0 ≤ q)) (F0 m 12 ls [.ref q]) := by
        refine lv_astore (nL := 5) (lv := []) hx hb dk303_12 ⟨hl.1, hl.2.1, fun _ h => nomatch h⟩ (by decide) rfl (fun ls' hl' => ?_)
        refine lv_iconst (v := 1) hx hb dk303_14 (by decide) ?_
        rw [show 0 + (mHp μ1 - mHp μ) = mHp μ1 - mHp μ by omega, show 0 + (mSl μ1 - mSl μ) = mSl μ1 - mSl μ by omega]
        exact W.iret (v := 1) hx hb hr (fun t ht hW' => ⟨⟨rfl, by rw [ht]; exact hIn2.1, hIn2.2.2.moved hW'.alike (fun q hq => by rw [ht]; exact hIn2.2.1.2.1 q (by omega) (by omega)) (hX.2.warm hW' (fun q hq => by rw [ht]; exact hIn2.2.1.2.1 q (by omega) (by omega)))⟩, hIn2.2.1.F ht⟩) hIn2.2.1.2.2 dk303_15
      have kx := vx_catch (pc := 5) (rest := [.int 0, .ref (rho9 b0 cst o)]) (own := "HiddenOrLostLaw") (name := nse9) (E := nse9) (ce := ce) (q := q) hown [] ⟨0, 9, 12, 13⟩ [] htab (fun _ h => nomatch h) (by decide) (by decide) (hts _ (g9p (i := 1340) (by decide +kernel) rfl)) (cst9 hts) (by rw [e1]; exact hce) hcv hcl kk
      obtain ⟨t2, a1, b1⟩ := kx T' rfl X'
      exact ⟨t2, st.trans a1, b1⟩
theorem fr_gains {n d : Nat} {ls : Loc9} {μ μ1 : Mem} {x : Int32} (h : run n d 304 0 ls [] μ = some (some (.int x), false, μ1)) : ∃ (n' d' o a : Nat) (l1 l2 : Int32), n' ≤ n ∧ d = d' + 1 ∧ nth9 ls 3 = some (.ref o) ∧ nth9 ls 0 = some (.ref a) ∧ nth9 ls 1 = some (.int l1) ∧ nth9 ls 2 = some (.int l2) ∧ mSh μ a = (0, 11) ∧ ((∃ (v : Int64) (μ2 : Mem), run n' d' 168 0 (arg9 5 [.ref a, .int l1, .int l2]) [] μ = some (some (.long v), false, μ2) ∧ ((mSh μ2 o).1 = 4 ∧ in9 0 (mSh μ2 o).2) ∧ x = 0 ∧ μ1 = wJ μ2 o (0 : Int32).toNatClampNeg v) ∨ (run n' d' 168 0 (arg9 5 [.ref a, .int l1, .int l2]) [] μ = some (none, true, μ1) ∧ x = 1)) := by
  obtain ⟨n1, o, e1, q3, h1⟩ := f_aload_n h cd304_0
  obtain ⟨n2, e2, h2⟩ := f_iconst h1 cd304_1
  obtain ⟨n3, a, e3, q0, h3⟩ := f_aload_n h2 cd304_2
  obtain ⟨n4, l1, e4, q1, h4⟩ := f_iload_n h3 cd304_3
  obtain ⟨n5, l2, e5, q2, h5⟩ := f_iload_n h4 cd304_4
  obtain ⟨n6, d', e6, ed, -, -, hs, h6⟩ := f_callJ h5 cd304_5
  refine ⟨n6, d', o, a, l1, l2, by omega, ed, q3, q0, q1, q2, hs, ?_⟩
  rcases h6 with ⟨v, μ2, hr, h7⟩ | ⟨μ2, hr, h7⟩
  · obtain ⟨n8, e8, hs2, h8⟩ := f_last h7 cd304_8
    obtain ⟨n9, e9, h9⟩ := f_goto h8 cd304_9
    obtain ⟨n10, e10, h10⟩ := f_iconst h9 cd304_16
    have e := f_iret h10 cd304_17
    cases e
    exact Or.inl ⟨v, μ2, hr, hs2, rfl, rfl⟩
  · obtain ⟨n8, e8, h8⟩ := f_astore h7 cd304_12
    obtain ⟨n10, e10, h10⟩ := f_iconst h8 cd304_14
    have e := f_iret h10 cd304_15
    cases e
    exact Or.inr ⟨hr, rfl⟩
theorem dk304_0 : decode (mB9 304) 0 = .ok (.aload_n 3, 1) := by decide +kernel
theorem dk304_1 : decode (mB9 304) 1 = .ok (.iconst 0, 1) := by decide +kernel
theorem dk304_2 : decode (mB9 304) 2 = .ok (.aload_n 0, 1) := by decide +kernel
theorem dk304_3 : decode (mB9 304) 3 = .ok (.iload_n 1, 1) := by decide +kernel
theorem dk304_4 : decode (mB9 304) 4 = .ok (.iload_n 2, 1) := by decide +kernel
theorem dk304_5 : decode (mB9 304) 5 = .ok (.invokevirtual 22, 3) := by decide +kernel
theorem dk304_8 : decode (mB9 304) 8 = .ok (.lastore, 1) := by decide +kernel
theorem dk304_9 : decode (mB9 304) 9 = .ok (.goto 7, 3) := by decide +kernel
theorem dk304_12 : decode (mB9 304) 12 = .ok (.astore 4, 2) := by decide +kernel
theorem dk304_14 : decode (mB9 304) 14 = .ok (.iconst 1, 1) := by decide +kernel
theorem dk304_15 : decode (mB9 304) 15 = .ok (.ireturn, 1) := by decide +kernel
theorem dk304_16 : decode (mB9 304) 16 = .ok (.iconst 0, 1) := by decide +kernel
theorem dk304_17 : decode (mB9 304) 17 = .ok (.ireturn, 1) := by decide +kernel
theorem wk304 : Cond.codeWith (mY9 304) (mB9 304) 5 (some .int) [(0, 9, 12, 13)] ∈ G9 := g9p (i := 1430) (by decide +kernel) rfl
set_option maxHeartbeats 1000000 in
theorem hm_gains {l : Launch} {b0 : Nat} {cst : Nat → Nat} {D : va_G} {cA : Nat → ClassId} {n d : Nat} {as : List Value} {μ μ1 : Mem} {x : Int32} (hl9 : l.stackTraces = false) (ih : Snd9 l b0 cst D cA n) (h : run n d 304 0 (arg9 5 as) [] μ = some (some (.int x), false, μ1)) (hw : Nat.ble (cs9 as) 5 = true) :
    Met l (mY9 304) (Cond.codeWith (mY9 304) (mB9 304) 5 (some .int) [(0, 9, 12, 13)] :: G9) { frames := d, cells := mHp μ1 - mHp μ, slots := mSl μ1 - mSl μ, locals := 60 * d } (va_Pc (as.map (tv9 b0 cst)) (fun U => Wd9 b0 cst D cA μ U.heap ∧ S9 D cA U ∧ sc9 b0 cst μ U ∧ b0 ≤ U.heap.size))
      (fun _ st o t => (o = .returned ((some (Value.int x)).map (tv9 b0 cst)) ∧ Wd9 b0 cst D cA μ1 t.heap ∧ sc9 b0 cst μ1 t) ∧ va_F (fun q => b0 ≤ q) st t) (mHp μ1 - mHp μ) (mSl μ1 - mSl μ) (fun q => b0 ≤ q) := by
  obtain ⟨n', d', o, a, l1, l2, hn, rfl, q3, q0, q1, q2, hs, hrr⟩ := fr_gains h
  refine va_MetW (cc := mB9 304) (maxL := 5) (ret := some .int) (hh := [(0, 9, 12, 13)]) (by decide +kernel) rfl ?_
  intro p e s m args below meth c s₁ B hml hv
  obtain ⟨rfl, hW, hS, hX, hb0⟩ := hv
  have hx := B.exec
  have hb := B.bytes
  have hr := B.returns
  have hlocks := B.notSynchronized
  have hts0 := atoms_spec (ws := Cond.codeWith (mY9 304) (mB9 304) 5 (some .int) [(0, 9, 12, 13)] :: G9) B.pre
  have hts : ∀ w ∈ G9, w.before _ s = true := fun w hw => hts0 w (List.mem_cons_of_mem _ hw)
  have hown : s.vm.findClass "HiddenOrLostLaw" = some m.cls := findClass_of_methodNamed B.named
  have htab : c.exceptionTable.toList = tableOf [(0, 9, 12, 13)] := vx_table (x := mY9 304) B (hts0 _ List.mem_cons_self)
  obtain ⟨hK, hN, hAO⟩ := id hS
  have hIn : In9 b0 cst D cA s μ s.heap [] := ⟨hW, va_S.rf, hX⟩
  have ha : a < mHp μ := hW.2.1.2.1 a (by rw [hs]; exact Nat.zero_le _)
  have haF : a < oFF := Nat.lt_of_lt_of_le ha hW.2.1.1
  have hO := (hW.2.2 a ha).obj hs
  obtain ⟨cellB, c1, c2, c3, -⟩ := hO.2
  have hB : ∃ cellB : Cell, s.heap[b0 + a]? = some cellB ∧ cellB.vm.isStatics = false ∧ s.vm.findClass (cn9 (mO9 168)) = some cellB.cls := ⟨cellB, c1, by rw [c3]; rfl, by rw [c2]; exact (hK.1 11 (by decide)).2.1⟩
  have hok := okM9_all (show 168 < 301 by decide)
  obtain ⟨o1, o2, o3, o4, -, o6⟩ := okM9_spec hok
  obtain ⟨o7, o8⟩ := o6 (by decide +kernel)
  have hcs3 : Nat.ble (cs9 [.ref a, .int l1, .int l2]) (mL9 168) = true := rfl
  have hgood := goodC (cw9_all (show 168 < 301 by decide))
  have hlink := mLk9 (M := 304) (z := 22) (M' := 168) (by decide +kernel)
  have hpre : ∀ U : State, U.heap = s.heap → s.WarmedH U.vm → va_Pc (Value.ref (b0 + a) :: [.int l1, .int l2]) (fun U => Wd9 b0 cst D cA μ U.heap ∧ S9 D cA U ∧ sc9 b0 cst μ U ∧ b0 ≤ U.heap.size) (Value.ref (b0 + a) :: [.int l1, .int l2]).toArray U := fun U hU hW' => ⟨rfl, by rw [hU]; exact hW, ⟨hK.moved hW'.alike, hN.warm hW', hAO.moved hW'.alike⟩, hX.moved hW'.alike (fun q _ => by rw [hU]) (hX.2.warm hW' (fun q _ => by rw [hU])), by rw [hU]; exact hb0⟩
  have hbl : FrameBlind (va_Pc (Value.ref (b0 + a) :: [.int l1, .int l2]) (fun U => Wd9 b0 cst D cA μ U.heap ∧ S9 D cA U ∧ sc9 b0 cst μ U ∧ b0 ≤ U.heap.size)) := fun a U g mk q => by obtain ⟨q0, qW, qS, qX, qb⟩ := q; exact ⟨q0, qW, ⟨qS.1.moved (u := U) (U := U.calling g mk a) (Vm.Alike.refl U.vm), qS.2.1.same (u := U) (U := U.calling g mk a) rfl, qS.2.2.moved (u := U) (U := U.calling g mk a) (Vm.Alike.refl U.vm)⟩, qX.moved (u := U) (U := U.calling g mk a) (Vm.Alike.refl U.vm) (fun _ _ => rfl) (qX.2.same (u := U) (U := U.calling g mk a) rfl rfl), qb⟩
  rw [lg_entry_eq]
  have hl := lk9_entry (b0 := b0) (cst := cst) (as := as) (n := 5) hw
  generalize ((lg_sl (as.map (tv9 b0 cst)) ++ List.replicate (5 - (lg_sl (as.map (tv9 b0 cst))).length) Slot.unset).toArray) = ls at hl ⊢
  refine lv_aload_n (i := 3) (x := rho9 b0 cst o) hx hb dk304_0 rfl (hl.2.2 _ _ q3) ?_
  refine lv_iconst (v := 0) hx hb dk304_1 (by decide) ?_
  refine lv_aload_n (i := 0) (x := rho9 b0 cst a) hx hb dk304_2 rfl (hl.2.2 _ _ q0) ?_
  refine lv_iload_n (i := 1) hx hb dk304_3 rfl (hl.2.2 _ _ q1) ?_
  refine lv_iload_n (i := 2) hx hb dk304_4 rfl (hl.2.2 _ _ q2) ?_
  rw [rho9_lt haF]
  rcases hrr with ⟨v, μ2, hrun, hs2, rfl, hμ1⟩ | ⟨hrun, rfl⟩
  · have hmo1 : mHp μ ≤ mHp μ2 ∧ mSl μ ≤ mSl μ2 := mo_run n' _ _ _ _ _ _ _ hrun
    have hmu : mHp μ1 = mHp μ2 ∧ mSl μ1 = mSl μ2 := by rw [hμ1]; exact ⟨rfl, rfl⟩
    have hmet := s_met ih (show 168 < 301 by decide) (run_up hn hrun) hcs3 hok
    rw [show ([Value.ref a, .int l1, .int l2].map (tv9 b0 cst)) = Value.ref (b0 + a) :: [.int l1, .int l2] from by show Value.ref (rho9 b0 cst a) :: _ = _; rw [rho9_lt haF]; rfl] at hmet
    have hcb := callB_of (R := { frames := d' + 1, cells := mHp μ1 - mHp μ, slots := mSl μ1 - mSl μ, locals := 60 * (d' + 1) }) (own := "HiddenOrLostLaw") (index := 22) (rm := { frames := d', cells := mHp μ2 - mHp μ, slots := mSl μ2 - mSl μ, locals := 60 * d' }) 2 hts hgood rfl rfl rfl (hts _ (by rw [o2]; exact o1)) (hts _ hlink) ⟨o3.1, o3.2, by decide +kernel⟩ ⟨Nat.le_refl _, by show 8 + (mL9 168 + 11) + 60 * d' ≤ 60 * (d' + 1); omega⟩
    have hrv := va_runV (l := l) (e := e) (locs := []) (meth := meth) (below := below) (cells := 0) (slots := 0) (mc := mHp μ2 - mHp μ) (ms := mSl μ2 - mSl μ) (rest := [.int 0, .ref (rho9 b0 cst o)]) (C := cn9 (mO9 168)) (As := [.int l1, .int l2]) (b := b0 + a) (g := F0 m 5 ls [.int l2, .int l1, .ref (b0 + a), .int 0, .ref (rho9 b0 cst o)]) ⟨hx, hb, hml, hown, hts⟩ hmet ⟨hcb, hts _ o7, hts _ (o8 (by decide +kernel))⟩ ⟨hbl, hB, hpre⟩ rfl rfl hl.1 rfl (lv_room (Nat.le_of_ble_eq_true rfl)) dk304_5 ⟨by show 0 + _ ≤ mHp μ1 - mHp μ; omega, by show 0 + _ ≤ mSl μ1 - mSl μ; omega⟩
    refine s_back hrv hIn hb0 (fun H1 locs1 hIn1 => ?_)
    have ho : o < mHp μ2 := hIn1.1.2.1.2.1 o (by rw [hs2.1]; decide)
    have hoF : o < oFF := Nat.lt_of_lt_of_le ho hIn1.1.2.1.1
    rw [rho9_lt hoF]
    show W p l e _ s m _ below meth c H1 locs1 (0 + (mHp μ2 - mHp μ)) (0 + (mSl μ2 - mSl μ)) _ (F0 m 8 ls [.long v, .int 0, .ref (b0 + o)])
    refine s_last hx hb hK ((hIn1.1.2.2 o ho).arrL hs2.1) hs2.2 dk304_8 (fun H2 k e1 hz hq => ?_)
    have hIn2 : In9 b0 cst D cA s μ1 H2 (locs1 ++ [⟨b0 + o, k⟩]) := by
      rw [hμ1]
      exact hIn1.set rfl rfl ho (fun b hb => ⟨rfl, up2_ne hb, rfl⟩) (CR9.arrJ (pr_eta hs2.1) e1) hz hq (fun y hy => by rcases List.mem_singleton.mp hy with rfl; rfl)
    refine lv_goto (tgt := 16) hx hb dk304_9 (by decide) ?_
    refine lv_iconst (v := 0) hx hb dk304_16 (by decide) ?_
    rw [show 0 + (mHp μ2 - mHp μ) = mHp μ1 - mHp μ by omega, show 0 + (mSl μ2 - mSl μ) = mSl μ1 - mSl μ by omega]
    exact W.iret (v := 0) hx hb hr (fun t ht hW' => ⟨⟨rfl, by rw [ht]; exact hIn2.1, hIn2.2.2.moved hW'.alike (fun q hq => by rw [ht]; exact hIn2.2.1.2.1 q (by omega) (by omega)) (hX.2.warm hW' (fun q hq => by rw [ht]; exact hIn2.2.1.2.1 q (by omega) (by omega)))⟩, hIn2.2.1.F ht⟩) hIn2.2.1.2.2 dk304_17
  · have hmo1 : mHp μ ≤ mHp μ1 ∧ mSl μ ≤ mSl μ1 := mo_run n' _ _ _ _ _ _ _ hrun
    have hmet := x_met hl9 ih (show 168 < 301 by decide) (run_up hn hrun) hcs3 hok
    rw [show ([Value.ref a, .int l1, .int l2].map (tv9 b0 cst)) = Value.ref (b0 + a) :: [.int l1, .int l2] from by show Value.ref (rho9 b0 cst a) :: _ = _; rw [rho9_lt haF]; rfl] at hmet
    have hcb := callB_of (R := { frames := d' + 1, cells := mHp μ1 - mHp μ, slots := mSl μ1 - mSl μ, locals := 60 * (d' + 1) }) (own := "HiddenOrLostLaw") (index := 22) (rm := { frames := d', cells := mHp μ1 - mHp μ, slots := mSl μ1 - mSl μ, locals := 60 * d' }) 2 hts hgood rfl rfl rfl (hts _ (by rw [o2]; exact o1)) (hts _ hlink) ⟨o3.1, o3.2, by decide +kernel⟩ ⟨Nat.le_refl _, by show 8 + (mL9 168 + 11) + 60 * d' ≤ 60 * (d' + 1); omega⟩
    have hrv := vx_runV (l := l) (e := e) (locs := []) (meth := meth) (below := below) (cells := 0) (slots := 0) (mc := mHp μ1 - mHp μ) (ms := mSl μ1 - mSl μ) (rest := [.int 0, .ref (rho9 b0 cst o)]) (C := cn9 (mO9 168)) (As := [.int l1, .int l2]) (b := b0 + a) (g := F0 m 5 ls [.int l2, .int l1, .ref (b0 + a), .int 0, .ref (rho9 b0 cst o)]) ⟨hx, hb, hml, hown, hts⟩ hmet ⟨hcb, hts _ o7, hts _ (o8 (by decide +kernel))⟩ ⟨hbl, hB, hpre⟩ rfl rfl hl.1 rfl (lv_room (Nat.le_of_ble_eq_true rfl)) dk304_5 ⟨by show 0 + _ ≤ mHp μ1 - mHp μ; omega, by show 0 + _ ≤ mSl μ1 - mSl μ; omega⟩
    intro T hT X
    rcases hrv T hT X with ⟨v, st₀, t, T', L, h0, X', hL, e1, e2, hf, st⟩ | ⟨q, st₀, t, T', L, E, ce, h0, X', hL, e1, e2, ⟨hE, hW1, hX1, hF1⟩, hce, hcv, hcl, st⟩
    · exact hf.elim
    · subst hE
      obtain ⟨hz, hk⟩ := hF1
      rw [h0] at hz hk
      have hal : s.vm.Alike t.vm := by rw [← e2]; exact X'.warmed.alike
      have hIn2 : In9 b0 cst D cA s μ1 T'.heap ([] ++ L) := ⟨by rw [e1]; exact hW1, ⟨by rw [e1]; exact hz, fun q h1 h2 => by rw [e1]; exact hk q h1 h2, fun q hq => hL q hq⟩, hX1.moved hal.symm (fun q hq => (hk q (by omega) (by omega)).symm) hX.2⟩
      have kk : W p l e { frames := d' + 1, cells := mHp μ1 - mHp μ, slots := mSl μ1 - mSl μ, locals := 60 * (d' + 1) } s m (as.map (tv9 b0 cst)).toArray below meth c T'.heap ([] ++ L) (0 + (mHp μ1 - mHp μ)) (0 + (mSl μ1 - mSl μ)) (MQ below (fun _ st o t => (o = .returned ((some (Value.int 1)).map (tv9 b0 cst)) ∧ Wd9 b0 cst D cA μ1 t.heap ∧ sc9 b0 cst μ1 t) ∧ va_F (fun q => b0 ≤ q) st t) (as.map (tv9 b0 cst)).toArray s (mHp μ1 - mHp μ) (mSl μ1 - mSl μ) (fun q => b0 ≤ q)) (F0 m 12 ls [.ref q]) := by
        refine lv_astore (nL := 5) (lv := []) hx hb dk304_12 ⟨hl.1, hl.2.1, fun _ h => nomatch h⟩ (by decide) rfl (fun ls' hl' => ?_)
        refine lv_iconst (v := 1) hx hb dk304_14 (by decide) ?_
        rw [show 0 + (mHp μ1 - mHp μ) = mHp μ1 - mHp μ by omega, show 0 + (mSl μ1 - mSl μ) = mSl μ1 - mSl μ by omega]
        exact W.iret (v := 1) hx hb hr (fun t ht hW' => ⟨⟨rfl, by rw [ht]; exact hIn2.1, hIn2.2.2.moved hW'.alike (fun q hq => by rw [ht]; exact hIn2.2.1.2.1 q (by omega) (by omega)) (hX.2.warm hW' (fun q hq => by rw [ht]; exact hIn2.2.1.2.1 q (by omega) (by omega)))⟩, hIn2.2.1.F ht⟩) hIn2.2.1.2.2 dk304_15
      have kx := vx_catch (pc := 5) (rest := [.int 0, .ref (rho9 b0 cst o)]) (own := "HiddenOrLostLaw") (name := nse9) (E := nse9) (ce := ce) (q := q) hown [] ⟨0, 9, 12, 13⟩ [] htab (fun _ h => nomatch h) (by decide) (by decide) (hts _ (g9p (i := 1340) (by decide +kernel) rfl)) (cst9 hts) (by rw [e1]; exact hce) hcv hcl kk
      obtain ⟨t2, a1, b1⟩ := kx T' rfl X'
      exact ⟨t2, st.trans a1, b1⟩
/-- the helpers, as the small machine has them: shown -/
theorem hlp9 {l : Launch} {b0 : Nat} {cst : Nat → Nat} {D : va_G} {cA : Nat → ClassId} (hl9 : l.stackTraces = false) : HlpR9 l b0 cst D cA := by
  intro p e R s m args below meth c d n M' z pc as r x μ μ1 H locs cells slots Q lsA hSC ih hM1 hM2 hlk hrun hlen hcs hcat hIn hsz hcf hsf hdg kk
  obtain ⟨hx, hb, hml, hown, hts, ⟨hK, hN, hAO⟩, hfr, hlo, hname, hb0⟩ := id hSC
  have hmo1 : mHp μ ≤ mHp μ1 ∧ mSl μ ≤ mSl μ1 := mo_run n _ _ _ _ _ _ _ hrun
  have hrs : ((r.map (tv9 b0 cst)).map fun v => v.category).sum ≤ 8 := by rw [tv9_cats]; exact Nat.le_of_ble_eq_true hcat
  have key : ∀ (hh : List (Nat × Nat × Nat × Nat)), Met l (mY9 M') (Cond.codeWith (mY9 M') (mB9 M') 5 (some .int) hh :: G9) { frames := d, cells := mHp μ1 - mHp μ, slots := mSl μ1 - mSl μ, locals := 60 * d } (va_Pc (as.map (tv9 b0 cst)) (fun U => Wd9 b0 cst D cA μ U.heap ∧ S9 D cA U ∧ sc9 b0 cst μ U ∧ b0 ≤ U.heap.size))
      (fun _ st o t => (o = .returned ((some (Value.int x)).map (tv9 b0 cst)) ∧ Wd9 b0 cst D cA μ1 t.heap ∧ sc9 b0 cst μ1 t) ∧ va_F (fun q => b0 ≤ q) st t) (mHp μ1 - mHp μ) (mSl μ1 - mSl μ) (fun q => b0 ≤ q) →
      Cond.codeWith (mY9 M') (mB9 M') 5 (some .int) hh ∈ G9 → (mY9 M').cls = "HiddenOrLostLaw" → Cond.static (mY9 M') ∈ G9 → (parseMethodDescriptor (mY9 M').desc).map (fun d => d.parameters.length) = some (np9 M') →
      W p l e R s m args below meth c H locs cells slots Q (F0 m pc lsA ((as.map (tv9 b0 cst)).reverse ++ r.map (tv9 b0 cst))) := fun hh hmet hcw hcl hst hnp => by
    have hG : GoodIn G9 (Cond.codeWith (mY9 M') (mB9 M') 5 (some .int) hh :: G9) := by
      intro w hw
      rcases List.mem_cons.mp hw with rfl | hw
      · exact ⟨hcw, Or.inl rfl⟩
      · exact ⟨hw, good_of_word (List.mem_filter.mp hw).2⟩
    have hini : Cond.initialized (mY9 M').cls ∈ G9 := by rw [hcl]; exact g9p (i := 119) (by decide +kernel) rfl
    have hsig : ∀ sig, parseMethodDescriptor (mY9 M').desc = some sig → as.length = sig.parameters.length := fun sig h => by
      rw [h] at hnp
      rw [hlen]
      exact (Option.some.inj hnp).symm
    have hr := vx_runSW (l := l) (e := e) (locs := locs) (meth := meth) (below := below) (cells := cells) (slots := slots) (mc := mHp μ1 - mHp μ) (ms := mSl μ1 - mSl μ) (rest := r.map (tv9 b0 cst)) (As := as.map (tv9 b0 cst)) (g := F0 m pc lsA ((as.map (tv9 b0 cst)).reverse ++ r.map (tv9 b0 cst))) ⟨hx, hb, hml, hown, hts⟩ hmet
      ⟨⟨rfl, rfl, hfr, by show 8 + (5 + 11) + 60 * d ≤ R.locals; omega, pay_in hts hG, List.mem_cons_self⟩, hts _ hcw, hts _ hini, by rw [hcl]; exact ⟨by decide, by decide⟩, hsig, hts _ (mLk9 hlk), hts _ hst⟩
      ⟨fun a U g mk q => by obtain ⟨q0, qW, qS, qX, qb⟩ := q; exact ⟨q0, qW, ⟨qS.1.moved (u := U) (U := U.calling g mk a) (Vm.Alike.refl U.vm), qS.2.1.same (u := U) (U := U.calling g mk a) rfl, qS.2.2.moved (u := U) (U := U.calling g mk a) (Vm.Alike.refl U.vm)⟩, qX.moved (u := U) (U := U.calling g mk a) (Vm.Alike.refl U.vm) (fun _ _ => rfl) (qX.2.same (u := U) (U := U.calling g mk a) rfl rfl), qb⟩, fun U hU hW => ⟨rfl, by rw [hU]; exact hIn.1, ⟨hK.moved hW.alike, hN.warm hW, hAO.moved hW.alike⟩, hIn.2.2.moved hW.alike (fun q hq => by rw [hU]; exact hIn.2.1.2.1 q (by omega) (by omega)) (hIn.2.2.2.warm hW (fun q hq => by rw [hU]; exact hIn.2.1.2.1 q (by omega) (by omega))), by rw [hU]; exact Nat.le_trans hb0 hIn.2.1.1⟩⟩ rfl (by rw [List.length_map]) hsz rfl (lv_room hrs) hdg ⟨hcf, hsf⟩
    exact s_back (rv := some (.int x)) hr hIn hb0 kk
  have h4 : M' = 301 ∨ M' = 302 ∨ M' = 303 ∨ M' = 304 := by omega
  rcases h4 with rfl | rfl | rfl | rfl
  · exact key _ (hm_find hl9 ih hrun hcs) wk301 rfl (g9p (i := 1338) (by decide +kernel) rfl) (by decide +kernel)
  · exact key _ (hm_belief hl9 ih hrun hcs) wk302 rfl (g9p (i := 1407) (by decide +kernel) rfl) (by decide +kernel)
  · exact key _ (hm_sure hl9 ih hrun hcs) wk303 rfl (g9p (i := 1420) (by decide +kernel) rfl) (by decide +kernel)
  · exact key _ (hm_gains hl9 ih hrun hcs) wk304 rfl (g9p (i := 1429) (by decide +kernel) rfl) (by decide +kernel)

/-! locals, arguments, words: what the small machine's lists are in the JVM's frame -/
def rho9 (b0 : Nat) (cst : Nat → Nat) (a : Nat) : Nat := if a < oFF then b0 + a else cst (a - oFF)
def tv9 (b0 : Nat) (cst : Nat → Nat) (v : Value) : Value := match v with
  | .ref a => .ref (rho9 b0 cst a)
  | x => x
def rf9 (b0 : Nat) (cst : Nat → Nat) (o : Option Nat) : Value := match o with
  | none => .null
  | some a => .ref (rho9 b0 cst a)
theorem rho9_lt {b0 a : Nat} {cst : Nat → Nat} (h : a < oFF) : rho9 b0 cst a = b0 + a := by simp [rho9, h]
theorem tv9_cat (b0 : Nat) (cst : Nat → Nat) (v : Value) : (tv9 b0 cst v).category = v.category := by cases v <;> rfl
theorem tv9_cats (b0 : Nat) (cst : Nat → Nat) (st : List Value) : ((st.map (tv9 b0 cst)).map fun v => v.category) = st.map fun v => v.category := by
  rw [List.map_map]
  exact List.map_congr_left fun v _ => tv9_cat b0 cst v
def G9 : List Cond := lw_tbl.filter goodWord
theorem g9 {w : Cond} (h : w ∈ lw_tbl) (hg : goodWord w = true) : w ∈ G9 := List.mem_filter.mpr ⟨h, hg⟩
theorem g9p {w : Cond} {i : Nat} (h : lw_tbl[i]? = some w) (hg : goodWord w = true) : w ∈ G9 := g9 (List.mem_of_getElem? h) hg
theorem uinG {ci : Nat} (h : ci < 14) : ∀ w ∈ u_ws (cn9 ci) (T9 ci) (N9 ci), w ∈ G9 := by
  intro w hw
  refine g9 (uin9 h w hw) ?_
  obtain ⟨k, hk, rfl⟩ := List.mem_map.mp hw
  unfold u_lay
  split <;> rfl
def lk9 (b0 : Nat) (cst : Nat → Nat) (ls : Loc9) (nL : Nat) (A : Array Slot) : Prop := A.size = nL ∧ lv_wf A ∧ ∀ i v, nth9 ls i = some v → A[i]? = some (.val (tv9 b0 cst v))
theorem nth9_lt : ∀ {ls : Loc9} {i : Nat} {v : Value}, nth9 ls i = some v → i < ls.length
  | [], _, _, h => by cases h
  | _ :: _, 0, _, _ => by simp
  | _ :: t, i + 1, v, h => by
    have := nth9_lt (ls := t) (i := i) (v := v) h
    simp; omega
def lq9 (b0 : Nat) (cst : Nat → Nat) (ls : Loc9) : List (Nat × Value) := (List.range ls.length).filterMap fun i => (nth9 ls i).map fun v => (i, tv9 b0 cst v)
theorem lq9_mem {b0 : Nat} {cst : Nat → Nat} {ls : Loc9} {q : Nat × Value} : q ∈ lq9 b0 cst ls ↔ ∃ v, nth9 ls q.1 = some v ∧ q.2 = tv9 b0 cst v := by
  unfold lq9
  rw [List.mem_filterMap]
  constructor
  · rintro ⟨i, -, h⟩
    rw [Option.map_eq_some_iff] at h
    obtain ⟨v, hv, rfl⟩ := h
    exact ⟨v, hv, rfl⟩
  · rintro ⟨v, hv, h2⟩
    exact ⟨q.1, List.mem_range.mpr (nth9_lt hv), by rw [hv]; show some (q.1, _) = _; rw [← h2]⟩
theorem lk9.has {b0 : Nat} {cst : Nat → Nat} {ls : Loc9} {nL : Nat} {A : Array Slot} (h : lk9 b0 cst ls nL A) : lv_has A nL (lq9 b0 cst ls) :=
  ⟨h.1, h.2.1, fun q hq => by
    obtain ⟨v, hv, h2⟩ := lq9_mem.mp hq
    rw [h2]
    exact h.2.2 _ _ hv⟩
theorem clr9_some {o : Option Value} {w : Value} (h : clr9 o = some w) : o = some w ∧ ¬ w.category = 2 := by
  unfold clr9 at h
  split at h
  · cases h
  · cases h
  · rename_i h1 h2
    refine ⟨h, fun q => ?_⟩
    subst h
    cases w <;> simp [Value.category] at q
    · exact h1 _ rfl
    · exact h2 _ rfl
theorem nth9_st1 : ∀ {ls : Loc9} {i j : Nat} {v w : Value}, nth9 (st1 ls i v) j = some w → (j = i ∧ w = v) ∨ (j ≠ i ∧ nth9 ls j = some w ∧ ¬ (j + 1 = i ∧ w.category = 2))
  | [], _, _, _, _, h => by simp [st1, nth9] at h
  | a :: t, 0, 0, v, w, h => Or.inl ⟨rfl, (Option.some.inj h).symm⟩
  | a :: t, 0, j + 1, v, w, h => Or.inr ⟨by omega, h, by omega⟩
  | a :: t, 1, 0, v, w, h => by
    have h2 : clr9 a = some w := h
    obtain ⟨e1, e2⟩ := clr9_some h2
    exact Or.inr ⟨by omega, e1, fun q => e2 q.2⟩
  | a :: t, 1, j + 1, v, w, h => by
    rcases nth9_st1 (ls := t) (i := 0) (j := j) h with ⟨e1, e2⟩ | ⟨e1, e2, e3⟩
    · exact Or.inl ⟨by omega, e2⟩
    · exact Or.inr ⟨by omega, e2, by omega⟩
  | a :: t, i + 2, 0, v, w, h => Or.inr ⟨by omega, h, by omega⟩
  | a :: t, i + 2, j + 1, v, w, h => by
    rcases nth9_st1 (ls := t) (i := i + 1) (j := j) h with ⟨e1, e2⟩ | ⟨e1, e2, e3⟩
    · exact Or.inl ⟨by omega, e2⟩
    · exact Or.inr ⟨by omega, e2, fun q => e3 ⟨by omega, q.2⟩⟩
theorem nth9_st2 : ∀ {ls : Loc9} {i j : Nat} {v w : Value}, nth9 (st2 ls i v) j = some w → (j = i ∧ w = v) ∨ (j ≠ i ∧ j ≠ i + 1 ∧ nth9 ls j = some w ∧ ¬ (j + 1 = i ∧ w.category = 2))
  | [], _, _, _, _, h => by simp [st2, nth9] at h
  | [_], 0, 0, v, w, h => by simp [st2, nth9] at h
  | [_], 0, j + 1, v, w, h => by simp [st2, nth9] at h
  | a :: b :: t, 0, 0, v, w, h => Or.inl ⟨rfl, (Option.some.inj h).symm⟩
  | a :: b :: t, 0, 1, v, w, h => by simp [st2, nth9] at h
  | a :: b :: t, 0, j + 2, v, w, h => Or.inr ⟨by omega, by omega, h, by omega⟩
  | a :: t, 1, 0, v, w, h => by
    have h2 : clr9 a = some w := by cases t <;> exact h
    obtain ⟨e1, e2⟩ := clr9_some h2
    exact Or.inr ⟨by omega, by omega, e1, fun q => e2 q.2⟩
  | a :: t, 1, j + 1, v, w, h => by
    have h2 : nth9 (st2 t 0 v) j = some w := by cases t <;> exact h
    rcases nth9_st2 (ls := t) (i := 0) (j := j) h2 with ⟨e1, e2⟩ | ⟨e1, e2, e3, e4⟩
    · exact Or.inl ⟨by omega, e2⟩
    · exact Or.inr ⟨by omega, by omega, e3, by omega⟩
  | a :: t, i + 2, 0, v, w, h => Or.inr ⟨by omega, by omega, (by cases t <;> exact h), by omega⟩
  | a :: t, i + 2, j + 1, v, w, h => by
    have h2 : nth9 (st2 t (i + 1) v) j = some w := by cases t <;> exact h
    rcases nth9_st2 (ls := t) (i := i + 1) (j := j) h2 with ⟨e1, e2⟩ | ⟨e1, e2, e3, e4⟩
    · exact Or.inl ⟨by omega, e2⟩
    · exact Or.inr ⟨by omega, by omega, e3, fun q => e4 ⟨by omega, q.2⟩⟩
theorem nth9_cut : ∀ {k : Nat} {ls : Loc9} {j : Nat} {w : Value}, nth9 (cut9 k ls) j = some w → nth9 ls j = some w
  | _, [], _, _, h => by simpa [cut9] using h
  | 0, a :: t, 0, w, h => by simp [cut9, nth9] at h
  | 0, a :: t, j + 1, w, h => nth9_cut (k := 0) (ls := t) (j := j) h
  | k + 1, a :: t, 0, w, h => h
  | k + 1, a :: t, j + 1, w, h => nth9_cut (k := k) (ls := t) (j := j) h
theorem lk9.cut {b0 : Nat} {cst : Nat → Nat} {ls : Loc9} {nL k : Nat} {A : Array Slot} (h : lk9 b0 cst ls nL A) : lk9 b0 cst (cut9 k ls) nL A := ⟨h.1, h.2.1, fun i v hv => h.2.2 i v (nth9_cut hv)⟩
theorem lk9.cutA {b0 : Nat} {cst : Nat → Nat} {ls : Loc9} {nL k : Nat} {A : Array Slot} (h : lk9 b0 cst ls nL A) : lk9 b0 cst (cutA k ls) nL A := by
  cases k with
  | zero => exact h
  | succ k => exact h.cut
theorem lk9.put1 {b0 : Nat} {cst : Nat → Nat} {ls : Loc9} {nL i : Nat} {A A' : Array Slot} {v : Value} (h : lv_has A' nL ((i, tv9 b0 cst v) :: (lq9 b0 cst ls).filter (fun q => !(q.1 == i) && !(q.1 + 1 == i && q.2.category == 2)))) : lk9 b0 cst (st1 ls i v) nL A' := by
  refine ⟨h.1, h.2.1, fun j w hw => ?_⟩
  rcases nth9_st1 hw with ⟨rfl, rfl⟩ | ⟨e1, e2, e3⟩
  · exact h.2.2 _ List.mem_cons_self
  · refine h.2.2 (j, tv9 b0 cst w) (List.mem_cons_of_mem _ (List.mem_filter.mpr ⟨lq9_mem.mpr ⟨w, e2, rfl⟩, ?_⟩))
    simp only [tv9_cat]
    simp [e1]
    omega
theorem lk9.put2 {b0 : Nat} {cst : Nat → Nat} {ls : Loc9} {nL i : Nat} {A A' : Array Slot} {v : Value} (h : lv_has A' nL ((i, tv9 b0 cst v) :: (lq9 b0 cst ls).filter (fun q => !(q.1 == i) && (!(q.1 == i + 1) && !(q.1 + 1 == i && q.2.category == 2))))) : lk9 b0 cst (st2 ls i v) nL A' := by
  refine ⟨h.1, h.2.1, fun j w hw => ?_⟩
  rcases nth9_st2 hw with ⟨rfl, rfl⟩ | ⟨e1, e2, e3, e4⟩
  · exact h.2.2 _ List.mem_cons_self
  · refine h.2.2 (j, tv9 b0 cst w) (List.mem_cons_of_mem _ (List.mem_filter.mpr ⟨lq9_mem.mpr ⟨w, e3, rfl⟩, ?_⟩))
    simp only [tv9_cat]
    simp [e1, e2]
    omega
theorem arg9_mem (b0 : Nat) (cst : Nat → Nat) : ∀ (as : List Value) (n j k : Nat) (w : Value), nth9 (arg9 n as) j = some w → (k + j, tv9 b0 cst w) ∈ lv_args k (as.map (tv9 b0 cst))
  | as, 0, j, k, w, h => by simp [arg9, nth9] at h
  | [], n + 1, j, k, w, h => by
    exfalso
    have : ∀ (n j : Nat), nth9 (arg9 n []) j = none := by
      intro n
      induction n with
      | zero => intro j; rfl
      | succ n ih =>
        intro j
        cases j with
        | zero => rfl
        | succ j => exact ih j
    rw [this] at h
    cases h
  | v :: r, n + 1, j, k, w, h => by
    have key : ∀ (c : Nat), (tv9 b0 cst v).category = c → lv_args k ((v :: r).map (tv9 b0 cst)) = (k, tv9 b0 cst v) :: lv_args (if c = 2 then k + 2 else k + 1) (r.map (tv9 b0 cst)) := by
      intro c hc
      subst hc
      rfl
    cases v with
    | long x =>
      rw [key 2 rfl]
      cases n with
      | zero => cases j <;> simp [arg9, nth9] at h
      | succ n =>
        match j, h with
        | 0, h => cases h; exact List.mem_cons_self
        | 1, h => simp [arg9, nth9] at h
        | j + 2, h =>
          have := arg9_mem b0 cst r n j (k + 2) w h
          refine List.mem_cons_of_mem _ ?_
          rw [if_pos rfl, show k + (j + 2) = k + 2 + j by omega]
          exact this
    | double x => simp [arg9, nth9] at h
    | int x =>
      rw [key 1 rfl]
      match j, h with
      | 0, h => cases h; exact List.mem_cons_self
      | j + 1, h =>
        have := arg9_mem b0 cst r n j (k + 1) w h
        refine List.mem_cons_of_mem _ ?_
        rw [if_neg (by decide), show k + (j + 1) = k + 1 + j by omega]
        exact this
    | float x =>
      rw [key 1 rfl]
      match j, h with
      | 0, h => cases h; exact List.mem_cons_self
      | j + 1, h =>
        have := arg9_mem b0 cst r n j (k + 1) w h
        refine List.mem_cons_of_mem _ ?_
        rw [if_neg (by decide), show k + (j + 1) = k + 1 + j by omega]
        exact this
    | null =>
      rw [key 1 rfl]
      match j, h with
      | 0, h => cases h; exact List.mem_cons_self
      | j + 1, h =>
        have := arg9_mem b0 cst r n j (k + 1) w h
        refine List.mem_cons_of_mem _ ?_
        rw [if_neg (by decide), show k + (j + 1) = k + 1 + j by omega]
        exact this
    | ref x =>
      rw [key 1 rfl]
      match j, h with
      | 0, h => cases h; exact List.mem_cons_self
      | j + 1, h =>
        have := arg9_mem b0 cst r n j (k + 1) w h
        refine List.mem_cons_of_mem _ ?_
        rw [if_neg (by decide), show k + (j + 1) = k + 1 + j by omega]
        exact this
    | retAddr x =>
      rw [key 1 rfl]
      match j, h with
      | 0, h => cases h; exact List.mem_cons_self
      | j + 1, h =>
        have := arg9_mem b0 cst r n j (k + 1) w h
        refine List.mem_cons_of_mem _ ?_
        rw [if_neg (by decide), show k + (j + 1) = k + 1 + j by omega]
        exact this
theorem lgsl_len : ∀ (vs : List Value), (lg_sl vs).length = (vs.map fun v => v.category).sum
  | [] => rfl
  | v :: r => by
    have := lgsl_len r
    unfold lg_sl at this ⊢
    rw [List.flatMap_cons, List.length_append, List.map_cons, List.sum_cons, this]
    congr 1
    rcases lv_cat v with h | h
    · rw [if_neg (by omega), h]; rfl
    · rw [if_pos h, h]; rfl
/-- the locals at a method's entry -/
theorem lk9_entry {b0 : Nat} {cst : Nat → Nat} {as : List Value} {n : Nat} (h : Nat.ble (cs9 as) n = true) : lk9 b0 cst (arg9 n as) n (lg_sl (as.map (tv9 b0 cst)) ++ List.replicate (n - (lg_sl (as.map (tv9 b0 cst))).length) Slot.unset).toArray := by
  have hn : (lg_sl (as.map (tv9 b0 cst))).length ≤ n := by
    rw [lgsl_len, tv9_cats]
    exact Nat.le_of_ble_eq_true h
  have := lv_entry (as.map (tv9 b0 cst)) hn
  refine ⟨this.1, this.2.1, fun j w hw => ?_⟩
  have h2 := arg9_mem b0 cst as n j 0 w hw
  rw [Nat.zero_add] at h2
  exact this.2.2 _ h2
theorem tk9_eq : ∀ (n : Nat) (acc st as r : List Value), tk9 n acc st = some (as, r) → ∃ xs : List Value, st = xs ++ r ∧ as = xs.reverse ++ acc ∧ xs.length = n
  | 0, acc, st, as, r, h => by
    simp only [tk9, Option.some.injEq, Prod.mk.injEq] at h
    exact ⟨[], by simp [h.2], by simp [h.1], rfl⟩
  | n + 1, acc, [], as, r, h => by simp [tk9] at h
  | n + 1, acc, v :: st, as, r, h => by
    obtain ⟨xs, e1, e2, e3⟩ := tk9_eq n (v :: acc) st as r h
    exact ⟨v :: xs, by rw [e1]; rfl, by rw [e2]; simp, by simp [e3]⟩
theorem tk9_st {n : Nat} {st as r : List Value} (h : tk9 n [] st = some (as, r)) : st = as.reverse ++ r ∧ as.length = n := by
  obtain ⟨xs, e1, e2, e3⟩ := tk9_eq n [] st as r h
  rw [List.append_nil] at e2
  exact ⟨by rw [e1, e2, List.reverse_reverse], by rw [e2, List.length_reverse, e3]⟩

/-! what holds between the two sides, and what each op keeps of it -/
section Q90
variable {N a b ln sp sn ss nP nF nE nW nH nR : Nat} {I I' I1 I1' : FI} {J J' J1 J1' : FJ} {m i k : Nat}
def InvP (N ln sp sn ss nP nF nE nW nH nR : Nat) (I : FI) (J : FJ) (I' : FI) (J' : FJ) : Prop := (((ln = 7 ∧ sp = 16) ∨ (ln = 16 ∧ sp = 7)) ∧ ((sn = 45 ∧ ss = 50) ∨ (sn = 50 ∧ ss = 45))) ∧ QR N 25 ln nP nF nE nW nH nR I I' ∧ HistR nP nF nW nH I I' ∧ (∃ n, TapeR I I' n) ∧ RouteR I I' ∧ ToldR I I' ∧ (∃ n, LabR I I' n) ∧ (I 0 17 = I' 204 10 ∧ I 0 18 = I' 204 33 ∧ I 0 19 = I' 204 34) ∧ NameR ln nP nF nE J J' ∧ ImgR I J I' J' ∧ SentR nP sn I (I' 206) ∧ WordsJ J
def Inv (N ln sp sn ss : Nat) (I : FI) (J : FJ) (I' : FI) (J' : FJ) : Prop := ∃ nP nF nE nW nH nR, InvP N ln sp sn ss nP nF nE nW nH nR I J I' J'
theorem TapeR.keep {n : Nat} (h : TapeR I I' n) (h1 : I1 1 5 = I 1 5) (h2 : ∀ j, I1 2 j = I 2 j) (h3 : I1' 204 2 = I' 204 2) (h4 : ∀ j, I1' 205 j = I' 205 j) : TapeR I1 I1' n := by
  obtain ⟨t1, t2, t3, t4, t5⟩ := h
  exact ⟨t1, by rw [h1]; exact t2, by rw [h3]; exact t3, fun i hi => by rw [h2, h4]; exact t4 i hi, fun i hi => by rw [h4]; exact t5 i hi⟩
theorem RouteR.keep (h : RouteR I I') (h1 : I1 195 5 = I 195 5) (h2 : ∀ j, I1 199 j = I 199 j) (h3 : I1' 204 30 = I' 204 30) (h4 : ∀ j, I1' 218 j = I' 218 j) (h5 : ∀ j, I1' 219 j = I' 219 j) : RouteR I1 I1' := by
  obtain ⟨⟨n, a1, a2, a3, a4⟩, a5⟩ := h
  exact ⟨⟨n, a1, by rw [h1]; exact a2, by rw [h3]; exact a3, fun j hj => by rw [h2, h4]; exact a4 j hj⟩, fun c hc => by rw [h5]; exact a5 c hc⟩
theorem ToldR.keep (h : ToldR I I') (h1 : ∀ j, I1 202 j = I 202 j) (h2 : I1' 204 40 = I' 204 40) (h3 : ∀ j, I1' 223 j = I' 223 j) : ToldR I1 I1' := fun j hj => by
  rw [h1, h2, h3]; exact h j hj
theorem LabR.keep {n : Nat} (h : LabR I I' n) (h1 : I1 200 1 = I 200 1) (h2 : ∀ j, I1 201 j = I 201 j) (h3 : I1' 204 36 = I' 204 36) (h4 : ∀ j, I1' 221 j = I' 221 j) : LabR I1 I1' n := by
  obtain ⟨a1, a2, a3, a4⟩ := h
  exact ⟨a1, by rw [h1]; exact a2, by rw [h3]; exact a3, fun j hj => by rw [h2, h4]; exact a4 j hj⟩
theorem NameR.keep (h : NameR ln nP nF nE J J') (h1 : ∀ x j, ln ≤ x → x ≤ ln + 8 → J1 x j = J x j) (h2 : ∀ j, J1' 211 j = J' 211 j) : NameR ln nP nF nE J1 J1' := by
  obtain ⟨a1, a2, a3⟩ := h
  refine ⟨fun k hk => ?_, fun k hk => ?_, fun k hk => ?_⟩
  · rw [h1 _ _ (by omega) (by omega), h2]; exact a1 k hk
  · rw [h1 _ _ (by omega) (by omega), h2]; exact a2 k hk
  · rw [h1 _ _ (by omega) (by omega), h2]; exact a3 k hk
theorem InvP.mk2 (h : InvP N ln sp sn ss nP nF nE nW nH nR I J I' J') (q1 : QR N 25 ln nP nF nE nW nH nR I1 I1') (h1 : HistR nP nF nW nH I1 I1') (ht : ∃ n, TapeR I1 I1' n) (hr : RouteR I1 I1') (hto : ToldR I1 I1') (hl : ∃ n, LabR I1 I1' n) (e : I1 0 17 = I1' 204 10 ∧ I1 0 18 = I1' 204 33 ∧ I1 0 19 = I1' 204 34) (fI : ∀ x j, (45 ≤ x ∧ x ≤ 54 ∧ x ≠ sn + 4) ∨ (142 ≤ x ∧ x < 192) → I1 x j = I x j) (fM : ∀ x j, x = 208 ∨ x = 214 → I1' x j = I' x j) (f6 : ∀ j, 209 ≤ j → I1' 206 j = I' 206 j) (fJ : ∀ x j, x = 3 ∨ (7 ≤ x ∧ x ≤ 24) ∨ (142 ≤ x ∧ x < 192) → J1 x j = J x j) (fK : ∀ x j, x = 211 ∨ x = 213 → J1' x j = J' x j) : InvP N ln sp sn ss nP nF nE nW nH nR I1 J1 I1' J1' := by
  obtain ⟨⟨p1, p2⟩, -, -, -, -, -, -, -, n1, i1, s1, w1⟩ := h
  refine ⟨⟨p1, p2⟩, q1, h1, ht, hr, hto, hl, e, n1.keep (fun x j a b => fJ x j (by omega)) (fun j => fK _ _ (by omega)), i1.of (fun x j a b => fI x j (by omega)) (fun x j a b => fJ x j (by omega)) (fun j => fM _ _ (by omega)) (fun j => fM _ _ (by omega)) (fun j => fK _ _ (by omega)), s1.copy (fI _ _ (by omega)) (fI _ _ (by omega)) (fun k _ => ⟨fI _ _ (by omega), fI _ _ (by omega), fI _ _ (by omega)⟩) (fun j a _ => f6 j a), fun i hi => ?_⟩
  rw [fJ _ _ (by omega)]
  exact w1 i hi
/-- the book's cells that an act leaves -/
def KI (sn x j : Nat) : Prop := (x = 0 ∧ (j = 17 ∨ j = 18 ∨ j = 19)) ∨ (x = 1 ∧ j = 5) ∨ x = 2 ∨ (45 ≤ x ∧ x ≤ 54 ∧ x ≠ sn + 4) ∨ (142 ≤ x ∧ x < 192) ∨ (x = 195 ∧ j = 5) ∨ x = 199 ∨ (x = 200 ∧ j = 1) ∨ x = 201 ∨ x = 202
def KM (x j : Nat) : Prop := (x = 204 ∧ (j = 2 ∨ j = 10 ∨ j = 30 ∨ j = 33 ∨ j = 34 ∨ j = 36 ∨ j = 40)) ∨ x = 205 ∨ x = 208 ∨ x = 214 ∨ x = 218 ∨ x = 219 ∨ x = 221 ∨ x = 223
theorem InvP.act (h : InvP N ln sp sn ss nP nF nE nW nH nR I J I' J') (q1 : QR N 25 ln nP nF nE nW nH nR I1 I1') (h1 : HistR nP nF nW nH I1 I1') (fI : ∀ x j, KI sn x j → I1 x j = I x j) (fM : ∀ x j, KM x j → I1' x j = I' x j) (f6 : ∀ j, 209 ≤ j → I1' 206 j = I' 206 j) (fJ : ∀ x j, x = 3 ∨ (7 ≤ x ∧ x ≤ 24) ∨ (142 ≤ x ∧ x < 192) → J1 x j = J x j) (fK : ∀ x j, x = 211 ∨ x = 213 → J1' x j = J' x j) : InvP N ln sp sn ss nP nF nE nW nH nR I1 J1 I1' J1' := by
  have h0 := h
  obtain ⟨⟨p1, p2⟩, -, -, ⟨n, ht⟩, hr, hto, ⟨n2, hl⟩, ⟨e1, e2, e3⟩, -⟩ := h
  unfold KI at fI
  unfold KM at fM
  refine h0.mk2 q1 h1 ⟨n, ht.keep (fI _ _ (by omega)) (fun j => fI _ _ (by omega)) (fM _ _ (by omega)) (fun j => fM _ _ (by omega))⟩ (hr.keep (fI _ _ (by omega)) (fun j => fI _ _ (by omega)) (fM _ _ (by omega)) (fun j => fM _ _ (by omega)) (fun j => fM _ _ (by omega))) (hto.keep (fun j => fI _ _ (by omega)) (fM _ _ (by omega)) (fun j => fM _ _ (by omega))) ⟨n2, hl.keep (fI _ _ (by omega)) (fun j => fI _ _ (by omega)) (fM _ _ (by omega)) (fun j => fM _ _ (by omega))⟩ ⟨?_, ?_, ?_⟩ (fun x j w => fI x j (by omega)) (fun x j w => fM x j (by omega)) f6 fJ fK
  · rw [fI _ _ (by omega), fM _ _ (by omega)]; exact e1
  · rw [fI _ _ (by omega), fM _ _ (by omega)]; exact e2
  · rw [fI _ _ (by omega), fM _ _ (by omega)]; exact e3
theorem InvP.qr (h : InvP N ln sp sn ss nP nF nE nW nH nR I J I' J') : QR N 25 ln nP nF nE nW nH nR I I' := h.2.1
theorem InvP.l6 (h : InvP N ln sp sn ss nP nF nE nW nH nR I J I' J') : 7 ≤ ln ∧ ln ≤ 16 ∧ 45 ≤ sn ∧ sn ≤ 50 ∧ 45 ≤ ss ∧ ss ≤ 50 ∧ (sn + 5 ≤ ss ∨ ss + 5 ≤ sn) ∧ 7 ≤ sp ∧ sp ≤ 16 ∧ (ln + 9 ≤ sp ∨ sp + 9 ≤ ln) := by
  obtain ⟨⟨p1, p2⟩, -⟩ := h
  omega
theorem InvP.keep (h : InvP N ln sp sn ss nP nF nE nW nH nR I J I' J') (fI : ∀ x j, KI sn x j ∨ (6 ≤ x ∧ x ≤ 34) ∨ (60 ≤ x ∧ x < 142) → I1 x j = I x j) (fM : ∀ x j, KM x j ∨ (x = 204 ∧ j = 24) ∨ x = 206 ∨ x = 209 → I1' x j = I' x j) (fJ : ∀ x j, x = 3 ∨ (7 ≤ x ∧ x ≤ 24) ∨ (142 ≤ x ∧ x < 192) → J1 x j = J x j) (fK : ∀ x j, x = 211 ∨ x = 213 → J1' x j = J' x j) : InvP N ln sp sn ss nP nF nE nW nH nR I1 J1 I1' J1' := by
  have hl := h.l6
  exact h.act (h.qr.of6 (by omega) (fun q j a b => fI q j (Or.inr (Or.inl ⟨a, b⟩))) (fun j _ => fM _ _ (by omega))) (h.2.2.1.of h.qr.bd.2.1 (fun q j a b => fI q j (Or.inr (Or.inr ⟨a, b⟩))) (fM _ _ (by omega)) (fun j => fM _ _ (by omega))) (fun x j w => fI x j (Or.inl w)) (fun x j w => fM x j (Or.inl w)) (fun j _ => fM _ _ (by omega)) fJ fK
theorem InvP.thr (h : InvP N ln sp sn ss nP nF nE nW nH nR I J I' J') {v : Int32} : InvP N ln sp sn ss nP nF nE nW nH nR I J (up2 I' 204 0 v) J' := h.keep (fun _ _ _ => rfl) (fun x j w => up2_ff (by unfold KM at w; omega)) (fun _ _ _ => rfl) (fun _ _ _ => rfl)
theorem inv_person (h : Inv N ln sp sn ss I J I' J') (l1 l2 : Int32) : ∃ v, Hol_person N ln sp sn ss l1 l2 I = some v ∧ Mod_person N l1 l2 I' = some (v, up2 I' 204 0 0) ∧ Inv N ln sp sn ss I J (up2 I' 204 0 0) J' := by
  obtain ⟨nP, nF, nE, nW, nH, nR, hp⟩ := h
  obtain ⟨v, k1, k2⟩ := op_person hp.qr l1 l2
  exact ⟨v, k1, k2, nP, nF, nE, nW, nH, nR, hp.thr⟩
theorem inv_cell (h : Inv N ln sp sn ss I J I' J') (l1 l2 l3 : Int32) : ∃ v, Hol_cell N ln sp sn ss l1 l2 l3 I = some v ∧ Mod_cell N l1 l2 l3 I' = some (v, up2 I' 204 0 0) ∧ Inv N ln sp sn ss I J (up2 I' 204 0 0) J' := by
  obtain ⟨nP, nF, nE, nW, nH, nR, hp⟩ := h
  obtain ⟨v, k1, k2⟩ := op_cell hp.qr l1 l2 l3
  exact ⟨v, k1, k2, nP, nF, nE, nW, nH, nR, hp.thr⟩
theorem inv_now (h : Inv N ln sp sn ss I J I' J') (l1 : Int32) : ∃ v, Hol_now N ln sp sn ss l1 I = some v ∧ Mod_now N l1 I' = some (v, up2 I' 204 0 0) ∧ Inv N ln sp sn ss I J (up2 I' 204 0 0) J' := by
  obtain ⟨nP, nF, nE, nW, nH, nR, hp⟩ := h
  obtain ⟨v, k1, k2⟩ := op_now hp.qr l1
  exact ⟨v, k1, k2, nP, nF, nE, nW, nH, nR, hp.thr⟩
theorem inv_fear (h : Inv N ln sp sn ss I J I' J') (l1 l2 : Int32) : ∃ v, Hol_fear ln sp sn ss l1 l2 I = some v ∧ Mod_fear  l1 l2 I' = some (v, up2 I' 204 0 0) ∧ Inv N ln sp sn ss I J (up2 I' 204 0 0) J' := by
  obtain ⟨nP, nF, nE, nW, nH, nR, hp⟩ := h
  obtain ⟨v, k1, k2⟩ := op_fear hp.qr l1 l2
  exact ⟨v, k1, k2, nP, nF, nE, nW, nH, nR, hp.thr⟩
theorem inv_spread (h : Inv N ln sp sn ss I J I' J') : ∃ v, Hol_spread N ln sp sn ss  I = some v ∧ Mod_spread N  I' = some (v, up2 I' 204 0 0) ∧ Inv N ln sp sn ss I J (up2 I' 204 0 0) J' := by
  obtain ⟨nP, nF, nE, nW, nH, nR, hp⟩ := h
  obtain ⟨v, k1, k2⟩ := op_spread hp.qr 
  exact ⟨v, k1, k2, nP, nF, nE, nW, nH, nR, hp.thr⟩
theorem inv_fears (h : Inv N ln sp sn ss I J I' J') : ∃ v, Hol_fears N ln sp sn ss  I = some v ∧ Mod_fears N  I' = some (v, up2 I' 204 0 0) ∧ Inv N ln sp sn ss I J (up2 I' 204 0 0) J' := by
  obtain ⟨nP, nF, nE, nW, nH, nR, hp⟩ := h
  obtain ⟨v, k1, k2⟩ := op_fears hp.qr 
  exact ⟨v, k1, k2, nP, nF, nE, nW, nH, nR, hp.thr⟩
theorem inv_told (h : Inv N ln sp sn ss I J I' J') (l1 : Int32) : ∃ v, Hol_told ln sp sn ss l1 I = some v ∧ Mod_told  l1 I' = some (v, up2 I' 204 0 0) ∧ Inv N ln sp sn ss I J (up2 I' 204 0 0) J' := by
  obtain ⟨nP, nF, nE, nW, nH, nR, hp⟩ := h
  obtain ⟨v, k1, k2⟩ := op_told hp.2.2.2.2.2.1 l1
  exact ⟨v, k1, k2, nP, nF, nE, nW, nH, nR, hp.thr⟩
theorem inv_byteAt (h : Inv N ln sp sn ss I J I' J') (l1 : Int32) : ∃ v, Hol_byteAt ln sp sn ss l1 I = some v ∧ Mod_byteAt  l1 I' = some (v, up2 I' 204 0 0) ∧ Inv N ln sp sn ss I J (up2 I' 204 0 0) J' := by
  obtain ⟨nP, nF, nE, nW, nH, nR, hp⟩ := h
  obtain ⟨v, k1, k2⟩ := op_byteAt hp.2.2.2.2.2.2.1 l1
  exact ⟨v, k1, k2, nP, nF, nE, nW, nH, nR, hp.thr⟩
theorem inv_routeAt (h : Inv N ln sp sn ss I J I' J') (l1 : Int32) : ∃ v, Hol_routeAt ln sp sn ss l1 I = some v ∧ Mod_routeAt  l1 I' = some (v, up2 I' 204 0 0) ∧ Inv N ln sp sn ss I J (up2 I' 204 0 0) J' := by
  obtain ⟨nP, nF, nE, nW, nH, nR, hp⟩ := h
  obtain ⟨v, k1, k2⟩ := op_routeAt hp.2.2.2.2.1 l1
  exact ⟨v, k1, k2, nP, nF, nE, nW, nH, nR, hp.thr⟩
theorem inv_early (h : Inv N ln sp sn ss I J I' J') : Mod_early  I' = some (Hol_early ln sp sn ss  I, up2 I' 204 0 0) ∧ Inv N ln sp sn ss I J (up2 I' 204 0 0) J' := by
  obtain ⟨nP, nF, nE, nW, nH, nR, hp⟩ := h
  exact ⟨op_early hp.2.2.2.2.2.2.2.1.2.1 , nP, nF, nE, nW, nH, nR, hp.thr⟩
theorem inv_parted (h : Inv N ln sp sn ss I J I' J') : Mod_parted  I' = some (Hol_parted ln sp sn ss  I, up2 I' 204 0 0) ∧ Inv N ln sp sn ss I J (up2 I' 204 0 0) J' := by
  obtain ⟨nP, nF, nE, nW, nH, nR, hp⟩ := h
  exact ⟨op_parted hp.2.2.2.2.2.2.2.1.2.2 , nP, nF, nE, nW, nH, nR, hp.thr⟩
theorem inv_fault (h : Inv N ln sp sn ss I J I' J') : Mod_fault  I' = some (Hol_fault ln sp sn ss  I, up2 I' 204 0 0) ∧ Inv N ln sp sn ss I J (up2 I' 204 0 0) J' := by
  obtain ⟨nP, nF, nE, nW, nH, nR, hp⟩ := h
  exact ⟨op_fault hp.2.2.2.2.2.2.2.1.1 , nP, nF, nE, nW, nH, nR, hp.thr⟩
theorem inv_count (h : Inv N ln sp sn ss I J I' J') (l1 : Int32) : Mod_count l1 I' = some (Hol_count ln sp sn ss l1 I, up2 I' 204 0 0) ∧ Inv N ln sp sn ss I J (up2 I' 204 0 0) J' := by
  obtain ⟨nP, nF, nE, nW, nH, nR, hp⟩ := h
  obtain ⟨n, hT⟩ := hp.2.2.2.1
  have e : I 1 5 = I' 204 2 := hT.2.1.trans hT.2.2.1.symm
  exact ⟨op_count hp.qr e l1, nP, nF, nE, nW, nH, nR, hp.thr⟩
theorem inv_find (h : Inv N ln sp sn ss I J I' J') (l1 l2 : Int32) : (∃ v, Hol_find ln sp sn ss l1 l2 I = some (some v) ∧ Mod_find l1 l2 I' = some (v, up2 I' 204 0 0) ∧ Inv N ln sp sn ss I J (up2 I' 204 0 0) J') ∨ (Hol_find ln sp sn ss l1 l2 I = some none ∧ Mod_find l1 l2 I' = some (0, up2 (up2 I' 204 0 0) 204 0 1) ∧ Inv N ln sp sn ss I J (up2 (up2 I' 204 0 0) 204 0 1) J') := by
  obtain ⟨nP, nF, nE, nW, nH, nR, hp⟩ := h
  rcases op_find hp.qr l1 l2 with ⟨v, k1, k2⟩ | ⟨k1, k2⟩
  · exact Or.inl ⟨v, k1, k2, nP, nF, nE, nW, nH, nR, hp.thr⟩
  · exact Or.inr ⟨k1, k2, nP, nF, nE, nW, nH, nR, hp.thr.thr⟩
theorem inv_reading (h : Inv N ln sp sn ss I J I' J') : ∃ v J1 J1', Hol_reading N ln sp sn ss  I J = some (v, J1) ∧ Mod_reading N  I' J' = some (v, up2 I' 204 0 0, J1') ∧ Inv N ln sp sn ss I J1 (up2 I' 204 0 0) J1' := by
  obtain ⟨nP, nF, nE, nW, nH, nR, hp⟩ := h
  obtain ⟨v, J1, J1', k1, k2⟩ := op_reading hp.qr J J' 
  exact ⟨v, J1, J1', k1, k2, nP, nF, nE, nW, nH, nR, hp.thr.keep (fun _ _ _ => rfl) (fun _ _ _ => rfl) (fun x j w => fj_Hol_reading (by omega) (by omega) k1) (fun x j w => fj_Mod_reading (by omega) k2)⟩
theorem inv_asks (h : Inv N ln sp sn ss I J I' J') : ∃ v J1 J1', Hol_asks N ln sp sn ss  I J = some (v, J1) ∧ Mod_asks N  I' J' = some (v, up2 I' 204 0 0, J1') ∧ Inv N ln sp sn ss I J1 (up2 I' 204 0 0) J1' := by
  obtain ⟨nP, nF, nE, nW, nH, nR, hp⟩ := h
  obtain ⟨v, J1, J1', k1, k2⟩ := op_asks hp.qr J J' 
  exact ⟨v, J1, J1', k1, k2, nP, nF, nE, nW, nH, nR, hp.thr.keep (fun _ _ _ => rfl) (fun _ _ _ => rfl) (fun x j w => fj_Hol_asks (by omega) (by omega) k1) (fun x j w => fj_Mod_asks (by omega) k2)⟩
theorem inv_best (h : Inv N ln sp sn ss I J I' J') (l1 : Int32) : ∃ v J1 J1', Hol_best N ln sp sn ss l1 I J = some (v, J1) ∧ Mod_best N l1 I' J' = some (v, up2 I' 204 0 0, J1') ∧ Inv N ln sp sn ss I J1 (up2 I' 204 0 0) J1' := by
  obtain ⟨nP, nF, nE, nW, nH, nR, hp⟩ := h
  obtain ⟨v, J1, J1', k1, k2⟩ := op_best hp.qr J J' l1
  exact ⟨v, J1, J1', k1, k2, nP, nF, nE, nW, nH, nR, hp.thr.keep (fun _ _ _ => rfl) (fun _ _ _ => rfl) (fun x j w => fj_Hol_best (by omega) (by omega) k1) (fun x j w => fj_Mod_best (by omega) k2)⟩
theorem inv_belief (h : Inv N ln sp sn ss I J I' J') (l1 l2 : Int32) : (∃ v J1 J1', Hol_belief N ln sp sn ss l1 l2 I J = some (some v, J1) ∧ Mod_belief N l1 l2 I' J' = some (v, up2 I' 204 0 0, J1') ∧ Inv N ln sp sn ss I J1 (up2 I' 204 0 0) J1') ∨ (Hol_belief N ln sp sn ss l1 l2 I J = some (none, J) ∧ Mod_belief N l1 l2 I' J' = some (0, up2 (up2 I' 204 0 0) 204 0 1, J') ∧ Inv N ln sp sn ss I J (up2 (up2 I' 204 0 0) 204 0 1) J') := by
  obtain ⟨nP, nF, nE, nW, nH, nR, hp⟩ := h
  rcases op_belief hp.qr J J' l1 l2 with ⟨v, J1, J1', k1, k2⟩ | ⟨k1, k2⟩
  · exact Or.inl ⟨v, J1, J1', k1, k2, nP, nF, nE, nW, nH, nR, hp.thr.keep (fun _ _ _ => rfl) (fun _ _ _ => rfl) (fun x j w => fj_Hol_belief (by omega) (by omega) k1) (fun x j w => fj_Mod_belief (by omega) k2)⟩
  · exact Or.inr ⟨k1, k2, nP, nF, nE, nW, nH, nR, hp.thr.thr⟩
theorem inv_sure (h : Inv N ln sp sn ss I J I' J') (l1 l2 : Int32) : (∃ v J1 J1', Hol_sure N ln sp sn ss l1 l2 I J = some (some v, J1) ∧ Mod_sure N l1 l2 I' J' = some (v, up2 I' 204 0 0, J1') ∧ Inv N ln sp sn ss I J1 (up2 I' 204 0 0) J1') ∨ (Hol_sure N ln sp sn ss l1 l2 I J = some (none, J) ∧ Mod_sure N l1 l2 I' J' = some (0, up2 (up2 I' 204 0 0) 204 0 1, J') ∧ Inv N ln sp sn ss I J (up2 (up2 I' 204 0 0) 204 0 1) J') := by
  obtain ⟨nP, nF, nE, nW, nH, nR, hp⟩ := h
  rcases op_sure hp.qr J J' l1 l2 with ⟨v, J1, J1', k1, k2⟩ | ⟨k1, k2⟩
  · exact Or.inl ⟨v, J1, J1', k1, k2, nP, nF, nE, nW, nH, nR, hp.thr.keep (fun _ _ _ => rfl) (fun _ _ _ => rfl) (fun x j w => fj_Hol_sure (by omega) (by omega) k1) (fun x j w => fj_Mod_sure (by omega) k2)⟩
  · exact Or.inr ⟨k1, k2, nP, nF, nE, nW, nH, nR, hp.thr.thr⟩
theorem inv_gains (h : Inv N ln sp sn ss I J I' J') (l1 l2 : Int32) : (∃ v J1 J1', Hol_gains N ln sp sn ss l1 l2 I J = some (some v, J1) ∧ Mod_gains N l1 l2 I' J' = some (v, up2 I' 204 0 0, J1') ∧ Inv N ln sp sn ss I J1 (up2 I' 204 0 0) J1') ∨ (Hol_gains N ln sp sn ss l1 l2 I J = some (none, J) ∧ Mod_gains N l1 l2 I' J' = some (0, up2 (up2 I' 204 0 0) 204 0 1, J') ∧ Inv N ln sp sn ss I J (up2 (up2 I' 204 0 0) 204 0 1) J') := by
  obtain ⟨nP, nF, nE, nW, nH, nR, hp⟩ := h
  rcases op_gains hp.qr J J' l1 l2 with ⟨v, J1, J1', k1, k2⟩ | ⟨k1, k2⟩
  · exact Or.inl ⟨v, J1, J1', k1, k2, nP, nF, nE, nW, nH, nR, hp.thr.keep (fun _ _ _ => rfl) (fun _ _ _ => rfl) (fun x j w => fj_Hol_gains (by omega) (by omega) k1) (fun x j w => fj_Mod_gains (by omega) k2)⟩
  · exact Or.inr ⟨k1, k2, nP, nF, nE, nW, nH, nR, hp.thr.thr⟩
theorem inv_tell (h : Inv N ln sp sn ss I J I' J') (l1 : Int32) : ∃ v I1 I1', Hol_tell ln sp sn ss l1 I = some (v, I1) ∧ Mod_tell N l1 I' = some (v, I1') ∧ Inv N ln sp sn ss I1 J I1' J' := by
  obtain ⟨nP, nF, nE, nW, nH, nR, hp⟩ := h
  obtain ⟨v, I1, I1', k1, k2, q1, h1, f6⟩ := op_tell hp.qr hp.2.2.1 l1
  exact ⟨v, I1, I1', k1, k2, nP, nF, nE, nW, nH, nR, hp.act q1 h1 (fun x j w => by unfold KI at w; exact fr_Hol_tell (by omega) (by omega) (by omega) (by omega) k1) (fun x j w => by unfold KM at w; exact fr_Mod_tell (by omega) (by omega) (by omega) (by omega) k2) (fun j hj => f6 j (Or.inr hj)) (fun _ _ _ => rfl) (fun _ _ _ => rfl)⟩
theorem inv_sell (h : Inv N ln sp sn ss I J I' J') (l1 : Int32) : ∃ v I1 I1', Hol_sell ln sp sn ss l1 I = some (v, I1) ∧ Mod_sell N l1 I' = some (v, I1') ∧ Inv N ln sp sn ss I1 J I1' J' := by
  obtain ⟨nP, nF, nE, nW, nH, nR, hp⟩ := h
  obtain ⟨v, I1, I1', k1, k2, q1, h1, f6⟩ := op_sell hp.qr hp.2.2.1 l1
  exact ⟨v, I1, I1', k1, k2, nP, nF, nE, nW, nH, nR, hp.act q1 h1 (fun x j w => by unfold KI at w; exact fr_Hol_sell (by omega) (by omega) (by omega) (by omega) (by omega) k1) (fun x j w => by unfold KM at w; exact fr_Mod_sell (by omega) (by omega) (by omega) (by omega) k2) (fun j hj => f6 j (Or.inr hj)) (fun _ _ _ => rfl) (fun _ _ _ => rfl)⟩
theorem inv_lay (h : Inv N ln sp sn ss I J I' J') (l1 l2 l3 : Int32) : ∃ v I1 I1', Hol_lay ln sp sn ss l1 l2 l3 I = some (v, I1) ∧ Mod_lay N l1 l2 l3 I' = some (v, I1') ∧ Inv N ln sp sn ss I1 J I1' J' := by
  obtain ⟨nP, nF, nE, nW, nH, nR, hp⟩ := h
  obtain ⟨v, I1, I1', k1, k2, q1, h1, f6⟩ := op_lay hp.qr hp.2.2.1 l1 l2 l3
  exact ⟨v, I1, I1', k1, k2, nP, nF, nE, nW, nH, nR, hp.act q1 h1 (fun x j w => by unfold KI at w; exact fr_Hol_lay (by omega) (by omega) (by omega) (by omega) (by omega) (by omega) (by omega) k1) (fun x j w => by unfold KM at w; exact fr_Mod_lay (by omega) (by omega) (by omega) (by omega) k2) (fun j hj => f6 j (Or.inr hj)) (fun _ _ _ => rfl) (fun _ _ _ => rfl)⟩
theorem inv_give (h : Inv N ln sp sn ss I J I' J') (l1 l2 : Int32) : ∃ v I1 I1', Hol_give ln sp sn ss l1 l2 I = some (v, I1) ∧ Mod_give N l1 l2 I' = some (v, I1') ∧ Inv N ln sp sn ss I1 J I1' J' := by
  obtain ⟨nP, nF, nE, nW, nH, nR, hp⟩ := h
  obtain ⟨v, I1, I1', k1, k2, q1, h1, f6⟩ := op_give hp.qr hp.2.2.1 l1 l2
  exact ⟨v, I1, I1', k1, k2, nP, nF, nE, nW, nH, nR, hp.act q1 h1 (fun x j w => by unfold KI at w; exact fr_Hol_give (by omega) (by omega) (by omega) (by omega) k1) (fun x j w => by unfold KM at w; exact fr_Mod_give (by omega) (by omega) (by omega) (by omega) k2) (fun j hj => f6 j (Or.inr hj)) (fun _ _ _ => rfl) (fun _ _ _ => rfl)⟩
theorem inv_dig (h : Inv N ln sp sn ss I J I' J') (l1 l2 l3 : Int32) : ∃ v I1 I1', Hol_dig N ln sp sn ss l1 l2 l3 I = some (v, I1) ∧ Mod_dig N l1 l2 l3 I' = some (v, I1') ∧ Inv N ln sp sn ss I1 J I1' J' := by
  obtain ⟨nP, nF, nE, nW, nH, nR, hp⟩ := h
  obtain ⟨v, I1, I1', k1, k2, q1, h1, f6⟩ := op_dig hp.qr hp.2.2.1 l1 l2 l3
  exact ⟨v, I1, I1', k1, k2, nP, nF, nE, nW, nH, nR, hp.act q1 h1 (fun x j w => by unfold KI at w; exact fr_Hol_dig (by omega) (by omega) (by omega) (by omega) (by omega) (by omega) (by omega) (by omega) k1) (fun x j w => by unfold KM at w; exact fr_Mod_dig (by omega) (by omega) (by omega) (by omega) k2) (fun j hj => f6 j (Or.inr hj)) (fun _ _ _ => rfl) (fun _ _ _ => rfl)⟩
theorem inv_plough (h : Inv N ln sp sn ss I J I' J') (l1 : Int32) : ∃ v I1 I1', Hol_plough N ln sp sn ss l1 I = some (v, I1) ∧ Mod_plough N l1 I' = some (v, I1') ∧ Inv N ln sp sn ss I1 J I1' J' := by
  obtain ⟨nP, nF, nE, nW, nH, nR, hp⟩ := h
  obtain ⟨v, I1, I1', k1, k2, q1, h1, f6⟩ := op_plough hp.qr hp.2.2.1 l1
  exact ⟨v, I1, I1', k1, k2, nP, nF, nE, nW, nH, nR, hp.act q1 h1 (fun x j w => by unfold KI at w; exact fr_Hol_plough (by omega) (by omega) (by omega) (by omega) (by omega) (by omega) (by omega) (by omega) (by omega) k1) (fun x j w => by unfold KM at w; exact fr_Mod_plough (by omega) (by omega) (by omega) (by omega) (by omega) k2) (fun j hj => f6 j (Or.inr hj)) (fun _ _ _ => rfl) (fun _ _ _ => rfl)⟩
theorem inv_nights (h : Inv N ln sp sn ss I J I' J') (l1 l2 : Int32) : ∃ v I1 I1', Hol_nights N ln sp sn ss l1 l2 I = some (v, I1) ∧ Mod_nights N l1 l2 I' = some (v, I1') ∧ Inv N ln sp sn ss I1 J I1' J' := by
  obtain ⟨nP, nF, nE, nW, nH, nR, hp⟩ := h
  obtain ⟨v, I1, I1', k1, k2, q1, h1, f6⟩ := op_nights hp.qr hp.2.2.1 l1 l2
  exact ⟨v, I1, I1', k1, k2, nP, nF, nE, nW, nH, nR, hp.act q1 h1 (fun x j w => by unfold KI at w; exact fr_Hol_nights (by omega) (by omega) (by omega) (by omega) (by omega) (by omega) (by omega) (by omega) (by omega) (by omega) (by omega) k1) (fun x j w => by unfold KM at w; exact fr_Mod_nights (by omega) (by omega) (by omega) (by omega) (by omega) k2) (fun j hj => f6 j (Or.inr hj)) (fun _ _ _ => rfl) (fun _ _ _ => rfl)⟩
theorem inv_undo (h : Inv N ln sp sn ss I J I' J') : ∃ v I1 I1', Hol_undo ln sp sn ss  I = some (v, I1) ∧ Mod_undo N  I' = some (v, I1') ∧ Inv N ln sp sn ss I1 J I1' J' := by
  obtain ⟨nP, nF, nE, nW, nH, nR, hp⟩ := h
  obtain ⟨v, I1, I1', k1, k2, q1, h1, f6⟩ := op_undo hp.qr hp.2.2.1 
  exact ⟨v, I1, I1', k1, k2, nP, nF, nE, nW, nH, nR, hp.act q1 h1 (fun x j w => by unfold KI at w; exact fr_Hol_undo (by omega) (by omega) (by omega) (by omega) (by omega) (by omega) (by omega) (by omega) (by omega) (by omega) (by omega) (by omega) k1) (fun x j w => by unfold KM at w; exact fr_Mod_undo (by omega) (by omega) (by omega) k2) (fun j hj => f6 j (Or.inr hj)) (fun _ _ _ => rfl) (fun _ _ _ => rfl)⟩
end Q90

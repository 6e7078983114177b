/-! the law's loop, and the law on the small machine -/
theorem sw_all {G : Nat → Res → Prop} {Q : Res → Prop} {x : Int32} {t0 : Nat} : ∀ sw : List (Int32 × Nat), (∃ r, Q r ∧ G t0 r) → (∀ q ∈ sw, ∃ r, Q r ∧ G q.2 r) → ∃ r, Q r ∧ swp (fun t => G t r) x t0 sw
  | [], h, _ => h
  | (k, t) :: sw, h, h2 => by
    by_cases e : x = k
    · obtain ⟨r, q, g⟩ := h2 (k, t) List.mem_cons_self
      refine ⟨r, q, ?_⟩
      show (if x = k then G t r else swp (fun t => G t r) x t0 sw)
      rw [if_pos e]; exact g
    · obtain ⟨r, q, g⟩ := sw_all (x := x) sw h (fun q hq => h2 q (List.mem_cons_of_mem _ hq))
      refine ⟨r, q, ?_⟩
      show (if x = k then G t r else swp (fun t => G t r) x t0 sw)
      rw [if_neg e]; exact g
section LOOP
variable {L B ln sp sn ss : Nat} {i : Int32} {xs : Nat → Int32} {S : Nat → Nat × Nat} {P : Nat → Nat → Option Nat} {I : FI} {J : FJ} {c : Nat × Nat} {r : Res}
theorem turn_33 (hT : Tn L xs S P I J ln sp sn ss) (h0 : in9 i L) (hi : Ix L i) (hc : 226 ≤ c.1 ∧ c.1 < oFF) (hK : Kn L xs B i c) : Fn B 33 i (c, S, I, J, P) := by
  have hS := hT.2.2.2.1
  have mk : ∀ {t : Nat}, Fn B t i (c, S, I, J, P) → ∃ r : Res, (∃ μ', r = (some (.int 1), false, μ') ∧ mHp μ' ≤ 226 + B ∧ mSl μ' ≤ 10648 + 6 * B) ∧ Go 1001 305 t [some (.ref oFF), some (.ref 0), some (.ref 204), some (.ref 225), some (.int i), none, none, none] [] (c, S, I, J, P) r := fun ⟨μ', g, b⟩ => ⟨_, ⟨μ', rfl, b⟩, g⟩
  obtain ⟨r, ⟨μ', hr, b⟩, g⟩ := sw_all (G := fun t r => Go 1001 305 t [some (.ref oFF), some (.ref 0), some (.ref 204), some (.ref 225), some (.int i), none, none, none] [] (c, S, I, J, P) r) (Q := fun r => ∃ μ', r = (some (.int 1), false, μ') ∧ mHp μ' ≤ 226 + B ∧ mSl μ' ≤ 10648 + 6 * B) (x := I oFF i.toNatClampNeg &&& 63) (t0 := 1551) [(0, 224), (1, 297), (2, 322), (3, 335), (4, 348), (5, 416), (6, 453), (7, 502), (8, 527), (9, 576), (10, 601), (11, 626), (12, 675), (13, 712), (14, 737), (15, 774), (16, 787), (17, 854), (18, 867), (19, 934), (20, 947), (21, 1014), (22, 1039), (23, 1088), (24, 1113), (25, 1126), (26, 1187), (27, 1200), (28, 1237), (29, 1250), (30, 1263), (31, 1276), (32, 1289), (33, 1314), (34, 1339), (35, 1388), (36, 1413), (37, 1438), (38, 1451), (39, 1476), (40, 1501), (41, 1526)] (mk (hK c S I J P ln sp sn ss hT (Nat.le_refl _) (by omega) (by omega))) (List.forall_mem_cons.mpr ⟨mk (turn_feed hT hi hK), List.forall_mem_cons.mpr ⟨mk (turn_end hT hi hK), List.forall_mem_cons.mpr ⟨mk (turn_field hT hi hK), List.forall_mem_cons.mpr ⟨mk (turn_fault hT hi hK), List.forall_mem_cons.mpr ⟨mk (turn_find hT hi hc hK), List.forall_mem_cons.mpr ⟨mk (turn_person hT hi hK), List.forall_mem_cons.mpr ⟨mk (turn_cell hT hi hK), List.forall_mem_cons.mpr ⟨mk (turn_now hT hi hK), List.forall_mem_cons.mpr ⟨mk (turn_dig hT hi hK), List.forall_mem_cons.mpr ⟨mk (turn_tell hT hi hK), List.forall_mem_cons.mpr ⟨mk (turn_sell hT hi hK), List.forall_mem_cons.mpr ⟨mk (turn_lay hT hi hK), List.forall_mem_cons.mpr ⟨mk (turn_give hT hi hK), List.forall_mem_cons.mpr ⟨mk (turn_plough hT hi hK), List.forall_mem_cons.mpr ⟨mk (turn_nights hT hi hK), List.forall_mem_cons.mpr ⟨mk (turn_undo hT hi hK), List.forall_mem_cons.mpr ⟨mk (turn_belief hT hi hc hK), List.forall_mem_cons.mpr ⟨mk (turn_reading hT hi hK), List.forall_mem_cons.mpr ⟨mk (turn_sure hT hi hc hK), List.forall_mem_cons.mpr ⟨mk (turn_asks hT hi hK), List.forall_mem_cons.mpr ⟨mk (turn_gains hT hi hc hK), List.forall_mem_cons.mpr ⟨mk (turn_best hT hi hK), List.forall_mem_cons.mpr ⟨mk (turn_route hT hi hK), List.forall_mem_cons.mpr ⟨mk (turn_routeAt hT hi hK), List.forall_mem_cons.mpr ⟨mk (turn_spread hT hi hK), List.forall_mem_cons.mpr ⟨mk (turn_doubt hT hi hK), List.forall_mem_cons.mpr ⟨mk (turn_fears hT hi hK), List.forall_mem_cons.mpr ⟨mk (turn_fear hT hi hK), List.forall_mem_cons.mpr ⟨mk (turn_pots hT hi hK), List.forall_mem_cons.mpr ⟨mk (turn_early hT hi hK), List.forall_mem_cons.mpr ⟨mk (turn_parts hT hi hK), List.forall_mem_cons.mpr ⟨mk (turn_parted hT hi hK), List.forall_mem_cons.mpr ⟨mk (turn_label hT hi hK), List.forall_mem_cons.mpr ⟨mk (turn_byteAt hT hi hK), List.forall_mem_cons.mpr ⟨mk (turn_odds hT hi hK), List.forall_mem_cons.mpr ⟨mk (turn_book hT hi hK), List.forall_mem_cons.mpr ⟨mk (turn_told hT hi hK), List.forall_mem_cons.mpr ⟨mk (turn_sentence hT hi hK), List.forall_mem_cons.mpr ⟨mk (turn_said hT hi hK), List.forall_mem_cons.mpr ⟨mk (turn_image hT hi hK), List.forall_mem_cons.mpr ⟨mk (turn_restore hT hi hK), List.forall_mem_cons.mpr ⟨mk (turn_count hT hi hK), fun _ h => absurd h List.not_mem_nil⟩⟩⟩⟩⟩⟩⟩⟩⟩⟩⟩⟩⟩⟩⟩⟩⟩⟩⟩⟩⟩⟩⟩⟩⟩⟩⟩⟩⟩⟩⟩⟩⟩⟩⟩⟩⟩⟩⟩⟩⟩⟩)
  subst hr
  refine ⟨μ', ?_, b⟩
  refine g_aload_n cd305_33 rfl rfl ?_
  refine g_iload cd305_34 rfl rfl ?_
  refine g_iald cd305_36 rfl ⟨Or.inr (by rw [hS]), by rw [hS]; exact h0⟩ ?_
  refine g_bipush cd305_37 rfl ?_
  refine g_iand cd305_39 rfl ?_
  exact g_tableswitch cd305_40 rfl g
theorem loop_t {L t : Nat} (hL : L ≤ 3072) (ht : 6 * t ≤ 3100) : (nI L - 6 < nI (6 * t)) = (L < 6 * t + 6) := by
  by_cases h : 6 ≤ L
  · rw [show (6 : Int32) = nI 6 from rfl, nSb h, lt_nI (by omega) (by omega)]
    exact propext ⟨fun _ => by omega, fun _ => by omega⟩
  · have h0 : nI L - 6 < 0 := by
      have : L = 0 ∨ L = 1 ∨ L = 2 ∨ L = 3 ∨ L = 4 ∨ L = 5 := by omega
      rcases this with e | e | e | e | e | e <;> rw [e] <;> decide
    have h1 : (0 : Int32) ≤ nI (6 * t) := by rw [show (0 : Int32) = nI 0 from rfl, le_nI (by omega) (by omega)]; exact Nat.zero_le _
    exact propext ⟨fun _ => by omega, fun _ => Int32.lt_of_lt_of_le h0 h1⟩
theorem in9_n {t k : Nat} (h : t + k < L) (hL : L ≤ 3072) : in9 (nI t + nI k) L := by
  rw [nA]
  exact of_eq_true (in9_t h (by omega))
theorem oFF_big : 1000 ≤ oFF := Nat.le_of_ble_eq_true rfl
theorem loop_go (hL : L ≤ 3072) : ∀ (k t : Nat) (c : Nat × Nat) (S : Nat → Nat × Nat) (P : Nat → Nat → Option Nat) (I : FI) (J : FJ) (ln sp sn ss : Nat), Tn L xs S P I J ln sp sn ss → L ≤ 6 * (t + k) → 6 * t ≤ L → 226 ≤ c.1 → c.1 ≤ 226 + t → c.2 ≤ 10648 + 6 * t → Fn 600 23 (nI (6 * t)) (c, S, I, J, P) := by
  intro k
  induction k with
  | zero =>
    intro t c S P I J ln sp sn ss hT h1 h2 h3 h4 h5
    have hS := hT.2.2.2.1
    refine ⟨(c, S, I, J, P), ?_, by show c.1 ≤ _; omega, by show c.2 ≤ _; omega⟩
    refine g_iload cd305_23 rfl rfl ?_
    refine g_aload_n cd305_25 rfl rfl ?_
    refine g_alen cd305_26 rfl (by rw [hS]; exact ⟨show 1 ≤ 6 by decide, show 6 ≤ 6 by decide⟩) ?_
    rw [hS]
    refine g_bipush cd305_27 rfl ?_
    refine g_isub cd305_29 rfl ?_
    refine g_icmp_gt cd305_30 rfl (fun _ => ?_) (fun h => absurd ((loop_t hL (by omega)).mpr (by omega)) h)
    refine g_iconst cd305_1557 rfl ?_
    exact g_iret cd305_1558 (Or.inr ⟨rfl, Or.inr rfl⟩) rfl
  | succ k ih =>
    intro t c S P I J ln sp sn ss hT h1 h2 h3 h4 h5
    have hS := hT.2.2.2.1
    have hb := oFF_big
    by_cases hx : L < 6 * t + 6
    · refine ⟨(c, S, I, J, P), ?_, by show c.1 ≤ _; omega, by show c.2 ≤ _; omega⟩
      refine g_iload cd305_23 rfl rfl ?_
      refine g_aload_n cd305_25 rfl rfl ?_
      refine g_alen cd305_26 rfl (by rw [hS]; exact ⟨show 1 ≤ 6 by decide, show 6 ≤ 6 by decide⟩) ?_
      rw [hS]
      refine g_bipush cd305_27 rfl ?_
      refine g_isub cd305_29 rfl ?_
      refine g_icmp_gt cd305_30 rfl (fun _ => ?_) (fun h => absurd ((loop_t hL (by omega)).mpr hx) h)
      refine g_iconst cd305_1557 rfl ?_
      exact g_iret cd305_1558 (Or.inr ⟨rfl, Or.inr rfl⟩) rfl
    · have e6 : nI (6 * t) + 6 = nI (6 * (t + 1)) := nA (6 * t) 6
      have hK : Kn L xs 600 (nI (6 * t)) c := by
        intro c1 S1 I1 J1 P1 ln1 sp1 sn1 ss1 hT1 k1 k2 k3
        obtain ⟨μ', g, b⟩ := ih (t + 1) c1 S1 P1 I1 J1 ln1 sp1 sn1 ss1 hT1 (by omega) (by omega) (by omega) (by omega) (by omega)
        refine ⟨μ', ?_, b⟩
        refine g_iinc (ls2 := [some (.ref oFF), some (.ref 0), some (.ref 204), some (.ref 225), some (.int (nI (6 * (t + 1)))), none, none, none]) cd305_1551 rfl rfl (by rw [e6]; rfl) ?_
        exact g_goto cd305_1554 rfl rfl g
      have h0 : in9 (nI (6 * t)) L := of_eq_true (in9_t (by omega) (by omega))
      have hi : Ix L (nI (6 * t)) := ⟨in9_n (k := 1) (by omega) hL, in9_n (k := 2) (by omega) hL, in9_n (k := 3) (by omega) hL, in9_n (k := 4) (by omega) hL, in9_n (k := 5) (by omega) hL⟩
      obtain ⟨μ', g, b⟩ := turn_33 hT h0 hi ⟨h3, by omega⟩ hK
      refine ⟨μ', ?_, b⟩
      refine g_iload cd305_23 rfl rfl ?_
      refine g_aload_n cd305_25 rfl rfl ?_
      refine g_alen cd305_26 rfl (by rw [hS]; exact ⟨show 1 ≤ 6 by decide, show 6 ≤ 6 by decide⟩) ?_
      rw [hS]
      refine g_bipush cd305_27 rfl ?_
      refine g_isub cd305_29 rfl ?_
      exact g_icmp_gt cd305_30 rfl (fun h => absurd ((loop_t hL (by omega)).mp h) hx) (fun _ => g)
/-! the law's beginning -/
theorem st_0 {μ ν : Mem} (hh : mHp μ = 0) (g1 : Go 1000 122 0 (arg9 1 [.ref 0]) [] (mNew μ (0, 11) 20) (none, false, ν)) (k : Go 1001 305 8 [some (.ref oFF), some (.ref 0), none, none, none, none, none, none] [] ν r) : Go 1001 305 0 [some (.ref oFF), none, none, none, none, none, none, none] [] μ r := by
  obtain ⟨cc, S, I, J, P⟩ := μ
  obtain ⟨cc', S', I', J', P'⟩ := ν
  have hh' : cc.1 = 0 := hh
  refine g_new cd305_0 rfl (by show cc.1 < oFF; rw [hh']; exact Nat.lt_of_lt_of_le (by decide) oFF_big) ?_
  rw [hh]
  show Go _ _ _ _ _ ((cc.1 + 1, cc.2 + 20), (fun b => if b = cc.1 then (0, 11) else S b), z2 I cc.1 0, z2 J cc.1 0, z2 P cc.1 none) r
  refine g_dupR cd305_3 rfl ?_
  refine g_callIV (L := [some (.ref 0)]) cd305_4 rfl rfl rfl rfl rfl (if_pos hh'.symm) g1 ?_
  exact g_astore_n (ls2 := [some (.ref oFF), some (.ref 0), none, none, none, none, none, none]) cd305_7 rfl rfl k
theorem st_8 {μ ν : Mem} (hh : mHp μ = 204) (g1 : Go 1000 173 0 (arg9 2 [.ref 204]) [] (mNew μ (0, 12) 46) (none, false, ν)) (k : Go 1001 305 16 [some (.ref oFF), some (.ref 0), some (.ref 204), none, none, none, none, none] [] ν r) : Go 1001 305 8 [some (.ref oFF), some (.ref 0), none, none, none, none, none, none] [] μ r := by
  obtain ⟨cc, S, I, J, P⟩ := μ
  obtain ⟨cc', S', I', J', P'⟩ := ν
  have hh' : cc.1 = 204 := hh
  refine g_new cd305_8 rfl (by show cc.1 < oFF; rw [hh']; exact Nat.lt_of_lt_of_le (by decide) oFF_big) ?_
  rw [hh]
  show Go _ _ _ _ _ ((cc.1 + 1, cc.2 + 46), (fun b => if b = cc.1 then (0, 12) else S b), z2 I cc.1 0, z2 J cc.1 0, z2 P cc.1 none) r
  refine g_dupR cd305_11 rfl ?_
  refine g_callIV (L := [some (.ref 204), none]) cd305_12 rfl rfl rfl rfl rfl (if_pos hh'.symm) g1 ?_
  exact g_astore_n (ls2 := [some (.ref oFF), some (.ref 0), some (.ref 204), none, none, none, none, none]) cd305_15 rfl rfl k
theorem st_16 {μ : Mem} (hh : mHp μ = 225) (k : Go 1001 305 23 [some (.ref oFF), some (.ref 0), some (.ref 204), some (.ref 225), some (.int (nI (6 * 0))), none, none, none] [] (mNew μ (4, 1) 1) r) : Go 1001 305 16 [some (.ref oFF), some (.ref 0), some (.ref 204), none, none, none, none, none] [] μ r := by
  obtain ⟨cc, S, I, J, P⟩ := μ
  have hh' : cc.1 = 225 := hh
  refine g_iconst cd305_16 rfl ?_
  refine g_newa cd305_17 rfl ⟨by decide, by decide, by show cc.1 < oFF; rw [hh']; exact Nat.lt_of_lt_of_le (by decide) oFF_big⟩ ?_
  rw [hh]
  show Go _ _ _ _ _ ((cc.1 + 1, cc.2 + 1), (fun b => if b = cc.1 then (4, 1) else S b), z2 I cc.1 0, z2 J cc.1 0, z2 P cc.1 none) r
  refine g_astore_n (ls2 := [some (.ref oFF), some (.ref 0), some (.ref 204), some (.ref 225), none, none, none, none]) cd305_19 rfl rfl ?_
  refine g_iconst cd305_20 rfl ?_
  exact g_istore (ls2 := [some (.ref oFF), some (.ref 0), some (.ref 204), some (.ref 225), some (.int (nI (6 * 0))), none, none, none]) cd305_21 rfl rfl k
theorem ov_shO {ν : Mem} : mSh (Ov L xs ν) oFF = (6, L) := by
  show (if oFF = oFF then (6, L) else ν.2.1 oFF) = (6, L)
  rw [if_pos rfl]
theorem ov_IO {ν : Mem} : mI (Ov L xs ν) oFF = xs := by
  show (if oFF = oFF then xs else ν.2.2.1 oFF) = xs
  rw [if_pos rfl]
theorem s_Tn {ν : Mem} (h1 : OH (mSh ν) (mP ν) 7 16 45 50) (h2 : OM (mSh ν) (mP ν)) (h3 : Inv 2000 7 16 45 50 (mI ν) (mJ ν) (mI ν) (mJ ν)) (h4 : mSh ν 225 = (4, 1)) : Tn L xs (mSh (Ov L xs ν)) (mP (Ov L xs ν)) (mI (Ov L xs ν)) (mJ (Ov L xs ν)) 7 16 45 50 := by
  have hb := oFF_big
  have eS : ∀ x, x < 226 → mSh (Ov L xs ν) x = mSh ν x := fun x hx => ov_sh (by omega)
  refine ⟨h1.of2 eS (fun _ _ _ => rfl) (by omega) (by omega) (by omega) (by omega), h2.of2 eS (fun _ => rfl), h3.fr (fun x j hx => by rw [ov_I (by omega)]) (fun x j _ hx => by rw [ov_I (by omega)]) (fun _ _ _ => rfl) (fun _ _ _ _ => rfl), ov_shO, ?_, fun j => ?_⟩
  · rw [eS _ (by omega)]; exact h4
  · exact congrFun ov_IO j
theorem law_23 (hL : L ≤ 3072) {ν : Mem} (h0 : Tn L xs (mSh ν) (mP ν) (mI ν) (mJ ν) 7 16 45 50) (h1 : mHp ν = 226) (h2 : mSl ν = 10648) : ∃ μ', Go 1001 305 23 [some (.ref oFF), some (.ref 0), some (.ref 204), some (.ref 225), some (.int (nI (6 * 0))), none, none, none] [] ν (some (.int 1), false, μ') ∧ mHp μ' ≤ 826 ∧ mSl μ' ≤ 14248 := by
  obtain ⟨c, S, I, J, P⟩ := ν
  have h1' : c.1 = 226 := h1
  have h2' : c.2 = 10648 := h2
  exact loop_go hL L 0 c S P I J 7 16 45 50 h0 (by omega) (by omega) (by omega) (by omega) (by omega)
theorem law_go (hL : L ≤ 3072) : ∃ μ', Go 1001 305 0 [some (.ref oFF), none, none, none, none, none, none, none] [] (Ov L xs m0) (some (.int 1), false, μ') ∧ mHp μ' ≤ 826 ∧ mSl μ' ≤ 14248 := by
  have hb := oFF_big
  have z0 : Zf m0 := rfl
  have p0 : mHp m0 < oFF := by show 0 < oFF; omega
  obtain ⟨g1, z1⟩ := go_ov (L := L) (xs := xs) (zf_new z0 p0) go_Hol_init
  have p1 : mHp (m1 D9) < oFF := by rw [m1_hp]; omega
  obtain ⟨g2, z2⟩ := go_ov (L := L) (xs := xs) (zf_new z1 p1) go_Mod_init
  have p2 : mHp (m2 D9) < oFF := by rw [m2_hp.1]; omega
  rw [← ov_new p0] at g1
  rw [← ov_new p1] at g2
  have e3 : Ov L xs (m3 D9) = mNew (Ov L xs (m2 D9)) (4, 1) 1 := (ov_new p2).symm
  obtain ⟨μ', g, b1, b2⟩ := law_23 (ν := Ov L xs (m3 D9)) hL (s_Tn m3_OH m3_OM s_Inv2 m3_out) (ov_hp.trans m3_hp.1) (ov_sl.trans m3_hp.2)
  rw [e3] at g
  exact ⟨μ', st_0 rfl g1 (st_8 (ov_hp.trans m1_hp) g2 (st_16 (ov_hp.trans m2_hp.1) g)), b1, b2⟩
end LOOP

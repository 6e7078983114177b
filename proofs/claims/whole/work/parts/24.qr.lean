/-! the picture of a field and of what is so, on both sides, by its parts -/
def QR (N b ln nP nF nE nW nH nR : Nat) (I I' : FI) : Prop := 2000 ≤ N ∧ LW (I' 206) nP nF nE nW nH nR ∧ LdR ln nF nE I (I' 206) ∧ StR b nF I (I' 206) ∧ SW (I' 206) nP nF nW nH ∧ ln + 8 < b ∧ b ≤ 35
section QRS
variable {N b ln nP nF nE nW nH nR : Nat} {I I' : FI}
theorem QR.nN (h : QR N b ln nP nF nE nW nH nR I I') : 2000 ≤ N := h.1
theorem QR.lw (h : QR N b ln nP nF nE nW nH nR I I') : LW (I' 206) nP nF nE nW nH nR := h.2.1
theorem QR.ld (h : QR N b ln nP nF nE nW nH nR I I') : LdR ln nF nE I (I' 206) := h.2.2.1
theorem QR.st (h : QR N b ln nP nF nE nW nH nR I I') : StR b nF I (I' 206) := h.2.2.2.1
theorem QR.sw (h : QR N b ln nP nF nE nW nH nR I I') : SW (I' 206) nP nF nW nH := h.2.2.2.2.1
theorem QR.dis (h : QR N b ln nP nF nE nW nH nR I I') : ln + 8 < b ∧ b ≤ 35 := h.2.2.2.2.2
theorem QR.bd (h : QR N b ln nP nF nE nW nH nR I I') : nP ≤ 6 ∧ nF ≤ 10 ∧ nE ≤ 6 ∧ 2 ≤ nW ∧ nW ≤ 6 ∧ 2 ≤ nH ∧ nH ≤ 6 ∧ nR ≤ 12 := ⟨h.lw.1.2, h.lw.2.1.2, h.lw.2.2.1.2, h.lw.2.2.2.1.2.1, h.lw.2.2.2.1.2.2, h.lw.2.2.2.2.1.2.1, h.lw.2.2.2.2.1.2.2, h.lw.2.2.2.2.2.1.2⟩
theorem QR.mP (h : QR N b ln nP nF nE nW nH nR I I') : I' 206 0 = nI nP := h.lw.1.1
theorem QR.cP (h : QR N b ln nP nF nE nW nH nR I I') : I ln 11 = nI nP := (h.ld.1.1).trans h.mP
theorem QR.mF (h : QR N b ln nP nF nE nW nH nR I I') : I' 206 1 = nI nF := h.lw.2.1.1
theorem QR.cF (h : QR N b ln nP nF nE nW nH nR I I') : I ln 12 = nI nF := (h.ld.1.2.1).trans h.mF
theorem QR.mE (h : QR N b ln nP nF nE nW nH nR I I') : I' 206 2 = nI nE := h.lw.2.2.1.1
theorem QR.cE (h : QR N b ln nP nF nE nW nH nR I I') : I ln 13 = nI nE := (h.ld.1.2.2.1).trans h.mE
theorem QR.mW (h : QR N b ln nP nF nE nW nH nR I I') : I' 206 3 = nI nW := h.lw.2.2.2.1.1
theorem QR.cW (h : QR N b ln nP nF nE nW nH nR I I') : I ln 8 = nI nW := (h.ld.1.2.2.2.1).trans h.mW
theorem QR.mH (h : QR N b ln nP nF nE nW nH nR I I') : I' 206 4 = nI nH := h.lw.2.2.2.2.1.1
theorem QR.cH (h : QR N b ln nP nF nE nW nH nR I I') : I ln 9 = nI nH := (h.ld.1.2.2.2.2.1).trans h.mH
theorem QR.mR (h : QR N b ln nP nF nE nW nH nR I I') : I' 206 5 = nI nR := h.lw.2.2.2.2.2.1.1
theorem QR.cR (h : QR N b ln nP nF nE nW nH nR I I') : I ln 10 = nI nR := (h.ld.1.2.2.2.2.2).trans h.mR
theorem QR.hint (h : QR N b ln nP nF nE nW nH nR I I') {k : Nat} (hk : k < 12) : I (ln + 6) k = I' 206 (6 + k) := h.ld.2.1 k hk
theorem QR.prior (h : QR N b ln nP nF nE nW nH nR I I') {k : Nat} (hk : k < 3) : I (ln + 7) k = I' 206 (18 + k) := h.ld.2.2.1 k hk
theorem QR.gets (h : QR N b ln nP nF nE nW nH nR I I') {k : Nat} (hk : k < 9) : I (ln + 8) k = I' 206 (21 + k) := h.ld.2.2.2.1 k hk
theorem QR.f_kind (h : QR N b ln nP nF nE nW nH nR I I') {f : Nat} (hf : f < nF) : I (ln + 4) (f * 6) = I' 206 (30 + f) := (h.ld.2.2.2.2.1 f hf).1
theorem QR.f_x0 (h : QR N b ln nP nF nE nW nH nR I I') {f : Nat} (hf : f < nF) : I (ln + 4) (f * 6 + 1) = I' 206 (40 + f) := (h.ld.2.2.2.2.1 f hf).2.1
theorem QR.f_y0 (h : QR N b ln nP nF nE nW nH nR I I') {f : Nat} (hf : f < nF) : I (ln + 4) (f * 6 + 2) = I' 206 (50 + f) := (h.ld.2.2.2.2.1 f hf).2.2.1
theorem QR.f_deep0 (h : QR N b ln nP nF nE nW nH nR I I') {f : Nat} (hf : f < nF) : I (ln + 4) (f * 6 + 3) = I' 206 (60 + f) := (h.ld.2.2.2.2.1 f hf).2.2.2.1
theorem QR.f_year (h : QR N b ln nP nF nE nW nH nR I I') {f : Nat} (hf : f < nF) : I (ln + 4) (f * 6 + 4) = I' 206 (70 + f) := (h.ld.2.2.2.2.1 f hf).2.2.2.2.1
theorem QR.f_value (h : QR N b ln nP nF nE nW nH nR I I') {f : Nat} (hf : f < nF) : I (ln + 4) (f * 6 + 5) = I' 206 (80 + f) := (h.ld.2.2.2.2.1 f hf).2.2.2.2.2
theorem QR.from (h : QR N b ln nP nF nE nW nH nR I I') {k : Nat} (hk : k < nE) : I (ln + 5) (2 * k) = I' 206 (90 + k) := (h.ld.2.2.2.2.2 k hk).1
theorem QR.to (h : QR N b ln nP nF nE nW nH nR I I') {k : Nat} (hk : k < nE) : I (ln + 5) (2 * k + 1) = I' 206 (96 + k) := (h.ld.2.2.2.2.2 k hk).2
theorem QR.v_hint (h : QR N b ln nP nF nE nW nH nR I I') {k : Nat} (hk : k < 12) : ∃ v, v ≤ 12 ∧ I' 206 (6 + k) = nI v := h.lw.2.2.2.2.2.2.1 k hk
theorem QR.v_prior (h : QR N b ln nP nF nE nW nH nR I I') {k : Nat} (hk : k < 3) : ∃ v, 1 ≤ v ∧ v ≤ 99 ∧ I' 206 (18 + k) = nI v := h.lw.2.2.2.2.2.2.2.1 k hk
theorem QR.v_gets (h : QR N b ln nP nF nE nW nH nR I I') {k : Nat} (hk : k < 9) : ∃ v, v ≤ 12 ∧ I' 206 (21 + k) = nI v := h.lw.2.2.2.2.2.2.2.2.1 k hk
theorem QR.v_kind (h : QR N b ln nP nF nE nW nH nR I I') {f : Nat} (hf : f < 10) : ∃ v, v ≤ 3 ∧ I' 206 (30 + f) = nI v := (h.lw.2.2.2.2.2.2.2.2.2.1 f hf).1
theorem QR.v_x0 (h : QR N b ln nP nF nE nW nH nR I I') {f : Nat} (hf : f < 10) : ∃ v, v < nW ∧ I' 206 (40 + f) = nI v := (h.lw.2.2.2.2.2.2.2.2.2.1 f hf).2.1
theorem QR.v_y0 (h : QR N b ln nP nF nE nW nH nR I I') {f : Nat} (hf : f < 10) : ∃ v, v < nH ∧ I' 206 (50 + f) = nI v := (h.lw.2.2.2.2.2.2.2.2.2.1 f hf).2.2.1
theorem QR.v_deep0 (h : QR N b ln nP nF nE nW nH nR I I') {f : Nat} (hf : f < 10) : ∃ v, v ≤ 9 ∧ I' 206 (60 + f) = nI v := (h.lw.2.2.2.2.2.2.2.2.2.1 f hf).2.2.2.1
theorem QR.v_year (h : QR N b ln nP nF nE nW nH nR I I') {f : Nat} (hf : f < 10) : ∃ v, v ≤ 999 ∧ I' 206 (70 + f) = nI v := (h.lw.2.2.2.2.2.2.2.2.2.1 f hf).2.2.2.2.1
theorem QR.v_value (h : QR N b ln nP nF nE nW nH nR I I') {f : Nat} (hf : f < 10) : ∃ v, v ≤ 99 ∧ I' 206 (80 + f) = nI v := (h.lw.2.2.2.2.2.2.2.2.2.1 f hf).2.2.2.2.2
theorem QR.v_from (h : QR N b ln nP nF nE nW nH nR I I') {k : Nat} (hk : k < 6) : ∃ v, v ≤ 999 ∧ I' 206 (90 + k) = nI v := (h.lw.2.2.2.2.2.2.2.2.2.2 k hk).1
theorem QR.v_to (h : QR N b ln nP nF nE nW nH nR I I') {k : Nat} (hk : k < 6) : ∃ v, v ≤ 999 ∧ I' 206 (96 + k) = nI v := (h.lw.2.2.2.2.2.2.2.2.2.2 k hk).2
theorem QR.x (h : QR N b ln nP nF nE nW nH nR I I') {f : Nat} (hf : f < nF) : I (b + 1) f = I' 206 (105 + f) := h.st.x hf
theorem QR.y (h : QR N b ln nP nF nE nW nH nR I I') {f : Nat} (hf : f < nF) : I (b + 2) f = I' 206 (115 + f) := h.st.y hf
theorem QR.deep (h : QR N b ln nP nF nE nW nH nR I I') {f : Nat} (hf : f < nF) : I (b + 3) f = I' 206 (125 + f) := h.st.deep hf
theorem QR.stat (h : QR N b ln nP nF nE nW nH nR I I') {f : Nat} (hf : f < nF) : I (b + 4) f = I' 206 (135 + f) := h.st.st hf
theorem QR.who (h : QR N b ln nP nF nE nW nH nR I I') {f : Nat} (hf : f < nF) : I (b + 5) f = I' 206 (145 + f) := h.st.who hf
theorem QR.coin (h : QR N b ln nP nF nE nW nH nR I I') {f : Nat} (hf : f < 6) : I (b + 6) f = I' 206 (155 + f) := h.st.coin hf
theorem QR.digs (h : QR N b ln nP nF nE nW nH nR I I') {f : Nat} (hf : f < 6) : I (b + 7) f = I' 206 (161 + f) := h.st.digs hf
theorem QR.got (h : QR N b ln nP nF nE nW nH nR I I') {f : Nat} (hf : f < 6) : I (b + 8) f = I' 206 (167 + f) := h.st.got hf
theorem QR.dug (h : QR N b ln nP nF nE nW nH nR I I') {f : Nat} (hf : f < 36) : I (b + 9) f = I' 206 (173 + f) := h.st.dug hf
theorem QR.night (h : QR N b ln nP nF nE nW nH nR I I') : I b 9 = I' 206 102 := h.st.night
theorem QR.ploughs (h : QR N b ln nP nF nE nW nH nR I I') : I b 10 = I' 206 104 := h.st.ploughs
theorem QR.v_stat (h : QR N b ln nP nF nE nW nH nR I I') {f : Nat} (hf : f < 10) : ∃ v, v ≤ 3 ∧ I' 206 (135 + f) = nI v := h.sw.1 f hf
theorem QR.v_who (h : QR N b ln nP nF nE nW nH nR I I') {f : Nat} (hf : f < 10) (hs : I' 206 (135 + f) = nI 1) : ∃ v, v < nP ∧ I' 206 (145 + f) = nI v := h.sw.2.1 f hf hs
theorem QR.v_x (h : QR N b ln nP nF nE nW nH nR I I') {f : Nat} (hf : f < nF) : ∃ v, v < nW ∧ I' 206 (105 + f) = nI v := (h.sw.2.2.1 f hf).1
theorem QR.v_y (h : QR N b ln nP nF nE nW nH nR I I') {f : Nat} (hf : f < nF) : ∃ v, v < nH ∧ I' 206 (115 + f) = nI v := (h.sw.2.2.1 f hf).2.1
theorem QR.v_deep (h : QR N b ln nP nF nE nW nH nR I I') {f : Nat} (hf : f < nF) : ∃ v, v ≤ 9 ∧ I' 206 (125 + f) = nI v := (h.sw.2.2.1 f hf).2.2
theorem QR.v_dug (h : QR N b ln nP nF nE nW nH nR I I') {c : Nat} (hc : c < 36) : ∃ v, v ≤ 10 ∧ I' 206 (173 + c) = nI v := h.sw.2.2.2.1 c hc
theorem QR.v_night (h : QR N b ln nP nF nE nW nH nR I I') : ∃ v, v ≤ 400 ∧ I' 206 102 = nI v := h.sw.2.2.2.2.1
theorem QR.sum (h : QR N b ln nP nF nE nW nH nR I I') : I' 206 103 = I' 206 161 + I' 206 162 + I' 206 163 + I' 206 164 + I' 206 165 + I' 206 166 := h.sw.2.2.2.2.2
theorem QR.thr (h : QR N b ln nP nF nE nW nH nR I I') {v : Int32} : QR N b ln nP nF nE nW nH nR I (up2 I' 204 0 v) := by
  unfold QR
  rw [show up2 I' 204 0 v 206 = I' 206 from u_o (by decide)]
  exact h
end QRS
section QRL
variable {N ln nP nF nE nW nH nR : Nat} {I I' : FI}
theorem QR.x_25 (h : QR N 25 ln nP nF nE nW nH nR I I') {f : Nat} (hf : f < nF) : I 26 f = I' 206 (105 + f) := h.x hf
theorem QR.y_25 (h : QR N 25 ln nP nF nE nW nH nR I I') {f : Nat} (hf : f < nF) : I 27 f = I' 206 (115 + f) := h.y hf
theorem QR.deep_25 (h : QR N 25 ln nP nF nE nW nH nR I I') {f : Nat} (hf : f < nF) : I 28 f = I' 206 (125 + f) := h.deep hf
theorem QR.stat_25 (h : QR N 25 ln nP nF nE nW nH nR I I') {f : Nat} (hf : f < nF) : I 29 f = I' 206 (135 + f) := h.stat hf
theorem QR.who_25 (h : QR N 25 ln nP nF nE nW nH nR I I') {f : Nat} (hf : f < nF) : I 30 f = I' 206 (145 + f) := h.who hf
theorem QR.coin_25 (h : QR N 25 ln nP nF nE nW nH nR I I') {f : Nat} (hf : f < 6) : I 31 f = I' 206 (155 + f) := h.coin hf
theorem QR.digs_25 (h : QR N 25 ln nP nF nE nW nH nR I I') {f : Nat} (hf : f < 6) : I 32 f = I' 206 (161 + f) := h.digs hf
theorem QR.got_25 (h : QR N 25 ln nP nF nE nW nH nR I I') {f : Nat} (hf : f < 6) : I 33 f = I' 206 (167 + f) := h.got hf
theorem QR.dug_25 (h : QR N 25 ln nP nF nE nW nH nR I I') {f : Nat} (hf : f < 36) : I 34 f = I' 206 (173 + f) := h.dug hf
theorem QR.x_35 (h : QR N 35 ln nP nF nE nW nH nR I I') {f : Nat} (hf : f < nF) : I 36 f = I' 206 (105 + f) := h.x hf
theorem QR.y_35 (h : QR N 35 ln nP nF nE nW nH nR I I') {f : Nat} (hf : f < nF) : I 37 f = I' 206 (115 + f) := h.y hf
theorem QR.deep_35 (h : QR N 35 ln nP nF nE nW nH nR I I') {f : Nat} (hf : f < nF) : I 38 f = I' 206 (125 + f) := h.deep hf
theorem QR.stat_35 (h : QR N 35 ln nP nF nE nW nH nR I I') {f : Nat} (hf : f < nF) : I 39 f = I' 206 (135 + f) := h.stat hf
theorem QR.who_35 (h : QR N 35 ln nP nF nE nW nH nR I I') {f : Nat} (hf : f < nF) : I 40 f = I' 206 (145 + f) := h.who hf
theorem QR.coin_35 (h : QR N 35 ln nP nF nE nW nH nR I I') {f : Nat} (hf : f < 6) : I 41 f = I' 206 (155 + f) := h.coin hf
theorem QR.digs_35 (h : QR N 35 ln nP nF nE nW nH nR I I') {f : Nat} (hf : f < 6) : I 42 f = I' 206 (161 + f) := h.digs hf
theorem QR.got_35 (h : QR N 35 ln nP nF nE nW nH nR I I') {f : Nat} (hf : f < 6) : I 43 f = I' 206 (167 + f) := h.got hf
theorem QR.dug_35 (h : QR N 35 ln nP nF nE nW nH nR I I') {f : Nat} (hf : f < 36) : I 44 f = I' 206 (173 + f) := h.dug hf
end QRL

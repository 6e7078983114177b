/-! one turn of the law's loop, op by op -/
section TURN
variable {L B ln sp sn ss : Nat} {i : Int32} {xs : Nat → Int32} {S : Nat → Nat × Nat} {P : Nat → Nat → Option Nat} {I : FI} {J : FJ} {c : Nat × Nat}
theorem turn_feed (hT : Tn L xs S P I J ln sp sn ss) (hi : Ix L i) (hK : Kn L xs B i c) : Fn B 224 i (c, S, I, J, P) := by
  obtain ⟨hH, hM, hv, hS, hO, hx⟩ := hT
  obtain ⟨h1, h2, h3, h4, h5⟩ := hi
  obtain ⟨l1, e1⟩ : ∃ l, l = xs (i + 1).toNatClampNeg := ⟨_, rfl⟩
  obtain ⟨l2, e2⟩ : ∃ l, l = xs (i + 2).toNatClampNeg := ⟨_, rfl⟩
  obtain ⟨l3, e3⟩ : ∃ l, l = xs (i + 3).toNatClampNeg := ⟨_, rfl⟩
  obtain ⟨l4, e4⟩ : ∃ l, l = xs (i + 4).toNatClampNeg := ⟨_, rfl⟩
  obtain ⟨l5, e5⟩ : ∃ l, l = xs (i + 5).toNatClampNeg := ⟨_, rfl⟩
  obtain ⟨v, I1, I2, k1, k2, w, f1, f2⟩ := two_feed hv l1 l2 l3 l4 l5
  have hx1 : ∀ j, I1 oFF j = xs j := fun j => (f1 _ j oFF_204).trans (hx j)
  obtain ⟨μ', g, b⟩ := hK c S (I2) J P ln sp sn ss ⟨hH, hM, w, hS, hO, fun j => (f2 _ j oFF_225).trans (hx j)⟩ (Nat.le_refl _) (by omega) (by omega)
  refine ⟨μ', ?_, b⟩
  refine g_aload_n cd305_224 rfl rfl ?_
  refine g_arg cd305_225 cd305_226 cd305_228 cd305_229 cd305_230 rfl rfl hS h1 ((hx _).trans e1.symm) ?_
  refine g_arg cd305_231 cd305_232 cd305_234 cd305_235 cd305_236 rfl rfl hS h2 ((hx _).trans e2.symm) ?_
  refine g_arg cd305_237 cd305_238 cd305_240 cd305_241 cd305_242 rfl rfl hS h3 ((hx _).trans e3.symm) ?_
  refine g_arg cd305_243 cd305_244 cd305_246 cd305_247 cd305_248 rfl rfl hS h4 ((hx _).trans e4.symm) ?_
  refine g_arg cd305_249 cd305_250 cd305_252 cd305_253 cd305_254 rfl rfl hS h5 ((hx _).trans e5.symm) ?_
  refine g_callVI (L := [some (.ref 0), some (.int l1), some (.int l2), some (.int l3), some (.int l4), some (.int l5)]) cd305_255 rfl rfl rfl rfl rfl (OH.o hH) (t_Hol_feed (by omega) hH k1) ?_
  refine g_aload_n cd305_258 rfl rfl ?_
  refine g_arg cd305_259 cd305_260 cd305_262 cd305_263 cd305_264 rfl rfl hS h1 ((hx1 _).trans e1.symm) ?_
  refine g_arg cd305_265 cd305_266 cd305_268 cd305_269 cd305_270 rfl rfl hS h2 ((hx1 _).trans e2.symm) ?_
  refine g_arg cd305_271 cd305_272 cd305_274 cd305_275 cd305_276 rfl rfl hS h3 ((hx1 _).trans e3.symm) ?_
  refine g_arg cd305_277 cd305_278 cd305_280 cd305_281 cd305_282 rfl rfl hS h4 ((hx1 _).trans e4.symm) ?_
  refine g_arg cd305_283 cd305_284 cd305_286 cd305_287 cd305_288 rfl rfl hS h5 ((hx1 _).trans e5.symm) ?_
  refine g_callVI (L := [some (.ref 204), some (.int l1), some (.int l2), some (.int l3), some (.int l4), some (.int l5)]) cd305_289 rfl rfl rfl rfl rfl (OM.o hM) (t_Mod_feed (by omega) hM k2) ?_
  exact g_icmp_eq cd305_292 rfl (fun _ => g) (fun h => absurd rfl h)
theorem turn_end (hT : Tn L xs S P I J ln sp sn ss) (hi : Ix L i) (hK : Kn L xs B i c) : Fn B 297 i (c, S, I, J, P) := by
  obtain ⟨hH, hM, hv, hS, hO, hx⟩ := hT
  obtain ⟨h1, h2, h3, h4, h5⟩ := hi
  obtain ⟨l1, e1⟩ : ∃ l, l = xs (i + 1).toNatClampNeg := ⟨_, rfl⟩
  obtain ⟨v, I1, I2, k1, k2, w, f1, f2⟩ := two_end hv l1
  have hx1 : ∀ j, I1 oFF j = xs j := fun j => (f1 _ j oFF_204).trans (hx j)
  obtain ⟨μ', g, b⟩ := hK c S (I2) J P ln sp sn ss ⟨hH, hM, w, hS, hO, fun j => (f2 _ j oFF_225).trans (hx j)⟩ (Nat.le_refl _) (by omega) (by omega)
  refine ⟨μ', ?_, b⟩
  refine g_aload_n cd305_297 rfl rfl ?_
  refine g_arg cd305_298 cd305_299 cd305_301 cd305_302 cd305_303 rfl rfl hS h1 ((hx _).trans e1.symm) ?_
  refine g_callVZ (L := [some (.ref 0), some (.int l1)]) cd305_304 rfl rfl rfl rfl rfl (OH.o hH) (t_Hol_end (by omega) hH k1) ?_
  refine g_aload_n cd305_307 rfl rfl ?_
  refine g_arg cd305_308 cd305_309 cd305_311 cd305_312 cd305_313 rfl rfl hS h1 ((hx1 _).trans e1.symm) ?_
  refine g_callVZ (L := [some (.ref 204), some (.int l1)]) cd305_314 rfl rfl rfl rfl rfl (OM.o hM) (t_Mod_end (by omega) hM k2) ?_
  exact g_icmp_eq cd305_317 rfl (fun _ => g) (fun h => absurd rfl h)
theorem turn_field (hT : Tn L xs S P I J ln sp sn ss) (hi : Ix L i) (hK : Kn L xs B i c) : Fn B 322 i (c, S, I, J, P) := by
  obtain ⟨hH, hM, hv, hS, hO, hx⟩ := hT
  obtain ⟨h1, h2, h3, h4, h5⟩ := hi
  obtain ⟨v, g, I1, J1, I2, J2, k1, k2, w1, w2, f1, f2⟩ := two_field hv
  have hx1 : ∀ j, I1 oFF j = xs j := fun j => (f1 _ j oFF_204).trans (hx j)
  have hl := hv.l6
  have hM1 : OM S (if g = true then swL P ln sp else P) := by
    cases g
    · exact hM
    · refine hM.of2 (fun _ _ => rfl) (fun k => ?_)
      show up2 (up2 P 0 1 (some sp)) 0 2 (some ln) 204 k = P 204 k
      rw [up2_ff (by omega), up2_ff (by omega)]
  have hE : Fn B 1551 i (c, S, I2, J2, (if g = true then swL P ln sp else P)) := by
    cases g with
    | false => exact hK c S I2 J2 P ln sp sn ss ⟨hH, hM, w2 rfl, hS, hO, fun j => (f2 _ j oFF_225).trans (hx j)⟩ (Nat.le_refl _) (by omega) (by omega)
    | true => exact hK c S I2 J2 (swL P ln sp) sp ln sn ss ⟨OH.chL hH (by omega) (by omega) (by omega) (by omega), hM1, w1 rfl, hS, hO, fun j => (f2 _ j oFF_225).trans (hx j)⟩ (Nat.le_refl _) (by omega) (by omega)
  obtain ⟨μ', g0, b⟩ := hE
  refine ⟨μ', ?_, b⟩
  refine g_aload_n cd305_322 rfl rfl ?_
  refine g_callVI (L := [some (.ref 0), none, none]) cd305_323 rfl rfl rfl rfl rfl (OH.o hH) (t_Hol_field (by omega) hH (by omega) (by omega) (by omega) (by omega) k1) ?_
  refine g_aload_n cd305_326 rfl rfl ?_
  refine g_callVI (L := [some (.ref 204), none, none]) cd305_327 rfl rfl rfl rfl rfl (OM.o hM1) (t_Mod_field (by omega) hM1 k2) ?_
  exact g_icmp_eq cd305_330 rfl (fun _ => g0) (fun h => absurd rfl h)
theorem turn_fault (hT : Tn L xs S P I J ln sp sn ss) (hi : Ix L i) (hK : Kn L xs B i c) : Fn B 335 i (c, S, I, J, P) := by
  obtain ⟨hH, hM, hv, hS, hO, hx⟩ := hT
  obtain ⟨h1, h2, h3, h4, h5⟩ := hi
  obtain ⟨v, k1, k2, w⟩ := two_fault hv
  obtain ⟨μ', g, b⟩ := hK c S (up2 I 204 0 0) J P ln sp sn ss ⟨hH, hM, w, hS, hO, fun j => (q_hi oFF_225).trans (hx j)⟩ (Nat.le_refl _) (by omega) (by omega)
  refine ⟨μ', ?_, b⟩
  refine g_aload_n cd305_335 rfl rfl ?_
  refine g_callVI (L := [some (.ref 0)]) cd305_336 rfl rfl rfl rfl rfl (OH.o hH) (t_Hol_fault (by omega) hH k1) ?_
  refine g_aload_n cd305_339 rfl rfl ?_
  refine g_callVI (L := [some (.ref 204)]) cd305_340 rfl rfl rfl rfl rfl (OM.o hM) (t_Mod_fault (by omega) hM k2) ?_
  exact g_icmp_eq cd305_343 rfl (fun _ => g) (fun h => absurd rfl h)
theorem turn_person (hT : Tn L xs S P I J ln sp sn ss) (hi : Ix L i) (hK : Kn L xs B i c) : Fn B 416 i (c, S, I, J, P) := by
  obtain ⟨hH, hM, hv, hS, hO, hx⟩ := hT
  obtain ⟨h1, h2, h3, h4, h5⟩ := hi
  obtain ⟨l1, e1⟩ : ∃ l, l = xs (i + 1).toNatClampNeg := ⟨_, rfl⟩
  obtain ⟨l2, e2⟩ : ∃ l, l = xs (i + 2).toNatClampNeg := ⟨_, rfl⟩
  obtain ⟨v, k1, k2, w⟩ := two_person hv l1 l2
  obtain ⟨μ', g, b⟩ := hK c S (up2 I 204 0 0) J P ln sp sn ss ⟨hH, hM, w, hS, hO, fun j => (q_hi oFF_225).trans (hx j)⟩ (Nat.le_refl _) (by omega) (by omega)
  refine ⟨μ', ?_, b⟩
  refine g_aload_n cd305_416 rfl rfl ?_
  refine g_arg cd305_417 cd305_418 cd305_420 cd305_421 cd305_422 rfl rfl hS h1 ((hx _).trans e1.symm) ?_
  refine g_arg cd305_423 cd305_424 cd305_426 cd305_427 cd305_428 rfl rfl hS h2 ((hx _).trans e2.symm) ?_
  refine g_callVI (L := [some (.ref 0), some (.int l1), some (.int l2)]) cd305_429 rfl rfl rfl rfl rfl (OH.o hH) (t_Hol_person (by omega) hH k1) ?_
  refine g_aload_n cd305_432 rfl rfl ?_
  refine g_arg cd305_433 cd305_434 cd305_436 cd305_437 cd305_438 rfl rfl hS h1 ((hx _).trans e1.symm) ?_
  refine g_arg cd305_439 cd305_440 cd305_442 cd305_443 cd305_444 rfl rfl hS h2 ((hx _).trans e2.symm) ?_
  refine g_callVI (L := [some (.ref 204), some (.int l1), some (.int l2), none, none]) cd305_445 rfl rfl rfl rfl rfl (OM.o hM) (t_Mod_person (by omega) hM k2) ?_
  exact g_icmp_eq cd305_448 rfl (fun _ => g) (fun h => absurd rfl h)
theorem turn_cell (hT : Tn L xs S P I J ln sp sn ss) (hi : Ix L i) (hK : Kn L xs B i c) : Fn B 453 i (c, S, I, J, P) := by
  obtain ⟨hH, hM, hv, hS, hO, hx⟩ := hT
  obtain ⟨h1, h2, h3, h4, h5⟩ := hi
  obtain ⟨l1, e1⟩ : ∃ l, l = xs (i + 1).toNatClampNeg := ⟨_, rfl⟩
  obtain ⟨l2, e2⟩ : ∃ l, l = xs (i + 2).toNatClampNeg := ⟨_, rfl⟩
  obtain ⟨l3, e3⟩ : ∃ l, l = xs (i + 3).toNatClampNeg := ⟨_, rfl⟩
  obtain ⟨v, k1, k2, w⟩ := two_cell hv l1 l2 l3
  obtain ⟨μ', g, b⟩ := hK c S (up2 I 204 0 0) J P ln sp sn ss ⟨hH, hM, w, hS, hO, fun j => (q_hi oFF_225).trans (hx j)⟩ (Nat.le_refl _) (by omega) (by omega)
  refine ⟨μ', ?_, b⟩
  refine g_aload_n cd305_453 rfl rfl ?_
  refine g_arg cd305_454 cd305_455 cd305_457 cd305_458 cd305_459 rfl rfl hS h1 ((hx _).trans e1.symm) ?_
  refine g_arg cd305_460 cd305_461 cd305_463 cd305_464 cd305_465 rfl rfl hS h2 ((hx _).trans e2.symm) ?_
  refine g_arg cd305_466 cd305_467 cd305_469 cd305_470 cd305_471 rfl rfl hS h3 ((hx _).trans e3.symm) ?_
  refine g_callVI (L := [some (.ref 0), some (.int l1), some (.int l2), some (.int l3)]) cd305_472 rfl rfl rfl rfl rfl (OH.o hH) (t_Hol_cell (by omega) hH k1) ?_
  refine g_aload_n cd305_475 rfl rfl ?_
  refine g_arg cd305_476 cd305_477 cd305_479 cd305_480 cd305_481 rfl rfl hS h1 ((hx _).trans e1.symm) ?_
  refine g_arg cd305_482 cd305_483 cd305_485 cd305_486 cd305_487 rfl rfl hS h2 ((hx _).trans e2.symm) ?_
  refine g_arg cd305_488 cd305_489 cd305_491 cd305_492 cd305_493 rfl rfl hS h3 ((hx _).trans e3.symm) ?_
  refine g_callVI (L := [some (.ref 204), some (.int l1), some (.int l2), some (.int l3), none, none]) cd305_494 rfl rfl rfl rfl rfl (OM.o hM) (t_Mod_cell (by omega) hM k2) ?_
  exact g_icmp_eq cd305_497 rfl (fun _ => g) (fun h => absurd rfl h)
theorem turn_now (hT : Tn L xs S P I J ln sp sn ss) (hi : Ix L i) (hK : Kn L xs B i c) : Fn B 502 i (c, S, I, J, P) := by
  obtain ⟨hH, hM, hv, hS, hO, hx⟩ := hT
  obtain ⟨h1, h2, h3, h4, h5⟩ := hi
  obtain ⟨l1, e1⟩ : ∃ l, l = xs (i + 1).toNatClampNeg := ⟨_, rfl⟩
  obtain ⟨v, k1, k2, w⟩ := two_now hv l1
  obtain ⟨μ', g, b⟩ := hK c S (up2 I 204 0 0) J P ln sp sn ss ⟨hH, hM, w, hS, hO, fun j => (q_hi oFF_225).trans (hx j)⟩ (Nat.le_refl _) (by omega) (by omega)
  refine ⟨μ', ?_, b⟩
  refine g_aload_n cd305_502 rfl rfl ?_
  refine g_arg cd305_503 cd305_504 cd305_506 cd305_507 cd305_508 rfl rfl hS h1 ((hx _).trans e1.symm) ?_
  refine g_callVI (L := [some (.ref 0), some (.int l1)]) cd305_509 rfl rfl rfl rfl rfl (OH.o hH) (t_Hol_now (by omega) hH k1) ?_
  refine g_aload_n cd305_512 rfl rfl ?_
  refine g_arg cd305_513 cd305_514 cd305_516 cd305_517 cd305_518 rfl rfl hS h1 ((hx _).trans e1.symm) ?_
  refine g_callVI (L := [some (.ref 204), some (.int l1), none, none]) cd305_519 rfl rfl rfl rfl rfl (OM.o hM) (t_Mod_now (by omega) hM k2) ?_
  exact g_icmp_eq cd305_522 rfl (fun _ => g) (fun h => absurd rfl h)
theorem turn_dig (hT : Tn L xs S P I J ln sp sn ss) (hi : Ix L i) (hK : Kn L xs B i c) : Fn B 527 i (c, S, I, J, P) := by
  obtain ⟨hH, hM, hv, hS, hO, hx⟩ := hT
  obtain ⟨h1, h2, h3, h4, h5⟩ := hi
  obtain ⟨l1, e1⟩ : ∃ l, l = xs (i + 1).toNatClampNeg := ⟨_, rfl⟩
  obtain ⟨l2, e2⟩ : ∃ l, l = xs (i + 2).toNatClampNeg := ⟨_, rfl⟩
  obtain ⟨l3, e3⟩ : ∃ l, l = xs (i + 3).toNatClampNeg := ⟨_, rfl⟩
  obtain ⟨v, I1, I2, k1, k2, w, f1, f2⟩ := two_dig hv l1 l2 l3
  have hx1 : ∀ j, I1 oFF j = xs j := fun j => (f1 _ j oFF_204).trans (hx j)
  obtain ⟨μ', g, b⟩ := hK c S (I2) J P ln sp sn ss ⟨hH, hM, w, hS, hO, fun j => (f2 _ j oFF_225).trans (hx j)⟩ (Nat.le_refl _) (by omega) (by omega)
  refine ⟨μ', ?_, b⟩
  refine g_aload_n cd305_527 rfl rfl ?_
  refine g_arg cd305_528 cd305_529 cd305_531 cd305_532 cd305_533 rfl rfl hS h1 ((hx _).trans e1.symm) ?_
  refine g_arg cd305_534 cd305_535 cd305_537 cd305_538 cd305_539 rfl rfl hS h2 ((hx _).trans e2.symm) ?_
  refine g_arg cd305_540 cd305_541 cd305_543 cd305_544 cd305_545 rfl rfl hS h3 ((hx _).trans e3.symm) ?_
  refine g_callVI (L := [some (.ref 0), some (.int l1), some (.int l2), some (.int l3)]) cd305_546 rfl rfl rfl rfl rfl (OH.o hH) (t_Hol_dig (by omega) hH k1) ?_
  refine g_aload_n cd305_549 rfl rfl ?_
  refine g_arg cd305_550 cd305_551 cd305_553 cd305_554 cd305_555 rfl rfl hS h1 ((hx1 _).trans e1.symm) ?_
  refine g_arg cd305_556 cd305_557 cd305_559 cd305_560 cd305_561 rfl rfl hS h2 ((hx1 _).trans e2.symm) ?_
  refine g_arg cd305_562 cd305_563 cd305_565 cd305_566 cd305_567 rfl rfl hS h3 ((hx1 _).trans e3.symm) ?_
  refine g_callVI (L := [some (.ref 204), some (.int l1), some (.int l2), some (.int l3)]) cd305_568 rfl rfl rfl rfl rfl (OM.o hM) (t_Mod_dig (by omega) hM k2) ?_
  exact g_icmp_eq cd305_571 rfl (fun _ => g) (fun h => absurd rfl h)
theorem turn_tell (hT : Tn L xs S P I J ln sp sn ss) (hi : Ix L i) (hK : Kn L xs B i c) : Fn B 576 i (c, S, I, J, P) := by
  obtain ⟨hH, hM, hv, hS, hO, hx⟩ := hT
  obtain ⟨h1, h2, h3, h4, h5⟩ := hi
  obtain ⟨l1, e1⟩ : ∃ l, l = xs (i + 1).toNatClampNeg := ⟨_, rfl⟩
  obtain ⟨v, I1, I2, k1, k2, w, f1, f2⟩ := two_tell hv l1
  have hx1 : ∀ j, I1 oFF j = xs j := fun j => (f1 _ j oFF_204).trans (hx j)
  obtain ⟨μ', g, b⟩ := hK c S (I2) J P ln sp sn ss ⟨hH, hM, w, hS, hO, fun j => (f2 _ j oFF_225).trans (hx j)⟩ (Nat.le_refl _) (by omega) (by omega)
  refine ⟨μ', ?_, b⟩
  refine g_aload_n cd305_576 rfl rfl ?_
  refine g_arg cd305_577 cd305_578 cd305_580 cd305_581 cd305_582 rfl rfl hS h1 ((hx _).trans e1.symm) ?_
  refine g_callVI (L := [some (.ref 0), some (.int l1), none]) cd305_583 rfl rfl rfl rfl rfl (OH.o hH) (t_Hol_tell (by omega) hH k1) ?_
  refine g_aload_n cd305_586 rfl rfl ?_
  refine g_arg cd305_587 cd305_588 cd305_590 cd305_591 cd305_592 rfl rfl hS h1 ((hx1 _).trans e1.symm) ?_
  refine g_callVI (L := [some (.ref 204), some (.int l1)]) cd305_593 rfl rfl rfl rfl rfl (OM.o hM) (t_Mod_tell (by omega) hM k2) ?_
  exact g_icmp_eq cd305_596 rfl (fun _ => g) (fun h => absurd rfl h)
theorem turn_sell (hT : Tn L xs S P I J ln sp sn ss) (hi : Ix L i) (hK : Kn L xs B i c) : Fn B 601 i (c, S, I, J, P) := by
  obtain ⟨hH, hM, hv, hS, hO, hx⟩ := hT
  obtain ⟨h1, h2, h3, h4, h5⟩ := hi
  obtain ⟨l1, e1⟩ : ∃ l, l = xs (i + 1).toNatClampNeg := ⟨_, rfl⟩
  obtain ⟨v, I1, I2, k1, k2, w, f1, f2⟩ := two_sell hv l1
  have hx1 : ∀ j, I1 oFF j = xs j := fun j => (f1 _ j oFF_204).trans (hx j)
  obtain ⟨μ', g, b⟩ := hK c S (I2) J P ln sp sn ss ⟨hH, hM, w, hS, hO, fun j => (f2 _ j oFF_225).trans (hx j)⟩ (Nat.le_refl _) (by omega) (by omega)
  refine ⟨μ', ?_, b⟩
  refine g_aload_n cd305_601 rfl rfl ?_
  refine g_arg cd305_602 cd305_603 cd305_605 cd305_606 cd305_607 rfl rfl hS h1 ((hx _).trans e1.symm) ?_
  refine g_callVI (L := [some (.ref 0), some (.int l1), none]) cd305_608 rfl rfl rfl rfl rfl (OH.o hH) (t_Hol_sell (by omega) hH k1) ?_
  refine g_aload_n cd305_611 rfl rfl ?_
  refine g_arg cd305_612 cd305_613 cd305_615 cd305_616 cd305_617 rfl rfl hS h1 ((hx1 _).trans e1.symm) ?_
  refine g_callVI (L := [some (.ref 204), some (.int l1)]) cd305_618 rfl rfl rfl rfl rfl (OM.o hM) (t_Mod_sell (by omega) hM k2) ?_
  exact g_icmp_eq cd305_621 rfl (fun _ => g) (fun h => absurd rfl h)
theorem turn_lay (hT : Tn L xs S P I J ln sp sn ss) (hi : Ix L i) (hK : Kn L xs B i c) : Fn B 626 i (c, S, I, J, P) := by
  obtain ⟨hH, hM, hv, hS, hO, hx⟩ := hT
  obtain ⟨h1, h2, h3, h4, h5⟩ := hi
  obtain ⟨l1, e1⟩ : ∃ l, l = xs (i + 1).toNatClampNeg := ⟨_, rfl⟩
  obtain ⟨l2, e2⟩ : ∃ l, l = xs (i + 2).toNatClampNeg := ⟨_, rfl⟩
  obtain ⟨l3, e3⟩ : ∃ l, l = xs (i + 3).toNatClampNeg := ⟨_, rfl⟩
  obtain ⟨v, I1, I2, k1, k2, w, f1, f2⟩ := two_lay hv l1 l2 l3
  have hx1 : ∀ j, I1 oFF j = xs j := fun j => (f1 _ j oFF_204).trans (hx j)
  obtain ⟨μ', g, b⟩ := hK c S (I2) J P ln sp sn ss ⟨hH, hM, w, hS, hO, fun j => (f2 _ j oFF_225).trans (hx j)⟩ (Nat.le_refl _) (by omega) (by omega)
  refine ⟨μ', ?_, b⟩
  refine g_aload_n cd305_626 rfl rfl ?_
  refine g_arg cd305_627 cd305_628 cd305_630 cd305_631 cd305_632 rfl rfl hS h1 ((hx _).trans e1.symm) ?_
  refine g_arg cd305_633 cd305_634 cd305_636 cd305_637 cd305_638 rfl rfl hS h2 ((hx _).trans e2.symm) ?_
  refine g_arg cd305_639 cd305_640 cd305_642 cd305_643 cd305_644 rfl rfl hS h3 ((hx _).trans e3.symm) ?_
  refine g_callVI (L := [some (.ref 0), some (.int l1), some (.int l2), some (.int l3), none]) cd305_645 rfl rfl rfl rfl rfl (OH.o hH) (t_Hol_lay (by omega) hH k1) ?_
  refine g_aload_n cd305_648 rfl rfl ?_
  refine g_arg cd305_649 cd305_650 cd305_652 cd305_653 cd305_654 rfl rfl hS h1 ((hx1 _).trans e1.symm) ?_
  refine g_arg cd305_655 cd305_656 cd305_658 cd305_659 cd305_660 rfl rfl hS h2 ((hx1 _).trans e2.symm) ?_
  refine g_arg cd305_661 cd305_662 cd305_664 cd305_665 cd305_666 rfl rfl hS h3 ((hx1 _).trans e3.symm) ?_
  refine g_callVI (L := [some (.ref 204), some (.int l1), some (.int l2), some (.int l3)]) cd305_667 rfl rfl rfl rfl rfl (OM.o hM) (t_Mod_lay (by omega) hM k2) ?_
  exact g_icmp_eq cd305_670 rfl (fun _ => g) (fun h => absurd rfl h)
theorem turn_give (hT : Tn L xs S P I J ln sp sn ss) (hi : Ix L i) (hK : Kn L xs B i c) : Fn B 675 i (c, S, I, J, P) := by
  obtain ⟨hH, hM, hv, hS, hO, hx⟩ := hT
  obtain ⟨h1, h2, h3, h4, h5⟩ := hi
  obtain ⟨l1, e1⟩ : ∃ l, l = xs (i + 1).toNatClampNeg := ⟨_, rfl⟩
  obtain ⟨l2, e2⟩ : ∃ l, l = xs (i + 2).toNatClampNeg := ⟨_, rfl⟩
  obtain ⟨v, I1, I2, k1, k2, w, f1, f2⟩ := two_give hv l1 l2
  have hx1 : ∀ j, I1 oFF j = xs j := fun j => (f1 _ j oFF_204).trans (hx j)
  obtain ⟨μ', g, b⟩ := hK c S (I2) J P ln sp sn ss ⟨hH, hM, w, hS, hO, fun j => (f2 _ j oFF_225).trans (hx j)⟩ (Nat.le_refl _) (by omega) (by omega)
  refine ⟨μ', ?_, b⟩
  refine g_aload_n cd305_675 rfl rfl ?_
  refine g_arg cd305_676 cd305_677 cd305_679 cd305_680 cd305_681 rfl rfl hS h1 ((hx _).trans e1.symm) ?_
  refine g_arg cd305_682 cd305_683 cd305_685 cd305_686 cd305_687 rfl rfl hS h2 ((hx _).trans e2.symm) ?_
  refine g_callVI (L := [some (.ref 0), some (.int l1), some (.int l2), none]) cd305_688 rfl rfl rfl rfl rfl (OH.o hH) (t_Hol_give (by omega) hH k1) ?_
  refine g_aload_n cd305_691 rfl rfl ?_
  refine g_arg cd305_692 cd305_693 cd305_695 cd305_696 cd305_697 rfl rfl hS h1 ((hx1 _).trans e1.symm) ?_
  refine g_arg cd305_698 cd305_699 cd305_701 cd305_702 cd305_703 rfl rfl hS h2 ((hx1 _).trans e2.symm) ?_
  refine g_callVI (L := [some (.ref 204), some (.int l1), some (.int l2)]) cd305_704 rfl rfl rfl rfl rfl (OM.o hM) (t_Mod_give (by omega) hM k2) ?_
  exact g_icmp_eq cd305_707 rfl (fun _ => g) (fun h => absurd rfl h)
theorem turn_plough (hT : Tn L xs S P I J ln sp sn ss) (hi : Ix L i) (hK : Kn L xs B i c) : Fn B 712 i (c, S, I, J, P) := by
  obtain ⟨hH, hM, hv, hS, hO, hx⟩ := hT
  obtain ⟨h1, h2, h3, h4, h5⟩ := hi
  obtain ⟨l1, e1⟩ : ∃ l, l = xs (i + 1).toNatClampNeg := ⟨_, rfl⟩
  obtain ⟨v, I1, I2, k1, k2, w, f1, f2⟩ := two_plough hv l1
  have hx1 : ∀ j, I1 oFF j = xs j := fun j => (f1 _ j oFF_204).trans (hx j)
  obtain ⟨μ', g, b⟩ := hK c S (I2) J P ln sp sn ss ⟨hH, hM, w, hS, hO, fun j => (f2 _ j oFF_225).trans (hx j)⟩ (Nat.le_refl _) (by omega) (by omega)
  refine ⟨μ', ?_, b⟩
  refine g_aload_n cd305_712 rfl rfl ?_
  refine g_arg cd305_713 cd305_714 cd305_716 cd305_717 cd305_718 rfl rfl hS h1 ((hx _).trans e1.symm) ?_
  refine g_callVI (L := [some (.ref 0), some (.int l1)]) cd305_719 rfl rfl rfl rfl rfl (OH.o hH) (t_Hol_plough (by omega) hH k1) ?_
  refine g_aload_n cd305_722 rfl rfl ?_
  refine g_arg cd305_723 cd305_724 cd305_726 cd305_727 cd305_728 rfl rfl hS h1 ((hx1 _).trans e1.symm) ?_
  refine g_callVI (L := [some (.ref 204), some (.int l1)]) cd305_729 rfl rfl rfl rfl rfl (OM.o hM) (t_Mod_plough (by omega) hM k2) ?_
  exact g_icmp_eq cd305_732 rfl (fun _ => g) (fun h => absurd rfl h)
theorem turn_nights (hT : Tn L xs S P I J ln sp sn ss) (hi : Ix L i) (hK : Kn L xs B i c) : Fn B 737 i (c, S, I, J, P) := by
  obtain ⟨hH, hM, hv, hS, hO, hx⟩ := hT
  obtain ⟨h1, h2, h3, h4, h5⟩ := hi
  obtain ⟨l1, e1⟩ : ∃ l, l = xs (i + 1).toNatClampNeg := ⟨_, rfl⟩
  obtain ⟨l2, e2⟩ : ∃ l, l = xs (i + 2).toNatClampNeg := ⟨_, rfl⟩
  obtain ⟨v, I1, I2, k1, k2, w, f1, f2⟩ := two_nights hv l1 l2
  have hx1 : ∀ j, I1 oFF j = xs j := fun j => (f1 _ j oFF_204).trans (hx j)
  obtain ⟨μ', g, b⟩ := hK c S (I2) J P ln sp sn ss ⟨hH, hM, w, hS, hO, fun j => (f2 _ j oFF_225).trans (hx j)⟩ (Nat.le_refl _) (by omega) (by omega)
  refine ⟨μ', ?_, b⟩
  refine g_aload_n cd305_737 rfl rfl ?_
  refine g_arg cd305_738 cd305_739 cd305_741 cd305_742 cd305_743 rfl rfl hS h1 ((hx _).trans e1.symm) ?_
  refine g_arg cd305_744 cd305_745 cd305_747 cd305_748 cd305_749 rfl rfl hS h2 ((hx _).trans e2.symm) ?_
  refine g_callVI (L := [some (.ref 0), some (.int l1), some (.int l2)]) cd305_750 rfl rfl rfl rfl rfl (OH.o hH) (t_Hol_nights (by omega) hH k1) ?_
  refine g_aload_n cd305_753 rfl rfl ?_
  refine g_arg cd305_754 cd305_755 cd305_757 cd305_758 cd305_759 rfl rfl hS h1 ((hx1 _).trans e1.symm) ?_
  refine g_arg cd305_760 cd305_761 cd305_763 cd305_764 cd305_765 rfl rfl hS h2 ((hx1 _).trans e2.symm) ?_
  refine g_callVI (L := [some (.ref 204), some (.int l1), some (.int l2)]) cd305_766 rfl rfl rfl rfl rfl (OM.o hM) (t_Mod_nights (by omega) hM k2) ?_
  exact g_icmp_eq cd305_769 rfl (fun _ => g) (fun h => absurd rfl h)
theorem turn_undo (hT : Tn L xs S P I J ln sp sn ss) (hi : Ix L i) (hK : Kn L xs B i c) : Fn B 774 i (c, S, I, J, P) := by
  obtain ⟨hH, hM, hv, hS, hO, hx⟩ := hT
  obtain ⟨h1, h2, h3, h4, h5⟩ := hi
  obtain ⟨v, I1, I2, k1, k2, w, f1, f2⟩ := two_undo hv
  have hx1 : ∀ j, I1 oFF j = xs j := fun j => (f1 _ j oFF_204).trans (hx j)
  obtain ⟨μ', g, b⟩ := hK c S (I2) J P ln sp sn ss ⟨hH, hM, w, hS, hO, fun j => (f2 _ j oFF_225).trans (hx j)⟩ (Nat.le_refl _) (by omega) (by omega)
  refine ⟨μ', ?_, b⟩
  refine g_aload_n cd305_774 rfl rfl ?_
  refine g_callVI (L := [some (.ref 0)]) cd305_775 rfl rfl rfl rfl rfl (OH.o hH) (t_Hol_undo (by omega) hH k1) ?_
  refine g_aload_n cd305_778 rfl rfl ?_
  refine g_callVI (L := [some (.ref 204), none]) cd305_779 rfl rfl rfl rfl rfl (OM.o hM) (t_Mod_undo (by omega) hM k2) ?_
  exact g_icmp_eq cd305_782 rfl (fun _ => g) (fun h => absurd rfl h)
theorem turn_reading (hT : Tn L xs S P I J ln sp sn ss) (hi : Ix L i) (hK : Kn L xs B i c) : Fn B 854 i (c, S, I, J, P) := by
  obtain ⟨hH, hM, hv, hS, hO, hx⟩ := hT
  obtain ⟨h1, h2, h3, h4, h5⟩ := hi
  obtain ⟨v, J1, J2, k1, k2, w⟩ := two_reading hv
  obtain ⟨μ', g, b⟩ := hK c S (up2 I 204 0 0) J2 P ln sp sn ss ⟨hH, hM, w, hS, hO, fun j => (q_hi oFF_225).trans (hx j)⟩ (Nat.le_refl _) (by omega) (by omega)
  refine ⟨μ', ?_, b⟩
  refine g_aload_n cd305_854 rfl rfl ?_
  refine g_callVI (L := [some (.ref 0)]) cd305_855 rfl rfl rfl rfl rfl (OH.o hH) (t_Hol_reading (by omega) hH k1) ?_
  refine g_aload_n cd305_858 rfl rfl ?_
  refine g_callVI (L := [some (.ref 204), none, none]) cd305_859 rfl rfl rfl rfl rfl (OM.o hM) (t_Mod_reading (by omega) hM k2) ?_
  exact g_icmp_eq cd305_862 rfl (fun _ => g) (fun h => absurd rfl h)
theorem turn_asks (hT : Tn L xs S P I J ln sp sn ss) (hi : Ix L i) (hK : Kn L xs B i c) : Fn B 934 i (c, S, I, J, P) := by
  obtain ⟨hH, hM, hv, hS, hO, hx⟩ := hT
  obtain ⟨h1, h2, h3, h4, h5⟩ := hi
  obtain ⟨v, J1, J2, k1, k2, w⟩ := two_asks hv
  obtain ⟨μ', g, b⟩ := hK c S (up2 I 204 0 0) J2 P ln sp sn ss ⟨hH, hM, w, hS, hO, fun j => (q_hi oFF_225).trans (hx j)⟩ (Nat.le_refl _) (by omega) (by omega)
  refine ⟨μ', ?_, b⟩
  refine g_aload_n cd305_934 rfl rfl ?_
  refine g_callVI (L := [some (.ref 0)]) cd305_935 rfl rfl rfl rfl rfl (OH.o hH) (t_Hol_asks (by omega) hH k1) ?_
  refine g_aload_n cd305_938 rfl rfl ?_
  refine g_callVI (L := [some (.ref 204), none, none]) cd305_939 rfl rfl rfl rfl rfl (OM.o hM) (t_Mod_asks (by omega) hM k2) ?_
  exact g_icmp_eq cd305_942 rfl (fun _ => g) (fun h => absurd rfl h)
theorem turn_best (hT : Tn L xs S P I J ln sp sn ss) (hi : Ix L i) (hK : Kn L xs B i c) : Fn B 1014 i (c, S, I, J, P) := by
  obtain ⟨hH, hM, hv, hS, hO, hx⟩ := hT
  obtain ⟨h1, h2, h3, h4, h5⟩ := hi
  obtain ⟨l1, e1⟩ : ∃ l, l = xs (i + 1).toNatClampNeg := ⟨_, rfl⟩
  obtain ⟨v, J1, J2, k1, k2, w⟩ := two_best hv l1
  obtain ⟨μ', g, b⟩ := hK c S (up2 I 204 0 0) J2 P ln sp sn ss ⟨hH, hM, w, hS, hO, fun j => (q_hi oFF_225).trans (hx j)⟩ (Nat.le_refl _) (by omega) (by omega)
  refine ⟨μ', ?_, b⟩
  refine g_aload_n cd305_1014 rfl rfl ?_
  refine g_arg cd305_1015 cd305_1016 cd305_1018 cd305_1019 cd305_1020 rfl rfl hS h1 ((hx _).trans e1.symm) ?_
  refine g_callVI (L := [some (.ref 0), some (.int l1)]) cd305_1021 rfl rfl rfl rfl rfl (OH.o hH) (t_Hol_best (by omega) hH k1) ?_
  refine g_aload_n cd305_1024 rfl rfl ?_
  refine g_arg cd305_1025 cd305_1026 cd305_1028 cd305_1029 cd305_1030 rfl rfl hS h1 ((hx _).trans e1.symm) ?_
  refine g_callVI (L := [some (.ref 204), some (.int l1)]) cd305_1031 rfl rfl rfl rfl rfl (OM.o hM) (t_Mod_best (by omega) hM k2) ?_
  exact g_icmp_eq cd305_1034 rfl (fun _ => g) (fun h => absurd rfl h)
theorem turn_route (hT : Tn L xs S P I J ln sp sn ss) (hi : Ix L i) (hK : Kn L xs B i c) : Fn B 1039 i (c, S, I, J, P) := by
  obtain ⟨hH, hM, hv, hS, hO, hx⟩ := hT
  obtain ⟨h1, h2, h3, h4, h5⟩ := hi
  obtain ⟨l1, e1⟩ : ∃ l, l = xs (i + 1).toNatClampNeg := ⟨_, rfl⟩
  obtain ⟨l2, e2⟩ : ∃ l, l = xs (i + 2).toNatClampNeg := ⟨_, rfl⟩
  obtain ⟨l3, e3⟩ : ∃ l, l = xs (i + 3).toNatClampNeg := ⟨_, rfl⟩
  obtain ⟨v, I1, I2, k1, k2, w, f1, f2⟩ := two_route hv l1 l2 l3
  have hx1 : ∀ j, I1 oFF j = xs j := fun j => (f1 _ j oFF_204).trans (hx j)
  obtain ⟨μ', g, b⟩ := hK c S (I2) J P ln sp sn ss ⟨hH, hM, w, hS, hO, fun j => (f2 _ j oFF_225).trans (hx j)⟩ (Nat.le_refl _) (by omega) (by omega)
  refine ⟨μ', ?_, b⟩
  refine g_aload_n cd305_1039 rfl rfl ?_
  refine g_arg cd305_1040 cd305_1041 cd305_1043 cd305_1044 cd305_1045 rfl rfl hS h1 ((hx _).trans e1.symm) ?_
  refine g_arg cd305_1046 cd305_1047 cd305_1049 cd305_1050 cd305_1051 rfl rfl hS h2 ((hx _).trans e2.symm) ?_
  refine g_arg cd305_1052 cd305_1053 cd305_1055 cd305_1056 cd305_1057 rfl rfl hS h3 ((hx _).trans e3.symm) ?_
  refine g_callVI (L := [some (.ref 0), some (.int l1), some (.int l2), some (.int l3)]) cd305_1058 rfl rfl rfl rfl rfl (OH.o hH) (t_Hol_route (by omega) hH k1) ?_
  refine g_aload_n cd305_1061 rfl rfl ?_
  refine g_arg cd305_1062 cd305_1063 cd305_1065 cd305_1066 cd305_1067 rfl rfl hS h1 ((hx1 _).trans e1.symm) ?_
  refine g_arg cd305_1068 cd305_1069 cd305_1071 cd305_1072 cd305_1073 rfl rfl hS h2 ((hx1 _).trans e2.symm) ?_
  refine g_arg cd305_1074 cd305_1075 cd305_1077 cd305_1078 cd305_1079 rfl rfl hS h3 ((hx1 _).trans e3.symm) ?_
  refine g_callVI (L := [some (.ref 204), some (.int l1), some (.int l2), some (.int l3)]) cd305_1080 rfl rfl rfl rfl rfl (OM.o hM) (t_Mod_route (by omega) hM k2) ?_
  exact g_icmp_eq cd305_1083 rfl (fun _ => g) (fun h => absurd rfl h)
theorem turn_routeAt (hT : Tn L xs S P I J ln sp sn ss) (hi : Ix L i) (hK : Kn L xs B i c) : Fn B 1088 i (c, S, I, J, P) := by
  obtain ⟨hH, hM, hv, hS, hO, hx⟩ := hT
  obtain ⟨h1, h2, h3, h4, h5⟩ := hi
  obtain ⟨l1, e1⟩ : ∃ l, l = xs (i + 1).toNatClampNeg := ⟨_, rfl⟩
  obtain ⟨v, k1, k2, w⟩ := two_routeAt hv l1
  obtain ⟨μ', g, b⟩ := hK c S (up2 I 204 0 0) J P ln sp sn ss ⟨hH, hM, w, hS, hO, fun j => (q_hi oFF_225).trans (hx j)⟩ (Nat.le_refl _) (by omega) (by omega)
  refine ⟨μ', ?_, b⟩
  refine g_aload_n cd305_1088 rfl rfl ?_
  refine g_arg cd305_1089 cd305_1090 cd305_1092 cd305_1093 cd305_1094 rfl rfl hS h1 ((hx _).trans e1.symm) ?_
  refine g_callVI (L := [some (.ref 0), some (.int l1)]) cd305_1095 rfl rfl rfl rfl rfl (OH.o hH) (t_Hol_routeAt (by omega) hH k1) ?_
  refine g_aload_n cd305_1098 rfl rfl ?_
  refine g_arg cd305_1099 cd305_1100 cd305_1102 cd305_1103 cd305_1104 rfl rfl hS h1 ((hx _).trans e1.symm) ?_
  refine g_callVI (L := [some (.ref 204), some (.int l1)]) cd305_1105 rfl rfl rfl rfl rfl (OM.o hM) (t_Mod_routeAt (by omega) hM k2) ?_
  exact g_icmp_eq cd305_1108 rfl (fun _ => g) (fun h => absurd rfl h)
theorem turn_spread (hT : Tn L xs S P I J ln sp sn ss) (hi : Ix L i) (hK : Kn L xs B i c) : Fn B 1113 i (c, S, I, J, P) := by
  obtain ⟨hH, hM, hv, hS, hO, hx⟩ := hT
  obtain ⟨h1, h2, h3, h4, h5⟩ := hi
  obtain ⟨v, k1, k2, w⟩ := two_spread hv
  obtain ⟨μ', g, b⟩ := hK c S (up2 I 204 0 0) J P ln sp sn ss ⟨hH, hM, w, hS, hO, fun j => (q_hi oFF_225).trans (hx j)⟩ (Nat.le_refl _) (by omega) (by omega)
  refine ⟨μ', ?_, b⟩
  refine g_aload_n cd305_1113 rfl rfl ?_
  refine g_callVI (L := [some (.ref 0)]) cd305_1114 rfl rfl rfl rfl rfl (OH.o hH) (t_Hol_spread (by omega) hH k1) ?_
  refine g_aload_n cd305_1117 rfl rfl ?_
  refine g_callVI (L := [some (.ref 204)]) cd305_1118 rfl rfl rfl rfl rfl (OM.o hM) (t_Mod_spread (by omega) hM k2) ?_
  exact g_icmp_eq cd305_1121 rfl (fun _ => g) (fun h => absurd rfl h)
theorem turn_doubt (hT : Tn L xs S P I J ln sp sn ss) (hi : Ix L i) (hK : Kn L xs B i c) : Fn B 1126 i (c, S, I, J, P) := by
  obtain ⟨hH, hM, hv, hS, hO, hx⟩ := hT
  obtain ⟨h1, h2, h3, h4, h5⟩ := hi
  obtain ⟨l1, e1⟩ : ∃ l, l = xs (i + 1).toNatClampNeg := ⟨_, rfl⟩
  obtain ⟨l2, e2⟩ : ∃ l, l = xs (i + 2).toNatClampNeg := ⟨_, rfl⟩
  obtain ⟨l3, e3⟩ : ∃ l, l = xs (i + 3).toNatClampNeg := ⟨_, rfl⟩
  obtain ⟨l4, e4⟩ : ∃ l, l = xs (i + 4).toNatClampNeg := ⟨_, rfl⟩
  obtain ⟨v, I1, I2, k1, k2, w, f1, f2⟩ := two_doubt hv l1 l2 l3 l4
  have hx1 : ∀ j, I1 oFF j = xs j := fun j => (f1 _ j oFF_204).trans (hx j)
  obtain ⟨μ', g, b⟩ := hK c S (I2) J P ln sp sn ss ⟨hH, hM, w, hS, hO, fun j => (f2 _ j oFF_225).trans (hx j)⟩ (Nat.le_refl _) (by omega) (by omega)
  refine ⟨μ', ?_, b⟩
  refine g_aload_n cd305_1126 rfl rfl ?_
  refine g_arg cd305_1127 cd305_1128 cd305_1130 cd305_1131 cd305_1132 rfl rfl hS h1 ((hx _).trans e1.symm) ?_
  refine g_arg cd305_1133 cd305_1134 cd305_1136 cd305_1137 cd305_1138 rfl rfl hS h2 ((hx _).trans e2.symm) ?_
  refine g_arg cd305_1139 cd305_1140 cd305_1142 cd305_1143 cd305_1144 rfl rfl hS h3 ((hx _).trans e3.symm) ?_
  refine g_arg cd305_1145 cd305_1146 cd305_1148 cd305_1149 cd305_1150 rfl rfl hS h4 ((hx _).trans e4.symm) ?_
  refine g_callVI (L := [some (.ref 0), some (.int l1), some (.int l2), some (.int l3), some (.int l4), none, none, none]) cd305_1151 rfl rfl rfl rfl rfl (OH.o hH) (t_Hol_doubt (by omega) hH k1) ?_
  refine g_aload_n cd305_1154 rfl rfl ?_
  refine g_arg cd305_1155 cd305_1156 cd305_1158 cd305_1159 cd305_1160 rfl rfl hS h1 ((hx1 _).trans e1.symm) ?_
  refine g_arg cd305_1161 cd305_1162 cd305_1164 cd305_1165 cd305_1166 rfl rfl hS h2 ((hx1 _).trans e2.symm) ?_
  refine g_arg cd305_1167 cd305_1168 cd305_1170 cd305_1171 cd305_1172 rfl rfl hS h3 ((hx1 _).trans e3.symm) ?_
  refine g_arg cd305_1173 cd305_1174 cd305_1176 cd305_1177 cd305_1178 rfl rfl hS h4 ((hx1 _).trans e4.symm) ?_
  refine g_callVI (L := [some (.ref 204), some (.int l1), some (.int l2), some (.int l3), some (.int l4), none, none, none, none, none]) cd305_1179 rfl rfl rfl rfl rfl (OM.o hM) (t_Mod_doubt (by omega) hM k2) ?_
  exact g_icmp_eq cd305_1182 rfl (fun _ => g) (fun h => absurd rfl h)
theorem turn_fears (hT : Tn L xs S P I J ln sp sn ss) (hi : Ix L i) (hK : Kn L xs B i c) : Fn B 1187 i (c, S, I, J, P) := by
  obtain ⟨hH, hM, hv, hS, hO, hx⟩ := hT
  obtain ⟨h1, h2, h3, h4, h5⟩ := hi
  obtain ⟨v, k1, k2, w⟩ := two_fears hv
  obtain ⟨μ', g, b⟩ := hK c S (up2 I 204 0 0) J P ln sp sn ss ⟨hH, hM, w, hS, hO, fun j => (q_hi oFF_225).trans (hx j)⟩ (Nat.le_refl _) (by omega) (by omega)
  refine ⟨μ', ?_, b⟩
  refine g_aload_n cd305_1187 rfl rfl ?_
  refine g_callVI (L := [some (.ref 0), none, none, none, none]) cd305_1188 rfl rfl rfl rfl rfl (OH.o hH) (t_Hol_fears (by omega) hH k1) ?_
  refine g_aload_n cd305_1191 rfl rfl ?_
  refine g_callVI (L := [some (.ref 204), none, none, none, none]) cd305_1192 rfl rfl rfl rfl rfl (OM.o hM) (t_Mod_fears (by omega) hM k2) ?_
  exact g_icmp_eq cd305_1195 rfl (fun _ => g) (fun h => absurd rfl h)
theorem turn_fear (hT : Tn L xs S P I J ln sp sn ss) (hi : Ix L i) (hK : Kn L xs B i c) : Fn B 1200 i (c, S, I, J, P) := by
  obtain ⟨hH, hM, hv, hS, hO, hx⟩ := hT
  obtain ⟨h1, h2, h3, h4, h5⟩ := hi
  obtain ⟨l1, e1⟩ : ∃ l, l = xs (i + 1).toNatClampNeg := ⟨_, rfl⟩
  obtain ⟨l2, e2⟩ : ∃ l, l = xs (i + 2).toNatClampNeg := ⟨_, rfl⟩
  obtain ⟨v, k1, k2, w⟩ := two_fear hv l1 l2
  obtain ⟨μ', g, b⟩ := hK c S (up2 I 204 0 0) J P ln sp sn ss ⟨hH, hM, w, hS, hO, fun j => (q_hi oFF_225).trans (hx j)⟩ (Nat.le_refl _) (by omega) (by omega)
  refine ⟨μ', ?_, b⟩
  refine g_aload_n cd305_1200 rfl rfl ?_
  refine g_arg cd305_1201 cd305_1202 cd305_1204 cd305_1205 cd305_1206 rfl rfl hS h1 ((hx _).trans e1.symm) ?_
  refine g_arg cd305_1207 cd305_1208 cd305_1210 cd305_1211 cd305_1212 rfl rfl hS h2 ((hx _).trans e2.symm) ?_
  refine g_callVI (L := [some (.ref 0), some (.int l1), some (.int l2)]) cd305_1213 rfl rfl rfl rfl rfl (OH.o hH) (t_Hol_fear (by omega) hH k1) ?_
  refine g_aload_n cd305_1216 rfl rfl ?_
  refine g_arg cd305_1217 cd305_1218 cd305_1220 cd305_1221 cd305_1222 rfl rfl hS h1 ((hx _).trans e1.symm) ?_
  refine g_arg cd305_1223 cd305_1224 cd305_1226 cd305_1227 cd305_1228 rfl rfl hS h2 ((hx _).trans e2.symm) ?_
  refine g_callVI (L := [some (.ref 204), some (.int l1), some (.int l2)]) cd305_1229 rfl rfl rfl rfl rfl (OM.o hM) (t_Mod_fear (by omega) hM k2) ?_
  exact g_icmp_eq cd305_1232 rfl (fun _ => g) (fun h => absurd rfl h)
theorem turn_pots (hT : Tn L xs S P I J ln sp sn ss) (hi : Ix L i) (hK : Kn L xs B i c) : Fn B 1237 i (c, S, I, J, P) := by
  obtain ⟨hH, hM, hv, hS, hO, hx⟩ := hT
  obtain ⟨h1, h2, h3, h4, h5⟩ := hi
  obtain ⟨v, I1, I2, k1, k2, w, f1, f2⟩ := two_pots hv
  have hx1 : ∀ j, I1 oFF j = xs j := fun j => (f1 _ j oFF_204).trans (hx j)
  obtain ⟨μ', g, b⟩ := hK c S (I2) J P ln sp sn ss ⟨hH, hM, w, hS, hO, fun j => (f2 _ j oFF_225).trans (hx j)⟩ (Nat.le_refl _) (by omega) (by omega)
  refine ⟨μ', ?_, b⟩
  refine g_aload_n cd305_1237 rfl rfl ?_
  refine g_callVI (L := [some (.ref 0), none, none, none]) cd305_1238 rfl rfl rfl rfl rfl (OH.o hH) (t_Hol_pots (by omega) hH k1) ?_
  refine g_aload_n cd305_1241 rfl rfl ?_
  refine g_callVI (L := [some (.ref 204), none, none, none, none, none]) cd305_1242 rfl rfl rfl rfl rfl (OM.o hM) (t_Mod_pots (by omega) hM k2) ?_
  exact g_icmp_eq cd305_1245 rfl (fun _ => g) (fun h => absurd rfl h)
theorem turn_early (hT : Tn L xs S P I J ln sp sn ss) (hi : Ix L i) (hK : Kn L xs B i c) : Fn B 1250 i (c, S, I, J, P) := by
  obtain ⟨hH, hM, hv, hS, hO, hx⟩ := hT
  obtain ⟨h1, h2, h3, h4, h5⟩ := hi
  obtain ⟨v, k1, k2, w⟩ := two_early hv
  obtain ⟨μ', g, b⟩ := hK c S (up2 I 204 0 0) J P ln sp sn ss ⟨hH, hM, w, hS, hO, fun j => (q_hi oFF_225).trans (hx j)⟩ (Nat.le_refl _) (by omega) (by omega)
  refine ⟨μ', ?_, b⟩
  refine g_aload_n cd305_1250 rfl rfl ?_
  refine g_callVI (L := [some (.ref 0)]) cd305_1251 rfl rfl rfl rfl rfl (OH.o hH) (t_Hol_early (by omega) hH k1) ?_
  refine g_aload_n cd305_1254 rfl rfl ?_
  refine g_callVI (L := [some (.ref 204)]) cd305_1255 rfl rfl rfl rfl rfl (OM.o hM) (t_Mod_early (by omega) hM k2) ?_
  exact g_icmp_eq cd305_1258 rfl (fun _ => g) (fun h => absurd rfl h)
theorem turn_parts (hT : Tn L xs S P I J ln sp sn ss) (hi : Ix L i) (hK : Kn L xs B i c) : Fn B 1263 i (c, S, I, J, P) := by
  obtain ⟨hH, hM, hv, hS, hO, hx⟩ := hT
  obtain ⟨h1, h2, h3, h4, h5⟩ := hi
  obtain ⟨v, I1, I2, k1, k2, w, f1, f2⟩ := two_parts hv
  have hx1 : ∀ j, I1 oFF j = xs j := fun j => (f1 _ j oFF_204).trans (hx j)
  obtain ⟨μ', g, b⟩ := hK c S (I2) J P ln sp sn ss ⟨hH, hM, w, hS, hO, fun j => (f2 _ j oFF_225).trans (hx j)⟩ (Nat.le_refl _) (by omega) (by omega)
  refine ⟨μ', ?_, b⟩
  refine g_aload_n cd305_1263 rfl rfl ?_
  refine g_callVI (L := [some (.ref 0), none, none, none, none, none]) cd305_1264 rfl rfl rfl rfl rfl (OH.o hH) (t_Hol_parts (by omega) hH k1) ?_
  refine g_aload_n cd305_1267 rfl rfl ?_
  refine g_callVI (L := [some (.ref 204), none, none, none, none, none]) cd305_1268 rfl rfl rfl rfl rfl (OM.o hM) (t_Mod_parts (by omega) hM k2) ?_
  exact g_icmp_eq cd305_1271 rfl (fun _ => g) (fun h => absurd rfl h)
theorem turn_parted (hT : Tn L xs S P I J ln sp sn ss) (hi : Ix L i) (hK : Kn L xs B i c) : Fn B 1276 i (c, S, I, J, P) := by
  obtain ⟨hH, hM, hv, hS, hO, hx⟩ := hT
  obtain ⟨h1, h2, h3, h4, h5⟩ := hi
  obtain ⟨v, k1, k2, w⟩ := two_parted hv
  obtain ⟨μ', g, b⟩ := hK c S (up2 I 204 0 0) J P ln sp sn ss ⟨hH, hM, w, hS, hO, fun j => (q_hi oFF_225).trans (hx j)⟩ (Nat.le_refl _) (by omega) (by omega)
  refine ⟨μ', ?_, b⟩
  refine g_aload_n cd305_1276 rfl rfl ?_
  refine g_callVI (L := [some (.ref 0)]) cd305_1277 rfl rfl rfl rfl rfl (OH.o hH) (t_Hol_parted (by omega) hH k1) ?_
  refine g_aload_n cd305_1280 rfl rfl ?_
  refine g_callVI (L := [some (.ref 204)]) cd305_1281 rfl rfl rfl rfl rfl (OM.o hM) (t_Mod_parted (by omega) hM k2) ?_
  exact g_icmp_eq cd305_1284 rfl (fun _ => g) (fun h => absurd rfl h)
theorem turn_label (hT : Tn L xs S P I J ln sp sn ss) (hi : Ix L i) (hK : Kn L xs B i c) : Fn B 1289 i (c, S, I, J, P) := by
  obtain ⟨hH, hM, hv, hS, hO, hx⟩ := hT
  obtain ⟨h1, h2, h3, h4, h5⟩ := hi
  obtain ⟨l1, e1⟩ : ∃ l, l = xs (i + 1).toNatClampNeg := ⟨_, rfl⟩
  obtain ⟨v, I1, I2, k1, k2, w, f1, f2⟩ := two_label hv l1
  have hx1 : ∀ j, I1 oFF j = xs j := fun j => (f1 _ j oFF_204).trans (hx j)
  obtain ⟨μ', g, b⟩ := hK c S (I2) J P ln sp sn ss ⟨hH, hM, w, hS, hO, fun j => (f2 _ j oFF_225).trans (hx j)⟩ (Nat.le_refl _) (by omega) (by omega)
  refine ⟨μ', ?_, b⟩
  refine g_aload_n cd305_1289 rfl rfl ?_
  refine g_arg cd305_1290 cd305_1291 cd305_1293 cd305_1294 cd305_1295 rfl rfl hS h1 ((hx _).trans e1.symm) ?_
  refine g_callVI (L := [some (.ref 0), some (.int l1)]) cd305_1296 rfl rfl rfl rfl rfl (OH.o hH) (t_Hol_label (by omega) hH k1) ?_
  refine g_aload_n cd305_1299 rfl rfl ?_
  refine g_arg cd305_1300 cd305_1301 cd305_1303 cd305_1304 cd305_1305 rfl rfl hS h1 ((hx1 _).trans e1.symm) ?_
  refine g_callVI (L := [some (.ref 204), some (.int l1)]) cd305_1306 rfl rfl rfl rfl rfl (OM.o hM) (t_Mod_label (by omega) hM k2) ?_
  exact g_icmp_eq cd305_1309 rfl (fun _ => g) (fun h => absurd rfl h)
theorem turn_byteAt (hT : Tn L xs S P I J ln sp sn ss) (hi : Ix L i) (hK : Kn L xs B i c) : Fn B 1314 i (c, S, I, J, P) := by
  obtain ⟨hH, hM, hv, hS, hO, hx⟩ := hT
  obtain ⟨h1, h2, h3, h4, h5⟩ := hi
  obtain ⟨l1, e1⟩ : ∃ l, l = xs (i + 1).toNatClampNeg := ⟨_, rfl⟩
  obtain ⟨v, k1, k2, w⟩ := two_byteAt hv l1
  obtain ⟨μ', g, b⟩ := hK c S (up2 I 204 0 0) J P ln sp sn ss ⟨hH, hM, w, hS, hO, fun j => (q_hi oFF_225).trans (hx j)⟩ (Nat.le_refl _) (by omega) (by omega)
  refine ⟨μ', ?_, b⟩
  refine g_aload_n cd305_1314 rfl rfl ?_
  refine g_arg cd305_1315 cd305_1316 cd305_1318 cd305_1319 cd305_1320 rfl rfl hS h1 ((hx _).trans e1.symm) ?_
  refine g_callVI (L := [some (.ref 0), some (.int l1)]) cd305_1321 rfl rfl rfl rfl rfl (OH.o hH) (t_Hol_byteAt (by omega) hH k1) ?_
  refine g_aload_n cd305_1324 rfl rfl ?_
  refine g_arg cd305_1325 cd305_1326 cd305_1328 cd305_1329 cd305_1330 rfl rfl hS h1 ((hx _).trans e1.symm) ?_
  refine g_callVI (L := [some (.ref 204), some (.int l1)]) cd305_1331 rfl rfl rfl rfl rfl (OM.o hM) (t_Mod_byteAt (by omega) hM k2) ?_
  exact g_icmp_eq cd305_1334 rfl (fun _ => g) (fun h => absurd rfl h)
theorem turn_odds (hT : Tn L xs S P I J ln sp sn ss) (hi : Ix L i) (hK : Kn L xs B i c) : Fn B 1339 i (c, S, I, J, P) := by
  obtain ⟨hH, hM, hv, hS, hO, hx⟩ := hT
  obtain ⟨h1, h2, h3, h4, h5⟩ := hi
  obtain ⟨l1, e1⟩ : ∃ l, l = xs (i + 1).toNatClampNeg := ⟨_, rfl⟩
  obtain ⟨l2, e2⟩ : ∃ l, l = xs (i + 2).toNatClampNeg := ⟨_, rfl⟩
  obtain ⟨l3, e3⟩ : ∃ l, l = xs (i + 3).toNatClampNeg := ⟨_, rfl⟩
  obtain ⟨v, I1, I2, k1, k2, w, f1, f2⟩ := two_odds hv l1 l2 l3
  have hx1 : ∀ j, I1 oFF j = xs j := fun j => (f1 _ j oFF_204).trans (hx j)
  obtain ⟨μ', g, b⟩ := hK c S (I2) J P ln sp sn ss ⟨hH, hM, w, hS, hO, fun j => (f2 _ j oFF_225).trans (hx j)⟩ (Nat.le_refl _) (by omega) (by omega)
  refine ⟨μ', ?_, b⟩
  refine g_aload_n cd305_1339 rfl rfl ?_
  refine g_arg cd305_1340 cd305_1341 cd305_1343 cd305_1344 cd305_1345 rfl rfl hS h1 ((hx _).trans e1.symm) ?_
  refine g_arg cd305_1346 cd305_1347 cd305_1349 cd305_1350 cd305_1351 rfl rfl hS h2 ((hx _).trans e2.symm) ?_
  refine g_arg cd305_1352 cd305_1353 cd305_1355 cd305_1356 cd305_1357 rfl rfl hS h3 ((hx _).trans e3.symm) ?_
  refine g_callVI (L := [some (.ref 0), some (.int l1), some (.int l2), some (.int l3), none, none]) cd305_1358 rfl rfl rfl rfl rfl (OH.o hH) (t_Hol_odds (by omega) hH k1) ?_
  refine g_aload_n cd305_1361 rfl rfl ?_
  refine g_arg cd305_1362 cd305_1363 cd305_1365 cd305_1366 cd305_1367 rfl rfl hS h1 ((hx1 _).trans e1.symm) ?_
  refine g_arg cd305_1368 cd305_1369 cd305_1371 cd305_1372 cd305_1373 rfl rfl hS h2 ((hx1 _).trans e2.symm) ?_
  refine g_arg cd305_1374 cd305_1375 cd305_1377 cd305_1378 cd305_1379 rfl rfl hS h3 ((hx1 _).trans e3.symm) ?_
  refine g_callVI (L := [some (.ref 204), some (.int l1), some (.int l2), some (.int l3), none, none]) cd305_1380 rfl rfl rfl rfl rfl (OM.o hM) (t_Mod_odds (by omega) hM k2) ?_
  exact g_icmp_eq cd305_1383 rfl (fun _ => g) (fun h => absurd rfl h)
theorem turn_book (hT : Tn L xs S P I J ln sp sn ss) (hi : Ix L i) (hK : Kn L xs B i c) : Fn B 1388 i (c, S, I, J, P) := by
  obtain ⟨hH, hM, hv, hS, hO, hx⟩ := hT
  obtain ⟨h1, h2, h3, h4, h5⟩ := hi
  obtain ⟨l1, e1⟩ : ∃ l, l = xs (i + 1).toNatClampNeg := ⟨_, rfl⟩
  obtain ⟨v, I1, J1, I2, J2, k1, k2, w, f1, f2⟩ := two_book hv l1
  have hx1 : ∀ j, I1 oFF j = xs j := fun j => (f1 _ j oFF_204).trans (hx j)
  obtain ⟨μ', g, b⟩ := hK c S (I2) J2 P ln sp sn ss ⟨hH, hM, w, hS, hO, fun j => (f2 _ j oFF_225).trans (hx j)⟩ (Nat.le_refl _) (by omega) (by omega)
  refine ⟨μ', ?_, b⟩
  refine g_aload_n cd305_1388 rfl rfl ?_
  refine g_arg cd305_1389 cd305_1390 cd305_1392 cd305_1393 cd305_1394 rfl rfl hS h1 ((hx _).trans e1.symm) ?_
  refine g_callVI (L := [some (.ref 0), some (.int l1), none, none]) cd305_1395 rfl rfl rfl rfl rfl (OH.o hH) (t_Hol_book (by omega) hH k1) ?_
  refine g_aload_n cd305_1398 rfl rfl ?_
  refine g_arg cd305_1399 cd305_1400 cd305_1402 cd305_1403 cd305_1404 rfl rfl hS h1 ((hx1 _).trans e1.symm) ?_
  refine g_callVI (L := [some (.ref 204), some (.int l1), none, none]) cd305_1405 rfl rfl rfl rfl rfl (OM.o hM) (t_Mod_book (by omega) hM k2) ?_
  exact g_icmp_eq cd305_1408 rfl (fun _ => g) (fun h => absurd rfl h)
theorem turn_told (hT : Tn L xs S P I J ln sp sn ss) (hi : Ix L i) (hK : Kn L xs B i c) : Fn B 1413 i (c, S, I, J, P) := by
  obtain ⟨hH, hM, hv, hS, hO, hx⟩ := hT
  obtain ⟨h1, h2, h3, h4, h5⟩ := hi
  obtain ⟨l1, e1⟩ : ∃ l, l = xs (i + 1).toNatClampNeg := ⟨_, rfl⟩
  obtain ⟨v, k1, k2, w⟩ := two_told hv l1
  obtain ⟨μ', g, b⟩ := hK c S (up2 I 204 0 0) J P ln sp sn ss ⟨hH, hM, w, hS, hO, fun j => (q_hi oFF_225).trans (hx j)⟩ (Nat.le_refl _) (by omega) (by omega)
  refine ⟨μ', ?_, b⟩
  refine g_aload_n cd305_1413 rfl rfl ?_
  refine g_arg cd305_1414 cd305_1415 cd305_1417 cd305_1418 cd305_1419 rfl rfl hS h1 ((hx _).trans e1.symm) ?_
  refine g_callVI (L := [some (.ref 0), some (.int l1)]) cd305_1420 rfl rfl rfl rfl rfl (OH.o hH) (t_Hol_told (by omega) hH k1) ?_
  refine g_aload_n cd305_1423 rfl rfl ?_
  refine g_arg cd305_1424 cd305_1425 cd305_1427 cd305_1428 cd305_1429 rfl rfl hS h1 ((hx _).trans e1.symm) ?_
  refine g_callVI (L := [some (.ref 204), some (.int l1)]) cd305_1430 rfl rfl rfl rfl rfl (OM.o hM) (t_Mod_told (by omega) hM k2) ?_
  exact g_icmp_eq cd305_1433 rfl (fun _ => g) (fun h => absurd rfl h)
theorem turn_sentence (hT : Tn L xs S P I J ln sp sn ss) (hi : Ix L i) (hK : Kn L xs B i c) : Fn B 1438 i (c, S, I, J, P) := by
  obtain ⟨hH, hM, hv, hS, hO, hx⟩ := hT
  obtain ⟨h1, h2, h3, h4, h5⟩ := hi
  obtain ⟨v, g, I1, J1, I2, J2, k1, k2, w1, w2, f1, f2⟩ := two_sentence hv
  have hx1 : ∀ j, I1 oFF j = xs j := fun j => (f1 _ j oFF_204).trans (hx j)
  have hl := hv.l6
  have hM1 : OM S (if g = true then swS P sn ss else P) := by
    cases g
    · exact hM
    · refine hM.of2 (fun _ _ => rfl) (fun k => ?_)
      show up2 (up2 P 0 5 (some ss)) 0 6 (some sn) 204 k = P 204 k
      rw [up2_ff (by omega), up2_ff (by omega)]
  have hE : Fn B 1551 i (c, S, I2, J2, (if g = true then swS P sn ss else P)) := by
    cases g with
    | false => exact hK c S I2 J2 P ln sp sn ss ⟨hH, hM, w2 rfl, hS, hO, fun j => (f2 _ j oFF_225).trans (hx j)⟩ (Nat.le_refl _) (by omega) (by omega)
    | true => exact hK c S I2 J2 (swS P sn ss) ln sp ss sn ⟨OH.chS hH (by omega) (by omega) (by omega) (by omega), hM1, w1 rfl, hS, hO, fun j => (f2 _ j oFF_225).trans (hx j)⟩ (Nat.le_refl _) (by omega) (by omega)
  obtain ⟨μ', g0, b⟩ := hE
  refine ⟨μ', ?_, b⟩
  refine g_aload_n cd305_1438 rfl rfl ?_
  refine g_callVI (L := [some (.ref 0), none, none]) cd305_1439 rfl rfl rfl rfl rfl (OH.o hH) (t_Hol_sentence (by omega) hH (by omega) (by omega) (by omega) (by omega) k1) ?_
  refine g_aload_n cd305_1442 rfl rfl ?_
  refine g_callVI (L := [some (.ref 204), none]) cd305_1443 rfl rfl rfl rfl rfl (OM.o hM1) (t_Mod_sentence (by omega) hM1 k2) ?_
  exact g_icmp_eq cd305_1446 rfl (fun _ => g0) (fun h => absurd rfl h)
theorem turn_said (hT : Tn L xs S P I J ln sp sn ss) (hi : Ix L i) (hK : Kn L xs B i c) : Fn B 1451 i (c, S, I, J, P) := by
  obtain ⟨hH, hM, hv, hS, hO, hx⟩ := hT
  obtain ⟨h1, h2, h3, h4, h5⟩ := hi
  obtain ⟨l1, e1⟩ : ∃ l, l = xs (i + 1).toNatClampNeg := ⟨_, rfl⟩
  obtain ⟨v, I1, k1, k2, w, f1, f2⟩ := two_said hv l1
  have hx1 : ∀ j, I1 oFF j = xs j := fun j => (f1 _ j oFF_204).trans (hx j)
  obtain ⟨μ', g, b⟩ := hK c S (up2 I1 204 0 0) J P ln sp sn ss ⟨hH, hM, w, hS, hO, fun j => (f2 _ j oFF_225).trans (hx j)⟩ (Nat.le_refl _) (by omega) (by omega)
  refine ⟨μ', ?_, b⟩
  refine g_aload_n cd305_1451 rfl rfl ?_
  refine g_arg cd305_1452 cd305_1453 cd305_1455 cd305_1456 cd305_1457 rfl rfl hS h1 ((hx _).trans e1.symm) ?_
  refine g_callVI (L := [some (.ref 0), some (.int l1), none, none, none]) cd305_1458 rfl rfl rfl rfl rfl (OH.o hH) (t_Hol_said (by omega) hH k1) ?_
  refine g_aload_n cd305_1461 rfl rfl ?_
  refine g_arg cd305_1462 cd305_1463 cd305_1465 cd305_1466 cd305_1467 rfl rfl hS h1 ((hx1 _).trans e1.symm) ?_
  refine g_callVI (L := [some (.ref 204), some (.int l1), none, none]) cd305_1468 rfl rfl rfl rfl rfl (OM.o hM) (t_Mod_said (by omega) hM k2) ?_
  exact g_icmp_eq cd305_1471 rfl (fun _ => g) (fun h => absurd rfl h)
theorem turn_image (hT : Tn L xs S P I J ln sp sn ss) (hi : Ix L i) (hK : Kn L xs B i c) : Fn B 1476 i (c, S, I, J, P) := by
  obtain ⟨hH, hM, hv, hS, hO, hx⟩ := hT
  obtain ⟨h1, h2, h3, h4, h5⟩ := hi
  obtain ⟨l1, e1⟩ : ∃ l, l = xs (i + 1).toNatClampNeg := ⟨_, rfl⟩
  obtain ⟨v, I1, J1, I2, J2, k1, k2, w, f1, f2⟩ := two_image hv l1
  have hx1 : ∀ j, I1 oFF j = xs j := fun j => (f1 _ j oFF_204).trans (hx j)
  obtain ⟨μ', g, b⟩ := hK c S (I2) J2 P ln sp sn ss ⟨hH, hM, w, hS, hO, fun j => (f2 _ j oFF_225).trans (hx j)⟩ (Nat.le_refl _) (by omega) (by omega)
  refine ⟨μ', ?_, b⟩
  refine g_aload_n cd305_1476 rfl rfl ?_
  refine g_arg cd305_1477 cd305_1478 cd305_1480 cd305_1481 cd305_1482 rfl rfl hS h1 ((hx _).trans e1.symm) ?_
  refine g_callVZ (L := [some (.ref 0), some (.int l1), none]) cd305_1483 rfl rfl rfl rfl rfl (OH.o hH) (t_Hol_image (by omega) hH k1) ?_
  refine g_aload_n cd305_1486 rfl rfl ?_
  refine g_arg cd305_1487 cd305_1488 cd305_1490 cd305_1491 cd305_1492 rfl rfl hS h1 ((hx1 _).trans e1.symm) ?_
  refine g_callVZ (L := [some (.ref 204), some (.int l1), none]) cd305_1493 rfl rfl rfl rfl rfl (OM.o hM) (t_Mod_image (by omega) hM k2) ?_
  exact g_icmp_eq cd305_1496 rfl (fun _ => g) (fun h => absurd rfl h)
theorem turn_restore (hT : Tn L xs S P I J ln sp sn ss) (hi : Ix L i) (hK : Kn L xs B i c) : Fn B 1501 i (c, S, I, J, P) := by
  obtain ⟨hH, hM, hv, hS, hO, hx⟩ := hT
  obtain ⟨h1, h2, h3, h4, h5⟩ := hi
  obtain ⟨l1, e1⟩ : ∃ l, l = xs (i + 1).toNatClampNeg := ⟨_, rfl⟩
  obtain ⟨v, I1, J1, I2, J2, k1, k2, w, f1, f2⟩ := two_restore hv l1
  have hx1 : ∀ j, I1 oFF j = xs j := fun j => (f1 _ j oFF_204).trans (hx j)
  obtain ⟨μ', g, b⟩ := hK c S (I2) J2 P ln sp sn ss ⟨hH, hM, w, hS, hO, fun j => (f2 _ j oFF_225).trans (hx j)⟩ (Nat.le_refl _) (by omega) (by omega)
  refine ⟨μ', ?_, b⟩
  refine g_aload_n cd305_1501 rfl rfl ?_
  refine g_arg cd305_1502 cd305_1503 cd305_1505 cd305_1506 cd305_1507 rfl rfl hS h1 ((hx _).trans e1.symm) ?_
  refine g_callVZ (L := [some (.ref 0), some (.int l1), none]) cd305_1508 rfl rfl rfl rfl rfl (OH.o hH) (t_Hol_restore (by omega) hH k1) ?_
  refine g_aload_n cd305_1511 rfl rfl ?_
  refine g_arg cd305_1512 cd305_1513 cd305_1515 cd305_1516 cd305_1517 rfl rfl hS h1 ((hx1 _).trans e1.symm) ?_
  refine g_callVZ (L := [some (.ref 204), some (.int l1), none]) cd305_1518 rfl rfl rfl rfl rfl (OM.o hM) (t_Mod_restore (by omega) hM k2) ?_
  exact g_icmp_eq cd305_1521 rfl (fun _ => g) (fun h => absurd rfl h)
theorem turn_count (hT : Tn L xs S P I J ln sp sn ss) (hi : Ix L i) (hK : Kn L xs B i c) : Fn B 1526 i (c, S, I, J, P) := by
  obtain ⟨hH, hM, hv, hS, hO, hx⟩ := hT
  obtain ⟨h1, h2, h3, h4, h5⟩ := hi
  obtain ⟨l1, e1⟩ : ∃ l, l = xs (i + 1).toNatClampNeg := ⟨_, rfl⟩
  obtain ⟨v, k1, k2, w⟩ := two_count hv l1
  obtain ⟨μ', g, b⟩ := hK c S (up2 I 204 0 0) J P ln sp sn ss ⟨hH, hM, w, hS, hO, fun j => (q_hi oFF_225).trans (hx j)⟩ (Nat.le_refl _) (by omega) (by omega)
  refine ⟨μ', ?_, b⟩
  refine g_aload_n cd305_1526 rfl rfl ?_
  refine g_arg cd305_1527 cd305_1528 cd305_1530 cd305_1531 cd305_1532 rfl rfl hS h1 ((hx _).trans e1.symm) ?_
  refine g_callVI (L := [some (.ref 0), some (.int l1)]) cd305_1533 rfl rfl rfl rfl rfl (OH.o hH) (t_Hol_count (by omega) hH k1) ?_
  refine g_aload_n cd305_1536 rfl rfl ?_
  refine g_arg cd305_1537 cd305_1538 cd305_1540 cd305_1541 cd305_1542 rfl rfl hS h1 ((hx _).trans e1.symm) ?_
  refine g_callVI (L := [some (.ref 204), some (.int l1)]) cd305_1543 rfl rfl rfl rfl rfl (OM.o hM) (t_Mod_count (by omega) hM k2) ?_
  exact g_icmp_eq cd305_1546 rfl (fun _ => g) (fun h => absurd rfl h)
theorem turn_find (hT : Tn L xs S P I J ln sp sn ss) (hi : Ix L i) (hc : 226 ≤ c.1 ∧ c.1 < oFF) (hK : Kn L xs B i c) : Fn B 348 i (c, S, I, J, P) := by
  have hT0 := hT
  obtain ⟨hH, hM, hv, hS, hO, hx⟩ := hT
  obtain ⟨h1, h2, h3, h4, h5⟩ := hi
  obtain ⟨l1, e1⟩ : ∃ l, l = xs (i + 1).toNatClampNeg := ⟨_, rfl⟩
  obtain ⟨l2, e2⟩ : ∃ l, l = xs (i + 2).toNatClampNeg := ⟨_, rfl⟩
  rcases two_find hv l1 l2 with ⟨v, k1, k2⟩ | ⟨k1, k2⟩
  · obtain ⟨k3, w⟩ := k2 I (up2 J 225 0 v.toInt64) (fun _ _ _ => rfl) (fun x j hx => up2_ff (by omega))
    obtain ⟨μ', g, b⟩ := hK c S (up2 I 204 0 0) (up2 J 225 0 v.toInt64) P ln sp sn ss ⟨hH, hM, w, hS, hO, fun j => (q_hi oFF_225).trans (hx j)⟩ (Nat.le_refl _) (by omega) (by omega)
    refine ⟨μ', ?_, b⟩
    refine g_aload_n cd305_348 rfl rfl ?_
    refine g_arg cd305_349 cd305_350 cd305_352 cd305_353 cd305_354 rfl rfl hS h1 ((hx _).trans e1.symm) ?_
    refine g_arg cd305_355 cd305_356 cd305_358 cd305_359 cd305_360 rfl rfl hS h2 ((hx _).trans e2.symm) ?_
    refine g_aload_n cd305_361 rfl rfl ?_
    refine g_callSI (L := [some (.ref 0), some (.int l1), some (.int l2), some (.ref 225), none]) cd305_362 rfl rfl rfl rfl rfl (h_find_ok (N := 2000) (by omega) hc.2 hH hO k1) ?_
    refine g_istore (ls2 := [some (.ref oFF), some (.ref 0), some (.ref 204), some (.ref 225), some (.int i), some (.int 0), none, none]) cd305_365 rfl rfl ?_
    refine g_aload_n cd305_367 rfl rfl ?_
    refine g_arg cd305_368 cd305_369 cd305_371 cd305_372 cd305_373 rfl rfl hS h1 ((hx _).trans e1.symm) ?_
    refine g_arg cd305_374 cd305_375 cd305_377 cd305_378 cd305_379 rfl rfl hS h2 ((hx _).trans e2.symm) ?_
    refine g_callVI (L := [some (.ref 204), some (.int l1), some (.int l2)]) cd305_380 rfl rfl rfl rfl rfl (OM.o hM) (t_Mod_find (by omega) hM k3) ?_
    refine g_istore (ls2 := [some (.ref oFF), some (.ref 0), some (.ref 204), some (.ref 225), some (.int i), some (.int 0), some (.int v), none]) cd305_383 rfl rfl ?_
    refine g_aload_n cd305_385 rfl rfl ?_
    refine g_callVI (L := [some (.ref 204)]) cd305_386 rfl rfl rfl rfl rfl (OM.o hM) (t_Mod_thrown (by omega) hM (r := 0) thr_s) ?_
    refine g_iload cd305_389 rfl rfl ?_
    refine g_icmp_eq cd305_391 rfl (fun _ => ?_) (fun h => absurd rfl h)
    refine g_iload cd305_396 rfl rfl ?_
    refine g_if_ne cd305_398 rfl (fun _ => ?_) (fun h => absurd rfl h)
    refine g_aload_n cd305_401 rfl rfl ?_
    refine g_iconst cd305_402 rfl ?_
    refine g_lald cd305_403 rfl (by rw [hO]; exact ⟨rfl, by decide⟩) ?_
    refine g_iload cd305_404 rfl rfl ?_
    refine g_i2l cd305_406 rfl ?_
    refine g_lcmp cd305_407 rfl ?_
    refine g_if_eq cd305_408 rfl (fun _ => ?_) (fun h => absurd (show lg_cmp (up2 J 225 0 v.toInt64 225 (0 : Int32).toNatClampNeg) v.toInt64 = 0 by rw [show (0 : Int32).toNatClampNeg = 0 from rfl, u_s, lg_self]) h)
    exact g_goto cd305_413 rfl rfl g
  · obtain ⟨k3, w⟩ := k2 (z2 I c.1 0) (z2 J c.1 0) (fun x j hx => z2_lo (by omega)) (fun x j hx => z2_lo (by omega))
    have hx1 : ∀ j, z2 I c.1 0 oFF j = xs j := fun j => (z2_lo (by omega)).trans (hx j)
    have hT1 : Tn L xs (fun b => if b = c.1 then (9, 0) else S b) (z2 P c.1 none) (up2 (up2 (z2 I c.1 0) 204 0 0) 204 0 1) (z2 J c.1 0) ln sp sn ss := hT0.new hc w (fun j => (q_hi oFF_225).trans ((q_hi oFF_225).trans (hx1 j)))
    have hM1 := hT1.2.1
    have hS1 := hT1.2.2.2.1
    obtain ⟨μ', g, b⟩ := hK (c.1 + 1, c.2 + 6) _ _ _ _ ln sp sn ss hT1 (Nat.le_succ _) (Nat.le_refl _) (Nat.le_refl _)
    refine ⟨μ', ?_, b⟩
    refine g_aload_n cd305_348 rfl rfl ?_
    refine g_arg cd305_349 cd305_350 cd305_352 cd305_353 cd305_354 rfl rfl hS h1 ((hx _).trans e1.symm) ?_
    refine g_arg cd305_355 cd305_356 cd305_358 cd305_359 cd305_360 rfl rfl hS h2 ((hx _).trans e2.symm) ?_
    refine g_aload_n cd305_361 rfl rfl ?_
    refine g_callSI (L := [some (.ref 0), some (.int l1), some (.int l2), some (.ref 225), none]) cd305_362 rfl rfl rfl rfl rfl (h_find_no (N := 2000) (by omega) hc.2 hH k1) ?_
    refine g_istore (ls2 := [some (.ref oFF), some (.ref 0), some (.ref 204), some (.ref 225), some (.int i), some (.int 1), none, none]) cd305_365 rfl rfl ?_
    refine g_aload_n cd305_367 rfl rfl ?_
    refine g_arg cd305_368 cd305_369 cd305_371 cd305_372 cd305_373 rfl rfl hS1 h1 ((hx1 _).trans e1.symm) ?_
    refine g_arg cd305_374 cd305_375 cd305_377 cd305_378 cd305_379 rfl rfl hS1 h2 ((hx1 _).trans e2.symm) ?_
    refine g_callVI (L := [some (.ref 204), some (.int l1), some (.int l2)]) cd305_380 rfl rfl rfl rfl rfl (OM.o hM1) (t_Mod_find (by omega) hM1 k3) ?_
    refine g_istore (ls2 := [some (.ref oFF), some (.ref 0), some (.ref 204), some (.ref 225), some (.int i), some (.int 1), some (.int 0), none]) cd305_383 rfl rfl ?_
    refine g_aload_n cd305_385 rfl rfl ?_
    refine g_callVI (L := [some (.ref 204)]) cd305_386 rfl rfl rfl rfl rfl (OM.o hM1) (t_Mod_thrown (by omega) hM1 (r := 1) thr_s) ?_
    refine g_iload cd305_389 rfl rfl ?_
    refine g_icmp_eq cd305_391 rfl (fun _ => ?_) (fun h => absurd rfl h)
    refine g_iload cd305_396 rfl rfl ?_
    refine g_if_ne cd305_398 rfl (fun h => absurd h (by decide)) (fun _ => ?_)
    exact g_goto cd305_413 rfl rfl g
theorem turn_belief (hT : Tn L xs S P I J ln sp sn ss) (hi : Ix L i) (hc : 226 ≤ c.1 ∧ c.1 < oFF) (hK : Kn L xs B i c) : Fn B 787 i (c, S, I, J, P) := by
  have hT0 := hT
  obtain ⟨hH, hM, hv, hS, hO, hx⟩ := hT
  obtain ⟨h1, h2, h3, h4, h5⟩ := hi
  obtain ⟨l1, e1⟩ : ∃ l, l = xs (i + 1).toNatClampNeg := ⟨_, rfl⟩
  obtain ⟨l2, e2⟩ : ∃ l, l = xs (i + 2).toNatClampNeg := ⟨_, rfl⟩
  rcases two_belief hv l1 l2 with ⟨v, J1, k1, m1, k2⟩ | ⟨k1, k2⟩
  · obtain ⟨J3, k3, w, m3⟩ := k2 I (up2 J1 225 0 v) (fun _ _ _ => rfl) (fun x j hx => up2_ff (by omega))
    obtain ⟨μ', g, b⟩ := hK c S (up2 I 204 0 0) J3 P ln sp sn ss ⟨hH, hM, w, hS, hO, fun j => (q_hi oFF_225).trans (hx j)⟩ (Nat.le_refl _) (by omega) (by omega)
    refine ⟨μ', ?_, b⟩
    refine g_aload_n cd305_787 rfl rfl ?_
    refine g_arg cd305_788 cd305_789 cd305_791 cd305_792 cd305_793 rfl rfl hS h1 ((hx _).trans e1.symm) ?_
    refine g_arg cd305_794 cd305_795 cd305_797 cd305_798 cd305_799 rfl rfl hS h2 ((hx _).trans e2.symm) ?_
    refine g_aload_n cd305_800 rfl rfl ?_
    refine g_callSI (L := [some (.ref 0), some (.int l1), some (.int l2), some (.ref 225), none]) cd305_801 rfl rfl rfl rfl rfl (h_belief_ok (by omega) hc.2 hH hO k1) ?_
    refine g_istore (ls2 := [some (.ref oFF), some (.ref 0), some (.ref 204), some (.ref 225), some (.int i), some (.int 0), none, none]) cd305_804 rfl rfl ?_
    refine g_aload_n cd305_806 rfl rfl ?_
    refine g_arg cd305_807 cd305_808 cd305_810 cd305_811 cd305_812 rfl rfl hS h1 ((hx _).trans e1.symm) ?_
    refine g_arg cd305_813 cd305_814 cd305_816 cd305_817 cd305_818 rfl rfl hS h2 ((hx _).trans e2.symm) ?_
    refine g_callVJ (L := [some (.ref 204), some (.int l1), some (.int l2)]) cd305_819 rfl rfl rfl rfl rfl (OM.o hM) (t_Mod_belief (by omega) hM k3) ?_
    refine g_lstore (ls2 := [some (.ref oFF), some (.ref 0), some (.ref 204), some (.ref 225), some (.int i), some (.int 0), some (.long v), none]) cd305_822 rfl rfl ?_
    refine g_aload_n cd305_824 rfl rfl ?_
    refine g_callVI (L := [some (.ref 204)]) cd305_825 rfl rfl rfl rfl rfl (OM.o hM) (t_Mod_thrown (by omega) hM (r := 0) thr_s) ?_
    refine g_iload cd305_828 rfl rfl ?_
    refine g_icmp_eq cd305_830 rfl (fun _ => ?_) (fun h => absurd rfl h)
    refine g_iload cd305_835 rfl rfl ?_
    refine g_if_ne cd305_837 rfl (fun _ => ?_) (fun h => absurd rfl h)
    refine g_aload_n cd305_840 rfl rfl ?_
    refine g_iconst cd305_841 rfl ?_
    refine g_lald cd305_842 rfl (by rw [hO]; exact ⟨rfl, by decide⟩) ?_
    refine g_lload cd305_843 rfl rfl ?_
    refine g_lcmp cd305_845 rfl ?_
    refine g_if_eq cd305_846 rfl (fun _ => ?_) (fun h => absurd (show lg_cmp (J3 225 (0 : Int32).toNatClampNeg) v = 0 by rw [show (0 : Int32).toNatClampNeg = 0 from rfl, m3 _ _ (by omega), u_s, lg_self]) h)
    exact g_goto cd305_851 rfl rfl g
  · obtain ⟨k3, w⟩ := k2 (z2 I c.1 0) (z2 J c.1 0) (fun x j hx => z2_lo (by omega)) (fun x j hx => z2_lo (by omega))
    have hx1 : ∀ j, z2 I c.1 0 oFF j = xs j := fun j => (z2_lo (by omega)).trans (hx j)
    have hT1 : Tn L xs (fun b => if b = c.1 then (9, 0) else S b) (z2 P c.1 none) (up2 (up2 (z2 I c.1 0) 204 0 0) 204 0 1) (z2 J c.1 0) ln sp sn ss := hT0.new hc w (fun j => (q_hi oFF_225).trans ((q_hi oFF_225).trans (hx1 j)))
    have hM1 := hT1.2.1
    have hS1 := hT1.2.2.2.1
    obtain ⟨μ', g, b⟩ := hK (c.1 + 1, c.2 + 6) _ _ _ _ ln sp sn ss hT1 (Nat.le_succ _) (Nat.le_refl _) (Nat.le_refl _)
    refine ⟨μ', ?_, b⟩
    refine g_aload_n cd305_787 rfl rfl ?_
    refine g_arg cd305_788 cd305_789 cd305_791 cd305_792 cd305_793 rfl rfl hS h1 ((hx _).trans e1.symm) ?_
    refine g_arg cd305_794 cd305_795 cd305_797 cd305_798 cd305_799 rfl rfl hS h2 ((hx _).trans e2.symm) ?_
    refine g_aload_n cd305_800 rfl rfl ?_
    refine g_callSI (L := [some (.ref 0), some (.int l1), some (.int l2), some (.ref 225), none]) cd305_801 rfl rfl rfl rfl rfl (h_belief_no (N := 2000) (by omega) hc.2 hH k1) ?_
    refine g_istore (ls2 := [some (.ref oFF), some (.ref 0), some (.ref 204), some (.ref 225), some (.int i), some (.int 1), none, none]) cd305_804 rfl rfl ?_
    refine g_aload_n cd305_806 rfl rfl ?_
    refine g_arg cd305_807 cd305_808 cd305_810 cd305_811 cd305_812 rfl rfl hS1 h1 ((hx1 _).trans e1.symm) ?_
    refine g_arg cd305_813 cd305_814 cd305_816 cd305_817 cd305_818 rfl rfl hS1 h2 ((hx1 _).trans e2.symm) ?_
    refine g_callVJ (L := [some (.ref 204), some (.int l1), some (.int l2)]) cd305_819 rfl rfl rfl rfl rfl (OM.o hM1) (t_Mod_belief (by omega) hM1 k3) ?_
    refine g_lstore (ls2 := [some (.ref oFF), some (.ref 0), some (.ref 204), some (.ref 225), some (.int i), some (.int 1), some (.long 0), none]) cd305_822 rfl rfl ?_
    refine g_aload_n cd305_824 rfl rfl ?_
    refine g_callVI (L := [some (.ref 204)]) cd305_825 rfl rfl rfl rfl rfl (OM.o hM1) (t_Mod_thrown (by omega) hM1 (r := 1) thr_s) ?_
    refine g_iload cd305_828 rfl rfl ?_
    refine g_icmp_eq cd305_830 rfl (fun _ => ?_) (fun h => absurd rfl h)
    refine g_iload cd305_835 rfl rfl ?_
    refine g_if_ne cd305_837 rfl (fun h => absurd h (by decide)) (fun _ => ?_)
    exact g_goto cd305_851 rfl rfl g
theorem turn_sure (hT : Tn L xs S P I J ln sp sn ss) (hi : Ix L i) (hc : 226 ≤ c.1 ∧ c.1 < oFF) (hK : Kn L xs B i c) : Fn B 867 i (c, S, I, J, P) := by
  have hT0 := hT
  obtain ⟨hH, hM, hv, hS, hO, hx⟩ := hT
  obtain ⟨h1, h2, h3, h4, h5⟩ := hi
  obtain ⟨l1, e1⟩ : ∃ l, l = xs (i + 1).toNatClampNeg := ⟨_, rfl⟩
  obtain ⟨l2, e2⟩ : ∃ l, l = xs (i + 2).toNatClampNeg := ⟨_, rfl⟩
  rcases two_sure hv l1 l2 with ⟨v, J1, k1, m1, k2⟩ | ⟨k1, k2⟩
  · obtain ⟨J3, k3, w, m3⟩ := k2 I (up2 J1 225 0 v) (fun _ _ _ => rfl) (fun x j hx => up2_ff (by omega))
    obtain ⟨μ', g, b⟩ := hK c S (up2 I 204 0 0) J3 P ln sp sn ss ⟨hH, hM, w, hS, hO, fun j => (q_hi oFF_225).trans (hx j)⟩ (Nat.le_refl _) (by omega) (by omega)
    refine ⟨μ', ?_, b⟩
    refine g_aload_n cd305_867 rfl rfl ?_
    refine g_arg cd305_868 cd305_869 cd305_871 cd305_872 cd305_873 rfl rfl hS h1 ((hx _).trans e1.symm) ?_
    refine g_arg cd305_874 cd305_875 cd305_877 cd305_878 cd305_879 rfl rfl hS h2 ((hx _).trans e2.symm) ?_
    refine g_aload_n cd305_880 rfl rfl ?_
    refine g_callSI (L := [some (.ref 0), some (.int l1), some (.int l2), some (.ref 225), none]) cd305_881 rfl rfl rfl rfl rfl (h_sure_ok (by omega) hc.2 hH hO k1) ?_
    refine g_istore (ls2 := [some (.ref oFF), some (.ref 0), some (.ref 204), some (.ref 225), some (.int i), some (.int 0), none, none]) cd305_884 rfl rfl ?_
    refine g_aload_n cd305_886 rfl rfl ?_
    refine g_arg cd305_887 cd305_888 cd305_890 cd305_891 cd305_892 rfl rfl hS h1 ((hx _).trans e1.symm) ?_
    refine g_arg cd305_893 cd305_894 cd305_896 cd305_897 cd305_898 rfl rfl hS h2 ((hx _).trans e2.symm) ?_
    refine g_callVJ (L := [some (.ref 204), some (.int l1), some (.int l2)]) cd305_899 rfl rfl rfl rfl rfl (OM.o hM) (t_Mod_sure (by omega) hM k3) ?_
    refine g_lstore (ls2 := [some (.ref oFF), some (.ref 0), some (.ref 204), some (.ref 225), some (.int i), some (.int 0), some (.long v), none]) cd305_902 rfl rfl ?_
    refine g_aload_n cd305_904 rfl rfl ?_
    refine g_callVI (L := [some (.ref 204)]) cd305_905 rfl rfl rfl rfl rfl (OM.o hM) (t_Mod_thrown (by omega) hM (r := 0) thr_s) ?_
    refine g_iload cd305_908 rfl rfl ?_
    refine g_icmp_eq cd305_910 rfl (fun _ => ?_) (fun h => absurd rfl h)
    refine g_iload cd305_915 rfl rfl ?_
    refine g_if_ne cd305_917 rfl (fun _ => ?_) (fun h => absurd rfl h)
    refine g_aload_n cd305_920 rfl rfl ?_
    refine g_iconst cd305_921 rfl ?_
    refine g_lald cd305_922 rfl (by rw [hO]; exact ⟨rfl, by decide⟩) ?_
    refine g_lload cd305_923 rfl rfl ?_
    refine g_lcmp cd305_925 rfl ?_
    refine g_if_eq cd305_926 rfl (fun _ => ?_) (fun h => absurd (show lg_cmp (J3 225 (0 : Int32).toNatClampNeg) v = 0 by rw [show (0 : Int32).toNatClampNeg = 0 from rfl, m3 _ _ (by omega), u_s, lg_self]) h)
    exact g_goto cd305_931 rfl rfl g
  · obtain ⟨k3, w⟩ := k2 (z2 I c.1 0) (z2 J c.1 0) (fun x j hx => z2_lo (by omega)) (fun x j hx => z2_lo (by omega))
    have hx1 : ∀ j, z2 I c.1 0 oFF j = xs j := fun j => (z2_lo (by omega)).trans (hx j)
    have hT1 : Tn L xs (fun b => if b = c.1 then (9, 0) else S b) (z2 P c.1 none) (up2 (up2 (z2 I c.1 0) 204 0 0) 204 0 1) (z2 J c.1 0) ln sp sn ss := hT0.new hc w (fun j => (q_hi oFF_225).trans ((q_hi oFF_225).trans (hx1 j)))
    have hM1 := hT1.2.1
    have hS1 := hT1.2.2.2.1
    obtain ⟨μ', g, b⟩ := hK (c.1 + 1, c.2 + 6) _ _ _ _ ln sp sn ss hT1 (Nat.le_succ _) (Nat.le_refl _) (Nat.le_refl _)
    refine ⟨μ', ?_, b⟩
    refine g_aload_n cd305_867 rfl rfl ?_
    refine g_arg cd305_868 cd305_869 cd305_871 cd305_872 cd305_873 rfl rfl hS h1 ((hx _).trans e1.symm) ?_
    refine g_arg cd305_874 cd305_875 cd305_877 cd305_878 cd305_879 rfl rfl hS h2 ((hx _).trans e2.symm) ?_
    refine g_aload_n cd305_880 rfl rfl ?_
    refine g_callSI (L := [some (.ref 0), some (.int l1), some (.int l2), some (.ref 225), none]) cd305_881 rfl rfl rfl rfl rfl (h_sure_no (N := 2000) (by omega) hc.2 hH k1) ?_
    refine g_istore (ls2 := [some (.ref oFF), some (.ref 0), some (.ref 204), some (.ref 225), some (.int i), some (.int 1), none, none]) cd305_884 rfl rfl ?_
    refine g_aload_n cd305_886 rfl rfl ?_
    refine g_arg cd305_887 cd305_888 cd305_890 cd305_891 cd305_892 rfl rfl hS1 h1 ((hx1 _).trans e1.symm) ?_
    refine g_arg cd305_893 cd305_894 cd305_896 cd305_897 cd305_898 rfl rfl hS1 h2 ((hx1 _).trans e2.symm) ?_
    refine g_callVJ (L := [some (.ref 204), some (.int l1), some (.int l2)]) cd305_899 rfl rfl rfl rfl rfl (OM.o hM1) (t_Mod_sure (by omega) hM1 k3) ?_
    refine g_lstore (ls2 := [some (.ref oFF), some (.ref 0), some (.ref 204), some (.ref 225), some (.int i), some (.int 1), some (.long 0), none]) cd305_902 rfl rfl ?_
    refine g_aload_n cd305_904 rfl rfl ?_
    refine g_callVI (L := [some (.ref 204)]) cd305_905 rfl rfl rfl rfl rfl (OM.o hM1) (t_Mod_thrown (by omega) hM1 (r := 1) thr_s) ?_
    refine g_iload cd305_908 rfl rfl ?_
    refine g_icmp_eq cd305_910 rfl (fun _ => ?_) (fun h => absurd rfl h)
    refine g_iload cd305_915 rfl rfl ?_
    refine g_if_ne cd305_917 rfl (fun h => absurd h (by decide)) (fun _ => ?_)
    exact g_goto cd305_931 rfl rfl g
theorem turn_gains (hT : Tn L xs S P I J ln sp sn ss) (hi : Ix L i) (hc : 226 ≤ c.1 ∧ c.1 < oFF) (hK : Kn L xs B i c) : Fn B 947 i (c, S, I, J, P) := by
  have hT0 := hT
  obtain ⟨hH, hM, hv, hS, hO, hx⟩ := hT
  obtain ⟨h1, h2, h3, h4, h5⟩ := hi
  obtain ⟨l1, e1⟩ : ∃ l, l = xs (i + 1).toNatClampNeg := ⟨_, rfl⟩
  obtain ⟨l2, e2⟩ : ∃ l, l = xs (i + 2).toNatClampNeg := ⟨_, rfl⟩
  rcases two_gains hv l1 l2 with ⟨v, J1, k1, m1, k2⟩ | ⟨k1, k2⟩
  · obtain ⟨J3, k3, w, m3⟩ := k2 I (up2 J1 225 0 v) (fun _ _ _ => rfl) (fun x j hx => up2_ff (by omega))
    obtain ⟨μ', g, b⟩ := hK c S (up2 I 204 0 0) J3 P ln sp sn ss ⟨hH, hM, w, hS, hO, fun j => (q_hi oFF_225).trans (hx j)⟩ (Nat.le_refl _) (by omega) (by omega)
    refine ⟨μ', ?_, b⟩
    refine g_aload_n cd305_947 rfl rfl ?_
    refine g_arg cd305_948 cd305_949 cd305_951 cd305_952 cd305_953 rfl rfl hS h1 ((hx _).trans e1.symm) ?_
    refine g_arg cd305_954 cd305_955 cd305_957 cd305_958 cd305_959 rfl rfl hS h2 ((hx _).trans e2.symm) ?_
    refine g_aload_n cd305_960 rfl rfl ?_
    refine g_callSI (L := [some (.ref 0), some (.int l1), some (.int l2), some (.ref 225), none]) cd305_961 rfl rfl rfl rfl rfl (h_gains_ok (by omega) hc.2 hH hO k1) ?_
    refine g_istore (ls2 := [some (.ref oFF), some (.ref 0), some (.ref 204), some (.ref 225), some (.int i), some (.int 0), none, none]) cd305_964 rfl rfl ?_
    refine g_aload_n cd305_966 rfl rfl ?_
    refine g_arg cd305_967 cd305_968 cd305_970 cd305_971 cd305_972 rfl rfl hS h1 ((hx _).trans e1.symm) ?_
    refine g_arg cd305_973 cd305_974 cd305_976 cd305_977 cd305_978 rfl rfl hS h2 ((hx _).trans e2.symm) ?_
    refine g_callVJ (L := [some (.ref 204), some (.int l1), some (.int l2)]) cd305_979 rfl rfl rfl rfl rfl (OM.o hM) (t_Mod_gains (by omega) hM k3) ?_
    refine g_lstore (ls2 := [some (.ref oFF), some (.ref 0), some (.ref 204), some (.ref 225), some (.int i), some (.int 0), some (.long v), none]) cd305_982 rfl rfl ?_
    refine g_aload_n cd305_984 rfl rfl ?_
    refine g_callVI (L := [some (.ref 204)]) cd305_985 rfl rfl rfl rfl rfl (OM.o hM) (t_Mod_thrown (by omega) hM (r := 0) thr_s) ?_
    refine g_iload cd305_988 rfl rfl ?_
    refine g_icmp_eq cd305_990 rfl (fun _ => ?_) (fun h => absurd rfl h)
    refine g_iload cd305_995 rfl rfl ?_
    refine g_if_ne cd305_997 rfl (fun _ => ?_) (fun h => absurd rfl h)
    refine g_aload_n cd305_1000 rfl rfl ?_
    refine g_iconst cd305_1001 rfl ?_
    refine g_lald cd305_1002 rfl (by rw [hO]; exact ⟨rfl, by decide⟩) ?_
    refine g_lload cd305_1003 rfl rfl ?_
    refine g_lcmp cd305_1005 rfl ?_
    refine g_if_eq cd305_1006 rfl (fun _ => ?_) (fun h => absurd (show lg_cmp (J3 225 (0 : Int32).toNatClampNeg) v = 0 by rw [show (0 : Int32).toNatClampNeg = 0 from rfl, m3 _ _ (by omega), u_s, lg_self]) h)
    exact g_goto cd305_1011 rfl rfl g
  · obtain ⟨k3, w⟩ := k2 (z2 I c.1 0) (z2 J c.1 0) (fun x j hx => z2_lo (by omega)) (fun x j hx => z2_lo (by omega))
    have hx1 : ∀ j, z2 I c.1 0 oFF j = xs j := fun j => (z2_lo (by omega)).trans (hx j)
    have hT1 : Tn L xs (fun b => if b = c.1 then (9, 0) else S b) (z2 P c.1 none) (up2 (up2 (z2 I c.1 0) 204 0 0) 204 0 1) (z2 J c.1 0) ln sp sn ss := hT0.new hc w (fun j => (q_hi oFF_225).trans ((q_hi oFF_225).trans (hx1 j)))
    have hM1 := hT1.2.1
    have hS1 := hT1.2.2.2.1
    obtain ⟨μ', g, b⟩ := hK (c.1 + 1, c.2 + 6) _ _ _ _ ln sp sn ss hT1 (Nat.le_succ _) (Nat.le_refl _) (Nat.le_refl _)
    refine ⟨μ', ?_, b⟩
    refine g_aload_n cd305_947 rfl rfl ?_
    refine g_arg cd305_948 cd305_949 cd305_951 cd305_952 cd305_953 rfl rfl hS h1 ((hx _).trans e1.symm) ?_
    refine g_arg cd305_954 cd305_955 cd305_957 cd305_958 cd305_959 rfl rfl hS h2 ((hx _).trans e2.symm) ?_
    refine g_aload_n cd305_960 rfl rfl ?_
    refine g_callSI (L := [some (.ref 0), some (.int l1), some (.int l2), some (.ref 225), none]) cd305_961 rfl rfl rfl rfl rfl (h_gains_no (N := 2000) (by omega) hc.2 hH k1) ?_
    refine g_istore (ls2 := [some (.ref oFF), some (.ref 0), some (.ref 204), some (.ref 225), some (.int i), some (.int 1), none, none]) cd305_964 rfl rfl ?_
    refine g_aload_n cd305_966 rfl rfl ?_
    refine g_arg cd305_967 cd305_968 cd305_970 cd305_971 cd305_972 rfl rfl hS1 h1 ((hx1 _).trans e1.symm) ?_
    refine g_arg cd305_973 cd305_974 cd305_976 cd305_977 cd305_978 rfl rfl hS1 h2 ((hx1 _).trans e2.symm) ?_
    refine g_callVJ (L := [some (.ref 204), some (.int l1), some (.int l2)]) cd305_979 rfl rfl rfl rfl rfl (OM.o hM1) (t_Mod_gains (by omega) hM1 k3) ?_
    refine g_lstore (ls2 := [some (.ref oFF), some (.ref 0), some (.ref 204), some (.ref 225), some (.int i), some (.int 1), some (.long 0), none]) cd305_982 rfl rfl ?_
    refine g_aload_n cd305_984 rfl rfl ?_
    refine g_callVI (L := [some (.ref 204)]) cd305_985 rfl rfl rfl rfl rfl (OM.o hM1) (t_Mod_thrown (by omega) hM1 (r := 1) thr_s) ?_
    refine g_iload cd305_988 rfl rfl ?_
    refine g_icmp_eq cd305_990 rfl (fun _ => ?_) (fun h => absurd rfl h)
    refine g_iload cd305_995 rfl rfl ?_
    refine g_if_ne cd305_997 rfl (fun h => absurd h (by decide)) (fun _ => ?_)
    exact g_goto cd305_1011 rfl rfl g
end TURN

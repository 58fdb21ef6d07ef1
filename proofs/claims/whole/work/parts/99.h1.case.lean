/-! THE LAW'S CASES, group 1 -/
section LWK1
variable {p : Program} {l : Launch} {e : Env} {s : State} {m : MethodId} {below : List Frame} {meth : Method} {c : Code} {H : Heap} {locs : List Loc} {cells slots : Nat} {Q : State → Prop}
variable {ls : Array Slot} {b L i : Nat} {xs : Nat → Int32} {D : va_G} {cs : Nat → ClassId} {cO : ClassId} {adx adm adK adV : Nat → Nat} {o sa : Nat} {X M : ha_St} {f : Nat → Int64}
theorem lw_k7 (F : lwF p s m meth c b L xs D cs cO adx adm adK adV o sa) (G : lwM s D cs cO adx adm o X M f H locs) (hI : Inv X M) (hL : L ≤ 3072) (hi : i + 6 ≤ L) (hsz : ls.size = 8) (h0 : ls[0]? = some (.val (.ref b))) (h1 : ls[1]? = some (.val (.ref (adx 0)))) (h2 : ls[2]? = some (.val (.ref (adm 0)))) (h4 : ls[4]? = some (.val (.int (nI i)))) (hr : cells ≤ 601024 ∧ slots ≤ 7293034)
    (kk : ∀ (X1 M1 : ha_St) (H1 : Heap) (locs1 : List Loc), Inv X1 M1 → lwM s D cs cO adx adm o X1 M1 f H1 locs1 → W p l e room_1 s m #[Value.ref b] below meth c H1 locs1 cells slots Q (F0 m 1006 ls [])) : W p l e room_1 s m #[Value.ref b] below meth c H locs cells slots Q (F0 m 367 ls []) := by
  obtain ⟨⟨z1, X1⟩, ⟨z2, M1⟩, hx, hm, hz, hI1⟩ := e_fog hI (xs (i + 1)) (xs (i + 2)) (xs (i + 3))
  have hz : z1 = z2 := hz
  subst hz
  refine lv_aload_n F.ex F.hb dL_law_367 rfl h1 ?_
  refine lw_arg F G.S hL h0 h4 (k := 1) (by omega) (by decide) dL_law_368 dL_law_369 dL_law_371 dL_law_372 dL_law_373 ?_
  refine lw_arg F G.S hL h0 h4 (k := 2) (by omega) (by decide) dL_law_374 dL_law_375 dL_law_377 dL_law_378 dL_law_379 ?_
  refine lw_arg F G.S hL h0 h4 (k := 3) (by omega) (by decide) dL_law_380 dL_law_381 dL_law_383 dL_law_384 dL_law_385 ?_
  refine lw_callX (As := [.int (xs (i + 1)), .int (xs (i + 2)), .int (xs (i + 3))]) (rest := []) (z := z1) (X1 := X1) F G (c_X11_fog (p0 := 0) (out := (z1, X1)) xo_Zok xo_hN (fun U h => h) rfl hx) (cwV (R := room_1) 3 F.ts gL_law_X11_fog (rm := ({ frames := 1, cells := 0, slots := 0, locals := 24 } : Room)) (mc := 0) (ms := 0) rfl rfl rfl (by decide +kernel) ⟨Nat.le_of_ble_eq_true rfl, Nat.le_of_ble_eq_true rfl⟩) rfl hsz rfl (Nat.le_of_ble_eq_true rfl) dL_law_386 hr (fun H1 locs1 G1 => ?_)
  refine lv_aload_n F.ex F.hb dL_law_389 rfl h2 ?_
  refine lw_arg F G1.S hL h0 h4 (k := 1) (by omega) (by decide) dL_law_390 dL_law_391 dL_law_393 dL_law_394 dL_law_395 ?_
  refine lw_arg F G1.S hL h0 h4 (k := 2) (by omega) (by decide) dL_law_396 dL_law_397 dL_law_399 dL_law_400 dL_law_401 ?_
  refine lw_arg F G1.S hL h0 h4 (k := 3) (by omega) (by decide) dL_law_402 dL_law_403 dL_law_405 dL_law_406 dL_law_407 ?_
  refine lw_callM (As := [.int (xs (i + 1)), .int (xs (i + 2)), .int (xs (i + 3))]) (rest := [.int z1]) (z := z1) (M1 := M1) F G1 (c_X12_fog (p0 := 0) (out := (z1, M1)) tr_Zok mo_hN rfl hm) (cwV (R := room_1) 3 F.ts gL_law_X12_fog (rm := ({ frames := 1, cells := 0, slots := 0, locals := 22 } : Room)) (mc := 0) (ms := 0) rfl rfl rfl (by decide +kernel) ⟨Nat.le_of_ble_eq_true rfl, Nat.le_of_ble_eq_true rfl⟩) rfl hsz rfl (Nat.le_of_ble_eq_true rfl) dL_law_408 hr (fun H2 locs2 G2 => ?_)
  exact lv_icmp_eq (tgt := 1006) F.ex F.hb dL_law_411 (by decide) (fun _ => kk X1 M1 H2 locs2 hI1 G2) (fun h => absurd rfl h)
theorem lw_k8 (F : lwF p s m meth c b L xs D cs cO adx adm adK adV o sa) (G : lwM s D cs cO adx adm o X M f H locs) (hI : Inv X M) (hL : L ≤ 3072) (hi : i + 6 ≤ L) (hsz : ls.size = 8) (h0 : ls[0]? = some (.val (.ref b))) (h1 : ls[1]? = some (.val (.ref (adx 0)))) (h2 : ls[2]? = some (.val (.ref (adm 0)))) (h4 : ls[4]? = some (.val (.int (nI i)))) (hr : cells ≤ 601024 ∧ slots ≤ 7293034)
    (kk : ∀ (X1 M1 : ha_St) (H1 : Heap) (locs1 : List Loc), Inv X1 M1 → lwM s D cs cO adx adm o X1 M1 f H1 locs1 → W p l e room_1 s m #[Value.ref b] below meth c H1 locs1 cells slots Q (F0 m 1006 ls [])) : W p l e room_1 s m #[Value.ref b] below meth c H locs cells slots Q (F0 m 416 ls []) := by
  obtain ⟨⟨z1, X1⟩, ⟨z2, M1⟩, hx, hm, hz, hI1⟩ := e_play hI (xs (i + 1))
  have hz : z1 = z2 := hz
  subst hz
  refine lv_aload_n F.ex F.hb dL_law_416 rfl h1 ?_
  refine lw_arg F G.S hL h0 h4 (k := 1) (by omega) (by decide) dL_law_417 dL_law_418 dL_law_420 dL_law_421 dL_law_422 ?_
  refine lw_callX (As := [.int (xs (i + 1))]) (rest := []) (z := z1) (X1 := X1) F G (c_X11_play (p0 := 0) (out := (z1, X1)) xo_Zok xo_hN (fun U h => h) rfl hx) (cwV (R := room_1) 1 F.ts gL_law_X11_play (rm := ({ frames := 4, cells := 0, slots := 0, locals := 105 } : Room)) (mc := 0) (ms := 0) rfl rfl rfl (by decide +kernel) ⟨Nat.le_of_ble_eq_true rfl, Nat.le_of_ble_eq_true rfl⟩) rfl hsz rfl (Nat.le_of_ble_eq_true rfl) dL_law_423 hr (fun H1 locs1 G1 => ?_)
  refine lv_aload_n F.ex F.hb dL_law_426 rfl h2 ?_
  refine lw_arg F G1.S hL h0 h4 (k := 1) (by omega) (by decide) dL_law_427 dL_law_428 dL_law_430 dL_law_431 dL_law_432 ?_
  refine lw_callM (As := [.int (xs (i + 1))]) (rest := [.int z1]) (z := z1) (M1 := M1) F G1 (c_X12_play (p0 := 0) (out := (z1, M1)) tr_Zok mo_hN rfl hm) (cwV (R := room_1) 1 F.ts gL_law_X12_play (rm := ({ frames := 4, cells := 0, slots := 0, locals := 95 } : Room)) (mc := 0) (ms := 0) rfl rfl rfl (by decide +kernel) ⟨Nat.le_of_ble_eq_true rfl, Nat.le_of_ble_eq_true rfl⟩) rfl hsz rfl (Nat.le_of_ble_eq_true rfl) dL_law_433 hr (fun H2 locs2 G2 => ?_)
  exact lv_icmp_eq (tgt := 1006) F.ex F.hb dL_law_436 (by decide) (fun _ => kk X1 M1 H2 locs2 hI1 G2) (fun h => absurd rfl h)
theorem lw_k9 (F : lwF p s m meth c b L xs D cs cO adx adm adK adV o sa) (G : lwM s D cs cO adx adm o X M f H locs) (hI : Inv X M) (hL : L ≤ 3072) (hi : i + 6 ≤ L) (hsz : ls.size = 8) (h0 : ls[0]? = some (.val (.ref b))) (h1 : ls[1]? = some (.val (.ref (adx 0)))) (h2 : ls[2]? = some (.val (.ref (adm 0)))) (h4 : ls[4]? = some (.val (.int (nI i)))) (hr : cells ≤ 601024 ∧ slots ≤ 7293034)
    (kk : ∀ (X1 M1 : ha_St) (H1 : Heap) (locs1 : List Loc), Inv X1 M1 → lwM s D cs cO adx adm o X1 M1 f H1 locs1 → W p l e room_1 s m #[Value.ref b] below meth c H1 locs1 cells slots Q (F0 m 1006 ls [])) : W p l e room_1 s m #[Value.ref b] below meth c H locs cells slots Q (F0 m 441 ls []) := by
  obtain ⟨⟨z1, X1⟩, ⟨z2, M1⟩, hx, hm, hz, hI1⟩ := e_shown hI (xs (i + 1)) (xs (i + 2))
  have hz : z1 = z2 := hz
  subst hz
  refine lv_aload_n F.ex F.hb dL_law_441 rfl h1 ?_
  refine lw_arg F G.S hL h0 h4 (k := 1) (by omega) (by decide) dL_law_442 dL_law_443 dL_law_445 dL_law_446 dL_law_447 ?_
  refine lw_arg F G.S hL h0 h4 (k := 2) (by omega) (by decide) dL_law_448 dL_law_449 dL_law_451 dL_law_452 dL_law_453 ?_
  refine lw_callX (As := [.int (xs (i + 1)), .int (xs (i + 2))]) (rest := []) (z := z1) (X1 := X1) F G (c_X11_shown (p0 := 0) (out := (z1, X1)) xo_Zok xo_hN (fun U h => h) rfl hx) (cwV (R := room_1) 2 F.ts gL_law_X11_shown (rm := ({ frames := 1, cells := 0, slots := 0, locals := 21 } : Room)) (mc := 0) (ms := 0) rfl rfl rfl (by decide +kernel) ⟨Nat.le_of_ble_eq_true rfl, Nat.le_of_ble_eq_true rfl⟩) rfl hsz rfl (Nat.le_of_ble_eq_true rfl) dL_law_454 hr (fun H1 locs1 G1 => ?_)
  refine lv_aload_n F.ex F.hb dL_law_457 rfl h2 ?_
  refine lw_arg F G1.S hL h0 h4 (k := 1) (by omega) (by decide) dL_law_458 dL_law_459 dL_law_461 dL_law_462 dL_law_463 ?_
  refine lw_arg F G1.S hL h0 h4 (k := 2) (by omega) (by decide) dL_law_464 dL_law_465 dL_law_467 dL_law_468 dL_law_469 ?_
  refine lw_callM (As := [.int (xs (i + 1)), .int (xs (i + 2))]) (rest := [.int z1]) (z := z1) (M1 := M1) F G1 (c_X12_shown (p0 := 0) (out := (z1, M1)) tr_Zok mo_hN rfl hm) (cwV (R := room_1) 2 F.ts gL_law_X12_shown (rm := ({ frames := 1, cells := 0, slots := 0, locals := 22 } : Room)) (mc := 0) (ms := 0) rfl rfl rfl (by decide +kernel) ⟨Nat.le_of_ble_eq_true rfl, Nat.le_of_ble_eq_true rfl⟩) rfl hsz rfl (Nat.le_of_ble_eq_true rfl) dL_law_470 hr (fun H2 locs2 G2 => ?_)
  exact lv_icmp_eq (tgt := 1006) F.ex F.hb dL_law_473 (by decide) (fun _ => kk X1 M1 H2 locs2 hI1 G2) (fun h => absurd rfl h)
theorem lw_k10 (F : lwF p s m meth c b L xs D cs cO adx adm adK adV o sa) (G : lwM s D cs cO adx adm o X M f H locs) (hI : Inv X M) (hL : L ≤ 3072) (hi : i + 6 ≤ L) (hsz : ls.size = 8) (h0 : ls[0]? = some (.val (.ref b))) (h1 : ls[1]? = some (.val (.ref (adx 0)))) (h2 : ls[2]? = some (.val (.ref (adm 0)))) (h4 : ls[4]? = some (.val (.int (nI i)))) (hr : cells ≤ 601024 ∧ slots ≤ 7293034)
    (kk : ∀ (X1 M1 : ha_St) (H1 : Heap) (locs1 : List Loc), Inv X1 M1 → lwM s D cs cO adx adm o X1 M1 f H1 locs1 → W p l e room_1 s m #[Value.ref b] below meth c H1 locs1 cells slots Q (F0 m 1006 ls [])) : W p l e room_1 s m #[Value.ref b] below meth c H locs cells slots Q (F0 m 478 ls []) := by
  obtain ⟨⟨z1, X1⟩, ⟨z2, M1⟩, hx, hm, hz, hI1⟩ := e_cell hI (xs (i + 1)) (xs (i + 2))
  have hz : z1 = z2 := hz
  subst hz
  refine lv_aload_n F.ex F.hb dL_law_478 rfl h1 ?_
  refine lw_arg F G.S hL h0 h4 (k := 1) (by omega) (by decide) dL_law_479 dL_law_480 dL_law_482 dL_law_483 dL_law_484 ?_
  refine lw_arg F G.S hL h0 h4 (k := 2) (by omega) (by decide) dL_law_485 dL_law_486 dL_law_488 dL_law_489 dL_law_490 ?_
  refine lw_callX (As := [.int (xs (i + 1)), .int (xs (i + 2))]) (rest := []) (z := z1) (X1 := X1) F G (c_X11_cell (p0 := 0) (out := (z1, X1)) xo_Zok xo_hN (fun U h => h) rfl hx) (cwV (R := room_1) 2 F.ts gL_law_X11_cell (rm := ({ frames := 1, cells := 0, slots := 0, locals := 21 } : Room)) (mc := 0) (ms := 0) rfl rfl rfl (by decide +kernel) ⟨Nat.le_of_ble_eq_true rfl, Nat.le_of_ble_eq_true rfl⟩) rfl hsz rfl (Nat.le_of_ble_eq_true rfl) dL_law_491 hr (fun H1 locs1 G1 => ?_)
  refine lv_aload_n F.ex F.hb dL_law_494 rfl h2 ?_
  refine lw_arg F G1.S hL h0 h4 (k := 1) (by omega) (by decide) dL_law_495 dL_law_496 dL_law_498 dL_law_499 dL_law_500 ?_
  refine lw_arg F G1.S hL h0 h4 (k := 2) (by omega) (by decide) dL_law_501 dL_law_502 dL_law_504 dL_law_505 dL_law_506 ?_
  refine lw_callM (As := [.int (xs (i + 1)), .int (xs (i + 2))]) (rest := [.int z1]) (z := z1) (M1 := M1) F G1 (c_X12_cell (p0 := 0) (out := (z1, M1)) tr_Zok mo_hN rfl hm) (cwV (R := room_1) 2 F.ts gL_law_X12_cell (rm := ({ frames := 1, cells := 0, slots := 0, locals := 22 } : Room)) (mc := 0) (ms := 0) rfl rfl rfl (by decide +kernel) ⟨Nat.le_of_ble_eq_true rfl, Nat.le_of_ble_eq_true rfl⟩) rfl hsz rfl (Nat.le_of_ble_eq_true rfl) dL_law_507 hr (fun H2 locs2 G2 => ?_)
  exact lv_icmp_eq (tgt := 1006) F.ex F.hb dL_law_510 (by decide) (fun _ => kk X1 M1 H2 locs2 hI1 G2) (fun h => absurd rfl h)
theorem lw_k11 (F : lwF p s m meth c b L xs D cs cO adx adm adK adV o sa) (G : lwM s D cs cO adx adm o X M f H locs) (hI : Inv X M) (hL : L ≤ 3072) (hi : i + 6 ≤ L) (hsz : ls.size = 8) (h0 : ls[0]? = some (.val (.ref b))) (h1 : ls[1]? = some (.val (.ref (adx 0)))) (h2 : ls[2]? = some (.val (.ref (adm 0)))) (h4 : ls[4]? = some (.val (.int (nI i)))) (hr : cells ≤ 601024 ∧ slots ≤ 7293034)
    (kk : ∀ (X1 M1 : ha_St) (H1 : Heap) (locs1 : List Loc), Inv X1 M1 → lwM s D cs cO adx adm o X1 M1 f H1 locs1 → W p l e room_1 s m #[Value.ref b] below meth c H1 locs1 cells slots Q (F0 m 1006 ls [])) : W p l e room_1 s m #[Value.ref b] below meth c H locs cells slots Q (F0 m 515 ls []) := by
  obtain ⟨⟨z1, X1⟩, ⟨z2, M1⟩, hx, hm, hz, hI1⟩ := e_written hI (xs (i + 1))
  have hz : z1 = z2 := hz
  subst hz
  refine lv_aload_n F.ex F.hb dL_law_515 rfl h1 ?_
  refine lw_arg F G.S hL h0 h4 (k := 1) (by omega) (by decide) dL_law_516 dL_law_517 dL_law_519 dL_law_520 dL_law_521 ?_
  refine lw_callX (As := [.int (xs (i + 1))]) (rest := []) (z := z1) (X1 := X1) F G (c_X11_written (p0 := 0) (out := (z1, X1)) xo_Zok xo_hN (fun U h => h) rfl hx) (cwV (R := room_1) 1 F.ts gL_law_X11_written (rm := ({ frames := 0, cells := 0, slots := 0, locals := 0 } : Room)) (mc := 0) (ms := 0) rfl rfl rfl (by decide +kernel) ⟨Nat.le_of_ble_eq_true rfl, Nat.le_of_ble_eq_true rfl⟩) rfl hsz rfl (Nat.le_of_ble_eq_true rfl) dL_law_522 hr (fun H1 locs1 G1 => ?_)
  refine lv_aload_n F.ex F.hb dL_law_525 rfl h2 ?_
  refine lw_arg F G1.S hL h0 h4 (k := 1) (by omega) (by decide) dL_law_526 dL_law_527 dL_law_529 dL_law_530 dL_law_531 ?_
  refine lw_callM (As := [.int (xs (i + 1))]) (rest := [.int z1]) (z := z1) (M1 := M1) F G1 (c_X12_written (p0 := 0) (out := (z1, M1)) tr_Zok mo_hN rfl hm) (cwV (R := room_1) 1 F.ts gL_law_X12_written (rm := ({ frames := 0, cells := 0, slots := 0, locals := 0 } : Room)) (mc := 0) (ms := 0) rfl rfl rfl (by decide +kernel) ⟨Nat.le_of_ble_eq_true rfl, Nat.le_of_ble_eq_true rfl⟩) rfl hsz rfl (Nat.le_of_ble_eq_true rfl) dL_law_532 hr (fun H2 locs2 G2 => ?_)
  exact lv_icmp_eq (tgt := 1006) F.ex F.hb dL_law_535 (by decide) (fun _ => kk X1 M1 H2 locs2 hI1 G2) (fun h => absurd rfl h)
theorem lw_k12 (F : lwF p s m meth c b L xs D cs cO adx adm adK adV o sa) (G : lwM s D cs cO adx adm o X M f H locs) (hI : Inv X M) (hL : L ≤ 3072) (hi : i + 6 ≤ L) (hsz : ls.size = 8) (h0 : ls[0]? = some (.val (.ref b))) (h1 : ls[1]? = some (.val (.ref (adx 0)))) (h2 : ls[2]? = some (.val (.ref (adm 0)))) (h4 : ls[4]? = some (.val (.int (nI i)))) (hr : cells ≤ 601024 ∧ slots ≤ 7293034)
    (kk : ∀ (X1 M1 : ha_St) (H1 : Heap) (locs1 : List Loc), Inv X1 M1 → lwM s D cs cO adx adm o X1 M1 f H1 locs1 → W p l e room_1 s m #[Value.ref b] below meth c H1 locs1 cells slots Q (F0 m 1006 ls [])) : W p l e room_1 s m #[Value.ref b] below meth c H locs cells slots Q (F0 m 540 ls []) := by
  obtain ⟨⟨z1, X1⟩, ⟨z2, M1⟩, hx, hm, hz, hI1⟩ := e_played hI (xs (i + 1))
  have hz : z1 = z2 := hz
  subst hz
  refine lv_aload_n F.ex F.hb dL_law_540 rfl h1 ?_
  refine lw_arg F G.S hL h0 h4 (k := 1) (by omega) (by decide) dL_law_541 dL_law_542 dL_law_544 dL_law_545 dL_law_546 ?_
  refine lw_callX (As := [.int (xs (i + 1))]) (rest := []) (z := z1) (X1 := X1) F G (c_X11_played (p0 := 0) (out := (z1, X1)) xo_Zok xo_hN (fun U h => h) rfl hx) (cwV (R := room_1) 1 F.ts gL_law_X11_played (rm := ({ frames := 0, cells := 0, slots := 0, locals := 0 } : Room)) (mc := 0) (ms := 0) rfl rfl rfl (by decide +kernel) ⟨Nat.le_of_ble_eq_true rfl, Nat.le_of_ble_eq_true rfl⟩) rfl hsz rfl (Nat.le_of_ble_eq_true rfl) dL_law_547 hr (fun H1 locs1 G1 => ?_)
  refine lv_aload_n F.ex F.hb dL_law_550 rfl h2 ?_
  refine lw_arg F G1.S hL h0 h4 (k := 1) (by omega) (by decide) dL_law_551 dL_law_552 dL_law_554 dL_law_555 dL_law_556 ?_
  refine lw_callM (As := [.int (xs (i + 1))]) (rest := [.int z1]) (z := z1) (M1 := M1) F G1 (c_X12_played (p0 := 0) (out := (z1, M1)) tr_Zok mo_hN rfl hm) (cwV (R := room_1) 1 F.ts gL_law_X12_played (rm := ({ frames := 0, cells := 0, slots := 0, locals := 0 } : Room)) (mc := 0) (ms := 0) rfl rfl rfl (by decide +kernel) ⟨Nat.le_of_ble_eq_true rfl, Nat.le_of_ble_eq_true rfl⟩) rfl hsz rfl (Nat.le_of_ble_eq_true rfl) dL_law_557 hr (fun H2 locs2 G2 => ?_)
  exact lv_icmp_eq (tgt := 1006) F.ex F.hb dL_law_560 (by decide) (fun _ => kk X1 M1 H2 locs2 hI1 G2) (fun h => absurd rfl h)
theorem lw_k13 (F : lwF p s m meth c b L xs D cs cO adx adm adK adV o sa) (G : lwM s D cs cO adx adm o X M f H locs) (hI : Inv X M) (hL : L ≤ 3072) (hi : i + 6 ≤ L) (hsz : ls.size = 8) (h0 : ls[0]? = some (.val (.ref b))) (h1 : ls[1]? = some (.val (.ref (adx 0)))) (h2 : ls[2]? = some (.val (.ref (adm 0)))) (h4 : ls[4]? = some (.val (.int (nI i)))) (hr : cells ≤ 601024 ∧ slots ≤ 7293034)
    (kk : ∀ (X1 M1 : ha_St) (H1 : Heap) (locs1 : List Loc), Inv X1 M1 → lwM s D cs cO adx adm o X1 M1 f H1 locs1 → W p l e room_1 s m #[Value.ref b] below meth c H1 locs1 cells slots Q (F0 m 1006 ls [])) : W p l e room_1 s m #[Value.ref b] below meth c H locs cells slots Q (F0 m 565 ls []) := by
  obtain ⟨⟨z1, X1⟩, ⟨z2, M1⟩, hx, hm, hz, hI1⟩ := e_broken hI (xs (i + 1)) (xs (i + 2))
  have hz : z1 = z2 := hz
  subst hz
  refine lv_aload_n F.ex F.hb dL_law_565 rfl h1 ?_
  refine lw_arg F G.S hL h0 h4 (k := 1) (by omega) (by decide) dL_law_566 dL_law_567 dL_law_569 dL_law_570 dL_law_571 ?_
  refine lw_arg F G.S hL h0 h4 (k := 2) (by omega) (by decide) dL_law_572 dL_law_573 dL_law_575 dL_law_576 dL_law_577 ?_
  refine lw_callX (As := [.int (xs (i + 1)), .int (xs (i + 2))]) (rest := []) (z := z1) (X1 := X1) F G (c_X11_broken (p0 := 0) (out := (z1, X1)) xo_Zok xo_hN (fun U h => h) rfl hx) (cwV (R := room_1) 2 F.ts gL_law_X11_broken (rm := ({ frames := 6, cells := 0, slots := 0, locals := 153 } : Room)) (mc := 0) (ms := 0) rfl rfl rfl (by decide +kernel) ⟨Nat.le_of_ble_eq_true rfl, Nat.le_of_ble_eq_true rfl⟩) rfl hsz rfl (Nat.le_of_ble_eq_true rfl) dL_law_578 hr (fun H1 locs1 G1 => ?_)
  refine lv_aload_n F.ex F.hb dL_law_581 rfl h2 ?_
  refine lw_arg F G1.S hL h0 h4 (k := 1) (by omega) (by decide) dL_law_582 dL_law_583 dL_law_585 dL_law_586 dL_law_587 ?_
  refine lw_arg F G1.S hL h0 h4 (k := 2) (by omega) (by decide) dL_law_588 dL_law_589 dL_law_591 dL_law_592 dL_law_593 ?_
  refine lw_callM (As := [.int (xs (i + 1)), .int (xs (i + 2))]) (rest := [.int z1]) (z := z1) (M1 := M1) F G1 (c_X12_broken (p0 := 0) (out := (z1, M1)) tr_Zok mo_hN rfl hm) (cwV (R := room_1) 2 F.ts gL_law_X12_broken (rm := ({ frames := 6, cells := 0, slots := 0, locals := 141 } : Room)) (mc := 0) (ms := 0) rfl rfl rfl (by decide +kernel) ⟨Nat.le_of_ble_eq_true rfl, Nat.le_of_ble_eq_true rfl⟩) rfl hsz rfl (Nat.le_of_ble_eq_true rfl) dL_law_594 hr (fun H2 locs2 G2 => ?_)
  exact lv_icmp_eq (tgt := 1006) F.ex F.hb dL_law_597 (by decide) (fun _ => kk X1 M1 H2 locs2 hI1 G2) (fun h => absurd rfl h)
end LWK1

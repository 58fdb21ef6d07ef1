/-! THE LAW'S CASES, group 2 -/
section LWK2
variable {p : Program} {l : Launch} {e : Env} {s : State} {m : MethodId} {below : List Frame} {meth : Method} {c : Code} {H : Heap} {locs : List Loc} {cells slots : Nat} {Q : State → Prop}
variable {ls : Array Slot} {b L i : Nat} {xs : Nat → Int32} {D : va_G} {cs : Nat → ClassId} {cO : ClassId} {adx adm adK adV : Nat → Nat} {o sa : Nat} {X M : ha_St} {f : Nat → Int64}
theorem lw_k14 (F : lwF p s m meth c b L xs D cs cO adx adm adK adV o sa) (G : lwM s D cs cO adx adm o X M f H locs) (hI : Inv X M) (hL : L ≤ 3072) (hi : i + 6 ≤ L) (hsz : ls.size = 8) (h0 : ls[0]? = some (.val (.ref b))) (h1 : ls[1]? = some (.val (.ref (adx 0)))) (h2 : ls[2]? = some (.val (.ref (adm 0)))) (h4 : ls[4]? = some (.val (.int (nI i)))) (hr : cells ≤ 601024 ∧ slots ≤ 7293034)
    (kk : ∀ (X1 M1 : ha_St) (H1 : Heap) (locs1 : List Loc), Inv X1 M1 → lwM s D cs cO adx adm o X1 M1 f H1 locs1 → W p l e room_1 s m #[Value.ref b] below meth c H1 locs1 cells slots Q (F0 m 1006 ls [])) : W p l e room_1 s m #[Value.ref b] below meth c H locs cells slots Q (F0 m 602 ls []) := by
  obtain ⟨⟨z1, X1⟩, ⟨z2, M1⟩, hx, hm, hz, hI1⟩ := e_fogAt hI (xs (i + 1)) (xs (i + 2))
  have hz : z1 = z2 := hz
  subst hz
  refine lv_aload_n F.ex F.hb dL_law_602 rfl h1 ?_
  refine lw_arg F G.S hL h0 h4 (k := 1) (by omega) (by decide) dL_law_603 dL_law_604 dL_law_606 dL_law_607 dL_law_608 ?_
  refine lw_arg F G.S hL h0 h4 (k := 2) (by omega) (by decide) dL_law_609 dL_law_610 dL_law_612 dL_law_613 dL_law_614 ?_
  refine lw_callX (As := [.int (xs (i + 1)), .int (xs (i + 2))]) (rest := []) (z := z1) (X1 := X1) F G (c_X11_fogAt (p0 := 0) (out := (z1, X1)) xo_Zok xo_hN (fun U h => h) rfl hx) (cwV (R := room_1) 2 F.ts gL_law_X11_fogAt (rm := ({ frames := 0, cells := 0, slots := 0, locals := 0 } : Room)) (mc := 0) (ms := 0) rfl rfl rfl (by decide +kernel) ⟨Nat.le_of_ble_eq_true rfl, Nat.le_of_ble_eq_true rfl⟩) rfl hsz rfl (Nat.le_of_ble_eq_true rfl) dL_law_615 hr (fun H1 locs1 G1 => ?_)
  refine lv_aload_n F.ex F.hb dL_law_618 rfl h2 ?_
  refine lw_arg F G1.S hL h0 h4 (k := 1) (by omega) (by decide) dL_law_619 dL_law_620 dL_law_622 dL_law_623 dL_law_624 ?_
  refine lw_arg F G1.S hL h0 h4 (k := 2) (by omega) (by decide) dL_law_625 dL_law_626 dL_law_628 dL_law_629 dL_law_630 ?_
  refine lw_callM (As := [.int (xs (i + 1)), .int (xs (i + 2))]) (rest := [.int z1]) (z := z1) (M1 := M1) F G1 (c_X12_fogAt (p0 := 0) (out := (z1, M1)) tr_Zok mo_hN rfl hm) (cwV (R := room_1) 2 F.ts gL_law_X12_fogAt (rm := ({ frames := 0, cells := 0, slots := 0, locals := 0 } : Room)) (mc := 0) (ms := 0) rfl rfl rfl (by decide +kernel) ⟨Nat.le_of_ble_eq_true rfl, Nat.le_of_ble_eq_true rfl⟩) rfl hsz rfl (Nat.le_of_ble_eq_true rfl) dL_law_631 hr (fun H2 locs2 G2 => ?_)
  exact lv_icmp_eq (tgt := 1006) F.ex F.hb dL_law_634 (by decide) (fun _ => kk X1 M1 H2 locs2 hI1 G2) (fun h => absurd rfl h)
theorem lw_k15 (F : lwF p s m meth c b L xs D cs cO adx adm adK adV o sa) (G : lwM s D cs cO adx adm o X M f H locs) (hI : Inv X M) (hL : L ≤ 3072) (hi : i + 6 ≤ L) (hsz : ls.size = 8) (h0 : ls[0]? = some (.val (.ref b))) (h1 : ls[1]? = some (.val (.ref (adx 0)))) (h2 : ls[2]? = some (.val (.ref (adm 0)))) (h4 : ls[4]? = some (.val (.int (nI i)))) (hr : cells ≤ 601024 ∧ slots ≤ 7293034)
    (kk : ∀ (X1 M1 : ha_St) (H1 : Heap) (locs1 : List Loc), Inv X1 M1 → lwM s D cs cO adx adm o X1 M1 f H1 locs1 → W p l e room_1 s m #[Value.ref b] below meth c H1 locs1 cells slots Q (F0 m 1006 ls [])) : W p l e room_1 s m #[Value.ref b] below meth c H locs cells slots Q (F0 m 639 ls []) := by
  obtain ⟨⟨z1, X1⟩, ⟨z2, M1⟩, hx, hm, hz, hI1⟩ := e_entry hI 
  have hz : z1 = z2 := hz
  subst hz
  refine lv_aload_n F.ex F.hb dL_law_639 rfl h1 ?_
  refine lw_callX (As := []) (rest := []) (z := z1) (X1 := X1) F G (c_X11_entry (p0 := 0) (out := (z1, X1)) xo_Zok xo_hN (fun U h => h) rfl hx) (cwV (R := room_1) 0 F.ts gL_law_X11_entry (rm := ({ frames := 2, cells := 0, slots := 0, locals := 47 } : Room)) (mc := 0) (ms := 0) rfl rfl rfl (by decide +kernel) ⟨Nat.le_of_ble_eq_true rfl, Nat.le_of_ble_eq_true rfl⟩) rfl hsz rfl (Nat.le_of_ble_eq_true rfl) dL_law_640 hr (fun H1 locs1 G1 => ?_)
  refine lv_aload_n F.ex F.hb dL_law_643 rfl h2 ?_
  refine lw_callM (As := []) (rest := [.int z1]) (z := z1) (M1 := M1) F G1 (c_X12_entry (p0 := 0) (out := (z1, M1)) tr_Zok mo_hN rfl hm) (cwV (R := room_1) 0 F.ts gL_law_X12_entry (rm := ({ frames := 2, cells := 0, slots := 0, locals := 45 } : Room)) (mc := 0) (ms := 0) rfl rfl rfl (by decide +kernel) ⟨Nat.le_of_ble_eq_true rfl, Nat.le_of_ble_eq_true rfl⟩) rfl hsz rfl (Nat.le_of_ble_eq_true rfl) dL_law_644 hr (fun H2 locs2 G2 => ?_)
  exact lv_icmp_eq (tgt := 1006) F.ex F.hb dL_law_647 (by decide) (fun _ => kk X1 M1 H2 locs2 hI1 G2) (fun h => absurd rfl h)
theorem lw_k16 (F : lwF p s m meth c b L xs D cs cO adx adm adK adV o sa) (G : lwM s D cs cO adx adm o X M f H locs) (hI : Inv X M) (hL : L ≤ 3072) (hi : i + 6 ≤ L) (hsz : ls.size = 8) (h0 : ls[0]? = some (.val (.ref b))) (h1 : ls[1]? = some (.val (.ref (adx 0)))) (h2 : ls[2]? = some (.val (.ref (adm 0)))) (h4 : ls[4]? = some (.val (.int (nI i)))) (hr : cells ≤ 601024 ∧ slots ≤ 7293034)
    (kk : ∀ (X1 M1 : ha_St) (H1 : Heap) (locs1 : List Loc), Inv X1 M1 → lwM s D cs cO adx adm o X1 M1 f H1 locs1 → W p l e room_1 s m #[Value.ref b] below meth c H1 locs1 cells slots Q (F0 m 1006 ls [])) : W p l e room_1 s m #[Value.ref b] below meth c H locs cells slots Q (F0 m 652 ls []) := by
  obtain ⟨⟨z1, X1⟩, ⟨z2, M1⟩, hx, hm, hz, hI1⟩ := e_code hI 
  have hz : z1 = z2 := hz
  subst hz
  refine lv_aload_n F.ex F.hb dL_law_652 rfl h1 ?_
  refine lw_callX (As := []) (rest := []) (z := z1) (X1 := X1) F G (c_X11_code (p0 := 0) (out := (z1, X1)) xo_Zok xo_hN (fun U h => h) rfl hx) (cwV (R := room_1) 0 F.ts gL_law_X11_code (rm := ({ frames := 4, cells := 0, slots := 0, locals := 94 } : Room)) (mc := 0) (ms := 0) rfl rfl rfl (by decide +kernel) ⟨Nat.le_of_ble_eq_true rfl, Nat.le_of_ble_eq_true rfl⟩) rfl hsz rfl (Nat.le_of_ble_eq_true rfl) dL_law_653 hr (fun H1 locs1 G1 => ?_)
  refine lv_aload_n F.ex F.hb dL_law_656 rfl h2 ?_
  refine lw_callM (As := []) (rest := [.int z1]) (z := z1) (M1 := M1) F G1 (c_X12_code (p0 := 0) (out := (z1, M1)) tr_Zok mo_hN rfl hm) (cwV (R := room_1) 0 F.ts gL_law_X12_code (rm := ({ frames := 2, cells := 0, slots := 0, locals := 47 } : Room)) (mc := 0) (ms := 0) rfl rfl rfl (by decide +kernel) ⟨Nat.le_of_ble_eq_true rfl, Nat.le_of_ble_eq_true rfl⟩) rfl hsz rfl (Nat.le_of_ble_eq_true rfl) dL_law_657 hr (fun H2 locs2 G2 => ?_)
  exact lv_icmp_eq (tgt := 1006) F.ex F.hb dL_law_660 (by decide) (fun _ => kk X1 M1 H2 locs2 hI1 G2) (fun h => absurd rfl h)
theorem lw_k17 (F : lwF p s m meth c b L xs D cs cO adx adm adK adV o sa) (G : lwM s D cs cO adx adm o X M f H locs) (hI : Inv X M) (hL : L ≤ 3072) (hi : i + 6 ≤ L) (hsz : ls.size = 8) (h0 : ls[0]? = some (.val (.ref b))) (h1 : ls[1]? = some (.val (.ref (adx 0)))) (h2 : ls[2]? = some (.val (.ref (adm 0)))) (h4 : ls[4]? = some (.val (.int (nI i)))) (hr : cells ≤ 601024 ∧ slots ≤ 7293034)
    (kk : ∀ (X1 M1 : ha_St) (H1 : Heap) (locs1 : List Loc), Inv X1 M1 → lwM s D cs cO adx adm o X1 M1 f H1 locs1 → W p l e room_1 s m #[Value.ref b] below meth c H1 locs1 cells slots Q (F0 m 1006 ls [])) : W p l e room_1 s m #[Value.ref b] below meth c H locs cells slots Q (F0 m 665 ls []) := by
  obtain ⟨⟨z1, X1⟩, ⟨z2, M1⟩, hx, hm, hz, hI1⟩ := e_piece hI (xs (i + 1))
  have hz : z1 = z2 := hz
  subst hz
  refine lv_aload_n F.ex F.hb dL_law_665 rfl h1 ?_
  refine lw_arg F G.S hL h0 h4 (k := 1) (by omega) (by decide) dL_law_666 dL_law_667 dL_law_669 dL_law_670 dL_law_671 ?_
  refine lw_callX (As := [.int (xs (i + 1))]) (rest := []) (z := z1) (X1 := X1) F G (c_X11_piece (p0 := 0) (out := (z1, X1)) xo_Zok xo_hN (fun U h => h) rfl hx) (cwV (R := room_1) 1 F.ts gL_law_X11_piece (rm := ({ frames := 0, cells := 0, slots := 0, locals := 0 } : Room)) (mc := 0) (ms := 0) rfl rfl rfl (by decide +kernel) ⟨Nat.le_of_ble_eq_true rfl, Nat.le_of_ble_eq_true rfl⟩) rfl hsz rfl (Nat.le_of_ble_eq_true rfl) dL_law_672 hr (fun H1 locs1 G1 => ?_)
  refine lv_aload_n F.ex F.hb dL_law_675 rfl h2 ?_
  refine lw_arg F G1.S hL h0 h4 (k := 1) (by omega) (by decide) dL_law_676 dL_law_677 dL_law_679 dL_law_680 dL_law_681 ?_
  refine lw_callM (As := [.int (xs (i + 1))]) (rest := [.int z1]) (z := z1) (M1 := M1) F G1 (c_X12_piece (p0 := 0) (out := (z1, M1)) tr_Zok mo_hN rfl hm) (cwV (R := room_1) 1 F.ts gL_law_X12_piece (rm := ({ frames := 0, cells := 0, slots := 0, locals := 0 } : Room)) (mc := 0) (ms := 0) rfl rfl rfl (by decide +kernel) ⟨Nat.le_of_ble_eq_true rfl, Nat.le_of_ble_eq_true rfl⟩) rfl hsz rfl (Nat.le_of_ble_eq_true rfl) dL_law_682 hr (fun H2 locs2 G2 => ?_)
  exact lv_icmp_eq (tgt := 1006) F.ex F.hb dL_law_685 (by decide) (fun _ => kk X1 M1 H2 locs2 hI1 G2) (fun h => absurd rfl h)
theorem lw_k18 (F : lwF p s m meth c b L xs D cs cO adx adm adK adV o sa) (G : lwM s D cs cO adx adm o X M f H locs) (hI : Inv X M) (hL : L ≤ 3072) (hi : i + 6 ≤ L) (hsz : ls.size = 8) (h0 : ls[0]? = some (.val (.ref b))) (h1 : ls[1]? = some (.val (.ref (adx 0)))) (h2 : ls[2]? = some (.val (.ref (adm 0)))) (h4 : ls[4]? = some (.val (.int (nI i)))) (hr : cells ≤ 601024 ∧ slots ≤ 7293034)
    (kk : ∀ (X1 M1 : ha_St) (H1 : Heap) (locs1 : List Loc), Inv X1 M1 → lwM s D cs cO adx adm o X1 M1 f H1 locs1 → W p l e room_1 s m #[Value.ref b] below meth c H1 locs1 cells slots Q (F0 m 1006 ls [])) : W p l e room_1 s m #[Value.ref b] below meth c H locs cells slots Q (F0 m 690 ls []) := by
  obtain ⟨⟨z1, X1⟩, ⟨z2, M1⟩, hx, hm, hz, hI1⟩ := e_year hI 
  have hz : z1 = z2 := hz
  subst hz
  refine lv_aload_n F.ex F.hb dL_law_690 rfl h1 ?_
  refine lw_callX (As := []) (rest := []) (z := z1) (X1 := X1) F G (c_X11_year (p0 := 0) (out := (z1, X1)) xo_Zok xo_hN (fun U h => h) rfl hx) (cwV (R := room_1) 0 F.ts gL_law_X11_year (rm := ({ frames := 2, cells := 0, slots := 0, locals := 47 } : Room)) (mc := 0) (ms := 0) rfl rfl rfl (by decide +kernel) ⟨Nat.le_of_ble_eq_true rfl, Nat.le_of_ble_eq_true rfl⟩) rfl hsz rfl (Nat.le_of_ble_eq_true rfl) dL_law_691 hr (fun H1 locs1 G1 => ?_)
  refine lv_aload_n F.ex F.hb dL_law_694 rfl h2 ?_
  refine lw_callM (As := []) (rest := [.int z1]) (z := z1) (M1 := M1) F G1 (c_X12_year (p0 := 0) (out := (z1, M1)) tr_Zok mo_hN rfl hm) (cwV (R := room_1) 0 F.ts gL_law_X12_year (rm := ({ frames := 2, cells := 0, slots := 0, locals := 45 } : Room)) (mc := 0) (ms := 0) rfl rfl rfl (by decide +kernel) ⟨Nat.le_of_ble_eq_true rfl, Nat.le_of_ble_eq_true rfl⟩) rfl hsz rfl (Nat.le_of_ble_eq_true rfl) dL_law_695 hr (fun H2 locs2 G2 => ?_)
  exact lv_icmp_eq (tgt := 1006) F.ex F.hb dL_law_698 (by decide) (fun _ => kk X1 M1 H2 locs2 hI1 G2) (fun h => absurd rfl h)
theorem lw_k19 (F : lwF p s m meth c b L xs D cs cO adx adm adK adV o sa) (G : lwM s D cs cO adx adm o X M f H locs) (hI : Inv X M) (hL : L ≤ 3072) (hi : i + 6 ≤ L) (hsz : ls.size = 8) (h0 : ls[0]? = some (.val (.ref b))) (h1 : ls[1]? = some (.val (.ref (adx 0)))) (h2 : ls[2]? = some (.val (.ref (adm 0)))) (h4 : ls[4]? = some (.val (.int (nI i)))) (hr : cells ≤ 601024 ∧ slots ≤ 7293034)
    (kk : ∀ (X1 M1 : ha_St) (H1 : Heap) (locs1 : List Loc), Inv X1 M1 → lwM s D cs cO adx adm o X1 M1 f H1 locs1 → W p l e room_1 s m #[Value.ref b] below meth c H1 locs1 cells slots Q (F0 m 1006 ls [])) : W p l e room_1 s m #[Value.ref b] below meth c H locs cells slots Q (F0 m 703 ls []) := by
  obtain ⟨⟨z1, X1⟩, ⟨z2, M1⟩, hx, hm, hz, hI1⟩ := e_small hI (xs (i + 1))
  have hz : z1 = z2 := hz
  subst hz
  refine lv_aload_n F.ex F.hb dL_law_703 rfl h1 ?_
  refine lw_arg F G.S hL h0 h4 (k := 1) (by omega) (by decide) dL_law_704 dL_law_705 dL_law_707 dL_law_708 dL_law_709 ?_
  refine lw_callX (As := [.int (xs (i + 1))]) (rest := []) (z := z1) (X1 := X1) F G (c_X11_small (p0 := 0) (out := (z1, X1)) xo_Zok xo_hN (fun U h => h) rfl hx) (cwV (R := room_1) 1 F.ts gL_law_X11_small (rm := ({ frames := 4, cells := 0, slots := 0, locals := 97 } : Room)) (mc := 0) (ms := 0) rfl rfl rfl (by decide +kernel) ⟨Nat.le_of_ble_eq_true rfl, Nat.le_of_ble_eq_true rfl⟩) rfl hsz rfl (Nat.le_of_ble_eq_true rfl) dL_law_710 hr (fun H1 locs1 G1 => ?_)
  refine lv_aload_n F.ex F.hb dL_law_713 rfl h2 ?_
  refine lw_arg F G1.S hL h0 h4 (k := 1) (by omega) (by decide) dL_law_714 dL_law_715 dL_law_717 dL_law_718 dL_law_719 ?_
  refine lw_callM (As := [.int (xs (i + 1))]) (rest := [.int z1]) (z := z1) (M1 := M1) F G1 (c_X12_small (p0 := 0) (out := (z1, M1)) tr_Zok mo_hN rfl hm) (cwV (R := room_1) 1 F.ts gL_law_X12_small (rm := ({ frames := 2, cells := 0, slots := 0, locals := 47 } : Room)) (mc := 0) (ms := 0) rfl rfl rfl (by decide +kernel) ⟨Nat.le_of_ble_eq_true rfl, Nat.le_of_ble_eq_true rfl⟩) rfl hsz rfl (Nat.le_of_ble_eq_true rfl) dL_law_720 hr (fun H2 locs2 G2 => ?_)
  exact lv_icmp_eq (tgt := 1006) F.ex F.hb dL_law_723 (by decide) (fun _ => kk X1 M1 H2 locs2 hI1 G2) (fun h => absurd rfl h)
theorem lw_k20 (F : lwF p s m meth c b L xs D cs cO adx adm adK adV o sa) (G : lwM s D cs cO adx adm o X M f H locs) (hI : Inv X M) (hL : L ≤ 3072) (hi : i + 6 ≤ L) (hsz : ls.size = 8) (h0 : ls[0]? = some (.val (.ref b))) (h1 : ls[1]? = some (.val (.ref (adx 0)))) (h2 : ls[2]? = some (.val (.ref (adm 0)))) (h4 : ls[4]? = some (.val (.int (nI i)))) (hr : cells ≤ 601024 ∧ slots ≤ 7293034)
    (kk : ∀ (X1 M1 : ha_St) (H1 : Heap) (locs1 : List Loc), Inv X1 M1 → lwM s D cs cO adx adm o X1 M1 f H1 locs1 → W p l e room_1 s m #[Value.ref b] below meth c H1 locs1 cells slots Q (F0 m 1006 ls [])) : W p l e room_1 s m #[Value.ref b] below meth c H locs cells slots Q (F0 m 728 ls []) := by
  obtain ⟨⟨z1, X1⟩, ⟨z2, M1⟩, hx, hm, hz, hI1⟩ := e_smallSet hI 
  have hz : z1 = z2 := hz
  subst hz
  refine lv_aload_n F.ex F.hb dL_law_728 rfl h1 ?_
  refine lw_callX (As := []) (rest := []) (z := z1) (X1 := X1) F G (c_X11_smallSet (p0 := 0) (out := (z1, X1)) xo_Zok xo_hN (fun U h => h) rfl hx) (cwV (R := room_1) 0 F.ts gL_law_X11_smallSet (rm := ({ frames := 0, cells := 0, slots := 0, locals := 0 } : Room)) (mc := 0) (ms := 0) rfl rfl rfl (by decide +kernel) ⟨Nat.le_of_ble_eq_true rfl, Nat.le_of_ble_eq_true rfl⟩) rfl hsz rfl (Nat.le_of_ble_eq_true rfl) dL_law_729 hr (fun H1 locs1 G1 => ?_)
  refine lv_aload_n F.ex F.hb dL_law_732 rfl h2 ?_
  refine lw_callM (As := []) (rest := [.int z1]) (z := z1) (M1 := M1) F G1 (c_X12_smallSet (p0 := 0) (out := (z1, M1)) tr_Zok mo_hN rfl hm) (cwV (R := room_1) 0 F.ts gL_law_X12_smallSet (rm := ({ frames := 0, cells := 0, slots := 0, locals := 0 } : Room)) (mc := 0) (ms := 0) rfl rfl rfl (by decide +kernel) ⟨Nat.le_of_ble_eq_true rfl, Nat.le_of_ble_eq_true rfl⟩) rfl hsz rfl (Nat.le_of_ble_eq_true rfl) dL_law_733 hr (fun H2 locs2 G2 => ?_)
  exact lv_icmp_eq (tgt := 1006) F.ex F.hb dL_law_736 (by decide) (fun _ => kk X1 M1 H2 locs2 hI1 G2) (fun h => absurd rfl h)
end LWK2

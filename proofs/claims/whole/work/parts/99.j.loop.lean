/-! THE LAW'S LOOP -/
theorem lw_le {L i : Nat} (hL : L ≤ 3072) (hi : i ≤ 4000) (h : ¬ Int32.ofNat L - 6 < nI i) : i + 6 ≤ L := by
  have e1 : (Int32.ofNat L).toInt = (L : Int) := nI_toInt (n := L) (by omega)
  have e2 : (nI i).toInt = (i : Int) := nI_toInt (by omega)
  have e6 : (6 : Int32).toInt = 6 := rfl
  rw [i_lt, i_sub (by omega) (by omega), e1, e2, e6] at h
  omega
section LWL
variable {p : Program} {l : Launch} {e : Env} {s : State} {m : MethodId} {below : List Frame} {meth : Method} {c : Code} {Q : State → Prop}
variable {b L : Nat} {xs : Nat → Int32} {D : va_G} {cs : Nat → ClassId} {cO : ClassId} {adx adm adK adV : Nat → Nat} {o sa : Nat}
set_option maxHeartbeats 2000000 in
theorem lw_iter (hst : l.stackTraces = false) (F : lwF p s m meth c b L xs D cs cO adx adm adK adV o sa) (hL : L ≤ 3072) (fin : ∀ (ls1 : Array Slot) (H1 : Heap) (locs1 : List Loc) (c1 s1 : Nat), va_S (fun q => s.heap.size ≤ q) s.heap H1 locs1 → c1 ≤ 601024 → s1 ≤ 7293034 → W p l e room_1 s m #[Value.ref b] below meth c H1 locs1 c1 s1 Q (F0 m 1012 ls1 []))
    {i cells slots : Nat} {ls : Array Slot} {X M : ha_St} {f : Nat → Int64} {H : Heap} {locs : List Loc} (hi0 : i ≤ 4000) (hl : lv_has ls 8 [(4, .int (nI i)), (3, .ref o), (2, .ref (adm 0)), (1, .ref (adx 0)), (0, .ref b)]) (hI : Inv X M) (G : lwM s D cs cO adx adm o X M f H locs) (hr : cells + 1 ≤ 601024 ∧ slots + 6 ≤ 7293034)
    (next : i + 6 ≤ L → ∀ (ls1 : Array Slot) (X1 M1 : ha_St) (f1 : Nat → Int64) (H1 : Heap) (locs1 : List Loc) (c1 s1 : Nat), lv_has ls1 8 [(4, .int (nI (i + 6))), (3, .ref o), (2, .ref (adm 0)), (1, .ref (adx 0)), (0, .ref b)] → Inv X1 M1 → lwM s D cs cO adx adm o X1 M1 f1 H1 locs1 → c1 ≤ cells + 1 → s1 ≤ slots + 6 → W p l e room_1 s m #[Value.ref b] below meth c H1 locs1 c1 s1 Q (F0 m 23 ls1 [])) : W p l e room_1 s m #[Value.ref b] below meth c H locs cells slots Q (F0 m 23 ls []) := by
  have h0 := lv_at hl 4 rfl
  have h1 := lv_at hl 3 rfl
  have h2 := lv_at hl 2 rfl
  have h4 := lv_at hl 0 rfl
  have hr0 : cells ≤ 601024 ∧ slots ≤ 7293034 := ⟨by omega, by omega⟩
  refine lv_iload F.ex F.hb dL_law_23 h4 ?_
  refine lv_aload_n F.ex F.hb dL_law_25 rfl h0 ?_
  refine va_slen F.ex F.hb F.X F.bl (Nat.not_le.mpr F.bl) G.S dL_law_26 ?_
  refine lv_bipush (v := 6) F.ex F.hb dL_law_27 (by decide) ?_
  refine lv_isub F.ex F.hb dL_law_29 ?_
  refine lv_icmp_gt (tgt := 1012) F.ex F.hb dL_law_30 (by decide) (fun _ => fin ls H locs cells slots G.S hr0.1 hr0.2) (fun hn => ?_)
  have hi : i + 6 ≤ L := lw_le hL hi0 hn
  have go : ∀ (ls1 : Array Slot) (X1 M1 : ha_St) (f1 : Nat → Int64) (H1 : Heap) (locs1 : List Loc) (c1 s1 : Nat), lv_has ls1 8 [(4, .int (nI i)), (3, .ref o), (2, .ref (adm 0)), (1, .ref (adx 0)), (0, .ref b)] → Inv X1 M1 → lwM s D cs cO adx adm o X1 M1 f1 H1 locs1 → c1 ≤ cells + 1 → s1 ≤ slots + 6 → W p l e room_1 s m #[Value.ref b] below meth c H1 locs1 c1 s1 Q (F0 m 1006 ls1 []) := by
    intro ls1 X1 M1 f1 H1 locs1 c1 s1 hl hI G hc hs
    refine lv_iinc (v := nI (i + 6)) (lv' := [(4, .int (nI (i + 6))), (3, .ref o), (2, .ref (adm 0)), (1, .ref (adx 0)), (0, .ref b)]) F.ex F.hb dL_law_1006 hl (k := 0) rfl (by rw [← nI_add]; rfl) (by decide) rfl (fun ls hl => ?_)
    refine lv_goto (tgt := 23) F.ex F.hb dL_law_1009 (by decide) ?_
    exact next hi ls X1 M1 f1 H1 locs1 c1 s1 hl hI G hc hs
  have go1 : ∀ (X1 M1 : ha_St) (H1 : Heap) (locs1 : List Loc), Inv X1 M1 → lwM s D cs cO adx adm o X1 M1 f H1 locs1 → W p l e room_1 s m #[Value.ref b] below meth c H1 locs1 cells slots Q (F0 m 1006 ls []) := fun X1 M1 H1 locs1 hI1 G1 => go ls X1 M1 f H1 locs1 cells slots hl hI1 G1 (by omega) (by omega)
  refine lv_aload_n F.ex F.hb dL_law_33 rfl h0 ?_
  refine lv_iload F.ex F.hb dL_law_34 h4 ?_
  refine va_sld F.ex F.hb F.X F.bl (Nat.not_le.mpr F.bl) G.S (nI_in (show i < L by omega) (by omega)) dL_law_36 ?_
  rw [nI_clamp (by omega)]
  refine lv_bipush (v := 31) F.ex F.hb dL_law_37 (by decide) ?_
  refine lv_iand F.ex F.hb dL_law_39 ?_
  obtain ⟨j, hj, hx⟩ := pk_andE (xs i) (m := 31) 5 (by decide)
  rw [hx]
  match j, hj with
  | 0, _ => exact lv_tableIn (off := 128) (tgt := 168) F.ex F.hb dL_law_40 (by decide) (by decide) (by decide +kernel) (by decide) (lw_k0 F G hI hL hi hl.1 h0 h1 h2 h4 hr0 go1)
  | 1, _ => exact lv_tableIn (off := 201) (tgt := 241) F.ex F.hb dL_law_40 (by decide) (by decide) (by decide +kernel) (by decide) (lw_k1 F G hI hL hi hl.1 h0 h1 h2 h4 hr0 go1)
  | 2, _ => exact lv_tableIn (off := 226) (tgt := 266) F.ex F.hb dL_law_40 (by decide) (by decide) (by decide +kernel) (by decide) (lw_k2 F G hI hL hi hl.1 h0 h1 h2 h4 hr0 go1)
  | 3, _ => exact lv_tableIn (off := 251) (tgt := 291) F.ex F.hb dL_law_40 (by decide) (by decide) (by decide +kernel) (by decide) (lw_k3 F G hI hL hi hl.1 h0 h1 h2 h4 hr0 go1)
  | 4, _ => exact lv_tableIn (off := 276) (tgt := 316) F.ex F.hb dL_law_40 (by decide) (by decide) (by decide +kernel) (by decide) (lw_k4 F G hI hL hi hl.1 h0 h1 h2 h4 hr0 go1)
  | 5, _ => exact lv_tableIn (off := 301) (tgt := 341) F.ex F.hb dL_law_40 (by decide) (by decide) (by decide +kernel) (by decide) (lw_k5 F G hI hL hi hl.1 h0 h1 h2 h4 hr0 go1)
  | 6, _ => exact lv_tableIn (off := 314) (tgt := 354) F.ex F.hb dL_law_40 (by decide) (by decide) (by decide +kernel) (by decide) (lw_k6 F G hI hL hi hl.1 h0 h1 h2 h4 hr0 go1)
  | 7, _ => exact lv_tableIn (off := 327) (tgt := 367) F.ex F.hb dL_law_40 (by decide) (by decide) (by decide +kernel) (by decide) (lw_k7 F G hI hL hi hl.1 h0 h1 h2 h4 hr0 go1)
  | 8, _ => exact lv_tableIn (off := 376) (tgt := 416) F.ex F.hb dL_law_40 (by decide) (by decide) (by decide +kernel) (by decide) (lw_k8 F G hI hL hi hl.1 h0 h1 h2 h4 hr0 go1)
  | 9, _ => exact lv_tableIn (off := 401) (tgt := 441) F.ex F.hb dL_law_40 (by decide) (by decide) (by decide +kernel) (by decide) (lw_k9 F G hI hL hi hl.1 h0 h1 h2 h4 hr0 go1)
  | 10, _ => exact lv_tableIn (off := 438) (tgt := 478) F.ex F.hb dL_law_40 (by decide) (by decide) (by decide +kernel) (by decide) (lw_k10 F G hI hL hi hl.1 h0 h1 h2 h4 hr0 go1)
  | 11, _ => exact lv_tableIn (off := 475) (tgt := 515) F.ex F.hb dL_law_40 (by decide) (by decide) (by decide +kernel) (by decide) (lw_k11 F G hI hL hi hl.1 h0 h1 h2 h4 hr0 go1)
  | 12, _ => exact lv_tableIn (off := 500) (tgt := 540) F.ex F.hb dL_law_40 (by decide) (by decide) (by decide +kernel) (by decide) (lw_k12 F G hI hL hi hl.1 h0 h1 h2 h4 hr0 go1)
  | 13, _ => exact lv_tableIn (off := 525) (tgt := 565) F.ex F.hb dL_law_40 (by decide) (by decide) (by decide +kernel) (by decide) (lw_k13 F G hI hL hi hl.1 h0 h1 h2 h4 hr0 go1)
  | 14, _ => exact lv_tableIn (off := 562) (tgt := 602) F.ex F.hb dL_law_40 (by decide) (by decide) (by decide +kernel) (by decide) (lw_k14 F G hI hL hi hl.1 h0 h1 h2 h4 hr0 go1)
  | 15, _ => exact lv_tableIn (off := 599) (tgt := 639) F.ex F.hb dL_law_40 (by decide) (by decide) (by decide +kernel) (by decide) (lw_k15 F G hI hL hi hl.1 h0 h1 h2 h4 hr0 go1)
  | 16, _ => exact lv_tableIn (off := 612) (tgt := 652) F.ex F.hb dL_law_40 (by decide) (by decide) (by decide +kernel) (by decide) (lw_k16 F G hI hL hi hl.1 h0 h1 h2 h4 hr0 go1)
  | 17, _ => exact lv_tableIn (off := 625) (tgt := 665) F.ex F.hb dL_law_40 (by decide) (by decide) (by decide +kernel) (by decide) (lw_k17 F G hI hL hi hl.1 h0 h1 h2 h4 hr0 go1)
  | 18, _ => exact lv_tableIn (off := 650) (tgt := 690) F.ex F.hb dL_law_40 (by decide) (by decide) (by decide +kernel) (by decide) (lw_k18 F G hI hL hi hl.1 h0 h1 h2 h4 hr0 go1)
  | 19, _ => exact lv_tableIn (off := 663) (tgt := 703) F.ex F.hb dL_law_40 (by decide) (by decide) (by decide +kernel) (by decide) (lw_k19 F G hI hL hi hl.1 h0 h1 h2 h4 hr0 go1)
  | 20, _ => exact lv_tableIn (off := 688) (tgt := 728) F.ex F.hb dL_law_40 (by decide) (by decide) (by decide +kernel) (by decide) (lw_k20 F G hI hL hi hl.1 h0 h1 h2 h4 hr0 go1)
  | 21, _ => exact lv_tableIn (off := 701) (tgt := 741) F.ex F.hb dL_law_40 (by decide) (by decide) (by decide +kernel) (by decide) (lw_k21 hst F G hI hL hi hl hr (fun ls1 X1 M1 f1 H1 locs1 hl1 hI1 G1 => go ls1 X1 M1 f1 H1 locs1 (cells + 1) (slots + 6) hl1 hI1 G1 (Nat.le_refl _) (Nat.le_refl _)))
  | 22, _ => exact lv_tableIn (off := 780) (tgt := 820) F.ex F.hb dL_law_40 (by decide) (by decide) (by decide +kernel) (by decide) (lw_k22 F G hI hL hi hl.1 h0 h1 h2 h4 hr0 go1)
  | 23, _ => exact lv_tableIn (off := 829) (tgt := 869) F.ex F.hb dL_law_40 (by decide) (by decide) (by decide +kernel) (by decide) (lw_k23 F G hI hL hi hl.1 h0 h1 h2 h4 hr0 go1)
  | 24, _ => exact lv_tableIn (off := 878) (tgt := 918) F.ex F.hb dL_law_40 (by decide) (by decide) (by decide +kernel) (by decide) (lw_k24 F G hI hL hi hl.1 h0 h1 h2 h4 hr0 go1)
  | 25, _ => exact lv_tableIn (off := 903) (tgt := 943) F.ex F.hb dL_law_40 (by decide) (by decide) (by decide +kernel) (by decide) (lw_k25 F G hI hL hi hl.1 h0 h1 h2 h4 hr0 go1)
  | 26, _ => exact lv_tableIn (off := 928) (tgt := 968) F.ex F.hb dL_law_40 (by decide) (by decide) (by decide +kernel) (by decide) (lw_k26 F G hI hL hi hl.1 h0 h1 h2 h4 hr0 go1)
  | 27, _ => exact lv_tableIn (off := 941) (tgt := 981) F.ex F.hb dL_law_40 (by decide) (by decide) (by decide +kernel) (by decide) (lw_k27 F G hI hL hi hl.1 h0 h1 h2 h4 hr0 go1)
  | n + 28, hj => exact lv_tableOut (tgt := 1006) F.ex F.hb dL_law_40 (Or.inr (by rw [nI_toInt (by omega)]; omega)) (by decide) (go1 X M H locs hI G)
theorem lw_loop (hst : l.stackTraces = false) (F : lwF p s m meth c b L xs D cs cO adx adm adK adV o sa) (hL : L ≤ 3072) (fin : ∀ (ls1 : Array Slot) (H1 : Heap) (locs1 : List Loc) (c1 s1 : Nat), va_S (fun q => s.heap.size ≤ q) s.heap H1 locs1 → c1 ≤ 601024 → s1 ≤ 7293034 → W p l e room_1 s m #[Value.ref b] below meth c H1 locs1 c1 s1 Q (F0 m 1012 ls1 [])) : ∀ (d i cells slots : Nat) (ls : Array Slot) (X M : ha_St) (f : Nat → Int64) (H : Heap) (locs : List Loc), L - i ≤ d → i ≤ 3072 → lv_has ls 8 [(4, .int (nI i)), (3, .ref o), (2, .ref (adm 0)), (1, .ref (adx 0)), (0, .ref b)] → Inv X M → lwM s D cs cO adx adm o X M f H locs → cells + 1 + (L - i) ≤ 601024 → slots + 6 + 6 * (L - i) ≤ 7293034 → W p l e room_1 s m #[Value.ref b] below meth c H locs cells slots Q (F0 m 23 ls []) := by
  intro d
  induction d with
  | zero =>
    intro i cells slots ls X M f H locs hd hi hl hI G hc hs
    exact lw_iter hst F hL fin (by omega) hl hI G ⟨by omega, by omega⟩ (fun h => absurd h (by omega))
  | succ d ih =>
    intro i cells slots ls X M f H locs hd hi hl hI G hc hs
    exact lw_iter hst F hL fin (by omega) hl hI G ⟨by omega, by omega⟩ (fun h ls1 X1 M1 f1 H1 locs1 c1 s1 hl1 hI1 G1 hc1 hs1 => ih (i + 6) c1 s1 ls1 X1 M1 f1 H1 locs1 (by omega) (by omega) hl1 hI1 G1 (by omega) (by omega))
end LWL

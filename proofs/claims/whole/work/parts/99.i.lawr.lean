/-! THE LAW'S CASE 21: right, of the class (through the helper) and of the model -/
theorem lr_blind {D : va_G} {cO : ClassId} {a o sa : Nat} {f : Nat → Int64} {av : List Value} : FrameBlind (va_Pc av (lrP D cO a o sa f)) := fun a' U g mk h =>
  ⟨h.1, va_K.moved (u := U) (U := U.calling g mk a') (Vm.Alike.refl U.vm) h.2.1, h.2.2.1, h.2.2.2.1, rz_calling h.2.2.2.2 g mk a'⟩
section LWR
variable {p : Program} {l : Launch} {e : Env} {s : State} {m : MethodId} {below : List Frame} {meth : Method} {c : Code} {H : Heap} {locs : List Loc} {cells slots : Nat} {Q : State → Prop}
variable {ls : Array Slot} {b L i : Nat} {xs : Nat → Int32} {D : va_G} {cs : Nat → ClassId} {cO : ClassId} {adx adm adK adV : Nat → Nat} {o sa : Nat} {X M : ha_St} {f : Nat → Int64}
theorem lwM.newO {H1 : Heap} {locs1 : List Loc} {f1 : Nat → Int64} (F : lwF p s m meth c b L xs D cs cO adx adm adK adV o sa) (G : lwM s D cs cO adx adm o X M f H locs) (hP : va_P D vwCl [(o, .inl (cO, 1, .inr (.inl f1)))] H1) (hk : ∀ q : Nat, q < H.size → ¬ q = o → H1[q]? = H[q]?) (hS : va_S (fun q => s.heap.size ≤ q) s.heap H1 locs1) : lwM s D cs cO adx adm o X M f1 H1 locs1 :=
  ⟨G.Px.kept (fun k q hq => hk q.1 (G.Px k q hq).lt (fun h => by
      obtain ⟨n', h3, h4⟩ := G.Dx.2 k q hq
      exact F.xo n' h3 (h4.symm.trans h))), G.Dx, G.Pm.kept (fun k q hq => hk q.1 (G.Pm k q hq).lt (fun h => by
      obtain ⟨n', h3, h4⟩ := G.Dm.2 k q hq
      exact F.mo n' h3 (h4.symm.trans h))), G.Dm, hP, hS⟩
theorem lw_k21 (hst : l.stackTraces = false) (F : lwF p s m meth c b L xs D cs cO adx adm adK adV o sa) (G : lwM s D cs cO adx adm o X M f H locs) (hI : Inv X M) (hL : L ≤ 3072) (hi : i + 6 ≤ L) (hl : lv_has ls 8 [(4, .int (nI i)), (3, .ref o), (2, .ref (adm 0)), (1, .ref (adx 0)), (0, .ref b)]) (hr : cells + 1 ≤ 601024 ∧ slots + 6 ≤ 7293034)
    (kk : ∀ (ls1 : Array Slot) (X1 M1 : ha_St) (f1 : Nat → Int64) (H1 : Heap) (locs1 : List Loc), lv_has ls1 8 [(4, .int (nI i)), (3, .ref o), (2, .ref (adm 0)), (1, .ref (adx 0)), (0, .ref b)] → Inv X1 M1 → lwM s D cs cO adx adm o X1 M1 f1 H1 locs1 → W p l e room_1 s m #[Value.ref b] below meth c H1 locs1 (cells + 1) (slots + 6) Q (F0 m 1006 ls1 [])) : W p l e room_1 s m #[Value.ref b] below meth c H locs cells slots Q (F0 m 741 ls []) := by
  have h0 := lv_at hl 4 rfl
  have h1 := lv_at hl 3 rfl
  have h2 := lv_at hl 2 rfl
  have h3 := lv_at hl 1 rfl
  have h4 := lv_at hl 0 rfl
  have hPx : ∃ fs : List Value, va_P D vwCl [(adx 0, .inr (11, fs))] H := by
    obtain ⟨j, hj⟩ := ha_wl_get (cs := cs) (ad := adx) (kd := xo_kd) (ln := xo_ln) (S := X) (N := xo_N) (n := 0) (by decide +kernel)
    rw [ha_cell_o (ci := 11) rfl (by decide)] at hj
    refine ⟨(List.range (ha_nf 11)).map (ha_val adx X 0 11), fun k q hk => ?_⟩
    cases k with
    | zero =>
      have e := Option.some.inj hk
      rw [← e]
      exact G.Px j _ hj
    | succ k => simp at hk
  refine lv_aload_n F.ex F.hb dL_law_741 rfl h1 ?_
  refine lw_arg F G.S hL h0 h4 (k := 1) (by omega) (by decide) dL_law_742 dL_law_743 dL_law_745 dL_law_746 dL_law_747 ?_
  refine lw_arg F G.S hL h0 h4 (k := 2) (by omega) (by decide) dL_law_748 dL_law_749 dL_law_751 dL_law_752 dL_law_753 ?_
  refine lw_arg F G.S hL h0 h4 (k := 3) (by omega) (by decide) dL_law_754 dL_law_755 dL_law_757 dL_law_758 dL_law_759 ?_
  refine lv_aload_n F.ex F.hb dL_law_760 rfl h3 ?_
  refine va_calli (A0 := fun q => s.heap.size ≤ q) (vx_runSW (As := [.ref (adx 0), .int (xs (i + 1)), .int (xs (i + 2)), .int (xs (i + 3)), .ref o]) (rest := []) F.fix (c_L_right hst (D := D) (cO := cO) (a := adx 0) (o := o) (sa := sa) (f := f)) (vx_cwSW (R := room_1) 5 F.ts gL_law_L_right (rm := ({ frames := 7, cells := 1, slots := 6, locals := 108 } : Room)) (mc := 1) (ms := 6) rfl rfl rfl (by decide +kernel) ⟨Nat.le_of_ble_eq_true rfl, Nat.le_of_ble_eq_true rfl⟩) ⟨lr_blind, fun U hU hW => ⟨rfl, va_K.moved hW.alike F.KO, by rw [hU]; exact G.Po, by rw [hU]; exact hPx, rz_narrow (rz_kept F.Y hW (fun q h1 h2 => by rw [hU]; exact G.S.2.1 q h1 h2)) (fun q h => h.elim)⟩⟩ rfl rfl hl.1 rfl (lv_room (Nat.le_of_ble_eq_true rfl)) dL_law_761 hr) G.S (fun q _ h => by rw [show q = o from h]; exact F.ao) (fun q h => by rw [show q = o from h]; exact F.ao) (fun r f1 t H1 locs1 ht hvm hq hB hz1 hk1 hS1 => ?_)
  rw [ht] at hB
  have G1 := lwM.newO F G hB hk1 hS1
  refine lv_istore (lv' := [(5, .int r), (4, .int (nI i)), (3, .ref o), (2, .ref (adm 0)), (1, .ref (adx 0)), (0, .ref b)]) F.ex F.hb dL_law_764 hl (by decide) rfl (fun ls hl => ?_)
  have h0 := lv_at hl 5 rfl
  have h2 := lv_at hl 3 rfl
  have h4 := lv_at hl 1 rfl
  obtain ⟨w1, w2⟩ := right_m (xs (i + 1)) (xs (i + 2)) (xs (i + 3)) M
  have hm : ∃ (z : Int64) (v : Int32), f_X12_right 0 (xs (i + 1)) (xs (i + 2)) (xs (i + 3)) M = some (z, ha_sI M 0 0 v) ∧ v = r ∧ (r = 0 → z = f1 0) := by
    rcases hq with ⟨rfl, g1, g2⟩ | ⟨rfl, g1⟩
    · exact ⟨_, _, w1 g1, rfl, fun _ => g2.symm⟩
    · exact ⟨_, _, w2 g1, rfl, fun h => absurd h (by decide)⟩
  obtain ⟨z, v, hm, rfl, hz⟩ := hm
  have hI1 : Inv X (ha_sI M 0 0 v) := inv_thr v hI
  refine lv_aload_n F.ex F.hb dL_law_766 rfl h2 ?_
  refine lw_arg F G1.S hL h0 h4 (k := 1) (by omega) (by decide) dL_law_767 dL_law_768 dL_law_770 dL_law_771 dL_law_772 ?_
  refine lw_arg F G1.S hL h0 h4 (k := 2) (by omega) (by decide) dL_law_773 dL_law_774 dL_law_776 dL_law_777 dL_law_778 ?_
  refine lw_arg F G1.S hL h0 h4 (k := 3) (by omega) (by decide) dL_law_779 dL_law_780 dL_law_782 dL_law_783 dL_law_784 ?_
  refine lw_callMl (As := [.int (xs (i + 1)), .int (xs (i + 2)), .int (xs (i + 3))]) (rest := []) (zl := z) (M1 := ha_sI M 0 0 v) F G1 (c_X12_right (p0 := 0) (out := (z, ha_sI M 0 0 v)) tr_Zok mo_hN rfl hm) (cwV (R := room_1) 3 F.ts gL_law_X12_right (rm := ({ frames := 1, cells := 0, slots := 0, locals := 22 } : Room)) (mc := 0) (ms := 0) rfl rfl rfl (by decide +kernel) ⟨Nat.le_of_ble_eq_true rfl, Nat.le_of_ble_eq_true rfl⟩) rfl hl.1 rfl (Nat.le_of_ble_eq_true rfl) dL_law_785 hr (fun H2 locs2 G2 => ?_)
  refine lv_lstore (lv' := [(6, .long z), (5, .int v), (4, .int (nI i)), (3, .ref o), (2, .ref (adm 0)), (1, .ref (adx 0)), (0, .ref b)]) F.ex F.hb dL_law_788 hl (by decide) rfl (fun ls hl => ?_)
  refine lv_aload_n F.ex F.hb dL_law_790 rfl (lv_at hl 4 rfl) ?_
  have hth : f_X12_thrown 0 (ha_sI M 0 0 v) = some (v, ha_sI M 0 0 v) := by
    unfold f_X12_thrown
    rw [st_II, if_pos ⟨rfl, rfl⟩]
  refine lw_callM (As := []) (rest := []) (z := v) (M1 := ha_sI M 0 0 v) F G2 (c_X12_thrown (p0 := 0) (out := (v, ha_sI M 0 0 v)) tr_Zok mo_hN rfl hth) (cwV (R := room_1) 0 F.ts gL_law_X12_thrown (rm := ({ frames := 0, cells := 0, slots := 0, locals := 0 } : Room)) (mc := 0) (ms := 0) rfl rfl rfl (by decide +kernel) ⟨Nat.le_of_ble_eq_true rfl, Nat.le_of_ble_eq_true rfl⟩) rfl hl.1 rfl (Nat.le_of_ble_eq_true rfl) dL_law_791 hr (fun H3 locs3 G3 => ?_)
  refine lv_iload F.ex F.hb dL_law_794 (lv_at hl 1 rfl) ?_
  refine lv_icmp_eq (tgt := 801) F.ex F.hb dL_law_796 (by decide) (fun _ => ?_) (fun h => absurd rfl h)
  have hl5 : lv_has ls 8 [(4, .int (nI i)), (3, .ref o), (2, .ref (adm 0)), (1, .ref (adx 0)), (0, .ref b)] := lv_sub hl [2, 3, 4, 5, 6] rfl
  have fin : W p l e room_1 s m #[Value.ref b] below meth c H3 locs3 (cells + 1) (slots + 6) Q (F0 m 817 ls []) :=
    lv_goto (tgt := 1006) F.ex F.hb dL_law_817 (by decide) (kk ls X (ha_sI M 0 0 v) f1 H3 locs3 hl5 hI1 G3)
  refine lv_iload F.ex F.hb dL_law_801 (lv_at hl 1 rfl) ?_
  refine lv_if_ne (tgt := 817) F.ex F.hb dL_law_803 (by decide) (fun _ => fin) (fun hv0 => ?_)
  refine lv_aload_n F.ex F.hb dL_law_806 rfl (lv_at hl 3 rfl) ?_
  refine lv_iconst (v := 0) F.ex F.hb dL_law_807 (by decide) ?_
  refine va_lald F.ex F.hb F.KO G3.Po 0 0 rfl rfl (show ¬ ((0 : Int32) < 0 ∨ 1 ≤ (0 : Int32).toNatClampNeg) by decide) dL_law_808 ?_
  refine lv_lload F.ex F.hb dL_law_809 (lv_at hl 0 rfl) ?_
  refine W.lcmp F.ex F.hb dL_law_811 ?_
  have hzz : z = f1 (0 : Int32).toNatClampNeg := hz hv0
  rw [← hzz]
  refine lv_if_eq (tgt := 817) F.ex F.hb dL_law_812 (by decide) (fun _ => fin) (fun h => absurd (by simp [lg_cmp]) h)
end LWR

set_option maxHeartbeats 4000000 in
set_option maxRecDepth 100000 in
theorem c_X11_feed {l : Launch} {D : va_G} {cs : Nat → ClassId} {ad adK adV : Nat → Nat} {N : List Nat} {Z : State → Prop} (hZ : ha_Zok (ha_A ad N) Z) (hN : ∀ x, xo_kd x < 999 → x ∈ N) (hX : ∀ U, Z U → xo_Z adK adV (ha_A ad N) U) {p0 : Nat} {p1 : Int32} {p2 : Int32} {p3 : Int32} {p4 : Int32} {p5 : Int32} {S : ha_St} {out : Int32 × ha_St} (h0 : xo_kd p0 = 11) (hf : f_X11_feed p0 p1 p2 p3 p4 p5 S = some out) : ha_Ci l D cs ad xo_kd xo_ln N Z yX11_feed wsX11_feed ({ frames := 1, cells := 0, slots := 0, locals := 22 } : Room) [.ref (ad p0), .int p1, .int p2, .int p3, .int p4, .int p5] S out.1 out.2 := by
  refine Met.ofW (cc := cX11_feed) (maxL := 6) (ret := (some .int)) (by decide +kernel) rfl ?_
  intro p e s m args below meth c s₁ B hml hv
  obtain ⟨rfl, hP, hD, hK, hz⟩ := hv
  have hx := B.exec
  have hb := B.bytes
  have hr := B.returns
  have hts := atoms_spec (ws := wsX11_feed) B.pre
  have hown : s.vm.findClass RX11 = some m.cls := findClass_of_methodNamed B.named
  have hlocks := B.notSynchronized
  have hS : va_S (ha_A ad N) s.heap s.heap [] := va_S.rf
  have hi10 : ∀ w ∈ wsX100, w ∈ wsX11_feed := fun w h => List.mem_cons_of_mem _ (List.mem_append_right _ h)
  have hi11 : ∀ w ∈ wsX110, w ∈ wsX11_feed := fun w h => List.mem_cons_of_mem _ (List.mem_append_left _ (List.mem_append_right _ h))
  have q10 : ha_Fk s ([.ref (ad p0), .int p1, .int p2, .int p3, .int p4, .int p5] : List Value).toArray RX11 10 11 0 1 := ⟨RX11, TX11, 17, wsX11_feed, rfl, by decide, by decide, rfl, rfl, hts, hi11, hts (.fieldLink RX11 10 "HillArms" "tape" "LHillArms$Tape;") (by decide +kernel)⟩
  have q92 : ha_Fk s ([.ref (ad p0), .int p1, .int p2, .int p3, .int p4, .int p5] : List Value).toArray RX11 92 10 1 0 := ⟨RX10, TX10, 2, wsX11_feed, rfl, by decide, by decide, rfl, rfl, hts, hi10, hts (.fieldLink RX11 92 "HillArms$Tape" "size" "I") (by decide +kernel)⟩
  have cw0 := cwV (R := (headSpec wsX11_feed ({ frames := 1, cells := 0, slots := 0, locals := 22 } : Room)).room) 1 hts gX11_feed_X10_append (rm := ({ frames := 0, cells := 0, slots := 0, locals := 0 } : Room)) (mc := 0) (ms := 0) rfl rfl rfl (by decide +kernel) ⟨Nat.le_of_ble_eq_true rfl, Nat.le_of_ble_eq_true rfl⟩
  have hl := lv_entry ([.ref (ad p0), .int p1, .int p2, .int p3, .int p4, .int p5]) (n := 6) (Nat.le_of_ble_eq_true rfl)
  rw [lg_entry_eq]
  generalize (lg_sl ([.ref (ad p0), .int p1, .int p2, .int p3, .int p4, .int p5]) ++ List.replicate (6 - (lg_sl ([.ref (ad p0), .int p1, .int p2, .int p3, .int p4, .int p5])).length) Slot.unset).toArray = ls at hl ⊢
  have hl : lv_has ls 6 [(0, .ref (ad p0)), (1, .int p1), (2, .int p2), (3, .int p3), (4, .int p4), (5, .int p5)] := hl
  refine (fun (K0 : ∀ (H : Heap) (locs : List Loc), va_P D vwCl (ha_wl cs ad xo_kd xo_ln N S) H → va_S (ha_A ad N) s.heap H locs → W p l e (headSpec wsX11_feed ({ frames := 1, cells := 0, slots := 0, locals := 22 } : Room)).room s m ([.ref (ad p0), .int p1, .int p2, .int p3, .int p4, .int p5] : List Value).toArray below meth c H locs 0 0 (MQ below (va_Qi (fun (r : Int32) (_ : Unit) => r = out.1) (fun _ => ha_H D cs ad xo_kd xo_ln N out.2) (ha_A ad N)) ([.ref (ad p0), .int p1, .int p2, .int p3, .int p4, .int p5] : List Value).toArray s 0 0 (ha_A ad N)) (F0 m 0 ls [])) => K0 _ _ hP hS) ?_
  intro H locs hP hS
  have hf := ha_rt hf
  unfold f_X11_feed at hf
  refine lv_aload_n hx hb dX11_feed_0 rfl (lv_at hl 0 rfl) ?_
  obtain ⟨r1, wr1, hf⟩ := ha_bds hf
  obtain ⟨wr1, hr1⟩ := ha_rf_some wr1
  refine ha_getr hx hb hown hK hP q10 hN h0 wr1 dX11_feed_1 ?_
  refine ha_geti hx hb hown hK hP q92 hN hr1 dX11_feed_4 ?_
  refine lv_bipush (v := 20) hx hb dX11_feed_7 (by decide) ?_
  refine lv_iadd hx hb dX11_feed_9 ?_
  refine lv_sipush (v := 440) hx hb dX11_feed_10 (by decide) ?_
  refine lv_icmp_le (tgt := 18) hx hb dX11_feed_13 (by decide) (fun c2 => ?_) (fun c2 => ?_)
  · have hf := ha_it hf c2
    refine lv_aload_n hx hb dX11_feed_18 rfl (lv_at hl 0 rfl) ?_
    obtain ⟨r3, wr3, hf⟩ := ha_bds hf
    obtain ⟨wr3, hr3⟩ := ha_rf_some wr3
    refine ha_getr hx hb hown hK hP q10 hN h0 wr3 dX11_feed_19 ?_
    refine lv_iload_n hx hb dX11_feed_22 rfl (lv_at hl 1 rfl) ?_
    obtain ⟨z4, wz4, hf⟩ := ha_bds hf
    refine ha_callVv (As := [.int p1]) (rest := []) hZ ⟨hx, hb, hml, hown, hts⟩ hK hz hP hD hS (c_X10_append hZ hN hX hr3 wz4) cw0 hN hr3 (by decide) rfl rfl hl.1 rfl (Nat.le_of_ble_eq_true rfl) dX11_feed_23 ⟨Nat.le_of_ble_eq_true rfl, Nat.le_of_ble_eq_true rfl⟩ (fun H locs hP hD hS => ?_)
    refine lv_aload_n hx hb dX11_feed_26 rfl (lv_at hl 0 rfl) ?_
    obtain ⟨r5, wr5, hf⟩ := ha_bds hf
    obtain ⟨wr5, hr5⟩ := ha_rf_some wr5
    refine ha_getr hx hb hown hK hP q10 hN h0 wr5 dX11_feed_27 ?_
    refine lv_iload_n hx hb dX11_feed_30 rfl (lv_at hl 2 rfl) ?_
    obtain ⟨z6, wz6, hf⟩ := ha_bds hf
    refine ha_callVv (As := [.int p2]) (rest := []) hZ ⟨hx, hb, hml, hown, hts⟩ hK hz hP hD hS (c_X10_append hZ hN hX hr5 wz6) cw0 hN hr5 (by decide) rfl rfl hl.1 rfl (Nat.le_of_ble_eq_true rfl) dX11_feed_31 ⟨Nat.le_of_ble_eq_true rfl, Nat.le_of_ble_eq_true rfl⟩ (fun H locs hP hD hS => ?_)
    refine lv_aload_n hx hb dX11_feed_34 rfl (lv_at hl 0 rfl) ?_
    obtain ⟨r7, wr7, hf⟩ := ha_bds hf
    obtain ⟨wr7, hr7⟩ := ha_rf_some wr7
    refine ha_getr hx hb hown hK hP q10 hN h0 wr7 dX11_feed_35 ?_
    refine lv_iload_n hx hb dX11_feed_38 rfl (lv_at hl 3 rfl) ?_
    obtain ⟨z8, wz8, hf⟩ := ha_bds hf
    refine ha_callVv (As := [.int p3]) (rest := []) hZ ⟨hx, hb, hml, hown, hts⟩ hK hz hP hD hS (c_X10_append hZ hN hX hr7 wz8) cw0 hN hr7 (by decide) rfl rfl hl.1 rfl (Nat.le_of_ble_eq_true rfl) dX11_feed_39 ⟨Nat.le_of_ble_eq_true rfl, Nat.le_of_ble_eq_true rfl⟩ (fun H locs hP hD hS => ?_)
    refine lv_aload_n hx hb dX11_feed_42 rfl (lv_at hl 0 rfl) ?_
    obtain ⟨r9, wr9, hf⟩ := ha_bds hf
    obtain ⟨wr9, hr9⟩ := ha_rf_some wr9
    refine ha_getr hx hb hown hK hP q10 hN h0 wr9 dX11_feed_43 ?_
    refine lv_iload hx hb dX11_feed_46 (lv_at hl 4 rfl) ?_
    obtain ⟨z10, wz10, hf⟩ := ha_bds hf
    refine ha_callVv (As := [.int p4]) (rest := []) hZ ⟨hx, hb, hml, hown, hts⟩ hK hz hP hD hS (c_X10_append hZ hN hX hr9 wz10) cw0 hN hr9 (by decide) rfl rfl hl.1 rfl (Nat.le_of_ble_eq_true rfl) dX11_feed_48 ⟨Nat.le_of_ble_eq_true rfl, Nat.le_of_ble_eq_true rfl⟩ (fun H locs hP hD hS => ?_)
    refine lv_aload_n hx hb dX11_feed_51 rfl (lv_at hl 0 rfl) ?_
    obtain ⟨r11, wr11, hf⟩ := ha_bds hf
    obtain ⟨wr11, hr11⟩ := ha_rf_some wr11
    refine ha_getr hx hb hown hK hP q10 hN h0 wr11 dX11_feed_52 ?_
    refine lv_iload hx hb dX11_feed_55 (lv_at hl 5 rfl) ?_
    obtain ⟨z12, wz12, hf⟩ := ha_bds hf
    refine ha_callVv (As := [.int p5]) (rest := []) hZ ⟨hx, hb, hml, hown, hts⟩ hK hz hP hD hS (c_X10_append hZ hN hX hr11 wz12) cw0 hN hr11 (by decide) rfl rfl hl.1 rfl (Nat.le_of_ble_eq_true rfl) dX11_feed_57 ⟨Nat.le_of_ble_eq_true rfl, Nat.le_of_ble_eq_true rfl⟩ (fun H locs hP hD hS => ?_)
    refine lv_aload_n hx hb dX11_feed_60 rfl (lv_at hl 0 rfl) ?_
    obtain ⟨r13, wr13, hf⟩ := ha_bds hf
    obtain ⟨wr13, hr13⟩ := ha_rf_some wr13
    refine ha_getr hx hb hown hK hP q10 hN h0 wr13 dX11_feed_61 ?_
    refine ha_geti hx hb hown hK hP q92 hN hr13 dX11_feed_64 ?_
    have he := Option.some.inj hf
    exact ha_reti hx hb hr hlocks hP hD hS dX11_feed_67 (ha_e1 he) (ha_e2 he)
  · have hf := ha_if hf c2
    refine lv_iconst (v := (-1)) hx hb dX11_feed_16 (by decide) ?_
    have he := Option.some.inj hf
    exact ha_reti hx hb hr hlocks hP hD hS dX11_feed_17 (ha_e1 he) (ha_e2 he)

set_option maxHeartbeats 4000000 in
set_option maxRecDepth 100000 in
theorem c_X11_end {l : Launch} {D : va_G} {cs : Nat → ClassId} {ad adK adV : Nat → Nat} {N : List Nat} {Z : State → Prop} (hZ : ha_Zok (ha_A ad N) Z) (hN : ∀ x, xo_kd x < 999 → x ∈ N) (hX : ∀ U, Z U → xo_Z adK adV (ha_A ad N) U) {p0 : Nat} {p1 : Int32} {S : ha_St} {out : Int32 × ha_St} (h0 : xo_kd p0 = 11) (hf : f_X11_end p0 p1 S = some out) : ha_Ci l D cs ad xo_kd xo_ln N Z yX11_end wsX11_end ({ frames := 0, cells := 0, slots := 0, locals := 0 } : Room) [.ref (ad p0), .int p1] S out.1 out.2 := by
  refine Met.ofW (cc := cX11_end) (maxL := 2) (ret := (some .boolean)) (by decide +kernel) rfl ?_
  intro p e s m args below meth c s₁ B hml hv
  obtain ⟨rfl, hP, hD, hK, hz⟩ := hv
  have hx := B.exec
  have hb := B.bytes
  have hr := B.returns
  have hts := atoms_spec (ws := wsX11_end) B.pre
  have hown : s.vm.findClass RX11 = some m.cls := findClass_of_methodNamed B.named
  have hlocks := B.notSynchronized
  have hS : va_S (ha_A ad N) s.heap s.heap [] := va_S.rf
  have hi10 : ∀ w ∈ wsX100, w ∈ wsX11_end := fun w h => List.mem_cons_of_mem _ (List.mem_append_right _ h)
  have hi11 : ∀ w ∈ wsX110, w ∈ wsX11_end := fun w h => List.mem_cons_of_mem _ (List.mem_append_left _ (List.mem_append_right _ h))
  have q10 : ha_Fk s ([.ref (ad p0), .int p1] : List Value).toArray RX11 10 11 0 1 := ⟨RX11, TX11, 17, wsX11_end, rfl, by decide, by decide, rfl, rfl, hts, hi11, hts (.fieldLink RX11 10 "HillArms" "tape" "LHillArms$Tape;") (by decide +kernel)⟩
  have q92 : ha_Fk s ([.ref (ad p0), .int p1] : List Value).toArray RX11 92 10 1 0 := ⟨RX10, TX10, 2, wsX11_end, rfl, by decide, by decide, rfl, rfl, hts, hi10, hts (.fieldLink RX11 92 "HillArms$Tape" "size" "I") (by decide +kernel)⟩
  have r92 : ha_Fp s ([.ref (ad p0), .int p1] : List Value).toArray RX11 92 10 1 0 .int := ⟨RX10, TX10, 2, wsX11_end, tyX10, rfl, by decide, by decide, rfl, rfl, hts, hi10, hts (.fieldLink RX11 92 "HillArms$Tape" "size" "I") (by decide +kernel), tyX10_ok, nmX10, rfl, by decide +kernel⟩
  have hl := lv_entry ([.ref (ad p0), .int p1]) (n := 2) (Nat.le_of_ble_eq_true rfl)
  rw [lg_entry_eq]
  generalize (lg_sl ([.ref (ad p0), .int p1]) ++ List.replicate (2 - (lg_sl ([.ref (ad p0), .int p1])).length) Slot.unset).toArray = ls at hl ⊢
  have hl : lv_has ls 2 [(0, .ref (ad p0)), (1, .int p1)] := hl
  refine (fun (K0 : ∀ (H : Heap) (locs : List Loc), va_P D vwCl (ha_wl cs ad xo_kd xo_ln N S) H → va_S (ha_A ad N) s.heap H locs → W p l e (headSpec wsX11_end ({ frames := 0, cells := 0, slots := 0, locals := 0 } : Room)).room s m ([.ref (ad p0), .int p1] : List Value).toArray below meth c H locs 0 0 (MQ below (va_Qi (fun (r : Int32) (_ : Unit) => r = out.1) (fun _ => ha_H D cs ad xo_kd xo_ln N out.2) (ha_A ad N)) ([.ref (ad p0), .int p1] : List Value).toArray s 0 0 (ha_A ad N)) (F0 m 0 ls [])) => K0 _ _ hP hS) ?_
  intro H locs hP hS
  have hf := ha_rt hf
  have J15 : ∀  (S : ha_St) (H : Heap) (locs : List Loc) (ls : Array Slot), (f_X11_end_J15 p0 p1  S).bind some = some out → va_P D vwCl (ha_wl cs ad xo_kd xo_ln N S) H → va_D (ha_A ad N) (ha_wl cs ad xo_kd xo_ln N S) → va_S (ha_A ad N) s.heap H locs → lv_has ls 2 [(0, .ref (ad p0)), (1, .int p1)] → W p l e (headSpec wsX11_end ({ frames := 0, cells := 0, slots := 0, locals := 0 } : Room)).room s m ([.ref (ad p0), .int p1] : List Value).toArray below meth c H locs 0 0 (MQ below (va_Qi (fun (r : Int32) (_ : Unit) => r = out.1) (fun _ => ha_H D cs ad xo_kd xo_ln N out.2) (ha_A ad N)) ([.ref (ad p0), .int p1] : List Value).toArray s 0 0 (ha_A ad N)) (F0 m 15 ls []) := by
    intro  S H locs ls hf  hP hD hS hl
    unfold f_X11_end_J15 at hf
    refine lv_iconst (v := 0) hx hb dX11_end_15 (by decide) ?_
    have he := Option.some.inj hf
    exact ha_retz hx hb hr hlocks hP hD hS dX11_end_16 (by decide) (ha_e1 he) (ha_e2 he)
  unfold f_X11_end at hf
  refine lv_iload_n hx hb dX11_end_0 rfl (lv_at hl 1 rfl) ?_
  refine lv_if_lt (tgt := 15) hx hb dX11_end_1 (by decide) (fun c1 => ?_) (fun c1 => ?_)
  · have hf := ha_it hf c1
    exact J15  S H locs ls hf  hP hD hS (lv_sub hl [0, 1] rfl)
  · have hf := ha_if hf c1
    refine lv_iload_n hx hb dX11_end_4 rfl (lv_at hl 1 rfl) ?_
    refine lv_aload_n hx hb dX11_end_5 rfl (lv_at hl 0 rfl) ?_
    obtain ⟨r2, wr2, hf⟩ := ha_bds hf
    obtain ⟨wr2, hr2⟩ := ha_rf_some wr2
    refine ha_getr hx hb hown hK hP q10 hN h0 wr2 dX11_end_6 ?_
    refine ha_geti hx hb hown hK hP q92 hN hr2 dX11_end_9 ?_
    refine lv_icmp_le (tgt := 17) hx hb dX11_end_12 (by decide) (fun c3 => ?_) (fun c3 => ?_)
    · have hf := ha_it hf c3
      refine lv_aload_n hx hb dX11_end_17 rfl (lv_at hl 0 rfl) ?_
      obtain ⟨r4, wr4, hf⟩ := ha_bds hf
      obtain ⟨wr4, hr4⟩ := ha_rf_some wr4
      refine ha_getr hx hb hown hK hP q10 hN h0 wr4 dX11_end_18 ?_
      refine lv_iload_n hx hb dX11_end_21 rfl (lv_at hl 1 rfl) ?_
      refine ha_puti hx hb hown hK hP hD hS r92 hN hr4 dX11_end_22 (fun S5 H locs eS5 hP hD hS => ?_)
      have hf := ha_nms hf eS5
      refine lv_iconst (v := 1) hx hb dX11_end_25 (by decide) ?_
      have he := Option.some.inj hf
      exact ha_retz hx hb hr hlocks hP hD hS dX11_end_26 (by decide) (ha_e1 he) (ha_e2 he)
    · have hf := ha_if hf c3
      exact J15  S H locs ls hf  hP hD hS (lv_sub hl [0, 1] rfl)

set_option maxHeartbeats 4000000 in
set_option maxRecDepth 100000 in
theorem c_X11_next {l : Launch} {D : va_G} {cs : Nat → ClassId} {ad adK adV : Nat → Nat} {N : List Nat} {Z : State → Prop} (hZ : ha_Zok (ha_A ad N) Z) (hN : ∀ x, xo_kd x < 999 → x ∈ N) (hX : ∀ U, Z U → xo_Z adK adV (ha_A ad N) U) {p0 : Nat} {p1 : Int32} {S : ha_St} {out : Int32 × ha_St} (h0 : xo_kd p0 = 11) (hf : f_X11_next p0 p1 S = some out) : ha_Ci l D cs ad xo_kd xo_ln N Z yX11_next wsX11_next ({ frames := 0, cells := 0, slots := 0, locals := 0 } : Room) [.ref (ad p0), .int p1] S out.1 out.2 := by
  refine Met.ofW (cc := cX11_next) (maxL := 2) (ret := (some .int)) (by decide +kernel) rfl ?_
  intro p e s m args below meth c s₁ B hml hv
  obtain ⟨rfl, hP, hD, hK, hz⟩ := hv
  have hx := B.exec
  have hb := B.bytes
  have hr := B.returns
  have hts := atoms_spec (ws := wsX11_next) B.pre
  have hown : s.vm.findClass RX11 = some m.cls := findClass_of_methodNamed B.named
  have hlocks := B.notSynchronized
  have hS : va_S (ha_A ad N) s.heap s.heap [] := va_S.rf
  have hi11 : ∀ w ∈ wsX110, w ∈ wsX11_next := fun w h => List.mem_cons_of_mem _ (List.mem_append_right _ h)
  have q98 : ha_Fk s ([.ref (ad p0), .int p1] : List Value).toArray RX11 98 11 13 0 := ⟨RX11, TX11, 17, wsX11_next, rfl, by decide, by decide, rfl, rfl, hts, hi11, hts (.fieldLink RX11 98 "HillArms" "today" "I") (by decide +kernel)⟩
  have r98 : ha_Fp s ([.ref (ad p0), .int p1] : List Value).toArray RX11 98 11 13 0 .int := ⟨RX11, TX11, 17, wsX11_next, tyX11, rfl, by decide, by decide, rfl, rfl, hts, hi11, hts (.fieldLink RX11 98 "HillArms" "today" "I") (by decide +kernel), tyX11_ok, nmX11, rfl, by decide +kernel⟩
  have hl := lv_entry ([.ref (ad p0), .int p1]) (n := 2) (Nat.le_of_ble_eq_true rfl)
  rw [lg_entry_eq]
  generalize (lg_sl ([.ref (ad p0), .int p1]) ++ List.replicate (2 - (lg_sl ([.ref (ad p0), .int p1])).length) Slot.unset).toArray = ls at hl ⊢
  have hl : lv_has ls 2 [(0, .ref (ad p0)), (1, .int p1)] := hl
  refine (fun (K0 : ∀ (H : Heap) (locs : List Loc), va_P D vwCl (ha_wl cs ad xo_kd xo_ln N S) H → va_S (ha_A ad N) s.heap H locs → W p l e (headSpec wsX11_next ({ frames := 0, cells := 0, slots := 0, locals := 0 } : Room)).room s m ([.ref (ad p0), .int p1] : List Value).toArray below meth c H locs 0 0 (MQ below (va_Qi (fun (r : Int32) (_ : Unit) => r = out.1) (fun _ => ha_H D cs ad xo_kd xo_ln N out.2) (ha_A ad N)) ([.ref (ad p0), .int p1] : List Value).toArray s 0 0 (ha_A ad N)) (F0 m 0 ls [])) => K0 _ _ hP hS) ?_
  intro H locs hP hS
  have hf := ha_rt hf
  have J23 : ∀  (S : ha_St) (H : Heap) (locs : List Loc) (ls : Array Slot), (f_X11_next_J23 p0 p1  S).bind some = some out → va_P D vwCl (ha_wl cs ad xo_kd xo_ln N S) H → va_D (ha_A ad N) (ha_wl cs ad xo_kd xo_ln N S) → va_S (ha_A ad N) s.heap H locs → lv_has ls 2 [(0, .ref (ad p0)), (1, .int p1)] → W p l e (headSpec wsX11_next ({ frames := 0, cells := 0, slots := 0, locals := 0 } : Room)).room s m ([.ref (ad p0), .int p1] : List Value).toArray below meth c H locs 0 0 (MQ below (va_Qi (fun (r : Int32) (_ : Unit) => r = out.1) (fun _ => ha_H D cs ad xo_kd xo_ln N out.2) (ha_A ad N)) ([.ref (ad p0), .int p1] : List Value).toArray s 0 0 (ha_A ad N)) (F0 m 23 ls []) := by
    intro  S H locs ls hf  hP hD hS hl
    unfold f_X11_next_J23 at hf
    refine lv_iconst (v := (-1)) hx hb dX11_next_23 (by decide) ?_
    have he := Option.some.inj hf
    exact ha_reti hx hb hr hlocks hP hD hS dX11_next_24 (ha_e1 he) (ha_e2 he)
  unfold f_X11_next at hf
  refine lv_iload_n hx hb dX11_next_0 rfl (lv_at hl 1 rfl) ?_
  refine lv_if_lt (tgt := 23) hx hb dX11_next_1 (by decide) (fun c1 => ?_) (fun c1 => ?_)
  · have hf := ha_it hf c1
    exact J23  S H locs ls hf  hP hD hS (lv_sub hl [0, 1] rfl)
  · have hf := ha_if hf c1
    refine lv_iload_n hx hb dX11_next_4 rfl (lv_at hl 1 rfl) ?_
    refine lv_sipush (v := 999) hx hb dX11_next_5 (by decide) ?_
    refine lv_icmp_gt (tgt := 23) hx hb dX11_next_8 (by decide) (fun c2 => ?_) (fun c2 => ?_)
    · have hf := ha_it hf c2
      exact J23  S H locs ls hf  hP hD hS (lv_sub hl [0, 1] rfl)
    · have hf := ha_if hf c2
      refine lv_aload_n hx hb dX11_next_11 rfl (lv_at hl 0 rfl) ?_
      refine ha_geti hx hb hown hK hP q98 hN h0 dX11_next_12 ?_
      refine lv_iload_n hx hb dX11_next_15 rfl (lv_at hl 1 rfl) ?_
      refine lv_iadd hx hb dX11_next_16 ?_
      refine lv_sipush (v := 999) hx hb dX11_next_17 (by decide) ?_
      refine lv_icmp_le (tgt := 25) hx hb dX11_next_20 (by decide) (fun c3 => ?_) (fun c3 => ?_)
      · have hf := ha_it hf c3
        refine lv_aload_n hx hb dX11_next_25 rfl (lv_at hl 0 rfl) ?_
        refine lv_dup hx hb dX11_next_26 rfl ?_
        refine ha_geti hx hb hown hK hP q98 hN h0 dX11_next_27 ?_
        refine lv_iload_n hx hb dX11_next_30 rfl (lv_at hl 1 rfl) ?_
        refine lv_iadd hx hb dX11_next_31 ?_
        refine ha_puti hx hb hown hK hP hD hS r98 hN h0 dX11_next_32 (fun S4 H locs eS4 hP hD hS => ?_)
        have hf := ha_nms hf eS4
        refine lv_aload_n hx hb dX11_next_35 rfl (lv_at hl 0 rfl) ?_
        refine ha_geti hx hb hown hK hP q98 hN h0 dX11_next_36 ?_
        have he := Option.some.inj hf
        exact ha_reti hx hb hr hlocks hP hD hS dX11_next_39 (ha_e1 he) (ha_e2 he)
      · have hf := ha_if hf c3
        exact J23  S H locs ls hf  hP hD hS (lv_sub hl [0, 1] rfl)

set_option maxHeartbeats 4000000 in
set_option maxRecDepth 100000 in
theorem c_X11_towers {l : Launch} {D : va_G} {cs : Nat → ClassId} {ad adK adV : Nat → Nat} {N : List Nat} {Z : State → Prop} (hZ : ha_Zok (ha_A ad N) Z) (hN : ∀ x, xo_kd x < 999 → x ∈ N) (hX : ∀ U, Z U → xo_Z adK adV (ha_A ad N) U) {p0 : Nat} {p1 : Int32} {S : ha_St} {out : Int32 × ha_St} (h0 : xo_kd p0 = 11) (hf : f_X11_towers p0 p1 S = some out) : ha_Ci l D cs ad xo_kd xo_ln N Z yX11_towers wsX11_towers ({ frames := 0, cells := 0, slots := 0, locals := 0 } : Room) [.ref (ad p0), .int p1] S out.1 out.2 := by
  refine Met.ofW (cc := cX11_towers) (maxL := 2) (ret := (some .boolean)) (by decide +kernel) rfl ?_
  intro p e s m args below meth c s₁ B hml hv
  obtain ⟨rfl, hP, hD, hK, hz⟩ := hv
  have hx := B.exec
  have hb := B.bytes
  have hr := B.returns
  have hts := atoms_spec (ws := wsX11_towers) B.pre
  have hown : s.vm.findClass RX11 = some m.cls := findClass_of_methodNamed B.named
  have hlocks := B.notSynchronized
  have hS : va_S (ha_A ad N) s.heap s.heap [] := va_S.rf
  have hi1 : ∀ w ∈ wsX10, w ∈ wsX11_towers := fun w h => List.mem_cons_of_mem _ (List.mem_append_left _ (List.mem_append_right _ h))
  have hi2 : ∀ w ∈ wsX20, w ∈ wsX11_towers := fun w h => List.mem_cons_of_mem _ (List.mem_append_right _ h)
  have hi11 : ∀ w ∈ wsX110, w ∈ wsX11_towers := fun w h => List.mem_cons_of_mem _ (List.mem_append_left _ (List.mem_append_left _ (List.mem_append_right _ h)))
  have q19 : ha_Fk s ([.ref (ad p0), .int p1] : List Value).toArray RX11 19 11 1 1 := ⟨RX11, TX11, 17, wsX11_towers, rfl, by decide, by decide, rfl, rfl, hts, hi11, hts (.fieldLink RX11 19 "HillArms" "crew" "LHillArms$Crew;") (by decide +kernel)⟩
  have q101 : ha_Fk s ([.ref (ad p0), .int p1] : List Value).toArray RX11 101 1 7 0 := ⟨RX1, TX1, 8, wsX11_towers, rfl, by decide, by decide, rfl, rfl, hts, hi1, hts (.fieldLink RX11 101 "HillArms$Crew" "fogs" "I") (by decide +kernel)⟩
  have q70 : ha_Fk s ([.ref (ad p0), .int p1] : List Value).toArray RX11 70 11 9 1 := ⟨RX11, TX11, 17, wsX11_towers, rfl, by decide, by decide, rfl, rfl, hts, hi11, hts (.fieldLink RX11 70 "HillArms" "delays" "LHillArms$Delays;") (by decide +kernel)⟩
  have q104 : ha_Fk s ([.ref (ad p0), .int p1] : List Value).toArray RX11 104 2 8 0 := ⟨RX2, TX2, 9, wsX11_towers, rfl, by decide, by decide, rfl, rfl, hts, hi2, hts (.fieldLink RX11 104 "HillArms$Delays" "notes" "I") (by decide +kernel)⟩
  have r107 : ha_Fp s ([.ref (ad p0), .int p1] : List Value).toArray RX11 107 1 5 0 .int := ⟨RX1, TX1, 8, wsX11_towers, tyX1, rfl, by decide, by decide, rfl, rfl, hts, hi1, hts (.fieldLink RX11 107 "HillArms$Crew" "towers" "I") (by decide +kernel), tyX1_ok, nmX1, rfl, by decide +kernel⟩
  have hl := lv_entry ([.ref (ad p0), .int p1]) (n := 2) (Nat.le_of_ble_eq_true rfl)
  rw [lg_entry_eq]
  generalize (lg_sl ([.ref (ad p0), .int p1]) ++ List.replicate (2 - (lg_sl ([.ref (ad p0), .int p1])).length) Slot.unset).toArray = ls at hl ⊢
  have hl : lv_has ls 2 [(0, .ref (ad p0)), (1, .int p1)] := hl
  refine (fun (K0 : ∀ (H : Heap) (locs : List Loc), va_P D vwCl (ha_wl cs ad xo_kd xo_ln N S) H → va_S (ha_A ad N) s.heap H locs → W p l e (headSpec wsX11_towers ({ frames := 0, cells := 0, slots := 0, locals := 0 } : Room)).room s m ([.ref (ad p0), .int p1] : List Value).toArray below meth c H locs 0 0 (MQ below (va_Qi (fun (r : Int32) (_ : Unit) => r = out.1) (fun _ => ha_H D cs ad xo_kd xo_ln N out.2) (ha_A ad N)) ([.ref (ad p0), .int p1] : List Value).toArray s 0 0 (ha_A ad N)) (F0 m 0 ls [])) => K0 _ _ hP hS) ?_
  intro H locs hP hS
  have hf := ha_rt hf
  have J31 : ∀  (S : ha_St) (H : Heap) (locs : List Loc) (ls : Array Slot), (f_X11_towers_J31 p0 p1  S).bind some = some out → va_P D vwCl (ha_wl cs ad xo_kd xo_ln N S) H → va_D (ha_A ad N) (ha_wl cs ad xo_kd xo_ln N S) → va_S (ha_A ad N) s.heap H locs → lv_has ls 2 [(0, .ref (ad p0)), (1, .int p1)] → W p l e (headSpec wsX11_towers ({ frames := 0, cells := 0, slots := 0, locals := 0 } : Room)).room s m ([.ref (ad p0), .int p1] : List Value).toArray below meth c H locs 0 0 (MQ below (va_Qi (fun (r : Int32) (_ : Unit) => r = out.1) (fun _ => ha_H D cs ad xo_kd xo_ln N out.2) (ha_A ad N)) ([.ref (ad p0), .int p1] : List Value).toArray s 0 0 (ha_A ad N)) (F0 m 31 ls []) := by
    intro  S H locs ls hf  hP hD hS hl
    unfold f_X11_towers_J31 at hf
    refine lv_iconst (v := 0) hx hb dX11_towers_31 (by decide) ?_
    have he := Option.some.inj hf
    exact ha_retz hx hb hr hlocks hP hD hS dX11_towers_32 (by decide) (ha_e1 he) (ha_e2 he)
  unfold f_X11_towers at hf
  refine lv_iload_n hx hb dX11_towers_0 rfl (lv_at hl 1 rfl) ?_
  refine lv_iconst (v := 3) hx hb dX11_towers_1 (by decide) ?_
  refine lv_icmp_lt (tgt := 31) hx hb dX11_towers_2 (by decide) (fun c1 => ?_) (fun c1 => ?_)
  · have hf := ha_it hf c1
    exact J31  S H locs ls hf  hP hD hS (lv_sub hl [0, 1] rfl)
  · have hf := ha_if hf c1
    refine lv_iload_n hx hb dX11_towers_5 rfl (lv_at hl 1 rfl) ?_
    refine lv_bipush (v := 16) hx hb dX11_towers_6 (by decide) ?_
    refine lv_icmp_gt (tgt := 31) hx hb dX11_towers_8 (by decide) (fun c2 => ?_) (fun c2 => ?_)
    · have hf := ha_it hf c2
      exact J31  S H locs ls hf  hP hD hS (lv_sub hl [0, 1] rfl)
    · have hf := ha_if hf c2
      refine lv_aload_n hx hb dX11_towers_11 rfl (lv_at hl 0 rfl) ?_
      obtain ⟨r3, wr3, hf⟩ := ha_bds hf
      obtain ⟨wr3, hr3⟩ := ha_rf_some wr3
      refine ha_getr hx hb hown hK hP q19 hN h0 wr3 dX11_towers_12 ?_
      refine ha_geti hx hb hown hK hP q101 hN hr3 dX11_towers_15 ?_
      refine lv_if_gt (tgt := 31) hx hb dX11_towers_18 (by decide) (fun c4 => ?_) (fun c4 => ?_)
      · have hf := ha_it hf c4
        exact J31  S H locs ls hf  hP hD hS (lv_sub hl [0, 1] rfl)
      · have hf := ha_if hf c4
        refine lv_aload_n hx hb dX11_towers_21 rfl (lv_at hl 0 rfl) ?_
        obtain ⟨r5, wr5, hf⟩ := ha_bds hf
        obtain ⟨wr5, hr5⟩ := ha_rf_some wr5
        refine ha_getr hx hb hown hK hP q70 hN h0 wr5 dX11_towers_22 ?_
        refine ha_geti hx hb hown hK hP q104 hN hr5 dX11_towers_25 ?_
        refine lv_if_le (tgt := 33) hx hb dX11_towers_28 (by decide) (fun c6 => ?_) (fun c6 => ?_)
        · have hf := ha_it hf c6
          refine lv_aload_n hx hb dX11_towers_33 rfl (lv_at hl 0 rfl) ?_
          obtain ⟨r7, wr7, hf⟩ := ha_bds hf
          obtain ⟨wr7, hr7⟩ := ha_rf_some wr7
          refine ha_getr hx hb hown hK hP q19 hN h0 wr7 dX11_towers_34 ?_
          refine lv_iload_n hx hb dX11_towers_37 rfl (lv_at hl 1 rfl) ?_
          refine ha_puti hx hb hown hK hP hD hS r107 hN hr7 dX11_towers_38 (fun S8 H locs eS8 hP hD hS => ?_)
          have hf := ha_nms hf eS8
          refine lv_iconst (v := 1) hx hb dX11_towers_41 (by decide) ?_
          have he := Option.some.inj hf
          exact ha_retz hx hb hr hlocks hP hD hS dX11_towers_42 (by decide) (ha_e1 he) (ha_e2 he)
        · have hf := ha_if hf c6
          exact J31  S H locs ls hf  hP hD hS (lv_sub hl [0, 1] rfl)

set_option maxHeartbeats 4000000 in
set_option maxRecDepth 100000 in
theorem c_X11_fault {l : Launch} {D : va_G} {cs : Nat → ClassId} {ad adK adV : Nat → Nat} {N : List Nat} {Z : State → Prop} (hZ : ha_Zok (ha_A ad N) Z) (hN : ∀ x, xo_kd x < 999 → x ∈ N) (hX : ∀ U, Z U → xo_Z adK adV (ha_A ad N) U) {p0 : Nat} {S : ha_St} {out : Int32 × ha_St} (h0 : xo_kd p0 = 11) (hf : f_X11_fault p0 S = some out) : ha_Ci l D cs ad xo_kd xo_ln N Z yX11_fault wsX11_fault ({ frames := 0, cells := 0, slots := 0, locals := 0 } : Room) [.ref (ad p0)] S out.1 out.2 := by
  refine Met.ofW (cc := cX11_fault) (maxL := 1) (ret := (some .int)) (by decide +kernel) rfl ?_
  intro p e s m args below meth c s₁ B hml hv
  obtain ⟨rfl, hP, hD, hK, hz⟩ := hv
  have hx := B.exec
  have hb := B.bytes
  have hr := B.returns
  have hts := atoms_spec (ws := wsX11_fault) B.pre
  have hown : s.vm.findClass RX11 = some m.cls := findClass_of_methodNamed B.named
  have hlocks := B.notSynchronized
  have hS : va_S (ha_A ad N) s.heap s.heap [] := va_S.rf
  have hi11 : ∀ w ∈ wsX110, w ∈ wsX11_fault := fun w h => List.mem_cons_of_mem _ (List.mem_append_right _ h)
  have q117 : ha_Fk s ([.ref (ad p0)] : List Value).toArray RX11 117 11 12 0 := ⟨RX11, TX11, 17, wsX11_fault, rfl, by decide, by decide, rfl, rfl, hts, hi11, hts (.fieldLink RX11 117 "HillArms" "latestFault" "I") (by decide +kernel)⟩
  have hl := lv_entry ([.ref (ad p0)]) (n := 1) (Nat.le_of_ble_eq_true rfl)
  rw [lg_entry_eq]
  generalize (lg_sl ([.ref (ad p0)]) ++ List.replicate (1 - (lg_sl ([.ref (ad p0)])).length) Slot.unset).toArray = ls at hl ⊢
  have hl : lv_has ls 1 [(0, .ref (ad p0))] := hl
  refine (fun (K0 : ∀ (H : Heap) (locs : List Loc), va_P D vwCl (ha_wl cs ad xo_kd xo_ln N S) H → va_S (ha_A ad N) s.heap H locs → W p l e (headSpec wsX11_fault ({ frames := 0, cells := 0, slots := 0, locals := 0 } : Room)).room s m ([.ref (ad p0)] : List Value).toArray below meth c H locs 0 0 (MQ below (va_Qi (fun (r : Int32) (_ : Unit) => r = out.1) (fun _ => ha_H D cs ad xo_kd xo_ln N out.2) (ha_A ad N)) ([.ref (ad p0)] : List Value).toArray s 0 0 (ha_A ad N)) (F0 m 0 ls [])) => K0 _ _ hP hS) ?_
  intro H locs hP hS
  have hf := ha_rt hf
  unfold f_X11_fault at hf
  refine lv_aload_n hx hb dX11_fault_0 rfl (lv_at hl 0 rfl) ?_
  refine ha_geti hx hb hown hK hP q117 hN h0 dX11_fault_1 ?_
  have he := Option.some.inj hf
  exact ha_reti hx hb hr hlocks hP hD hS dX11_fault_4 (ha_e1 he) (ha_e2 he)

set_option maxHeartbeats 4000000 in
set_option maxRecDepth 100000 in
theorem c_X11_message {l : Launch} {D : va_G} {cs : Nat → ClassId} {ad adK adV : Nat → Nat} {N : List Nat} {Z : State → Prop} (hZ : ha_Zok (ha_A ad N) Z) (hN : ∀ x, xo_kd x < 999 → x ∈ N) (hX : ∀ U, Z U → xo_Z adK adV (ha_A ad N) U) {p0 : Nat} {S : ha_St} {out : Int32 × ha_St} (h0 : xo_kd p0 = 11) (hf : f_X11_message p0 S = some out) : ha_Ci l D cs ad xo_kd xo_ln N Z yX11_message wsX11_message ({ frames := 2, cells := 0, slots := 0, locals := 48 } : Room) [.ref (ad p0)] S out.1 out.2 := by
  refine Met.ofW (cc := cX11_message) (maxL := 2) (ret := (some .boolean)) (by decide +kernel) rfl ?_
  intro p e s m args below meth c s₁ B hml hv
  obtain ⟨rfl, hP, hD, hK, hz⟩ := hv
  have hx := B.exec
  have hb := B.bytes
  have hr := B.returns
  have hts := atoms_spec (ws := wsX11_message) B.pre
  have hown : s.vm.findClass RX11 = some m.cls := findClass_of_methodNamed B.named
  have hlocks := B.notSynchronized
  have hS : va_S (ha_A ad N) s.heap s.heap [] := va_S.rf
  have hi10 : ∀ w ∈ wsX100, w ∈ wsX11_message := fun w h => List.mem_cons_of_mem _ (List.mem_append_left _ (List.mem_append_right _ h))
  have hi11 : ∀ w ∈ wsX110, w ∈ wsX11_message := fun w h => List.mem_cons_of_mem _ (List.mem_append_left _ (List.mem_append_left _ (List.mem_append_right _ h)))
  have q19 : ha_Fk s ([.ref (ad p0)] : List Value).toArray RX11 19 11 1 1 := ⟨RX11, TX11, 17, wsX11_message, rfl, by decide, by decide, rfl, rfl, hts, hi11, hts (.fieldLink RX11 19 "HillArms" "crew" "LHillArms$Crew;") (by decide +kernel)⟩
  have q10 : ha_Fk s ([.ref (ad p0)] : List Value).toArray RX11 10 11 0 1 := ⟨RX11, TX11, 17, wsX11_message, rfl, by decide, by decide, rfl, rfl, hts, hi11, hts (.fieldLink RX11 10 "HillArms" "tape" "LHillArms$Tape;") (by decide +kernel)⟩
  have r92 : ha_Fp s ([.ref (ad p0)] : List Value).toArray RX11 92 10 1 0 .int := ⟨RX10, TX10, 2, wsX11_message, tyX10, rfl, by decide, by decide, rfl, rfl, hts, hi10, hts (.fieldLink RX11 92 "HillArms$Tape" "size" "I") (by decide +kernel), tyX10_ok, nmX10, rfl, by decide +kernel⟩
  have cw0 := cwV (R := (headSpec wsX11_message ({ frames := 2, cells := 0, slots := 0, locals := 48 } : Room)).room) 1 hts gX11_message_X1_takeMessage (rm := ({ frames := 1, cells := 0, slots := 0, locals := 26 } : Room)) (mc := 0) (ms := 0) rfl rfl rfl (by decide +kernel) ⟨Nat.le_of_ble_eq_true rfl, Nat.le_of_ble_eq_true rfl⟩
  have hl := lv_entry ([.ref (ad p0)]) (n := 2) (Nat.le_of_ble_eq_true rfl)
  rw [lg_entry_eq]
  generalize (lg_sl ([.ref (ad p0)]) ++ List.replicate (2 - (lg_sl ([.ref (ad p0)])).length) Slot.unset).toArray = ls at hl ⊢
  have hl : lv_has ls 2 [(0, .ref (ad p0))] := hl
  refine (fun (K0 : ∀ (H : Heap) (locs : List Loc), va_P D vwCl (ha_wl cs ad xo_kd xo_ln N S) H → va_S (ha_A ad N) s.heap H locs → W p l e (headSpec wsX11_message ({ frames := 2, cells := 0, slots := 0, locals := 48 } : Room)).room s m ([.ref (ad p0)] : List Value).toArray below meth c H locs 0 0 (MQ below (va_Qi (fun (r : Int32) (_ : Unit) => r = out.1) (fun _ => ha_H D cs ad xo_kd xo_ln N out.2) (ha_A ad N)) ([.ref (ad p0)] : List Value).toArray s 0 0 (ha_A ad N)) (F0 m 0 ls [])) => K0 _ _ hP hS) ?_
  intro H locs hP hS
  have hf := ha_rt hf
  unfold f_X11_message at hf
  refine lv_aload_n hx hb dX11_message_0 rfl (lv_at hl 0 rfl) ?_
  obtain ⟨r1, wr1, hf⟩ := ha_bds hf
  obtain ⟨wr1, hr1⟩ := ha_rf_some wr1
  refine ha_getr hx hb hown hK hP q19 hN h0 wr1 dX11_message_1 ?_
  refine lv_aload_n hx hb dX11_message_4 rfl (lv_at hl 0 rfl) ?_
  obtain ⟨r2, wr2, hf⟩ := ha_bds hf
  obtain ⟨wr2, hr2⟩ := ha_rf_some wr2
  refine ha_getr hx hb hown hK hP q10 hN h0 wr2 dX11_message_5 ?_
  obtain ⟨z3, wz3, hf⟩ := ha_bds hf
  refine ha_callVi (As := [.ref (ad r2)]) (rest := []) hZ ⟨hx, hb, hml, hown, hts⟩ hK hz hP hD hS (c_X1_takeMessage hZ hN hX hr1 hr2 wz3) cw0 hN hr1 (by decide) rfl rfl hl.1 rfl (Nat.le_of_ble_eq_true rfl) dX11_message_8 ⟨Nat.le_of_ble_eq_true rfl, Nat.le_of_ble_eq_true rfl⟩ (fun H locs hP hD hS => ?_)
  refine lv_istore_n (lv' := [(1, .int z3.1), (0, .ref (ad p0))]) hx hb dX11_message_11 rfl hl (by decide) rfl (fun ls hl => ?_)
  refine lv_aload_n hx hb dX11_message_12 rfl (lv_at hl 1 rfl) ?_
  obtain ⟨r4, wr4, hf⟩ := ha_bds hf
  obtain ⟨wr4, hr4⟩ := ha_rf_some wr4
  refine ha_getr hx hb hown hK hP q10 hN h0 wr4 dX11_message_13 ?_
  refine lv_iconst (v := 0) hx hb dX11_message_16 (by decide) ?_
  refine ha_puti hx hb hown hK hP hD hS r92 hN hr4 dX11_message_17 (fun S5 H locs eS5 hP hD hS => ?_)
  have hf := ha_nms hf eS5
  refine lv_iload_n hx hb dX11_message_20 rfl (lv_at hl 0 rfl) ?_
  obtain ⟨g6, hf⟩ := ha_gds hf
  have he := Option.some.inj hf
  exact ha_retz hx hb hr hlocks hP hD hS dX11_message_21 g6 (ha_e1 he) (ha_e2 he)

set_option maxHeartbeats 4000000 in
set_option maxRecDepth 100000 in
theorem c_X11_fog {l : Launch} {D : va_G} {cs : Nat → ClassId} {ad adK adV : Nat → Nat} {N : List Nat} {Z : State → Prop} (hZ : ha_Zok (ha_A ad N) Z) (hN : ∀ x, xo_kd x < 999 → x ∈ N) (hX : ∀ U, Z U → xo_Z adK adV (ha_A ad N) U) {p0 : Nat} {p1 : Int32} {p2 : Int32} {p3 : Int32} {S : ha_St} {out : Int32 × ha_St} (h0 : xo_kd p0 = 11) (hf : f_X11_fog p0 p1 p2 p3 S = some out) : ha_Ci l D cs ad xo_kd xo_ln N Z yX11_fog wsX11_fog ({ frames := 1, cells := 0, slots := 0, locals := 24 } : Room) [.ref (ad p0), .int p1, .int p2, .int p3] S out.1 out.2 := by
  refine Met.ofW (cc := cX11_fog) (maxL := 4) (ret := (some .int)) (by decide +kernel) rfl ?_
  intro p e s m args below meth c s₁ B hml hv
  obtain ⟨rfl, hP, hD, hK, hz⟩ := hv
  have hx := B.exec
  have hb := B.bytes
  have hr := B.returns
  have hts := atoms_spec (ws := wsX11_fog) B.pre
  have hown : s.vm.findClass RX11 = some m.cls := findClass_of_methodNamed B.named
  have hlocks := B.notSynchronized
  have hS : va_S (ha_A ad N) s.heap s.heap [] := va_S.rf
  have hi1 : ∀ w ∈ wsX10, w ∈ wsX11_fog := fun w h => List.mem_cons_of_mem _ (List.mem_append_right _ h)
  have hi11 : ∀ w ∈ wsX110, w ∈ wsX11_fog := fun w h => List.mem_cons_of_mem _ (List.mem_append_left _ (List.mem_append_right _ h))
  have q19 : ha_Fk s ([.ref (ad p0), .int p1, .int p2, .int p3] : List Value).toArray RX11 19 11 1 1 := ⟨RX11, TX11, 17, wsX11_fog, rfl, by decide, by decide, rfl, rfl, hts, hi11, hts (.fieldLink RX11 19 "HillArms" "crew" "LHillArms$Crew;") (by decide +kernel)⟩
  have q101 : ha_Fk s ([.ref (ad p0), .int p1, .int p2, .int p3] : List Value).toArray RX11 101 1 7 0 := ⟨RX1, TX1, 8, wsX11_fog, rfl, by decide, by decide, rfl, rfl, hts, hi1, hts (.fieldLink RX11 101 "HillArms$Crew" "fogs" "I") (by decide +kernel)⟩
  have q107 : ha_Fk s ([.ref (ad p0), .int p1, .int p2, .int p3] : List Value).toArray RX11 107 1 5 0 := ⟨RX1, TX1, 8, wsX11_fog, rfl, by decide, by decide, rfl, rfl, hts, hi1, hts (.fieldLink RX11 107 "HillArms$Crew" "towers" "I") (by decide +kernel)⟩
  have cw0 := cwV (R := (headSpec wsX11_fog ({ frames := 1, cells := 0, slots := 0, locals := 24 } : Room)).room) 3 hts gX11_fog_X1_addFog (rm := ({ frames := 0, cells := 0, slots := 0, locals := 0 } : Room)) (mc := 0) (ms := 0) rfl rfl rfl (by decide +kernel) ⟨Nat.le_of_ble_eq_true rfl, Nat.le_of_ble_eq_true rfl⟩
  have hl := lv_entry ([.ref (ad p0), .int p1, .int p2, .int p3]) (n := 4) (Nat.le_of_ble_eq_true rfl)
  rw [lg_entry_eq]
  generalize (lg_sl ([.ref (ad p0), .int p1, .int p2, .int p3]) ++ List.replicate (4 - (lg_sl ([.ref (ad p0), .int p1, .int p2, .int p3])).length) Slot.unset).toArray = ls at hl ⊢
  have hl : lv_has ls 4 [(0, .ref (ad p0)), (1, .int p1), (2, .int p2), (3, .int p3)] := hl
  refine (fun (K0 : ∀ (H : Heap) (locs : List Loc), va_P D vwCl (ha_wl cs ad xo_kd xo_ln N S) H → va_S (ha_A ad N) s.heap H locs → W p l e (headSpec wsX11_fog ({ frames := 1, cells := 0, slots := 0, locals := 24 } : Room)).room s m ([.ref (ad p0), .int p1, .int p2, .int p3] : List Value).toArray below meth c H locs 0 0 (MQ below (va_Qi (fun (r : Int32) (_ : Unit) => r = out.1) (fun _ => ha_H D cs ad xo_kd xo_ln N out.2) (ha_A ad N)) ([.ref (ad p0), .int p1, .int p2, .int p3] : List Value).toArray s 0 0 (ha_A ad N)) (F0 m 0 ls [])) => K0 _ _ hP hS) ?_
  intro H locs hP hS
  have hf := ha_rt hf
  have J46 : ∀  (S : ha_St) (H : Heap) (locs : List Loc) (ls : Array Slot), (f_X11_fog_J46 p0 p1 p2 p3  S).bind some = some out → va_P D vwCl (ha_wl cs ad xo_kd xo_ln N S) H → va_D (ha_A ad N) (ha_wl cs ad xo_kd xo_ln N S) → va_S (ha_A ad N) s.heap H locs → lv_has ls 4 [(0, .ref (ad p0)), (1, .int p1), (2, .int p2), (3, .int p3)] → W p l e (headSpec wsX11_fog ({ frames := 1, cells := 0, slots := 0, locals := 24 } : Room)).room s m ([.ref (ad p0), .int p1, .int p2, .int p3] : List Value).toArray below meth c H locs 0 0 (MQ below (va_Qi (fun (r : Int32) (_ : Unit) => r = out.1) (fun _ => ha_H D cs ad xo_kd xo_ln N out.2) (ha_A ad N)) ([.ref (ad p0), .int p1, .int p2, .int p3] : List Value).toArray s 0 0 (ha_A ad N)) (F0 m 46 ls []) := by
    intro  S H locs ls hf  hP hD hS hl
    unfold f_X11_fog_J46 at hf
    refine lv_iconst (v := (-1)) hx hb dX11_fog_46 (by decide) ?_
    have he := Option.some.inj hf
    exact ha_reti hx hb hr hlocks hP hD hS dX11_fog_47 (ha_e1 he) (ha_e2 he)
  unfold f_X11_fog at hf
  refine lv_aload_n hx hb dX11_fog_0 rfl (lv_at hl 0 rfl) ?_
  obtain ⟨r1, wr1, hf⟩ := ha_bds hf
  obtain ⟨wr1, hr1⟩ := ha_rf_some wr1
  refine ha_getr hx hb hown hK hP q19 hN h0 wr1 dX11_fog_1 ?_
  refine ha_geti hx hb hown hK hP q101 hN hr1 dX11_fog_4 ?_
  refine lv_bipush (v := 60) hx hb dX11_fog_7 (by decide) ?_
  refine lv_icmp_ge (tgt := 46) hx hb dX11_fog_9 (by decide) (fun c2 => ?_) (fun c2 => ?_)
  · have hf := ha_it hf c2
    exact J46  S H locs ls hf  hP hD hS (lv_sub hl [0, 1, 2, 3] rfl)
  · have hf := ha_if hf c2
    refine lv_iload_n hx hb dX11_fog_12 rfl (lv_at hl 1 rfl) ?_
    refine lv_if_lt (tgt := 46) hx hb dX11_fog_13 (by decide) (fun c3 => ?_) (fun c3 => ?_)
    · have hf := ha_it hf c3
      exact J46  S H locs ls hf  hP hD hS (lv_sub hl [0, 1, 2, 3] rfl)
    · have hf := ha_if hf c3
      refine lv_iload_n hx hb dX11_fog_16 rfl (lv_at hl 1 rfl) ?_
      refine lv_aload_n hx hb dX11_fog_17 rfl (lv_at hl 0 rfl) ?_
      obtain ⟨r4, wr4, hf⟩ := ha_bds hf
      obtain ⟨wr4, hr4⟩ := ha_rf_some wr4
      refine ha_getr hx hb hown hK hP q19 hN h0 wr4 dX11_fog_18 ?_
      refine ha_geti hx hb hown hK hP q107 hN hr4 dX11_fog_21 ?_
      refine lv_iconst (v := 1) hx hb dX11_fog_24 (by decide) ?_
      refine lv_isub hx hb dX11_fog_25 ?_
      refine lv_icmp_ge (tgt := 46) hx hb dX11_fog_26 (by decide) (fun c5 => ?_) (fun c5 => ?_)
      · have hf := ha_it hf c5
        exact J46  S H locs ls hf  hP hD hS (lv_sub hl [0, 1, 2, 3] rfl)
      · have hf := ha_if hf c5
        refine lv_iload_n hx hb dX11_fog_29 rfl (lv_at hl 2 rfl) ?_
        refine lv_iconst (v := 1) hx hb dX11_fog_30 (by decide) ?_
        refine lv_icmp_lt (tgt := 46) hx hb dX11_fog_31 (by decide) (fun c6 => ?_) (fun c6 => ?_)
        · have hf := ha_it hf c6
          exact J46  S H locs ls hf  hP hD hS (lv_sub hl [0, 1, 2, 3] rfl)
        · have hf := ha_if hf c6
          refine lv_iload_n hx hb dX11_fog_34 rfl (lv_at hl 3 rfl) ?_
          refine lv_iload_n hx hb dX11_fog_35 rfl (lv_at hl 2 rfl) ?_
          refine lv_icmp_lt (tgt := 46) hx hb dX11_fog_36 (by decide) (fun c7 => ?_) (fun c7 => ?_)
          · have hf := ha_it hf c7
            exact J46  S H locs ls hf  hP hD hS (lv_sub hl [0, 1, 2, 3] rfl)
          · have hf := ha_if hf c7
            refine lv_iload_n hx hb dX11_fog_39 rfl (lv_at hl 3 rfl) ?_
            refine lv_sipush (v := 500) hx hb dX11_fog_40 (by decide) ?_
            refine lv_icmp_le (tgt := 48) hx hb dX11_fog_43 (by decide) (fun c8 => ?_) (fun c8 => ?_)
            · have hf := ha_it hf c8
              refine lv_aload_n hx hb dX11_fog_48 rfl (lv_at hl 0 rfl) ?_
              obtain ⟨r9, wr9, hf⟩ := ha_bds hf
              obtain ⟨wr9, hr9⟩ := ha_rf_some wr9
              refine ha_getr hx hb hown hK hP q19 hN h0 wr9 dX11_fog_49 ?_
              refine lv_iload_n hx hb dX11_fog_52 rfl (lv_at hl 1 rfl) ?_
              refine lv_iload_n hx hb dX11_fog_53 rfl (lv_at hl 2 rfl) ?_
              refine lv_iload_n hx hb dX11_fog_54 rfl (lv_at hl 3 rfl) ?_
              obtain ⟨z10, wz10, hf⟩ := ha_bds hf
              refine ha_callVi (As := [.int p1, .int p2, .int p3]) (rest := []) hZ ⟨hx, hb, hml, hown, hts⟩ hK hz hP hD hS (c_X1_addFog hZ hN hX hr9 wz10) cw0 hN hr9 (by decide) rfl rfl hl.1 rfl (Nat.le_of_ble_eq_true rfl) dX11_fog_55 ⟨Nat.le_of_ble_eq_true rfl, Nat.le_of_ble_eq_true rfl⟩ (fun H locs hP hD hS => ?_)
              have he := Option.some.inj hf
              exact ha_reti hx hb hr hlocks hP hD hS dX11_fog_58 (ha_e1 he) (ha_e2 he)
            · have hf := ha_if hf c8
              exact J46  S H locs ls hf  hP hD hS (lv_sub hl [0, 1, 2, 3] rfl)

set_option maxHeartbeats 4000000 in
set_option maxRecDepth 100000 in
theorem c_X11_play {l : Launch} {D : va_G} {cs : Nat → ClassId} {ad adK adV : Nat → Nat} {N : List Nat} {Z : State → Prop} (hZ : ha_Zok (ha_A ad N) Z) (hN : ∀ x, xo_kd x < 999 → x ∈ N) (hX : ∀ U, Z U → xo_Z adK adV (ha_A ad N) U) {p0 : Nat} {p1 : Int32} {S : ha_St} {out : Int32 × ha_St} (h0 : xo_kd p0 = 11) (hf : f_X11_play p0 p1 S = some out) : ha_Ci l D cs ad xo_kd xo_ln N Z yX11_play wsX11_play ({ frames := 4, cells := 0, slots := 0, locals := 105 } : Room) [.ref (ad p0), .int p1] S out.1 out.2 := by
  refine Met.ofW (cc := cX11_play) (maxL := 2) (ret := (some .int)) (by decide +kernel) rfl ?_
  intro p e s m args below meth c s₁ B hml hv
  obtain ⟨rfl, hP, hD, hK, hz⟩ := hv
  have hx := B.exec
  have hb := B.bytes
  have hr := B.returns
  have hts := atoms_spec (ws := wsX11_play) B.pre
  have hown : s.vm.findClass RX11 = some m.cls := findClass_of_methodNamed B.named
  have hlocks := B.notSynchronized
  have hS : va_S (ha_A ad N) s.heap s.heap [] := va_S.rf
  have hi5 : ∀ w ∈ wsX50, w ∈ wsX11_play := fun w h => List.mem_cons_of_mem _ (List.mem_append_left _ (List.mem_append_left _ (List.mem_append_right _ h)))
  have hi7 : ∀ w ∈ wsX70, w ∈ wsX11_play := fun w h => List.mem_cons_of_mem _ (List.mem_append_left _ (List.mem_append_left _ (List.mem_append_left _ (List.mem_append_right _ h))))
  have hi11 : ∀ w ∈ wsX110, w ∈ wsX11_play := fun w h => List.mem_cons_of_mem _ (List.mem_append_left _ (List.mem_append_left _ (List.mem_append_left _ (List.mem_append_left _ (List.mem_append_right _ h)))))
  have q33 : ha_Fk s ([.ref (ad p0), .int p1] : List Value).toArray RX11 33 11 3 1 := ⟨RX11, TX11, 17, wsX11_play, rfl, by decide, by decide, rfl, rfl, hts, hi11, hts (.fieldLink RX11 33 "HillArms" "latestPlay" "LHillArms$Play;") (by decide +kernel)⟩
  have q19 : ha_Fk s ([.ref (ad p0), .int p1] : List Value).toArray RX11 19 11 1 1 := ⟨RX11, TX11, 17, wsX11_play, rfl, by decide, by decide, rfl, rfl, hts, hi11, hts (.fieldLink RX11 19 "HillArms" "crew" "LHillArms$Crew;") (by decide +kernel)⟩
  have q142 : ha_Fk s ([.ref (ad p0), .int p1] : List Value).toArray RX11 142 7 0 1 := ⟨RX7, TX7, 5, wsX11_play, rfl, by decide, by decide, rfl, rfl, hts, hi7, hts (.fieldLink RX11 142 "HillArms$Play" "line" "LHillArms$Line;") (by decide +kernel)⟩
  have q146 : ha_Fk s ([.ref (ad p0), .int p1] : List Value).toArray RX11 146 5 5 0 := ⟨RX5, TX5, 8, wsX11_play, rfl, by decide, by decide, rfl, rfl, hts, hi5, hts (.fieldLink RX11 146 "HillArms$Line" "wrote" "I") (by decide +kernel)⟩
  have cw0 := cwV (R := (headSpec wsX11_play ({ frames := 4, cells := 0, slots := 0, locals := 105 } : Room)).room) 2 hts gX11_play_X7_run (rm := ({ frames := 3, cells := 0, slots := 0, locals := 82 } : Room)) (mc := 0) (ms := 0) rfl rfl rfl (by decide +kernel) ⟨Nat.le_of_ble_eq_true rfl, Nat.le_of_ble_eq_true rfl⟩
  have hl := lv_entry ([.ref (ad p0), .int p1]) (n := 2) (Nat.le_of_ble_eq_true rfl)
  rw [lg_entry_eq]
  generalize (lg_sl ([.ref (ad p0), .int p1]) ++ List.replicate (2 - (lg_sl ([.ref (ad p0), .int p1])).length) Slot.unset).toArray = ls at hl ⊢
  have hl : lv_has ls 2 [(0, .ref (ad p0)), (1, .int p1)] := hl
  refine (fun (K0 : ∀ (H : Heap) (locs : List Loc), va_P D vwCl (ha_wl cs ad xo_kd xo_ln N S) H → va_S (ha_A ad N) s.heap H locs → W p l e (headSpec wsX11_play ({ frames := 4, cells := 0, slots := 0, locals := 105 } : Room)).room s m ([.ref (ad p0), .int p1] : List Value).toArray below meth c H locs 0 0 (MQ below (va_Qi (fun (r : Int32) (_ : Unit) => r = out.1) (fun _ => ha_H D cs ad xo_kd xo_ln N out.2) (ha_A ad N)) ([.ref (ad p0), .int p1] : List Value).toArray s 0 0 (ha_A ad N)) (F0 m 0 ls [])) => K0 _ _ hP hS) ?_
  intro H locs hP hS
  have hf := ha_rt hf
  have J11 : ∀  (S : ha_St) (H : Heap) (locs : List Loc) (ls : Array Slot), (f_X11_play_J11 p0 p1  S).bind some = some out → va_P D vwCl (ha_wl cs ad xo_kd xo_ln N S) H → va_D (ha_A ad N) (ha_wl cs ad xo_kd xo_ln N S) → va_S (ha_A ad N) s.heap H locs → lv_has ls 2 [(0, .ref (ad p0)), (1, .int p1)] → W p l e (headSpec wsX11_play ({ frames := 4, cells := 0, slots := 0, locals := 105 } : Room)).room s m ([.ref (ad p0), .int p1] : List Value).toArray below meth c H locs 0 0 (MQ below (va_Qi (fun (r : Int32) (_ : Unit) => r = out.1) (fun _ => ha_H D cs ad xo_kd xo_ln N out.2) (ha_A ad N)) ([.ref (ad p0), .int p1] : List Value).toArray s 0 0 (ha_A ad N)) (F0 m 11 ls []) := by
    intro  S H locs ls hf  hP hD hS hl
    unfold f_X11_play_J11 at hf
    refine lv_iconst (v := (-1)) hx hb dX11_play_11 (by decide) ?_
    have he := Option.some.inj hf
    exact ha_reti hx hb hr hlocks hP hD hS dX11_play_12 (ha_e1 he) (ha_e2 he)
  unfold f_X11_play at hf
  refine lv_iload_n hx hb dX11_play_0 rfl (lv_at hl 1 rfl) ?_
  refine lv_if_lt (tgt := 11) hx hb dX11_play_1 (by decide) (fun c1 => ?_) (fun c1 => ?_)
  · have hf := ha_it hf c1
    exact J11  S H locs ls hf  hP hD hS (lv_sub hl [0, 1] rfl)
  · have hf := ha_if hf c1
    refine lv_iload_n hx hb dX11_play_4 rfl (lv_at hl 1 rfl) ?_
    refine lv_sipush (v := 500) hx hb dX11_play_5 (by decide) ?_
    refine lv_icmp_le (tgt := 13) hx hb dX11_play_8 (by decide) (fun c2 => ?_) (fun c2 => ?_)
    · have hf := ha_it hf c2
      refine lv_aload_n hx hb dX11_play_13 rfl (lv_at hl 0 rfl) ?_
      obtain ⟨r3, wr3, hf⟩ := ha_bds hf
      obtain ⟨wr3, hr3⟩ := ha_rf_some wr3
      refine ha_getr hx hb hown hK hP q33 hN h0 wr3 dX11_play_14 ?_
      refine lv_aload_n hx hb dX11_play_17 rfl (lv_at hl 0 rfl) ?_
      obtain ⟨r4, wr4, hf⟩ := ha_bds hf
      obtain ⟨wr4, hr4⟩ := ha_rf_some wr4
      refine ha_getr hx hb hown hK hP q19 hN h0 wr4 dX11_play_18 ?_
      refine lv_iload_n hx hb dX11_play_21 rfl (lv_at hl 1 rfl) ?_
      obtain ⟨z5, wz5, hf⟩ := ha_bds hf
      refine ha_callVv (As := [.ref (ad r4), .int p1]) (rest := []) hZ ⟨hx, hb, hml, hown, hts⟩ hK hz hP hD hS (c_X7_run hZ hN hX hr3 hr4 wz5) cw0 hN hr3 (by decide) rfl rfl hl.1 rfl (Nat.le_of_ble_eq_true rfl) dX11_play_22 ⟨Nat.le_of_ble_eq_true rfl, Nat.le_of_ble_eq_true rfl⟩ (fun H locs hP hD hS => ?_)
      refine lv_aload_n hx hb dX11_play_25 rfl (lv_at hl 0 rfl) ?_
      obtain ⟨r6, wr6, hf⟩ := ha_bds hf
      obtain ⟨wr6, hr6⟩ := ha_rf_some wr6
      refine ha_getr hx hb hown hK hP q33 hN h0 wr6 dX11_play_26 ?_
      obtain ⟨r7, wr7, hf⟩ := ha_bds hf
      obtain ⟨wr7, hr7⟩ := ha_rf_some wr7
      refine ha_getr hx hb hown hK hP q142 hN hr6 wr7 dX11_play_29 ?_
      refine ha_geti hx hb hown hK hP q146 hN hr7 dX11_play_32 ?_
      have he := Option.some.inj hf
      exact ha_reti hx hb hr hlocks hP hD hS dX11_play_35 (ha_e1 he) (ha_e2 he)
    · have hf := ha_if hf c2
      exact J11  S H locs ls hf  hP hD hS (lv_sub hl [0, 1] rfl)

set_option maxHeartbeats 4000000 in
set_option maxRecDepth 100000 in
theorem c_X11_shown {l : Launch} {D : va_G} {cs : Nat → ClassId} {ad adK adV : Nat → Nat} {N : List Nat} {Z : State → Prop} (hZ : ha_Zok (ha_A ad N) Z) (hN : ∀ x, xo_kd x < 999 → x ∈ N) (hX : ∀ U, Z U → xo_Z adK adV (ha_A ad N) U) {p0 : Nat} {p1 : Int32} {p2 : Int32} {S : ha_St} {out : Int32 × ha_St} (h0 : xo_kd p0 = 11) (hf : f_X11_shown p0 p1 p2 S = some out) : ha_Ci l D cs ad xo_kd xo_ln N Z yX11_shown wsX11_shown ({ frames := 1, cells := 0, slots := 0, locals := 21 } : Room) [.ref (ad p0), .int p1, .int p2] S out.1 out.2 := by
  refine Met.ofW (cc := cX11_shown) (maxL := 3) (ret := (some .int)) (by decide +kernel) rfl ?_
  intro p e s m args below meth c s₁ B hml hv
  obtain ⟨rfl, hP, hD, hK, hz⟩ := hv
  have hx := B.exec
  have hb := B.bytes
  have hr := B.returns
  have hts := atoms_spec (ws := wsX11_shown) B.pre
  have hown : s.vm.findClass RX11 = some m.cls := findClass_of_methodNamed B.named
  have hlocks := B.notSynchronized
  have hS : va_S (ha_A ad N) s.heap s.heap [] := va_S.rf
  have hi7 : ∀ w ∈ wsX70, w ∈ wsX11_shown := fun w h => List.mem_cons_of_mem _ (List.mem_append_left _ (List.mem_append_right _ h))
  have hi11 : ∀ w ∈ wsX110, w ∈ wsX11_shown := fun w h => List.mem_cons_of_mem _ (List.mem_append_left _ (List.mem_append_left _ (List.mem_append_right _ h)))
  have q33 : ha_Fk s ([.ref (ad p0), .int p1, .int p2] : List Value).toArray RX11 33 11 3 1 := ⟨RX11, TX11, 17, wsX11_shown, rfl, by decide, by decide, rfl, rfl, hts, hi11, hts (.fieldLink RX11 33 "HillArms" "latestPlay" "LHillArms$Play;") (by decide +kernel)⟩
  have q155 : ha_Fk s ([.ref (ad p0), .int p1, .int p2] : List Value).toArray RX11 155 7 2 0 := ⟨RX7, TX7, 5, wsX11_shown, rfl, by decide, by decide, rfl, rfl, hts, hi7, hts (.fieldLink RX11 155 "HillArms$Play" "ticks" "I") (by decide +kernel)⟩
  have q158 : ha_Fk s ([.ref (ad p0), .int p1, .int p2] : List Value).toArray RX11 158 7 1 1 := ⟨RX7, TX7, 5, wsX11_shown, rfl, by decide, by decide, rfl, rfl, hts, hi7, hts (.fieldLink RX11 158 "HillArms$Play" "signs" "[I") (by decide +kernel)⟩
  have cw0 := cwV (R := (headSpec wsX11_shown ({ frames := 1, cells := 0, slots := 0, locals := 21 } : Room)).room) 1 hts gX11_shown_X7_hasTower (rm := ({ frames := 0, cells := 0, slots := 0, locals := 0 } : Room)) (mc := 0) (ms := 0) rfl rfl rfl (by decide +kernel) ⟨Nat.le_of_ble_eq_true rfl, Nat.le_of_ble_eq_true rfl⟩
  have hl := lv_entry ([.ref (ad p0), .int p1, .int p2]) (n := 3) (Nat.le_of_ble_eq_true rfl)
  rw [lg_entry_eq]
  generalize (lg_sl ([.ref (ad p0), .int p1, .int p2]) ++ List.replicate (3 - (lg_sl ([.ref (ad p0), .int p1, .int p2])).length) Slot.unset).toArray = ls at hl ⊢
  have hl : lv_has ls 3 [(0, .ref (ad p0)), (1, .int p1), (2, .int p2)] := hl
  refine (fun (K0 : ∀ (H : Heap) (locs : List Loc), va_P D vwCl (ha_wl cs ad xo_kd xo_ln N S) H → va_S (ha_A ad N) s.heap H locs → W p l e (headSpec wsX11_shown ({ frames := 1, cells := 0, slots := 0, locals := 21 } : Room)).room s m ([.ref (ad p0), .int p1, .int p2] : List Value).toArray below meth c H locs 0 0 (MQ below (va_Qi (fun (r : Int32) (_ : Unit) => r = out.1) (fun _ => ha_H D cs ad xo_kd xo_ln N out.2) (ha_A ad N)) ([.ref (ad p0), .int p1, .int p2] : List Value).toArray s 0 0 (ha_A ad N)) (F0 m 0 ls [])) => K0 _ _ hP hS) ?_
  intro H locs hP hS
  have hf := ha_rt hf
  have J26 : ∀  (S : ha_St) (H : Heap) (locs : List Loc) (ls : Array Slot), (f_X11_shown_J26 p0 p1 p2  S).bind some = some out → va_P D vwCl (ha_wl cs ad xo_kd xo_ln N S) H → va_D (ha_A ad N) (ha_wl cs ad xo_kd xo_ln N S) → va_S (ha_A ad N) s.heap H locs → lv_has ls 3 [(0, .ref (ad p0)), (1, .int p1), (2, .int p2)] → W p l e (headSpec wsX11_shown ({ frames := 1, cells := 0, slots := 0, locals := 21 } : Room)).room s m ([.ref (ad p0), .int p1, .int p2] : List Value).toArray below meth c H locs 0 0 (MQ below (va_Qi (fun (r : Int32) (_ : Unit) => r = out.1) (fun _ => ha_H D cs ad xo_kd xo_ln N out.2) (ha_A ad N)) ([.ref (ad p0), .int p1, .int p2] : List Value).toArray s 0 0 (ha_A ad N)) (F0 m 26 ls []) := by
    intro  S H locs ls hf  hP hD hS hl
    unfold f_X11_shown_J26 at hf
    refine lv_iconst (v := (-1)) hx hb dX11_shown_26 (by decide) ?_
    have he := Option.some.inj hf
    exact ha_reti hx hb hr hlocks hP hD hS dX11_shown_27 (ha_e1 he) (ha_e2 he)
  unfold f_X11_shown at hf
  refine lv_aload_n hx hb dX11_shown_0 rfl (lv_at hl 0 rfl) ?_
  obtain ⟨r1, wr1, hf⟩ := ha_bds hf
  obtain ⟨wr1, hr1⟩ := ha_rf_some wr1
  refine ha_getr hx hb hown hK hP q33 hN h0 wr1 dX11_shown_1 ?_
  refine lv_iload_n hx hb dX11_shown_4 rfl (lv_at hl 1 rfl) ?_
  obtain ⟨z2, wz2, hf⟩ := ha_bds hf
  refine ha_callVi (As := [.int p1]) (rest := []) hZ ⟨hx, hb, hml, hown, hts⟩ hK hz hP hD hS (c_X7_hasTower hZ hN hX hr1 wz2) cw0 hN hr1 (by decide) rfl rfl hl.1 rfl (Nat.le_of_ble_eq_true rfl) dX11_shown_5 ⟨Nat.le_of_ble_eq_true rfl, Nat.le_of_ble_eq_true rfl⟩ (fun H locs hP hD hS => ?_)
  refine lv_if_eq (tgt := 26) hx hb dX11_shown_8 (by decide) (fun c3 => ?_) (fun c3 => ?_)
  · have hf := ha_it hf c3
    exact J26  z2.2 H locs ls hf  hP hD hS (lv_sub hl [0, 1, 2] rfl)
  · have hf := ha_if hf c3
    refine lv_iload_n hx hb dX11_shown_11 rfl (lv_at hl 2 rfl) ?_
    refine lv_if_lt (tgt := 26) hx hb dX11_shown_12 (by decide) (fun c4 => ?_) (fun c4 => ?_)
    · have hf := ha_it hf c4
      exact J26  z2.2 H locs ls hf  hP hD hS (lv_sub hl [0, 1, 2] rfl)
    · have hf := ha_if hf c4
      refine lv_iload_n hx hb dX11_shown_15 rfl (lv_at hl 2 rfl) ?_
      refine lv_aload_n hx hb dX11_shown_16 rfl (lv_at hl 0 rfl) ?_
      obtain ⟨r5, wr5, hf⟩ := ha_bds hf
      obtain ⟨wr5, hr5⟩ := ha_rf_some wr5
      refine ha_getr hx hb hown hK hP q33 hN h0 wr5 dX11_shown_17 ?_
      refine ha_geti hx hb hown hK hP q155 hN hr5 dX11_shown_20 ?_
      refine lv_icmp_le (tgt := 28) hx hb dX11_shown_23 (by decide) (fun c6 => ?_) (fun c6 => ?_)
      · have hf := ha_it hf c6
        refine lv_aload_n hx hb dX11_shown_28 rfl (lv_at hl 0 rfl) ?_
        obtain ⟨r7, wr7, hf⟩ := ha_bds hf
        obtain ⟨wr7, hr7⟩ := ha_rf_some wr7
        refine ha_getr hx hb hown hK hP q33 hN h0 wr7 dX11_shown_29 ?_
        obtain ⟨r8, wr8, hf⟩ := ha_bds hf
        obtain ⟨wr8, hr8⟩ := ha_rf_some wr8
        refine ha_getr hx hb hown hK hP q158 hN hr7 wr8 dX11_shown_32 ?_
        refine lv_iload_n hx hb dX11_shown_35 rfl (lv_at hl 2 rfl) ?_
        refine lv_bipush (v := 16) hx hb dX11_shown_36 (by decide) ?_
        refine lv_imul hx hb dX11_shown_38 ?_
        refine lv_iload_n hx hb dX11_shown_39 rfl (lv_at hl 1 rfl) ?_
        refine lv_iadd hx hb dX11_shown_40 ?_
        obtain ⟨g9, hf⟩ := ha_gds hf
        refine ha_iald hx hb hK hP hN hr8 g9 dX11_shown_41 ?_
        have he := Option.some.inj hf
        exact ha_reti hx hb hr hlocks hP hD hS dX11_shown_42 (ha_e1 he) (ha_e2 he)
      · have hf := ha_if hf c6
        exact J26  z2.2 H locs ls hf  hP hD hS (lv_sub hl [0, 1, 2] rfl)

set_option maxHeartbeats 4000000 in
set_option maxRecDepth 100000 in
theorem c_X11_cell {l : Launch} {D : va_G} {cs : Nat → ClassId} {ad adK adV : Nat → Nat} {N : List Nat} {Z : State → Prop} (hZ : ha_Zok (ha_A ad N) Z) (hN : ∀ x, xo_kd x < 999 → x ∈ N) (hX : ∀ U, Z U → xo_Z adK adV (ha_A ad N) U) {p0 : Nat} {p1 : Int32} {p2 : Int32} {S : ha_St} {out : Int32 × ha_St} (h0 : xo_kd p0 = 11) (hf : f_X11_cell p0 p1 p2 S = some out) : ha_Ci l D cs ad xo_kd xo_ln N Z yX11_cell wsX11_cell ({ frames := 1, cells := 0, slots := 0, locals := 21 } : Room) [.ref (ad p0), .int p1, .int p2] S out.1 out.2 := by
  refine Met.ofW (cc := cX11_cell) (maxL := 4) (ret := (some .int)) (by decide +kernel) rfl ?_
  intro p e s m args below meth c s₁ B hml hv
  obtain ⟨rfl, hP, hD, hK, hz⟩ := hv
  have hx := B.exec
  have hb := B.bytes
  have hr := B.returns
  have hts := atoms_spec (ws := wsX11_cell) B.pre
  have hown : s.vm.findClass RX11 = some m.cls := findClass_of_methodNamed B.named
  have hlocks := B.notSynchronized
  have hS : va_S (ha_A ad N) s.heap s.heap [] := va_S.rf
  have hi5 : ∀ w ∈ wsX50, w ∈ wsX11_cell := fun w h => List.mem_cons_of_mem _ (List.mem_append_right _ h)
  have hi7 : ∀ w ∈ wsX70, w ∈ wsX11_cell := fun w h => List.mem_cons_of_mem _ (List.mem_append_left _ (List.mem_append_right _ h))
  have hi11 : ∀ w ∈ wsX110, w ∈ wsX11_cell := fun w h => List.mem_cons_of_mem _ (List.mem_append_left _ (List.mem_append_left _ (List.mem_append_right _ h)))
  have q33 : ha_Fk s ([.ref (ad p0), .int p1, .int p2] : List Value).toArray RX11 33 11 3 1 := ⟨RX11, TX11, 17, wsX11_cell, rfl, by decide, by decide, rfl, rfl, hts, hi11, hts (.fieldLink RX11 33 "HillArms" "latestPlay" "LHillArms$Play;") (by decide +kernel)⟩
  have q142 : ha_Fk s ([.ref (ad p0), .int p1, .int p2] : List Value).toArray RX11 142 7 0 1 := ⟨RX7, TX7, 5, wsX11_cell, rfl, by decide, by decide, rfl, rfl, hts, hi7, hts (.fieldLink RX11 142 "HillArms$Play" "line" "LHillArms$Line;") (by decide +kernel)⟩
  have q164 : ha_Fk s ([.ref (ad p0), .int p1, .int p2] : List Value).toArray RX11 164 5 2 1 := ⟨RX5, TX5, 8, wsX11_cell, rfl, by decide, by decide, rfl, rfl, hts, hi5, hts (.fieldLink RX11 164 "HillArms$Line" "cell" "[I") (by decide +kernel)⟩
  have q161 : ha_Fk s ([.ref (ad p0), .int p1, .int p2] : List Value).toArray RX11 161 5 1 1 := ⟨RX5, TX5, 8, wsX11_cell, rfl, by decide, by decide, rfl, rfl, hts, hi5, hts (.fieldLink RX11 161 "HillArms$Line" "time" "[I") (by decide +kernel)⟩
  have cw0 := cwV (R := (headSpec wsX11_cell ({ frames := 1, cells := 0, slots := 0, locals := 21 } : Room)).room) 1 hts gX11_cell_X7_hasTower (rm := ({ frames := 0, cells := 0, slots := 0, locals := 0 } : Room)) (mc := 0) (ms := 0) rfl rfl rfl (by decide +kernel) ⟨Nat.le_of_ble_eq_true rfl, Nat.le_of_ble_eq_true rfl⟩
  have hl := lv_entry ([.ref (ad p0), .int p1, .int p2]) (n := 4) (Nat.le_of_ble_eq_true rfl)
  rw [lg_entry_eq]
  generalize (lg_sl ([.ref (ad p0), .int p1, .int p2]) ++ List.replicate (4 - (lg_sl ([.ref (ad p0), .int p1, .int p2])).length) Slot.unset).toArray = ls at hl ⊢
  have hl : lv_has ls 4 [(0, .ref (ad p0)), (1, .int p1), (2, .int p2)] := hl
  refine (fun (K0 : ∀ (H : Heap) (locs : List Loc), va_P D vwCl (ha_wl cs ad xo_kd xo_ln N S) H → va_S (ha_A ad N) s.heap H locs → W p l e (headSpec wsX11_cell ({ frames := 1, cells := 0, slots := 0, locals := 21 } : Room)).room s m ([.ref (ad p0), .int p1, .int p2] : List Value).toArray below meth c H locs 0 0 (MQ below (va_Qi (fun (r : Int32) (_ : Unit) => r = out.1) (fun _ => ha_H D cs ad xo_kd xo_ln N out.2) (ha_A ad N)) ([.ref (ad p0), .int p1, .int p2] : List Value).toArray s 0 0 (ha_A ad N)) (F0 m 0 ls [])) => K0 _ _ hP hS) ?_
  intro H locs hP hS
  have hf := ha_rt hf
  have J54 : ∀ (k0 : Int32) (S : ha_St) (H : Heap) (locs : List Loc) (ls : Array Slot), (f_X11_cell_J54 p0 p1 p2 k0 S).bind some = some out → va_P D vwCl (ha_wl cs ad xo_kd xo_ln N S) H → va_D (ha_A ad N) (ha_wl cs ad xo_kd xo_ln N S) → va_S (ha_A ad N) s.heap H locs → lv_has ls 4 [(0, .ref (ad p0)), (1, .int p1), (2, .int p2)] → W p l e (headSpec wsX11_cell ({ frames := 1, cells := 0, slots := 0, locals := 21 } : Room)).room s m ([.ref (ad p0), .int p1, .int p2] : List Value).toArray below meth c H locs 0 0 (MQ below (va_Qi (fun (r : Int32) (_ : Unit) => r = out.1) (fun _ => ha_H D cs ad xo_kd xo_ln N out.2) (ha_A ad N)) ([.ref (ad p0), .int p1, .int p2] : List Value).toArray s 0 0 (ha_A ad N)) (F0 m 54 ls [.int k0]) := by
    intro k0 S H locs ls hf  hP hD hS hl
    unfold f_X11_cell_J54 at hf
    have he := Option.some.inj hf
    exact ha_reti hx hb hr hlocks hP hD hS dX11_cell_54 (ha_e1 he) (ha_e2 he)
  have J20 : ∀  (S : ha_St) (H : Heap) (locs : List Loc) (ls : Array Slot), (f_X11_cell_J20 p0 p1 p2  S).bind some = some out → va_P D vwCl (ha_wl cs ad xo_kd xo_ln N S) H → va_D (ha_A ad N) (ha_wl cs ad xo_kd xo_ln N S) → va_S (ha_A ad N) s.heap H locs → lv_has ls 4 [(0, .ref (ad p0)), (1, .int p1), (2, .int p2)] → W p l e (headSpec wsX11_cell ({ frames := 1, cells := 0, slots := 0, locals := 21 } : Room)).room s m ([.ref (ad p0), .int p1, .int p2] : List Value).toArray below meth c H locs 0 0 (MQ below (va_Qi (fun (r : Int32) (_ : Unit) => r = out.1) (fun _ => ha_H D cs ad xo_kd xo_ln N out.2) (ha_A ad N)) ([.ref (ad p0), .int p1, .int p2] : List Value).toArray s 0 0 (ha_A ad N)) (F0 m 20 ls []) := by
    intro  S H locs ls hf  hP hD hS hl
    unfold f_X11_cell_J20 at hf
    refine lv_iconst (v := (-1)) hx hb dX11_cell_20 (by decide) ?_
    have he := Option.some.inj hf
    exact ha_reti hx hb hr hlocks hP hD hS dX11_cell_21 (ha_e1 he) (ha_e2 he)
  unfold f_X11_cell at hf
  refine lv_aload_n hx hb dX11_cell_0 rfl (lv_at hl 0 rfl) ?_
  obtain ⟨r1, wr1, hf⟩ := ha_bds hf
  obtain ⟨wr1, hr1⟩ := ha_rf_some wr1
  refine ha_getr hx hb hown hK hP q33 hN h0 wr1 dX11_cell_1 ?_
  refine lv_iload_n hx hb dX11_cell_4 rfl (lv_at hl 1 rfl) ?_
  obtain ⟨z2, wz2, hf⟩ := ha_bds hf
  refine ha_callVi (As := [.int p1]) (rest := []) hZ ⟨hx, hb, hml, hown, hts⟩ hK hz hP hD hS (c_X7_hasTower hZ hN hX hr1 wz2) cw0 hN hr1 (by decide) rfl rfl hl.1 rfl (Nat.le_of_ble_eq_true rfl) dX11_cell_5 ⟨Nat.le_of_ble_eq_true rfl, Nat.le_of_ble_eq_true rfl⟩ (fun H locs hP hD hS => ?_)
  refine lv_if_eq (tgt := 20) hx hb dX11_cell_8 (by decide) (fun c3 => ?_) (fun c3 => ?_)
  · have hf := ha_it hf c3
    exact J20  z2.2 H locs ls hf  hP hD hS (lv_sub hl [0, 1, 2] rfl)
  · have hf := ha_if hf c3
    refine lv_iload_n hx hb dX11_cell_11 rfl (lv_at hl 2 rfl) ?_
    refine lv_if_lt (tgt := 20) hx hb dX11_cell_12 (by decide) (fun c4 => ?_) (fun c4 => ?_)
    · have hf := ha_it hf c4
      exact J20  z2.2 H locs ls hf  hP hD hS (lv_sub hl [0, 1, 2] rfl)
    · have hf := ha_if hf c4
      refine lv_iload_n hx hb dX11_cell_15 rfl (lv_at hl 2 rfl) ?_
      refine lv_iconst (v := 4) hx hb dX11_cell_16 (by decide) ?_
      refine lv_icmp_le (tgt := 22) hx hb dX11_cell_17 (by decide) (fun c5 => ?_) (fun c5 => ?_)
      · have hf := ha_it hf c5
        refine lv_aload_n hx hb dX11_cell_22 rfl (lv_at hl 0 rfl) ?_
        obtain ⟨r6, wr6, hf⟩ := ha_bds hf
        obtain ⟨wr6, hr6⟩ := ha_rf_some wr6
        refine ha_getr hx hb hown hK hP q33 hN h0 wr6 dX11_cell_23 ?_
        obtain ⟨r7, wr7, hf⟩ := ha_bds hf
        obtain ⟨wr7, hr7⟩ := ha_rf_some wr7
        refine ha_getr hx hb hown hK hP q142 hN hr6 wr7 dX11_cell_26 ?_
        refine lv_astore_n (lv' := [(3, .ref (ad r7)), (0, .ref (ad p0)), (1, .int p1), (2, .int p2)]) hx hb dX11_cell_29 rfl hl (by decide) rfl (fun ls hl => ?_)
        refine lv_iload_n hx hb dX11_cell_30 rfl (lv_at hl 3 rfl) ?_
        refine lv_iconst (v := 4) hx hb dX11_cell_31 (by decide) ?_
        refine lv_icmp_ne (tgt := 44) hx hb dX11_cell_32 (by decide) (fun c8 => ?_) (fun c8 => ?_)
        · have hf := ha_it hf c8
          refine lv_aload_n hx hb dX11_cell_44 rfl (lv_at hl 0 rfl) ?_
          obtain ⟨r9, wr9, hf⟩ := ha_bds hf
          obtain ⟨wr9, hr9⟩ := ha_rf_some wr9
          refine ha_getr hx hb hown hK hP q164 hN hr7 wr9 dX11_cell_45 ?_
          refine lv_iload_n hx hb dX11_cell_48 rfl (lv_at hl 2 rfl) ?_
          refine lv_iconst (v := 4) hx hb dX11_cell_49 (by decide) ?_
          refine lv_imul hx hb dX11_cell_50 ?_
          refine lv_iload_n hx hb dX11_cell_51 rfl (lv_at hl 3 rfl) ?_
          refine lv_iadd hx hb dX11_cell_52 ?_
          obtain ⟨g10, hf⟩ := ha_gds hf
          refine ha_iald hx hb hK hP hN hr9 g10 dX11_cell_53 ?_
          exact J54 ((ha_gA z2.2 r9 (((((p1 : Int32) * 4) : Int32) + p2) : Int32).toNatClampNeg)) z2.2 H locs ls hf  hP hD hS (lv_sub hl [1, 2, 3] rfl)
        · have hf := ha_if hf (fun q => q c8)
          refine lv_aload_n hx hb dX11_cell_35 rfl (lv_at hl 0 rfl) ?_
          obtain ⟨r11, wr11, hf⟩ := ha_bds hf
          obtain ⟨wr11, hr11⟩ := ha_rf_some wr11
          refine ha_getr hx hb hown hK hP q161 hN hr7 wr11 dX11_cell_36 ?_
          refine lv_iload_n hx hb dX11_cell_39 rfl (lv_at hl 2 rfl) ?_
          obtain ⟨g12, hf⟩ := ha_gds hf
          refine ha_iald hx hb hK hP hN hr11 g12 dX11_cell_40 ?_
          refine lv_goto (tgt := 54) hx hb dX11_cell_41 (by decide) ?_
          exact J54 ((ha_gA z2.2 r11 (p1 : Int32).toNatClampNeg)) z2.2 H locs ls hf  hP hD hS (lv_sub hl [1, 2, 3] rfl)
      · have hf := ha_if hf c5
        exact J20  z2.2 H locs ls hf  hP hD hS (lv_sub hl [0, 1, 2] rfl)

set_option maxHeartbeats 4000000 in
set_option maxRecDepth 100000 in
theorem c_X11_written {l : Launch} {D : va_G} {cs : Nat → ClassId} {ad adK adV : Nat → Nat} {N : List Nat} {Z : State → Prop} (hZ : ha_Zok (ha_A ad N) Z) (hN : ∀ x, xo_kd x < 999 → x ∈ N) (hX : ∀ U, Z U → xo_Z adK adV (ha_A ad N) U) {p0 : Nat} {p1 : Int32} {S : ha_St} {out : Int32 × ha_St} (h0 : xo_kd p0 = 11) (hf : f_X11_written p0 p1 S = some out) : ha_Ci l D cs ad xo_kd xo_ln N Z yX11_written wsX11_written ({ frames := 0, cells := 0, slots := 0, locals := 0 } : Room) [.ref (ad p0), .int p1] S out.1 out.2 := by
  refine Met.ofW (cc := cX11_written) (maxL := 3) (ret := (some .int)) (by decide +kernel) rfl ?_
  intro p e s m args below meth c s₁ B hml hv
  obtain ⟨rfl, hP, hD, hK, hz⟩ := hv
  have hx := B.exec
  have hb := B.bytes
  have hr := B.returns
  have hts := atoms_spec (ws := wsX11_written) B.pre
  have hown : s.vm.findClass RX11 = some m.cls := findClass_of_methodNamed B.named
  have hlocks := B.notSynchronized
  have hS : va_S (ha_A ad N) s.heap s.heap [] := va_S.rf
  have hi5 : ∀ w ∈ wsX50, w ∈ wsX11_written := fun w h => List.mem_cons_of_mem _ (List.mem_append_right _ h)
  have hi7 : ∀ w ∈ wsX70, w ∈ wsX11_written := fun w h => List.mem_cons_of_mem _ (List.mem_append_left _ (List.mem_append_right _ h))
  have hi11 : ∀ w ∈ wsX110, w ∈ wsX11_written := fun w h => List.mem_cons_of_mem _ (List.mem_append_left _ (List.mem_append_left _ (List.mem_append_right _ h)))
  have q33 : ha_Fk s ([.ref (ad p0), .int p1] : List Value).toArray RX11 33 11 3 1 := ⟨RX11, TX11, 17, wsX11_written, rfl, by decide, by decide, rfl, rfl, hts, hi11, hts (.fieldLink RX11 33 "HillArms" "latestPlay" "LHillArms$Play;") (by decide +kernel)⟩
  have q142 : ha_Fk s ([.ref (ad p0), .int p1] : List Value).toArray RX11 142 7 0 1 := ⟨RX7, TX7, 5, wsX11_written, rfl, by decide, by decide, rfl, rfl, hts, hi7, hts (.fieldLink RX11 142 "HillArms$Play" "line" "LHillArms$Line;") (by decide +kernel)⟩
  have q146 : ha_Fk s ([.ref (ad p0), .int p1] : List Value).toArray RX11 146 5 5 0 := ⟨RX5, TX5, 8, wsX11_written, rfl, by decide, by decide, rfl, rfl, hts, hi5, hts (.fieldLink RX11 146 "HillArms$Line" "wrote" "I") (by decide +kernel)⟩
  have q167 : ha_Fk s ([.ref (ad p0), .int p1] : List Value).toArray RX11 167 5 3 1 := ⟨RX5, TX5, 8, wsX11_written, rfl, by decide, by decide, rfl, rfl, hts, hi5, hts (.fieldLink RX11 167 "HillArms$Line" "book" "[I") (by decide +kernel)⟩
  have hl := lv_entry ([.ref (ad p0), .int p1]) (n := 3) (Nat.le_of_ble_eq_true rfl)
  rw [lg_entry_eq]
  generalize (lg_sl ([.ref (ad p0), .int p1]) ++ List.replicate (3 - (lg_sl ([.ref (ad p0), .int p1])).length) Slot.unset).toArray = ls at hl ⊢
  have hl : lv_has ls 3 [(0, .ref (ad p0)), (1, .int p1)] := hl
  refine (fun (K0 : ∀ (H : Heap) (locs : List Loc), va_P D vwCl (ha_wl cs ad xo_kd xo_ln N S) H → va_S (ha_A ad N) s.heap H locs → W p l e (headSpec wsX11_written ({ frames := 0, cells := 0, slots := 0, locals := 0 } : Room)).room s m ([.ref (ad p0), .int p1] : List Value).toArray below meth c H locs 0 0 (MQ below (va_Qi (fun (r : Int32) (_ : Unit) => r = out.1) (fun _ => ha_H D cs ad xo_kd xo_ln N out.2) (ha_A ad N)) ([.ref (ad p0), .int p1] : List Value).toArray s 0 0 (ha_A ad N)) (F0 m 0 ls [])) => K0 _ _ hP hS) ?_
  intro H locs hP hS
  have hf := ha_rt hf
  have J39 : ∀ (k0 : Int32) (S : ha_St) (H : Heap) (locs : List Loc) (ls : Array Slot), (f_X11_written_J39 p0 p1 k0 S).bind some = some out → va_P D vwCl (ha_wl cs ad xo_kd xo_ln N S) H → va_D (ha_A ad N) (ha_wl cs ad xo_kd xo_ln N S) → va_S (ha_A ad N) s.heap H locs → lv_has ls 3 [(0, .ref (ad p0)), (1, .int p1)] → W p l e (headSpec wsX11_written ({ frames := 0, cells := 0, slots := 0, locals := 0 } : Room)).room s m ([.ref (ad p0), .int p1] : List Value).toArray below meth c H locs 0 0 (MQ below (va_Qi (fun (r : Int32) (_ : Unit) => r = out.1) (fun _ => ha_H D cs ad xo_kd xo_ln N out.2) (ha_A ad N)) ([.ref (ad p0), .int p1] : List Value).toArray s 0 0 (ha_A ad N)) (F0 m 39 ls [.int k0]) := by
    intro k0 S H locs ls hf  hP hD hS hl
    unfold f_X11_written_J39 at hf
    have he := Option.some.inj hf
    exact ha_reti hx hb hr hlocks hP hD hS dX11_written_39 (ha_e1 he) (ha_e2 he)
  have J29 : ∀  (S : ha_St) (H : Heap) (locs : List Loc) (ls : Array Slot), (f_X11_written_J29 p0 p1  S).bind some = some out → va_P D vwCl (ha_wl cs ad xo_kd xo_ln N S) H → va_D (ha_A ad N) (ha_wl cs ad xo_kd xo_ln N S) → va_S (ha_A ad N) s.heap H locs → lv_has ls 3 [(0, .ref (ad p0)), (1, .int p1)] → W p l e (headSpec wsX11_written ({ frames := 0, cells := 0, slots := 0, locals := 0 } : Room)).room s m ([.ref (ad p0), .int p1] : List Value).toArray below meth c H locs 0 0 (MQ below (va_Qi (fun (r : Int32) (_ : Unit) => r = out.1) (fun _ => ha_H D cs ad xo_kd xo_ln N out.2) (ha_A ad N)) ([.ref (ad p0), .int p1] : List Value).toArray s 0 0 (ha_A ad N)) (F0 m 29 ls []) := by
    intro  S H locs ls hf  hP hD hS hl
    unfold f_X11_written_J29 at hf
    refine lv_iconst (v := (-1)) hx hb dX11_written_29 (by decide) ?_
    refine lv_goto (tgt := 39) hx hb dX11_written_30 (by decide) ?_
    exact J39 (-1) S H locs ls hf  hP hD hS (lv_sub hl [0, 1] rfl)
  unfold f_X11_written at hf
  refine lv_aload_n hx hb dX11_written_0 rfl (lv_at hl 0 rfl) ?_
  obtain ⟨r1, wr1, hf⟩ := ha_bds hf
  obtain ⟨wr1, hr1⟩ := ha_rf_some wr1
  refine ha_getr hx hb hown hK hP q33 hN h0 wr1 dX11_written_1 ?_
  obtain ⟨r2, wr2, hf⟩ := ha_bds hf
  obtain ⟨wr2, hr2⟩ := ha_rf_some wr2
  refine ha_getr hx hb hown hK hP q142 hN hr1 wr2 dX11_written_4 ?_
  refine lv_astore_n (lv' := [(2, .ref (ad r2)), (0, .ref (ad p0)), (1, .int p1)]) hx hb dX11_written_7 rfl hl (by decide) rfl (fun ls hl => ?_)
  refine lv_iload_n hx hb dX11_written_8 rfl (lv_at hl 2 rfl) ?_
  refine lv_if_lt (tgt := 29) hx hb dX11_written_9 (by decide) (fun c3 => ?_) (fun c3 => ?_)
  · have hf := ha_it hf c3
    exact J29  S H locs ls hf  hP hD hS (lv_sub hl [1, 2] rfl)
  · have hf := ha_if hf c3
    refine lv_iload_n hx hb dX11_written_12 rfl (lv_at hl 2 rfl) ?_
    refine lv_aload_n hx hb dX11_written_13 rfl (lv_at hl 0 rfl) ?_
    refine ha_geti hx hb hown hK hP q146 hN hr2 dX11_written_14 ?_
    refine lv_icmp_ge (tgt := 29) hx hb dX11_written_17 (by decide) (fun c4 => ?_) (fun c4 => ?_)
    · have hf := ha_it hf c4
      exact J29  S H locs ls hf  hP hD hS (lv_sub hl [1, 2] rfl)
    · have hf := ha_if hf c4
      refine lv_iload_n hx hb dX11_written_20 rfl (lv_at hl 2 rfl) ?_
      refine lv_aload_n hx hb dX11_written_21 rfl (lv_at hl 0 rfl) ?_
      obtain ⟨r5, wr5, hf⟩ := ha_bds hf
      obtain ⟨wr5, hr5⟩ := ha_rf_some wr5
      refine ha_getr hx hb hown hK hP q167 hN hr2 wr5 dX11_written_22 ?_
      refine ha_alen hx hb hK hP hN hr5 (by decide) (by decide) dX11_written_25 ?_
      refine lv_icmp_lt (tgt := 33) hx hb dX11_written_26 (by decide) (fun c6 => ?_) (fun c6 => ?_)
      · have hf := ha_it hf c6
        refine lv_aload_n hx hb dX11_written_33 rfl (lv_at hl 0 rfl) ?_
        obtain ⟨r7, wr7, hf⟩ := ha_bds hf
        obtain ⟨wr7, hr7⟩ := ha_rf_some wr7
        refine ha_getr hx hb hown hK hP q167 hN hr2 wr7 dX11_written_34 ?_
        refine lv_iload_n hx hb dX11_written_37 rfl (lv_at hl 2 rfl) ?_
        obtain ⟨g8, hf⟩ := ha_gds hf
        refine ha_iald hx hb hK hP hN hr7 g8 dX11_written_38 ?_
        exact J39 ((ha_gA S r7 (p1 : Int32).toNatClampNeg)) S H locs ls hf  hP hD hS (lv_sub hl [1, 2] rfl)
      · have hf := ha_if hf c6
        exact J29  S H locs ls hf  hP hD hS (lv_sub hl [1, 2] rfl)

set_option maxHeartbeats 4000000 in
set_option maxRecDepth 100000 in
theorem c_X11_played {l : Launch} {D : va_G} {cs : Nat → ClassId} {ad adK adV : Nat → Nat} {N : List Nat} {Z : State → Prop} (hZ : ha_Zok (ha_A ad N) Z) (hN : ∀ x, xo_kd x < 999 → x ∈ N) (hX : ∀ U, Z U → xo_Z adK adV (ha_A ad N) U) {p0 : Nat} {p1 : Int32} {S : ha_St} {out : Int32 × ha_St} (h0 : xo_kd p0 = 11) (hf : f_X11_played p0 p1 S = some out) : ha_Ci l D cs ad xo_kd xo_ln N Z yX11_played wsX11_played ({ frames := 0, cells := 0, slots := 0, locals := 0 } : Room) [.ref (ad p0), .int p1] S out.1 out.2 := by
  refine Met.ofW (cc := cX11_played) (maxL := 2) (ret := (some .int)) (by decide +kernel) rfl ?_
  intro p e s m args below meth c s₁ B hml hv
  obtain ⟨rfl, hP, hD, hK, hz⟩ := hv
  have hx := B.exec
  have hb := B.bytes
  have hr := B.returns
  have hts := atoms_spec (ws := wsX11_played) B.pre
  have hown : s.vm.findClass RX11 = some m.cls := findClass_of_methodNamed B.named
  have hlocks := B.notSynchronized
  have hS : va_S (ha_A ad N) s.heap s.heap [] := va_S.rf
  have hi5 : ∀ w ∈ wsX50, w ∈ wsX11_played := fun w h => List.mem_cons_of_mem _ (List.mem_append_right _ h)
  have hi7 : ∀ w ∈ wsX70, w ∈ wsX11_played := fun w h => List.mem_cons_of_mem _ (List.mem_append_left _ (List.mem_append_right _ h))
  have hi11 : ∀ w ∈ wsX110, w ∈ wsX11_played := fun w h => List.mem_cons_of_mem _ (List.mem_append_left _ (List.mem_append_left _ (List.mem_append_right _ h)))
  have q33 : ha_Fk s ([.ref (ad p0), .int p1] : List Value).toArray RX11 33 11 3 1 := ⟨RX11, TX11, 17, wsX11_played, rfl, by decide, by decide, rfl, rfl, hts, hi11, hts (.fieldLink RX11 33 "HillArms" "latestPlay" "LHillArms$Play;") (by decide +kernel)⟩
  have q155 : ha_Fk s ([.ref (ad p0), .int p1] : List Value).toArray RX11 155 7 2 0 := ⟨RX7, TX7, 5, wsX11_played, rfl, by decide, by decide, rfl, rfl, hts, hi7, hts (.fieldLink RX11 155 "HillArms$Play" "ticks" "I") (by decide +kernel)⟩
  have q170 : ha_Fk s ([.ref (ad p0), .int p1] : List Value).toArray RX11 170 7 4 0 := ⟨RX7, TX7, 5, wsX11_played, rfl, by decide, by decide, rfl, rfl, hts, hi7, hts (.fieldLink RX11 170 "HillArms$Play" "outcome" "I") (by decide +kernel)⟩
  have q142 : ha_Fk s ([.ref (ad p0), .int p1] : List Value).toArray RX11 142 7 0 1 := ⟨RX7, TX7, 5, wsX11_played, rfl, by decide, by decide, rfl, rfl, hts, hi7, hts (.fieldLink RX11 142 "HillArms$Play" "line" "LHillArms$Line;") (by decide +kernel)⟩
  have q173 : ha_Fk s ([.ref (ad p0), .int p1] : List Value).toArray RX11 173 5 7 0 := ⟨RX5, TX5, 8, wsX11_played, rfl, by decide, by decide, rfl, rfl, hts, hi5, hts (.fieldLink RX11 173 "HillArms$Line" "wrongAt" "I") (by decide +kernel)⟩
  have q176 : ha_Fk s ([.ref (ad p0), .int p1] : List Value).toArray RX11 176 7 3 0 := ⟨RX7, TX7, 5, wsX11_played, rfl, by decide, by decide, rfl, rfl, hts, hi7, hts (.fieldLink RX11 176 "HillArms$Play" "still" "I") (by decide +kernel)⟩
  have q179 : ha_Fk s ([.ref (ad p0), .int p1] : List Value).toArray RX11 179 5 6 0 := ⟨RX5, TX5, 8, wsX11_played, rfl, by decide, by decide, rfl, rfl, hts, hi5, hts (.fieldLink RX11 179 "HillArms$Line" "sent" "I") (by decide +kernel)⟩
  have hl := lv_entry ([.ref (ad p0), .int p1]) (n := 2) (Nat.le_of_ble_eq_true rfl)
  rw [lg_entry_eq]
  generalize (lg_sl ([.ref (ad p0), .int p1]) ++ List.replicate (2 - (lg_sl ([.ref (ad p0), .int p1])).length) Slot.unset).toArray = ls at hl ⊢
  have hl : lv_has ls 2 [(0, .ref (ad p0)), (1, .int p1)] := hl
  refine (fun (K0 : ∀ (H : Heap) (locs : List Loc), va_P D vwCl (ha_wl cs ad xo_kd xo_ln N S) H → va_S (ha_A ad N) s.heap H locs → W p l e (headSpec wsX11_played ({ frames := 0, cells := 0, slots := 0, locals := 0 } : Room)).room s m ([.ref (ad p0), .int p1] : List Value).toArray below meth c H locs 0 0 (MQ below (va_Qi (fun (r : Int32) (_ : Unit) => r = out.1) (fun _ => ha_H D cs ad xo_kd xo_ln N out.2) (ha_A ad N)) ([.ref (ad p0), .int p1] : List Value).toArray s 0 0 (ha_A ad N)) (F0 m 0 ls [])) => K0 _ _ hP hS) ?_
  intro H locs hP hS
  have hf := ha_rt hf
  unfold f_X11_played at hf
  refine lv_aload_n hx hb dX11_played_0 rfl (lv_at hl 0 rfl) ?_
  obtain ⟨r1, wr1, hf⟩ := ha_bds hf
  obtain ⟨wr1, hr1⟩ := ha_rf_some wr1
  refine ha_getr hx hb hown hK hP q33 hN h0 wr1 dX11_played_1 ?_
  refine ha_geti hx hb hown hK hP q155 hN hr1 dX11_played_4 ?_
  refine lv_iconst (v := (-1)) hx hb dX11_played_7 (by decide) ?_
  refine lv_icmp_ne (tgt := 13) hx hb dX11_played_8 (by decide) (fun c2 => ?_) (fun c2 => ?_)
  · have hf := ha_it hf c2
    refine lv_iload_n hx hb dX11_played_13 rfl (lv_at hl 1 rfl) ?_
    refine lv_topi (fun xs exs => ?_)
    have hf := ha_nms hf exs
    by_cases cs0 : xs = 0
    · have hf := ha_it hf cs0
      refine ha_tsin (tgt := 44) hx hb dX11_played_14 0 cs0 (by decide) rfl (by decide) ?_
      refine lv_aload_n hx hb dX11_played_44 rfl (lv_at hl 0 rfl) ?_
      obtain ⟨r3, wr3, hf⟩ := ha_bds hf
      obtain ⟨wr3, hr3⟩ := ha_rf_some wr3
      refine ha_getr hx hb hown hK hP q33 hN h0 wr3 dX11_played_45 ?_
      refine ha_geti hx hb hown hK hP q170 hN hr3 dX11_played_48 ?_
      have he := Option.some.inj hf
      exact ha_reti hx hb hr hlocks hP hD hS dX11_played_51 (ha_e1 he) (ha_e2 he)
    · have hf := ha_if hf cs0
      by_cases cs1 : xs = 1
      · have hf := ha_it hf cs1
        refine ha_tsin (tgt := 52) hx hb dX11_played_14 1 cs1 (by decide) rfl (by decide) ?_
        refine lv_aload_n hx hb dX11_played_52 rfl (lv_at hl 0 rfl) ?_
        obtain ⟨r4, wr4, hf⟩ := ha_bds hf
        obtain ⟨wr4, hr4⟩ := ha_rf_some wr4
        refine ha_getr hx hb hown hK hP q33 hN h0 wr4 dX11_played_53 ?_
        obtain ⟨r5, wr5, hf⟩ := ha_bds hf
        obtain ⟨wr5, hr5⟩ := ha_rf_some wr5
        refine ha_getr hx hb hown hK hP q142 hN hr4 wr5 dX11_played_56 ?_
        refine ha_geti hx hb hown hK hP q173 hN hr5 dX11_played_59 ?_
        have he := Option.some.inj hf
        exact ha_reti hx hb hr hlocks hP hD hS dX11_played_62 (ha_e1 he) (ha_e2 he)
      · have hf := ha_if hf cs1
        by_cases cs2 : xs = 2
        · have hf := ha_it hf cs2
          refine ha_tsin (tgt := 63) hx hb dX11_played_14 2 cs2 (by decide) rfl (by decide) ?_
          refine lv_aload_n hx hb dX11_played_63 rfl (lv_at hl 0 rfl) ?_
          obtain ⟨r6, wr6, hf⟩ := ha_bds hf
          obtain ⟨wr6, hr6⟩ := ha_rf_some wr6
          refine ha_getr hx hb hown hK hP q33 hN h0 wr6 dX11_played_64 ?_
          refine ha_geti hx hb hown hK hP q176 hN hr6 dX11_played_67 ?_
          have he := Option.some.inj hf
          exact ha_reti hx hb hr hlocks hP hD hS dX11_played_70 (ha_e1 he) (ha_e2 he)
        · have hf := ha_if hf cs2
          by_cases cs3 : xs = 3
          · have hf := ha_it hf cs3
            refine ha_tsin (tgt := 71) hx hb dX11_played_14 3 cs3 (by decide) rfl (by decide) ?_
            refine lv_aload_n hx hb dX11_played_71 rfl (lv_at hl 0 rfl) ?_
            obtain ⟨r7, wr7, hf⟩ := ha_bds hf
            obtain ⟨wr7, hr7⟩ := ha_rf_some wr7
            refine ha_getr hx hb hown hK hP q33 hN h0 wr7 dX11_played_72 ?_
            obtain ⟨r8, wr8, hf⟩ := ha_bds hf
            obtain ⟨wr8, hr8⟩ := ha_rf_some wr8
            refine ha_getr hx hb hown hK hP q142 hN hr7 wr8 dX11_played_75 ?_
            refine ha_geti hx hb hown hK hP q179 hN hr8 dX11_played_78 ?_
            have he := Option.some.inj hf
            exact ha_reti hx hb hr hlocks hP hD hS dX11_played_81 (ha_e1 he) (ha_e2 he)
          · have hf := ha_if hf cs3
            have ncs0 := lv_neT cs0 (show (0 : Int32).toInt = 0 by decide)
            have ncs1 := lv_neT cs1 (show (1 : Int32).toInt = 1 by decide)
            have ncs2 := lv_neT cs2 (show (2 : Int32).toInt = 2 by decide)
            have ncs3 := lv_neT cs3 (show (3 : Int32).toInt = 3 by decide)
            refine lv_tableOut (tgt := 82) hx hb dX11_played_14 (by omega) (by decide) ?_
            refine lv_iconst (v := (-1)) hx hb dX11_played_82 (by decide) ?_
            have he := Option.some.inj hf
            exact ha_reti hx hb hr hlocks hP hD hS dX11_played_83 (ha_e1 he) (ha_e2 he)
  · have hf := ha_if hf (fun q => q c2)
    refine lv_iconst (v := (-1)) hx hb dX11_played_11 (by decide) ?_
    have he := Option.some.inj hf
    exact ha_reti hx hb hr hlocks hP hD hS dX11_played_12 (ha_e1 he) (ha_e2 he)

set_option maxHeartbeats 4000000 in
set_option maxRecDepth 100000 in
theorem c_X11_broken {l : Launch} {D : va_G} {cs : Nat → ClassId} {ad adK adV : Nat → Nat} {N : List Nat} {Z : State → Prop} (hZ : ha_Zok (ha_A ad N) Z) (hN : ∀ x, xo_kd x < 999 → x ∈ N) (hX : ∀ U, Z U → xo_Z adK adV (ha_A ad N) U) {p0 : Nat} {p1 : Int32} {p2 : Int32} {S : ha_St} {out : Int32 × ha_St} (h0 : xo_kd p0 = 11) (hf : f_X11_broken p0 p1 p2 S = some out) : ha_Ci l D cs ad xo_kd xo_ln N Z yX11_broken wsX11_broken ({ frames := 6, cells := 0, slots := 0, locals := 153 } : Room) [.ref (ad p0), .int p1, .int p2] S out.1 out.2 := by
  refine Met.ofW (cc := cX11_broken) (maxL := 3) (ret := (some .int)) (by decide +kernel) rfl ?_
  intro p e s m args below meth c s₁ B hml hv
  obtain ⟨rfl, hP, hD, hK, hz⟩ := hv
  have hx := B.exec
  have hb := B.bytes
  have hr := B.returns
  have hts := atoms_spec (ws := wsX11_broken) B.pre
  have hown : s.vm.findClass RX11 = some m.cls := findClass_of_methodNamed B.named
  have hlocks := B.notSynchronized
  have hS : va_S (ha_A ad N) s.heap s.heap [] := va_S.rf
  have hi1 : ∀ w ∈ wsX10, w ∈ wsX11_broken := fun w h => List.mem_cons_of_mem _ (List.mem_append_left _ (List.mem_append_left _ (List.mem_append_left _ (List.mem_append_right _ h))))
  have hi11 : ∀ w ∈ wsX110, w ∈ wsX11_broken := fun w h => List.mem_cons_of_mem _ (List.mem_append_left _ (List.mem_append_left _ (List.mem_append_left _ (List.mem_append_left _ (List.mem_append_right _ h)))))
  have q19 : ha_Fk s ([.ref (ad p0), .int p1, .int p2] : List Value).toArray RX11 19 11 1 1 := ⟨RX11, TX11, 17, wsX11_broken, rfl, by decide, by decide, rfl, rfl, hts, hi11, hts (.fieldLink RX11 19 "HillArms" "crew" "LHillArms$Crew;") (by decide +kernel)⟩
  have q107 : ha_Fk s ([.ref (ad p0), .int p1, .int p2] : List Value).toArray RX11 107 1 5 0 := ⟨RX1, TX1, 8, wsX11_broken, rfl, by decide, by decide, rfl, rfl, hts, hi1, hts (.fieldLink RX11 107 "HillArms$Crew" "towers" "I") (by decide +kernel)⟩
  have q40 : ha_Fk s ([.ref (ad p0), .int p1, .int p2] : List Value).toArray RX11 40 11 4 1 := ⟨RX11, TX11, 17, wsX11_broken, rfl, by decide, by decide, rfl, rfl, hts, hi11, hts (.fieldLink RX11 40 "HillArms" "breaker" "LHillArms$Breaker;") (by decide +kernel)⟩
  have cw0 := cwV (R := (headSpec wsX11_broken ({ frames := 6, cells := 0, slots := 0, locals := 153 } : Room)).room) 3 hts gX11_broken_X0_search (rm := ({ frames := 5, cells := 0, slots := 0, locals := 130 } : Room)) (mc := 0) (ms := 0) rfl rfl rfl (by decide +kernel) ⟨Nat.le_of_ble_eq_true rfl, Nat.le_of_ble_eq_true rfl⟩
  have hl := lv_entry ([.ref (ad p0), .int p1, .int p2]) (n := 3) (Nat.le_of_ble_eq_true rfl)
  rw [lg_entry_eq]
  generalize (lg_sl ([.ref (ad p0), .int p1, .int p2]) ++ List.replicate (3 - (lg_sl ([.ref (ad p0), .int p1, .int p2])).length) Slot.unset).toArray = ls at hl ⊢
  have hl : lv_has ls 3 [(0, .ref (ad p0)), (1, .int p1), (2, .int p2)] := hl
  refine (fun (K0 : ∀ (H : Heap) (locs : List Loc), va_P D vwCl (ha_wl cs ad xo_kd xo_ln N S) H → va_S (ha_A ad N) s.heap H locs → W p l e (headSpec wsX11_broken ({ frames := 6, cells := 0, slots := 0, locals := 153 } : Room)).room s m ([.ref (ad p0), .int p1, .int p2] : List Value).toArray below meth c H locs 0 0 (MQ below (va_Qi (fun (r : Int32) (_ : Unit) => r = out.1) (fun _ => ha_H D cs ad xo_kd xo_ln N out.2) (ha_A ad N)) ([.ref (ad p0), .int p1, .int p2] : List Value).toArray s 0 0 (ha_A ad N)) (F0 m 0 ls [])) => K0 _ _ hP hS) ?_
  intro H locs hP hS
  have hf := ha_rt hf
  have J32 : ∀  (S : ha_St) (H : Heap) (locs : List Loc) (ls : Array Slot), (f_X11_broken_J32 p0 p1 p2  S).bind some = some out → va_P D vwCl (ha_wl cs ad xo_kd xo_ln N S) H → va_D (ha_A ad N) (ha_wl cs ad xo_kd xo_ln N S) → va_S (ha_A ad N) s.heap H locs → lv_has ls 3 [(0, .ref (ad p0)), (1, .int p1), (2, .int p2)] → W p l e (headSpec wsX11_broken ({ frames := 6, cells := 0, slots := 0, locals := 153 } : Room)).room s m ([.ref (ad p0), .int p1, .int p2] : List Value).toArray below meth c H locs 0 0 (MQ below (va_Qi (fun (r : Int32) (_ : Unit) => r = out.1) (fun _ => ha_H D cs ad xo_kd xo_ln N out.2) (ha_A ad N)) ([.ref (ad p0), .int p1, .int p2] : List Value).toArray s 0 0 (ha_A ad N)) (F0 m 32 ls []) := by
    intro  S H locs ls hf  hP hD hS hl
    unfold f_X11_broken_J32 at hf
    refine lv_bipush (v := (-2)) hx hb dX11_broken_32 (by decide) ?_
    have he := Option.some.inj hf
    exact ha_reti hx hb hr hlocks hP hD hS dX11_broken_34 (ha_e1 he) (ha_e2 he)
  unfold f_X11_broken at hf
  refine lv_iload_n hx hb dX11_broken_0 rfl (lv_at hl 1 rfl) ?_
  refine lv_if_lt (tgt := 32) hx hb dX11_broken_1 (by decide) (fun c1 => ?_) (fun c1 => ?_)
  · have hf := ha_it hf c1
    exact J32  S H locs ls hf  hP hD hS (lv_sub hl [0, 1, 2] rfl)
  · have hf := ha_if hf c1
    refine lv_iload_n hx hb dX11_broken_4 rfl (lv_at hl 1 rfl) ?_
    refine lv_bipush (v := 60) hx hb dX11_broken_5 (by decide) ?_
    refine lv_icmp_gt (tgt := 32) hx hb dX11_broken_7 (by decide) (fun c2 => ?_) (fun c2 => ?_)
    · have hf := ha_it hf c2
      exact J32  S H locs ls hf  hP hD hS (lv_sub hl [0, 1, 2] rfl)
    · have hf := ha_if hf c2
      refine lv_iload_n hx hb dX11_broken_10 rfl (lv_at hl 2 rfl) ?_
      refine lv_if_lt (tgt := 32) hx hb dX11_broken_11 (by decide) (fun c3 => ?_) (fun c3 => ?_)
      · have hf := ha_it hf c3
        exact J32  S H locs ls hf  hP hD hS (lv_sub hl [0, 1, 2] rfl)
      · have hf := ha_if hf c3
        refine lv_iload_n hx hb dX11_broken_14 rfl (lv_at hl 2 rfl) ?_
        refine lv_bipush (v := 10) hx hb dX11_broken_15 (by decide) ?_
        refine lv_icmp_gt (tgt := 32) hx hb dX11_broken_17 (by decide) (fun c4 => ?_) (fun c4 => ?_)
        · have hf := ha_it hf c4
          exact J32  S H locs ls hf  hP hD hS (lv_sub hl [0, 1, 2] rfl)
        · have hf := ha_if hf c4
          refine lv_aload_n hx hb dX11_broken_20 rfl (lv_at hl 0 rfl) ?_
          obtain ⟨r5, wr5, hf⟩ := ha_bds hf
          obtain ⟨wr5, hr5⟩ := ha_rf_some wr5
          refine ha_getr hx hb hown hK hP q19 hN h0 wr5 dX11_broken_21 ?_
          refine ha_geti hx hb hown hK hP q107 hN hr5 dX11_broken_24 ?_
          refine lv_bipush (v := 8) hx hb dX11_broken_27 (by decide) ?_
          refine lv_icmp_le (tgt := 35) hx hb dX11_broken_29 (by decide) (fun c6 => ?_) (fun c6 => ?_)
          · have hf := ha_it hf c6
            refine lv_aload_n hx hb dX11_broken_35 rfl (lv_at hl 0 rfl) ?_
            obtain ⟨r7, wr7, hf⟩ := ha_bds hf
            obtain ⟨wr7, hr7⟩ := ha_rf_some wr7
            refine ha_getr hx hb hown hK hP q40 hN h0 wr7 dX11_broken_36 ?_
            refine lv_aload_n hx hb dX11_broken_39 rfl (lv_at hl 0 rfl) ?_
            obtain ⟨r8, wr8, hf⟩ := ha_bds hf
            obtain ⟨wr8, hr8⟩ := ha_rf_some wr8
            refine ha_getr hx hb hown hK hP q19 hN h0 wr8 dX11_broken_40 ?_
            refine lv_iload_n hx hb dX11_broken_43 rfl (lv_at hl 1 rfl) ?_
            refine lv_iload_n hx hb dX11_broken_44 rfl (lv_at hl 2 rfl) ?_
            obtain ⟨z9, wz9, hf⟩ := ha_bds hf
            refine ha_callVi (As := [.ref (ad r8), .int p1, .int p2]) (rest := []) hZ ⟨hx, hb, hml, hown, hts⟩ hK hz hP hD hS (c_X0_search hZ hN hX hr7 hr8 wz9) cw0 hN hr7 (by decide) rfl rfl hl.1 rfl (Nat.le_of_ble_eq_true rfl) dX11_broken_45 ⟨Nat.le_of_ble_eq_true rfl, Nat.le_of_ble_eq_true rfl⟩ (fun H locs hP hD hS => ?_)
            have he := Option.some.inj hf
            exact ha_reti hx hb hr hlocks hP hD hS dX11_broken_48 (ha_e1 he) (ha_e2 he)
          · have hf := ha_if hf c6
            exact J32  S H locs ls hf  hP hD hS (lv_sub hl [0, 1, 2] rfl)

set_option maxHeartbeats 4000000 in
set_option maxRecDepth 100000 in
theorem c_X11_fogAt {l : Launch} {D : va_G} {cs : Nat → ClassId} {ad adK adV : Nat → Nat} {N : List Nat} {Z : State → Prop} (hZ : ha_Zok (ha_A ad N) Z) (hN : ∀ x, xo_kd x < 999 → x ∈ N) (hX : ∀ U, Z U → xo_Z adK adV (ha_A ad N) U) {p0 : Nat} {p1 : Int32} {p2 : Int32} {S : ha_St} {out : Int32 × ha_St} (h0 : xo_kd p0 = 11) (hf : f_X11_fogAt p0 p1 p2 S = some out) : ha_Ci l D cs ad xo_kd xo_ln N Z yX11_fogAt wsX11_fogAt ({ frames := 0, cells := 0, slots := 0, locals := 0 } : Room) [.ref (ad p0), .int p1, .int p2] S out.1 out.2 := by
  refine Met.ofW (cc := cX11_fogAt) (maxL := 3) (ret := (some .int)) (by decide +kernel) rfl ?_
  intro p e s m args below meth c s₁ B hml hv
  obtain ⟨rfl, hP, hD, hK, hz⟩ := hv
  have hx := B.exec
  have hb := B.bytes
  have hr := B.returns
  have hts := atoms_spec (ws := wsX11_fogAt) B.pre
  have hown : s.vm.findClass RX11 = some m.cls := findClass_of_methodNamed B.named
  have hlocks := B.notSynchronized
  have hS : va_S (ha_A ad N) s.heap s.heap [] := va_S.rf
  have hi0 : ∀ w ∈ wsX00, w ∈ wsX11_fogAt := fun w h => List.mem_cons_of_mem _ (List.mem_append_right _ h)
  have hi11 : ∀ w ∈ wsX110, w ∈ wsX11_fogAt := fun w h => List.mem_cons_of_mem _ (List.mem_append_left _ (List.mem_append_right _ h))
  have q40 : ha_Fk s ([.ref (ad p0), .int p1, .int p2] : List Value).toArray RX11 40 11 4 1 := ⟨RX11, TX11, 17, wsX11_fogAt, rfl, by decide, by decide, rfl, rfl, hts, hi11, hts (.fieldLink RX11 40 "HillArms" "breaker" "LHillArms$Breaker;") (by decide +kernel)⟩
  have q186 : ha_Fk s ([.ref (ad p0), .int p1, .int p2] : List Value).toArray RX11 186 0 10 0 := ⟨RX0, TX0, 11, wsX11_fogAt, rfl, by decide, by decide, rfl, rfl, hts, hi0, hts (.fieldLink RX11 186 "HillArms$Breaker" "found" "I") (by decide +kernel)⟩
  have q189 : ha_Fk s ([.ref (ad p0), .int p1, .int p2] : List Value).toArray RX11 189 0 8 1 := ⟨RX0, TX0, 11, wsX11_fogAt, rfl, by decide, by decide, rfl, rfl, hts, hi0, hts (.fieldLink RX11 189 "HillArms$Breaker" "foundTick" "[I") (by decide +kernel)⟩
  have q192 : ha_Fk s ([.ref (ad p0), .int p1, .int p2] : List Value).toArray RX11 192 0 9 1 := ⟨RX0, TX0, 11, wsX11_fogAt, rfl, by decide, by decide, rfl, rfl, hts, hi0, hts (.fieldLink RX11 192 "HillArms$Breaker" "foundGap" "[I") (by decide +kernel)⟩
  have hl := lv_entry ([.ref (ad p0), .int p1, .int p2]) (n := 3) (Nat.le_of_ble_eq_true rfl)
  rw [lg_entry_eq]
  generalize (lg_sl ([.ref (ad p0), .int p1, .int p2]) ++ List.replicate (3 - (lg_sl ([.ref (ad p0), .int p1, .int p2])).length) Slot.unset).toArray = ls at hl ⊢
  have hl : lv_has ls 3 [(0, .ref (ad p0)), (1, .int p1), (2, .int p2)] := hl
  refine (fun (K0 : ∀ (H : Heap) (locs : List Loc), va_P D vwCl (ha_wl cs ad xo_kd xo_ln N S) H → va_S (ha_A ad N) s.heap H locs → W p l e (headSpec wsX11_fogAt ({ frames := 0, cells := 0, slots := 0, locals := 0 } : Room)).room s m ([.ref (ad p0), .int p1, .int p2] : List Value).toArray below meth c H locs 0 0 (MQ below (va_Qi (fun (r : Int32) (_ : Unit) => r = out.1) (fun _ => ha_H D cs ad xo_kd xo_ln N out.2) (ha_A ad N)) ([.ref (ad p0), .int p1, .int p2] : List Value).toArray s 0 0 (ha_A ad N)) (F0 m 0 ls [])) => K0 _ _ hP hS) ?_
  intro H locs hP hS
  have hf := ha_rt hf
  have J15 : ∀  (S : ha_St) (H : Heap) (locs : List Loc) (ls : Array Slot), (f_X11_fogAt_J15 p0 p1 p2  S).bind some = some out → va_P D vwCl (ha_wl cs ad xo_kd xo_ln N S) H → va_D (ha_A ad N) (ha_wl cs ad xo_kd xo_ln N S) → va_S (ha_A ad N) s.heap H locs → lv_has ls 3 [(0, .ref (ad p0)), (1, .int p1), (2, .int p2)] → W p l e (headSpec wsX11_fogAt ({ frames := 0, cells := 0, slots := 0, locals := 0 } : Room)).room s m ([.ref (ad p0), .int p1, .int p2] : List Value).toArray below meth c H locs 0 0 (MQ below (va_Qi (fun (r : Int32) (_ : Unit) => r = out.1) (fun _ => ha_H D cs ad xo_kd xo_ln N out.2) (ha_A ad N)) ([.ref (ad p0), .int p1, .int p2] : List Value).toArray s 0 0 (ha_A ad N)) (F0 m 15 ls []) := by
    intro  S H locs ls hf  hP hD hS hl
    unfold f_X11_fogAt_J15 at hf
    refine lv_iconst (v := (-1)) hx hb dX11_fogAt_15 (by decide) ?_
    have he := Option.some.inj hf
    exact ha_reti hx hb hr hlocks hP hD hS dX11_fogAt_16 (ha_e1 he) (ha_e2 he)
  unfold f_X11_fogAt at hf
  refine lv_iload_n hx hb dX11_fogAt_0 rfl (lv_at hl 1 rfl) ?_
  refine lv_if_lt (tgt := 15) hx hb dX11_fogAt_1 (by decide) (fun c1 => ?_) (fun c1 => ?_)
  · have hf := ha_it hf c1
    exact J15  S H locs ls hf  hP hD hS (lv_sub hl [0, 1, 2] rfl)
  · have hf := ha_if hf c1
    refine lv_iload_n hx hb dX11_fogAt_4 rfl (lv_at hl 1 rfl) ?_
    refine lv_aload_n hx hb dX11_fogAt_5 rfl (lv_at hl 0 rfl) ?_
    obtain ⟨r2, wr2, hf⟩ := ha_bds hf
    obtain ⟨wr2, hr2⟩ := ha_rf_some wr2
    refine ha_getr hx hb hown hK hP q40 hN h0 wr2 dX11_fogAt_6 ?_
    refine ha_geti hx hb hown hK hP q186 hN hr2 dX11_fogAt_9 ?_
    refine lv_icmp_lt (tgt := 17) hx hb dX11_fogAt_12 (by decide) (fun c3 => ?_) (fun c3 => ?_)
    · have hf := ha_it hf c3
      refine lv_iload_n hx hb dX11_fogAt_17 rfl (lv_at hl 2 rfl) ?_
      refine lv_topi (fun xs exs => ?_)
      have hf := ha_nms hf exs
      by_cases cs0 : xs = 0
      · have hf := ha_it hf cs0
        refine ha_lsin (tgt := 44) hx hb dX11_fogAt_18 rfl 0 cs0 rfl (by decide) ?_
        refine lv_aload_n hx hb dX11_fogAt_44 rfl (lv_at hl 0 rfl) ?_
        obtain ⟨r4, wr4, hf⟩ := ha_bds hf
        obtain ⟨wr4, hr4⟩ := ha_rf_some wr4
        refine ha_getr hx hb hown hK hP q40 hN h0 wr4 dX11_fogAt_45 ?_
        obtain ⟨r5, wr5, hf⟩ := ha_bds hf
        obtain ⟨wr5, hr5⟩ := ha_rf_some wr5
        refine ha_getr hx hb hown hK hP q189 hN hr4 wr5 dX11_fogAt_48 ?_
        refine lv_iload_n hx hb dX11_fogAt_51 rfl (lv_at hl 1 rfl) ?_
        obtain ⟨g6, hf⟩ := ha_gds hf
        refine ha_iald hx hb hK hP hN hr5 g6 dX11_fogAt_52 ?_
        have he := Option.some.inj hf
        exact ha_reti hx hb hr hlocks hP hD hS dX11_fogAt_53 (ha_e1 he) (ha_e2 he)
      · have hf := ha_if hf cs0
        by_cases cs1 : xs = 1
        · have hf := ha_it hf cs1
          refine ha_lsin (tgt := 54) hx hb dX11_fogAt_18 rfl 1 cs1 rfl (by decide) ?_
          refine lv_aload_n hx hb dX11_fogAt_54 rfl (lv_at hl 0 rfl) ?_
          obtain ⟨r7, wr7, hf⟩ := ha_bds hf
          obtain ⟨wr7, hr7⟩ := ha_rf_some wr7
          refine ha_getr hx hb hown hK hP q40 hN h0 wr7 dX11_fogAt_55 ?_
          obtain ⟨r8, wr8, hf⟩ := ha_bds hf
          obtain ⟨wr8, hr8⟩ := ha_rf_some wr8
          refine ha_getr hx hb hown hK hP q192 hN hr7 wr8 dX11_fogAt_58 ?_
          refine lv_iload_n hx hb dX11_fogAt_61 rfl (lv_at hl 1 rfl) ?_
          obtain ⟨g9, hf⟩ := ha_gds hf
          refine ha_iald hx hb hK hP hN hr8 g9 dX11_fogAt_62 ?_
          have he := Option.some.inj hf
          exact ha_reti hx hb hr hlocks hP hD hS dX11_fogAt_63 (ha_e1 he) (ha_e2 he)
        · have hf := ha_if hf cs1
          refine lv_lookup (tgt := 64) (off := 46) hx hb dX11_fogAt_18 rfl (by show Op.lookupswitch.offset (_ :: _) _ _ = _; rw [lv_osw cs0 (show (0 : Int32).toInt = 0 by decide), lv_osw cs1 (show (1 : Int32).toInt = 1 by decide)]; rfl) (by decide) ?_
          refine lv_iconst (v := (-1)) hx hb dX11_fogAt_64 (by decide) ?_
          have he := Option.some.inj hf
          exact ha_reti hx hb hr hlocks hP hD hS dX11_fogAt_65 (ha_e1 he) (ha_e2 he)
    · have hf := ha_if hf c3
      exact J15  S H locs ls hf  hP hD hS (lv_sub hl [0, 1, 2] rfl)

set_option maxHeartbeats 4000000 in
set_option maxRecDepth 100000 in
theorem c_X11_entry {l : Launch} {D : va_G} {cs : Nat → ClassId} {ad adK adV : Nat → Nat} {N : List Nat} {Z : State → Prop} (hZ : ha_Zok (ha_A ad N) Z) (hN : ∀ x, xo_kd x < 999 → x ∈ N) (hX : ∀ U, Z U → xo_Z adK adV (ha_A ad N) U) {p0 : Nat} {S : ha_St} {out : Int32 × ha_St} (h0 : xo_kd p0 = 11) (hf : f_X11_entry p0 S = some out) : ha_Ci l D cs ad xo_kd xo_ln N Z yX11_entry wsX11_entry ({ frames := 2, cells := 0, slots := 0, locals := 47 } : Room) [.ref (ad p0)] S out.1 out.2 := by
  refine Met.ofW (cc := cX11_entry) (maxL := 3) (ret := (some .int)) (by decide +kernel) rfl ?_
  intro p e s m args below meth c s₁ B hml hv
  obtain ⟨rfl, hP, hD, hK, hz⟩ := hv
  have hx := B.exec
  have hb := B.bytes
  have hr := B.returns
  have hts := atoms_spec (ws := wsX11_entry) B.pre
  have hown : s.vm.findClass RX11 = some m.cls := findClass_of_methodNamed B.named
  have hlocks := B.notSynchronized
  have hS : va_S (ha_A ad N) s.heap s.heap [] := va_S.rf
  have hi3 : ∀ w ∈ wsX30, w ∈ wsX11_entry := fun w h => List.mem_cons_of_mem _ (List.mem_append_left _ (List.mem_append_right _ h))
  have hi10 : ∀ w ∈ wsX100, w ∈ wsX11_entry := fun w h => List.mem_cons_of_mem _ (List.mem_append_right _ h)
  have hi11 : ∀ w ∈ wsX110, w ∈ wsX11_entry := fun w h => List.mem_cons_of_mem _ (List.mem_append_left _ (List.mem_append_left _ (List.mem_append_right _ h)))
  have q10 : ha_Fk s ([.ref (ad p0)] : List Value).toArray RX11 10 11 0 1 := ⟨RX11, TX11, 17, wsX11_entry, rfl, by decide, by decide, rfl, rfl, hts, hi11, hts (.fieldLink RX11 10 "HillArms" "tape" "LHillArms$Tape;") (by decide +kernel)⟩
  have q47 : ha_Fk s ([.ref (ad p0)] : List Value).toArray RX11 47 11 5 1 := ⟨RX11, TX11, 17, wsX11_entry, rfl, by decide, by decide, rfl, rfl, hts, hi11, hts (.fieldLink RX11 47 "HillArms" "entries" "LHillArms$Entries;") (by decide +kernel)⟩
  have q198 : ha_Fk s ([.ref (ad p0)] : List Value).toArray RX11 198 3 3 0 := ⟨RX3, TX3, 4, wsX11_entry, rfl, by decide, by decide, rfl, rfl, hts, hi3, hts (.fieldLink RX11 198 "HillArms$Entries" "known" "I") (by decide +kernel)⟩
  have r92 : ha_Fp s ([.ref (ad p0)] : List Value).toArray RX11 92 10 1 0 .int := ⟨RX10, TX10, 2, wsX11_entry, tyX10, rfl, by decide, by decide, rfl, rfl, hts, hi10, hts (.fieldLink RX11 92 "HillArms$Tape" "size" "I") (by decide +kernel), tyX10_ok, nmX10, rfl, by decide +kernel⟩
  have cw0 := cwV (R := (headSpec wsX11_entry ({ frames := 2, cells := 0, slots := 0, locals := 47 } : Room)).room) 1 hts gX11_entry_X3_add (rm := ({ frames := 0, cells := 0, slots := 0, locals := 0 } : Room)) (mc := 0) (ms := 0) rfl rfl rfl (by decide +kernel) ⟨Nat.le_of_ble_eq_true rfl, Nat.le_of_ble_eq_true rfl⟩
  have cw1 := cwV (R := (headSpec wsX11_entry ({ frames := 2, cells := 0, slots := 0, locals := 47 } : Room)).room) 1 hts gX11_entry_X10_isText (rm := ({ frames := 1, cells := 0, slots := 0, locals := 20 } : Room)) (mc := 0) (ms := 0) rfl rfl rfl (by decide +kernel) ⟨Nat.le_of_ble_eq_true rfl, Nat.le_of_ble_eq_true rfl⟩
  have cw2 := cwV (R := (headSpec wsX11_entry ({ frames := 2, cells := 0, slots := 0, locals := 47 } : Room)).room) 1 hts gX11_entry_X3_has (rm := ({ frames := 1, cells := 0, slots := 0, locals := 25 } : Room)) (mc := 0) (ms := 0) rfl rfl rfl (by decide +kernel) ⟨Nat.le_of_ble_eq_true rfl, Nat.le_of_ble_eq_true rfl⟩
  have hl := lv_entry ([.ref (ad p0)]) (n := 3) (Nat.le_of_ble_eq_true rfl)
  rw [lg_entry_eq]
  generalize (lg_sl ([.ref (ad p0)]) ++ List.replicate (3 - (lg_sl ([.ref (ad p0)])).length) Slot.unset).toArray = ls at hl ⊢
  have hl : lv_has ls 3 [(0, .ref (ad p0))] := hl
  refine (fun (K0 : ∀ (H : Heap) (locs : List Loc), va_P D vwCl (ha_wl cs ad xo_kd xo_ln N S) H → va_S (ha_A ad N) s.heap H locs → W p l e (headSpec wsX11_entry ({ frames := 2, cells := 0, slots := 0, locals := 47 } : Room)).room s m ([.ref (ad p0)] : List Value).toArray below meth c H locs 0 0 (MQ below (va_Qi (fun (r : Int32) (_ : Unit) => r = out.1) (fun _ => ha_H D cs ad xo_kd xo_ln N out.2) (ha_A ad N)) ([.ref (ad p0)] : List Value).toArray s 0 0 (ha_A ad N)) (F0 m 0 ls [])) => K0 _ _ hP hS) ?_
  intro H locs hP hS
  have hf := ha_rt hf
  have J63 : ∀ (k0 : Int32) (S : ha_St) (H : Heap) (locs : List Loc) (ls : Array Slot), (f_X11_entry_J63 p0 k0 S).bind some = some out → va_P D vwCl (ha_wl cs ad xo_kd xo_ln N S) H → va_D (ha_A ad N) (ha_wl cs ad xo_kd xo_ln N S) → va_S (ha_A ad N) s.heap H locs → lv_has ls 3 [(0, .ref (ad p0))] → W p l e (headSpec wsX11_entry ({ frames := 2, cells := 0, slots := 0, locals := 47 } : Room)).room s m ([.ref (ad p0)] : List Value).toArray below meth c H locs 0 0 (MQ below (va_Qi (fun (r : Int32) (_ : Unit) => r = out.1) (fun _ => ha_H D cs ad xo_kd xo_ln N out.2) (ha_A ad N)) ([.ref (ad p0)] : List Value).toArray s 0 0 (ha_A ad N)) (F0 m 63 ls [.int k0]) := by
    intro k0 S H locs ls hf  hP hD hS hl
    unfold f_X11_entry_J63 at hf
    refine lv_istore_n (lv' := [(2, .int k0), (0, .ref (ad p0))]) hx hb dX11_entry_63 rfl hl (by decide) rfl (fun ls hl => ?_)
    refine lv_aload_n hx hb dX11_entry_64 rfl (lv_at hl 1 rfl) ?_
    obtain ⟨r1, wr1, hf⟩ := ha_bds hf
    obtain ⟨wr1, hr1⟩ := ha_rf_some wr1
    refine ha_getr hx hb hown hK hP q10 hN h0 wr1 dX11_entry_65 ?_
    refine lv_iconst (v := 0) hx hb dX11_entry_68 (by decide) ?_
    refine ha_puti hx hb hown hK hP hD hS r92 hN hr1 dX11_entry_69 (fun S2 H locs eS2 hP hD hS => ?_)
    have hf := ha_nms hf eS2
    refine lv_iload_n hx hb dX11_entry_72 rfl (lv_at hl 0 rfl) ?_
    have he := Option.some.inj hf
    exact ha_reti hx hb hr hlocks hP hD hS dX11_entry_73 (ha_e1 he) (ha_e2 he)
  have J43 : ∀ (k0 : Int32) (S : ha_St) (H : Heap) (locs : List Loc) (ls : Array Slot), (f_X11_entry_J43 p0 k0 S).bind some = some out → va_P D vwCl (ha_wl cs ad xo_kd xo_ln N S) H → va_D (ha_A ad N) (ha_wl cs ad xo_kd xo_ln N S) → va_S (ha_A ad N) s.heap H locs → lv_has ls 3 [(0, .ref (ad p0))] → W p l e (headSpec wsX11_entry ({ frames := 2, cells := 0, slots := 0, locals := 47 } : Room)).room s m ([.ref (ad p0)] : List Value).toArray below meth c H locs 0 0 (MQ below (va_Qi (fun (r : Int32) (_ : Unit) => r = out.1) (fun _ => ha_H D cs ad xo_kd xo_ln N out.2) (ha_A ad N)) ([.ref (ad p0)] : List Value).toArray s 0 0 (ha_A ad N)) (F0 m 43 ls [.int k0]) := by
    intro k0 S H locs ls hf  hP hD hS hl
    unfold f_X11_entry_J43 at hf
    refine lv_istore_n (lv' := [(1, .int k0), (0, .ref (ad p0))]) hx hb dX11_entry_43 rfl hl (by decide) rfl (fun ls hl => ?_)
    refine lv_iload_n hx hb dX11_entry_44 rfl (lv_at hl 0 rfl) ?_
    refine lv_if_eq (tgt := 62) hx hb dX11_entry_45 (by decide) (fun c3 => ?_) (fun c3 => ?_)
    · have hf := ha_it hf c3
      refine lv_iconst (v := (-1)) hx hb dX11_entry_62 (by decide) ?_
      exact J63 (-1) S H locs ls hf  hP hD hS (lv_sub hl [1] rfl)
    · have hf := ha_if hf c3
      refine lv_aload_n hx hb dX11_entry_48 rfl (lv_at hl 1 rfl) ?_
      obtain ⟨r4, wr4, hf⟩ := ha_bds hf
      obtain ⟨wr4, hr4⟩ := ha_rf_some wr4
      refine ha_getr hx hb hown hK hP q47 hN h0 wr4 dX11_entry_49 ?_
      refine lv_aload_n hx hb dX11_entry_52 rfl (lv_at hl 1 rfl) ?_
      obtain ⟨r5, wr5, hf⟩ := ha_bds hf
      obtain ⟨wr5, hr5⟩ := ha_rf_some wr5
      refine ha_getr hx hb hown hK hP q10 hN h0 wr5 dX11_entry_53 ?_
      obtain ⟨z6, wz6, hf⟩ := ha_bds hf
      refine ha_callVi (As := [.ref (ad r5)]) (rest := []) hZ ⟨hx, hb, hml, hown, hts⟩ hK hz hP hD hS (c_X3_add hZ hN hX hr4 hr5 wz6) cw0 hN hr4 (by decide) rfl rfl hl.1 rfl (Nat.le_of_ble_eq_true rfl) dX11_entry_56 ⟨Nat.le_of_ble_eq_true rfl, Nat.le_of_ble_eq_true rfl⟩ (fun H locs hP hD hS => ?_)
      refine lv_goto (tgt := 63) hx hb dX11_entry_59 (by decide) ?_
      exact J63 z6.1 z6.2 H locs ls hf  hP hD hS (lv_sub hl [1] rfl)
  have J42 : ∀  (S : ha_St) (H : Heap) (locs : List Loc) (ls : Array Slot), (f_X11_entry_J42 p0  S).bind some = some out → va_P D vwCl (ha_wl cs ad xo_kd xo_ln N S) H → va_D (ha_A ad N) (ha_wl cs ad xo_kd xo_ln N S) → va_S (ha_A ad N) s.heap H locs → lv_has ls 3 [(0, .ref (ad p0))] → W p l e (headSpec wsX11_entry ({ frames := 2, cells := 0, slots := 0, locals := 47 } : Room)).room s m ([.ref (ad p0)] : List Value).toArray below meth c H locs 0 0 (MQ below (va_Qi (fun (r : Int32) (_ : Unit) => r = out.1) (fun _ => ha_H D cs ad xo_kd xo_ln N out.2) (ha_A ad N)) ([.ref (ad p0)] : List Value).toArray s 0 0 (ha_A ad N)) (F0 m 42 ls []) := by
    intro  S H locs ls hf  hP hD hS hl
    unfold f_X11_entry_J42 at hf
    refine lv_iconst (v := 0) hx hb dX11_entry_42 (by decide) ?_
    exact J43 0 S H locs ls hf  hP hD hS (lv_sub hl [0] rfl)
  unfold f_X11_entry at hf
  refine lv_aload_n hx hb dX11_entry_0 rfl (lv_at hl 0 rfl) ?_
  obtain ⟨r7, wr7, hf⟩ := ha_bds hf
  obtain ⟨wr7, hr7⟩ := ha_rf_some wr7
  refine ha_getr hx hb hown hK hP q10 hN h0 wr7 dX11_entry_1 ?_
  refine lv_bipush (v := 12) hx hb dX11_entry_4 (by decide) ?_
  obtain ⟨z8, wz8, hf⟩ := ha_bds hf
  refine ha_callVi (As := [.int 12]) (rest := []) hZ ⟨hx, hb, hml, hown, hts⟩ hK hz hP hD hS (c_X10_isText hZ hN hX hr7 wz8) cw1 hN hr7 (by decide) rfl rfl hl.1 rfl (Nat.le_of_ble_eq_true rfl) dX11_entry_6 ⟨Nat.le_of_ble_eq_true rfl, Nat.le_of_ble_eq_true rfl⟩ (fun H locs hP hD hS => ?_)
  refine lv_if_eq (tgt := 42) hx hb dX11_entry_9 (by decide) (fun c9 => ?_) (fun c9 => ?_)
  · have hf := ha_it hf c9
    exact J42  z8.2 H locs ls hf  hP hD hS (lv_sub hl [0] rfl)
  · have hf := ha_if hf c9
    refine lv_aload_n hx hb dX11_entry_12 rfl (lv_at hl 0 rfl) ?_
    obtain ⟨r10, wr10, hf⟩ := ha_bds hf
    obtain ⟨wr10, hr10⟩ := ha_rf_some wr10
    refine ha_getr hx hb hown hK hP q47 hN h0 wr10 dX11_entry_13 ?_
    refine ha_geti hx hb hown hK hP q198 hN hr10 dX11_entry_16 ?_
    refine lv_bipush (v := 12) hx hb dX11_entry_19 (by decide) ?_
    refine lv_icmp_ge (tgt := 42) hx hb dX11_entry_21 (by decide) (fun c11 => ?_) (fun c11 => ?_)
    · have hf := ha_it hf c11
      exact J42  z8.2 H locs ls hf  hP hD hS (lv_sub hl [0] rfl)
    · have hf := ha_if hf c11
      refine lv_aload_n hx hb dX11_entry_24 rfl (lv_at hl 0 rfl) ?_
      obtain ⟨r12, wr12, hf⟩ := ha_bds hf
      obtain ⟨wr12, hr12⟩ := ha_rf_some wr12
      refine ha_getr hx hb hown hK hP q47 hN h0 wr12 dX11_entry_25 ?_
      refine lv_aload_n hx hb dX11_entry_28 rfl (lv_at hl 0 rfl) ?_
      obtain ⟨r13, wr13, hf⟩ := ha_bds hf
      obtain ⟨wr13, hr13⟩ := ha_rf_some wr13
      refine ha_getr hx hb hown hK hP q10 hN h0 wr13 dX11_entry_29 ?_
      obtain ⟨z14, wz14, hf⟩ := ha_bds hf
      refine ha_callVi (As := [.ref (ad r13)]) (rest := []) hZ ⟨hx, hb, hml, hown, hts⟩ hK hz hP hD hS (c_X3_has hZ hN hX hr12 hr13 wz14) cw2 hN hr12 (by decide) rfl rfl hl.1 rfl (Nat.le_of_ble_eq_true rfl) dX11_entry_32 ⟨Nat.le_of_ble_eq_true rfl, Nat.le_of_ble_eq_true rfl⟩ (fun H locs hP hD hS => ?_)
      refine lv_if_ne (tgt := 42) hx hb dX11_entry_35 (by decide) (fun c15 => ?_) (fun c15 => ?_)
      · have hf := ha_it hf c15
        exact J42  z14.2 H locs ls hf  hP hD hS (lv_sub hl [0] rfl)
      · have hf := ha_if hf (fun q => q c15)
        refine lv_iconst (v := 1) hx hb dX11_entry_38 (by decide) ?_
        refine lv_goto (tgt := 43) hx hb dX11_entry_39 (by decide) ?_
        exact J43 1 z14.2 H locs ls hf  hP hD hS (lv_sub hl [0] rfl)

set_option maxHeartbeats 4000000 in
set_option maxRecDepth 100000 in
theorem c_X11_code {l : Launch} {D : va_G} {cs : Nat → ClassId} {ad adK adV : Nat → Nat} {N : List Nat} {Z : State → Prop} (hZ : ha_Zok (ha_A ad N) Z) (hN : ∀ x, xo_kd x < 999 → x ∈ N) (hX : ∀ U, Z U → xo_Z adK adV (ha_A ad N) U) {p0 : Nat} {S : ha_St} {out : Int32 × ha_St} (h0 : xo_kd p0 = 11) (hf : f_X11_code p0 S = some out) : ha_Ci l D cs ad xo_kd xo_ln N Z yX11_code wsX11_code ({ frames := 4, cells := 0, slots := 0, locals := 94 } : Room) [.ref (ad p0)] S out.1 out.2 := by
  refine Met.ofW (cc := cX11_code) (maxL := 2) (ret := (some .int)) (by decide +kernel) rfl ?_
  intro p e s m args below meth c s₁ B hml hv
  obtain ⟨rfl, hP, hD, hK, hz⟩ := hv
  have hx := B.exec
  have hb := B.bytes
  have hr := B.returns
  have hts := atoms_spec (ws := wsX11_code) B.pre
  have hown : s.vm.findClass RX11 = some m.cls := findClass_of_methodNamed B.named
  have hlocks := B.notSynchronized
  have hS : va_S (ha_A ad N) s.heap s.heap [] := va_S.rf
  have hi6 : ∀ w ∈ wsX60, w ∈ wsX11_code := fun w h => List.mem_cons_of_mem _ (List.mem_append_left _ (List.mem_append_left _ (List.mem_append_right _ h)))
  have hi10 : ∀ w ∈ wsX100, w ∈ wsX11_code := fun w h => List.mem_cons_of_mem _ (List.mem_append_left _ (List.mem_append_right _ h))
  have hi11 : ∀ w ∈ wsX110, w ∈ wsX11_code := fun w h => List.mem_cons_of_mem _ (List.mem_append_left _ (List.mem_append_left _ (List.mem_append_left _ (List.mem_append_right _ h))))
  have q10 : ha_Fk s ([.ref (ad p0)] : List Value).toArray RX11 10 11 0 1 := ⟨RX11, TX11, 17, wsX11_code, rfl, by decide, by decide, rfl, rfl, hts, hi11, hts (.fieldLink RX11 10 "HillArms" "tape" "LHillArms$Tape;") (by decide +kernel)⟩
  have q56 : ha_Fk s ([.ref (ad p0)] : List Value).toArray RX11 56 11 6 1 := ⟨RX11, TX11, 17, wsX11_code, rfl, by decide, by decide, rfl, rfl, hts, hi11, hts (.fieldLink RX11 56 "HillArms" "coded" "LHillArms$Pages;") (by decide +kernel)⟩
  have q47 : ha_Fk s ([.ref (ad p0)] : List Value).toArray RX11 47 11 5 1 := ⟨RX11, TX11, 17, wsX11_code, rfl, by decide, by decide, rfl, rfl, hts, hi11, hts (.fieldLink RX11 47 "HillArms" "entries" "LHillArms$Entries;") (by decide +kernel)⟩
  have q218 : ha_Fk s ([.ref (ad p0)] : List Value).toArray RX11 218 6 7 0 := ⟨RX6, TX6, 8, wsX11_code, rfl, by decide, by decide, rfl, rfl, hts, hi6, hts (.fieldLink RX11 218 "HillArms$Pages" "bytes" "I") (by decide +kernel)⟩
  have q63 : ha_Fk s ([.ref (ad p0)] : List Value).toArray RX11 63 11 8 1 := ⟨RX11, TX11, 17, wsX11_code, rfl, by decide, by decide, rfl, rfl, hts, hi11, hts (.fieldLink RX11 63 "HillArms" "pieces" "[I") (by decide +kernel)⟩
  have r92 : ha_Fp s ([.ref (ad p0)] : List Value).toArray RX11 92 10 1 0 .int := ⟨RX10, TX10, 2, wsX11_code, tyX10, rfl, by decide, by decide, rfl, rfl, hts, hi10, hts (.fieldLink RX11 92 "HillArms$Tape" "size" "I") (by decide +kernel), tyX10_ok, nmX10, rfl, by decide +kernel⟩
  have r233 : ha_Fp s ([.ref (ad p0)] : List Value).toArray RX11 233 11 14 0 .int := ⟨RX11, TX11, 17, wsX11_code, tyX11, rfl, by decide, by decide, rfl, rfl, hts, hi11, hts (.fieldLink RX11 233 "HillArms" "pieceCount" "I") (by decide +kernel), tyX11_ok, nmX11, rfl, by decide +kernel⟩
  have cw0 := cwV (R := (headSpec wsX11_code ({ frames := 4, cells := 0, slots := 0, locals := 94 } : Room)).room) 1 hts gX11_code_X10_isText (rm := ({ frames := 1, cells := 0, slots := 0, locals := 20 } : Room)) (mc := 0) (ms := 0) rfl rfl rfl (by decide +kernel) ⟨Nat.le_of_ble_eq_true rfl, Nat.le_of_ble_eq_true rfl⟩
  have cw1 := cwV (R := (headSpec wsX11_code ({ frames := 4, cells := 0, slots := 0, locals := 94 } : Room)).room) 0 hts gX11_code_X6_clear (rm := ({ frames := 0, cells := 0, slots := 0, locals := 0 } : Room)) (mc := 0) (ms := 0) rfl rfl rfl (by decide +kernel) ⟨Nat.le_of_ble_eq_true rfl, Nat.le_of_ble_eq_true rfl⟩
  have cw2 := cwV (R := (headSpec wsX11_code ({ frames := 4, cells := 0, slots := 0, locals := 94 } : Room)).room) 1 hts gX11_code_X6_add (rm := ({ frames := 1, cells := 0, slots := 0, locals := 26 } : Room)) (mc := 0) (ms := 0) rfl rfl rfl (by decide +kernel) ⟨Nat.le_of_ble_eq_true rfl, Nat.le_of_ble_eq_true rfl⟩
  have cw3 := cwV (R := (headSpec wsX11_code ({ frames := 4, cells := 0, slots := 0, locals := 94 } : Room)).room) 1 hts gX11_code_X6_mark (rm := ({ frames := 2, cells := 0, slots := 0, locals := 51 } : Room)) (mc := 0) (ms := 0) rfl rfl rfl (by decide +kernel) ⟨Nat.le_of_ble_eq_true rfl, Nat.le_of_ble_eq_true rfl⟩
  have cw4 := cwV (R := (headSpec wsX11_code ({ frames := 4, cells := 0, slots := 0, locals := 94 } : Room)).room) 0 hts gX11_code_X3_all (rm := ({ frames := 0, cells := 0, slots := 0, locals := 0 } : Room)) (mc := 0) (ms := 0) rfl rfl rfl (by decide +kernel) ⟨Nat.le_of_ble_eq_true rfl, Nat.le_of_ble_eq_true rfl⟩
  have cw5 := cwV (R := (headSpec wsX11_code ({ frames := 4, cells := 0, slots := 0, locals := 94 } : Room)).room) 2 hts gX11_code_X6_saving (rm := ({ frames := 2, cells := 0, slots := 0, locals := 45 } : Room)) (mc := 0) (ms := 0) rfl rfl rfl (by decide +kernel) ⟨Nat.le_of_ble_eq_true rfl, Nat.le_of_ble_eq_true rfl⟩
  have cw6 := cwV (R := (headSpec wsX11_code ({ frames := 4, cells := 0, slots := 0, locals := 94 } : Room)).room) 2 hts gX11_code_X6_cut (rm := ({ frames := 3, cells := 0, slots := 0, locals := 68 } : Room)) (mc := 0) (ms := 0) rfl rfl rfl (by decide +kernel) ⟨Nat.le_of_ble_eq_true rfl, Nat.le_of_ble_eq_true rfl⟩
  have hl := lv_entry ([.ref (ad p0)]) (n := 2) (Nat.le_of_ble_eq_true rfl)
  rw [lg_entry_eq]
  generalize (lg_sl ([.ref (ad p0)]) ++ List.replicate (2 - (lg_sl ([.ref (ad p0)])).length) Slot.unset).toArray = ls at hl ⊢
  have hl : lv_has ls 2 [(0, .ref (ad p0))] := hl
  refine (fun (K0 : ∀ (H : Heap) (locs : List Loc), va_P D vwCl (ha_wl cs ad xo_kd xo_ln N S) H → va_S (ha_A ad N) s.heap H locs → W p l e (headSpec wsX11_code ({ frames := 4, cells := 0, slots := 0, locals := 94 } : Room)).room s m ([.ref (ad p0)] : List Value).toArray below meth c H locs 0 0 (MQ below (va_Qi (fun (r : Int32) (_ : Unit) => r = out.1) (fun _ => ha_H D cs ad xo_kd xo_ln N out.2) (ha_A ad N)) ([.ref (ad p0)] : List Value).toArray s 0 0 (ha_A ad N)) (F0 m 0 ls [])) => K0 _ _ hP hS) ?_
  intro H locs hP hS
  have hf := ha_rt hf
  have J89 : ∀ (v1 : Int32) (S : ha_St) (H : Heap) (locs : List Loc) (ls : Array Slot), (f_X11_code_J89 p0 v1 S).bind some = some out → va_P D vwCl (ha_wl cs ad xo_kd xo_ln N S) H → va_D (ha_A ad N) (ha_wl cs ad xo_kd xo_ln N S) → va_S (ha_A ad N) s.heap H locs → lv_has ls 2 [(0, .ref (ad p0)), (1, .int v1)] → W p l e (headSpec wsX11_code ({ frames := 4, cells := 0, slots := 0, locals := 94 } : Room)).room s m ([.ref (ad p0)] : List Value).toArray below meth c H locs 0 0 (MQ below (va_Qi (fun (r : Int32) (_ : Unit) => r = out.1) (fun _ => ha_H D cs ad xo_kd xo_ln N out.2) (ha_A ad N)) ([.ref (ad p0)] : List Value).toArray s 0 0 (ha_A ad N)) (F0 m 89 ls []) := by
    intro v1 S H locs ls hf  hP hD hS hl
    unfold f_X11_code_J89 at hf
    refine lv_aload_n hx hb dX11_code_89 rfl (lv_at hl 0 rfl) ?_
    obtain ⟨r1, wr1, hf⟩ := ha_bds hf
    obtain ⟨wr1, hr1⟩ := ha_rf_some wr1
    refine ha_getr hx hb hown hK hP q10 hN h0 wr1 dX11_code_90 ?_
    refine lv_iconst (v := 0) hx hb dX11_code_93 (by decide) ?_
    refine ha_puti hx hb hown hK hP hD hS r92 hN hr1 dX11_code_94 (fun S2 H locs eS2 hP hD hS => ?_)
    have hf := ha_nms hf eS2
    refine lv_iload_n hx hb dX11_code_97 rfl (lv_at hl 1 rfl) ?_
    have he := Option.some.inj hf
    exact ha_reti hx hb hr hlocks hP hD hS dX11_code_98 (ha_e1 he) (ha_e2 he)
  unfold f_X11_code at hf
  refine lv_iconst (v := (-1)) hx hb dX11_code_0 (by decide) ?_
  refine lv_istore_n (lv' := [(1, .int (-1)), (0, .ref (ad p0))]) hx hb dX11_code_1 rfl hl (by decide) rfl (fun ls hl => ?_)
  refine lv_aload_n hx hb dX11_code_2 rfl (lv_at hl 1 rfl) ?_
  obtain ⟨r3, wr3, hf⟩ := ha_bds hf
  obtain ⟨wr3, hr3⟩ := ha_rf_some wr3
  refine ha_getr hx hb hown hK hP q10 hN h0 wr3 dX11_code_3 ?_
  refine lv_bipush (v := 60) hx hb dX11_code_6 (by decide) ?_
  obtain ⟨z4, wz4, hf⟩ := ha_bds hf
  refine ha_callVi (As := [.int 60]) (rest := []) hZ ⟨hx, hb, hml, hown, hts⟩ hK hz hP hD hS (c_X10_isText hZ hN hX hr3 wz4) cw0 hN hr3 (by decide) rfl rfl hl.1 rfl (Nat.le_of_ble_eq_true rfl) dX11_code_8 ⟨Nat.le_of_ble_eq_true rfl, Nat.le_of_ble_eq_true rfl⟩ (fun H locs hP hD hS => ?_)
  refine lv_if_eq (tgt := 89) hx hb dX11_code_11 (by decide) (fun c5 => ?_) (fun c5 => ?_)
  · have hf := ha_it hf c5
    exact J89 (-1) z4.2 H locs ls hf  hP hD hS (lv_sub hl [1, 0] rfl)
  · have hf := ha_if hf c5
    refine lv_aload_n hx hb dX11_code_14 rfl (lv_at hl 1 rfl) ?_
    obtain ⟨r6, wr6, hf⟩ := ha_bds hf
    obtain ⟨wr6, hr6⟩ := ha_rf_some wr6
    refine ha_getr hx hb hown hK hP q56 hN h0 wr6 dX11_code_15 ?_
    obtain ⟨z7, wz7, hf⟩ := ha_bds hf
    refine ha_callVv (As := []) (rest := []) hZ ⟨hx, hb, hml, hown, hts⟩ hK hz hP hD hS (c_X6_clear hZ hN hX hr6 wz7) cw1 hN hr6 (by decide) rfl rfl hl.1 rfl (Nat.le_of_ble_eq_true rfl) dX11_code_18 ⟨Nat.le_of_ble_eq_true rfl, Nat.le_of_ble_eq_true rfl⟩ (fun H locs hP hD hS => ?_)
    refine lv_aload_n hx hb dX11_code_21 rfl (lv_at hl 1 rfl) ?_
    obtain ⟨r8, wr8, hf⟩ := ha_bds hf
    obtain ⟨wr8, hr8⟩ := ha_rf_some wr8
    refine ha_getr hx hb hown hK hP q56 hN h0 wr8 dX11_code_22 ?_
    refine lv_aload_n hx hb dX11_code_25 rfl (lv_at hl 1 rfl) ?_
    obtain ⟨r9, wr9, hf⟩ := ha_bds hf
    obtain ⟨wr9, hr9⟩ := ha_rf_some wr9
    refine ha_getr hx hb hown hK hP q10 hN h0 wr9 dX11_code_26 ?_
    obtain ⟨z10, wz10, hf⟩ := ha_bds hf
    refine ha_callVv (As := [.ref (ad r9)]) (rest := []) hZ ⟨hx, hb, hml, hown, hts⟩ hK hz hP hD hS (c_X6_add hZ hN hX hr8 hr9 wz10) cw2 hN hr8 (by decide) rfl rfl hl.1 rfl (Nat.le_of_ble_eq_true rfl) dX11_code_29 ⟨Nat.le_of_ble_eq_true rfl, Nat.le_of_ble_eq_true rfl⟩ (fun H locs hP hD hS => ?_)
    refine lv_aload_n hx hb dX11_code_32 rfl (lv_at hl 1 rfl) ?_
    obtain ⟨r11, wr11, hf⟩ := ha_bds hf
    obtain ⟨wr11, hr11⟩ := ha_rf_some wr11
    refine ha_getr hx hb hown hK hP q56 hN h0 wr11 dX11_code_33 ?_
    refine lv_aload_n hx hb dX11_code_36 rfl (lv_at hl 1 rfl) ?_
    obtain ⟨r12, wr12, hf⟩ := ha_bds hf
    obtain ⟨wr12, hr12⟩ := ha_rf_some wr12
    refine ha_getr hx hb hown hK hP q47 hN h0 wr12 dX11_code_37 ?_
    obtain ⟨z13, wz13, hf⟩ := ha_bds hf
    refine ha_callVv (As := [.ref (ad r12)]) (rest := []) hZ ⟨hx, hb, hml, hown, hts⟩ hK hz hP hD hS (c_X6_mark hZ hN hX hr11 hr12 wz13) cw3 hN hr11 (by decide) rfl rfl hl.1 rfl (Nat.le_of_ble_eq_true rfl) dX11_code_40 ⟨Nat.le_of_ble_eq_true rfl, Nat.le_of_ble_eq_true rfl⟩ (fun H locs hP hD hS => ?_)
    refine lv_aload_n hx hb dX11_code_43 rfl (lv_at hl 1 rfl) ?_
    obtain ⟨r14, wr14, hf⟩ := ha_bds hf
    obtain ⟨wr14, hr14⟩ := ha_rf_some wr14
    refine ha_getr hx hb hown hK hP q56 hN h0 wr14 dX11_code_44 ?_
    refine ha_geti hx hb hown hK hP q218 hN hr14 dX11_code_47 ?_
    refine lv_aload_n hx hb dX11_code_50 rfl (lv_at hl 1 rfl) ?_
    obtain ⟨r15, wr15, hf⟩ := ha_bds hf
    obtain ⟨wr15, hr15⟩ := ha_rf_some wr15
    refine ha_getr hx hb hown hK hP q56 hN h0 wr15 dX11_code_51 ?_
    refine lv_aload_n hx hb dX11_code_54 rfl (lv_at hl 1 rfl) ?_
    obtain ⟨r16, wr16, hf⟩ := ha_bds hf
    obtain ⟨wr16, hr16⟩ := ha_rf_some wr16
    refine ha_getr hx hb hown hK hP q47 hN h0 wr16 dX11_code_55 ?_
    refine lv_aload_n hx hb dX11_code_58 rfl (lv_at hl 1 rfl) ?_
    obtain ⟨r17, wr17, hf⟩ := ha_bds hf
    obtain ⟨wr17, hr17⟩ := ha_rf_some wr17
    refine ha_getr hx hb hown hK hP q47 hN h0 wr17 dX11_code_59 ?_
    obtain ⟨z18, wz18, hf⟩ := ha_bds hf
    refine ha_callVi (As := []) (rest := [.ref (ad r16), .ref (ad r15), .int ((ha_gI z13 r14 7))]) hZ ⟨hx, hb, hml, hown, hts⟩ hK hz hP hD hS (c_X3_all hZ hN hX hr17 wz18) cw4 hN hr17 (by decide) rfl rfl hl.1 rfl (Nat.le_of_ble_eq_true rfl) dX11_code_62 ⟨Nat.le_of_ble_eq_true rfl, Nat.le_of_ble_eq_true rfl⟩ (fun H locs hP hD hS => ?_)
    obtain ⟨z19, wz19, hf⟩ := ha_bds hf
    refine ha_callVi (As := [.ref (ad r16), .int z18.1]) (rest := [.int ((ha_gI z13 r14 7))]) hZ ⟨hx, hb, hml, hown, hts⟩ hK hz hP hD hS (c_X6_saving hZ hN hX hr15 hr16 wz19) cw5 hN hr15 (by decide) rfl rfl hl.1 rfl (Nat.le_of_ble_eq_true rfl) dX11_code_65 ⟨Nat.le_of_ble_eq_true rfl, Nat.le_of_ble_eq_true rfl⟩ (fun H locs hP hD hS => ?_)
    refine lv_isub hx hb dX11_code_68 ?_
    refine lv_topi (fun x20 ex20 => ?_)
    have hf := ha_nms hf ex20
    refine lv_istore_n (lv' := [(1, .int x20), (0, .ref (ad p0))]) hx hb dX11_code_69 rfl hl (by decide) rfl (fun ls hl => ?_)
    refine lv_aload_n hx hb dX11_code_70 rfl (lv_at hl 1 rfl) ?_
    refine lv_aload_n hx hb dX11_code_71 rfl (lv_at hl 1 rfl) ?_
    obtain ⟨r21, wr21, hf⟩ := ha_bds hf
    obtain ⟨wr21, hr21⟩ := ha_rf_some wr21
    refine ha_getr hx hb hown hK hP q56 hN h0 wr21 dX11_code_72 ?_
    refine lv_aload_n hx hb dX11_code_75 rfl (lv_at hl 1 rfl) ?_
    obtain ⟨r22, wr22, hf⟩ := ha_bds hf
    obtain ⟨wr22, hr22⟩ := ha_rf_some wr22
    refine ha_getr hx hb hown hK hP q47 hN h0 wr22 dX11_code_76 ?_
    refine lv_aload_n hx hb dX11_code_79 rfl (lv_at hl 1 rfl) ?_
    obtain ⟨r23, wr23, hf⟩ := ha_bds hf
    obtain ⟨wr23, hr23⟩ := ha_rf_some wr23
    refine ha_getr hx hb hown hK hP q63 hN h0 wr23 dX11_code_80 ?_
    obtain ⟨z24, wz24, hf⟩ := ha_bds hf
    refine ha_callVi (As := [.ref (ad r22), .ref (ad r23)]) (rest := [.ref (ad p0)]) hZ ⟨hx, hb, hml, hown, hts⟩ hK hz hP hD hS (c_X6_cut hZ hN hX hr21 hr22 hr23 wz24) cw6 hN hr21 (by decide) rfl rfl hl.1 rfl (Nat.le_of_ble_eq_true rfl) dX11_code_83 ⟨Nat.le_of_ble_eq_true rfl, Nat.le_of_ble_eq_true rfl⟩ (fun H locs hP hD hS => ?_)
    refine ha_puti hx hb hown hK hP hD hS r233 hN h0 dX11_code_86 (fun S25 H locs eS25 hP hD hS => ?_)
    have hf := ha_nms hf eS25
    exact J89 x20 S25 H locs ls hf  hP hD hS (lv_sub hl [1, 0] rfl)

set_option maxHeartbeats 4000000 in
set_option maxRecDepth 100000 in
theorem c_X11_piece {l : Launch} {D : va_G} {cs : Nat → ClassId} {ad adK adV : Nat → Nat} {N : List Nat} {Z : State → Prop} (hZ : ha_Zok (ha_A ad N) Z) (hN : ∀ x, xo_kd x < 999 → x ∈ N) (hX : ∀ U, Z U → xo_Z adK adV (ha_A ad N) U) {p0 : Nat} {p1 : Int32} {S : ha_St} {out : Int32 × ha_St} (h0 : xo_kd p0 = 11) (hf : f_X11_piece p0 p1 S = some out) : ha_Ci l D cs ad xo_kd xo_ln N Z yX11_piece wsX11_piece ({ frames := 0, cells := 0, slots := 0, locals := 0 } : Room) [.ref (ad p0), .int p1] S out.1 out.2 := by
  refine Met.ofW (cc := cX11_piece) (maxL := 2) (ret := (some .int)) (by decide +kernel) rfl ?_
  intro p e s m args below meth c s₁ B hml hv
  obtain ⟨rfl, hP, hD, hK, hz⟩ := hv
  have hx := B.exec
  have hb := B.bytes
  have hr := B.returns
  have hts := atoms_spec (ws := wsX11_piece) B.pre
  have hown : s.vm.findClass RX11 = some m.cls := findClass_of_methodNamed B.named
  have hlocks := B.notSynchronized
  have hS : va_S (ha_A ad N) s.heap s.heap [] := va_S.rf
  have hi11 : ∀ w ∈ wsX110, w ∈ wsX11_piece := fun w h => List.mem_cons_of_mem _ (List.mem_append_right _ h)
  have q233 : ha_Fk s ([.ref (ad p0), .int p1] : List Value).toArray RX11 233 11 14 0 := ⟨RX11, TX11, 17, wsX11_piece, rfl, by decide, by decide, rfl, rfl, hts, hi11, hts (.fieldLink RX11 233 "HillArms" "pieceCount" "I") (by decide +kernel)⟩
  have q63 : ha_Fk s ([.ref (ad p0), .int p1] : List Value).toArray RX11 63 11 8 1 := ⟨RX11, TX11, 17, wsX11_piece, rfl, by decide, by decide, rfl, rfl, hts, hi11, hts (.fieldLink RX11 63 "HillArms" "pieces" "[I") (by decide +kernel)⟩
  have hl := lv_entry ([.ref (ad p0), .int p1]) (n := 2) (Nat.le_of_ble_eq_true rfl)
  rw [lg_entry_eq]
  generalize (lg_sl ([.ref (ad p0), .int p1]) ++ List.replicate (2 - (lg_sl ([.ref (ad p0), .int p1])).length) Slot.unset).toArray = ls at hl ⊢
  have hl : lv_has ls 2 [(0, .ref (ad p0)), (1, .int p1)] := hl
  refine (fun (K0 : ∀ (H : Heap) (locs : List Loc), va_P D vwCl (ha_wl cs ad xo_kd xo_ln N S) H → va_S (ha_A ad N) s.heap H locs → W p l e (headSpec wsX11_piece ({ frames := 0, cells := 0, slots := 0, locals := 0 } : Room)).room s m ([.ref (ad p0), .int p1] : List Value).toArray below meth c H locs 0 0 (MQ below (va_Qi (fun (r : Int32) (_ : Unit) => r = out.1) (fun _ => ha_H D cs ad xo_kd xo_ln N out.2) (ha_A ad N)) ([.ref (ad p0), .int p1] : List Value).toArray s 0 0 (ha_A ad N)) (F0 m 0 ls [])) => K0 _ _ hP hS) ?_
  intro H locs hP hS
  have hf := ha_rt hf
  have J31 : ∀ (k0 : Int32) (S : ha_St) (H : Heap) (locs : List Loc) (ls : Array Slot), (f_X11_piece_J31 p0 p1 k0 S).bind some = some out → va_P D vwCl (ha_wl cs ad xo_kd xo_ln N S) H → va_D (ha_A ad N) (ha_wl cs ad xo_kd xo_ln N S) → va_S (ha_A ad N) s.heap H locs → lv_has ls 2 [(0, .ref (ad p0)), (1, .int p1)] → W p l e (headSpec wsX11_piece ({ frames := 0, cells := 0, slots := 0, locals := 0 } : Room)).room s m ([.ref (ad p0), .int p1] : List Value).toArray below meth c H locs 0 0 (MQ below (va_Qi (fun (r : Int32) (_ : Unit) => r = out.1) (fun _ => ha_H D cs ad xo_kd xo_ln N out.2) (ha_A ad N)) ([.ref (ad p0), .int p1] : List Value).toArray s 0 0 (ha_A ad N)) (F0 m 31 ls [.int k0]) := by
    intro k0 S H locs ls hf  hP hD hS hl
    unfold f_X11_piece_J31 at hf
    have he := Option.some.inj hf
    exact ha_reti hx hb hr hlocks hP hD hS dX11_piece_31 (ha_e1 he) (ha_e2 he)
  have J21 : ∀  (S : ha_St) (H : Heap) (locs : List Loc) (ls : Array Slot), (f_X11_piece_J21 p0 p1  S).bind some = some out → va_P D vwCl (ha_wl cs ad xo_kd xo_ln N S) H → va_D (ha_A ad N) (ha_wl cs ad xo_kd xo_ln N S) → va_S (ha_A ad N) s.heap H locs → lv_has ls 2 [(0, .ref (ad p0)), (1, .int p1)] → W p l e (headSpec wsX11_piece ({ frames := 0, cells := 0, slots := 0, locals := 0 } : Room)).room s m ([.ref (ad p0), .int p1] : List Value).toArray below meth c H locs 0 0 (MQ below (va_Qi (fun (r : Int32) (_ : Unit) => r = out.1) (fun _ => ha_H D cs ad xo_kd xo_ln N out.2) (ha_A ad N)) ([.ref (ad p0), .int p1] : List Value).toArray s 0 0 (ha_A ad N)) (F0 m 21 ls []) := by
    intro  S H locs ls hf  hP hD hS hl
    unfold f_X11_piece_J21 at hf
    refine lv_iconst (v := (-1)) hx hb dX11_piece_21 (by decide) ?_
    refine lv_goto (tgt := 31) hx hb dX11_piece_22 (by decide) ?_
    exact J31 (-1) S H locs ls hf  hP hD hS (lv_sub hl [0, 1] rfl)
  unfold f_X11_piece at hf
  refine lv_iload_n hx hb dX11_piece_0 rfl (lv_at hl 1 rfl) ?_
  refine lv_if_lt (tgt := 21) hx hb dX11_piece_1 (by decide) (fun c1 => ?_) (fun c1 => ?_)
  · have hf := ha_it hf c1
    exact J21  S H locs ls hf  hP hD hS (lv_sub hl [0, 1] rfl)
  · have hf := ha_if hf c1
    refine lv_iload_n hx hb dX11_piece_4 rfl (lv_at hl 1 rfl) ?_
    refine lv_aload_n hx hb dX11_piece_5 rfl (lv_at hl 0 rfl) ?_
    refine ha_geti hx hb hown hK hP q233 hN h0 dX11_piece_6 ?_
    refine lv_icmp_ge (tgt := 21) hx hb dX11_piece_9 (by decide) (fun c2 => ?_) (fun c2 => ?_)
    · have hf := ha_it hf c2
      exact J21  S H locs ls hf  hP hD hS (lv_sub hl [0, 1] rfl)
    · have hf := ha_if hf c2
      refine lv_iload_n hx hb dX11_piece_12 rfl (lv_at hl 1 rfl) ?_
      refine lv_aload_n hx hb dX11_piece_13 rfl (lv_at hl 0 rfl) ?_
      obtain ⟨r3, wr3, hf⟩ := ha_bds hf
      obtain ⟨wr3, hr3⟩ := ha_rf_some wr3
      refine ha_getr hx hb hown hK hP q63 hN h0 wr3 dX11_piece_14 ?_
      refine ha_alen hx hb hK hP hN hr3 (by decide) (by decide) dX11_piece_17 ?_
      refine lv_icmp_lt (tgt := 25) hx hb dX11_piece_18 (by decide) (fun c4 => ?_) (fun c4 => ?_)
      · have hf := ha_it hf c4
        refine lv_aload_n hx hb dX11_piece_25 rfl (lv_at hl 0 rfl) ?_
        obtain ⟨r5, wr5, hf⟩ := ha_bds hf
        obtain ⟨wr5, hr5⟩ := ha_rf_some wr5
        refine ha_getr hx hb hown hK hP q63 hN h0 wr5 dX11_piece_26 ?_
        refine lv_iload_n hx hb dX11_piece_29 rfl (lv_at hl 1 rfl) ?_
        obtain ⟨g6, hf⟩ := ha_gds hf
        refine ha_iald hx hb hK hP hN hr5 g6 dX11_piece_30 ?_
        exact J31 ((ha_gA S r5 (p1 : Int32).toNatClampNeg)) S H locs ls hf  hP hD hS (lv_sub hl [0, 1] rfl)
      · have hf := ha_if hf c4
        exact J21  S H locs ls hf  hP hD hS (lv_sub hl [0, 1] rfl)

set_option maxHeartbeats 4000000 in
set_option maxRecDepth 100000 in
theorem c_X11_year {l : Launch} {D : va_G} {cs : Nat → ClassId} {ad adK adV : Nat → Nat} {N : List Nat} {Z : State → Prop} (hZ : ha_Zok (ha_A ad N) Z) (hN : ∀ x, xo_kd x < 999 → x ∈ N) (hX : ∀ U, Z U → xo_Z adK adV (ha_A ad N) U) {p0 : Nat} {S : ha_St} {out : Int32 × ha_St} (h0 : xo_kd p0 = 11) (hf : f_X11_year p0 S = some out) : ha_Ci l D cs ad xo_kd xo_ln N Z yX11_year wsX11_year ({ frames := 2, cells := 0, slots := 0, locals := 47 } : Room) [.ref (ad p0)] S out.1 out.2 := by
  refine Met.ofW (cc := cX11_year) (maxL := 2) (ret := (some .int)) (by decide +kernel) rfl ?_
  intro p e s m args below meth c s₁ B hml hv
  obtain ⟨rfl, hP, hD, hK, hz⟩ := hv
  have hx := B.exec
  have hb := B.bytes
  have hr := B.returns
  have hts := atoms_spec (ws := wsX11_year) B.pre
  have hown : s.vm.findClass RX11 = some m.cls := findClass_of_methodNamed B.named
  have hlocks := B.notSynchronized
  have hS : va_S (ha_A ad N) s.heap s.heap [] := va_S.rf
  have hi6 : ∀ w ∈ wsX60, w ∈ wsX11_year := fun w h => List.mem_cons_of_mem _ (List.mem_append_left _ (List.mem_append_right _ h))
  have hi10 : ∀ w ∈ wsX100, w ∈ wsX11_year := fun w h => List.mem_cons_of_mem _ (List.mem_append_right _ h)
  have hi11 : ∀ w ∈ wsX110, w ∈ wsX11_year := fun w h => List.mem_cons_of_mem _ (List.mem_append_left _ (List.mem_append_left _ (List.mem_append_right _ h)))
  have q10 : ha_Fk s ([.ref (ad p0)] : List Value).toArray RX11 10 11 0 1 := ⟨RX11, TX11, 17, wsX11_year, rfl, by decide, by decide, rfl, rfl, hts, hi11, hts (.fieldLink RX11 10 "HillArms" "tape" "LHillArms$Tape;") (by decide +kernel)⟩
  have q60 : ha_Fk s ([.ref (ad p0)] : List Value).toArray RX11 60 11 7 1 := ⟨RX11, TX11, 17, wsX11_year, rfl, by decide, by decide, rfl, rfl, hts, hi11, hts (.fieldLink RX11 60 "HillArms" "yearPages" "LHillArms$Pages;") (by decide +kernel)⟩
  have q236 : ha_Fk s ([.ref (ad p0)] : List Value).toArray RX11 236 6 6 0 := ⟨RX6, TX6, 8, wsX11_year, rfl, by decide, by decide, rfl, rfl, hts, hi6, hts (.fieldLink RX11 236 "HillArms$Pages" "texts" "I") (by decide +kernel)⟩
  have r92 : ha_Fp s ([.ref (ad p0)] : List Value).toArray RX11 92 10 1 0 .int := ⟨RX10, TX10, 2, wsX11_year, tyX10, rfl, by decide, by decide, rfl, rfl, hts, hi10, hts (.fieldLink RX11 92 "HillArms$Tape" "size" "I") (by decide +kernel), tyX10_ok, nmX10, rfl, by decide +kernel⟩
  have cw0 := cwV (R := (headSpec wsX11_year ({ frames := 2, cells := 0, slots := 0, locals := 47 } : Room)).room) 1 hts gX11_year_X6_add (rm := ({ frames := 1, cells := 0, slots := 0, locals := 26 } : Room)) (mc := 0) (ms := 0) rfl rfl rfl (by decide +kernel) ⟨Nat.le_of_ble_eq_true rfl, Nat.le_of_ble_eq_true rfl⟩
  have cw1 := cwV (R := (headSpec wsX11_year ({ frames := 2, cells := 0, slots := 0, locals := 47 } : Room)).room) 1 hts gX11_year_X10_isText (rm := ({ frames := 1, cells := 0, slots := 0, locals := 20 } : Room)) (mc := 0) (ms := 0) rfl rfl rfl (by decide +kernel) ⟨Nat.le_of_ble_eq_true rfl, Nat.le_of_ble_eq_true rfl⟩
  have hl := lv_entry ([.ref (ad p0)]) (n := 2) (Nat.le_of_ble_eq_true rfl)
  rw [lg_entry_eq]
  generalize (lg_sl ([.ref (ad p0)]) ++ List.replicate (2 - (lg_sl ([.ref (ad p0)])).length) Slot.unset).toArray = ls at hl ⊢
  have hl : lv_has ls 2 [(0, .ref (ad p0))] := hl
  refine (fun (K0 : ∀ (H : Heap) (locs : List Loc), va_P D vwCl (ha_wl cs ad xo_kd xo_ln N S) H → va_S (ha_A ad N) s.heap H locs → W p l e (headSpec wsX11_year ({ frames := 2, cells := 0, slots := 0, locals := 47 } : Room)).room s m ([.ref (ad p0)] : List Value).toArray below meth c H locs 0 0 (MQ below (va_Qi (fun (r : Int32) (_ : Unit) => r = out.1) (fun _ => ha_H D cs ad xo_kd xo_ln N out.2) (ha_A ad N)) ([.ref (ad p0)] : List Value).toArray s 0 0 (ha_A ad N)) (F0 m 0 ls [])) => K0 _ _ hP hS) ?_
  intro H locs hP hS
  have hf := ha_rt hf
  have J68 : ∀ (k0 : Int32) (S : ha_St) (H : Heap) (locs : List Loc) (ls : Array Slot), (f_X11_year_J68 p0 k0 S).bind some = some out → va_P D vwCl (ha_wl cs ad xo_kd xo_ln N S) H → va_D (ha_A ad N) (ha_wl cs ad xo_kd xo_ln N S) → va_S (ha_A ad N) s.heap H locs → lv_has ls 2 [(0, .ref (ad p0))] → W p l e (headSpec wsX11_year ({ frames := 2, cells := 0, slots := 0, locals := 47 } : Room)).room s m ([.ref (ad p0)] : List Value).toArray below meth c H locs 0 0 (MQ below (va_Qi (fun (r : Int32) (_ : Unit) => r = out.1) (fun _ => ha_H D cs ad xo_kd xo_ln N out.2) (ha_A ad N)) ([.ref (ad p0)] : List Value).toArray s 0 0 (ha_A ad N)) (F0 m 68 ls [.int k0]) := by
    intro k0 S H locs ls hf  hP hD hS hl
    unfold f_X11_year_J68 at hf
    have he := Option.some.inj hf
    exact ha_reti hx hb hr hlocks hP hD hS dX11_year_68 (ha_e1 he) (ha_e2 he)
  have J45 : ∀ (v1 : Int32) (S : ha_St) (H : Heap) (locs : List Loc) (ls : Array Slot), (f_X11_year_J45 p0 v1 S).bind some = some out → va_P D vwCl (ha_wl cs ad xo_kd xo_ln N S) H → va_D (ha_A ad N) (ha_wl cs ad xo_kd xo_ln N S) → va_S (ha_A ad N) s.heap H locs → lv_has ls 2 [(0, .ref (ad p0)), (1, .int v1)] → W p l e (headSpec wsX11_year ({ frames := 2, cells := 0, slots := 0, locals := 47 } : Room)).room s m ([.ref (ad p0)] : List Value).toArray below meth c H locs 0 0 (MQ below (va_Qi (fun (r : Int32) (_ : Unit) => r = out.1) (fun _ => ha_H D cs ad xo_kd xo_ln N out.2) (ha_A ad N)) ([.ref (ad p0)] : List Value).toArray s 0 0 (ha_A ad N)) (F0 m 45 ls []) := by
    intro v1 S H locs ls hf  hP hD hS hl
    unfold f_X11_year_J45 at hf
    refine lv_aload_n hx hb dX11_year_45 rfl (lv_at hl 0 rfl) ?_
    obtain ⟨r1, wr1, hf⟩ := ha_bds hf
    obtain ⟨wr1, hr1⟩ := ha_rf_some wr1
    refine ha_getr hx hb hown hK hP q10 hN h0 wr1 dX11_year_46 ?_
    refine lv_iconst (v := 0) hx hb dX11_year_49 (by decide) ?_
    refine ha_puti hx hb hown hK hP hD hS r92 hN hr1 dX11_year_50 (fun S2 H locs eS2 hP hD hS => ?_)
    have hf := ha_nms hf eS2
    refine lv_iload_n hx hb dX11_year_53 rfl (lv_at hl 1 rfl) ?_
    refine lv_if_eq (tgt := 67) hx hb dX11_year_54 (by decide) (fun c3 => ?_) (fun c3 => ?_)
    · have hf := ha_it hf c3
      refine lv_iconst (v := (-1)) hx hb dX11_year_67 (by decide) ?_
      exact J68 (-1) S2 H locs ls hf  hP hD hS (lv_sub hl [0] rfl)
    · have hf := ha_if hf c3
      refine lv_aload_n hx hb dX11_year_57 rfl (lv_at hl 0 rfl) ?_
      obtain ⟨r4, wr4, hf⟩ := ha_bds hf
      obtain ⟨wr4, hr4⟩ := ha_rf_some wr4
      refine ha_getr hx hb hown hK hP q60 hN h0 wr4 dX11_year_58 ?_
      refine ha_geti hx hb hown hK hP q236 hN hr4 dX11_year_61 ?_
      refine lv_goto (tgt := 68) hx hb dX11_year_64 (by decide) ?_
      exact J68 ((ha_gI S2 r4 6)) S2 H locs ls hf  hP hD hS (lv_sub hl [0] rfl)
  have J29 : ∀ (k0 : Int32) (S : ha_St) (H : Heap) (locs : List Loc) (ls : Array Slot), (f_X11_year_J29 p0 k0 S).bind some = some out → va_P D vwCl (ha_wl cs ad xo_kd xo_ln N S) H → va_D (ha_A ad N) (ha_wl cs ad xo_kd xo_ln N S) → va_S (ha_A ad N) s.heap H locs → lv_has ls 2 [(0, .ref (ad p0))] → W p l e (headSpec wsX11_year ({ frames := 2, cells := 0, slots := 0, locals := 47 } : Room)).room s m ([.ref (ad p0)] : List Value).toArray below meth c H locs 0 0 (MQ below (va_Qi (fun (r : Int32) (_ : Unit) => r = out.1) (fun _ => ha_H D cs ad xo_kd xo_ln N out.2) (ha_A ad N)) ([.ref (ad p0)] : List Value).toArray s 0 0 (ha_A ad N)) (F0 m 29 ls [.int k0]) := by
    intro k0 S H locs ls hf  hP hD hS hl
    unfold f_X11_year_J29 at hf
    refine lv_istore_n (lv' := [(1, .int k0), (0, .ref (ad p0))]) hx hb dX11_year_29 rfl hl (by decide) rfl (fun ls hl => ?_)
    refine lv_iload_n hx hb dX11_year_30 rfl (lv_at hl 0 rfl) ?_
    refine lv_if_eq (tgt := 45) hx hb dX11_year_31 (by decide) (fun c5 => ?_) (fun c5 => ?_)
    · have hf := ha_it hf c5
      exact J45 k0 S H locs ls hf  hP hD hS (lv_sub hl [1, 0] rfl)
    · have hf := ha_if hf c5
      refine lv_aload_n hx hb dX11_year_34 rfl (lv_at hl 1 rfl) ?_
      obtain ⟨r6, wr6, hf⟩ := ha_bds hf
      obtain ⟨wr6, hr6⟩ := ha_rf_some wr6
      refine ha_getr hx hb hown hK hP q60 hN h0 wr6 dX11_year_35 ?_
      refine lv_aload_n hx hb dX11_year_38 rfl (lv_at hl 1 rfl) ?_
      obtain ⟨r7, wr7, hf⟩ := ha_bds hf
      obtain ⟨wr7, hr7⟩ := ha_rf_some wr7
      refine ha_getr hx hb hown hK hP q10 hN h0 wr7 dX11_year_39 ?_
      obtain ⟨z8, wz8, hf⟩ := ha_bds hf
      refine ha_callVv (As := [.ref (ad r7)]) (rest := []) hZ ⟨hx, hb, hml, hown, hts⟩ hK hz hP hD hS (c_X6_add hZ hN hX hr6 hr7 wz8) cw0 hN hr6 (by decide) rfl rfl hl.1 rfl (Nat.le_of_ble_eq_true rfl) dX11_year_42 ⟨Nat.le_of_ble_eq_true rfl, Nat.le_of_ble_eq_true rfl⟩ (fun H locs hP hD hS => ?_)
      exact J45 k0 z8 H locs ls hf  hP hD hS (lv_sub hl [1, 0] rfl)
  have J28 : ∀  (S : ha_St) (H : Heap) (locs : List Loc) (ls : Array Slot), (f_X11_year_J28 p0  S).bind some = some out → va_P D vwCl (ha_wl cs ad xo_kd xo_ln N S) H → va_D (ha_A ad N) (ha_wl cs ad xo_kd xo_ln N S) → va_S (ha_A ad N) s.heap H locs → lv_has ls 2 [(0, .ref (ad p0))] → W p l e (headSpec wsX11_year ({ frames := 2, cells := 0, slots := 0, locals := 47 } : Room)).room s m ([.ref (ad p0)] : List Value).toArray below meth c H locs 0 0 (MQ below (va_Qi (fun (r : Int32) (_ : Unit) => r = out.1) (fun _ => ha_H D cs ad xo_kd xo_ln N out.2) (ha_A ad N)) ([.ref (ad p0)] : List Value).toArray s 0 0 (ha_A ad N)) (F0 m 28 ls []) := by
    intro  S H locs ls hf  hP hD hS hl
    unfold f_X11_year_J28 at hf
    refine lv_iconst (v := 0) hx hb dX11_year_28 (by decide) ?_
    exact J29 0 S H locs ls hf  hP hD hS (lv_sub hl [0] rfl)
  unfold f_X11_year at hf
  refine lv_aload_n hx hb dX11_year_0 rfl (lv_at hl 0 rfl) ?_
  obtain ⟨r9, wr9, hf⟩ := ha_bds hf
  obtain ⟨wr9, hr9⟩ := ha_rf_some wr9
  refine ha_getr hx hb hown hK hP q10 hN h0 wr9 dX11_year_1 ?_
  refine lv_bipush (v := 60) hx hb dX11_year_4 (by decide) ?_
  obtain ⟨z10, wz10, hf⟩ := ha_bds hf
  refine ha_callVi (As := [.int 60]) (rest := []) hZ ⟨hx, hb, hml, hown, hts⟩ hK hz hP hD hS (c_X10_isText hZ hN hX hr9 wz10) cw1 hN hr9 (by decide) rfl rfl hl.1 rfl (Nat.le_of_ble_eq_true rfl) dX11_year_6 ⟨Nat.le_of_ble_eq_true rfl, Nat.le_of_ble_eq_true rfl⟩ (fun H locs hP hD hS => ?_)
  refine lv_if_eq (tgt := 28) hx hb dX11_year_9 (by decide) (fun c11 => ?_) (fun c11 => ?_)
  · have hf := ha_it hf c11
    exact J28  z10.2 H locs ls hf  hP hD hS (lv_sub hl [0] rfl)
  · have hf := ha_if hf c11
    refine lv_aload_n hx hb dX11_year_12 rfl (lv_at hl 0 rfl) ?_
    obtain ⟨r12, wr12, hf⟩ := ha_bds hf
    obtain ⟨wr12, hr12⟩ := ha_rf_some wr12
    refine ha_getr hx hb hown hK hP q60 hN h0 wr12 dX11_year_13 ?_
    refine ha_geti hx hb hown hK hP q236 hN hr12 dX11_year_16 ?_
    refine lv_bipush (v := 8) hx hb dX11_year_19 (by decide) ?_
    refine lv_icmp_ge (tgt := 28) hx hb dX11_year_21 (by decide) (fun c13 => ?_) (fun c13 => ?_)
    · have hf := ha_it hf c13
      exact J28  z10.2 H locs ls hf  hP hD hS (lv_sub hl [0] rfl)
    · have hf := ha_if hf c13
      refine lv_iconst (v := 1) hx hb dX11_year_24 (by decide) ?_
      refine lv_goto (tgt := 29) hx hb dX11_year_25 (by decide) ?_
      exact J29 1 z10.2 H locs ls hf  hP hD hS (lv_sub hl [0] rfl)

set_option maxHeartbeats 4000000 in
set_option maxRecDepth 100000 in
theorem c_X11_small {l : Launch} {D : va_G} {cs : Nat → ClassId} {ad adK adV : Nat → Nat} {N : List Nat} {Z : State → Prop} (hZ : ha_Zok (ha_A ad N) Z) (hN : ∀ x, xo_kd x < 999 → x ∈ N) (hX : ∀ U, Z U → xo_Z adK adV (ha_A ad N) U) {p0 : Nat} {p1 : Int32} {S : ha_St} {out : Int32 × ha_St} (h0 : xo_kd p0 = 11) (hf : f_X11_small p0 p1 S = some out) : ha_Ci l D cs ad xo_kd xo_ln N Z yX11_small wsX11_small ({ frames := 4, cells := 0, slots := 0, locals := 97 } : Room) [.ref (ad p0), .int p1] S out.1 out.2 := by
  refine Met.ofW (cc := cX11_small) (maxL := 2) (ret := (some .int)) (by decide +kernel) rfl ?_
  intro p e s m args below meth c s₁ B hml hv
  obtain ⟨rfl, hP, hD, hK, hz⟩ := hv
  have hx := B.exec
  have hb := B.bytes
  have hr := B.returns
  have hts := atoms_spec (ws := wsX11_small) B.pre
  have hown : s.vm.findClass RX11 = some m.cls := findClass_of_methodNamed B.named
  have hlocks := B.notSynchronized
  have hS : va_S (ha_A ad N) s.heap s.heap [] := va_S.rf
  have hi6 : ∀ w ∈ wsX60, w ∈ wsX11_small := fun w h => List.mem_cons_of_mem _ (List.mem_append_left _ (List.mem_append_right _ h))
  have hi11 : ∀ w ∈ wsX110, w ∈ wsX11_small := fun w h => List.mem_cons_of_mem _ (List.mem_append_left _ (List.mem_append_left _ (List.mem_append_right _ h)))
  have q60 : ha_Fk s ([.ref (ad p0), .int p1] : List Value).toArray RX11 60 11 7 1 := ⟨RX11, TX11, 17, wsX11_small, rfl, by decide, by decide, rfl, rfl, hts, hi11, hts (.fieldLink RX11 60 "HillArms" "yearPages" "LHillArms$Pages;") (by decide +kernel)⟩
  have q47 : ha_Fk s ([.ref (ad p0), .int p1] : List Value).toArray RX11 47 11 5 1 := ⟨RX11, TX11, 17, wsX11_small, rfl, by decide, by decide, rfl, rfl, hts, hi11, hts (.fieldLink RX11 47 "HillArms" "entries" "LHillArms$Entries;") (by decide +kernel)⟩
  have q218 : ha_Fk s ([.ref (ad p0), .int p1] : List Value).toArray RX11 218 6 7 0 := ⟨RX6, TX6, 8, wsX11_small, rfl, by decide, by decide, rfl, rfl, hts, hi6, hts (.fieldLink RX11 218 "HillArms$Pages" "bytes" "I") (by decide +kernel)⟩
  have q88 : ha_Fk s ([.ref (ad p0), .int p1] : List Value).toArray RX11 88 11 15 0 := ⟨RX11, TX11, 17, wsX11_small, rfl, by decide, by decide, rfl, rfl, hts, hi11, hts (.fieldLink RX11 88 "HillArms" "latestSmallSet" "I") (by decide +kernel)⟩
  have r88 : ha_Fp s ([.ref (ad p0), .int p1] : List Value).toArray RX11 88 11 15 0 .int := ⟨RX11, TX11, 17, wsX11_small, tyX11, rfl, by decide, by decide, rfl, rfl, hts, hi11, hts (.fieldLink RX11 88 "HillArms" "latestSmallSet" "I") (by decide +kernel), tyX11_ok, nmX11, rfl, by decide +kernel⟩
  have cw0 := cwV (R := (headSpec wsX11_small ({ frames := 4, cells := 0, slots := 0, locals := 97 } : Room)).room) 1 hts gX11_small_X6_mark (rm := ({ frames := 2, cells := 0, slots := 0, locals := 51 } : Room)) (mc := 0) (ms := 0) rfl rfl rfl (by decide +kernel) ⟨Nat.le_of_ble_eq_true rfl, Nat.le_of_ble_eq_true rfl⟩
  have cw1 := cwV (R := (headSpec wsX11_small ({ frames := 4, cells := 0, slots := 0, locals := 97 } : Room)).room) 2 hts gX11_small_X6_bestSet (rm := ({ frames := 3, cells := 0, slots := 0, locals := 70 } : Room)) (mc := 0) (ms := 0) rfl rfl rfl (by decide +kernel) ⟨Nat.le_of_ble_eq_true rfl, Nat.le_of_ble_eq_true rfl⟩
  have cw2 := cwV (R := (headSpec wsX11_small ({ frames := 4, cells := 0, slots := 0, locals := 97 } : Room)).room) 2 hts gX11_small_X6_saving (rm := ({ frames := 2, cells := 0, slots := 0, locals := 45 } : Room)) (mc := 0) (ms := 0) rfl rfl rfl (by decide +kernel) ⟨Nat.le_of_ble_eq_true rfl, Nat.le_of_ble_eq_true rfl⟩
  have hl := lv_entry ([.ref (ad p0), .int p1]) (n := 2) (Nat.le_of_ble_eq_true rfl)
  rw [lg_entry_eq]
  generalize (lg_sl ([.ref (ad p0), .int p1]) ++ List.replicate (2 - (lg_sl ([.ref (ad p0), .int p1])).length) Slot.unset).toArray = ls at hl ⊢
  have hl : lv_has ls 2 [(0, .ref (ad p0)), (1, .int p1)] := hl
  refine (fun (K0 : ∀ (H : Heap) (locs : List Loc), va_P D vwCl (ha_wl cs ad xo_kd xo_ln N S) H → va_S (ha_A ad N) s.heap H locs → W p l e (headSpec wsX11_small ({ frames := 4, cells := 0, slots := 0, locals := 97 } : Room)).room s m ([.ref (ad p0), .int p1] : List Value).toArray below meth c H locs 0 0 (MQ below (va_Qi (fun (r : Int32) (_ : Unit) => r = out.1) (fun _ => ha_H D cs ad xo_kd xo_ln N out.2) (ha_A ad N)) ([.ref (ad p0), .int p1] : List Value).toArray s 0 0 (ha_A ad N)) (F0 m 0 ls [])) => K0 _ _ hP hS) ?_
  intro H locs hP hS
  have hf := ha_rt hf
  have J10 : ∀  (S : ha_St) (H : Heap) (locs : List Loc) (ls : Array Slot), (f_X11_small_J10 p0 p1  S).bind some = some out → va_P D vwCl (ha_wl cs ad xo_kd xo_ln N S) H → va_D (ha_A ad N) (ha_wl cs ad xo_kd xo_ln N S) → va_S (ha_A ad N) s.heap H locs → lv_has ls 2 [(0, .ref (ad p0)), (1, .int p1)] → W p l e (headSpec wsX11_small ({ frames := 4, cells := 0, slots := 0, locals := 97 } : Room)).room s m ([.ref (ad p0), .int p1] : List Value).toArray below meth c H locs 0 0 (MQ below (va_Qi (fun (r : Int32) (_ : Unit) => r = out.1) (fun _ => ha_H D cs ad xo_kd xo_ln N out.2) (ha_A ad N)) ([.ref (ad p0), .int p1] : List Value).toArray s 0 0 (ha_A ad N)) (F0 m 10 ls []) := by
    intro  S H locs ls hf  hP hD hS hl
    unfold f_X11_small_J10 at hf
    refine lv_iconst (v := (-1)) hx hb dX11_small_10 (by decide) ?_
    have he := Option.some.inj hf
    exact ha_reti hx hb hr hlocks hP hD hS dX11_small_11 (ha_e1 he) (ha_e2 he)
  unfold f_X11_small at hf
  refine lv_iload_n hx hb dX11_small_0 rfl (lv_at hl 1 rfl) ?_
  refine lv_if_lt (tgt := 10) hx hb dX11_small_1 (by decide) (fun c1 => ?_) (fun c1 => ?_)
  · have hf := ha_it hf c1
    exact J10  S H locs ls hf  hP hD hS (lv_sub hl [0, 1] rfl)
  · have hf := ha_if hf c1
    refine lv_iload_n hx hb dX11_small_4 rfl (lv_at hl 1 rfl) ?_
    refine lv_bipush (v := 12) hx hb dX11_small_5 (by decide) ?_
    refine lv_icmp_le (tgt := 12) hx hb dX11_small_7 (by decide) (fun c2 => ?_) (fun c2 => ?_)
    · have hf := ha_it hf c2
      refine lv_aload_n hx hb dX11_small_12 rfl (lv_at hl 0 rfl) ?_
      obtain ⟨r3, wr3, hf⟩ := ha_bds hf
      obtain ⟨wr3, hr3⟩ := ha_rf_some wr3
      refine ha_getr hx hb hown hK hP q60 hN h0 wr3 dX11_small_13 ?_
      refine lv_aload_n hx hb dX11_small_16 rfl (lv_at hl 0 rfl) ?_
      obtain ⟨r4, wr4, hf⟩ := ha_bds hf
      obtain ⟨wr4, hr4⟩ := ha_rf_some wr4
      refine ha_getr hx hb hown hK hP q47 hN h0 wr4 dX11_small_17 ?_
      obtain ⟨z5, wz5, hf⟩ := ha_bds hf
      refine ha_callVv (As := [.ref (ad r4)]) (rest := []) hZ ⟨hx, hb, hml, hown, hts⟩ hK hz hP hD hS (c_X6_mark hZ hN hX hr3 hr4 wz5) cw0 hN hr3 (by decide) rfl rfl hl.1 rfl (Nat.le_of_ble_eq_true rfl) dX11_small_20 ⟨Nat.le_of_ble_eq_true rfl, Nat.le_of_ble_eq_true rfl⟩ (fun H locs hP hD hS => ?_)
      refine lv_aload_n hx hb dX11_small_23 rfl (lv_at hl 0 rfl) ?_
      refine lv_aload_n hx hb dX11_small_24 rfl (lv_at hl 0 rfl) ?_
      obtain ⟨r6, wr6, hf⟩ := ha_bds hf
      obtain ⟨wr6, hr6⟩ := ha_rf_some wr6
      refine ha_getr hx hb hown hK hP q60 hN h0 wr6 dX11_small_25 ?_
      refine lv_aload_n hx hb dX11_small_28 rfl (lv_at hl 0 rfl) ?_
      obtain ⟨r7, wr7, hf⟩ := ha_bds hf
      obtain ⟨wr7, hr7⟩ := ha_rf_some wr7
      refine ha_getr hx hb hown hK hP q47 hN h0 wr7 dX11_small_29 ?_
      refine lv_iload_n hx hb dX11_small_32 rfl (lv_at hl 1 rfl) ?_
      obtain ⟨z8, wz8, hf⟩ := ha_bds hf
      refine ha_callVi (As := [.ref (ad r7), .int p1]) (rest := [.ref (ad p0)]) hZ ⟨hx, hb, hml, hown, hts⟩ hK hz hP hD hS (c_X6_bestSet hZ hN hX hr6 hr7 wz8) cw1 hN hr6 (by decide) rfl rfl hl.1 rfl (Nat.le_of_ble_eq_true rfl) dX11_small_33 ⟨Nat.le_of_ble_eq_true rfl, Nat.le_of_ble_eq_true rfl⟩ (fun H locs hP hD hS => ?_)
      refine ha_puti hx hb hown hK hP hD hS r88 hN h0 dX11_small_36 (fun S9 H locs eS9 hP hD hS => ?_)
      have hf := ha_nms hf eS9
      refine lv_aload_n hx hb dX11_small_39 rfl (lv_at hl 0 rfl) ?_
      obtain ⟨r10, wr10, hf⟩ := ha_bds hf
      obtain ⟨wr10, hr10⟩ := ha_rf_some wr10
      refine ha_getr hx hb hown hK hP q60 hN h0 wr10 dX11_small_40 ?_
      refine ha_geti hx hb hown hK hP q218 hN hr10 dX11_small_43 ?_
      refine lv_aload_n hx hb dX11_small_46 rfl (lv_at hl 0 rfl) ?_
      obtain ⟨r11, wr11, hf⟩ := ha_bds hf
      obtain ⟨wr11, hr11⟩ := ha_rf_some wr11
      refine ha_getr hx hb hown hK hP q60 hN h0 wr11 dX11_small_47 ?_
      refine lv_aload_n hx hb dX11_small_50 rfl (lv_at hl 0 rfl) ?_
      obtain ⟨r12, wr12, hf⟩ := ha_bds hf
      obtain ⟨wr12, hr12⟩ := ha_rf_some wr12
      refine ha_getr hx hb hown hK hP q47 hN h0 wr12 dX11_small_51 ?_
      refine lv_aload_n hx hb dX11_small_54 rfl (lv_at hl 0 rfl) ?_
      refine ha_geti hx hb hown hK hP q88 hN h0 dX11_small_55 ?_
      obtain ⟨z13, wz13, hf⟩ := ha_bds hf
      refine ha_callVi (As := [.ref (ad r12), .int ((ha_gI S9 p0 15))]) (rest := [.int ((ha_gI S9 r10 7))]) hZ ⟨hx, hb, hml, hown, hts⟩ hK hz hP hD hS (c_X6_saving hZ hN hX hr11 hr12 wz13) cw2 hN hr11 (by decide) rfl rfl hl.1 rfl (Nat.le_of_ble_eq_true rfl) dX11_small_58 ⟨Nat.le_of_ble_eq_true rfl, Nat.le_of_ble_eq_true rfl⟩ (fun H locs hP hD hS => ?_)
      refine lv_isub hx hb dX11_small_61 ?_
      have he := Option.some.inj hf
      exact ha_reti hx hb hr hlocks hP hD hS dX11_small_62 (ha_e1 he) (ha_e2 he)
    · have hf := ha_if hf c2
      exact J10  S H locs ls hf  hP hD hS (lv_sub hl [0, 1] rfl)

set_option maxHeartbeats 4000000 in
set_option maxRecDepth 100000 in
theorem c_X11_smallSet {l : Launch} {D : va_G} {cs : Nat → ClassId} {ad adK adV : Nat → Nat} {N : List Nat} {Z : State → Prop} (hZ : ha_Zok (ha_A ad N) Z) (hN : ∀ x, xo_kd x < 999 → x ∈ N) (hX : ∀ U, Z U → xo_Z adK adV (ha_A ad N) U) {p0 : Nat} {S : ha_St} {out : Int32 × ha_St} (h0 : xo_kd p0 = 11) (hf : f_X11_smallSet p0 S = some out) : ha_Ci l D cs ad xo_kd xo_ln N Z yX11_smallSet wsX11_smallSet ({ frames := 0, cells := 0, slots := 0, locals := 0 } : Room) [.ref (ad p0)] S out.1 out.2 := by
  refine Met.ofW (cc := cX11_smallSet) (maxL := 1) (ret := (some .int)) (by decide +kernel) rfl ?_
  intro p e s m args below meth c s₁ B hml hv
  obtain ⟨rfl, hP, hD, hK, hz⟩ := hv
  have hx := B.exec
  have hb := B.bytes
  have hr := B.returns
  have hts := atoms_spec (ws := wsX11_smallSet) B.pre
  have hown : s.vm.findClass RX11 = some m.cls := findClass_of_methodNamed B.named
  have hlocks := B.notSynchronized
  have hS : va_S (ha_A ad N) s.heap s.heap [] := va_S.rf
  have hi11 : ∀ w ∈ wsX110, w ∈ wsX11_smallSet := fun w h => List.mem_cons_of_mem _ (List.mem_append_right _ h)
  have q88 : ha_Fk s ([.ref (ad p0)] : List Value).toArray RX11 88 11 15 0 := ⟨RX11, TX11, 17, wsX11_smallSet, rfl, by decide, by decide, rfl, rfl, hts, hi11, hts (.fieldLink RX11 88 "HillArms" "latestSmallSet" "I") (by decide +kernel)⟩
  have hl := lv_entry ([.ref (ad p0)]) (n := 1) (Nat.le_of_ble_eq_true rfl)
  rw [lg_entry_eq]
  generalize (lg_sl ([.ref (ad p0)]) ++ List.replicate (1 - (lg_sl ([.ref (ad p0)])).length) Slot.unset).toArray = ls at hl ⊢
  have hl : lv_has ls 1 [(0, .ref (ad p0))] := hl
  refine (fun (K0 : ∀ (H : Heap) (locs : List Loc), va_P D vwCl (ha_wl cs ad xo_kd xo_ln N S) H → va_S (ha_A ad N) s.heap H locs → W p l e (headSpec wsX11_smallSet ({ frames := 0, cells := 0, slots := 0, locals := 0 } : Room)).room s m ([.ref (ad p0)] : List Value).toArray below meth c H locs 0 0 (MQ below (va_Qi (fun (r : Int32) (_ : Unit) => r = out.1) (fun _ => ha_H D cs ad xo_kd xo_ln N out.2) (ha_A ad N)) ([.ref (ad p0)] : List Value).toArray s 0 0 (ha_A ad N)) (F0 m 0 ls [])) => K0 _ _ hP hS) ?_
  intro H locs hP hS
  have hf := ha_rt hf
  unfold f_X11_smallSet at hf
  refine lv_aload_n hx hb dX11_smallSet_0 rfl (lv_at hl 0 rfl) ?_
  refine ha_geti hx hb hown hK hP q88 hN h0 dX11_smallSet_1 ?_
  have he := Option.some.inj hf
  exact ha_reti hx hb hr hlocks hP hD hS dX11_smallSet_4 (ha_e1 he) (ha_e2 he)

set_option maxHeartbeats 4000000 in
set_option maxRecDepth 100000 in
theorem c_X11_note {l : Launch} {D : va_G} {cs : Nat → ClassId} {ad adK adV : Nat → Nat} {N : List Nat} {Z : State → Prop} (hZ : ha_Zok (ha_A ad N) Z) (hN : ∀ x, xo_kd x < 999 → x ∈ N) (hX : ∀ U, Z U → xo_Z adK adV (ha_A ad N) U) {p0 : Nat} {p1 : Int32} {p2 : Int32} {p3 : Int32} {S : ha_St} {out : Int32 × ha_St} (h0 : xo_kd p0 = 11) (hf : f_X11_note p0 p1 p2 p3 S = some out) : ha_Ci l D cs ad xo_kd xo_ln N Z yX11_note wsX11_note ({ frames := 1, cells := 0, slots := 0, locals := 24 } : Room) [.ref (ad p0), .int p1, .int p2, .int p3] S out.1 out.2 := by
  refine Met.ofW (cc := cX11_note) (maxL := 4) (ret := (some .int)) (by decide +kernel) rfl ?_
  intro p e s m args below meth c s₁ B hml hv
  obtain ⟨rfl, hP, hD, hK, hz⟩ := hv
  have hx := B.exec
  have hb := B.bytes
  have hr := B.returns
  have hts := atoms_spec (ws := wsX11_note) B.pre
  have hown : s.vm.findClass RX11 = some m.cls := findClass_of_methodNamed B.named
  have hlocks := B.notSynchronized
  have hS : va_S (ha_A ad N) s.heap s.heap [] := va_S.rf
  have hi1 : ∀ w ∈ wsX10, w ∈ wsX11_note := fun w h => List.mem_cons_of_mem _ (List.mem_append_right _ h)
  have hi2 : ∀ w ∈ wsX20, w ∈ wsX11_note := fun w h => List.mem_cons_of_mem _ (List.mem_append_left _ (List.mem_append_right _ h))
  have hi11 : ∀ w ∈ wsX110, w ∈ wsX11_note := fun w h => List.mem_cons_of_mem _ (List.mem_append_left _ (List.mem_append_left _ (List.mem_append_right _ h)))
  have q70 : ha_Fk s ([.ref (ad p0), .int p1, .int p2, .int p3] : List Value).toArray RX11 70 11 9 1 := ⟨RX11, TX11, 17, wsX11_note, rfl, by decide, by decide, rfl, rfl, hts, hi11, hts (.fieldLink RX11 70 "HillArms" "delays" "LHillArms$Delays;") (by decide +kernel)⟩
  have q104 : ha_Fk s ([.ref (ad p0), .int p1, .int p2, .int p3] : List Value).toArray RX11 104 2 8 0 := ⟨RX2, TX2, 9, wsX11_note, rfl, by decide, by decide, rfl, rfl, hts, hi2, hts (.fieldLink RX11 104 "HillArms$Delays" "notes" "I") (by decide +kernel)⟩
  have q19 : ha_Fk s ([.ref (ad p0), .int p1, .int p2, .int p3] : List Value).toArray RX11 19 11 1 1 := ⟨RX11, TX11, 17, wsX11_note, rfl, by decide, by decide, rfl, rfl, hts, hi11, hts (.fieldLink RX11 19 "HillArms" "crew" "LHillArms$Crew;") (by decide +kernel)⟩
  have q107 : ha_Fk s ([.ref (ad p0), .int p1, .int p2, .int p3] : List Value).toArray RX11 107 1 5 0 := ⟨RX1, TX1, 8, wsX11_note, rfl, by decide, by decide, rfl, rfl, hts, hi1, hts (.fieldLink RX11 107 "HillArms$Crew" "towers" "I") (by decide +kernel)⟩
  have q98 : ha_Fk s ([.ref (ad p0), .int p1, .int p2, .int p3] : List Value).toArray RX11 98 11 13 0 := ⟨RX11, TX11, 17, wsX11_note, rfl, by decide, by decide, rfl, rfl, hts, hi11, hts (.fieldLink RX11 98 "HillArms" "today" "I") (by decide +kernel)⟩
  have cw0 := cwV (R := (headSpec wsX11_note ({ frames := 1, cells := 0, slots := 0, locals := 24 } : Room)).room) 4 hts gX11_note_X2_add (rm := ({ frames := 0, cells := 0, slots := 0, locals := 0 } : Room)) (mc := 0) (ms := 0) rfl rfl rfl (by decide +kernel) ⟨Nat.le_of_ble_eq_true rfl, Nat.le_of_ble_eq_true rfl⟩
  have hl := lv_entry ([.ref (ad p0), .int p1, .int p2, .int p3]) (n := 4) (Nat.le_of_ble_eq_true rfl)
  rw [lg_entry_eq]
  generalize (lg_sl ([.ref (ad p0), .int p1, .int p2, .int p3]) ++ List.replicate (4 - (lg_sl ([.ref (ad p0), .int p1, .int p2, .int p3])).length) Slot.unset).toArray = ls at hl ⊢
  have hl : lv_has ls 4 [(0, .ref (ad p0)), (1, .int p1), (2, .int p2), (3, .int p3)] := hl
  refine (fun (K0 : ∀ (H : Heap) (locs : List Loc), va_P D vwCl (ha_wl cs ad xo_kd xo_ln N S) H → va_S (ha_A ad N) s.heap H locs → W p l e (headSpec wsX11_note ({ frames := 1, cells := 0, slots := 0, locals := 24 } : Room)).room s m ([.ref (ad p0), .int p1, .int p2, .int p3] : List Value).toArray below meth c H locs 0 0 (MQ below (va_Qi (fun (r : Int32) (_ : Unit) => r = out.1) (fun _ => ha_H D cs ad xo_kd xo_ln N out.2) (ha_A ad N)) ([.ref (ad p0), .int p1, .int p2, .int p3] : List Value).toArray s 0 0 (ha_A ad N)) (F0 m 0 ls [])) => K0 _ _ hP hS) ?_
  intro H locs hP hS
  have hf := ha_rt hf
  have J44 : ∀  (S : ha_St) (H : Heap) (locs : List Loc) (ls : Array Slot), (f_X11_note_J44 p0 p1 p2 p3  S).bind some = some out → va_P D vwCl (ha_wl cs ad xo_kd xo_ln N S) H → va_D (ha_A ad N) (ha_wl cs ad xo_kd xo_ln N S) → va_S (ha_A ad N) s.heap H locs → lv_has ls 4 [(0, .ref (ad p0)), (1, .int p1), (2, .int p2), (3, .int p3)] → W p l e (headSpec wsX11_note ({ frames := 1, cells := 0, slots := 0, locals := 24 } : Room)).room s m ([.ref (ad p0), .int p1, .int p2, .int p3] : List Value).toArray below meth c H locs 0 0 (MQ below (va_Qi (fun (r : Int32) (_ : Unit) => r = out.1) (fun _ => ha_H D cs ad xo_kd xo_ln N out.2) (ha_A ad N)) ([.ref (ad p0), .int p1, .int p2, .int p3] : List Value).toArray s 0 0 (ha_A ad N)) (F0 m 44 ls []) := by
    intro  S H locs ls hf  hP hD hS hl
    unfold f_X11_note_J44 at hf
    refine lv_iconst (v := (-1)) hx hb dX11_note_44 (by decide) ?_
    have he := Option.some.inj hf
    exact ha_reti hx hb hr hlocks hP hD hS dX11_note_45 (ha_e1 he) (ha_e2 he)
  unfold f_X11_note at hf
  refine lv_aload_n hx hb dX11_note_0 rfl (lv_at hl 0 rfl) ?_
  obtain ⟨r1, wr1, hf⟩ := ha_bds hf
  obtain ⟨wr1, hr1⟩ := ha_rf_some wr1
  refine ha_getr hx hb hown hK hP q70 hN h0 wr1 dX11_note_1 ?_
  refine ha_geti hx hb hown hK hP q104 hN hr1 dX11_note_4 ?_
  refine lv_bipush (v := 60) hx hb dX11_note_7 (by decide) ?_
  refine lv_icmp_ge (tgt := 44) hx hb dX11_note_9 (by decide) (fun c2 => ?_) (fun c2 => ?_)
  · have hf := ha_it hf c2
    exact J44  S H locs ls hf  hP hD hS (lv_sub hl [0, 1, 2, 3] rfl)
  · have hf := ha_if hf c2
    refine lv_iload_n hx hb dX11_note_12 rfl (lv_at hl 1 rfl) ?_
    refine lv_if_lt (tgt := 44) hx hb dX11_note_13 (by decide) (fun c3 => ?_) (fun c3 => ?_)
    · have hf := ha_it hf c3
      exact J44  S H locs ls hf  hP hD hS (lv_sub hl [0, 1, 2, 3] rfl)
    · have hf := ha_if hf c3
      refine lv_iload_n hx hb dX11_note_16 rfl (lv_at hl 2 rfl) ?_
      refine lv_iload_n hx hb dX11_note_17 rfl (lv_at hl 1 rfl) ?_
      refine lv_icmp_lt (tgt := 44) hx hb dX11_note_18 (by decide) (fun c4 => ?_) (fun c4 => ?_)
      · have hf := ha_it hf c4
        exact J44  S H locs ls hf  hP hD hS (lv_sub hl [0, 1, 2, 3] rfl)
      · have hf := ha_if hf c4
        refine lv_iload_n hx hb dX11_note_21 rfl (lv_at hl 2 rfl) ?_
        refine lv_aload_n hx hb dX11_note_22 rfl (lv_at hl 0 rfl) ?_
        obtain ⟨r5, wr5, hf⟩ := ha_bds hf
        obtain ⟨wr5, hr5⟩ := ha_rf_some wr5
        refine ha_getr hx hb hown hK hP q19 hN h0 wr5 dX11_note_23 ?_
        refine ha_geti hx hb hown hK hP q107 hN hr5 dX11_note_26 ?_
        refine lv_icmp_ge (tgt := 44) hx hb dX11_note_29 (by decide) (fun c6 => ?_) (fun c6 => ?_)
        · have hf := ha_it hf c6
          exact J44  S H locs ls hf  hP hD hS (lv_sub hl [0, 1, 2, 3] rfl)
        · have hf := ha_if hf c6
          refine lv_iload_n hx hb dX11_note_32 rfl (lv_at hl 3 rfl) ?_
          refine lv_iconst (v := 1) hx hb dX11_note_33 (by decide) ?_
          refine lv_icmp_lt (tgt := 44) hx hb dX11_note_34 (by decide) (fun c7 => ?_) (fun c7 => ?_)
          · have hf := ha_it hf c7
            exact J44  S H locs ls hf  hP hD hS (lv_sub hl [0, 1, 2, 3] rfl)
          · have hf := ha_if hf c7
            refine lv_iload_n hx hb dX11_note_37 rfl (lv_at hl 3 rfl) ?_
            refine lv_sipush (v := 200) hx hb dX11_note_38 (by decide) ?_
            refine lv_icmp_le (tgt := 46) hx hb dX11_note_41 (by decide) (fun c8 => ?_) (fun c8 => ?_)
            · have hf := ha_it hf c8
              refine lv_aload_n hx hb dX11_note_46 rfl (lv_at hl 0 rfl) ?_
              obtain ⟨r9, wr9, hf⟩ := ha_bds hf
              obtain ⟨wr9, hr9⟩ := ha_rf_some wr9
              refine ha_getr hx hb hown hK hP q70 hN h0 wr9 dX11_note_47 ?_
              refine lv_iload_n hx hb dX11_note_50 rfl (lv_at hl 1 rfl) ?_
              refine lv_iload_n hx hb dX11_note_51 rfl (lv_at hl 2 rfl) ?_
              refine lv_iload_n hx hb dX11_note_52 rfl (lv_at hl 3 rfl) ?_
              refine lv_aload_n hx hb dX11_note_53 rfl (lv_at hl 0 rfl) ?_
              refine ha_geti hx hb hown hK hP q98 hN h0 dX11_note_54 ?_
              obtain ⟨z10, wz10, hf⟩ := ha_bds hf
              refine ha_callVi (As := [.int p1, .int p2, .int p3, .int ((ha_gI S p0 13))]) (rest := []) hZ ⟨hx, hb, hml, hown, hts⟩ hK hz hP hD hS (c_X2_add hZ hN hX hr9 wz10) cw0 hN hr9 (by decide) rfl rfl hl.1 rfl (Nat.le_of_ble_eq_true rfl) dX11_note_57 ⟨Nat.le_of_ble_eq_true rfl, Nat.le_of_ble_eq_true rfl⟩ (fun H locs hP hD hS => ?_)
              have he := Option.some.inj hf
              exact ha_reti hx hb hr hlocks hP hD hS dX11_note_60 (ha_e1 he) (ha_e2 he)
            · have hf := ha_if hf c8
              exact J44  S H locs ls hf  hP hD hS (lv_sub hl [0, 1, 2, 3] rfl)

set_option maxHeartbeats 4000000 in
set_option maxRecDepth 100000 in
theorem c_X11_delay {l : Launch} {D : va_G} {cs : Nat → ClassId} {ad adK adV : Nat → Nat} {N : List Nat} {Z : State → Prop} (hZ : ha_Zok (ha_A ad N) Z) (hN : ∀ x, xo_kd x < 999 → x ∈ N) (hX : ∀ U, Z U → xo_Z adK adV (ha_A ad N) U) {p0 : Nat} {p1 : Int32} {p2 : Int32} {p3 : Int32} {S : ha_St} {out : Int32 × ha_St} (h0 : xo_kd p0 = 11) (hf : f_X11_delay p0 p1 p2 p3 S = some out) : ha_Ci l D cs ad xo_kd xo_ln N Z yX11_delay wsX11_delay ({ frames := 4, cells := 0, slots := 0, locals := 93 } : Room) [.ref (ad p0), .int p1, .int p2, .int p3] S out.1 out.2 := by
  refine Met.ofW (cc := cX11_delay) (maxL := 4) (ret := (some .int)) (by decide +kernel) rfl ?_
  intro p e s m args below meth c s₁ B hml hv
  obtain ⟨rfl, hP, hD, hK, hz⟩ := hv
  have hx := B.exec
  have hb := B.bytes
  have hr := B.returns
  have hts := atoms_spec (ws := wsX11_delay) B.pre
  have hown : s.vm.findClass RX11 = some m.cls := findClass_of_methodNamed B.named
  have hlocks := B.notSynchronized
  have hS : va_S (ha_A ad N) s.heap s.heap [] := va_S.rf
  have hi1 : ∀ w ∈ wsX10, w ∈ wsX11_delay := fun w h => List.mem_cons_of_mem _ (List.mem_append_left _ (List.mem_append_right _ h))
  have hi11 : ∀ w ∈ wsX110, w ∈ wsX11_delay := fun w h => List.mem_cons_of_mem _ (List.mem_append_left _ (List.mem_append_left _ (List.mem_append_right _ h)))
  have q19 : ha_Fk s ([.ref (ad p0), .int p1, .int p2, .int p3] : List Value).toArray RX11 19 11 1 1 := ⟨RX11, TX11, 17, wsX11_delay, rfl, by decide, by decide, rfl, rfl, hts, hi11, hts (.fieldLink RX11 19 "HillArms" "crew" "LHillArms$Crew;") (by decide +kernel)⟩
  have q107 : ha_Fk s ([.ref (ad p0), .int p1, .int p2, .int p3] : List Value).toArray RX11 107 1 5 0 := ⟨RX1, TX1, 8, wsX11_delay, rfl, by decide, by decide, rfl, rfl, hts, hi1, hts (.fieldLink RX11 107 "HillArms$Crew" "towers" "I") (by decide +kernel)⟩
  have q70 : ha_Fk s ([.ref (ad p0), .int p1, .int p2, .int p3] : List Value).toArray RX11 70 11 9 1 := ⟨RX11, TX11, 17, wsX11_delay, rfl, by decide, by decide, rfl, rfl, hts, hi11, hts (.fieldLink RX11 70 "HillArms" "delays" "LHillArms$Delays;") (by decide +kernel)⟩
  have cw0 := cwV (R := (headSpec wsX11_delay ({ frames := 4, cells := 0, slots := 0, locals := 93 } : Room)).room) 2 hts gX11_delay_X2_fit (rm := ({ frames := 3, cells := 0, slots := 0, locals := 70 } : Room)) (mc := 0) (ms := 0) rfl rfl rfl (by decide +kernel) ⟨Nat.le_of_ble_eq_true rfl, Nat.le_of_ble_eq_true rfl⟩
  have cw1 := cwV (R := (headSpec wsX11_delay ({ frames := 4, cells := 0, slots := 0, locals := 93 } : Room)).room) 1 hts gX11_delay_X2_greatest (rm := ({ frames := 0, cells := 0, slots := 0, locals := 0 } : Room)) (mc := 0) (ms := 0) rfl rfl rfl (by decide +kernel) ⟨Nat.le_of_ble_eq_true rfl, Nat.le_of_ble_eq_true rfl⟩
  have cw2 := cwV (R := (headSpec wsX11_delay ({ frames := 4, cells := 0, slots := 0, locals := 93 } : Room)).room) 1 hts gX11_delay_X2_least (rm := ({ frames := 0, cells := 0, slots := 0, locals := 0 } : Room)) (mc := 0) (ms := 0) rfl rfl rfl (by decide +kernel) ⟨Nat.le_of_ble_eq_true rfl, Nat.le_of_ble_eq_true rfl⟩
  have hl := lv_entry ([.ref (ad p0), .int p1, .int p2, .int p3]) (n := 4) (Nat.le_of_ble_eq_true rfl)
  rw [lg_entry_eq]
  generalize (lg_sl ([.ref (ad p0), .int p1, .int p2, .int p3]) ++ List.replicate (4 - (lg_sl ([.ref (ad p0), .int p1, .int p2, .int p3])).length) Slot.unset).toArray = ls at hl ⊢
  have hl : lv_has ls 4 [(0, .ref (ad p0)), (1, .int p1), (2, .int p2), (3, .int p3)] := hl
  refine (fun (K0 : ∀ (H : Heap) (locs : List Loc), va_P D vwCl (ha_wl cs ad xo_kd xo_ln N S) H → va_S (ha_A ad N) s.heap H locs → W p l e (headSpec wsX11_delay ({ frames := 4, cells := 0, slots := 0, locals := 93 } : Room)).room s m ([.ref (ad p0), .int p1, .int p2, .int p3] : List Value).toArray below meth c H locs 0 0 (MQ below (va_Qi (fun (r : Int32) (_ : Unit) => r = out.1) (fun _ => ha_H D cs ad xo_kd xo_ln N out.2) (ha_A ad N)) ([.ref (ad p0), .int p1, .int p2, .int p3] : List Value).toArray s 0 0 (ha_A ad N)) (F0 m 0 ls [])) => K0 _ _ hP hS) ?_
  intro H locs hP hS
  have hf := ha_rt hf
  have J70 : ∀ (k0 : Int32) (S : ha_St) (H : Heap) (locs : List Loc) (ls : Array Slot), (f_X11_delay_J70 p0 p1 p2 p3 k0 S).bind some = some out → va_P D vwCl (ha_wl cs ad xo_kd xo_ln N S) H → va_D (ha_A ad N) (ha_wl cs ad xo_kd xo_ln N S) → va_S (ha_A ad N) s.heap H locs → lv_has ls 4 [(0, .ref (ad p0)), (1, .int p1), (2, .int p2), (3, .int p3)] → W p l e (headSpec wsX11_delay ({ frames := 4, cells := 0, slots := 0, locals := 93 } : Room)).room s m ([.ref (ad p0), .int p1, .int p2, .int p3] : List Value).toArray below meth c H locs 0 0 (MQ below (va_Qi (fun (r : Int32) (_ : Unit) => r = out.1) (fun _ => ha_H D cs ad xo_kd xo_ln N out.2) (ha_A ad N)) ([.ref (ad p0), .int p1, .int p2, .int p3] : List Value).toArray s 0 0 (ha_A ad N)) (F0 m 70 ls [.int k0]) := by
    intro k0 S H locs ls hf  hP hD hS hl
    unfold f_X11_delay_J70 at hf
    have he := Option.some.inj hf
    exact ha_reti hx hb hr hlocks hP hD hS dX11_delay_70 (ha_e1 he) (ha_e2 he)
  have J24 : ∀  (S : ha_St) (H : Heap) (locs : List Loc) (ls : Array Slot), (f_X11_delay_J24 p0 p1 p2 p3  S).bind some = some out → va_P D vwCl (ha_wl cs ad xo_kd xo_ln N S) H → va_D (ha_A ad N) (ha_wl cs ad xo_kd xo_ln N S) → va_S (ha_A ad N) s.heap H locs → lv_has ls 4 [(0, .ref (ad p0)), (1, .int p1), (2, .int p2), (3, .int p3)] → W p l e (headSpec wsX11_delay ({ frames := 4, cells := 0, slots := 0, locals := 93 } : Room)).room s m ([.ref (ad p0), .int p1, .int p2, .int p3] : List Value).toArray below meth c H locs 0 0 (MQ below (va_Qi (fun (r : Int32) (_ : Unit) => r = out.1) (fun _ => ha_H D cs ad xo_kd xo_ln N out.2) (ha_A ad N)) ([.ref (ad p0), .int p1, .int p2, .int p3] : List Value).toArray s 0 0 (ha_A ad N)) (F0 m 24 ls []) := by
    intro  S H locs ls hf  hP hD hS hl
    unfold f_X11_delay_J24 at hf
    refine lv_iconst (v := (-1)) hx hb dX11_delay_24 (by decide) ?_
    have he := Option.some.inj hf
    exact ha_reti hx hb hr hlocks hP hD hS dX11_delay_25 (ha_e1 he) (ha_e2 he)
  unfold f_X11_delay at hf
  refine lv_iload_n hx hb dX11_delay_0 rfl (lv_at hl 1 rfl) ?_
  refine lv_if_lt (tgt := 24) hx hb dX11_delay_1 (by decide) (fun c1 => ?_) (fun c1 => ?_)
  · have hf := ha_it hf c1
    exact J24  S H locs ls hf  hP hD hS (lv_sub hl [0, 1, 2, 3] rfl)
  · have hf := ha_if hf c1
    refine lv_iload_n hx hb dX11_delay_4 rfl (lv_at hl 1 rfl) ?_
    refine lv_aload_n hx hb dX11_delay_5 rfl (lv_at hl 0 rfl) ?_
    obtain ⟨r2, wr2, hf⟩ := ha_bds hf
    obtain ⟨wr2, hr2⟩ := ha_rf_some wr2
    refine ha_getr hx hb hown hK hP q19 hN h0 wr2 dX11_delay_6 ?_
    refine ha_geti hx hb hown hK hP q107 hN hr2 dX11_delay_9 ?_
    refine lv_icmp_ge (tgt := 24) hx hb dX11_delay_12 (by decide) (fun c3 => ?_) (fun c3 => ?_)
    · have hf := ha_it hf c3
      exact J24  S H locs ls hf  hP hD hS (lv_sub hl [0, 1, 2, 3] rfl)
    · have hf := ha_if hf c3
      refine lv_iload_n hx hb dX11_delay_15 rfl (lv_at hl 3 rfl) ?_
      refine lv_if_lt (tgt := 24) hx hb dX11_delay_16 (by decide) (fun c4 => ?_) (fun c4 => ?_)
      · have hf := ha_it hf c4
        exact J24  S H locs ls hf  hP hD hS (lv_sub hl [0, 1, 2, 3] rfl)
      · have hf := ha_if hf c4
        refine lv_iload_n hx hb dX11_delay_19 rfl (lv_at hl 3 rfl) ?_
        refine lv_iconst (v := 1) hx hb dX11_delay_20 (by decide) ?_
        refine lv_icmp_le (tgt := 26) hx hb dX11_delay_21 (by decide) (fun c5 => ?_) (fun c5 => ?_)
        · have hf := ha_it hf c5
          refine lv_aload_n hx hb dX11_delay_26 rfl (lv_at hl 0 rfl) ?_
          obtain ⟨r6, wr6, hf⟩ := ha_bds hf
          obtain ⟨wr6, hr6⟩ := ha_rf_some wr6
          refine ha_getr hx hb hown hK hP q70 hN h0 wr6 dX11_delay_27 ?_
          refine lv_aload_n hx hb dX11_delay_30 rfl (lv_at hl 0 rfl) ?_
          obtain ⟨r7, wr7, hf⟩ := ha_bds hf
          obtain ⟨wr7, hr7⟩ := ha_rf_some wr7
          refine ha_getr hx hb hown hK hP q19 hN h0 wr7 dX11_delay_31 ?_
          refine ha_geti hx hb hown hK hP q107 hN hr7 dX11_delay_34 ?_
          refine lv_iload_n hx hb dX11_delay_37 rfl (lv_at hl 2 rfl) ?_
          obtain ⟨z8, wz8, hf⟩ := ha_bds hf
          refine ha_callVi (As := [.int ((ha_gI S r7 5)), .int p2]) (rest := []) hZ ⟨hx, hb, hml, hown, hts⟩ hK hz hP hD hS (c_X2_fit hZ hN hX hr6 wz8) cw0 hN hr6 (by decide) rfl rfl hl.1 rfl (Nat.le_of_ble_eq_true rfl) dX11_delay_38 ⟨Nat.le_of_ble_eq_true rfl, Nat.le_of_ble_eq_true rfl⟩ (fun H locs hP hD hS => ?_)
          refine lv_if_ne (tgt := 47) hx hb dX11_delay_41 (by decide) (fun c9 => ?_) (fun c9 => ?_)
          · have hf := ha_it hf c9
            refine lv_iload_n hx hb dX11_delay_47 rfl (lv_at hl 3 rfl) ?_
            refine lv_if_ne (tgt := 62) hx hb dX11_delay_48 (by decide) (fun c10 => ?_) (fun c10 => ?_)
            · have hf := ha_it hf c10
              refine lv_aload_n hx hb dX11_delay_62 rfl (lv_at hl 0 rfl) ?_
              obtain ⟨r11, wr11, hf⟩ := ha_bds hf
              obtain ⟨wr11, hr11⟩ := ha_rf_some wr11
              refine ha_getr hx hb hown hK hP q70 hN h0 wr11 dX11_delay_63 ?_
              refine lv_iload_n hx hb dX11_delay_66 rfl (lv_at hl 1 rfl) ?_
              obtain ⟨z12, wz12, hf⟩ := ha_bds hf
              refine ha_callVi (As := [.int p1]) (rest := []) hZ ⟨hx, hb, hml, hown, hts⟩ hK hz hP hD hS (c_X2_greatest hZ hN hX hr11 wz12) cw1 hN hr11 (by decide) rfl rfl hl.1 rfl (Nat.le_of_ble_eq_true rfl) dX11_delay_67 ⟨Nat.le_of_ble_eq_true rfl, Nat.le_of_ble_eq_true rfl⟩ (fun H locs hP hD hS => ?_)
              exact J70 z12.1 z12.2 H locs ls hf  hP hD hS (lv_sub hl [0, 1, 2, 3] rfl)
            · have hf := ha_if hf (fun q => q c10)
              refine lv_aload_n hx hb dX11_delay_51 rfl (lv_at hl 0 rfl) ?_
              obtain ⟨r13, wr13, hf⟩ := ha_bds hf
              obtain ⟨wr13, hr13⟩ := ha_rf_some wr13
              refine ha_getr hx hb hown hK hP q70 hN h0 wr13 dX11_delay_52 ?_
              refine lv_iload_n hx hb dX11_delay_55 rfl (lv_at hl 1 rfl) ?_
              obtain ⟨z14, wz14, hf⟩ := ha_bds hf
              refine ha_callVi (As := [.int p1]) (rest := []) hZ ⟨hx, hb, hml, hown, hts⟩ hK hz hP hD hS (c_X2_least hZ hN hX hr13 wz14) cw2 hN hr13 (by decide) rfl rfl hl.1 rfl (Nat.le_of_ble_eq_true rfl) dX11_delay_56 ⟨Nat.le_of_ble_eq_true rfl, Nat.le_of_ble_eq_true rfl⟩ (fun H locs hP hD hS => ?_)
              refine lv_goto (tgt := 70) hx hb dX11_delay_59 (by decide) ?_
              exact J70 z14.1 z14.2 H locs ls hf  hP hD hS (lv_sub hl [0, 1, 2, 3] rfl)
          · have hf := ha_if hf (fun q => q c9)
            refine lv_bipush (v := (-2)) hx hb dX11_delay_44 (by decide) ?_
            have he := Option.some.inj hf
            exact ha_reti hx hb hr hlocks hP hD hS dX11_delay_46 (ha_e1 he) (ha_e2 he)
        · have hf := ha_if hf c5
          exact J24  S H locs ls hf  hP hD hS (lv_sub hl [0, 1, 2, 3] rfl)

set_option maxHeartbeats 4000000 in
set_option maxRecDepth 100000 in
theorem c_X11_look {l : Launch} {D : va_G} {cs : Nat → ClassId} {ad adK adV : Nat → Nat} {N : List Nat} {Z : State → Prop} (hZ : ha_Zok (ha_A ad N) Z) (hN : ∀ x, xo_kd x < 999 → x ∈ N) (hX : ∀ U, Z U → xo_Z adK adV (ha_A ad N) U) {p0 : Nat} {p1 : Int32} {S : ha_St} {out : Int32 × ha_St} (h0 : xo_kd p0 = 11) (hf : f_X11_look p0 p1 S = some out) : ha_Ci l D cs ad xo_kd xo_ln N Z yX11_look wsX11_look ({ frames := 4, cells := 0, slots := 0, locals := 93 } : Room) [.ref (ad p0), .int p1] S out.1 out.2 := by
  refine Met.ofW (cc := cX11_look) (maxL := 4) (ret := (some .int)) (by decide +kernel) rfl ?_
  intro p e s m args below meth c s₁ B hml hv
  obtain ⟨rfl, hP, hD, hK, hz⟩ := hv
  have hx := B.exec
  have hb := B.bytes
  have hr := B.returns
  have hts := atoms_spec (ws := wsX11_look) B.pre
  have hown : s.vm.findClass RX11 = some m.cls := findClass_of_methodNamed B.named
  have hlocks := B.notSynchronized
  have hS : va_S (ha_A ad N) s.heap s.heap [] := va_S.rf
  have hi1 : ∀ w ∈ wsX10, w ∈ wsX11_look := fun w h => List.mem_cons_of_mem _ (List.mem_append_left _ (List.mem_append_right _ h))
  have hi11 : ∀ w ∈ wsX110, w ∈ wsX11_look := fun w h => List.mem_cons_of_mem _ (List.mem_append_left _ (List.mem_append_left _ (List.mem_append_right _ h)))
  have q70 : ha_Fk s ([.ref (ad p0), .int p1] : List Value).toArray RX11 70 11 9 1 := ⟨RX11, TX11, 17, wsX11_look, rfl, by decide, by decide, rfl, rfl, hts, hi11, hts (.fieldLink RX11 70 "HillArms" "delays" "LHillArms$Delays;") (by decide +kernel)⟩
  have q19 : ha_Fk s ([.ref (ad p0), .int p1] : List Value).toArray RX11 19 11 1 1 := ⟨RX11, TX11, 17, wsX11_look, rfl, by decide, by decide, rfl, rfl, hts, hi11, hts (.fieldLink RX11 19 "HillArms" "crew" "LHillArms$Crew;") (by decide +kernel)⟩
  have q107 : ha_Fk s ([.ref (ad p0), .int p1] : List Value).toArray RX11 107 1 5 0 := ⟨RX1, TX1, 8, wsX11_look, rfl, by decide, by decide, rfl, rfl, hts, hi1, hts (.fieldLink RX11 107 "HillArms$Crew" "towers" "I") (by decide +kernel)⟩
  have cw0 := cwV (R := (headSpec wsX11_look ({ frames := 4, cells := 0, slots := 0, locals := 93 } : Room)).room) 2 hts gX11_look_X2_fit (rm := ({ frames := 3, cells := 0, slots := 0, locals := 70 } : Room)) (mc := 0) (ms := 0) rfl rfl rfl (by decide +kernel) ⟨Nat.le_of_ble_eq_true rfl, Nat.le_of_ble_eq_true rfl⟩
  have cw1 := cwV (R := (headSpec wsX11_look ({ frames := 4, cells := 0, slots := 0, locals := 93 } : Room)).room) 1 hts gX11_look_X2_spread (rm := ({ frames := 1, cells := 0, slots := 0, locals := 21 } : Room)) (mc := 0) (ms := 0) rfl rfl rfl (by decide +kernel) ⟨Nat.le_of_ble_eq_true rfl, Nat.le_of_ble_eq_true rfl⟩
  have hl := lv_entry ([.ref (ad p0), .int p1]) (n := 4) (Nat.le_of_ble_eq_true rfl)
  rw [lg_entry_eq]
  generalize (lg_sl ([.ref (ad p0), .int p1]) ++ List.replicate (4 - (lg_sl ([.ref (ad p0), .int p1])).length) Slot.unset).toArray = ls at hl ⊢
  have hl : lv_has ls 4 [(0, .ref (ad p0)), (1, .int p1)] := hl
  refine (fun (K0 : ∀ (H : Heap) (locs : List Loc), va_P D vwCl (ha_wl cs ad xo_kd xo_ln N S) H → va_S (ha_A ad N) s.heap H locs → W p l e (headSpec wsX11_look ({ frames := 4, cells := 0, slots := 0, locals := 93 } : Room)).room s m ([.ref (ad p0), .int p1] : List Value).toArray below meth c H locs 0 0 (MQ below (va_Qi (fun (r : Int32) (_ : Unit) => r = out.1) (fun _ => ha_H D cs ad xo_kd xo_ln N out.2) (ha_A ad N)) ([.ref (ad p0), .int p1] : List Value).toArray s 0 0 (ha_A ad N)) (F0 m 0 ls [])) => K0 _ _ hP hS) ?_
  intro H locs hP hS
  have hf := ha_rt hf
  have J63 : ∀ (v2 : Int32) (S : ha_St) (H : Heap) (locs : List Loc) (ls : Array Slot), (f_X11_look_J63 p0 p1 v2 S).bind some = some out → va_P D vwCl (ha_wl cs ad xo_kd xo_ln N S) H → va_D (ha_A ad N) (ha_wl cs ad xo_kd xo_ln N S) → va_S (ha_A ad N) s.heap H locs → lv_has ls 4 [(0, .ref (ad p0)), (1, .int p1), (2, .int v2)] → W p l e (headSpec wsX11_look ({ frames := 4, cells := 0, slots := 0, locals := 93 } : Room)).room s m ([.ref (ad p0), .int p1] : List Value).toArray below meth c H locs 0 0 (MQ below (va_Qi (fun (r : Int32) (_ : Unit) => r = out.1) (fun _ => ha_H D cs ad xo_kd xo_ln N out.2) (ha_A ad N)) ([.ref (ad p0), .int p1] : List Value).toArray s 0 0 (ha_A ad N)) (F0 m 63 ls []) := by
    intro v2 S H locs ls hf  hP hD hS hl
    unfold f_X11_look_J63 at hf
    refine lv_iload_n hx hb dX11_look_63 rfl (lv_at hl 2 rfl) ?_
    have he := Option.some.inj hf
    exact ha_reti hx hb hr hlocks hP hD hS dX11_look_64 (ha_e1 he) (ha_e2 he)
  unfold f_X11_look at hf
  refine lv_aload_n hx hb dX11_look_0 rfl (lv_at hl 0 rfl) ?_
  obtain ⟨r1, wr1, hf⟩ := ha_bds hf
  obtain ⟨wr1, hr1⟩ := ha_rf_some wr1
  refine ha_getr hx hb hown hK hP q70 hN h0 wr1 dX11_look_1 ?_
  refine lv_aload_n hx hb dX11_look_4 rfl (lv_at hl 0 rfl) ?_
  obtain ⟨r2, wr2, hf⟩ := ha_bds hf
  obtain ⟨wr2, hr2⟩ := ha_rf_some wr2
  refine ha_getr hx hb hown hK hP q19 hN h0 wr2 dX11_look_5 ?_
  refine ha_geti hx hb hown hK hP q107 hN hr2 dX11_look_8 ?_
  refine lv_iload_n hx hb dX11_look_11 rfl (lv_at hl 1 rfl) ?_
  obtain ⟨z3, wz3, hf⟩ := ha_bds hf
  refine ha_callVi (As := [.int ((ha_gI S r2 5)), .int p1]) (rest := []) hZ ⟨hx, hb, hml, hown, hts⟩ hK hz hP hD hS (c_X2_fit hZ hN hX hr1 wz3) cw0 hN hr1 (by decide) rfl rfl hl.1 rfl (Nat.le_of_ble_eq_true rfl) dX11_look_12 ⟨Nat.le_of_ble_eq_true rfl, Nat.le_of_ble_eq_true rfl⟩ (fun H locs hP hD hS => ?_)
  refine lv_if_ne (tgt := 21) hx hb dX11_look_15 (by decide) (fun c4 => ?_) (fun c4 => ?_)
  · have hf := ha_it hf c4
    refine lv_iconst (v := 0) hx hb dX11_look_21 (by decide) ?_
    refine lv_istore_n (lv' := [(2, .int 0), (0, .ref (ad p0)), (1, .int p1)]) hx hb dX11_look_22 rfl hl (by decide) rfl (fun ls hl => ?_)
    refine lv_iconst (v := 1) hx hb dX11_look_23 (by decide) ?_
    refine lv_istore_n (lv' := [(3, .int 1), (2, .int 0), (0, .ref (ad p0)), (1, .int p1)]) hx hb dX11_look_24 rfl hl (by decide) rfl (fun ls hl => ?_)
    have key13 : ∀ (K : (Int32 × ha_St) → Option (Int32 × ha_St)), (∀ (v2 : Int32) (S : ha_St) (H : Heap) (locs : List Loc) (ls : Array Slot), K (v2, S) = some out → va_P D vwCl (ha_wl cs ad xo_kd xo_ln N S) H → va_D (ha_A ad N) (ha_wl cs ad xo_kd xo_ln N S) → va_S (ha_A ad N) s.heap H locs → lv_has ls 4 [(0, .ref (ad p0)), (1, .int p1), (2, .int v2)] → W p l e (headSpec wsX11_look ({ frames := 4, cells := 0, slots := 0, locals := 93 } : Room)).room s m ([.ref (ad p0), .int p1] : List Value).toArray below meth c H locs 0 0 (MQ below (va_Qi (fun (r : Int32) (_ : Unit) => r = out.1) (fun _ => ha_H D cs ad xo_kd xo_ln N out.2) (ha_A ad N)) ([.ref (ad p0), .int p1] : List Value).toArray s 0 0 (ha_A ad N)) (F0 m 63 ls [])) → ∀ (n : Nat) (v2 : Int32) (v3 : Int32) (S : ha_St) (H : Heap) (locs : List Loc) (ls : Array Slot), (f_X11_look_L25i p0 p1 n (v2, v3, S)).bind K = some out → va_P D vwCl (ha_wl cs ad xo_kd xo_ln N S) H → va_D (ha_A ad N) (ha_wl cs ad xo_kd xo_ln N S) → va_S (ha_A ad N) s.heap H locs → lv_has ls 4 [(0, .ref (ad p0)), (1, .int p1), (2, .int v2), (3, .int v3)] → W p l e (headSpec wsX11_look ({ frames := 4, cells := 0, slots := 0, locals := 93 } : Room)).room s m ([.ref (ad p0), .int p1] : List Value).toArray below meth c H locs 0 0 (MQ below (va_Qi (fun (r : Int32) (_ : Unit) => r = out.1) (fun _ => ha_H D cs ad xo_kd xo_ln N out.2) (ha_A ad N)) ([.ref (ad p0), .int p1] : List Value).toArray s 0 0 (ha_A ad N)) (F0 m 25 ls []) := by
      intro K hk n
      induction n with
      | zero =>
        intro v2 v3 S H locs ls hf
        exact absurd (show (none : Option (Int32 × ha_St)) = some out from hf) (fun h => by cases h)
      | succ n ih =>
        intro v2 v3 S H locs ls hf  hP hD hS hl
        have J57 : ∀ (v2 : Int32) (v3 : Int32) (S : ha_St) (H : Heap) (locs : List Loc) (ls : Array Slot), (f_X11_look_L25_J57 p0 p1 (f_X11_look_L25i p0 p1 n) v2 v3 S).bind K = some out → va_P D vwCl (ha_wl cs ad xo_kd xo_ln N S) H → va_D (ha_A ad N) (ha_wl cs ad xo_kd xo_ln N S) → va_S (ha_A ad N) s.heap H locs → lv_has ls 4 [(0, .ref (ad p0)), (1, .int p1), (2, .int v2), (3, .int v3)] → W p l e (headSpec wsX11_look ({ frames := 4, cells := 0, slots := 0, locals := 93 } : Room)).room s m ([.ref (ad p0), .int p1] : List Value).toArray below meth c H locs 0 0 (MQ below (va_Qi (fun (r : Int32) (_ : Unit) => r = out.1) (fun _ => ha_H D cs ad xo_kd xo_ln N out.2) (ha_A ad N)) ([.ref (ad p0), .int p1] : List Value).toArray s 0 0 (ha_A ad N)) (F0 m 57 ls []) := by
          intro v2 v3 S H locs ls hf  hP hD hS hl
          unfold f_X11_look_L25_J57 at hf
          obtain ⟨x5, ex5⟩ : ∃ y : Int32, y = (v3 : Int32) + 1 := ⟨_, rfl⟩
          have hf := ha_nms hf ex5
          refine lv_iinc (v := x5) (lv' := [(3, .int x5), (0, .ref (ad p0)), (1, .int p1), (2, .int v2)]) hx hb dX11_look_57 hl (k := 3) rfl (by rw [ex5]; rfl) (by decide) rfl (fun ls hl => ?_)
          refine lv_goto (tgt := 25) hx hb dX11_look_60 (by decide) ?_
          exact ih v2 x5 S H locs ls hf  hP hD hS (lv_sub hl [1, 2, 3, 0] rfl)
        have hf : (f_X11_look_L25 p0 p1 (f_X11_look_L25i p0 p1 n) v2 v3 S).bind K = some out := hf
        unfold f_X11_look_L25 at hf
        refine lv_iload_n hx hb dX11_look_25 rfl (lv_at hl 3 rfl) ?_
        refine lv_aload_n hx hb dX11_look_26 rfl (lv_at hl 0 rfl) ?_
        obtain ⟨r6, wr6, hf⟩ := ha_bds hf
        obtain ⟨wr6, hr6⟩ := ha_rf_some wr6
        refine ha_getr hx hb hown hK hP q19 hN h0 wr6 dX11_look_27 ?_
        refine ha_geti hx hb hown hK hP q107 hN hr6 dX11_look_30 ?_
        refine lv_icmp_ge (tgt := 63) hx hb dX11_look_33 (by decide) (fun c7 => ?_) (fun c7 => ?_)
        · have hf := ha_it hf c7
          exact hk v2 S H locs ls hf  hP hD hS (lv_sub hl [0, 1, 2] rfl)
        · have hf := ha_if hf c7
          refine lv_aload_n hx hb dX11_look_36 rfl (lv_at hl 0 rfl) ?_
          obtain ⟨r8, wr8, hf⟩ := ha_bds hf
          obtain ⟨wr8, hr8⟩ := ha_rf_some wr8
          refine ha_getr hx hb hown hK hP q70 hN h0 wr8 dX11_look_37 ?_
          refine lv_iload_n hx hb dX11_look_40 rfl (lv_at hl 3 rfl) ?_
          obtain ⟨z9, wz9, hf⟩ := ha_bds hf
          refine ha_callVi (As := [.int v3]) (rest := []) hZ ⟨hx, hb, hml, hown, hts⟩ hK hz hP hD hS (c_X2_spread hZ hN hX hr8 wz9) cw1 hN hr8 (by decide) rfl rfl hl.1 rfl (Nat.le_of_ble_eq_true rfl) dX11_look_41 ⟨Nat.le_of_ble_eq_true rfl, Nat.le_of_ble_eq_true rfl⟩ (fun H locs hP hD hS => ?_)
          refine lv_aload_n hx hb dX11_look_44 rfl (lv_at hl 0 rfl) ?_
          obtain ⟨r10, wr10, hf⟩ := ha_bds hf
          obtain ⟨wr10, hr10⟩ := ha_rf_some wr10
          refine ha_getr hx hb hown hK hP q70 hN h0 wr10 dX11_look_45 ?_
          refine lv_iload_n hx hb dX11_look_48 rfl (lv_at hl 2 rfl) ?_
          obtain ⟨z11, wz11, hf⟩ := ha_bds hf
          refine ha_callVi (As := [.int v2]) (rest := [.int z9.1]) hZ ⟨hx, hb, hml, hown, hts⟩ hK hz hP hD hS (c_X2_spread hZ hN hX hr10 wz11) cw1 hN hr10 (by decide) rfl rfl hl.1 rfl (Nat.le_of_ble_eq_true rfl) dX11_look_49 ⟨Nat.le_of_ble_eq_true rfl, Nat.le_of_ble_eq_true rfl⟩ (fun H locs hP hD hS => ?_)
          refine lv_icmp_le (tgt := 57) hx hb dX11_look_52 (by decide) (fun c12 => ?_) (fun c12 => ?_)
          · have hf := ha_it hf c12
            exact J57 v2 v3 z11.2 H locs ls hf  hP hD hS (lv_sub hl [0, 1, 2, 3] rfl)
          · have hf := ha_if hf c12
            refine lv_iload_n hx hb dX11_look_55 rfl (lv_at hl 3 rfl) ?_
            refine lv_istore_n (lv' := [(2, .int v3), (0, .ref (ad p0)), (1, .int p1), (3, .int v3)]) hx hb dX11_look_56 rfl hl (by decide) rfl (fun ls hl => ?_)
            exact J57 v3 v3 z11.2 H locs ls hf  hP hD hS (lv_sub hl [1, 2, 0, 3] rfl)
    refine key13 _ (fun v2 S H locs ls hf  hP hD hS hl => ?_) ha_fu 0 1 z3.2 H locs ls (ha_as hf)  hP hD hS (lv_sub hl [2, 3, 1, 0] rfl)
    have hf : (f_X11_look_J63 p0 p1 v2 S).bind some = some out := hf
    exact J63 v2 S H locs ls hf  hP hD hS (lv_sub hl [0, 1, 2] rfl)
  · have hf := ha_if hf (fun q => q c4)
    refine lv_bipush (v := (-2)) hx hb dX11_look_18 (by decide) ?_
    have he := Option.some.inj hf
    exact ha_reti hx hb hr hlocks hP hD hS dX11_look_20 (ha_e1 he) (ha_e2 he)

set_option maxHeartbeats 4000000 in
set_option maxRecDepth 100000 in
theorem c_X11_hills {l : Launch} {D : va_G} {cs : Nat → ClassId} {ad adK adV : Nat → Nat} {N : List Nat} {Z : State → Prop} (hZ : ha_Zok (ha_A ad N) Z) (hN : ∀ x, xo_kd x < 999 → x ∈ N) (hX : ∀ U, Z U → xo_Z adK adV (ha_A ad N) U) {p0 : Nat} {p1 : Int32} {S : ha_St} {out : Int32 × ha_St} (h0 : xo_kd p0 = 11) (hf : f_X11_hills p0 p1 S = some out) : ha_Ci l D cs ad xo_kd xo_ln N Z yX11_hills wsX11_hills ({ frames := 3, cells := 0, slots := 0, locals := 70 } : Room) [.ref (ad p0), .int p1] S out.1 out.2 := by
  refine Met.ofW (cc := cX11_hills) (maxL := 4) (ret := (some .int)) (by decide +kernel) rfl ?_
  intro p e s m args below meth c s₁ B hml hv
  obtain ⟨rfl, hP, hD, hK, hz⟩ := hv
  have hx := B.exec
  have hb := B.bytes
  have hr := B.returns
  have hts := atoms_spec (ws := wsX11_hills) B.pre
  have hown : s.vm.findClass RX11 = some m.cls := findClass_of_methodNamed B.named
  have hlocks := B.notSynchronized
  have hS : va_S (ha_A ad N) s.heap s.heap [] := va_S.rf
  have hi10 : ∀ w ∈ wsX100, w ∈ wsX11_hills := fun w h => List.mem_cons_of_mem _ (List.mem_append_left _ (List.mem_append_right _ h))
  have hi11 : ∀ w ∈ wsX110, w ∈ wsX11_hills := fun w h => List.mem_cons_of_mem _ (List.mem_append_left _ (List.mem_append_left _ (List.mem_append_right _ h)))
  have q77 : ha_Fk s ([.ref (ad p0), .int p1] : List Value).toArray RX11 77 11 10 1 := ⟨RX11, TX11, 17, wsX11_hills, rfl, by decide, by decide, rfl, rfl, hts, hi11, hts (.fieldLink RX11 77 "HillArms" "hillDays" "LHillArms$HillDays;") (by decide +kernel)⟩
  have q10 : ha_Fk s ([.ref (ad p0), .int p1] : List Value).toArray RX11 10 11 0 1 := ⟨RX11, TX11, 17, wsX11_hills, rfl, by decide, by decide, rfl, rfl, hts, hi11, hts (.fieldLink RX11 10 "HillArms" "tape" "LHillArms$Tape;") (by decide +kernel)⟩
  have r92 : ha_Fp s ([.ref (ad p0), .int p1] : List Value).toArray RX11 92 10 1 0 .int := ⟨RX10, TX10, 2, wsX11_hills, tyX10, rfl, by decide, by decide, rfl, rfl, hts, hi10, hts (.fieldLink RX11 92 "HillArms$Tape" "size" "I") (by decide +kernel), tyX10_ok, nmX10, rfl, by decide +kernel⟩
  have r275 : ha_Fp s ([.ref (ad p0), .int p1] : List Value).toArray RX11 275 11 16 0 .int := ⟨RX11, TX11, 17, wsX11_hills, tyX11, rfl, by decide, by decide, rfl, rfl, hts, hi11, hts (.fieldLink RX11 275 "HillArms" "latestHillSet" "I") (by decide +kernel), tyX11_ok, nmX11, rfl, by decide +kernel⟩
  have cw0 := cwV (R := (headSpec wsX11_hills ({ frames := 3, cells := 0, slots := 0, locals := 70 } : Room)).room) 2 hts gX11_hills_X4_take (rm := ({ frames := 0, cells := 0, slots := 0, locals := 0 } : Room)) (mc := 0) (ms := 0) rfl rfl rfl (by decide +kernel) ⟨Nat.le_of_ble_eq_true rfl, Nat.le_of_ble_eq_true rfl⟩
  have cw1 := cwV (R := (headSpec wsX11_hills ({ frames := 3, cells := 0, slots := 0, locals := 70 } : Room)).room) 0 hts gX11_hills_X4_fewest (rm := ({ frames := 2, cells := 0, slots := 0, locals := 46 } : Room)) (mc := 0) (ms := 0) rfl rfl rfl (by decide +kernel) ⟨Nat.le_of_ble_eq_true rfl, Nat.le_of_ble_eq_true rfl⟩
  have cw2 := va_cwS (R := (headSpec wsX11_hills ({ frames := 3, cells := 0, slots := 0, locals := 70 } : Room)).room) 1 hts gX11_hills_J6_bitCount_0f7a4 (rm := ({ frames := 0, cells := 0, slots := 0, locals := 0 } : Room)) (mc := 0) (ms := 0) rfl rfl rfl (by decide +kernel) ⟨Nat.le_of_ble_eq_true rfl, Nat.le_of_ble_eq_true rfl⟩
  have hl := lv_entry ([.ref (ad p0), .int p1]) (n := 4) (Nat.le_of_ble_eq_true rfl)
  rw [lg_entry_eq]
  generalize (lg_sl ([.ref (ad p0), .int p1]) ++ List.replicate (4 - (lg_sl ([.ref (ad p0), .int p1])).length) Slot.unset).toArray = ls at hl ⊢
  have hl : lv_has ls 4 [(0, .ref (ad p0)), (1, .int p1)] := hl
  refine (fun (K0 : ∀ (H : Heap) (locs : List Loc), va_P D vwCl (ha_wl cs ad xo_kd xo_ln N S) H → va_S (ha_A ad N) s.heap H locs → W p l e (headSpec wsX11_hills ({ frames := 3, cells := 0, slots := 0, locals := 70 } : Room)).room s m ([.ref (ad p0), .int p1] : List Value).toArray below meth c H locs 0 0 (MQ below (va_Qi (fun (r : Int32) (_ : Unit) => r = out.1) (fun _ => ha_H D cs ad xo_kd xo_ln N out.2) (ha_A ad N)) ([.ref (ad p0), .int p1] : List Value).toArray s 0 0 (ha_A ad N)) (F0 m 0 ls [])) => K0 _ _ hP hS) ?_
  intro H locs hP hS
  have hf := ha_rt hf
  unfold f_X11_hills at hf
  refine lv_aload_n hx hb dX11_hills_0 rfl (lv_at hl 0 rfl) ?_
  obtain ⟨r1, wr1, hf⟩ := ha_bds hf
  obtain ⟨wr1, hr1⟩ := ha_rf_some wr1
  refine ha_getr hx hb hown hK hP q77 hN h0 wr1 dX11_hills_1 ?_
  refine lv_aload_n hx hb dX11_hills_4 rfl (lv_at hl 0 rfl) ?_
  obtain ⟨r2, wr2, hf⟩ := ha_bds hf
  obtain ⟨wr2, hr2⟩ := ha_rf_some wr2
  refine ha_getr hx hb hown hK hP q10 hN h0 wr2 dX11_hills_5 ?_
  refine lv_iload_n hx hb dX11_hills_8 rfl (lv_at hl 1 rfl) ?_
  obtain ⟨z3, wz3, hf⟩ := ha_bds hf
  refine ha_callVi (As := [.ref (ad r2), .int p1]) (rest := []) hZ ⟨hx, hb, hml, hown, hts⟩ hK hz hP hD hS (c_X4_take hZ hN hX hr1 hr2 wz3) cw0 hN hr1 (by decide) rfl rfl hl.1 rfl (Nat.le_of_ble_eq_true rfl) dX11_hills_9 ⟨Nat.le_of_ble_eq_true rfl, Nat.le_of_ble_eq_true rfl⟩ (fun H locs hP hD hS => ?_)
  refine lv_istore_n (lv' := [(2, .int z3.1), (0, .ref (ad p0)), (1, .int p1)]) hx hb dX11_hills_12 rfl hl (by decide) rfl (fun ls hl => ?_)
  refine lv_aload_n hx hb dX11_hills_13 rfl (lv_at hl 1 rfl) ?_
  obtain ⟨r4, wr4, hf⟩ := ha_bds hf
  obtain ⟨wr4, hr4⟩ := ha_rf_some wr4
  refine ha_getr hx hb hown hK hP q10 hN h0 wr4 dX11_hills_14 ?_
  refine lv_iconst (v := 0) hx hb dX11_hills_17 (by decide) ?_
  refine ha_puti hx hb hown hK hP hD hS r92 hN hr4 dX11_hills_18 (fun S5 H locs eS5 hP hD hS => ?_)
  have hf := ha_nms hf eS5
  refine lv_iload_n hx hb dX11_hills_21 rfl (lv_at hl 0 rfl) ?_
  refine lv_if_ne (tgt := 28) hx hb dX11_hills_22 (by decide) (fun c6 => ?_) (fun c6 => ?_)
  · have hf := ha_it hf c6
    refine lv_aload_n hx hb dX11_hills_28 rfl (lv_at hl 1 rfl) ?_
    obtain ⟨r7, wr7, hf⟩ := ha_bds hf
    obtain ⟨wr7, hr7⟩ := ha_rf_some wr7
    refine ha_getr hx hb hown hK hP q77 hN h0 wr7 dX11_hills_29 ?_
    obtain ⟨z8, wz8, hf⟩ := ha_bds hf
    refine ha_callVi (As := []) (rest := []) hZ ⟨hx, hb, hml, hown, hts⟩ hK hz hP hD hS (c_X4_fewest hZ hN hX hr7 wz8) cw1 hN hr7 (by decide) rfl rfl hl.1 rfl (Nat.le_of_ble_eq_true rfl) dX11_hills_32 ⟨Nat.le_of_ble_eq_true rfl, Nat.le_of_ble_eq_true rfl⟩ (fun H locs hP hD hS => ?_)
    refine lv_istore_n (lv' := [(3, .int z8.1), (2, .int z3.1), (0, .ref (ad p0)), (1, .int p1)]) hx hb dX11_hills_35 rfl hl (by decide) rfl (fun ls hl => ?_)
    refine lv_iload_n hx hb dX11_hills_36 rfl (lv_at hl 0 rfl) ?_
    refine lv_if_ne (tgt := 42) hx hb dX11_hills_37 (by decide) (fun c9 => ?_) (fun c9 => ?_)
    · have hf := ha_it hf c9
      refine lv_aload_n hx hb dX11_hills_42 rfl (lv_at hl 2 rfl) ?_
      refine lv_iload_n hx hb dX11_hills_43 rfl (lv_at hl 0 rfl) ?_
      refine ha_puti hx hb hown hK hP hD hS r275 hN h0 dX11_hills_44 (fun S10 H locs eS10 hP hD hS => ?_)
      have hf := ha_nms hf eS10
      refine lv_iload_n hx hb dX11_hills_47 rfl (lv_at hl 0 rfl) ?_
      obtain ⟨z11, wz11, hf⟩ := ha_bds hf
      refine ha_callSi (As := [.int z8.1]) (rest := []) hZ ⟨hx, hb, hml, hown, hts⟩ hK hz hP hD hS (c_J6_bitCount_0f7a4   wz11) cw2 rfl hl.1 rfl (Nat.le_of_ble_eq_true rfl) dX11_hills_48 ⟨Nat.le_of_ble_eq_true rfl, Nat.le_of_ble_eq_true rfl⟩ (fun H locs hP hD hS => ?_)
      have he := Option.some.inj hf
      exact ha_reti hx hb hr hlocks hP hD hS dX11_hills_51 (ha_e1 he) (ha_e2 he)
    · have hf := ha_if hf (fun q => q c9)
      refine lv_iconst (v := (-1)) hx hb dX11_hills_40 (by decide) ?_
      have he := Option.some.inj hf
      exact ha_reti hx hb hr hlocks hP hD hS dX11_hills_41 (ha_e1 he) (ha_e2 he)
  · have hf := ha_if hf (fun q => q c6)
    refine lv_bipush (v := (-2)) hx hb dX11_hills_25 (by decide) ?_
    have he := Option.some.inj hf
    exact ha_reti hx hb hr hlocks hP hD hS dX11_hills_27 (ha_e1 he) (ha_e2 he)

set_option maxHeartbeats 4000000 in
set_option maxRecDepth 100000 in
theorem c_X11_hillSet {l : Launch} {D : va_G} {cs : Nat → ClassId} {ad adK adV : Nat → Nat} {N : List Nat} {Z : State → Prop} (hZ : ha_Zok (ha_A ad N) Z) (hN : ∀ x, xo_kd x < 999 → x ∈ N) (hX : ∀ U, Z U → xo_Z adK adV (ha_A ad N) U) {p0 : Nat} {S : ha_St} {out : Int32 × ha_St} (h0 : xo_kd p0 = 11) (hf : f_X11_hillSet p0 S = some out) : ha_Ci l D cs ad xo_kd xo_ln N Z yX11_hillSet wsX11_hillSet ({ frames := 0, cells := 0, slots := 0, locals := 0 } : Room) [.ref (ad p0)] S out.1 out.2 := by
  refine Met.ofW (cc := cX11_hillSet) (maxL := 1) (ret := (some .int)) (by decide +kernel) rfl ?_
  intro p e s m args below meth c s₁ B hml hv
  obtain ⟨rfl, hP, hD, hK, hz⟩ := hv
  have hx := B.exec
  have hb := B.bytes
  have hr := B.returns
  have hts := atoms_spec (ws := wsX11_hillSet) B.pre
  have hown : s.vm.findClass RX11 = some m.cls := findClass_of_methodNamed B.named
  have hlocks := B.notSynchronized
  have hS : va_S (ha_A ad N) s.heap s.heap [] := va_S.rf
  have hi11 : ∀ w ∈ wsX110, w ∈ wsX11_hillSet := fun w h => List.mem_cons_of_mem _ (List.mem_append_right _ h)
  have q275 : ha_Fk s ([.ref (ad p0)] : List Value).toArray RX11 275 11 16 0 := ⟨RX11, TX11, 17, wsX11_hillSet, rfl, by decide, by decide, rfl, rfl, hts, hi11, hts (.fieldLink RX11 275 "HillArms" "latestHillSet" "I") (by decide +kernel)⟩
  have hl := lv_entry ([.ref (ad p0)]) (n := 1) (Nat.le_of_ble_eq_true rfl)
  rw [lg_entry_eq]
  generalize (lg_sl ([.ref (ad p0)]) ++ List.replicate (1 - (lg_sl ([.ref (ad p0)])).length) Slot.unset).toArray = ls at hl ⊢
  have hl : lv_has ls 1 [(0, .ref (ad p0))] := hl
  refine (fun (K0 : ∀ (H : Heap) (locs : List Loc), va_P D vwCl (ha_wl cs ad xo_kd xo_ln N S) H → va_S (ha_A ad N) s.heap H locs → W p l e (headSpec wsX11_hillSet ({ frames := 0, cells := 0, slots := 0, locals := 0 } : Room)).room s m ([.ref (ad p0)] : List Value).toArray below meth c H locs 0 0 (MQ below (va_Qi (fun (r : Int32) (_ : Unit) => r = out.1) (fun _ => ha_H D cs ad xo_kd xo_ln N out.2) (ha_A ad N)) ([.ref (ad p0)] : List Value).toArray s 0 0 (ha_A ad N)) (F0 m 0 ls [])) => K0 _ _ hP hS) ?_
  intro H locs hP hS
  have hf := ha_rt hf
  unfold f_X11_hillSet at hf
  refine lv_aload_n hx hb dX11_hillSet_0 rfl (lv_at hl 0 rfl) ?_
  refine ha_geti hx hb hown hK hP q275 hN h0 dX11_hillSet_1 ?_
  have he := Option.some.inj hf
  exact ha_reti hx hb hr hlocks hP hD hS dX11_hillSet_4 (ha_e1 he) (ha_e2 he)

set_option maxHeartbeats 4000000 in
set_option maxRecDepth 100000 in
theorem c_X11_count {l : Launch} {D : va_G} {cs : Nat → ClassId} {ad adK adV : Nat → Nat} {N : List Nat} {Z : State → Prop} (hZ : ha_Zok (ha_A ad N) Z) (hN : ∀ x, xo_kd x < 999 → x ∈ N) (hX : ∀ U, Z U → xo_Z adK adV (ha_A ad N) U) {p0 : Nat} {p1 : Int32} {S : ha_St} {out : Int32 × ha_St} (h0 : xo_kd p0 = 11) (hf : f_X11_count p0 p1 S = some out) : ha_Ci l D cs ad xo_kd xo_ln N Z yX11_count wsX11_count ({ frames := 0, cells := 0, slots := 0, locals := 0 } : Room) [.ref (ad p0), .int p1] S out.1 out.2 := by
  refine Met.ofW (cc := cX11_count) (maxL := 2) (ret := (some .int)) (by decide +kernel) rfl ?_
  intro p e s m args below meth c s₁ B hml hv
  obtain ⟨rfl, hP, hD, hK, hz⟩ := hv
  have hx := B.exec
  have hb := B.bytes
  have hr := B.returns
  have hts := atoms_spec (ws := wsX11_count) B.pre
  have hown : s.vm.findClass RX11 = some m.cls := findClass_of_methodNamed B.named
  have hlocks := B.notSynchronized
  have hS : va_S (ha_A ad N) s.heap s.heap [] := va_S.rf
  have hi1 : ∀ w ∈ wsX10, w ∈ wsX11_count := fun w h => List.mem_cons_of_mem _ (List.mem_append_left _ (List.mem_append_left _ (List.mem_append_left _ (List.mem_append_right _ h))))
  have hi2 : ∀ w ∈ wsX20, w ∈ wsX11_count := fun w h => List.mem_cons_of_mem _ (List.mem_append_left _ (List.mem_append_right _ h))
  have hi3 : ∀ w ∈ wsX30, w ∈ wsX11_count := fun w h => List.mem_cons_of_mem _ (List.mem_append_left _ (List.mem_append_left _ (List.mem_append_right _ h)))
  have hi10 : ∀ w ∈ wsX100, w ∈ wsX11_count := fun w h => List.mem_cons_of_mem _ (List.mem_append_right _ h)
  have hi11 : ∀ w ∈ wsX110, w ∈ wsX11_count := fun w h => List.mem_cons_of_mem _ (List.mem_append_left _ (List.mem_append_left _ (List.mem_append_left _ (List.mem_append_left _ (List.mem_append_right _ h)))))
  have q98 : ha_Fk s ([.ref (ad p0), .int p1] : List Value).toArray RX11 98 11 13 0 := ⟨RX11, TX11, 17, wsX11_count, rfl, by decide, by decide, rfl, rfl, hts, hi11, hts (.fieldLink RX11 98 "HillArms" "today" "I") (by decide +kernel)⟩
  have q19 : ha_Fk s ([.ref (ad p0), .int p1] : List Value).toArray RX11 19 11 1 1 := ⟨RX11, TX11, 17, wsX11_count, rfl, by decide, by decide, rfl, rfl, hts, hi11, hts (.fieldLink RX11 19 "HillArms" "crew" "LHillArms$Crew;") (by decide +kernel)⟩
  have q107 : ha_Fk s ([.ref (ad p0), .int p1] : List Value).toArray RX11 107 1 5 0 := ⟨RX1, TX1, 8, wsX11_count, rfl, by decide, by decide, rfl, rfl, hts, hi1, hts (.fieldLink RX11 107 "HillArms$Crew" "towers" "I") (by decide +kernel)⟩
  have q101 : ha_Fk s ([.ref (ad p0), .int p1] : List Value).toArray RX11 101 1 7 0 := ⟨RX1, TX1, 8, wsX11_count, rfl, by decide, by decide, rfl, rfl, hts, hi1, hts (.fieldLink RX11 101 "HillArms$Crew" "fogs" "I") (by decide +kernel)⟩
  have q47 : ha_Fk s ([.ref (ad p0), .int p1] : List Value).toArray RX11 47 11 5 1 := ⟨RX11, TX11, 17, wsX11_count, rfl, by decide, by decide, rfl, rfl, hts, hi11, hts (.fieldLink RX11 47 "HillArms" "entries" "LHillArms$Entries;") (by decide +kernel)⟩
  have q198 : ha_Fk s ([.ref (ad p0), .int p1] : List Value).toArray RX11 198 3 3 0 := ⟨RX3, TX3, 4, wsX11_count, rfl, by decide, by decide, rfl, rfl, hts, hi3, hts (.fieldLink RX11 198 "HillArms$Entries" "known" "I") (by decide +kernel)⟩
  have q70 : ha_Fk s ([.ref (ad p0), .int p1] : List Value).toArray RX11 70 11 9 1 := ⟨RX11, TX11, 17, wsX11_count, rfl, by decide, by decide, rfl, rfl, hts, hi11, hts (.fieldLink RX11 70 "HillArms" "delays" "LHillArms$Delays;") (by decide +kernel)⟩
  have q104 : ha_Fk s ([.ref (ad p0), .int p1] : List Value).toArray RX11 104 2 8 0 := ⟨RX2, TX2, 9, wsX11_count, rfl, by decide, by decide, rfl, rfl, hts, hi2, hts (.fieldLink RX11 104 "HillArms$Delays" "notes" "I") (by decide +kernel)⟩
  have q283 : ha_Fk s ([.ref (ad p0), .int p1] : List Value).toArray RX11 283 1 6 0 := ⟨RX1, TX1, 8, wsX11_count, rfl, by decide, by decide, rfl, rfl, hts, hi1, hts (.fieldLink RX11 283 "HillArms$Crew" "messageSigns" "I") (by decide +kernel)⟩
  have q10 : ha_Fk s ([.ref (ad p0), .int p1] : List Value).toArray RX11 10 11 0 1 := ⟨RX11, TX11, 17, wsX11_count, rfl, by decide, by decide, rfl, rfl, hts, hi11, hts (.fieldLink RX11 10 "HillArms" "tape" "LHillArms$Tape;") (by decide +kernel)⟩
  have q92 : ha_Fk s ([.ref (ad p0), .int p1] : List Value).toArray RX11 92 10 1 0 := ⟨RX10, TX10, 2, wsX11_count, rfl, by decide, by decide, rfl, rfl, hts, hi10, hts (.fieldLink RX11 92 "HillArms$Tape" "size" "I") (by decide +kernel)⟩
  have hl := lv_entry ([.ref (ad p0), .int p1]) (n := 2) (Nat.le_of_ble_eq_true rfl)
  rw [lg_entry_eq]
  generalize (lg_sl ([.ref (ad p0), .int p1]) ++ List.replicate (2 - (lg_sl ([.ref (ad p0), .int p1])).length) Slot.unset).toArray = ls at hl ⊢
  have hl : lv_has ls 2 [(0, .ref (ad p0)), (1, .int p1)] := hl
  refine (fun (K0 : ∀ (H : Heap) (locs : List Loc), va_P D vwCl (ha_wl cs ad xo_kd xo_ln N S) H → va_S (ha_A ad N) s.heap H locs → W p l e (headSpec wsX11_count ({ frames := 0, cells := 0, slots := 0, locals := 0 } : Room)).room s m ([.ref (ad p0), .int p1] : List Value).toArray below meth c H locs 0 0 (MQ below (va_Qi (fun (r : Int32) (_ : Unit) => r = out.1) (fun _ => ha_H D cs ad xo_kd xo_ln N out.2) (ha_A ad N)) ([.ref (ad p0), .int p1] : List Value).toArray s 0 0 (ha_A ad N)) (F0 m 0 ls [])) => K0 _ _ hP hS) ?_
  intro H locs hP hS
  have hf := ha_rt hf
  unfold f_X11_count at hf
  refine lv_iload_n hx hb dX11_count_0 rfl (lv_at hl 1 rfl) ?_
  refine lv_topi (fun xs exs => ?_)
  have hf := ha_nms hf exs
  by_cases cs0 : xs = 0
  · have hf := ha_it hf cs0
    refine ha_tsin (tgt := 44) hx hb dX11_count_1 0 cs0 (by decide) rfl (by decide) ?_
    refine lv_aload_n hx hb dX11_count_44 rfl (lv_at hl 0 rfl) ?_
    refine ha_geti hx hb hown hK hP q98 hN h0 dX11_count_45 ?_
    have he := Option.some.inj hf
    exact ha_reti hx hb hr hlocks hP hD hS dX11_count_48 (ha_e1 he) (ha_e2 he)
  · have hf := ha_if hf cs0
    by_cases cs1 : xs = 1
    · have hf := ha_it hf cs1
      refine ha_tsin (tgt := 49) hx hb dX11_count_1 1 cs1 (by decide) rfl (by decide) ?_
      refine lv_aload_n hx hb dX11_count_49 rfl (lv_at hl 0 rfl) ?_
      obtain ⟨r1, wr1, hf⟩ := ha_bds hf
      obtain ⟨wr1, hr1⟩ := ha_rf_some wr1
      refine ha_getr hx hb hown hK hP q19 hN h0 wr1 dX11_count_50 ?_
      refine ha_geti hx hb hown hK hP q107 hN hr1 dX11_count_53 ?_
      have he := Option.some.inj hf
      exact ha_reti hx hb hr hlocks hP hD hS dX11_count_56 (ha_e1 he) (ha_e2 he)
    · have hf := ha_if hf cs1
      by_cases cs2 : xs = 2
      · have hf := ha_it hf cs2
        refine ha_tsin (tgt := 57) hx hb dX11_count_1 2 cs2 (by decide) rfl (by decide) ?_
        refine lv_aload_n hx hb dX11_count_57 rfl (lv_at hl 0 rfl) ?_
        obtain ⟨r2, wr2, hf⟩ := ha_bds hf
        obtain ⟨wr2, hr2⟩ := ha_rf_some wr2
        refine ha_getr hx hb hown hK hP q19 hN h0 wr2 dX11_count_58 ?_
        refine ha_geti hx hb hown hK hP q101 hN hr2 dX11_count_61 ?_
        have he := Option.some.inj hf
        exact ha_reti hx hb hr hlocks hP hD hS dX11_count_64 (ha_e1 he) (ha_e2 he)
      · have hf := ha_if hf cs2
        by_cases cs3 : xs = 3
        · have hf := ha_it hf cs3
          refine ha_tsin (tgt := 65) hx hb dX11_count_1 3 cs3 (by decide) rfl (by decide) ?_
          refine lv_aload_n hx hb dX11_count_65 rfl (lv_at hl 0 rfl) ?_
          obtain ⟨r3, wr3, hf⟩ := ha_bds hf
          obtain ⟨wr3, hr3⟩ := ha_rf_some wr3
          refine ha_getr hx hb hown hK hP q47 hN h0 wr3 dX11_count_66 ?_
          refine ha_geti hx hb hown hK hP q198 hN hr3 dX11_count_69 ?_
          have he := Option.some.inj hf
          exact ha_reti hx hb hr hlocks hP hD hS dX11_count_72 (ha_e1 he) (ha_e2 he)
        · have hf := ha_if hf cs3
          by_cases cs4 : xs = 4
          · have hf := ha_it hf cs4
            refine ha_tsin (tgt := 73) hx hb dX11_count_1 4 cs4 (by decide) rfl (by decide) ?_
            refine lv_aload_n hx hb dX11_count_73 rfl (lv_at hl 0 rfl) ?_
            obtain ⟨r4, wr4, hf⟩ := ha_bds hf
            obtain ⟨wr4, hr4⟩ := ha_rf_some wr4
            refine ha_getr hx hb hown hK hP q70 hN h0 wr4 dX11_count_74 ?_
            refine ha_geti hx hb hown hK hP q104 hN hr4 dX11_count_77 ?_
            have he := Option.some.inj hf
            exact ha_reti hx hb hr hlocks hP hD hS dX11_count_80 (ha_e1 he) (ha_e2 he)
          · have hf := ha_if hf cs4
            by_cases cs5 : xs = 5
            · have hf := ha_it hf cs5
              refine ha_tsin (tgt := 81) hx hb dX11_count_1 5 cs5 (by decide) rfl (by decide) ?_
              refine lv_aload_n hx hb dX11_count_81 rfl (lv_at hl 0 rfl) ?_
              obtain ⟨r5, wr5, hf⟩ := ha_bds hf
              obtain ⟨wr5, hr5⟩ := ha_rf_some wr5
              refine ha_getr hx hb hown hK hP q19 hN h0 wr5 dX11_count_82 ?_
              refine ha_geti hx hb hown hK hP q283 hN hr5 dX11_count_85 ?_
              have he := Option.some.inj hf
              exact ha_reti hx hb hr hlocks hP hD hS dX11_count_88 (ha_e1 he) (ha_e2 he)
            · have hf := ha_if hf cs5
              by_cases cs6 : xs = 6
              · have hf := ha_it hf cs6
                refine ha_tsin (tgt := 89) hx hb dX11_count_1 6 cs6 (by decide) rfl (by decide) ?_
                refine lv_aload_n hx hb dX11_count_89 rfl (lv_at hl 0 rfl) ?_
                obtain ⟨r6, wr6, hf⟩ := ha_bds hf
                obtain ⟨wr6, hr6⟩ := ha_rf_some wr6
                refine ha_getr hx hb hown hK hP q10 hN h0 wr6 dX11_count_90 ?_
                refine ha_geti hx hb hown hK hP q92 hN hr6 dX11_count_93 ?_
                have he := Option.some.inj hf
                exact ha_reti hx hb hr hlocks hP hD hS dX11_count_96 (ha_e1 he) (ha_e2 he)
              · have hf := ha_if hf cs6
                have ncs0 := lv_neT cs0 (show (0 : Int32).toInt = 0 by decide)
                have ncs1 := lv_neT cs1 (show (1 : Int32).toInt = 1 by decide)
                have ncs2 := lv_neT cs2 (show (2 : Int32).toInt = 2 by decide)
                have ncs3 := lv_neT cs3 (show (3 : Int32).toInt = 3 by decide)
                have ncs4 := lv_neT cs4 (show (4 : Int32).toInt = 4 by decide)
                have ncs5 := lv_neT cs5 (show (5 : Int32).toInt = 5 by decide)
                have ncs6 := lv_neT cs6 (show (6 : Int32).toInt = 6 by decide)
                refine lv_tableOut (tgt := 97) hx hb dX11_count_1 (by omega) (by decide) ?_
                refine lv_iconst (v := (-1)) hx hb dX11_count_97 (by decide) ?_
                have he := Option.some.inj hf
                exact ha_reti hx hb hr hlocks hP hD hS dX11_count_98 (ha_e1 he) (ha_e2 he)

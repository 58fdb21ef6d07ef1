set_option maxHeartbeats 4000000 in
set_option maxRecDepth 100000 in
theorem c_X8_clear {l : Launch} {D : va_G} {cs : Nat → ClassId} {ad adK adV : Nat → Nat} {N : List Nat} {Z : State → Prop} (hZ : ha_Zok (ha_A ad N) Z) (hN : ∀ x, xo_kd x < 999 → x ∈ N) (hX : ∀ U, Z U → xo_Z adK adV (ha_A ad N) U) {p0 : Nat} {S : ha_St} {out : ha_St} (h0 : xo_kd p0 = 8) (hf : f_X8_clear p0 S = some out) : ha_Cv l D cs ad xo_kd xo_ln N Z yX8_clear wsX8_clear ({ frames := 0, cells := 0, slots := 0, locals := 0 } : Room) [.ref (ad p0)] S out := by
  refine Met.ofW (cc := cX8_clear) (maxL := 1) (ret := none) (by decide +kernel) rfl ?_
  intro p e s m args below meth c s₁ B hml hv
  obtain ⟨rfl, hP, hD, hK, hz⟩ := hv
  have hx := B.exec
  have hb := B.bytes
  have hr := B.returns
  have hts := atoms_spec (ws := wsX8_clear) B.pre
  have hown : s.vm.findClass RX8 = some m.cls := findClass_of_methodNamed B.named
  have hlocks := B.notSynchronized
  have hS : va_S (ha_A ad N) s.heap s.heap [] := va_S.rf
  have hi8 : ∀ w ∈ wsX80, w ∈ wsX8_clear := fun w h => List.mem_cons_of_mem _ (List.mem_append_right _ h)
  have r36 : ha_Fp s ([.ref (ad p0)] : List Value).toArray RX8 36 8 8 0 .int := ⟨RX8, TX8, 12, wsX8_clear, tyX8, rfl, by decide, by decide, rfl, rfl, hts, hi8, hts (.fieldLink RX8 36 "HillArms$Program" "rules" "I") (by decide +kernel), tyX8_ok, nmX8, rfl, by decide +kernel⟩
  have r40 : ha_Fp s ([.ref (ad p0)] : List Value).toArray RX8 40 8 9 0 .int := ⟨RX8, TX8, 12, wsX8_clear, tyX8, rfl, by decide, by decide, rfl, rfl, hts, hi8, hts (.fieldLink RX8 40 "HillArms$Program" "ones" "I") (by decide +kernel), tyX8_ok, nmX8, rfl, by decide +kernel⟩
  have r43 : ha_Fp s ([.ref (ad p0)] : List Value).toArray RX8 43 8 10 0 .int := ⟨RX8, TX8, 12, wsX8_clear, tyX8, rfl, by decide, by decide, rfl, rfl, hts, hi8, hts (.fieldLink RX8 43 "HillArms$Program" "acts" "I") (by decide +kernel), tyX8_ok, nmX8, rfl, by decide +kernel⟩
  have r46 : ha_Fp s ([.ref (ad p0)] : List Value).toArray RX8 46 8 11 0 .boolean := ⟨RX8, TX8, 12, wsX8_clear, tyX8, rfl, by decide, by decide, rfl, rfl, hts, hi8, hts (.fieldLink RX8 46 "HillArms$Program" "asksTime" "Z") (by decide +kernel), tyX8_ok, nmX8, rfl, by decide +kernel⟩
  have hl := lv_entry ([.ref (ad p0)]) (n := 1) (Nat.le_of_ble_eq_true rfl)
  rw [lg_entry_eq]
  generalize (lg_sl ([.ref (ad p0)]) ++ List.replicate (1 - (lg_sl ([.ref (ad p0)])).length) Slot.unset).toArray = ls at hl ⊢
  have hl : lv_has ls 1 [(0, .ref (ad p0))] := hl
  refine (fun (K0 : ∀ (H : Heap) (locs : List Loc), va_P D vwCl (ha_wl cs ad xo_kd xo_ln N S) H → va_S (ha_A ad N) s.heap H locs → W p l e (headSpec wsX8_clear ({ frames := 0, cells := 0, slots := 0, locals := 0 } : Room)).room s m ([.ref (ad p0)] : List Value).toArray below meth c H locs 0 0 (MQ below (va_Qv (fun (_ : Unit) => True) (fun _ => ha_H D cs ad xo_kd xo_ln N out) (ha_A ad N)) ([.ref (ad p0)] : List Value).toArray s 0 0 (ha_A ad N)) (F0 m 0 ls [])) => K0 _ _ hP hS) ?_
  intro H locs hP hS
  have hf := ha_rt hf
  unfold f_X8_clear at hf
  refine lv_aload_n hx hb dX8_clear_0 rfl (lv_at hl 0 rfl) ?_
  refine lv_iconst (v := 0) hx hb dX8_clear_1 (by decide) ?_
  refine ha_puti hx hb hown hK hP hD hS r36 hN h0 dX8_clear_2 (fun S1 H locs eS1 hP hD hS => ?_)
  have hf := ha_nms hf eS1
  refine lv_aload_n hx hb dX8_clear_5 rfl (lv_at hl 0 rfl) ?_
  refine lv_iconst (v := 0) hx hb dX8_clear_6 (by decide) ?_
  refine ha_puti hx hb hown hK hP hD hS r40 hN h0 dX8_clear_7 (fun S2 H locs eS2 hP hD hS => ?_)
  have hf := ha_nms hf eS2
  refine lv_aload_n hx hb dX8_clear_10 rfl (lv_at hl 0 rfl) ?_
  refine lv_iconst (v := 0) hx hb dX8_clear_11 (by decide) ?_
  refine ha_puti hx hb hown hK hP hD hS r43 hN h0 dX8_clear_12 (fun S3 H locs eS3 hP hD hS => ?_)
  have hf := ha_nms hf eS3
  refine lv_aload_n hx hb dX8_clear_15 rfl (lv_at hl 0 rfl) ?_
  refine lv_iconst (v := 0) hx hb dX8_clear_16 (by decide) ?_
  obtain ⟨g5, hf⟩ := ha_gds hf
  refine ha_putz hx hb hown hK hP hD hS r46 hN h0 g5 dX8_clear_17 (fun S4 H locs eS4 hP hD hS => ?_)
  have hf := ha_nms hf eS4
  have he := Option.some.inj hf
  exact ha_retv hx hb hr hlocks hP hD hS dX8_clear_20 he

set_option maxHeartbeats 4000000 in
set_option maxRecDepth 100000 in
theorem c_X8_addOne {l : Launch} {D : va_G} {cs : Nat → ClassId} {ad adK adV : Nat → Nat} {N : List Nat} {Z : State → Prop} (hZ : ha_Zok (ha_A ad N) Z) (hN : ∀ x, xo_kd x < 999 → x ∈ N) (hX : ∀ U, Z U → xo_Z adK adV (ha_A ad N) U) {p0 : Nat} {p1 : Int32} {p2 : Int32} {p3 : Int32} {S : ha_St} {out : ha_St} (h0 : xo_kd p0 = 8) (hf : f_X8_addOne p0 p1 p2 p3 S = some out) : ha_Cv l D cs ad xo_kd xo_ln N Z yX8_addOne wsX8_addOne ({ frames := 0, cells := 0, slots := 0, locals := 0 } : Room) [.ref (ad p0), .int p1, .int p2, .int p3] S out := by
  refine Met.ofW (cc := cX8_addOne) (maxL := 4) (ret := none) (by decide +kernel) rfl ?_
  intro p e s m args below meth c s₁ B hml hv
  obtain ⟨rfl, hP, hD, hK, hz⟩ := hv
  have hx := B.exec
  have hb := B.bytes
  have hr := B.returns
  have hts := atoms_spec (ws := wsX8_addOne) B.pre
  have hown : s.vm.findClass RX8 = some m.cls := findClass_of_methodNamed B.named
  have hlocks := B.notSynchronized
  have hS : va_S (ha_A ad N) s.heap s.heap [] := va_S.rf
  have hi8 : ∀ w ∈ wsX80, w ∈ wsX8_addOne := fun w h => List.mem_cons_of_mem _ (List.mem_append_right _ h)
  have q40 : ha_Fk s ([.ref (ad p0), .int p1, .int p2, .int p3] : List Value).toArray RX8 40 8 9 0 := ⟨RX8, TX8, 12, wsX8_addOne, rfl, by decide, by decide, rfl, rfl, hts, hi8, hts (.fieldLink RX8 40 "HillArms$Program" "ones" "I") (by decide +kernel)⟩
  have q18 : ha_Fk s ([.ref (ad p0), .int p1, .int p2, .int p3] : List Value).toArray RX8 18 8 2 1 := ⟨RX8, TX8, 12, wsX8_addOne, rfl, by decide, by decide, rfl, rfl, hts, hi8, hts (.fieldLink RX8 18 "HillArms$Program" "oneLeft" "[I") (by decide +kernel)⟩
  have q21 : ha_Fk s ([.ref (ad p0), .int p1, .int p2, .int p3] : List Value).toArray RX8 21 8 3 1 := ⟨RX8, TX8, 12, wsX8_addOne, rfl, by decide, by decide, rfl, rfl, hts, hi8, hts (.fieldLink RX8 21 "HillArms$Program" "oneMark" "[I") (by decide +kernel)⟩
  have q24 : ha_Fk s ([.ref (ad p0), .int p1, .int p2, .int p3] : List Value).toArray RX8 24 8 4 1 := ⟨RX8, TX8, 12, wsX8_addOne, rfl, by decide, by decide, rfl, rfl, hts, hi8, hts (.fieldLink RX8 24 "HillArms$Program" "oneRight" "[I") (by decide +kernel)⟩
  have q46 : ha_Fk s ([.ref (ad p0), .int p1, .int p2, .int p3] : List Value).toArray RX8 46 8 11 0 := ⟨RX8, TX8, 12, wsX8_addOne, rfl, by decide, by decide, rfl, rfl, hts, hi8, hts (.fieldLink RX8 46 "HillArms$Program" "asksTime" "Z") (by decide +kernel)⟩
  have r46 : ha_Fp s ([.ref (ad p0), .int p1, .int p2, .int p3] : List Value).toArray RX8 46 8 11 0 .boolean := ⟨RX8, TX8, 12, wsX8_addOne, tyX8, rfl, by decide, by decide, rfl, rfl, hts, hi8, hts (.fieldLink RX8 46 "HillArms$Program" "asksTime" "Z") (by decide +kernel), tyX8_ok, nmX8, rfl, by decide +kernel⟩
  have r40 : ha_Fp s ([.ref (ad p0), .int p1, .int p2, .int p3] : List Value).toArray RX8 40 8 9 0 .int := ⟨RX8, TX8, 12, wsX8_addOne, tyX8, rfl, by decide, by decide, rfl, rfl, hts, hi8, hts (.fieldLink RX8 40 "HillArms$Program" "ones" "I") (by decide +kernel), tyX8_ok, nmX8, rfl, by decide +kernel⟩
  have hl := lv_entry ([.ref (ad p0), .int p1, .int p2, .int p3]) (n := 4) (Nat.le_of_ble_eq_true rfl)
  rw [lg_entry_eq]
  generalize (lg_sl ([.ref (ad p0), .int p1, .int p2, .int p3]) ++ List.replicate (4 - (lg_sl ([.ref (ad p0), .int p1, .int p2, .int p3])).length) Slot.unset).toArray = ls at hl ⊢
  have hl : lv_has ls 4 [(0, .ref (ad p0)), (1, .int p1), (2, .int p2), (3, .int p3)] := hl
  refine (fun (K0 : ∀ (H : Heap) (locs : List Loc), va_P D vwCl (ha_wl cs ad xo_kd xo_ln N S) H → va_S (ha_A ad N) s.heap H locs → W p l e (headSpec wsX8_addOne ({ frames := 0, cells := 0, slots := 0, locals := 0 } : Room)).room s m ([.ref (ad p0), .int p1, .int p2, .int p3] : List Value).toArray below meth c H locs 0 0 (MQ below (va_Qv (fun (_ : Unit) => True) (fun _ => ha_H D cs ad xo_kd xo_ln N out) (ha_A ad N)) ([.ref (ad p0), .int p1, .int p2, .int p3] : List Value).toArray s 0 0 (ha_A ad N)) (F0 m 0 ls [])) => K0 _ _ hP hS) ?_
  intro H locs hP hS
  have hf := ha_rt hf
  have J75 : ∀  (S : ha_St) (H : Heap) (locs : List Loc) (ls : Array Slot), (f_X8_addOne_J75 p0 p1 p2 p3  S).bind some = some out → va_P D vwCl (ha_wl cs ad xo_kd xo_ln N S) H → va_D (ha_A ad N) (ha_wl cs ad xo_kd xo_ln N S) → va_S (ha_A ad N) s.heap H locs → lv_has ls 4 [(0, .ref (ad p0)), (1, .int p1), (2, .int p2), (3, .int p3)] → W p l e (headSpec wsX8_addOne ({ frames := 0, cells := 0, slots := 0, locals := 0 } : Room)).room s m ([.ref (ad p0), .int p1, .int p2, .int p3] : List Value).toArray below meth c H locs 0 0 (MQ below (va_Qv (fun (_ : Unit) => True) (fun _ => ha_H D cs ad xo_kd xo_ln N out) (ha_A ad N)) ([.ref (ad p0), .int p1, .int p2, .int p3] : List Value).toArray s 0 0 (ha_A ad N)) (F0 m 75 ls []) := by
    intro  S H locs ls hf  hP hD hS hl
    unfold f_X8_addOne_J75 at hf
    have he := Option.some.inj hf
    exact ha_retv hx hb hr hlocks hP hD hS dX8_addOne_75 he
  have J71 : ∀ (k0 : Nat) (k1 : Int32) (k2 : Int32) (S : ha_St) (H : Heap) (locs : List Loc) (ls : Array Slot), (f_X8_addOne_J71 p0 p1 p2 p3 k0 k1 k2 S).bind some = some out → xo_kd k0 = 8 → va_P D vwCl (ha_wl cs ad xo_kd xo_ln N S) H → va_D (ha_A ad N) (ha_wl cs ad xo_kd xo_ln N S) → va_S (ha_A ad N) s.heap H locs → lv_has ls 4 [(0, .ref (ad p0)), (1, .int p1), (2, .int p2), (3, .int p3)] → W p l e (headSpec wsX8_addOne ({ frames := 0, cells := 0, slots := 0, locals := 0 } : Room)).room s m ([.ref (ad p0), .int p1, .int p2, .int p3] : List Value).toArray below meth c H locs 0 0 (MQ below (va_Qv (fun (_ : Unit) => True) (fun _ => ha_H D cs ad xo_kd xo_ln N out) (ha_A ad N)) ([.ref (ad p0), .int p1, .int p2, .int p3] : List Value).toArray s 0 0 (ha_A ad N)) (F0 m 71 ls [.int k2, .int k1, .ref (ad k0)]) := by
    intro k0 k1 k2 S H locs ls hf hk0 hP hD hS hl
    unfold f_X8_addOne_J71 at hf
    refine lv_ior hx hb dX8_addOne_71 ?_
    obtain ⟨g2, hf⟩ := ha_gds hf
    refine ha_putz hx hb hown hK hP hD hS r46 hN hk0 g2 dX8_addOne_72 (fun S1 H locs eS1 hP hD hS => ?_)
    have hf := ha_nms hf eS1
    exact J75  S1 H locs ls hf  hP hD hS (lv_sub hl [0, 1, 2, 3] rfl)
  have J66 : ∀ (k0 : Nat) (k1 : Int32) (S : ha_St) (H : Heap) (locs : List Loc) (ls : Array Slot), (f_X8_addOne_J66 p0 p1 p2 p3 k0 k1 S).bind some = some out → xo_kd k0 = 8 → va_P D vwCl (ha_wl cs ad xo_kd xo_ln N S) H → va_D (ha_A ad N) (ha_wl cs ad xo_kd xo_ln N S) → va_S (ha_A ad N) s.heap H locs → lv_has ls 4 [(0, .ref (ad p0)), (1, .int p1), (2, .int p2), (3, .int p3)] → W p l e (headSpec wsX8_addOne ({ frames := 0, cells := 0, slots := 0, locals := 0 } : Room)).room s m ([.ref (ad p0), .int p1, .int p2, .int p3] : List Value).toArray below meth c H locs 0 0 (MQ below (va_Qv (fun (_ : Unit) => True) (fun _ => ha_H D cs ad xo_kd xo_ln N out) (ha_A ad N)) ([.ref (ad p0), .int p1, .int p2, .int p3] : List Value).toArray s 0 0 (ha_A ad N)) (F0 m 66 ls [.int k1, .ref (ad k0)]) := by
    intro k0 k1 S H locs ls hf hk0 hP hD hS hl
    unfold f_X8_addOne_J66 at hf
    refine lv_iconst (v := 1) hx hb dX8_addOne_66 (by decide) ?_
    refine lv_goto (tgt := 71) hx hb dX8_addOne_67 (by decide) ?_
    exact J71 k0 k1 1 S H locs ls hf hk0 hP hD hS (lv_sub hl [0, 1, 2, 3] rfl)
  unfold f_X8_addOne at hf
  refine lv_aload_n hx hb dX8_addOne_0 rfl (lv_at hl 0 rfl) ?_
  refine ha_geti hx hb hown hK hP q40 hN h0 dX8_addOne_1 ?_
  refine lv_bipush (v := 40) hx hb dX8_addOne_4 (by decide) ?_
  refine lv_icmp_ge (tgt := 75) hx hb dX8_addOne_6 (by decide) (fun c3 => ?_) (fun c3 => ?_)
  · have hf := ha_it hf c3
    exact J75  S H locs ls hf  hP hD hS (lv_sub hl [0, 1, 2, 3] rfl)
  · have hf := ha_if hf c3
    refine lv_aload_n hx hb dX8_addOne_9 rfl (lv_at hl 0 rfl) ?_
    obtain ⟨r4, wr4, hf⟩ := ha_bds hf
    obtain ⟨wr4, hr4⟩ := ha_rf_some wr4
    refine ha_getr hx hb hown hK hP q18 hN h0 wr4 dX8_addOne_10 ?_
    refine lv_aload_n hx hb dX8_addOne_13 rfl (lv_at hl 0 rfl) ?_
    refine ha_geti hx hb hown hK hP q40 hN h0 dX8_addOne_14 ?_
    refine lv_iload_n hx hb dX8_addOne_17 rfl (lv_at hl 1 rfl) ?_
    obtain ⟨g5, hf⟩ := ha_gds hf
    refine ha_iast hx hb hK hP hD hS hN hr4 g5 dX8_addOne_18 (fun S6 H locs eS6 hP hD hS => ?_)
    have hf := ha_nms hf eS6
    refine lv_aload_n hx hb dX8_addOne_19 rfl (lv_at hl 0 rfl) ?_
    obtain ⟨r7, wr7, hf⟩ := ha_bds hf
    obtain ⟨wr7, hr7⟩ := ha_rf_some wr7
    refine ha_getr hx hb hown hK hP q21 hN h0 wr7 dX8_addOne_20 ?_
    refine lv_aload_n hx hb dX8_addOne_23 rfl (lv_at hl 0 rfl) ?_
    refine ha_geti hx hb hown hK hP q40 hN h0 dX8_addOne_24 ?_
    refine lv_iload_n hx hb dX8_addOne_27 rfl (lv_at hl 2 rfl) ?_
    obtain ⟨g8, hf⟩ := ha_gds hf
    refine ha_iast hx hb hK hP hD hS hN hr7 g8 dX8_addOne_28 (fun S9 H locs eS9 hP hD hS => ?_)
    have hf := ha_nms hf eS9
    refine lv_aload_n hx hb dX8_addOne_29 rfl (lv_at hl 0 rfl) ?_
    obtain ⟨r10, wr10, hf⟩ := ha_bds hf
    obtain ⟨wr10, hr10⟩ := ha_rf_some wr10
    refine ha_getr hx hb hown hK hP q24 hN h0 wr10 dX8_addOne_30 ?_
    refine lv_aload_n hx hb dX8_addOne_33 rfl (lv_at hl 0 rfl) ?_
    refine ha_geti hx hb hown hK hP q40 hN h0 dX8_addOne_34 ?_
    refine lv_iload_n hx hb dX8_addOne_37 rfl (lv_at hl 3 rfl) ?_
    obtain ⟨g11, hf⟩ := ha_gds hf
    refine ha_iast hx hb hK hP hD hS hN hr10 g11 dX8_addOne_38 (fun S12 H locs eS12 hP hD hS => ?_)
    have hf := ha_nms hf eS12
    refine lv_aload_n hx hb dX8_addOne_39 rfl (lv_at hl 0 rfl) ?_
    refine lv_dup hx hb dX8_addOne_40 rfl ?_
    refine ha_geti hx hb hown hK hP q40 hN h0 dX8_addOne_41 ?_
    refine lv_iconst (v := 1) hx hb dX8_addOne_44 (by decide) ?_
    refine lv_iadd hx hb dX8_addOne_45 ?_
    refine ha_puti hx hb hown hK hP hD hS r40 hN h0 dX8_addOne_46 (fun S13 H locs eS13 hP hD hS => ?_)
    have hf := ha_nms hf eS13
    refine lv_aload_n hx hb dX8_addOne_49 rfl (lv_at hl 0 rfl) ?_
    refine lv_dup hx hb dX8_addOne_50 rfl ?_
    refine ha_geti hx hb hown hK hP q46 hN h0 dX8_addOne_51 ?_
    refine lv_iload_n hx hb dX8_addOne_54 rfl (lv_at hl 1 rfl) ?_
    refine lv_bipush (v := 103) hx hb dX8_addOne_55 (by decide) ?_
    refine lv_icmp_eq (tgt := 66) hx hb dX8_addOne_57 (by decide) (fun c14 => ?_) (fun c14 => ?_)
    · have hf := ha_it hf c14
      exact J66 p0 ((ha_gI S13 p0 11)) S13 H locs ls hf h0 hP hD hS (lv_sub hl [0, 1, 2, 3] rfl)
    · have hf := ha_if hf c14
      refine lv_iload_n hx hb dX8_addOne_60 rfl (lv_at hl 3 rfl) ?_
      refine lv_bipush (v := 103) hx hb dX8_addOne_61 (by decide) ?_
      refine lv_icmp_ne (tgt := 70) hx hb dX8_addOne_63 (by decide) (fun c15 => ?_) (fun c15 => ?_)
      · have hf := ha_it hf c15
        refine lv_iconst (v := 0) hx hb dX8_addOne_70 (by decide) ?_
        exact J71 p0 ((ha_gI S13 p0 11)) 0 S13 H locs ls hf h0 hP hD hS (lv_sub hl [0, 1, 2, 3] rfl)
      · have hf := ha_if hf (fun q => q c15)
        exact J66 p0 ((ha_gI S13 p0 11)) S13 H locs ls hf h0 hP hD hS (lv_sub hl [0, 1, 2, 3] rfl)

set_option maxHeartbeats 4000000 in
set_option maxRecDepth 100000 in
theorem c_X8_addAct {l : Launch} {D : va_G} {cs : Nat → ClassId} {ad adK adV : Nat → Nat} {N : List Nat} {Z : State → Prop} (hZ : ha_Zok (ha_A ad N) Z) (hN : ∀ x, xo_kd x < 999 → x ∈ N) (hX : ∀ U, Z U → xo_Z adK adV (ha_A ad N) U) {p0 : Nat} {p1 : Int32} {p2 : Int32} {p3 : Int32} {S : ha_St} {out : ha_St} (h0 : xo_kd p0 = 8) (hf : f_X8_addAct p0 p1 p2 p3 S = some out) : ha_Cv l D cs ad xo_kd xo_ln N Z yX8_addAct wsX8_addAct ({ frames := 0, cells := 0, slots := 0, locals := 0 } : Room) [.ref (ad p0), .int p1, .int p2, .int p3] S out := by
  refine Met.ofW (cc := cX8_addAct) (maxL := 4) (ret := none) (by decide +kernel) rfl ?_
  intro p e s m args below meth c s₁ B hml hv
  obtain ⟨rfl, hP, hD, hK, hz⟩ := hv
  have hx := B.exec
  have hb := B.bytes
  have hr := B.returns
  have hts := atoms_spec (ws := wsX8_addAct) B.pre
  have hown : s.vm.findClass RX8 = some m.cls := findClass_of_methodNamed B.named
  have hlocks := B.notSynchronized
  have hS : va_S (ha_A ad N) s.heap s.heap [] := va_S.rf
  have hi8 : ∀ w ∈ wsX80, w ∈ wsX8_addAct := fun w h => List.mem_cons_of_mem _ (List.mem_append_right _ h)
  have q43 : ha_Fk s ([.ref (ad p0), .int p1, .int p2, .int p3] : List Value).toArray RX8 43 8 10 0 := ⟨RX8, TX8, 12, wsX8_addAct, rfl, by decide, by decide, rfl, rfl, hts, hi8, hts (.fieldLink RX8 43 "HillArms$Program" "acts" "I") (by decide +kernel)⟩
  have q27 : ha_Fk s ([.ref (ad p0), .int p1, .int p2, .int p3] : List Value).toArray RX8 27 8 5 1 := ⟨RX8, TX8, 12, wsX8_addAct, rfl, by decide, by decide, rfl, rfl, hts, hi8, hts (.fieldLink RX8 27 "HillArms$Program" "act" "[I") (by decide +kernel)⟩
  have q30 : ha_Fk s ([.ref (ad p0), .int p1, .int p2, .int p3] : List Value).toArray RX8 30 8 6 1 := ⟨RX8, TX8, 12, wsX8_addAct, rfl, by decide, by decide, rfl, rfl, hts, hi8, hts (.fieldLink RX8 30 "HillArms$Program" "sumFirst" "[I") (by decide +kernel)⟩
  have q33 : ha_Fk s ([.ref (ad p0), .int p1, .int p2, .int p3] : List Value).toArray RX8 33 8 7 1 := ⟨RX8, TX8, 12, wsX8_addAct, rfl, by decide, by decide, rfl, rfl, hts, hi8, hts (.fieldLink RX8 33 "HillArms$Program" "sumSecond" "[I") (by decide +kernel)⟩
  have q46 : ha_Fk s ([.ref (ad p0), .int p1, .int p2, .int p3] : List Value).toArray RX8 46 8 11 0 := ⟨RX8, TX8, 12, wsX8_addAct, rfl, by decide, by decide, rfl, rfl, hts, hi8, hts (.fieldLink RX8 46 "HillArms$Program" "asksTime" "Z") (by decide +kernel)⟩
  have r46 : ha_Fp s ([.ref (ad p0), .int p1, .int p2, .int p3] : List Value).toArray RX8 46 8 11 0 .boolean := ⟨RX8, TX8, 12, wsX8_addAct, tyX8, rfl, by decide, by decide, rfl, rfl, hts, hi8, hts (.fieldLink RX8 46 "HillArms$Program" "asksTime" "Z") (by decide +kernel), tyX8_ok, nmX8, rfl, by decide +kernel⟩
  have r43 : ha_Fp s ([.ref (ad p0), .int p1, .int p2, .int p3] : List Value).toArray RX8 43 8 10 0 .int := ⟨RX8, TX8, 12, wsX8_addAct, tyX8, rfl, by decide, by decide, rfl, rfl, hts, hi8, hts (.fieldLink RX8 43 "HillArms$Program" "acts" "I") (by decide +kernel), tyX8_ok, nmX8, rfl, by decide +kernel⟩
  have hl := lv_entry ([.ref (ad p0), .int p1, .int p2, .int p3]) (n := 4) (Nat.le_of_ble_eq_true rfl)
  rw [lg_entry_eq]
  generalize (lg_sl ([.ref (ad p0), .int p1, .int p2, .int p3]) ++ List.replicate (4 - (lg_sl ([.ref (ad p0), .int p1, .int p2, .int p3])).length) Slot.unset).toArray = ls at hl ⊢
  have hl : lv_has ls 4 [(0, .ref (ad p0)), (1, .int p1), (2, .int p2), (3, .int p3)] := hl
  refine (fun (K0 : ∀ (H : Heap) (locs : List Loc), va_P D vwCl (ha_wl cs ad xo_kd xo_ln N S) H → va_S (ha_A ad N) s.heap H locs → W p l e (headSpec wsX8_addAct ({ frames := 0, cells := 0, slots := 0, locals := 0 } : Room)).room s m ([.ref (ad p0), .int p1, .int p2, .int p3] : List Value).toArray below meth c H locs 0 0 (MQ below (va_Qv (fun (_ : Unit) => True) (fun _ => ha_H D cs ad xo_kd xo_ln N out) (ha_A ad N)) ([.ref (ad p0), .int p1, .int p2, .int p3] : List Value).toArray s 0 0 (ha_A ad N)) (F0 m 0 ls [])) => K0 _ _ hP hS) ?_
  intro H locs hP hS
  have hf := ha_rt hf
  have J75 : ∀  (S : ha_St) (H : Heap) (locs : List Loc) (ls : Array Slot), (f_X8_addAct_J75 p0 p1 p2 p3  S).bind some = some out → va_P D vwCl (ha_wl cs ad xo_kd xo_ln N S) H → va_D (ha_A ad N) (ha_wl cs ad xo_kd xo_ln N S) → va_S (ha_A ad N) s.heap H locs → lv_has ls 4 [(0, .ref (ad p0)), (1, .int p1), (2, .int p2), (3, .int p3)] → W p l e (headSpec wsX8_addAct ({ frames := 0, cells := 0, slots := 0, locals := 0 } : Room)).room s m ([.ref (ad p0), .int p1, .int p2, .int p3] : List Value).toArray below meth c H locs 0 0 (MQ below (va_Qv (fun (_ : Unit) => True) (fun _ => ha_H D cs ad xo_kd xo_ln N out) (ha_A ad N)) ([.ref (ad p0), .int p1, .int p2, .int p3] : List Value).toArray s 0 0 (ha_A ad N)) (F0 m 75 ls []) := by
    intro  S H locs ls hf  hP hD hS hl
    unfold f_X8_addAct_J75 at hf
    have he := Option.some.inj hf
    exact ha_retv hx hb hr hlocks hP hD hS dX8_addAct_75 he
  have J71 : ∀ (k0 : Nat) (k1 : Int32) (k2 : Int32) (S : ha_St) (H : Heap) (locs : List Loc) (ls : Array Slot), (f_X8_addAct_J71 p0 p1 p2 p3 k0 k1 k2 S).bind some = some out → xo_kd k0 = 8 → va_P D vwCl (ha_wl cs ad xo_kd xo_ln N S) H → va_D (ha_A ad N) (ha_wl cs ad xo_kd xo_ln N S) → va_S (ha_A ad N) s.heap H locs → lv_has ls 4 [(0, .ref (ad p0)), (1, .int p1), (2, .int p2), (3, .int p3)] → W p l e (headSpec wsX8_addAct ({ frames := 0, cells := 0, slots := 0, locals := 0 } : Room)).room s m ([.ref (ad p0), .int p1, .int p2, .int p3] : List Value).toArray below meth c H locs 0 0 (MQ below (va_Qv (fun (_ : Unit) => True) (fun _ => ha_H D cs ad xo_kd xo_ln N out) (ha_A ad N)) ([.ref (ad p0), .int p1, .int p2, .int p3] : List Value).toArray s 0 0 (ha_A ad N)) (F0 m 71 ls [.int k2, .int k1, .ref (ad k0)]) := by
    intro k0 k1 k2 S H locs ls hf hk0 hP hD hS hl
    unfold f_X8_addAct_J71 at hf
    refine lv_ior hx hb dX8_addAct_71 ?_
    obtain ⟨g2, hf⟩ := ha_gds hf
    refine ha_putz hx hb hown hK hP hD hS r46 hN hk0 g2 dX8_addAct_72 (fun S1 H locs eS1 hP hD hS => ?_)
    have hf := ha_nms hf eS1
    exact J75  S1 H locs ls hf  hP hD hS (lv_sub hl [0, 1, 2, 3] rfl)
  have J66 : ∀ (k0 : Nat) (k1 : Int32) (S : ha_St) (H : Heap) (locs : List Loc) (ls : Array Slot), (f_X8_addAct_J66 p0 p1 p2 p3 k0 k1 S).bind some = some out → xo_kd k0 = 8 → va_P D vwCl (ha_wl cs ad xo_kd xo_ln N S) H → va_D (ha_A ad N) (ha_wl cs ad xo_kd xo_ln N S) → va_S (ha_A ad N) s.heap H locs → lv_has ls 4 [(0, .ref (ad p0)), (1, .int p1), (2, .int p2), (3, .int p3)] → W p l e (headSpec wsX8_addAct ({ frames := 0, cells := 0, slots := 0, locals := 0 } : Room)).room s m ([.ref (ad p0), .int p1, .int p2, .int p3] : List Value).toArray below meth c H locs 0 0 (MQ below (va_Qv (fun (_ : Unit) => True) (fun _ => ha_H D cs ad xo_kd xo_ln N out) (ha_A ad N)) ([.ref (ad p0), .int p1, .int p2, .int p3] : List Value).toArray s 0 0 (ha_A ad N)) (F0 m 66 ls [.int k1, .ref (ad k0)]) := by
    intro k0 k1 S H locs ls hf hk0 hP hD hS hl
    unfold f_X8_addAct_J66 at hf
    refine lv_iconst (v := 1) hx hb dX8_addAct_66 (by decide) ?_
    refine lv_goto (tgt := 71) hx hb dX8_addAct_67 (by decide) ?_
    exact J71 k0 k1 1 S H locs ls hf hk0 hP hD hS (lv_sub hl [0, 1, 2, 3] rfl)
  unfold f_X8_addAct at hf
  refine lv_aload_n hx hb dX8_addAct_0 rfl (lv_at hl 0 rfl) ?_
  refine ha_geti hx hb hown hK hP q43 hN h0 dX8_addAct_1 ?_
  refine lv_bipush (v := 40) hx hb dX8_addAct_4 (by decide) ?_
  refine lv_icmp_ge (tgt := 75) hx hb dX8_addAct_6 (by decide) (fun c3 => ?_) (fun c3 => ?_)
  · have hf := ha_it hf c3
    exact J75  S H locs ls hf  hP hD hS (lv_sub hl [0, 1, 2, 3] rfl)
  · have hf := ha_if hf c3
    refine lv_aload_n hx hb dX8_addAct_9 rfl (lv_at hl 0 rfl) ?_
    obtain ⟨r4, wr4, hf⟩ := ha_bds hf
    obtain ⟨wr4, hr4⟩ := ha_rf_some wr4
    refine ha_getr hx hb hown hK hP q27 hN h0 wr4 dX8_addAct_10 ?_
    refine lv_aload_n hx hb dX8_addAct_13 rfl (lv_at hl 0 rfl) ?_
    refine ha_geti hx hb hown hK hP q43 hN h0 dX8_addAct_14 ?_
    refine lv_iload_n hx hb dX8_addAct_17 rfl (lv_at hl 1 rfl) ?_
    obtain ⟨g5, hf⟩ := ha_gds hf
    refine ha_iast hx hb hK hP hD hS hN hr4 g5 dX8_addAct_18 (fun S6 H locs eS6 hP hD hS => ?_)
    have hf := ha_nms hf eS6
    refine lv_aload_n hx hb dX8_addAct_19 rfl (lv_at hl 0 rfl) ?_
    obtain ⟨r7, wr7, hf⟩ := ha_bds hf
    obtain ⟨wr7, hr7⟩ := ha_rf_some wr7
    refine ha_getr hx hb hown hK hP q30 hN h0 wr7 dX8_addAct_20 ?_
    refine lv_aload_n hx hb dX8_addAct_23 rfl (lv_at hl 0 rfl) ?_
    refine ha_geti hx hb hown hK hP q43 hN h0 dX8_addAct_24 ?_
    refine lv_iload_n hx hb dX8_addAct_27 rfl (lv_at hl 2 rfl) ?_
    obtain ⟨g8, hf⟩ := ha_gds hf
    refine ha_iast hx hb hK hP hD hS hN hr7 g8 dX8_addAct_28 (fun S9 H locs eS9 hP hD hS => ?_)
    have hf := ha_nms hf eS9
    refine lv_aload_n hx hb dX8_addAct_29 rfl (lv_at hl 0 rfl) ?_
    obtain ⟨r10, wr10, hf⟩ := ha_bds hf
    obtain ⟨wr10, hr10⟩ := ha_rf_some wr10
    refine ha_getr hx hb hown hK hP q33 hN h0 wr10 dX8_addAct_30 ?_
    refine lv_aload_n hx hb dX8_addAct_33 rfl (lv_at hl 0 rfl) ?_
    refine ha_geti hx hb hown hK hP q43 hN h0 dX8_addAct_34 ?_
    refine lv_iload_n hx hb dX8_addAct_37 rfl (lv_at hl 3 rfl) ?_
    obtain ⟨g11, hf⟩ := ha_gds hf
    refine ha_iast hx hb hK hP hD hS hN hr10 g11 dX8_addAct_38 (fun S12 H locs eS12 hP hD hS => ?_)
    have hf := ha_nms hf eS12
    refine lv_aload_n hx hb dX8_addAct_39 rfl (lv_at hl 0 rfl) ?_
    refine lv_dup hx hb dX8_addAct_40 rfl ?_
    refine ha_geti hx hb hown hK hP q43 hN h0 dX8_addAct_41 ?_
    refine lv_iconst (v := 1) hx hb dX8_addAct_44 (by decide) ?_
    refine lv_iadd hx hb dX8_addAct_45 ?_
    refine ha_puti hx hb hown hK hP hD hS r43 hN h0 dX8_addAct_46 (fun S13 H locs eS13 hP hD hS => ?_)
    have hf := ha_nms hf eS13
    refine lv_aload_n hx hb dX8_addAct_49 rfl (lv_at hl 0 rfl) ?_
    refine lv_dup hx hb dX8_addAct_50 rfl ?_
    refine ha_geti hx hb hown hK hP q46 hN h0 dX8_addAct_51 ?_
    refine lv_iload_n hx hb dX8_addAct_54 rfl (lv_at hl 2 rfl) ?_
    refine lv_bipush (v := 103) hx hb dX8_addAct_55 (by decide) ?_
    refine lv_icmp_eq (tgt := 66) hx hb dX8_addAct_57 (by decide) (fun c14 => ?_) (fun c14 => ?_)
    · have hf := ha_it hf c14
      exact J66 p0 ((ha_gI S13 p0 11)) S13 H locs ls hf h0 hP hD hS (lv_sub hl [0, 1, 2, 3] rfl)
    · have hf := ha_if hf c14
      refine lv_iload_n hx hb dX8_addAct_60 rfl (lv_at hl 3 rfl) ?_
      refine lv_bipush (v := 103) hx hb dX8_addAct_61 (by decide) ?_
      refine lv_icmp_ne (tgt := 70) hx hb dX8_addAct_63 (by decide) (fun c15 => ?_) (fun c15 => ?_)
      · have hf := ha_it hf c15
        refine lv_iconst (v := 0) hx hb dX8_addAct_70 (by decide) ?_
        exact J71 p0 ((ha_gI S13 p0 11)) 0 S13 H locs ls hf h0 hP hD hS (lv_sub hl [0, 1, 2, 3] rfl)
      · have hf := ha_if hf (fun q => q c15)
        exact J66 p0 ((ha_gI S13 p0 11)) S13 H locs ls hf h0 hP hD hS (lv_sub hl [0, 1, 2, 3] rfl)

set_option maxHeartbeats 4000000 in
set_option maxRecDepth 100000 in
theorem c_X8_closeRule {l : Launch} {D : va_G} {cs : Nat → ClassId} {ad adK adV : Nat → Nat} {N : List Nat} {Z : State → Prop} (hZ : ha_Zok (ha_A ad N) Z) (hN : ∀ x, xo_kd x < 999 → x ∈ N) (hX : ∀ U, Z U → xo_Z adK adV (ha_A ad N) U) {p0 : Nat} {S : ha_St} {out : ha_St} (h0 : xo_kd p0 = 8) (hf : f_X8_closeRule p0 S = some out) : ha_Cv l D cs ad xo_kd xo_ln N Z yX8_closeRule wsX8_closeRule ({ frames := 0, cells := 0, slots := 0, locals := 0 } : Room) [.ref (ad p0)] S out := by
  refine Met.ofW (cc := cX8_closeRule) (maxL := 1) (ret := none) (by decide +kernel) rfl ?_
  intro p e s m args below meth c s₁ B hml hv
  obtain ⟨rfl, hP, hD, hK, hz⟩ := hv
  have hx := B.exec
  have hb := B.bytes
  have hr := B.returns
  have hts := atoms_spec (ws := wsX8_closeRule) B.pre
  have hown : s.vm.findClass RX8 = some m.cls := findClass_of_methodNamed B.named
  have hlocks := B.notSynchronized
  have hS : va_S (ha_A ad N) s.heap s.heap [] := va_S.rf
  have hi8 : ∀ w ∈ wsX80, w ∈ wsX8_closeRule := fun w h => List.mem_cons_of_mem _ (List.mem_append_right _ h)
  have q36 : ha_Fk s ([.ref (ad p0)] : List Value).toArray RX8 36 8 8 0 := ⟨RX8, TX8, 12, wsX8_closeRule, rfl, by decide, by decide, rfl, rfl, hts, hi8, hts (.fieldLink RX8 36 "HillArms$Program" "rules" "I") (by decide +kernel)⟩
  have q9 : ha_Fk s ([.ref (ad p0)] : List Value).toArray RX8 9 8 0 1 := ⟨RX8, TX8, 12, wsX8_closeRule, rfl, by decide, by decide, rfl, rfl, hts, hi8, hts (.fieldLink RX8 9 "HillArms$Program" "onesEnd" "[I") (by decide +kernel)⟩
  have q40 : ha_Fk s ([.ref (ad p0)] : List Value).toArray RX8 40 8 9 0 := ⟨RX8, TX8, 12, wsX8_closeRule, rfl, by decide, by decide, rfl, rfl, hts, hi8, hts (.fieldLink RX8 40 "HillArms$Program" "ones" "I") (by decide +kernel)⟩
  have q15 : ha_Fk s ([.ref (ad p0)] : List Value).toArray RX8 15 8 1 1 := ⟨RX8, TX8, 12, wsX8_closeRule, rfl, by decide, by decide, rfl, rfl, hts, hi8, hts (.fieldLink RX8 15 "HillArms$Program" "actsEnd" "[I") (by decide +kernel)⟩
  have q43 : ha_Fk s ([.ref (ad p0)] : List Value).toArray RX8 43 8 10 0 := ⟨RX8, TX8, 12, wsX8_closeRule, rfl, by decide, by decide, rfl, rfl, hts, hi8, hts (.fieldLink RX8 43 "HillArms$Program" "acts" "I") (by decide +kernel)⟩
  have r36 : ha_Fp s ([.ref (ad p0)] : List Value).toArray RX8 36 8 8 0 .int := ⟨RX8, TX8, 12, wsX8_closeRule, tyX8, rfl, by decide, by decide, rfl, rfl, hts, hi8, hts (.fieldLink RX8 36 "HillArms$Program" "rules" "I") (by decide +kernel), tyX8_ok, nmX8, rfl, by decide +kernel⟩
  have hl := lv_entry ([.ref (ad p0)]) (n := 1) (Nat.le_of_ble_eq_true rfl)
  rw [lg_entry_eq]
  generalize (lg_sl ([.ref (ad p0)]) ++ List.replicate (1 - (lg_sl ([.ref (ad p0)])).length) Slot.unset).toArray = ls at hl ⊢
  have hl : lv_has ls 1 [(0, .ref (ad p0))] := hl
  refine (fun (K0 : ∀ (H : Heap) (locs : List Loc), va_P D vwCl (ha_wl cs ad xo_kd xo_ln N S) H → va_S (ha_A ad N) s.heap H locs → W p l e (headSpec wsX8_closeRule ({ frames := 0, cells := 0, slots := 0, locals := 0 } : Room)).room s m ([.ref (ad p0)] : List Value).toArray below meth c H locs 0 0 (MQ below (va_Qv (fun (_ : Unit) => True) (fun _ => ha_H D cs ad xo_kd xo_ln N out) (ha_A ad N)) ([.ref (ad p0)] : List Value).toArray s 0 0 (ha_A ad N)) (F0 m 0 ls [])) => K0 _ _ hP hS) ?_
  intro H locs hP hS
  have hf := ha_rt hf
  have J45 : ∀  (S : ha_St) (H : Heap) (locs : List Loc) (ls : Array Slot), (f_X8_closeRule_J45 p0  S).bind some = some out → va_P D vwCl (ha_wl cs ad xo_kd xo_ln N S) H → va_D (ha_A ad N) (ha_wl cs ad xo_kd xo_ln N S) → va_S (ha_A ad N) s.heap H locs → lv_has ls 1 [(0, .ref (ad p0))] → W p l e (headSpec wsX8_closeRule ({ frames := 0, cells := 0, slots := 0, locals := 0 } : Room)).room s m ([.ref (ad p0)] : List Value).toArray below meth c H locs 0 0 (MQ below (va_Qv (fun (_ : Unit) => True) (fun _ => ha_H D cs ad xo_kd xo_ln N out) (ha_A ad N)) ([.ref (ad p0)] : List Value).toArray s 0 0 (ha_A ad N)) (F0 m 45 ls []) := by
    intro  S H locs ls hf  hP hD hS hl
    unfold f_X8_closeRule_J45 at hf
    have he := Option.some.inj hf
    exact ha_retv hx hb hr hlocks hP hD hS dX8_closeRule_45 he
  unfold f_X8_closeRule at hf
  refine lv_aload_n hx hb dX8_closeRule_0 rfl (lv_at hl 0 rfl) ?_
  refine ha_geti hx hb hown hK hP q36 hN h0 dX8_closeRule_1 ?_
  refine lv_bipush (v := 20) hx hb dX8_closeRule_4 (by decide) ?_
  refine lv_icmp_ge (tgt := 45) hx hb dX8_closeRule_6 (by decide) (fun c1 => ?_) (fun c1 => ?_)
  · have hf := ha_it hf c1
    exact J45  S H locs ls hf  hP hD hS (lv_sub hl [0] rfl)
  · have hf := ha_if hf c1
    refine lv_aload_n hx hb dX8_closeRule_9 rfl (lv_at hl 0 rfl) ?_
    obtain ⟨r2, wr2, hf⟩ := ha_bds hf
    obtain ⟨wr2, hr2⟩ := ha_rf_some wr2
    refine ha_getr hx hb hown hK hP q9 hN h0 wr2 dX8_closeRule_10 ?_
    refine lv_aload_n hx hb dX8_closeRule_13 rfl (lv_at hl 0 rfl) ?_
    refine ha_geti hx hb hown hK hP q36 hN h0 dX8_closeRule_14 ?_
    refine lv_aload_n hx hb dX8_closeRule_17 rfl (lv_at hl 0 rfl) ?_
    refine ha_geti hx hb hown hK hP q40 hN h0 dX8_closeRule_18 ?_
    obtain ⟨g3, hf⟩ := ha_gds hf
    refine ha_iast hx hb hK hP hD hS hN hr2 g3 dX8_closeRule_21 (fun S4 H locs eS4 hP hD hS => ?_)
    have hf := ha_nms hf eS4
    refine lv_aload_n hx hb dX8_closeRule_22 rfl (lv_at hl 0 rfl) ?_
    obtain ⟨r5, wr5, hf⟩ := ha_bds hf
    obtain ⟨wr5, hr5⟩ := ha_rf_some wr5
    refine ha_getr hx hb hown hK hP q15 hN h0 wr5 dX8_closeRule_23 ?_
    refine lv_aload_n hx hb dX8_closeRule_26 rfl (lv_at hl 0 rfl) ?_
    refine ha_geti hx hb hown hK hP q36 hN h0 dX8_closeRule_27 ?_
    refine lv_aload_n hx hb dX8_closeRule_30 rfl (lv_at hl 0 rfl) ?_
    refine ha_geti hx hb hown hK hP q43 hN h0 dX8_closeRule_31 ?_
    obtain ⟨g6, hf⟩ := ha_gds hf
    refine ha_iast hx hb hK hP hD hS hN hr5 g6 dX8_closeRule_34 (fun S7 H locs eS7 hP hD hS => ?_)
    have hf := ha_nms hf eS7
    refine lv_aload_n hx hb dX8_closeRule_35 rfl (lv_at hl 0 rfl) ?_
    refine lv_dup hx hb dX8_closeRule_36 rfl ?_
    refine ha_geti hx hb hown hK hP q36 hN h0 dX8_closeRule_37 ?_
    refine lv_iconst (v := 1) hx hb dX8_closeRule_40 (by decide) ?_
    refine lv_iadd hx hb dX8_closeRule_41 ?_
    refine ha_puti hx hb hown hK hP hD hS r36 hN h0 dX8_closeRule_42 (fun S8 H locs eS8 hP hD hS => ?_)
    have hf := ha_nms hf eS8
    exact J45  S8 H locs ls hf  hP hD hS (lv_sub hl [0] rfl)

set_option maxHeartbeats 4000000 in
set_option maxRecDepth 100000 in
theorem c_X1_takeMessage {l : Launch} {D : va_G} {cs : Nat → ClassId} {ad adK adV : Nat → Nat} {N : List Nat} {Z : State → Prop} (hZ : ha_Zok (ha_A ad N) Z) (hN : ∀ x, xo_kd x < 999 → x ∈ N) (hX : ∀ U, Z U → xo_Z adK adV (ha_A ad N) U) {p0 : Nat} {p1 : Nat} {S : ha_St} {out : Int32 × ha_St} (h0 : xo_kd p0 = 1) (h1 : xo_kd p1 = 10) (hf : f_X1_takeMessage p0 p1 S = some out) : ha_Ci l D cs ad xo_kd xo_ln N Z yX1_takeMessage wsX1_takeMessage ({ frames := 1, cells := 0, slots := 0, locals := 26 } : Room) [.ref (ad p0), .ref (ad p1)] S out.1 out.2 := by
  refine Met.ofW (cc := cX1_takeMessage) (maxL := 3) (ret := (some .boolean)) (by decide +kernel) rfl ?_
  intro p e s m args below meth c s₁ B hml hv
  obtain ⟨rfl, hP, hD, hK, hz⟩ := hv
  have hx := B.exec
  have hb := B.bytes
  have hr := B.returns
  have hts := atoms_spec (ws := wsX1_takeMessage) B.pre
  have hown : s.vm.findClass RX1 = some m.cls := findClass_of_methodNamed B.named
  have hlocks := B.notSynchronized
  have hS : va_S (ha_A ad N) s.heap s.heap [] := va_S.rf
  have hi1 : ∀ w ∈ wsX10, w ∈ wsX1_takeMessage := fun w h => List.mem_cons_of_mem _ (List.mem_append_right _ h)
  have hi10 : ∀ w ∈ wsX100, w ∈ wsX1_takeMessage := fun w h => List.mem_cons_of_mem _ (List.mem_append_left _ (List.mem_append_right _ h))
  have q40 : ha_Fk s ([.ref (ad p0), .ref (ad p1)] : List Value).toArray RX1 40 10 0 1 := ⟨RX10, TX10, 2, wsX1_takeMessage, rfl, by decide, by decide, rfl, rfl, hts, hi10, hts (.fieldLink RX1 40 "HillArms$Tape" "bytes" "[I") (by decide +kernel)⟩
  have q17 : ha_Fk s ([.ref (ad p0), .ref (ad p1)] : List Value).toArray RX1 17 1 1 1 := ⟨RX1, TX1, 8, wsX1_takeMessage, rfl, by decide, by decide, rfl, rfl, hts, hi1, hts (.fieldLink RX1 17 "HillArms$Crew" "message" "[I") (by decide +kernel)⟩
  have q35 : ha_Fk s ([.ref (ad p0), .ref (ad p1)] : List Value).toArray RX1 35 10 1 0 := ⟨RX10, TX10, 2, wsX1_takeMessage, rfl, by decide, by decide, rfl, rfl, hts, hi10, hts (.fieldLink RX1 35 "HillArms$Tape" "size" "I") (by decide +kernel)⟩
  have r49 : ha_Fp s ([.ref (ad p0), .ref (ad p1)] : List Value).toArray RX1 49 1 6 0 .int := ⟨RX1, TX1, 8, wsX1_takeMessage, tyX1, rfl, by decide, by decide, rfl, rfl, hts, hi1, hts (.fieldLink RX1 49 "HillArms$Crew" "messageSigns" "I") (by decide +kernel), tyX1_ok, nmX1, rfl, by decide +kernel⟩
  have cw0 := hts (.methodLink RX1 43 arraycopyName) (by decide +kernel)
  have cw1 := hts (.native arraycopyName) (by decide +kernel)
  have cw2 := hts (.static arraycopyName) (by decide +kernel)
  have cw3 := hts (.initialized "java/lang/System") (by decide +kernel)
  have hl := lv_entry ([.ref (ad p0), .ref (ad p1)]) (n := 3) (Nat.le_of_ble_eq_true rfl)
  rw [lg_entry_eq]
  generalize (lg_sl ([.ref (ad p0), .ref (ad p1)]) ++ List.replicate (3 - (lg_sl ([.ref (ad p0), .ref (ad p1)])).length) Slot.unset).toArray = ls at hl ⊢
  have hl : lv_has ls 3 [(0, .ref (ad p0)), (1, .ref (ad p1))] := hl
  refine (fun (K0 : ∀ (H : Heap) (locs : List Loc), va_P D vwCl (ha_wl cs ad xo_kd xo_ln N S) H → va_S (ha_A ad N) s.heap H locs → W p l e (headSpec wsX1_takeMessage ({ frames := 1, cells := 0, slots := 0, locals := 26 } : Room)).room s m ([.ref (ad p0), .ref (ad p1)] : List Value).toArray below meth c H locs 0 0 (MQ below (va_Qi (fun (r : Int32) (_ : Unit) => r = out.1) (fun _ => ha_H D cs ad xo_kd xo_ln N out.2) (ha_A ad N)) ([.ref (ad p0), .ref (ad p1)] : List Value).toArray s 0 0 (ha_A ad N)) (F0 m 0 ls [])) => K0 _ _ hP hS) ?_
  intro H locs hP hS
  have hf := ha_rt hf
  have J50 : ∀  (S : ha_St) (H : Heap) (locs : List Loc) (ls : Array Slot), (f_X1_takeMessage_J50 p0 p1  S).bind some = some out → va_P D vwCl (ha_wl cs ad xo_kd xo_ln N S) H → va_D (ha_A ad N) (ha_wl cs ad xo_kd xo_ln N S) → va_S (ha_A ad N) s.heap H locs → lv_has ls 3 [(0, .ref (ad p0)), (1, .ref (ad p1))] → W p l e (headSpec wsX1_takeMessage ({ frames := 1, cells := 0, slots := 0, locals := 26 } : Room)).room s m ([.ref (ad p0), .ref (ad p1)] : List Value).toArray below meth c H locs 0 0 (MQ below (va_Qi (fun (r : Int32) (_ : Unit) => r = out.1) (fun _ => ha_H D cs ad xo_kd xo_ln N out.2) (ha_A ad N)) ([.ref (ad p0), .ref (ad p1)] : List Value).toArray s 0 0 (ha_A ad N)) (F0 m 50 ls []) := by
    intro  S H locs ls hf  hP hD hS hl
    unfold f_X1_takeMessage_J50 at hf
    refine lv_aload_n hx hb dX1_takeMessage_50 rfl (lv_at hl 1 rfl) ?_
    obtain ⟨r1, wr1, hf⟩ := ha_bds hf
    obtain ⟨wr1, hr1⟩ := ha_rf_some wr1
    refine ha_getr hx hb hown hK hP q40 hN h1 wr1 dX1_takeMessage_51 ?_
    refine lv_iconst (v := 0) hx hb dX1_takeMessage_54 (by decide) ?_
    refine lv_aload_n hx hb dX1_takeMessage_55 rfl (lv_at hl 0 rfl) ?_
    obtain ⟨r2, wr2, hf⟩ := ha_bds hf
    obtain ⟨wr2, hr2⟩ := ha_rf_some wr2
    refine ha_getr hx hb hown hK hP q17 hN h0 wr2 dX1_takeMessage_56 ?_
    refine lv_iconst (v := 0) hx hb dX1_takeMessage_59 (by decide) ?_
    refine lv_aload_n hx hb dX1_takeMessage_60 rfl (lv_at hl 1 rfl) ?_
    refine ha_geti hx hb hown hK hP q35 hN h1 dX1_takeMessage_61 ?_
    obtain ⟨g3, hf⟩ := ha_gds hf
    refine ha_copy hx hb (hml.trans hl.1.symm) hown cw0 cw1 cw2 cw3 hK hP hD hS hN hr1 hr2 g3 (by decide) (Nat.le_of_ble_eq_true rfl) dX1_takeMessage_64 (fun S4 H locs eS4 hP hD hS => ?_)
    have hf := ha_nms hf eS4
    refine lv_aload_n hx hb dX1_takeMessage_67 rfl (lv_at hl 0 rfl) ?_
    refine lv_aload_n hx hb dX1_takeMessage_68 rfl (lv_at hl 1 rfl) ?_
    refine ha_geti hx hb hown hK hP q35 hN h1 dX1_takeMessage_69 ?_
    refine ha_puti hx hb hown hK hP hD hS r49 hN h0 dX1_takeMessage_72 (fun S5 H locs eS5 hP hD hS => ?_)
    have hf := ha_nms hf eS5
    refine lv_iconst (v := 1) hx hb dX1_takeMessage_75 (by decide) ?_
    have he := Option.some.inj hf
    exact ha_retz hx hb hr hlocks hP hD hS dX1_takeMessage_76 (by decide) (ha_e1 he) (ha_e2 he)
  unfold f_X1_takeMessage at hf
  refine lv_aload_n hx hb dX1_takeMessage_0 rfl (lv_at hl 1 rfl) ?_
  refine ha_geti hx hb hown hK hP q35 hN h1 dX1_takeMessage_1 ?_
  refine lv_bipush (v := 60) hx hb dX1_takeMessage_4 (by decide) ?_
  refine lv_icmp_le (tgt := 11) hx hb dX1_takeMessage_6 (by decide) (fun c6 => ?_) (fun c6 => ?_)
  · have hf := ha_it hf c6
    refine lv_iconst (v := 0) hx hb dX1_takeMessage_11 (by decide) ?_
    refine lv_istore_n (lv' := [(2, .int 0), (0, .ref (ad p0)), (1, .ref (ad p1))]) hx hb dX1_takeMessage_12 rfl hl (by decide) rfl (fun ls hl => ?_)
    have key15 : ∀ (K : ((ha_St) ⊕ (Int32 × ha_St)) → Option (Int32 × ha_St)), (∀  (S : ha_St) (H : Heap) (locs : List Loc) (ls : Array Slot), K (.inl S) = some out → va_P D vwCl (ha_wl cs ad xo_kd xo_ln N S) H → va_D (ha_A ad N) (ha_wl cs ad xo_kd xo_ln N S) → va_S (ha_A ad N) s.heap H locs → lv_has ls 3 [(0, .ref (ad p0)), (1, .ref (ad p1))] → W p l e (headSpec wsX1_takeMessage ({ frames := 1, cells := 0, slots := 0, locals := 26 } : Room)).room s m ([.ref (ad p0), .ref (ad p1)] : List Value).toArray below meth c H locs 0 0 (MQ below (va_Qi (fun (r : Int32) (_ : Unit) => r = out.1) (fun _ => ha_H D cs ad xo_kd xo_ln N out.2) (ha_A ad N)) ([.ref (ad p0), .ref (ad p1)] : List Value).toArray s 0 0 (ha_A ad N)) (F0 m 50 ls [])) → (∀ r, K (.inr r) = some out → r = out) → ∀ (n : Nat) (v2 : Int32) (S : ha_St) (H : Heap) (locs : List Loc) (ls : Array Slot), (f_X1_takeMessage_L13i p0 p1 n (v2, S)).bind K = some out → va_P D vwCl (ha_wl cs ad xo_kd xo_ln N S) H → va_D (ha_A ad N) (ha_wl cs ad xo_kd xo_ln N S) → va_S (ha_A ad N) s.heap H locs → lv_has ls 3 [(0, .ref (ad p0)), (1, .ref (ad p1)), (2, .int v2)] → W p l e (headSpec wsX1_takeMessage ({ frames := 1, cells := 0, slots := 0, locals := 26 } : Room)).room s m ([.ref (ad p0), .ref (ad p1)] : List Value).toArray below meth c H locs 0 0 (MQ below (va_Qi (fun (r : Int32) (_ : Unit) => r = out.1) (fun _ => ha_H D cs ad xo_kd xo_ln N out.2) (ha_A ad N)) ([.ref (ad p0), .ref (ad p1)] : List Value).toArray s 0 0 (ha_A ad N)) (F0 m 13 ls []) := by
      intro K hk hke n
      induction n with
      | zero =>
        intro v2 S H locs ls hf
        exact absurd (show (none : Option (Int32 × ha_St)) = some out from hf) (fun h => by cases h)
      | succ n ih =>
        intro v2 S H locs ls hf  hP hD hS hl
        have J42 : ∀  (S : ha_St) (H : Heap) (locs : List Loc) (ls : Array Slot), (f_X1_takeMessage_L13_J42 p0 p1 (f_X1_takeMessage_L13i p0 p1 n)  S).bind K = some out → va_P D vwCl (ha_wl cs ad xo_kd xo_ln N S) H → va_D (ha_A ad N) (ha_wl cs ad xo_kd xo_ln N S) → va_S (ha_A ad N) s.heap H locs → lv_has ls 3 [(0, .ref (ad p0)), (1, .ref (ad p1))] → W p l e (headSpec wsX1_takeMessage ({ frames := 1, cells := 0, slots := 0, locals := 26 } : Room)).room s m ([.ref (ad p0), .ref (ad p1)] : List Value).toArray below meth c H locs 0 0 (MQ below (va_Qi (fun (r : Int32) (_ : Unit) => r = out.1) (fun _ => ha_H D cs ad xo_kd xo_ln N out.2) (ha_A ad N)) ([.ref (ad p0), .ref (ad p1)] : List Value).toArray s 0 0 (ha_A ad N)) (F0 m 42 ls []) := by
          intro  S H locs ls hf  hP hD hS hl
          unfold f_X1_takeMessage_L13_J42 at hf
          refine lv_iconst (v := 0) hx hb dX1_takeMessage_42 (by decide) ?_
          have he := hke _ hf
          exact ha_retz hx hb hr hlocks hP hD hS dX1_takeMessage_43 (by decide) (ha_e1 he) (ha_e2 he)
        have hf : (f_X1_takeMessage_L13 p0 p1 (f_X1_takeMessage_L13i p0 p1 n) v2 S).bind K = some out := hf
        unfold f_X1_takeMessage_L13 at hf
        refine lv_iload_n hx hb dX1_takeMessage_13 rfl (lv_at hl 2 rfl) ?_
        refine lv_aload_n hx hb dX1_takeMessage_14 rfl (lv_at hl 1 rfl) ?_
        refine ha_geti hx hb hown hK hP q35 hN h1 dX1_takeMessage_15 ?_
        refine lv_icmp_ge (tgt := 50) hx hb dX1_takeMessage_18 (by decide) (fun c7 => ?_) (fun c7 => ?_)
        · have hf := ha_it hf c7
          exact hk  S H locs ls hf  hP hD hS (lv_sub hl [0, 1] rfl)
        · have hf := ha_if hf c7
          refine lv_aload_n hx hb dX1_takeMessage_21 rfl (lv_at hl 1 rfl) ?_
          obtain ⟨r8, wr8, hf⟩ := ha_bds hf
          obtain ⟨wr8, hr8⟩ := ha_rf_some wr8
          refine ha_getr hx hb hown hK hP q40 hN h1 wr8 dX1_takeMessage_22 ?_
          refine lv_iload_n hx hb dX1_takeMessage_25 rfl (lv_at hl 2 rfl) ?_
          obtain ⟨g9, hf⟩ := ha_gds hf
          refine ha_iald hx hb hK hP hN hr8 g9 dX1_takeMessage_26 ?_
          refine lv_iconst (v := 1) hx hb dX1_takeMessage_27 (by decide) ?_
          refine lv_icmp_lt (tgt := 42) hx hb dX1_takeMessage_28 (by decide) (fun c10 => ?_) (fun c10 => ?_)
          · have hf := ha_it hf c10
            exact J42  S H locs ls hf  hP hD hS (lv_sub hl [0, 1] rfl)
          · have hf := ha_if hf c10
            refine lv_aload_n hx hb dX1_takeMessage_31 rfl (lv_at hl 1 rfl) ?_
            obtain ⟨r11, wr11, hf⟩ := ha_bds hf
            obtain ⟨wr11, hr11⟩ := ha_rf_some wr11
            refine ha_getr hx hb hown hK hP q40 hN h1 wr11 dX1_takeMessage_32 ?_
            refine lv_iload_n hx hb dX1_takeMessage_35 rfl (lv_at hl 2 rfl) ?_
            obtain ⟨g12, hf⟩ := ha_gds hf
            refine ha_iald hx hb hK hP hN hr11 g12 dX1_takeMessage_36 ?_
            refine lv_bipush (v := 64) hx hb dX1_takeMessage_37 (by decide) ?_
            refine lv_icmp_lt (tgt := 44) hx hb dX1_takeMessage_39 (by decide) (fun c13 => ?_) (fun c13 => ?_)
            · have hf := ha_it hf c13
              obtain ⟨x14, ex14⟩ : ∃ y : Int32, y = (v2 : Int32) + 1 := ⟨_, rfl⟩
              have hf := ha_nms hf ex14
              refine lv_iinc (v := x14) (lv' := [(2, .int x14), (0, .ref (ad p0)), (1, .ref (ad p1))]) hx hb dX1_takeMessage_44 hl (k := 2) rfl (by rw [ex14]; rfl) (by decide) rfl (fun ls hl => ?_)
              refine lv_goto (tgt := 13) hx hb dX1_takeMessage_47 (by decide) ?_
              exact ih x14 S H locs ls hf  hP hD hS (lv_sub hl [1, 2, 0] rfl)
            · have hf := ha_if hf c13
              exact J42  S H locs ls hf  hP hD hS (lv_sub hl [0, 1] rfl)
    refine key15 _ (fun  S H locs ls hf  hP hD hS hl => ?_) (fun r h => Option.some.inj h) ha_fu 0 S H locs ls (ha_as hf)  hP hD hS (lv_sub hl [1, 2, 0] rfl)
    have hf : (f_X1_takeMessage_J50 p0 p1  S).bind some = some out := hf
    exact J50  S H locs ls hf  hP hD hS (lv_sub hl [0, 1] rfl)
  · have hf := ha_if hf c6
    refine lv_iconst (v := 0) hx hb dX1_takeMessage_9 (by decide) ?_
    have he := Option.some.inj hf
    exact ha_retz hx hb hr hlocks hP hD hS dX1_takeMessage_10 (by decide) (ha_e1 he) (ha_e2 he)

set_option maxHeartbeats 4000000 in
set_option maxRecDepth 100000 in
theorem c_X1_addFog {l : Launch} {D : va_G} {cs : Nat → ClassId} {ad adK adV : Nat → Nat} {N : List Nat} {Z : State → Prop} (hZ : ha_Zok (ha_A ad N) Z) (hN : ∀ x, xo_kd x < 999 → x ∈ N) (hX : ∀ U, Z U → xo_Z adK adV (ha_A ad N) U) {p0 : Nat} {p1 : Int32} {p2 : Int32} {p3 : Int32} {S : ha_St} {out : Int32 × ha_St} (h0 : xo_kd p0 = 1) (hf : f_X1_addFog p0 p1 p2 p3 S = some out) : ha_Ci l D cs ad xo_kd xo_ln N Z yX1_addFog wsX1_addFog ({ frames := 0, cells := 0, slots := 0, locals := 0 } : Room) [.ref (ad p0), .int p1, .int p2, .int p3] S out.1 out.2 := by
  refine Met.ofW (cc := cX1_addFog) (maxL := 5) (ret := (some .int)) (by decide +kernel) rfl ?_
  intro p e s m args below meth c s₁ B hml hv
  obtain ⟨rfl, hP, hD, hK, hz⟩ := hv
  have hx := B.exec
  have hb := B.bytes
  have hr := B.returns
  have hts := atoms_spec (ws := wsX1_addFog) B.pre
  have hown : s.vm.findClass RX1 = some m.cls := findClass_of_methodNamed B.named
  have hlocks := B.notSynchronized
  have hS : va_S (ha_A ad N) s.heap s.heap [] := va_S.rf
  have hi1 : ∀ w ∈ wsX10, w ∈ wsX1_addFog := fun w h => List.mem_cons_of_mem _ (List.mem_append_right _ h)
  have q52 : ha_Fk s ([.ref (ad p0), .int p1, .int p2, .int p3] : List Value).toArray RX1 52 1 7 0 := ⟨RX1, TX1, 8, wsX1_addFog, rfl, by decide, by decide, rfl, rfl, hts, hi1, hts (.fieldLink RX1 52 "HillArms$Crew" "fogs" "I") (by decide +kernel)⟩
  have q21 : ha_Fk s ([.ref (ad p0), .int p1, .int p2, .int p3] : List Value).toArray RX1 21 1 2 1 := ⟨RX1, TX1, 8, wsX1_addFog, rfl, by decide, by decide, rfl, rfl, hts, hi1, hts (.fieldLink RX1 21 "HillArms$Crew" "fogBits" "[I") (by decide +kernel)⟩
  have r52 : ha_Fp s ([.ref (ad p0), .int p1, .int p2, .int p3] : List Value).toArray RX1 52 1 7 0 .int := ⟨RX1, TX1, 8, wsX1_addFog, tyX1, rfl, by decide, by decide, rfl, rfl, hts, hi1, hts (.fieldLink RX1 52 "HillArms$Crew" "fogs" "I") (by decide +kernel), tyX1_ok, nmX1, rfl, by decide +kernel⟩
  have hl := lv_entry ([.ref (ad p0), .int p1, .int p2, .int p3]) (n := 5) (Nat.le_of_ble_eq_true rfl)
  rw [lg_entry_eq]
  generalize (lg_sl ([.ref (ad p0), .int p1, .int p2, .int p3]) ++ List.replicate (5 - (lg_sl ([.ref (ad p0), .int p1, .int p2, .int p3])).length) Slot.unset).toArray = ls at hl ⊢
  have hl : lv_has ls 5 [(0, .ref (ad p0)), (1, .int p1), (2, .int p2), (3, .int p3)] := hl
  refine (fun (K0 : ∀ (H : Heap) (locs : List Loc), va_P D vwCl (ha_wl cs ad xo_kd xo_ln N S) H → va_S (ha_A ad N) s.heap H locs → W p l e (headSpec wsX1_addFog ({ frames := 0, cells := 0, slots := 0, locals := 0 } : Room)).room s m ([.ref (ad p0), .int p1, .int p2, .int p3] : List Value).toArray below meth c H locs 0 0 (MQ below (va_Qi (fun (r : Int32) (_ : Unit) => r = out.1) (fun _ => ha_H D cs ad xo_kd xo_ln N out.2) (ha_A ad N)) ([.ref (ad p0), .int p1, .int p2, .int p3] : List Value).toArray s 0 0 (ha_A ad N)) (F0 m 0 ls [])) => K0 _ _ hP hS) ?_
  intro H locs hP hS
  have hf := ha_rt hf
  have J36 : ∀  (S : ha_St) (H : Heap) (locs : List Loc) (ls : Array Slot), (f_X1_addFog_J36 p0 p1 p2 p3  S).bind some = some out → va_P D vwCl (ha_wl cs ad xo_kd xo_ln N S) H → va_D (ha_A ad N) (ha_wl cs ad xo_kd xo_ln N S) → va_S (ha_A ad N) s.heap H locs → lv_has ls 5 [(0, .ref (ad p0)), (1, .int p1), (2, .int p2), (3, .int p3)] → W p l e (headSpec wsX1_addFog ({ frames := 0, cells := 0, slots := 0, locals := 0 } : Room)).room s m ([.ref (ad p0), .int p1, .int p2, .int p3] : List Value).toArray below meth c H locs 0 0 (MQ below (va_Qi (fun (r : Int32) (_ : Unit) => r = out.1) (fun _ => ha_H D cs ad xo_kd xo_ln N out.2) (ha_A ad N)) ([.ref (ad p0), .int p1, .int p2, .int p3] : List Value).toArray s 0 0 (ha_A ad N)) (F0 m 36 ls []) := by
    intro  S H locs ls hf  hP hD hS hl
    unfold f_X1_addFog_J36 at hf
    refine lv_aload_n hx hb dX1_addFog_36 rfl (lv_at hl 0 rfl) ?_
    refine lv_dup hx hb dX1_addFog_37 rfl ?_
    refine ha_geti hx hb hown hK hP q52 hN h0 dX1_addFog_38 ?_
    refine lv_iconst (v := 1) hx hb dX1_addFog_41 (by decide) ?_
    refine lv_iadd hx hb dX1_addFog_42 ?_
    refine ha_puti hx hb hown hK hP hD hS r52 hN h0 dX1_addFog_43 (fun S1 H locs eS1 hP hD hS => ?_)
    have hf := ha_nms hf eS1
    refine lv_aload_n hx hb dX1_addFog_46 rfl (lv_at hl 0 rfl) ?_
    refine ha_geti hx hb hown hK hP q52 hN h0 dX1_addFog_47 ?_
    refine lv_iconst (v := 1) hx hb dX1_addFog_50 (by decide) ?_
    refine lv_isub hx hb dX1_addFog_51 ?_
    have he := Option.some.inj hf
    exact ha_reti hx hb hr hlocks hP hD hS dX1_addFog_52 (ha_e1 he) (ha_e2 he)
  unfold f_X1_addFog at hf
  refine lv_iload_n hx hb dX1_addFog_0 rfl (lv_at hl 2 rfl) ?_
  refine lv_istore (lv' := [(4, .int p2), (0, .ref (ad p0)), (1, .int p1), (2, .int p2), (3, .int p3)]) hx hb dX1_addFog_1 hl (by decide) rfl (fun ls hl => ?_)
  have key9 : ∀ (K : (ha_St) → Option (Int32 × ha_St)), (∀  (S : ha_St) (H : Heap) (locs : List Loc) (ls : Array Slot), K S = some out → va_P D vwCl (ha_wl cs ad xo_kd xo_ln N S) H → va_D (ha_A ad N) (ha_wl cs ad xo_kd xo_ln N S) → va_S (ha_A ad N) s.heap H locs → lv_has ls 5 [(0, .ref (ad p0)), (1, .int p1), (2, .int p2), (3, .int p3)] → W p l e (headSpec wsX1_addFog ({ frames := 0, cells := 0, slots := 0, locals := 0 } : Room)).room s m ([.ref (ad p0), .int p1, .int p2, .int p3] : List Value).toArray below meth c H locs 0 0 (MQ below (va_Qi (fun (r : Int32) (_ : Unit) => r = out.1) (fun _ => ha_H D cs ad xo_kd xo_ln N out.2) (ha_A ad N)) ([.ref (ad p0), .int p1, .int p2, .int p3] : List Value).toArray s 0 0 (ha_A ad N)) (F0 m 36 ls [])) → ∀ (n : Nat) (v4 : Int32) (S : ha_St) (H : Heap) (locs : List Loc) (ls : Array Slot), (f_X1_addFog_L3i p0 p1 p2 p3 n (v4, S)).bind K = some out → va_P D vwCl (ha_wl cs ad xo_kd xo_ln N S) H → va_D (ha_A ad N) (ha_wl cs ad xo_kd xo_ln N S) → va_S (ha_A ad N) s.heap H locs → lv_has ls 5 [(0, .ref (ad p0)), (1, .int p1), (2, .int p2), (3, .int p3), (4, .int v4)] → W p l e (headSpec wsX1_addFog ({ frames := 0, cells := 0, slots := 0, locals := 0 } : Room)).room s m ([.ref (ad p0), .int p1, .int p2, .int p3] : List Value).toArray below meth c H locs 0 0 (MQ below (va_Qi (fun (r : Int32) (_ : Unit) => r = out.1) (fun _ => ha_H D cs ad xo_kd xo_ln N out.2) (ha_A ad N)) ([.ref (ad p0), .int p1, .int p2, .int p3] : List Value).toArray s 0 0 (ha_A ad N)) (F0 m 3 ls []) := by
    intro K hk n
    induction n with
    | zero =>
      intro v4 S H locs ls hf
      exact absurd (show (none : Option (Int32 × ha_St)) = some out from hf) (fun h => by cases h)
    | succ n ih =>
      intro v4 S H locs ls hf  hP hD hS hl
      have hf : (f_X1_addFog_L3 p0 p1 p2 p3 (f_X1_addFog_L3i p0 p1 p2 p3 n) v4 S).bind K = some out := hf
      unfold f_X1_addFog_L3 at hf
      refine lv_iload hx hb dX1_addFog_3 (lv_at hl 4 rfl) ?_
      refine lv_iload_n hx hb dX1_addFog_5 rfl (lv_at hl 3 rfl) ?_
      refine lv_icmp_gt (tgt := 36) hx hb dX1_addFog_6 (by decide) (fun c2 => ?_) (fun c2 => ?_)
      · have hf := ha_it hf c2
        exact hk  S H locs ls hf  hP hD hS (lv_sub hl [0, 1, 2, 3] rfl)
      · have hf := ha_if hf c2
        refine lv_iload hx hb dX1_addFog_9 (lv_at hl 4 rfl) ?_
        refine lv_sipush (v := 500) hx hb dX1_addFog_11 (by decide) ?_
        refine lv_icmp_gt (tgt := 36) hx hb dX1_addFog_14 (by decide) (fun c3 => ?_) (fun c3 => ?_)
        · have hf := ha_it hf c3
          exact hk  S H locs ls hf  hP hD hS (lv_sub hl [0, 1, 2, 3] rfl)
        · have hf := ha_if hf c3
          refine lv_aload_n hx hb dX1_addFog_17 rfl (lv_at hl 0 rfl) ?_
          obtain ⟨r4, wr4, hf⟩ := ha_bds hf
          obtain ⟨wr4, hr4⟩ := ha_rf_some wr4
          refine ha_getr hx hb hown hK hP q21 hN h0 wr4 dX1_addFog_18 ?_
          refine lv_iload hx hb dX1_addFog_21 (lv_at hl 4 rfl) ?_
          refine lv_dup2_11 hx hb dX1_addFog_23 rfl rfl ?_
          obtain ⟨g5, hf⟩ := ha_gds hf
          refine ha_iald hx hb hK hP hN hr4 g5 dX1_addFog_24 ?_
          refine lv_iconst (v := 1) hx hb dX1_addFog_25 (by decide) ?_
          refine lv_iload_n hx hb dX1_addFog_26 rfl (lv_at hl 1 rfl) ?_
          refine lv_ishl hx hb dX1_addFog_27 ?_
          refine lv_ior hx hb dX1_addFog_28 ?_
          obtain ⟨g6, hf⟩ := ha_gds hf
          refine ha_iast hx hb hK hP hD hS hN hr4 g6 dX1_addFog_29 (fun S7 H locs eS7 hP hD hS => ?_)
          have hf := ha_nms hf eS7
          obtain ⟨x8, ex8⟩ : ∃ y : Int32, y = (v4 : Int32) + 1 := ⟨_, rfl⟩
          have hf := ha_nms hf ex8
          refine lv_iinc (v := x8) (lv' := [(4, .int x8), (0, .ref (ad p0)), (1, .int p1), (2, .int p2), (3, .int p3)]) hx hb dX1_addFog_30 hl (k := 4) rfl (by rw [ex8]; rfl) (by decide) rfl (fun ls hl => ?_)
          refine lv_goto (tgt := 3) hx hb dX1_addFog_33 (by decide) ?_
          exact ih x8 S7 H locs ls hf  hP hD hS (lv_sub hl [1, 2, 3, 4, 0] rfl)
  refine key9 _ (fun  S H locs ls hf  hP hD hS hl => ?_) ha_fu p2 S H locs ls (ha_as hf)  hP hD hS (lv_sub hl [1, 2, 3, 4, 0] rfl)
  have hf : (f_X1_addFog_J36 p0 p1 p2 p3  S).bind some = some out := hf
  exact J36  S H locs ls hf  hP hD hS (lv_sub hl [0, 1, 2, 3] rfl)

set_option maxHeartbeats 4000000 in
set_option maxRecDepth 100000 in
theorem c_X5_begin {l : Launch} {D : va_G} {cs : Nat → ClassId} {ad adK adV : Nat → Nat} {N : List Nat} {Z : State → Prop} (hZ : ha_Zok (ha_A ad N) Z) (hN : ∀ x, xo_kd x < 999 → x ∈ N) (hX : ∀ U, Z U → xo_Z adK adV (ha_A ad N) U) {p0 : Nat} {p1 : Int32} {S : ha_St} {out : ha_St} (h0 : xo_kd p0 = 5) (hf : f_X5_begin p0 p1 S = some out) : ha_Cv l D cs ad xo_kd xo_ln N Z yX5_begin wsX5_begin ({ frames := 1, cells := 0, slots := 0, locals := 23 } : Room) [.ref (ad p0), .int p1] S out := by
  refine Met.ofW (cc := cX5_begin) (maxL := 2) (ret := none) (by decide +kernel) rfl ?_
  intro p e s m args below meth c s₁ B hml hv
  obtain ⟨rfl, hP, hD, hK, hz⟩ := hv
  have hx := B.exec
  have hb := B.bytes
  have hr := B.returns
  have hts := atoms_spec (ws := wsX5_begin) B.pre
  have hown : s.vm.findClass RX5 = some m.cls := findClass_of_methodNamed B.named
  have hlocks := B.notSynchronized
  have hS : va_S (ha_A ad N) s.heap s.heap [] := va_S.rf
  have hi5 : ∀ w ∈ wsX50, w ∈ wsX5_begin := fun w h => List.mem_cons_of_mem _ (List.mem_append_right _ h)
  have q9 : ha_Fk s ([.ref (ad p0), .int p1] : List Value).toArray RX5 9 5 0 1 := ⟨RX5, TX5, 8, wsX5_begin, rfl, by decide, by decide, rfl, rfl, hts, hi5, hts (.fieldLink RX5 9 "HillArms$Line" "sign" "[I") (by decide +kernel)⟩
  have q15 : ha_Fk s ([.ref (ad p0), .int p1] : List Value).toArray RX5 15 5 1 1 := ⟨RX5, TX5, 8, wsX5_begin, rfl, by decide, by decide, rfl, rfl, hts, hi5, hts (.fieldLink RX5 15 "HillArms$Line" "time" "[I") (by decide +kernel)⟩
  have q18 : ha_Fk s ([.ref (ad p0), .int p1] : List Value).toArray RX5 18 5 2 1 := ⟨RX5, TX5, 8, wsX5_begin, rfl, by decide, by decide, rfl, rfl, hts, hi5, hts (.fieldLink RX5 18 "HillArms$Line" "cell" "[I") (by decide +kernel)⟩
  have r34 : ha_Fp s ([.ref (ad p0), .int p1] : List Value).toArray RX5 34 5 4 0 .int := ⟨RX5, TX5, 8, wsX5_begin, tyX5, rfl, by decide, by decide, rfl, rfl, hts, hi5, hts (.fieldLink RX5 34 "HillArms$Line" "towers" "I") (by decide +kernel), tyX5_ok, nmX5, rfl, by decide +kernel⟩
  have r43 : ha_Fp s ([.ref (ad p0), .int p1] : List Value).toArray RX5 43 5 5 0 .int := ⟨RX5, TX5, 8, wsX5_begin, tyX5, rfl, by decide, by decide, rfl, rfl, hts, hi5, hts (.fieldLink RX5 43 "HillArms$Line" "wrote" "I") (by decide +kernel), tyX5_ok, nmX5, rfl, by decide +kernel⟩
  have r46 : ha_Fp s ([.ref (ad p0), .int p1] : List Value).toArray RX5 46 5 6 0 .int := ⟨RX5, TX5, 8, wsX5_begin, tyX5, rfl, by decide, by decide, rfl, rfl, hts, hi5, hts (.fieldLink RX5 46 "HillArms$Line" "sent" "I") (by decide +kernel), tyX5_ok, nmX5, rfl, by decide +kernel⟩
  have r24 : ha_Fp s ([.ref (ad p0), .int p1] : List Value).toArray RX5 24 5 7 0 .int := ⟨RX5, TX5, 8, wsX5_begin, tyX5, rfl, by decide, by decide, rfl, rfl, hts, hi5, hts (.fieldLink RX5 24 "HillArms$Line" "wrongAt" "I") (by decide +kernel), tyX5_ok, nmX5, rfl, by decide +kernel⟩
  have cw0 := hts (.methodLink RX5 28 Lib.Math.min.name) (by decide +kernel)
  have cw1 := hts (.static Lib.Math.min.name) (by decide +kernel)
  have cw2 := hts (.initialized "java/lang/Math") (by decide +kernel)
  have cw3 := hts (.code Lib.Math.min.name Lib.Math.min.code 2 (some .int)) (by decide +kernel)
  have cw4 := va_cwS (R := (headSpec wsX5_begin ({ frames := 1, cells := 0, slots := 0, locals := 23 } : Room)).room) 2 hts gX5_begin_J7_fill_53178 (rm := ({ frames := 0, cells := 0, slots := 0, locals := 0 } : Room)) (mc := 0) (ms := 0) rfl rfl rfl (by decide +kernel) ⟨Nat.le_of_ble_eq_true rfl, Nat.le_of_ble_eq_true rfl⟩
  have hl := lv_entry ([.ref (ad p0), .int p1]) (n := 2) (Nat.le_of_ble_eq_true rfl)
  rw [lg_entry_eq]
  generalize (lg_sl ([.ref (ad p0), .int p1]) ++ List.replicate (2 - (lg_sl ([.ref (ad p0), .int p1])).length) Slot.unset).toArray = ls at hl ⊢
  have hl : lv_has ls 2 [(0, .ref (ad p0)), (1, .int p1)] := hl
  refine (fun (K0 : ∀ (H : Heap) (locs : List Loc), va_P D vwCl (ha_wl cs ad xo_kd xo_ln N S) H → va_S (ha_A ad N) s.heap H locs → W p l e (headSpec wsX5_begin ({ frames := 1, cells := 0, slots := 0, locals := 23 } : Room)).room s m ([.ref (ad p0), .int p1] : List Value).toArray below meth c H locs 0 0 (MQ below (va_Qv (fun (_ : Unit) => True) (fun _ => ha_H D cs ad xo_kd xo_ln N out) (ha_A ad N)) ([.ref (ad p0), .int p1] : List Value).toArray s 0 0 (ha_A ad N)) (F0 m 0 ls [])) => K0 _ _ hP hS) ?_
  intro H locs hP hS
  have hf := ha_rt hf
  unfold f_X5_begin at hf
  refine lv_aload_n hx hb dX5_begin_0 rfl (lv_at hl 0 rfl) ?_
  refine lv_iload_n hx hb dX5_begin_1 rfl (lv_at hl 1 rfl) ?_
  refine lv_aload_n hx hb dX5_begin_2 rfl (lv_at hl 0 rfl) ?_
  obtain ⟨r1, wr1, hf⟩ := ha_bds hf
  obtain ⟨wr1, hr1⟩ := ha_rf_some wr1
  refine ha_getr hx hb hown hK hP q9 hN h0 wr1 dX5_begin_3 ?_
  refine ha_alen hx hb hK hP hN hr1 (by decide) (by decide) dX5_begin_6 ?_
  refine va_mmin hx hb (hml.trans hl.1.symm) hown cw0 cw1 cw2 cw3 (by decide) (Nat.le_of_ble_eq_true rfl) (Nat.zero_le _) (Nat.zero_le _) dX5_begin_7 ?_
  refine ha_puti hx hb hown hK hP hD hS r34 hN h0 dX5_begin_10 (fun S2 H locs eS2 hP hD hS => ?_)
  have hf := ha_nms hf eS2
  refine lv_aload_n hx hb dX5_begin_13 rfl (lv_at hl 0 rfl) ?_
  obtain ⟨r3, wr3, hf⟩ := ha_bds hf
  obtain ⟨wr3, hr3⟩ := ha_rf_some wr3
  refine ha_getr hx hb hown hK hP q9 hN h0 wr3 dX5_begin_14 ?_
  refine lv_iconst (v := 0) hx hb dX5_begin_17 (by decide) ?_
  obtain ⟨z4, wz4, hf⟩ := ha_bds hf
  refine ha_callSv (As := [.ref (ad r3), .int 0]) (rest := []) hZ ⟨hx, hb, hml, hown, hts⟩ hK hz hP hD hS (c_J7_fill_53178 hZ hN hX hr3 wz4) cw4 rfl hl.1 rfl (Nat.le_of_ble_eq_true rfl) dX5_begin_18 ⟨Nat.le_of_ble_eq_true rfl, Nat.le_of_ble_eq_true rfl⟩ (fun H locs hP hD hS => ?_)
  refine lv_aload_n hx hb dX5_begin_21 rfl (lv_at hl 0 rfl) ?_
  obtain ⟨r5, wr5, hf⟩ := ha_bds hf
  obtain ⟨wr5, hr5⟩ := ha_rf_some wr5
  refine ha_getr hx hb hown hK hP q15 hN h0 wr5 dX5_begin_22 ?_
  refine lv_iconst (v := 0) hx hb dX5_begin_25 (by decide) ?_
  obtain ⟨z6, wz6, hf⟩ := ha_bds hf
  refine ha_callSv (As := [.ref (ad r5), .int 0]) (rest := []) hZ ⟨hx, hb, hml, hown, hts⟩ hK hz hP hD hS (c_J7_fill_53178 hZ hN hX hr5 wz6) cw4 rfl hl.1 rfl (Nat.le_of_ble_eq_true rfl) dX5_begin_26 ⟨Nat.le_of_ble_eq_true rfl, Nat.le_of_ble_eq_true rfl⟩ (fun H locs hP hD hS => ?_)
  refine lv_aload_n hx hb dX5_begin_29 rfl (lv_at hl 0 rfl) ?_
  obtain ⟨r7, wr7, hf⟩ := ha_bds hf
  obtain ⟨wr7, hr7⟩ := ha_rf_some wr7
  refine ha_getr hx hb hown hK hP q18 hN h0 wr7 dX5_begin_30 ?_
  refine lv_iconst (v := 0) hx hb dX5_begin_33 (by decide) ?_
  obtain ⟨z8, wz8, hf⟩ := ha_bds hf
  refine ha_callSv (As := [.ref (ad r7), .int 0]) (rest := []) hZ ⟨hx, hb, hml, hown, hts⟩ hK hz hP hD hS (c_J7_fill_53178 hZ hN hX hr7 wz8) cw4 rfl hl.1 rfl (Nat.le_of_ble_eq_true rfl) dX5_begin_34 ⟨Nat.le_of_ble_eq_true rfl, Nat.le_of_ble_eq_true rfl⟩ (fun H locs hP hD hS => ?_)
  refine lv_aload_n hx hb dX5_begin_37 rfl (lv_at hl 0 rfl) ?_
  refine lv_iconst (v := 0) hx hb dX5_begin_38 (by decide) ?_
  refine ha_puti hx hb hown hK hP hD hS r43 hN h0 dX5_begin_39 (fun S9 H locs eS9 hP hD hS => ?_)
  have hf := ha_nms hf eS9
  refine lv_aload_n hx hb dX5_begin_42 rfl (lv_at hl 0 rfl) ?_
  refine lv_iconst (v := 0) hx hb dX5_begin_43 (by decide) ?_
  refine ha_puti hx hb hown hK hP hD hS r46 hN h0 dX5_begin_44 (fun S10 H locs eS10 hP hD hS => ?_)
  have hf := ha_nms hf eS10
  refine lv_aload_n hx hb dX5_begin_47 rfl (lv_at hl 0 rfl) ?_
  refine lv_iconst (v := (-1)) hx hb dX5_begin_48 (by decide) ?_
  refine ha_puti hx hb hown hK hP hD hS r24 hN h0 dX5_begin_49 (fun S11 H locs eS11 hP hD hS => ?_)
  have hf := ha_nms hf eS11
  have he := Option.some.inj hf
  exact ha_retv hx hb hr hlocks hP hD hS dX5_begin_52 he

set_option maxHeartbeats 4000000 in
set_option maxRecDepth 100000 in
theorem c_X1_wordOf {l : Launch} {D : va_G} {cs : Nat → ClassId} {ad adK adV : Nat → Nat} {N : List Nat} {Z : State → Prop} (hZ : ha_Zok (ha_A ad N) Z) (hN : ∀ x, xo_kd x < 999 → x ∈ N) (hX : ∀ U, Z U → xo_Z adK adV (ha_A ad N) U) {p0 : Nat} {p1 : Nat} {S : ha_St} {out : Int32 × ha_St} (h0 : xo_kd p0 = 1) (h1 : xo_kd p1 = 5) (hf : f_X1_wordOf p0 p1 S = some out) : ha_Ci l D cs ad xo_kd xo_ln N Z yX1_wordOf wsX1_wordOf ({ frames := 0, cells := 0, slots := 0, locals := 0 } : Room) [.ref (ad p0), .ref (ad p1)] S out.1 out.2 := by
  refine Met.ofW (cc := cX1_wordOf) (maxL := 2) (ret := (some .int)) (by decide +kernel) rfl ?_
  intro p e s m args below meth c s₁ B hml hv
  obtain ⟨rfl, hP, hD, hK, hz⟩ := hv
  have hx := B.exec
  have hb := B.bytes
  have hr := B.returns
  have hts := atoms_spec (ws := wsX1_wordOf) B.pre
  have hown : s.vm.findClass RX1 = some m.cls := findClass_of_methodNamed B.named
  have hlocks := B.notSynchronized
  have hS : va_S (ha_A ad N) s.heap s.heap [] := va_S.rf
  have hi1 : ∀ w ∈ wsX10, w ∈ wsX1_wordOf := fun w h => List.mem_cons_of_mem _ (List.mem_append_right _ h)
  have hi5 : ∀ w ∈ wsX50, w ∈ wsX1_wordOf := fun w h => List.mem_cons_of_mem _ (List.mem_append_left _ (List.mem_append_right _ h))
  have q63 : ha_Fk s ([.ref (ad p0), .ref (ad p1)] : List Value).toArray RX1 63 5 6 0 := ⟨RX5, TX5, 8, wsX1_wordOf, rfl, by decide, by decide, rfl, rfl, hts, hi5, hts (.fieldLink RX1 63 "HillArms$Line" "sent" "I") (by decide +kernel)⟩
  have q49 : ha_Fk s ([.ref (ad p0), .ref (ad p1)] : List Value).toArray RX1 49 1 6 0 := ⟨RX1, TX1, 8, wsX1_wordOf, rfl, by decide, by decide, rfl, rfl, hts, hi1, hts (.fieldLink RX1 49 "HillArms$Crew" "messageSigns" "I") (by decide +kernel)⟩
  have q17 : ha_Fk s ([.ref (ad p0), .ref (ad p1)] : List Value).toArray RX1 17 1 1 1 := ⟨RX1, TX1, 8, wsX1_wordOf, rfl, by decide, by decide, rfl, rfl, hts, hi1, hts (.fieldLink RX1 17 "HillArms$Crew" "message" "[I") (by decide +kernel)⟩
  have hl := lv_entry ([.ref (ad p0), .ref (ad p1)]) (n := 2) (Nat.le_of_ble_eq_true rfl)
  rw [lg_entry_eq]
  generalize (lg_sl ([.ref (ad p0), .ref (ad p1)]) ++ List.replicate (2 - (lg_sl ([.ref (ad p0), .ref (ad p1)])).length) Slot.unset).toArray = ls at hl ⊢
  have hl : lv_has ls 2 [(0, .ref (ad p0)), (1, .ref (ad p1))] := hl
  refine (fun (K0 : ∀ (H : Heap) (locs : List Loc), va_P D vwCl (ha_wl cs ad xo_kd xo_ln N S) H → va_S (ha_A ad N) s.heap H locs → W p l e (headSpec wsX1_wordOf ({ frames := 0, cells := 0, slots := 0, locals := 0 } : Room)).room s m ([.ref (ad p0), .ref (ad p1)] : List Value).toArray below meth c H locs 0 0 (MQ below (va_Qi (fun (r : Int32) (_ : Unit) => r = out.1) (fun _ => ha_H D cs ad xo_kd xo_ln N out.2) (ha_A ad N)) ([.ref (ad p0), .ref (ad p1)] : List Value).toArray s 0 0 (ha_A ad N)) (F0 m 0 ls [])) => K0 _ _ hP hS) ?_
  intro H locs hP hS
  have hf := ha_rt hf
  have J24 : ∀ (k0 : Int32) (S : ha_St) (H : Heap) (locs : List Loc) (ls : Array Slot), (f_X1_wordOf_J24 p0 p1 k0 S).bind some = some out → va_P D vwCl (ha_wl cs ad xo_kd xo_ln N S) H → va_D (ha_A ad N) (ha_wl cs ad xo_kd xo_ln N S) → va_S (ha_A ad N) s.heap H locs → lv_has ls 2 [(0, .ref (ad p0)), (1, .ref (ad p1))] → W p l e (headSpec wsX1_wordOf ({ frames := 0, cells := 0, slots := 0, locals := 0 } : Room)).room s m ([.ref (ad p0), .ref (ad p1)] : List Value).toArray below meth c H locs 0 0 (MQ below (va_Qi (fun (r : Int32) (_ : Unit) => r = out.1) (fun _ => ha_H D cs ad xo_kd xo_ln N out.2) (ha_A ad N)) ([.ref (ad p0), .ref (ad p1)] : List Value).toArray s 0 0 (ha_A ad N)) (F0 m 24 ls [.int k0]) := by
    intro k0 S H locs ls hf  hP hD hS hl
    unfold f_X1_wordOf_J24 at hf
    have he := Option.some.inj hf
    exact ha_reti hx hb hr hlocks hP hD hS dX1_wordOf_24 (ha_e1 he) (ha_e2 he)
  unfold f_X1_wordOf at hf
  refine lv_aload_n hx hb dX1_wordOf_0 rfl (lv_at hl 1 rfl) ?_
  refine ha_geti hx hb hown hK hP q63 hN h1 dX1_wordOf_1 ?_
  refine lv_aload_n hx hb dX1_wordOf_4 rfl (lv_at hl 0 rfl) ?_
  refine ha_geti hx hb hown hK hP q49 hN h0 dX1_wordOf_5 ?_
  refine lv_icmp_ge (tgt := 23) hx hb dX1_wordOf_8 (by decide) (fun c1 => ?_) (fun c1 => ?_)
  · have hf := ha_it hf c1
    refine lv_iconst (v := (-1)) hx hb dX1_wordOf_23 (by decide) ?_
    exact J24 (-1) S H locs ls hf  hP hD hS (lv_sub hl [0, 1] rfl)
  · have hf := ha_if hf c1
    refine lv_aload_n hx hb dX1_wordOf_11 rfl (lv_at hl 0 rfl) ?_
    obtain ⟨r2, wr2, hf⟩ := ha_bds hf
    obtain ⟨wr2, hr2⟩ := ha_rf_some wr2
    refine ha_getr hx hb hown hK hP q17 hN h0 wr2 dX1_wordOf_12 ?_
    refine lv_aload_n hx hb dX1_wordOf_15 rfl (lv_at hl 1 rfl) ?_
    refine ha_geti hx hb hown hK hP q63 hN h1 dX1_wordOf_16 ?_
    obtain ⟨g3, hf⟩ := ha_gds hf
    refine ha_iald hx hb hK hP hN hr2 g3 dX1_wordOf_19 ?_
    refine lv_goto (tgt := 24) hx hb dX1_wordOf_20 (by decide) ?_
    exact J24 ((ha_gA S r2 ((ha_gI S p1 6) : Int32).toNatClampNeg)) S H locs ls hf  hP hD hS (lv_sub hl [0, 1] rfl)

set_option maxHeartbeats 4000000 in
set_option maxRecDepth 100000 in
theorem c_X1_see {l : Launch} {D : va_G} {cs : Nat → ClassId} {ad adK adV : Nat → Nat} {N : List Nat} {Z : State → Prop} (hZ : ha_Zok (ha_A ad N) Z) (hN : ∀ x, xo_kd x < 999 → x ∈ N) (hX : ∀ U, Z U → xo_Z adK adV (ha_A ad N) U) {p0 : Nat} {p1 : Nat} {p2 : Int32} {p3 : Int32} {S : ha_St} {out : ha_St} (h0 : xo_kd p0 = 1) (h1 : xo_kd p1 = 5) (hf : f_X1_see p0 p1 p2 p3 S = some out) : ha_Cv l D cs ad xo_kd xo_ln N Z yX1_see wsX1_see ({ frames := 1, cells := 0, slots := 0, locals := 26 } : Room) [.ref (ad p0), .ref (ad p1), .int p2, .int p3] S out := by
  refine Met.ofW (cc := cX1_see) (maxL := 6) (ret := none) (by decide +kernel) rfl ?_
  intro p e s m args below meth c s₁ B hml hv
  obtain ⟨rfl, hP, hD, hK, hz⟩ := hv
  have hx := B.exec
  have hb := B.bytes
  have hr := B.returns
  have hts := atoms_spec (ws := wsX1_see) B.pre
  have hown : s.vm.findClass RX1 = some m.cls := findClass_of_methodNamed B.named
  have hlocks := B.notSynchronized
  have hS : va_S (ha_A ad N) s.heap s.heap [] := va_S.rf
  have hi1 : ∀ w ∈ wsX10, w ∈ wsX1_see := fun w h => List.mem_cons_of_mem _ (List.mem_append_right _ h)
  have hi5 : ∀ w ∈ wsX50, w ∈ wsX1_see := fun w h => List.mem_cons_of_mem _ (List.mem_append_left _ (List.mem_append_right _ h))
  have q103 : ha_Fk s ([.ref (ad p0), .ref (ad p1), .int p2, .int p3] : List Value).toArray RX1 103 5 2 1 := ⟨RX5, TX5, 8, wsX1_see, rfl, by decide, by decide, rfl, rfl, hts, hi5, hts (.fieldLink RX1 103 "HillArms$Line" "cell" "[I") (by decide +kernel)⟩
  have q27 : ha_Fk s ([.ref (ad p0), .ref (ad p1), .int p2, .int p3] : List Value).toArray RX1 27 1 4 1 := ⟨RX1, TX1, 8, wsX1_see, rfl, by decide, by decide, rfl, rfl, hts, hi1, hts (.fieldLink RX1 27 "HillArms$Crew" "worth" "[I") (by decide +kernel)⟩
  have q24 : ha_Fk s ([.ref (ad p0), .ref (ad p1), .int p2, .int p3] : List Value).toArray RX1 24 1 3 1 := ⟨RX1, TX1, 8, wsX1_see, rfl, by decide, by decide, rfl, rfl, hts, hi1, hts (.fieldLink RX1 24 "HillArms$Crew" "ahead" "[I") (by decide +kernel)⟩
  have q90 : ha_Fk s ([.ref (ad p0), .ref (ad p1), .int p2, .int p3] : List Value).toArray RX1 90 5 1 1 := ⟨RX5, TX5, 8, wsX1_see, rfl, by decide, by decide, rfl, rfl, hts, hi5, hts (.fieldLink RX1 90 "HillArms$Line" "time" "[I") (by decide +kernel)⟩
  have q69 : ha_Fk s ([.ref (ad p0), .ref (ad p1), .int p2, .int p3] : List Value).toArray RX1 69 5 4 0 := ⟨RX5, TX5, 8, wsX1_see, rfl, by decide, by decide, rfl, rfl, hts, hi5, hts (.fieldLink RX1 69 "HillArms$Line" "towers" "I") (by decide +kernel)⟩
  have cw0 := hts (.methodLink RX1 43 arraycopyName) (by decide +kernel)
  have cw1 := hts (.native arraycopyName) (by decide +kernel)
  have cw2 := hts (.static arraycopyName) (by decide +kernel)
  have cw3 := hts (.initialized "java/lang/System") (by decide +kernel)
  have cw4 := cwV (R := (headSpec wsX1_see ({ frames := 1, cells := 0, slots := 0, locals := 26 } : Room)).room) 1 hts gX1_see_X1_wordOf (rm := ({ frames := 0, cells := 0, slots := 0, locals := 0 } : Room)) (mc := 0) (ms := 0) rfl rfl rfl (by decide +kernel) ⟨Nat.le_of_ble_eq_true rfl, Nat.le_of_ble_eq_true rfl⟩
  have hl := lv_entry ([.ref (ad p0), .ref (ad p1), .int p2, .int p3]) (n := 6) (Nat.le_of_ble_eq_true rfl)
  rw [lg_entry_eq]
  generalize (lg_sl ([.ref (ad p0), .ref (ad p1), .int p2, .int p3]) ++ List.replicate (6 - (lg_sl ([.ref (ad p0), .ref (ad p1), .int p2, .int p3])).length) Slot.unset).toArray = ls at hl ⊢
  have hl : lv_has ls 6 [(0, .ref (ad p0)), (1, .ref (ad p1)), (2, .int p2), (3, .int p3)] := hl
  refine (fun (K0 : ∀ (H : Heap) (locs : List Loc), va_P D vwCl (ha_wl cs ad xo_kd xo_ln N S) H → va_S (ha_A ad N) s.heap H locs → W p l e (headSpec wsX1_see ({ frames := 1, cells := 0, slots := 0, locals := 26 } : Room)).room s m ([.ref (ad p0), .ref (ad p1), .int p2, .int p3] : List Value).toArray below meth c H locs 0 0 (MQ below (va_Qv (fun (_ : Unit) => True) (fun _ => ha_H D cs ad xo_kd xo_ln N out) (ha_A ad N)) ([.ref (ad p0), .ref (ad p1), .int p2, .int p3] : List Value).toArray s 0 0 (ha_A ad N)) (F0 m 0 ls [])) => K0 _ _ hP hS) ?_
  intro H locs hP hS
  have hf := ha_rt hf
  have J139 : ∀ (k0 : Nat) (k1 : Int32) (k2 : Int32) (S : ha_St) (H : Heap) (locs : List Loc) (ls : Array Slot), (f_X1_see_J139 p0 p1 p2 p3 k0 k1 k2 S).bind some = some out → xo_kd k0 = 100 → va_P D vwCl (ha_wl cs ad xo_kd xo_ln N S) H → va_D (ha_A ad N) (ha_wl cs ad xo_kd xo_ln N S) → va_S (ha_A ad N) s.heap H locs → lv_has ls 6 [(0, .ref (ad p0)), (1, .ref (ad p1)), (2, .int p2), (3, .int p3)] → W p l e (headSpec wsX1_see ({ frames := 1, cells := 0, slots := 0, locals := 26 } : Room)).room s m ([.ref (ad p0), .ref (ad p1), .int p2, .int p3] : List Value).toArray below meth c H locs 0 0 (MQ below (va_Qv (fun (_ : Unit) => True) (fun _ => ha_H D cs ad xo_kd xo_ln N out) (ha_A ad N)) ([.ref (ad p0), .ref (ad p1), .int p2, .int p3] : List Value).toArray s 0 0 (ha_A ad N)) (F0 m 139 ls [.int k2, .int k1, .ref (ad k0)]) := by
    intro k0 k1 k2 S H locs ls hf hk0 hP hD hS hl
    unfold f_X1_see_J139 at hf
    obtain ⟨g1, hf⟩ := ha_gds hf
    refine ha_iast hx hb hK hP hD hS hN hk0 g1 dX1_see_139 (fun S2 H locs eS2 hP hD hS => ?_)
    have hf := ha_nms hf eS2
    refine lv_aload_n hx hb dX1_see_140 rfl (lv_at hl 1 rfl) ?_
    obtain ⟨r3, wr3, hf⟩ := ha_bds hf
    obtain ⟨wr3, hr3⟩ := ha_rf_some wr3
    refine ha_getr hx hb hown hK hP q103 hN h1 wr3 dX1_see_141 ?_
    refine lv_iload_n hx hb dX1_see_144 rfl (lv_at hl 2 rfl) ?_
    refine lv_iconst (v := 4) hx hb dX1_see_145 (by decide) ?_
    refine lv_imul hx hb dX1_see_146 ?_
    refine lv_aload_n hx hb dX1_see_147 rfl (lv_at hl 0 rfl) ?_
    obtain ⟨r4, wr4, hf⟩ := ha_bds hf
    obtain ⟨wr4, hr4⟩ := ha_rf_some wr4
    refine ha_getr hx hb hown hK hP q27 hN h0 wr4 dX1_see_148 ?_
    refine lv_bipush (v := 106) hx hb dX1_see_151 (by decide) ?_
    refine lv_iconst (v := 4) hx hb dX1_see_153 (by decide) ?_
    obtain ⟨g5, hf⟩ := ha_gds hf
    refine ha_copy hx hb (hml.trans hl.1.symm) hown cw0 cw1 cw2 cw3 hK hP hD hS hN hr3 hr4 g5 (by decide) (Nat.le_of_ble_eq_true rfl) dX1_see_154 (fun S6 H locs eS6 hP hD hS => ?_)
    have hf := ha_nms hf eS6
    have he := Option.some.inj hf
    exact ha_retv hx hb hr hlocks hP hD hS dX1_see_157 he
  have J93 : ∀ (k0 : Nat) (k1 : Int32) (k2 : Int32) (S : ha_St) (H : Heap) (locs : List Loc) (ls : Array Slot), (f_X1_see_J93 p0 p1 p2 p3 k0 k1 k2 S).bind some = some out → xo_kd k0 = 100 → va_P D vwCl (ha_wl cs ad xo_kd xo_ln N S) H → va_D (ha_A ad N) (ha_wl cs ad xo_kd xo_ln N S) → va_S (ha_A ad N) s.heap H locs → lv_has ls 6 [(0, .ref (ad p0)), (1, .ref (ad p1)), (2, .int p2), (3, .int p3)] → W p l e (headSpec wsX1_see ({ frames := 1, cells := 0, slots := 0, locals := 26 } : Room)).room s m ([.ref (ad p0), .ref (ad p1), .int p2, .int p3] : List Value).toArray below meth c H locs 0 0 (MQ below (va_Qv (fun (_ : Unit) => True) (fun _ => ha_H D cs ad xo_kd xo_ln N out) (ha_A ad N)) ([.ref (ad p0), .ref (ad p1), .int p2, .int p3] : List Value).toArray s 0 0 (ha_A ad N)) (F0 m 93 ls [.int k2, .int k1, .ref (ad k0)]) := by
    intro k0 k1 k2 S H locs ls hf hk0 hP hD hS hl
    unfold f_X1_see_J93 at hf
    obtain ⟨g7, hf⟩ := ha_gds hf
    refine ha_iast hx hb hK hP hD hS hN hk0 g7 dX1_see_93 (fun S8 H locs eS8 hP hD hS => ?_)
    have hf := ha_nms hf eS8
    refine lv_aload_n hx hb dX1_see_94 rfl (lv_at hl 0 rfl) ?_
    obtain ⟨r9, wr9, hf⟩ := ha_bds hf
    obtain ⟨wr9, hr9⟩ := ha_rf_some wr9
    refine ha_getr hx hb hown hK hP q27 hN h0 wr9 dX1_see_95 ?_
    refine lv_bipush (v := 102) hx hb dX1_see_98 (by decide) ?_
    refine lv_aload_n hx hb dX1_see_100 rfl (lv_at hl 0 rfl) ?_
    obtain ⟨r10, wr10, hf⟩ := ha_bds hf
    obtain ⟨wr10, hr10⟩ := ha_rf_some wr10
    refine ha_getr hx hb hown hK hP q24 hN h0 wr10 dX1_see_101 ?_
    refine lv_iload_n hx hb dX1_see_104 rfl (lv_at hl 2 rfl) ?_
    obtain ⟨g11, hf⟩ := ha_gds hf
    refine ha_iald hx hb hK hP hN hr10 g11 dX1_see_105 ?_
    obtain ⟨g12, hf⟩ := ha_gds hf
    refine ha_iast hx hb hK hP hD hS hN hr9 g12 dX1_see_106 (fun S13 H locs eS13 hP hD hS => ?_)
    have hf := ha_nms hf eS13
    refine lv_aload_n hx hb dX1_see_107 rfl (lv_at hl 0 rfl) ?_
    obtain ⟨r14, wr14, hf⟩ := ha_bds hf
    obtain ⟨wr14, hr14⟩ := ha_rf_some wr14
    refine ha_getr hx hb hown hK hP q27 hN h0 wr14 dX1_see_108 ?_
    refine lv_bipush (v := 103) hx hb dX1_see_111 (by decide) ?_
    refine lv_aload_n hx hb dX1_see_113 rfl (lv_at hl 1 rfl) ?_
    obtain ⟨r15, wr15, hf⟩ := ha_bds hf
    obtain ⟨wr15, hr15⟩ := ha_rf_some wr15
    refine ha_getr hx hb hown hK hP q90 hN h1 wr15 dX1_see_114 ?_
    refine lv_iload_n hx hb dX1_see_117 rfl (lv_at hl 2 rfl) ?_
    obtain ⟨g16, hf⟩ := ha_gds hf
    refine ha_iald hx hb hK hP hN hr15 g16 dX1_see_118 ?_
    obtain ⟨g17, hf⟩ := ha_gds hf
    refine ha_iast hx hb hK hP hD hS hN hr14 g17 dX1_see_119 (fun S18 H locs eS18 hP hD hS => ?_)
    have hf := ha_nms hf eS18
    refine lv_aload_n hx hb dX1_see_120 rfl (lv_at hl 0 rfl) ?_
    obtain ⟨r19, wr19, hf⟩ := ha_bds hf
    obtain ⟨wr19, hr19⟩ := ha_rf_some wr19
    refine ha_getr hx hb hown hK hP q27 hN h0 wr19 dX1_see_121 ?_
    refine lv_bipush (v := 104) hx hb dX1_see_124 (by decide) ?_
    refine lv_iload_n hx hb dX1_see_126 rfl (lv_at hl 2 rfl) ?_
    refine lv_if_ne (tgt := 138) hx hb dX1_see_127 (by decide) (fun c20 => ?_) (fun c20 => ?_)
    · have hf := ha_it hf c20
      refine lv_iconst (v := (-1)) hx hb dX1_see_138 (by decide) ?_
      exact J139 r19 104 (-1) S18 H locs ls hf hr19 hP hD hS (lv_sub hl [0, 1, 2, 3] rfl)
    · have hf := ha_if hf (fun q => q c20)
      refine lv_aload_n hx hb dX1_see_130 rfl (lv_at hl 0 rfl) ?_
      refine lv_aload_n hx hb dX1_see_131 rfl (lv_at hl 1 rfl) ?_
      obtain ⟨z21, wz21, hf⟩ := ha_bds hf
      refine ha_callVi (As := [.ref (ad p1)]) (rest := [.int 104, .ref (ad r19)]) hZ ⟨hx, hb, hml, hown, hts⟩ hK hz hP hD hS (c_X1_wordOf hZ hN hX h0 h1 wz21) cw4 hN h0 (by decide) rfl rfl hl.1 rfl (Nat.le_of_ble_eq_true rfl) dX1_see_132 ⟨Nat.le_of_ble_eq_true rfl, Nat.le_of_ble_eq_true rfl⟩ (fun H locs hP hD hS => ?_)
      refine lv_goto (tgt := 139) hx hb dX1_see_135 (by decide) ?_
      exact J139 r19 104 z21.1 z21.2 H locs ls hf hr19 hP hD hS (lv_sub hl [0, 1, 2, 3] rfl)
  have J69 : ∀ (v5 : Int32) (k0 : Nat) (k1 : Int32) (k2 : Int32) (S : ha_St) (H : Heap) (locs : List Loc) (ls : Array Slot), (f_X1_see_J69 p0 p1 p2 p3 v5 k0 k1 k2 S).bind some = some out → xo_kd k0 = 100 → va_P D vwCl (ha_wl cs ad xo_kd xo_ln N S) H → va_D (ha_A ad N) (ha_wl cs ad xo_kd xo_ln N S) → va_S (ha_A ad N) s.heap H locs → lv_has ls 6 [(0, .ref (ad p0)), (1, .ref (ad p1)), (2, .int p2), (3, .int p3), (5, .int v5)] → W p l e (headSpec wsX1_see ({ frames := 1, cells := 0, slots := 0, locals := 26 } : Room)).room s m ([.ref (ad p0), .ref (ad p1), .int p2, .int p3] : List Value).toArray below meth c H locs 0 0 (MQ below (va_Qv (fun (_ : Unit) => True) (fun _ => ha_H D cs ad xo_kd xo_ln N out) (ha_A ad N)) ([.ref (ad p0), .ref (ad p1), .int p2, .int p3] : List Value).toArray s 0 0 (ha_A ad N)) (F0 m 69 ls [.int k2, .int k1, .ref (ad k0)]) := by
    intro v5 k0 k1 k2 S H locs ls hf hk0 hP hD hS hl
    unfold f_X1_see_J69 at hf
    obtain ⟨g22, hf⟩ := ha_gds hf
    refine ha_iast hx hb hK hP hD hS hN hk0 g22 dX1_see_69 (fun S23 H locs eS23 hP hD hS => ?_)
    have hf := ha_nms hf eS23
    refine lv_aload_n hx hb dX1_see_70 rfl (lv_at hl 0 rfl) ?_
    obtain ⟨r24, wr24, hf⟩ := ha_bds hf
    obtain ⟨wr24, hr24⟩ := ha_rf_some wr24
    refine ha_getr hx hb hown hK hP q27 hN h0 wr24 dX1_see_71 ?_
    refine lv_bipush (v := 101) hx hb dX1_see_74 (by decide) ?_
    refine lv_iload hx hb dX1_see_76 (lv_at hl 4 rfl) ?_
    refine lv_if_eq (tgt := 92) hx hb dX1_see_78 (by decide) (fun c25 => ?_) (fun c25 => ?_)
    · have hf := ha_it hf c25
      refine lv_iconst (v := (-1)) hx hb dX1_see_92 (by decide) ?_
      exact J93 r24 101 (-1) S23 H locs ls hf hr24 hP hD hS (lv_sub hl [0, 1, 2, 3] rfl)
    · have hf := ha_if hf c25
      refine lv_aload_n hx hb dX1_see_81 rfl (lv_at hl 0 rfl) ?_
      obtain ⟨r26, wr26, hf⟩ := ha_bds hf
      obtain ⟨wr26, hr26⟩ := ha_rf_some wr26
      refine ha_getr hx hb hown hK hP q24 hN h0 wr26 dX1_see_82 ?_
      refine lv_iload_n hx hb dX1_see_85 rfl (lv_at hl 2 rfl) ?_
      refine lv_iconst (v := 1) hx hb dX1_see_86 (by decide) ?_
      refine lv_iadd hx hb dX1_see_87 ?_
      obtain ⟨g27, hf⟩ := ha_gds hf
      refine ha_iald hx hb hK hP hN hr26 g27 dX1_see_88 ?_
      refine lv_goto (tgt := 93) hx hb dX1_see_89 (by decide) ?_
      exact J93 r24 101 ((ha_gA S23 r26 (((p2 : Int32) + 1) : Int32).toNatClampNeg)) S23 H locs ls hf hr24 hP hD hS (lv_sub hl [0, 1, 2, 3] rfl)
  have J44 : ∀ (v4 : Int32) (k0 : Int32) (S : ha_St) (H : Heap) (locs : List Loc) (ls : Array Slot), (f_X1_see_J44 p0 p1 p2 p3 v4 k0 S).bind some = some out → va_P D vwCl (ha_wl cs ad xo_kd xo_ln N S) H → va_D (ha_A ad N) (ha_wl cs ad xo_kd xo_ln N S) → va_S (ha_A ad N) s.heap H locs → lv_has ls 6 [(0, .ref (ad p0)), (1, .ref (ad p1)), (2, .int p2), (3, .int p3), (4, .int v4)] → W p l e (headSpec wsX1_see ({ frames := 1, cells := 0, slots := 0, locals := 26 } : Room)).room s m ([.ref (ad p0), .ref (ad p1), .int p2, .int p3] : List Value).toArray below meth c H locs 0 0 (MQ below (va_Qv (fun (_ : Unit) => True) (fun _ => ha_H D cs ad xo_kd xo_ln N out) (ha_A ad N)) ([.ref (ad p0), .ref (ad p1), .int p2, .int p3] : List Value).toArray s 0 0 (ha_A ad N)) (F0 m 44 ls [.int k0]) := by
    intro v4 k0 S H locs ls hf  hP hD hS hl
    unfold f_X1_see_J44 at hf
    refine lv_istore (lv' := [(5, .int k0), (0, .ref (ad p0)), (1, .ref (ad p1)), (2, .int p2), (3, .int p3), (4, .int v4)]) hx hb dX1_see_44 hl (by decide) rfl (fun ls hl => ?_)
    refine lv_aload_n hx hb dX1_see_46 rfl (lv_at hl 1 rfl) ?_
    obtain ⟨r28, wr28, hf⟩ := ha_bds hf
    obtain ⟨wr28, hr28⟩ := ha_rf_some wr28
    refine ha_getr hx hb hown hK hP q27 hN h0 wr28 dX1_see_47 ?_
    refine lv_bipush (v := 100) hx hb dX1_see_50 (by decide) ?_
    refine lv_iload hx hb dX1_see_52 (lv_at hl 5 rfl) ?_
    refine lv_if_eq (tgt := 68) hx hb dX1_see_54 (by decide) (fun c29 => ?_) (fun c29 => ?_)
    · have hf := ha_it hf c29
      refine lv_iconst (v := (-1)) hx hb dX1_see_68 (by decide) ?_
      exact J69 k0 r28 100 (-1) S H locs ls hf hr28 hP hD hS (lv_sub hl [1, 2, 3, 4, 0] rfl)
    · have hf := ha_if hf c29
      refine lv_aload_n hx hb dX1_see_57 rfl (lv_at hl 1 rfl) ?_
      obtain ⟨r30, wr30, hf⟩ := ha_bds hf
      obtain ⟨wr30, hr30⟩ := ha_rf_some wr30
      refine ha_getr hx hb hown hK hP q24 hN h0 wr30 dX1_see_58 ?_
      refine lv_iload_n hx hb dX1_see_61 rfl (lv_at hl 3 rfl) ?_
      refine lv_iconst (v := 1) hx hb dX1_see_62 (by decide) ?_
      refine lv_isub hx hb dX1_see_63 ?_
      obtain ⟨g31, hf⟩ := ha_gds hf
      refine ha_iald hx hb hK hP hN hr30 g31 dX1_see_64 ?_
      refine lv_goto (tgt := 69) hx hb dX1_see_65 (by decide) ?_
      exact J69 k0 r28 100 ((ha_gA S r30 (((p2 : Int32) - 1) : Int32).toNatClampNeg)) S H locs ls hf hr28 hP hD hS (lv_sub hl [1, 2, 3, 4, 0] rfl)
  have J43 : ∀ (v4 : Int32) (S : ha_St) (H : Heap) (locs : List Loc) (ls : Array Slot), (f_X1_see_J43 p0 p1 p2 p3 v4 S).bind some = some out → va_P D vwCl (ha_wl cs ad xo_kd xo_ln N S) H → va_D (ha_A ad N) (ha_wl cs ad xo_kd xo_ln N S) → va_S (ha_A ad N) s.heap H locs → lv_has ls 6 [(0, .ref (ad p0)), (1, .ref (ad p1)), (2, .int p2), (3, .int p3), (4, .int v4)] → W p l e (headSpec wsX1_see ({ frames := 1, cells := 0, slots := 0, locals := 26 } : Room)).room s m ([.ref (ad p0), .ref (ad p1), .int p2, .int p3] : List Value).toArray below meth c H locs 0 0 (MQ below (va_Qv (fun (_ : Unit) => True) (fun _ => ha_H D cs ad xo_kd xo_ln N out) (ha_A ad N)) ([.ref (ad p0), .ref (ad p1), .int p2, .int p3] : List Value).toArray s 0 0 (ha_A ad N)) (F0 m 43 ls []) := by
    intro v4 S H locs ls hf  hP hD hS hl
    unfold f_X1_see_J43 at hf
    refine lv_iconst (v := 0) hx hb dX1_see_43 (by decide) ?_
    exact J44 v4 0 S H locs ls hf  hP hD hS (lv_sub hl [0, 1, 2, 3, 4] rfl)
  have J19 : ∀ (k0 : Int32) (S : ha_St) (H : Heap) (locs : List Loc) (ls : Array Slot), (f_X1_see_J19 p0 p1 p2 p3 k0 S).bind some = some out → va_P D vwCl (ha_wl cs ad xo_kd xo_ln N S) H → va_D (ha_A ad N) (ha_wl cs ad xo_kd xo_ln N S) → va_S (ha_A ad N) s.heap H locs → lv_has ls 6 [(0, .ref (ad p0)), (1, .ref (ad p1)), (2, .int p2), (3, .int p3)] → W p l e (headSpec wsX1_see ({ frames := 1, cells := 0, slots := 0, locals := 26 } : Room)).room s m ([.ref (ad p0), .ref (ad p1), .int p2, .int p3] : List Value).toArray below meth c H locs 0 0 (MQ below (va_Qv (fun (_ : Unit) => True) (fun _ => ha_H D cs ad xo_kd xo_ln N out) (ha_A ad N)) ([.ref (ad p0), .ref (ad p1), .int p2, .int p3] : List Value).toArray s 0 0 (ha_A ad N)) (F0 m 19 ls [.int k0]) := by
    intro k0 S H locs ls hf  hP hD hS hl
    unfold f_X1_see_J19 at hf
    refine lv_istore (lv' := [(4, .int k0), (0, .ref (ad p0)), (1, .ref (ad p1)), (2, .int p2), (3, .int p3)]) hx hb dX1_see_19 hl (by decide) rfl (fun ls hl => ?_)
    refine lv_iload_n hx hb dX1_see_21 rfl (lv_at hl 3 rfl) ?_
    refine lv_aload_n hx hb dX1_see_22 rfl (lv_at hl 2 rfl) ?_
    refine ha_geti hx hb hown hK hP q69 hN h1 dX1_see_23 ?_
    refine lv_iconst (v := 1) hx hb dX1_see_26 (by decide) ?_
    refine lv_isub hx hb dX1_see_27 ?_
    refine lv_icmp_ge (tgt := 43) hx hb dX1_see_28 (by decide) (fun c32 => ?_) (fun c32 => ?_)
    · have hf := ha_it hf c32
      exact J43 k0 S H locs ls hf  hP hD hS (lv_sub hl [1, 2, 3, 4, 0] rfl)
    · have hf := ha_if hf c32
      refine lv_iload_n hx hb dX1_see_31 rfl (lv_at hl 4 rfl) ?_
      refine lv_iload_n hx hb dX1_see_32 rfl (lv_at hl 3 rfl) ?_
      refine lv_ishr hx hb dX1_see_33 ?_
      refine lv_iconst (v := 1) hx hb dX1_see_34 (by decide) ?_
      refine lv_iand hx hb dX1_see_35 ?_
      refine lv_if_ne (tgt := 43) hx hb dX1_see_36 (by decide) (fun c33 => ?_) (fun c33 => ?_)
      · have hf := ha_it hf c33
        exact J43 k0 S H locs ls hf  hP hD hS (lv_sub hl [1, 2, 3, 4, 0] rfl)
      · have hf := ha_if hf (fun q => q c33)
        refine lv_iconst (v := 1) hx hb dX1_see_39 (by decide) ?_
        refine lv_goto (tgt := 44) hx hb dX1_see_40 (by decide) ?_
        exact J44 k0 1 S H locs ls hf  hP hD hS (lv_sub hl [1, 2, 3, 4, 0] rfl)
  have J18 : ∀  (S : ha_St) (H : Heap) (locs : List Loc) (ls : Array Slot), (f_X1_see_J18 p0 p1 p2 p3  S).bind some = some out → va_P D vwCl (ha_wl cs ad xo_kd xo_ln N S) H → va_D (ha_A ad N) (ha_wl cs ad xo_kd xo_ln N S) → va_S (ha_A ad N) s.heap H locs → lv_has ls 6 [(0, .ref (ad p0)), (1, .ref (ad p1)), (2, .int p2), (3, .int p3)] → W p l e (headSpec wsX1_see ({ frames := 1, cells := 0, slots := 0, locals := 26 } : Room)).room s m ([.ref (ad p0), .ref (ad p1), .int p2, .int p3] : List Value).toArray below meth c H locs 0 0 (MQ below (va_Qv (fun (_ : Unit) => True) (fun _ => ha_H D cs ad xo_kd xo_ln N out) (ha_A ad N)) ([.ref (ad p0), .ref (ad p1), .int p2, .int p3] : List Value).toArray s 0 0 (ha_A ad N)) (F0 m 18 ls []) := by
    intro  S H locs ls hf  hP hD hS hl
    unfold f_X1_see_J18 at hf
    refine lv_iconst (v := 0) hx hb dX1_see_18 (by decide) ?_
    exact J19 0 S H locs ls hf  hP hD hS (lv_sub hl [0, 1, 2, 3] rfl)
  unfold f_X1_see at hf
  refine lv_iload_n hx hb dX1_see_0 rfl (lv_at hl 2 rfl) ?_
  refine lv_if_le (tgt := 18) hx hb dX1_see_1 (by decide) (fun c34 => ?_) (fun c34 => ?_)
  · have hf := ha_it hf c34
    exact J18  S H locs ls hf  hP hD hS (lv_sub hl [0, 1, 2, 3] rfl)
  · have hf := ha_if hf c34
    refine lv_iload_n hx hb dX1_see_4 rfl (lv_at hl 3 rfl) ?_
    refine lv_iload_n hx hb dX1_see_5 rfl (lv_at hl 2 rfl) ?_
    refine lv_iconst (v := 1) hx hb dX1_see_6 (by decide) ?_
    refine lv_isub hx hb dX1_see_7 ?_
    refine lv_ishr hx hb dX1_see_8 ?_
    refine lv_iconst (v := 1) hx hb dX1_see_9 (by decide) ?_
    refine lv_iand hx hb dX1_see_10 ?_
    refine lv_if_ne (tgt := 18) hx hb dX1_see_11 (by decide) (fun c35 => ?_) (fun c35 => ?_)
    · have hf := ha_it hf c35
      exact J18  S H locs ls hf  hP hD hS (lv_sub hl [0, 1, 2, 3] rfl)
    · have hf := ha_if hf (fun q => q c35)
      refine lv_iconst (v := 1) hx hb dX1_see_14 (by decide) ?_
      refine lv_goto (tgt := 19) hx hb dX1_see_15 (by decide) ?_
      exact J19 1 S H locs ls hf  hP hD hS (lv_sub hl [0, 1, 2, 3] rfl)

set_option maxHeartbeats 4000000 in
set_option maxRecDepth 100000 in
theorem c_X1_kindOf {l : Launch} {D : va_G} {cs : Nat → ClassId} {ad adK adV : Nat → Nat} {N : List Nat} {Z : State → Prop} (hZ : ha_Zok (ha_A ad N) Z) (hN : ∀ x, xo_kd x < 999 → x ∈ N) (hX : ∀ U, Z U → xo_Z adK adV (ha_A ad N) U) {p0 : Nat} {p1 : Int32} {S : ha_St} {out : Int32 × ha_St} (h0 : xo_kd p0 = 5) (hf : f_X1_kindOf p0 p1 S = some out) : ha_Ci l D cs ad xo_kd xo_ln N Z yX1_kindOf wsX1_kindOf ({ frames := 0, cells := 0, slots := 0, locals := 0 } : Room) [.ref (ad p0), .int p1] S out.1 out.2 := by
  refine Met.ofW (cc := cX1_kindOf) (maxL := 2) (ret := (some .int)) (by decide +kernel) rfl ?_
  intro p e s m args below meth c s₁ B hml hv
  obtain ⟨rfl, hP, hD, hK, hz⟩ := hv
  have hx := B.exec
  have hb := B.bytes
  have hr := B.returns
  have hts := atoms_spec (ws := wsX1_kindOf) B.pre
  have hown : s.vm.findClass RX1 = some m.cls := findClass_of_methodNamed B.named
  have hlocks := B.notSynchronized
  have hS : va_S (ha_A ad N) s.heap s.heap [] := va_S.rf
  have hi5 : ∀ w ∈ wsX50, w ∈ wsX1_kindOf := fun w h => List.mem_cons_of_mem _ (List.mem_append_right _ h)
  have q69 : ha_Fk s ([.ref (ad p0), .int p1] : List Value).toArray RX1 69 5 4 0 := ⟨RX5, TX5, 8, wsX1_kindOf, rfl, by decide, by decide, rfl, rfl, hts, hi5, hts (.fieldLink RX1 69 "HillArms$Line" "towers" "I") (by decide +kernel)⟩
  have hl := lv_entry ([.ref (ad p0), .int p1]) (n := 2) (Nat.le_of_ble_eq_true rfl)
  rw [lg_entry_eq]
  generalize (lg_sl ([.ref (ad p0), .int p1]) ++ List.replicate (2 - (lg_sl ([.ref (ad p0), .int p1])).length) Slot.unset).toArray = ls at hl ⊢
  have hl : lv_has ls 2 [(0, .ref (ad p0)), (1, .int p1)] := hl
  refine (fun (K0 : ∀ (H : Heap) (locs : List Loc), va_P D vwCl (ha_wl cs ad xo_kd xo_ln N S) H → va_S (ha_A ad N) s.heap H locs → W p l e (headSpec wsX1_kindOf ({ frames := 0, cells := 0, slots := 0, locals := 0 } : Room)).room s m ([.ref (ad p0), .int p1] : List Value).toArray below meth c H locs 0 0 (MQ below (va_Qi (fun (r : Int32) (_ : Unit) => r = out.1) (fun _ => ha_H D cs ad xo_kd xo_ln N out.2) (ha_A ad N)) ([.ref (ad p0), .int p1] : List Value).toArray s 0 0 (ha_A ad N)) (F0 m 0 ls [])) => K0 _ _ hP hS) ?_
  intro H locs hP hS
  have hf := ha_rt hf
  have J21 : ∀ (k0 : Int32) (S : ha_St) (H : Heap) (locs : List Loc) (ls : Array Slot), (f_X1_kindOf_J21 p0 p1 k0 S).bind some = some out → va_P D vwCl (ha_wl cs ad xo_kd xo_ln N S) H → va_D (ha_A ad N) (ha_wl cs ad xo_kd xo_ln N S) → va_S (ha_A ad N) s.heap H locs → lv_has ls 2 [(0, .ref (ad p0)), (1, .int p1)] → W p l e (headSpec wsX1_kindOf ({ frames := 0, cells := 0, slots := 0, locals := 0 } : Room)).room s m ([.ref (ad p0), .int p1] : List Value).toArray below meth c H locs 0 0 (MQ below (va_Qi (fun (r : Int32) (_ : Unit) => r = out.1) (fun _ => ha_H D cs ad xo_kd xo_ln N out.2) (ha_A ad N)) ([.ref (ad p0), .int p1] : List Value).toArray s 0 0 (ha_A ad N)) (F0 m 21 ls [.int k0]) := by
    intro k0 S H locs ls hf  hP hD hS hl
    unfold f_X1_kindOf_J21 at hf
    have he := Option.some.inj hf
    exact ha_reti hx hb hr hlocks hP hD hS dX1_kindOf_21 (ha_e1 he) (ha_e2 he)
  unfold f_X1_kindOf at hf
  refine lv_iload_n hx hb dX1_kindOf_0 rfl (lv_at hl 1 rfl) ?_
  refine lv_if_ne (tgt := 6) hx hb dX1_kindOf_1 (by decide) (fun c1 => ?_) (fun c1 => ?_)
  · have hf := ha_it hf c1
    refine lv_iload_n hx hb dX1_kindOf_6 rfl (lv_at hl 1 rfl) ?_
    refine lv_aload_n hx hb dX1_kindOf_7 rfl (lv_at hl 0 rfl) ?_
    refine ha_geti hx hb hown hK hP q69 hN h0 dX1_kindOf_8 ?_
    refine lv_iconst (v := 1) hx hb dX1_kindOf_11 (by decide) ?_
    refine lv_isub hx hb dX1_kindOf_12 ?_
    refine lv_icmp_ne (tgt := 20) hx hb dX1_kindOf_13 (by decide) (fun c2 => ?_) (fun c2 => ?_)
    · have hf := ha_it hf c2
      refine lv_iconst (v := 2) hx hb dX1_kindOf_20 (by decide) ?_
      exact J21 2 S H locs ls hf  hP hD hS (lv_sub hl [0, 1] rfl)
    · have hf := ha_if hf (fun q => q c2)
      refine lv_iconst (v := 1) hx hb dX1_kindOf_16 (by decide) ?_
      refine lv_goto (tgt := 21) hx hb dX1_kindOf_17 (by decide) ?_
      exact J21 1 S H locs ls hf  hP hD hS (lv_sub hl [0, 1] rfl)
  · have hf := ha_if hf (fun q => q c1)
    refine lv_iconst (v := 0) hx hb dX1_kindOf_4 (by decide) ?_
    have he := Option.some.inj hf
    exact ha_reti hx hb hr hlocks hP hD hS dX1_kindOf_5 (ha_e1 he) (ha_e2 he)

set_option maxHeartbeats 4000000 in
set_option maxRecDepth 100000 in
theorem c_X8_holds {l : Launch} {D : va_G} {cs : Nat → ClassId} {ad kd ln : Nat → Nat} {N : List Nat} {Z : State → Prop}  {p0 : Int32} {p1 : Int32} {p2 : Int32} {S : ha_St} {out : Int32}  (hf : f_X8_holds p0 p1 p2 = some out) : ha_Ci l D cs ad kd ln N Z yX8_holds wsX8_holds ({ frames := 0, cells := 0, slots := 0, locals := 0 } : Room) [.int p0, .int p1, .int p2] S out S := by
  refine Met.ofW (cc := cX8_holds) (maxL := 3) (ret := (some .boolean)) (by decide +kernel) rfl ?_
  intro p e s m args below meth c s₁ B hml hv
  obtain ⟨rfl, hP, hD, hK, hz⟩ := hv
  have hx := B.exec
  have hb := B.bytes
  have hr := B.returns
  have hts := atoms_spec (ws := wsX8_holds) B.pre
  have hown : s.vm.findClass RX8 = some m.cls := findClass_of_methodNamed B.named
  have hlocks := B.notSynchronized
  have hS : va_S (ha_A ad N) s.heap s.heap [] := va_S.rf
  have hl := lv_entry ([.int p0, .int p1, .int p2]) (n := 3) (Nat.le_of_ble_eq_true rfl)
  rw [lg_entry_eq]
  generalize (lg_sl ([.int p0, .int p1, .int p2]) ++ List.replicate (3 - (lg_sl ([.int p0, .int p1, .int p2])).length) Slot.unset).toArray = ls at hl ⊢
  have hl : lv_has ls 3 [(0, .int p0), (1, .int p1), (2, .int p2)] := hl
  refine (fun (K0 : ∀ (H : Heap) (locs : List Loc), va_P D vwCl (ha_wl cs ad kd ln N S) H → va_S (ha_A ad N) s.heap H locs → W p l e (headSpec wsX8_holds ({ frames := 0, cells := 0, slots := 0, locals := 0 } : Room)).room s m ([.int p0, .int p1, .int p2] : List Value).toArray below meth c H locs 0 0 (MQ below (va_Qi (fun (r : Int32) (_ : Unit) => r = out) (fun _ => ha_H D cs ad kd ln N S) (ha_A ad N)) ([.int p0, .int p1, .int p2] : List Value).toArray s 0 0 (ha_A ad N)) (F0 m 0 ls [])) => K0 _ _ hP hS) ?_
  intro H locs hP hS
  have hf := ha_rt hf
  have J71 : ∀ (k0 : Int32) (H : Heap) (locs : List Loc) (ls : Array Slot), (f_X8_holds_J71 p0 p1 p2 k0).bind some = some out → va_P D vwCl (ha_wl cs ad kd ln N S) H → va_D (ha_A ad N) (ha_wl cs ad kd ln N S) → va_S (ha_A ad N) s.heap H locs → lv_has ls 3 [(0, .int p0), (1, .int p1), (2, .int p2)] → W p l e (headSpec wsX8_holds ({ frames := 0, cells := 0, slots := 0, locals := 0 } : Room)).room s m ([.int p0, .int p1, .int p2] : List Value).toArray below meth c H locs 0 0 (MQ below (va_Qi (fun (r : Int32) (_ : Unit) => r = out) (fun _ => ha_H D cs ad kd ln N S) (ha_A ad N)) ([.int p0, .int p1, .int p2] : List Value).toArray s 0 0 (ha_A ad N)) (F0 m 71 ls [.int k0]) := by
    intro k0 H locs ls hf  hP hD hS hl
    unfold f_X8_holds_J71 at hf
    obtain ⟨g1, hf⟩ := ha_gds hf
    have he := Option.some.inj hf
    exact ha_retz hx hb hr hlocks hP hD hS dX8_holds_71 g1 he rfl
  have J60 : ∀ (k0 : Int32) (H : Heap) (locs : List Loc) (ls : Array Slot), (f_X8_holds_J60 p0 p1 p2 k0).bind some = some out → va_P D vwCl (ha_wl cs ad kd ln N S) H → va_D (ha_A ad N) (ha_wl cs ad kd ln N S) → va_S (ha_A ad N) s.heap H locs → lv_has ls 3 [(0, .int p0), (1, .int p1), (2, .int p2)] → W p l e (headSpec wsX8_holds ({ frames := 0, cells := 0, slots := 0, locals := 0 } : Room)).room s m ([.int p0, .int p1, .int p2] : List Value).toArray below meth c H locs 0 0 (MQ below (va_Qi (fun (r : Int32) (_ : Unit) => r = out) (fun _ => ha_H D cs ad kd ln N S) (ha_A ad N)) ([.int p0, .int p1, .int p2] : List Value).toArray s 0 0 (ha_A ad N)) (F0 m 60 ls [.int k0]) := by
    intro k0 H locs ls hf  hP hD hS hl
    unfold f_X8_holds_J60 at hf
    obtain ⟨g2, hf⟩ := ha_gds hf
    have he := Option.some.inj hf
    exact ha_retz hx hb hr hlocks hP hD hS dX8_holds_60 g2 he rfl
  have J49 : ∀ (k0 : Int32) (H : Heap) (locs : List Loc) (ls : Array Slot), (f_X8_holds_J49 p0 p1 p2 k0).bind some = some out → va_P D vwCl (ha_wl cs ad kd ln N S) H → va_D (ha_A ad N) (ha_wl cs ad kd ln N S) → va_S (ha_A ad N) s.heap H locs → lv_has ls 3 [(0, .int p0), (1, .int p1), (2, .int p2)] → W p l e (headSpec wsX8_holds ({ frames := 0, cells := 0, slots := 0, locals := 0 } : Room)).room s m ([.int p0, .int p1, .int p2] : List Value).toArray below meth c H locs 0 0 (MQ below (va_Qi (fun (r : Int32) (_ : Unit) => r = out) (fun _ => ha_H D cs ad kd ln N S) (ha_A ad N)) ([.int p0, .int p1, .int p2] : List Value).toArray s 0 0 (ha_A ad N)) (F0 m 49 ls [.int k0]) := by
    intro k0 H locs ls hf  hP hD hS hl
    unfold f_X8_holds_J49 at hf
    obtain ⟨g3, hf⟩ := ha_gds hf
    have he := Option.some.inj hf
    exact ha_retz hx hb hr hlocks hP hD hS dX8_holds_49 g3 he rfl
  have J38 : ∀ (k0 : Int32) (H : Heap) (locs : List Loc) (ls : Array Slot), (f_X8_holds_J38 p0 p1 p2 k0).bind some = some out → va_P D vwCl (ha_wl cs ad kd ln N S) H → va_D (ha_A ad N) (ha_wl cs ad kd ln N S) → va_S (ha_A ad N) s.heap H locs → lv_has ls 3 [(0, .int p0), (1, .int p1), (2, .int p2)] → W p l e (headSpec wsX8_holds ({ frames := 0, cells := 0, slots := 0, locals := 0 } : Room)).room s m ([.int p0, .int p1, .int p2] : List Value).toArray below meth c H locs 0 0 (MQ below (va_Qi (fun (r : Int32) (_ : Unit) => r = out) (fun _ => ha_H D cs ad kd ln N S) (ha_A ad N)) ([.int p0, .int p1, .int p2] : List Value).toArray s 0 0 (ha_A ad N)) (F0 m 38 ls [.int k0]) := by
    intro k0 H locs ls hf  hP hD hS hl
    unfold f_X8_holds_J38 at hf
    obtain ⟨g4, hf⟩ := ha_gds hf
    have he := Option.some.inj hf
    exact ha_retz hx hb hr hlocks hP hD hS dX8_holds_38 g4 he rfl
  unfold f_X8_holds at hf
  refine lv_iload_n hx hb dX8_holds_0 rfl (lv_at hl 1 rfl) ?_
  refine lv_topi (fun xs exs => ?_)
  have hf := ha_nms hf exs
  by_cases cs120 : xs = 120
  · have hf := ha_it hf cs120
    refine ha_tsin (tgt := 28) hx hb dX8_holds_1 120 cs120 (by decide) rfl (by decide) ?_
    refine lv_iload_n hx hb dX8_holds_28 rfl (lv_at hl 0 rfl) ?_
    refine lv_iload_n hx hb dX8_holds_29 rfl (lv_at hl 2 rfl) ?_
    refine lv_icmp_ge (tgt := 37) hx hb dX8_holds_30 (by decide) (fun c5 => ?_) (fun c5 => ?_)
    · have hf := ha_it hf c5
      refine lv_iconst (v := 0) hx hb dX8_holds_37 (by decide) ?_
      exact J38 0 H locs ls hf  hP hD hS (lv_sub hl [0, 1, 2] rfl)
    · have hf := ha_if hf c5
      refine lv_iconst (v := 1) hx hb dX8_holds_33 (by decide) ?_
      refine lv_goto (tgt := 38) hx hb dX8_holds_34 (by decide) ?_
      exact J38 1 H locs ls hf  hP hD hS (lv_sub hl [0, 1, 2] rfl)
  · have hf := ha_if hf cs120
    by_cases cs121 : xs = 121
    · have hf := ha_it hf cs121
      refine ha_tsin (tgt := 39) hx hb dX8_holds_1 121 cs121 (by decide) rfl (by decide) ?_
      refine lv_iload_n hx hb dX8_holds_39 rfl (lv_at hl 0 rfl) ?_
      refine lv_iload_n hx hb dX8_holds_40 rfl (lv_at hl 2 rfl) ?_
      refine lv_icmp_ne (tgt := 48) hx hb dX8_holds_41 (by decide) (fun c6 => ?_) (fun c6 => ?_)
      · have hf := ha_it hf c6
        refine lv_iconst (v := 0) hx hb dX8_holds_48 (by decide) ?_
        exact J49 0 H locs ls hf  hP hD hS (lv_sub hl [0, 1, 2] rfl)
      · have hf := ha_if hf (fun q => q c6)
        refine lv_iconst (v := 1) hx hb dX8_holds_44 (by decide) ?_
        refine lv_goto (tgt := 49) hx hb dX8_holds_45 (by decide) ?_
        exact J49 1 H locs ls hf  hP hD hS (lv_sub hl [0, 1, 2] rfl)
    · have hf := ha_if hf cs121
      by_cases cs122 : xs = 122
      · have hf := ha_it hf cs122
        refine ha_tsin (tgt := 50) hx hb dX8_holds_1 122 cs122 (by decide) rfl (by decide) ?_
        refine lv_iload_n hx hb dX8_holds_50 rfl (lv_at hl 0 rfl) ?_
        refine lv_iload_n hx hb dX8_holds_51 rfl (lv_at hl 2 rfl) ?_
        refine lv_icmp_le (tgt := 59) hx hb dX8_holds_52 (by decide) (fun c7 => ?_) (fun c7 => ?_)
        · have hf := ha_it hf c7
          refine lv_iconst (v := 0) hx hb dX8_holds_59 (by decide) ?_
          exact J60 0 H locs ls hf  hP hD hS (lv_sub hl [0, 1, 2] rfl)
        · have hf := ha_if hf c7
          refine lv_iconst (v := 1) hx hb dX8_holds_55 (by decide) ?_
          refine lv_goto (tgt := 60) hx hb dX8_holds_56 (by decide) ?_
          exact J60 1 H locs ls hf  hP hD hS (lv_sub hl [0, 1, 2] rfl)
      · have hf := ha_if hf cs122
        have ncs120 := lv_neT cs120 (show (120 : Int32).toInt = 120 by decide)
        have ncs121 := lv_neT cs121 (show (121 : Int32).toInt = 121 by decide)
        have ncs122 := lv_neT cs122 (show (122 : Int32).toInt = 122 by decide)
        refine lv_tableOut (tgt := 61) hx hb dX8_holds_1 (by omega) (by decide) ?_
        refine lv_iload_n hx hb dX8_holds_61 rfl (lv_at hl 0 rfl) ?_
        refine lv_iload_n hx hb dX8_holds_62 rfl (lv_at hl 2 rfl) ?_
        refine lv_icmp_eq (tgt := 70) hx hb dX8_holds_63 (by decide) (fun c8 => ?_) (fun c8 => ?_)
        · have hf := ha_it hf c8
          refine lv_iconst (v := 0) hx hb dX8_holds_70 (by decide) ?_
          exact J71 0 H locs ls hf  hP hD hS (lv_sub hl [0, 1, 2] rfl)
        · have hf := ha_if hf c8
          refine lv_iconst (v := 1) hx hb dX8_holds_66 (by decide) ?_
          refine lv_goto (tgt := 71) hx hb dX8_holds_67 (by decide) ?_
          exact J71 1 H locs ls hf  hP hD hS (lv_sub hl [0, 1, 2] rfl)

set_option maxHeartbeats 4000000 in
set_option maxRecDepth 100000 in
theorem c_X8_firstRuleThatHolds {l : Launch} {D : va_G} {cs : Nat → ClassId} {ad adK adV : Nat → Nat} {N : List Nat} {Z : State → Prop} (hZ : ha_Zok (ha_A ad N) Z) (hN : ∀ x, xo_kd x < 999 → x ∈ N) (hX : ∀ U, Z U → xo_Z adK adV (ha_A ad N) U) {p0 : Nat} {p1 : Nat} {S : ha_St} {out : Int32 × ha_St} (h0 : xo_kd p0 = 8) (h1 : xo_kd p1 = 100) (hf : f_X8_firstRuleThatHolds p0 p1 S = some out) : ha_Ci l D cs ad xo_kd xo_ln N Z yX8_firstRuleThatHolds wsX8_firstRuleThatHolds ({ frames := 1, cells := 0, slots := 0, locals := 22 } : Room) [.ref (ad p0), .ref (ad p1)] S out.1 out.2 := by
  refine Met.ofW (cc := cX8_firstRuleThatHolds) (maxL := 5) (ret := (some .int)) (by decide +kernel) rfl ?_
  intro p e s m args below meth c s₁ B hml hv
  obtain ⟨rfl, hP, hD, hK, hz⟩ := hv
  have hx := B.exec
  have hb := B.bytes
  have hr := B.returns
  have hts := atoms_spec (ws := wsX8_firstRuleThatHolds) B.pre
  have hown : s.vm.findClass RX8 = some m.cls := findClass_of_methodNamed B.named
  have hlocks := B.notSynchronized
  have hS : va_S (ha_A ad N) s.heap s.heap [] := va_S.rf
  have hi8 : ∀ w ∈ wsX80, w ∈ wsX8_firstRuleThatHolds := fun w h => List.mem_cons_of_mem _ (List.mem_append_right _ h)
  have q9 : ha_Fk s ([.ref (ad p0), .ref (ad p1)] : List Value).toArray RX8 9 8 0 1 := ⟨RX8, TX8, 12, wsX8_firstRuleThatHolds, rfl, by decide, by decide, rfl, rfl, hts, hi8, hts (.fieldLink RX8 9 "HillArms$Program" "onesEnd" "[I") (by decide +kernel)⟩
  have q36 : ha_Fk s ([.ref (ad p0), .ref (ad p1)] : List Value).toArray RX8 36 8 8 0 := ⟨RX8, TX8, 12, wsX8_firstRuleThatHolds, rfl, by decide, by decide, rfl, rfl, hts, hi8, hts (.fieldLink RX8 36 "HillArms$Program" "rules" "I") (by decide +kernel)⟩
  have q18 : ha_Fk s ([.ref (ad p0), .ref (ad p1)] : List Value).toArray RX8 18 8 2 1 := ⟨RX8, TX8, 12, wsX8_firstRuleThatHolds, rfl, by decide, by decide, rfl, rfl, hts, hi8, hts (.fieldLink RX8 18 "HillArms$Program" "oneLeft" "[I") (by decide +kernel)⟩
  have q21 : ha_Fk s ([.ref (ad p0), .ref (ad p1)] : List Value).toArray RX8 21 8 3 1 := ⟨RX8, TX8, 12, wsX8_firstRuleThatHolds, rfl, by decide, by decide, rfl, rfl, hts, hi8, hts (.fieldLink RX8 21 "HillArms$Program" "oneMark" "[I") (by decide +kernel)⟩
  have q24 : ha_Fk s ([.ref (ad p0), .ref (ad p1)] : List Value).toArray RX8 24 8 4 1 := ⟨RX8, TX8, 12, wsX8_firstRuleThatHolds, rfl, by decide, by decide, rfl, rfl, hts, hi8, hts (.fieldLink RX8 24 "HillArms$Program" "oneRight" "[I") (by decide +kernel)⟩
  have cw0 := va_cwS (R := (headSpec wsX8_firstRuleThatHolds ({ frames := 1, cells := 0, slots := 0, locals := 22 } : Room)).room) 3 hts gX8_firstRuleThatHolds_X8_holds (rm := ({ frames := 0, cells := 0, slots := 0, locals := 0 } : Room)) (mc := 0) (ms := 0) rfl rfl rfl (by decide +kernel) ⟨Nat.le_of_ble_eq_true rfl, Nat.le_of_ble_eq_true rfl⟩
  have hl := lv_entry ([.ref (ad p0), .ref (ad p1)]) (n := 5) (Nat.le_of_ble_eq_true rfl)
  rw [lg_entry_eq]
  generalize (lg_sl ([.ref (ad p0), .ref (ad p1)]) ++ List.replicate (5 - (lg_sl ([.ref (ad p0), .ref (ad p1)])).length) Slot.unset).toArray = ls at hl ⊢
  have hl : lv_has ls 5 [(0, .ref (ad p0)), (1, .ref (ad p1))] := hl
  refine (fun (K0 : ∀ (H : Heap) (locs : List Loc), va_P D vwCl (ha_wl cs ad xo_kd xo_ln N S) H → va_S (ha_A ad N) s.heap H locs → W p l e (headSpec wsX8_firstRuleThatHolds ({ frames := 1, cells := 0, slots := 0, locals := 22 } : Room)).room s m ([.ref (ad p0), .ref (ad p1)] : List Value).toArray below meth c H locs 0 0 (MQ below (va_Qi (fun (r : Int32) (_ : Unit) => r = out.1) (fun _ => ha_H D cs ad xo_kd xo_ln N out.2) (ha_A ad N)) ([.ref (ad p0), .ref (ad p1)] : List Value).toArray s 0 0 (ha_A ad N)) (F0 m 0 ls [])) => K0 _ _ hP hS) ?_
  intro H locs hP hS
  have hf := ha_rt hf
  have J83 : ∀  (S : ha_St) (H : Heap) (locs : List Loc) (ls : Array Slot), (f_X8_firstRuleThatHolds_J83 p0 p1  S).bind some = some out → va_P D vwCl (ha_wl cs ad xo_kd xo_ln N S) H → va_D (ha_A ad N) (ha_wl cs ad xo_kd xo_ln N S) → va_S (ha_A ad N) s.heap H locs → lv_has ls 5 [(0, .ref (ad p0)), (1, .ref (ad p1))] → W p l e (headSpec wsX8_firstRuleThatHolds ({ frames := 1, cells := 0, slots := 0, locals := 22 } : Room)).room s m ([.ref (ad p0), .ref (ad p1)] : List Value).toArray below meth c H locs 0 0 (MQ below (va_Qi (fun (r : Int32) (_ : Unit) => r = out.1) (fun _ => ha_H D cs ad xo_kd xo_ln N out.2) (ha_A ad N)) ([.ref (ad p0), .ref (ad p1)] : List Value).toArray s 0 0 (ha_A ad N)) (F0 m 83 ls []) := by
    intro  S H locs ls hf  hP hD hS hl
    unfold f_X8_firstRuleThatHolds_J83 at hf
    refine lv_iconst (v := (-1)) hx hb dX8_firstRuleThatHolds_83 (by decide) ?_
    have he := Option.some.inj hf
    exact ha_reti hx hb hr hlocks hP hD hS dX8_firstRuleThatHolds_84 (ha_e1 he) (ha_e2 he)
  unfold f_X8_firstRuleThatHolds at hf
  refine lv_iconst (v := 0) hx hb dX8_firstRuleThatHolds_0 (by decide) ?_
  refine lv_istore_n (lv' := [(2, .int 0), (0, .ref (ad p0)), (1, .ref (ad p1))]) hx hb dX8_firstRuleThatHolds_1 rfl hl (by decide) rfl (fun ls hl => ?_)
  refine lv_iconst (v := 0) hx hb dX8_firstRuleThatHolds_2 (by decide) ?_
  refine lv_istore_n (lv' := [(3, .int 0), (2, .int 0), (0, .ref (ad p0)), (1, .ref (ad p1))]) hx hb dX8_firstRuleThatHolds_3 rfl hl (by decide) rfl (fun ls hl => ?_)
  have key23 : ∀ (K : ((ha_St) ⊕ (Int32 × ha_St)) → Option (Int32 × ha_St)), (∀  (S : ha_St) (H : Heap) (locs : List Loc) (ls : Array Slot), K (.inl S) = some out → va_P D vwCl (ha_wl cs ad xo_kd xo_ln N S) H → va_D (ha_A ad N) (ha_wl cs ad xo_kd xo_ln N S) → va_S (ha_A ad N) s.heap H locs → lv_has ls 5 [(0, .ref (ad p0)), (1, .ref (ad p1))] → W p l e (headSpec wsX8_firstRuleThatHolds ({ frames := 1, cells := 0, slots := 0, locals := 22 } : Room)).room s m ([.ref (ad p0), .ref (ad p1)] : List Value).toArray below meth c H locs 0 0 (MQ below (va_Qi (fun (r : Int32) (_ : Unit) => r = out.1) (fun _ => ha_H D cs ad xo_kd xo_ln N out.2) (ha_A ad N)) ([.ref (ad p0), .ref (ad p1)] : List Value).toArray s 0 0 (ha_A ad N)) (F0 m 83 ls [])) → (∀ r, K (.inr r) = some out → r = out) → ∀ (n : Nat) (v2 : Int32) (v3 : Int32) (S : ha_St) (H : Heap) (locs : List Loc) (ls : Array Slot), (f_X8_firstRuleThatHolds_L4i p0 p1 n (v2, v3, S)).bind K = some out → va_P D vwCl (ha_wl cs ad xo_kd xo_ln N S) H → va_D (ha_A ad N) (ha_wl cs ad xo_kd xo_ln N S) → va_S (ha_A ad N) s.heap H locs → lv_has ls 5 [(0, .ref (ad p0)), (1, .ref (ad p1)), (2, .int v2), (3, .int v3)] → W p l e (headSpec wsX8_firstRuleThatHolds ({ frames := 1, cells := 0, slots := 0, locals := 22 } : Room)).room s m ([.ref (ad p0), .ref (ad p1)] : List Value).toArray below meth c H locs 0 0 (MQ below (va_Qi (fun (r : Int32) (_ : Unit) => r = out.1) (fun _ => ha_H D cs ad xo_kd xo_ln N out.2) (ha_A ad N)) ([.ref (ad p0), .ref (ad p1)] : List Value).toArray s 0 0 (ha_A ad N)) (F0 m 4 ls []) := by
    intro K hk hke n
    induction n with
    | zero =>
      intro v2 v3 S H locs ls hf
      exact absurd (show (none : Option (Int32 × ha_St)) = some out from hf) (fun h => by cases h)
    | succ n ih =>
      intro v2 v3 S H locs ls hf  hP hD hS hl
      have J63 : ∀ (v3 : Int32) (v4 : Int32) (S : ha_St) (H : Heap) (locs : List Loc) (ls : Array Slot), (f_X8_firstRuleThatHolds_L4_J63 p0 p1 (f_X8_firstRuleThatHolds_L4i p0 p1 n) v3 v4 S).bind K = some out → va_P D vwCl (ha_wl cs ad xo_kd xo_ln N S) H → va_D (ha_A ad N) (ha_wl cs ad xo_kd xo_ln N S) → va_S (ha_A ad N) s.heap H locs → lv_has ls 5 [(0, .ref (ad p0)), (1, .ref (ad p1)), (3, .int v3), (4, .int v4)] → W p l e (headSpec wsX8_firstRuleThatHolds ({ frames := 1, cells := 0, slots := 0, locals := 22 } : Room)).room s m ([.ref (ad p0), .ref (ad p1)] : List Value).toArray below meth c H locs 0 0 (MQ below (va_Qi (fun (r : Int32) (_ : Unit) => r = out.1) (fun _ => ha_H D cs ad xo_kd xo_ln N out.2) (ha_A ad N)) ([.ref (ad p0), .ref (ad p1)] : List Value).toArray s 0 0 (ha_A ad N)) (F0 m 63 ls []) := by
        intro v3 v4 S H locs ls hf  hP hD hS hl
        unfold f_X8_firstRuleThatHolds_L4_J63 at hf
        refine lv_iload hx hb dX8_firstRuleThatHolds_63 (lv_at hl 3 rfl) ?_
        refine lv_if_eq (tgt := 70) hx hb dX8_firstRuleThatHolds_65 (by decide) (fun c1 => ?_) (fun c1 => ?_)
        · have hf := ha_it hf c1
          refine lv_aload_n hx hb dX8_firstRuleThatHolds_70 rfl (lv_at hl 0 rfl) ?_
          obtain ⟨r2, wr2, hf⟩ := ha_bds hf
          obtain ⟨wr2, hr2⟩ := ha_rf_some wr2
          refine ha_getr hx hb hown hK hP q9 hN h0 wr2 dX8_firstRuleThatHolds_71 ?_
          refine lv_iload_n hx hb dX8_firstRuleThatHolds_74 rfl (lv_at hl 2 rfl) ?_
          obtain ⟨g3, hf⟩ := ha_gds hf
          refine ha_iald hx hb hK hP hN hr2 g3 dX8_firstRuleThatHolds_75 ?_
          refine lv_topi (fun x4 ex4 => ?_)
          have hf := ha_nms hf ex4
          refine lv_istore_n (lv' := [(2, .int x4), (0, .ref (ad p0)), (1, .ref (ad p1)), (3, .int v3), (4, .int v4)]) hx hb dX8_firstRuleThatHolds_76 rfl hl (by decide) rfl (fun ls hl => ?_)
          obtain ⟨x5, ex5⟩ : ∃ y : Int32, y = (v3 : Int32) + 1 := ⟨_, rfl⟩
          have hf := ha_nms hf ex5
          refine lv_iinc (v := x5) (lv' := [(3, .int x5), (2, .int x4), (0, .ref (ad p0)), (1, .ref (ad p1)), (4, .int v4)]) hx hb dX8_firstRuleThatHolds_77 hl (k := 3) rfl (by rw [ex5]; rfl) (by decide) rfl (fun ls hl => ?_)
          refine lv_goto (tgt := 4) hx hb dX8_firstRuleThatHolds_80 (by decide) ?_
          exact ih x4 x5 S H locs ls hf  hP hD hS (lv_sub hl [2, 3, 1, 0] rfl)
        · have hf := ha_if hf c1
          refine lv_iload_n hx hb dX8_firstRuleThatHolds_68 rfl (lv_at hl 2 rfl) ?_
          have he := hke _ hf
          exact ha_reti hx hb hr hlocks hP hD hS dX8_firstRuleThatHolds_69 (ha_e1 he) (ha_e2 he)
      have hf : (f_X8_firstRuleThatHolds_L4 p0 p1 (f_X8_firstRuleThatHolds_L4i p0 p1 n) v2 v3 S).bind K = some out := hf
      unfold f_X8_firstRuleThatHolds_L4 at hf
      refine lv_iload_n hx hb dX8_firstRuleThatHolds_4 rfl (lv_at hl 3 rfl) ?_
      refine lv_aload_n hx hb dX8_firstRuleThatHolds_5 rfl (lv_at hl 0 rfl) ?_
      refine ha_geti hx hb hown hK hP q36 hN h0 dX8_firstRuleThatHolds_6 ?_
      refine lv_icmp_ge (tgt := 83) hx hb dX8_firstRuleThatHolds_9 (by decide) (fun c6 => ?_) (fun c6 => ?_)
      · have hf := ha_it hf c6
        exact hk  S H locs ls hf  hP hD hS (lv_sub hl [0, 1] rfl)
      · have hf := ha_if hf c6
        refine lv_iconst (v := 1) hx hb dX8_firstRuleThatHolds_12 (by decide) ?_
        refine lv_istore (lv' := [(4, .int 1), (0, .ref (ad p0)), (1, .ref (ad p1)), (2, .int v2), (3, .int v3)]) hx hb dX8_firstRuleThatHolds_13 hl (by decide) rfl (fun ls hl => ?_)
        have key21 : ∀ (K : (Int32 × Int32 × ha_St) → Option (Int32 × ha_St)), (∀ (v3 : Int32) (v4 : Int32) (S : ha_St) (H : Heap) (locs : List Loc) (ls : Array Slot), K (v3, v4, S) = some out → va_P D vwCl (ha_wl cs ad xo_kd xo_ln N S) H → va_D (ha_A ad N) (ha_wl cs ad xo_kd xo_ln N S) → va_S (ha_A ad N) s.heap H locs → lv_has ls 5 [(0, .ref (ad p0)), (1, .ref (ad p1)), (3, .int v3), (4, .int v4)] → W p l e (headSpec wsX8_firstRuleThatHolds ({ frames := 1, cells := 0, slots := 0, locals := 22 } : Room)).room s m ([.ref (ad p0), .ref (ad p1)] : List Value).toArray below meth c H locs 0 0 (MQ below (va_Qi (fun (r : Int32) (_ : Unit) => r = out.1) (fun _ => ha_H D cs ad xo_kd xo_ln N out.2) (ha_A ad N)) ([.ref (ad p0), .ref (ad p1)] : List Value).toArray s 0 0 (ha_A ad N)) (F0 m 63 ls [])) → ∀ (n : Nat) (v2 : Int32) (v3 : Int32) (v4 : Int32) (S : ha_St) (H : Heap) (locs : List Loc) (ls : Array Slot), (f_X8_firstRuleThatHolds_L15i p0 p1 n (v2, v3, v4, S)).bind K = some out → va_P D vwCl (ha_wl cs ad xo_kd xo_ln N S) H → va_D (ha_A ad N) (ha_wl cs ad xo_kd xo_ln N S) → va_S (ha_A ad N) s.heap H locs → lv_has ls 5 [(0, .ref (ad p0)), (1, .ref (ad p1)), (2, .int v2), (3, .int v3), (4, .int v4)] → W p l e (headSpec wsX8_firstRuleThatHolds ({ frames := 1, cells := 0, slots := 0, locals := 22 } : Room)).room s m ([.ref (ad p0), .ref (ad p1)] : List Value).toArray below meth c H locs 0 0 (MQ below (va_Qi (fun (r : Int32) (_ : Unit) => r = out.1) (fun _ => ha_H D cs ad xo_kd xo_ln N out.2) (ha_A ad N)) ([.ref (ad p0), .ref (ad p1)] : List Value).toArray s 0 0 (ha_A ad N)) (F0 m 15 ls []) := by
          intro K hk n
          induction n with
          | zero =>
            intro v2 v3 v4 S H locs ls hf
            exact absurd (show (none : Option (Int32 × ha_St)) = some out from hf) (fun h => by cases h)
          | succ n ih =>
            intro v2 v3 v4 S H locs ls hf  hP hD hS hl
            have hf : (f_X8_firstRuleThatHolds_L15 p0 p1 (f_X8_firstRuleThatHolds_L15i p0 p1 n) v2 v3 v4 S).bind K = some out := hf
            unfold f_X8_firstRuleThatHolds_L15 at hf
            refine lv_iload_n hx hb dX8_firstRuleThatHolds_15 rfl (lv_at hl 2 rfl) ?_
            refine lv_aload_n hx hb dX8_firstRuleThatHolds_16 rfl (lv_at hl 0 rfl) ?_
            obtain ⟨r7, wr7, hf⟩ := ha_bds hf
            obtain ⟨wr7, hr7⟩ := ha_rf_some wr7
            refine ha_getr hx hb hown hK hP q9 hN h0 wr7 dX8_firstRuleThatHolds_17 ?_
            refine lv_iload_n hx hb dX8_firstRuleThatHolds_20 rfl (lv_at hl 3 rfl) ?_
            obtain ⟨g8, hf⟩ := ha_gds hf
            refine ha_iald hx hb hK hP hN hr7 g8 dX8_firstRuleThatHolds_21 ?_
            refine lv_icmp_ge (tgt := 63) hx hb dX8_firstRuleThatHolds_22 (by decide) (fun c9 => ?_) (fun c9 => ?_)
            · have hf := ha_it hf c9
              exact hk v3 v4 S H locs ls hf  hP hD hS (lv_sub hl [0, 1, 3, 4] rfl)
            · have hf := ha_if hf c9
              refine lv_iload hx hb dX8_firstRuleThatHolds_25 (lv_at hl 4 rfl) ?_
              refine lv_if_eq (tgt := 63) hx hb dX8_firstRuleThatHolds_27 (by decide) (fun c10 => ?_) (fun c10 => ?_)
              · have hf := ha_it hf c10
                exact hk v3 v4 S H locs ls hf  hP hD hS (lv_sub hl [0, 1, 3, 4] rfl)
              · have hf := ha_if hf c10
                refine lv_aload_n hx hb dX8_firstRuleThatHolds_30 rfl (lv_at hl 1 rfl) ?_
                refine lv_aload_n hx hb dX8_firstRuleThatHolds_31 rfl (lv_at hl 0 rfl) ?_
                obtain ⟨r11, wr11, hf⟩ := ha_bds hf
                obtain ⟨wr11, hr11⟩ := ha_rf_some wr11
                refine ha_getr hx hb hown hK hP q18 hN h0 wr11 dX8_firstRuleThatHolds_32 ?_
                refine lv_iload_n hx hb dX8_firstRuleThatHolds_35 rfl (lv_at hl 2 rfl) ?_
                obtain ⟨g12, hf⟩ := ha_gds hf
                refine ha_iald hx hb hK hP hN hr11 g12 dX8_firstRuleThatHolds_36 ?_
                obtain ⟨g13, hf⟩ := ha_gds hf
                refine ha_iald hx hb hK hP hN h1 g13 dX8_firstRuleThatHolds_37 ?_
                refine lv_aload_n hx hb dX8_firstRuleThatHolds_38 rfl (lv_at hl 0 rfl) ?_
                obtain ⟨r14, wr14, hf⟩ := ha_bds hf
                obtain ⟨wr14, hr14⟩ := ha_rf_some wr14
                refine ha_getr hx hb hown hK hP q21 hN h0 wr14 dX8_firstRuleThatHolds_39 ?_
                refine lv_iload_n hx hb dX8_firstRuleThatHolds_42 rfl (lv_at hl 2 rfl) ?_
                obtain ⟨g15, hf⟩ := ha_gds hf
                refine ha_iald hx hb hK hP hN hr14 g15 dX8_firstRuleThatHolds_43 ?_
                refine lv_aload_n hx hb dX8_firstRuleThatHolds_44 rfl (lv_at hl 1 rfl) ?_
                refine lv_aload_n hx hb dX8_firstRuleThatHolds_45 rfl (lv_at hl 0 rfl) ?_
                obtain ⟨r16, wr16, hf⟩ := ha_bds hf
                obtain ⟨wr16, hr16⟩ := ha_rf_some wr16
                refine ha_getr hx hb hown hK hP q24 hN h0 wr16 dX8_firstRuleThatHolds_46 ?_
                refine lv_iload_n hx hb dX8_firstRuleThatHolds_49 rfl (lv_at hl 2 rfl) ?_
                obtain ⟨g17, hf⟩ := ha_gds hf
                refine ha_iald hx hb hK hP hN hr16 g17 dX8_firstRuleThatHolds_50 ?_
                obtain ⟨g18, hf⟩ := ha_gds hf
                refine ha_iald hx hb hK hP hN h1 g18 dX8_firstRuleThatHolds_51 ?_
                obtain ⟨z19, wz19, hf⟩ := ha_bds hf
                refine ha_callSi (As := [.int ((ha_gA S p1 ((ha_gA S r11 (v2 : Int32).toNatClampNeg) : Int32).toNatClampNeg)), .int ((ha_gA S r14 (v2 : Int32).toNatClampNeg)), .int ((ha_gA S p1 ((ha_gA S r16 (v2 : Int32).toNatClampNeg) : Int32).toNatClampNeg))]) (rest := []) hZ ⟨hx, hb, hml, hown, hts⟩ hK hz hP hD hS (c_X8_holds   wz19) cw0 rfl hl.1 rfl (Nat.le_of_ble_eq_true rfl) dX8_firstRuleThatHolds_52 ⟨Nat.le_of_ble_eq_true rfl, Nat.le_of_ble_eq_true rfl⟩ (fun H locs hP hD hS => ?_)
                refine lv_istore (lv' := [(4, .int z19), (0, .ref (ad p0)), (1, .ref (ad p1)), (2, .int v2), (3, .int v3)]) hx hb dX8_firstRuleThatHolds_55 hl (by decide) rfl (fun ls hl => ?_)
                obtain ⟨x20, ex20⟩ : ∃ y : Int32, y = (v2 : Int32) + 1 := ⟨_, rfl⟩
                have hf := ha_nms hf ex20
                refine lv_iinc (v := x20) (lv' := [(2, .int x20), (4, .int z19), (0, .ref (ad p0)), (1, .ref (ad p1)), (3, .int v3)]) hx hb dX8_firstRuleThatHolds_57 hl (k := 3) rfl (by rw [ex20]; rfl) (by decide) rfl (fun ls hl => ?_)
                refine lv_goto (tgt := 15) hx hb dX8_firstRuleThatHolds_60 (by decide) ?_
                exact ih x20 v3 z19 S H locs ls hf  hP hD hS (lv_sub hl [2, 3, 0, 4, 1] rfl)
        refine key21 _ (fun v3 v4 S H locs ls hf  hP hD hS hl => ?_) ha_fu v2 v3 1 S H locs ls (ha_as hf)  hP hD hS (lv_sub hl [1, 2, 3, 4, 0] rfl)
        have hf : (f_X8_firstRuleThatHolds_L4_J63 p0 p1 (f_X8_firstRuleThatHolds_L4i p0 p1 n) v3 v4 S).bind K = some out := hf
        exact J63 v3 v4 S H locs ls hf  hP hD hS (lv_sub hl [0, 1, 2, 3] rfl)
  refine key23 _ (fun  S H locs ls hf  hP hD hS hl => ?_) (fun r h => Option.some.inj h) ha_fu 0 0 S H locs ls (ha_as hf)  hP hD hS (lv_sub hl [2, 3, 1, 0] rfl)
  have hf : (f_X8_firstRuleThatHolds_J83 p0 p1  S).bind some = some out := hf
  exact J83  S H locs ls hf  hP hD hS (lv_sub hl [0, 1] rfl)

set_option maxHeartbeats 4000000 in
set_option maxRecDepth 100000 in
theorem c_X8_firstAct {l : Launch} {D : va_G} {cs : Nat → ClassId} {ad adK adV : Nat → Nat} {N : List Nat} {Z : State → Prop} (hZ : ha_Zok (ha_A ad N) Z) (hN : ∀ x, xo_kd x < 999 → x ∈ N) (hX : ∀ U, Z U → xo_Z adK adV (ha_A ad N) U) {p0 : Nat} {p1 : Int32} {S : ha_St} {out : Int32 × ha_St} (h0 : xo_kd p0 = 8) (hf : f_X8_firstAct p0 p1 S = some out) : ha_Ci l D cs ad xo_kd xo_ln N Z yX8_firstAct wsX8_firstAct ({ frames := 0, cells := 0, slots := 0, locals := 0 } : Room) [.ref (ad p0), .int p1] S out.1 out.2 := by
  refine Met.ofW (cc := cX8_firstAct) (maxL := 2) (ret := (some .int)) (by decide +kernel) rfl ?_
  intro p e s m args below meth c s₁ B hml hv
  obtain ⟨rfl, hP, hD, hK, hz⟩ := hv
  have hx := B.exec
  have hb := B.bytes
  have hr := B.returns
  have hts := atoms_spec (ws := wsX8_firstAct) B.pre
  have hown : s.vm.findClass RX8 = some m.cls := findClass_of_methodNamed B.named
  have hlocks := B.notSynchronized
  have hS : va_S (ha_A ad N) s.heap s.heap [] := va_S.rf
  have hi8 : ∀ w ∈ wsX80, w ∈ wsX8_firstAct := fun w h => List.mem_cons_of_mem _ (List.mem_append_right _ h)
  have q15 : ha_Fk s ([.ref (ad p0), .int p1] : List Value).toArray RX8 15 8 1 1 := ⟨RX8, TX8, 12, wsX8_firstAct, rfl, by decide, by decide, rfl, rfl, hts, hi8, hts (.fieldLink RX8 15 "HillArms$Program" "actsEnd" "[I") (by decide +kernel)⟩
  have hl := lv_entry ([.ref (ad p0), .int p1]) (n := 2) (Nat.le_of_ble_eq_true rfl)
  rw [lg_entry_eq]
  generalize (lg_sl ([.ref (ad p0), .int p1]) ++ List.replicate (2 - (lg_sl ([.ref (ad p0), .int p1])).length) Slot.unset).toArray = ls at hl ⊢
  have hl : lv_has ls 2 [(0, .ref (ad p0)), (1, .int p1)] := hl
  refine (fun (K0 : ∀ (H : Heap) (locs : List Loc), va_P D vwCl (ha_wl cs ad xo_kd xo_ln N S) H → va_S (ha_A ad N) s.heap H locs → W p l e (headSpec wsX8_firstAct ({ frames := 0, cells := 0, slots := 0, locals := 0 } : Room)).room s m ([.ref (ad p0), .int p1] : List Value).toArray below meth c H locs 0 0 (MQ below (va_Qi (fun (r : Int32) (_ : Unit) => r = out.1) (fun _ => ha_H D cs ad xo_kd xo_ln N out.2) (ha_A ad N)) ([.ref (ad p0), .int p1] : List Value).toArray s 0 0 (ha_A ad N)) (F0 m 0 ls [])) => K0 _ _ hP hS) ?_
  intro H locs hP hS
  have hf := ha_rt hf
  have J16 : ∀ (k0 : Int32) (S : ha_St) (H : Heap) (locs : List Loc) (ls : Array Slot), (f_X8_firstAct_J16 p0 p1 k0 S).bind some = some out → va_P D vwCl (ha_wl cs ad xo_kd xo_ln N S) H → va_D (ha_A ad N) (ha_wl cs ad xo_kd xo_ln N S) → va_S (ha_A ad N) s.heap H locs → lv_has ls 2 [(0, .ref (ad p0)), (1, .int p1)] → W p l e (headSpec wsX8_firstAct ({ frames := 0, cells := 0, slots := 0, locals := 0 } : Room)).room s m ([.ref (ad p0), .int p1] : List Value).toArray below meth c H locs 0 0 (MQ below (va_Qi (fun (r : Int32) (_ : Unit) => r = out.1) (fun _ => ha_H D cs ad xo_kd xo_ln N out.2) (ha_A ad N)) ([.ref (ad p0), .int p1] : List Value).toArray s 0 0 (ha_A ad N)) (F0 m 16 ls [.int k0]) := by
    intro k0 S H locs ls hf  hP hD hS hl
    unfold f_X8_firstAct_J16 at hf
    have he := Option.some.inj hf
    exact ha_reti hx hb hr hlocks hP hD hS dX8_firstAct_16 (ha_e1 he) (ha_e2 he)
  unfold f_X8_firstAct at hf
  refine lv_iload_n hx hb dX8_firstAct_0 rfl (lv_at hl 1 rfl) ?_
  refine lv_if_le (tgt := 15) hx hb dX8_firstAct_1 (by decide) (fun c1 => ?_) (fun c1 => ?_)
  · have hf := ha_it hf c1
    refine lv_iconst (v := 0) hx hb dX8_firstAct_15 (by decide) ?_
    exact J16 0 S H locs ls hf  hP hD hS (lv_sub hl [0, 1] rfl)
  · have hf := ha_if hf c1
    refine lv_aload_n hx hb dX8_firstAct_4 rfl (lv_at hl 0 rfl) ?_
    obtain ⟨r2, wr2, hf⟩ := ha_bds hf
    obtain ⟨wr2, hr2⟩ := ha_rf_some wr2
    refine ha_getr hx hb hown hK hP q15 hN h0 wr2 dX8_firstAct_5 ?_
    refine lv_iload_n hx hb dX8_firstAct_8 rfl (lv_at hl 1 rfl) ?_
    refine lv_iconst (v := 1) hx hb dX8_firstAct_9 (by decide) ?_
    refine lv_isub hx hb dX8_firstAct_10 ?_
    obtain ⟨g3, hf⟩ := ha_gds hf
    refine ha_iald hx hb hK hP hN hr2 g3 dX8_firstAct_11 ?_
    refine lv_goto (tgt := 16) hx hb dX8_firstAct_12 (by decide) ?_
    exact J16 ((ha_gA S r2 (((p1 : Int32) - 1) : Int32).toNatClampNeg)) S H locs ls hf  hP hD hS (lv_sub hl [0, 1] rfl)

set_option maxHeartbeats 4000000 in
set_option maxRecDepth 100000 in
theorem c_X5_put {l : Launch} {D : va_G} {cs : Nat → ClassId} {ad adK adV : Nat → Nat} {N : List Nat} {Z : State → Prop} (hZ : ha_Zok (ha_A ad N) Z) (hN : ∀ x, xo_kd x < 999 → x ∈ N) (hX : ∀ U, Z U → xo_Z adK adV (ha_A ad N) U) {p0 : Nat} {p1 : Int32} {p2 : Int32} {S : ha_St} {out : ha_St} (h0 : xo_kd p0 = 5) (hf : f_X5_put p0 p1 p2 S = some out) : ha_Cv l D cs ad xo_kd xo_ln N Z yX5_put wsX5_put ({ frames := 0, cells := 0, slots := 0, locals := 0 } : Room) [.ref (ad p0), .int p1, .int p2] S out := by
  refine Met.ofW (cc := cX5_put) (maxL := 3) (ret := none) (by decide +kernel) rfl ?_
  intro p e s m args below meth c s₁ B hml hv
  obtain ⟨rfl, hP, hD, hK, hz⟩ := hv
  have hx := B.exec
  have hb := B.bytes
  have hr := B.returns
  have hts := atoms_spec (ws := wsX5_put) B.pre
  have hown : s.vm.findClass RX5 = some m.cls := findClass_of_methodNamed B.named
  have hlocks := B.notSynchronized
  have hS : va_S (ha_A ad N) s.heap s.heap [] := va_S.rf
  have hi5 : ∀ w ∈ wsX50, w ∈ wsX5_put := fun w h => List.mem_cons_of_mem _ (List.mem_append_right _ h)
  have q43 : ha_Fk s ([.ref (ad p0), .int p1, .int p2] : List Value).toArray RX5 43 5 5 0 := ⟨RX5, TX5, 8, wsX5_put, rfl, by decide, by decide, rfl, rfl, hts, hi5, hts (.fieldLink RX5 43 "HillArms$Line" "wrote" "I") (by decide +kernel)⟩
  have q24 : ha_Fk s ([.ref (ad p0), .int p1, .int p2] : List Value).toArray RX5 24 5 7 0 := ⟨RX5, TX5, 8, wsX5_put, rfl, by decide, by decide, rfl, rfl, hts, hi5, hts (.fieldLink RX5 24 "HillArms$Line" "wrongAt" "I") (by decide +kernel)⟩
  have q21 : ha_Fk s ([.ref (ad p0), .int p1, .int p2] : List Value).toArray RX5 21 5 3 1 := ⟨RX5, TX5, 8, wsX5_put, rfl, by decide, by decide, rfl, rfl, hts, hi5, hts (.fieldLink RX5 21 "HillArms$Line" "book" "[I") (by decide +kernel)⟩
  have r43 : ha_Fp s ([.ref (ad p0), .int p1, .int p2] : List Value).toArray RX5 43 5 5 0 .int := ⟨RX5, TX5, 8, wsX5_put, tyX5, rfl, by decide, by decide, rfl, rfl, hts, hi5, hts (.fieldLink RX5 43 "HillArms$Line" "wrote" "I") (by decide +kernel), tyX5_ok, nmX5, rfl, by decide +kernel⟩
  have r24 : ha_Fp s ([.ref (ad p0), .int p1, .int p2] : List Value).toArray RX5 24 5 7 0 .int := ⟨RX5, TX5, 8, wsX5_put, tyX5, rfl, by decide, by decide, rfl, rfl, hts, hi5, hts (.fieldLink RX5 24 "HillArms$Line" "wrongAt" "I") (by decide +kernel), tyX5_ok, nmX5, rfl, by decide +kernel⟩
  have hl := lv_entry ([.ref (ad p0), .int p1, .int p2]) (n := 3) (Nat.le_of_ble_eq_true rfl)
  rw [lg_entry_eq]
  generalize (lg_sl ([.ref (ad p0), .int p1, .int p2]) ++ List.replicate (3 - (lg_sl ([.ref (ad p0), .int p1, .int p2])).length) Slot.unset).toArray = ls at hl ⊢
  have hl : lv_has ls 3 [(0, .ref (ad p0)), (1, .int p1), (2, .int p2)] := hl
  refine (fun (K0 : ∀ (H : Heap) (locs : List Loc), va_P D vwCl (ha_wl cs ad xo_kd xo_ln N S) H → va_S (ha_A ad N) s.heap H locs → W p l e (headSpec wsX5_put ({ frames := 0, cells := 0, slots := 0, locals := 0 } : Room)).room s m ([.ref (ad p0), .int p1, .int p2] : List Value).toArray below meth c H locs 0 0 (MQ below (va_Qv (fun (_ : Unit) => True) (fun _ => ha_H D cs ad xo_kd xo_ln N out) (ha_A ad N)) ([.ref (ad p0), .int p1, .int p2] : List Value).toArray s 0 0 (ha_A ad N)) (F0 m 0 ls [])) => K0 _ _ hP hS) ?_
  intro H locs hP hS
  have hf := ha_rt hf
  have J52 : ∀  (S : ha_St) (H : Heap) (locs : List Loc) (ls : Array Slot), (f_X5_put_J52 p0 p1 p2  S).bind some = some out → va_P D vwCl (ha_wl cs ad xo_kd xo_ln N S) H → va_D (ha_A ad N) (ha_wl cs ad xo_kd xo_ln N S) → va_S (ha_A ad N) s.heap H locs → lv_has ls 3 [(0, .ref (ad p0)), (1, .int p1), (2, .int p2)] → W p l e (headSpec wsX5_put ({ frames := 0, cells := 0, slots := 0, locals := 0 } : Room)).room s m ([.ref (ad p0), .int p1, .int p2] : List Value).toArray below meth c H locs 0 0 (MQ below (va_Qv (fun (_ : Unit) => True) (fun _ => ha_H D cs ad xo_kd xo_ln N out) (ha_A ad N)) ([.ref (ad p0), .int p1, .int p2] : List Value).toArray s 0 0 (ha_A ad N)) (F0 m 52 ls []) := by
    intro  S H locs ls hf  hP hD hS hl
    unfold f_X5_put_J52 at hf
    refine lv_aload_n hx hb dX5_put_52 rfl (lv_at hl 0 rfl) ?_
    refine lv_dup hx hb dX5_put_53 rfl ?_
    refine ha_geti hx hb hown hK hP q43 hN h0 dX5_put_54 ?_
    refine lv_iconst (v := 1) hx hb dX5_put_57 (by decide) ?_
    refine lv_iadd hx hb dX5_put_58 ?_
    refine ha_puti hx hb hown hK hP hD hS r43 hN h0 dX5_put_59 (fun S1 H locs eS1 hP hD hS => ?_)
    have hf := ha_nms hf eS1
    have he := Option.some.inj hf
    exact ha_retv hx hb hr hlocks hP hD hS dX5_put_62 he
  have J32 : ∀  (S : ha_St) (H : Heap) (locs : List Loc) (ls : Array Slot), (f_X5_put_J32 p0 p1 p2  S).bind some = some out → va_P D vwCl (ha_wl cs ad xo_kd xo_ln N S) H → va_D (ha_A ad N) (ha_wl cs ad xo_kd xo_ln N S) → va_S (ha_A ad N) s.heap H locs → lv_has ls 3 [(0, .ref (ad p0)), (1, .int p1), (2, .int p2)] → W p l e (headSpec wsX5_put ({ frames := 0, cells := 0, slots := 0, locals := 0 } : Room)).room s m ([.ref (ad p0), .int p1, .int p2] : List Value).toArray below meth c H locs 0 0 (MQ below (va_Qv (fun (_ : Unit) => True) (fun _ => ha_H D cs ad xo_kd xo_ln N out) (ha_A ad N)) ([.ref (ad p0), .int p1, .int p2] : List Value).toArray s 0 0 (ha_A ad N)) (F0 m 32 ls []) := by
    intro  S H locs ls hf  hP hD hS hl
    unfold f_X5_put_J32 at hf
    refine lv_iload_n hx hb dX5_put_32 rfl (lv_at hl 2 rfl) ?_
    refine lv_if_ne (tgt := 52) hx hb dX5_put_33 (by decide) (fun c2 => ?_) (fun c2 => ?_)
    · have hf := ha_it hf c2
      exact J52  S H locs ls hf  hP hD hS (lv_sub hl [0, 1, 2] rfl)
    · have hf := ha_if hf (fun q => q c2)
      refine lv_aload_n hx hb dX5_put_36 rfl (lv_at hl 0 rfl) ?_
      refine ha_geti hx hb hown hK hP q24 hN h0 dX5_put_37 ?_
      refine lv_iconst (v := (-1)) hx hb dX5_put_40 (by decide) ?_
      refine lv_icmp_ne (tgt := 52) hx hb dX5_put_41 (by decide) (fun c3 => ?_) (fun c3 => ?_)
      · have hf := ha_it hf c3
        exact J52  S H locs ls hf  hP hD hS (lv_sub hl [0, 1, 2] rfl)
      · have hf := ha_if hf (fun q => q c3)
        refine lv_aload_n hx hb dX5_put_44 rfl (lv_at hl 0 rfl) ?_
        refine lv_aload_n hx hb dX5_put_45 rfl (lv_at hl 0 rfl) ?_
        refine ha_geti hx hb hown hK hP q43 hN h0 dX5_put_46 ?_
        refine ha_puti hx hb hown hK hP hD hS r24 hN h0 dX5_put_49 (fun S4 H locs eS4 hP hD hS => ?_)
        have hf := ha_nms hf eS4
        exact J52  S4 H locs ls hf  hP hD hS (lv_sub hl [0, 1, 2] rfl)
  unfold f_X5_put at hf
  refine lv_aload_n hx hb dX5_put_0 rfl (lv_at hl 0 rfl) ?_
  refine ha_geti hx hb hown hK hP q43 hN h0 dX5_put_1 ?_
  refine lv_bipush (v := 100) hx hb dX5_put_4 (by decide) ?_
  refine lv_icmp_lt (tgt := 10) hx hb dX5_put_6 (by decide) (fun c5 => ?_) (fun c5 => ?_)
  · have hf := ha_it hf c5
    refine lv_aload_n hx hb dX5_put_10 rfl (lv_at hl 0 rfl) ?_
    refine ha_geti hx hb hown hK hP q43 hN h0 dX5_put_11 ?_
    refine lv_aload_n hx hb dX5_put_14 rfl (lv_at hl 0 rfl) ?_
    obtain ⟨r6, wr6, hf⟩ := ha_bds hf
    obtain ⟨wr6, hr6⟩ := ha_rf_some wr6
    refine ha_getr hx hb hown hK hP q21 hN h0 wr6 dX5_put_15 ?_
    refine ha_alen hx hb hK hP hN hr6 (by decide) (by decide) dX5_put_18 ?_
    refine lv_icmp_ge (tgt := 32) hx hb dX5_put_19 (by decide) (fun c7 => ?_) (fun c7 => ?_)
    · have hf := ha_it hf c7
      exact J32  S H locs ls hf  hP hD hS (lv_sub hl [0, 1, 2] rfl)
    · have hf := ha_if hf c7
      refine lv_aload_n hx hb dX5_put_22 rfl (lv_at hl 0 rfl) ?_
      obtain ⟨r8, wr8, hf⟩ := ha_bds hf
      obtain ⟨wr8, hr8⟩ := ha_rf_some wr8
      refine ha_getr hx hb hown hK hP q21 hN h0 wr8 dX5_put_23 ?_
      refine lv_aload_n hx hb dX5_put_26 rfl (lv_at hl 0 rfl) ?_
      refine ha_geti hx hb hown hK hP q43 hN h0 dX5_put_27 ?_
      refine lv_iload_n hx hb dX5_put_30 rfl (lv_at hl 1 rfl) ?_
      obtain ⟨g9, hf⟩ := ha_gds hf
      refine ha_iast hx hb hK hP hD hS hN hr8 g9 dX5_put_31 (fun S10 H locs eS10 hP hD hS => ?_)
      have hf := ha_nms hf eS10
      exact J32  S10 H locs ls hf  hP hD hS (lv_sub hl [0, 1, 2] rfl)
  · have hf := ha_if hf c5
    have he := Option.some.inj hf
    exact ha_retv hx hb hr hlocks hP hD hS dX5_put_9 he

set_option maxHeartbeats 4000000 in
set_option maxRecDepth 100000 in
theorem c_X1_act {l : Launch} {D : va_G} {cs : Nat → ClassId} {ad adK adV : Nat → Nat} {N : List Nat} {Z : State → Prop} (hZ : ha_Zok (ha_A ad N) Z) (hN : ∀ x, xo_kd x < 999 → x ∈ N) (hX : ∀ U, Z U → xo_Z adK adV (ha_A ad N) U) {p0 : Nat} {p1 : Nat} {p2 : Int32} {p3 : Nat} {p4 : Int32} {S : ha_St} {out : ha_St} (h0 : xo_kd p0 = 1) (h1 : xo_kd p1 = 5) (h3 : xo_kd p3 = 8) (hf : f_X1_act p0 p1 p2 p3 p4 S = some out) : ha_Cv l D cs ad xo_kd xo_ln N Z yX1_act wsX1_act ({ frames := 1, cells := 0, slots := 0, locals := 22 } : Room) [.ref (ad p0), .ref (ad p1), .int p2, .ref (ad p3), .int p4] S out := by
  refine Met.ofW (cc := cX1_act) (maxL := 10) (ret := none) (by decide +kernel) rfl ?_
  intro p e s m args below meth c s₁ B hml hv
  obtain ⟨rfl, hP, hD, hK, hz⟩ := hv
  have hx := B.exec
  have hb := B.bytes
  have hr := B.returns
  have hts := atoms_spec (ws := wsX1_act) B.pre
  have hown : s.vm.findClass RX1 = some m.cls := findClass_of_methodNamed B.named
  have hlocks := B.notSynchronized
  have hS : va_S (ha_A ad N) s.heap s.heap [] := va_S.rf
  have hi1 : ∀ w ∈ wsX10, w ∈ wsX1_act := fun w h => List.mem_cons_of_mem _ (List.mem_append_left _ (List.mem_append_right _ h))
  have hi5 : ∀ w ∈ wsX50, w ∈ wsX1_act := fun w h => List.mem_cons_of_mem _ (List.mem_append_right _ h)
  have hi8 : ∀ w ∈ wsX80, w ∈ wsX1_act := fun w h => List.mem_cons_of_mem _ (List.mem_append_left _ (List.mem_append_left _ (List.mem_append_right _ h)))
  have q63 : ha_Fk s ([.ref (ad p0), .ref (ad p1), .int p2, .ref (ad p3), .int p4] : List Value).toArray RX1 63 5 6 0 := ⟨RX5, TX5, 8, wsX1_act, rfl, by decide, by decide, rfl, rfl, hts, hi5, hts (.fieldLink RX1 63 "HillArms$Line" "sent" "I") (by decide +kernel)⟩
  have q49 : ha_Fk s ([.ref (ad p0), .ref (ad p1), .int p2, .ref (ad p3), .int p4] : List Value).toArray RX1 49 1 6 0 := ⟨RX1, TX1, 8, wsX1_act, rfl, by decide, by decide, rfl, rfl, hts, hi1, hts (.fieldLink RX1 49 "HillArms$Crew" "messageSigns" "I") (by decide +kernel)⟩
  have q27 : ha_Fk s ([.ref (ad p0), .ref (ad p1), .int p2, .ref (ad p3), .int p4] : List Value).toArray RX1 27 1 4 1 := ⟨RX1, TX1, 8, wsX1_act, rfl, by decide, by decide, rfl, rfl, hts, hi1, hts (.fieldLink RX1 27 "HillArms$Crew" "worth" "[I") (by decide +kernel)⟩
  have q69 : ha_Fk s ([.ref (ad p0), .ref (ad p1), .int p2, .ref (ad p3), .int p4] : List Value).toArray RX1 69 5 4 0 := ⟨RX5, TX5, 8, wsX1_act, rfl, by decide, by decide, rfl, rfl, hts, hi5, hts (.fieldLink RX1 69 "HillArms$Line" "towers" "I") (by decide +kernel)⟩
  have q60 : ha_Fk s ([.ref (ad p0), .ref (ad p1), .int p2, .ref (ad p3), .int p4] : List Value).toArray RX1 60 5 5 0 := ⟨RX5, TX5, 8, wsX1_act, rfl, by decide, by decide, rfl, rfl, hts, hi5, hts (.fieldLink RX1 60 "HillArms$Line" "wrote" "I") (by decide +kernel)⟩
  have q17 : ha_Fk s ([.ref (ad p0), .ref (ad p1), .int p2, .ref (ad p3), .int p4] : List Value).toArray RX1 17 1 1 1 := ⟨RX1, TX1, 8, wsX1_act, rfl, by decide, by decide, rfl, rfl, hts, hi1, hts (.fieldLink RX1 17 "HillArms$Crew" "message" "[I") (by decide +kernel)⟩
  have q114 : ha_Fk s ([.ref (ad p0), .ref (ad p1), .int p2, .ref (ad p3), .int p4] : List Value).toArray RX1 114 8 1 1 := ⟨RX8, TX8, 12, wsX1_act, rfl, by decide, by decide, rfl, rfl, hts, hi8, hts (.fieldLink RX1 114 "HillArms$Program" "actsEnd" "[I") (by decide +kernel)⟩
  have q117 : ha_Fk s ([.ref (ad p0), .ref (ad p1), .int p2, .ref (ad p3), .int p4] : List Value).toArray RX1 117 8 5 1 := ⟨RX8, TX8, 12, wsX1_act, rfl, by decide, by decide, rfl, rfl, hts, hi8, hts (.fieldLink RX1 117 "HillArms$Program" "act" "[I") (by decide +kernel)⟩
  have q119 : ha_Fk s ([.ref (ad p0), .ref (ad p1), .int p2, .ref (ad p3), .int p4] : List Value).toArray RX1 119 8 6 1 := ⟨RX8, TX8, 12, wsX1_act, rfl, by decide, by decide, rfl, rfl, hts, hi8, hts (.fieldLink RX1 119 "HillArms$Program" "sumFirst" "[I") (by decide +kernel)⟩
  have q122 : ha_Fk s ([.ref (ad p0), .ref (ad p1), .int p2, .ref (ad p3), .int p4] : List Value).toArray RX1 122 8 7 1 := ⟨RX8, TX8, 12, wsX1_act, rfl, by decide, by decide, rfl, rfl, hts, hi8, hts (.fieldLink RX1 122 "HillArms$Program" "sumSecond" "[I") (by decide +kernel)⟩
  have r63 : ha_Fp s ([.ref (ad p0), .ref (ad p1), .int p2, .ref (ad p3), .int p4] : List Value).toArray RX1 63 5 6 0 .int := ⟨RX5, TX5, 8, wsX1_act, tyX5, rfl, by decide, by decide, rfl, rfl, hts, hi5, hts (.fieldLink RX1 63 "HillArms$Line" "sent" "I") (by decide +kernel), tyX5_ok, nmX5, rfl, by decide +kernel⟩
  have cw0 := cwV (R := (headSpec wsX1_act ({ frames := 1, cells := 0, slots := 0, locals := 22 } : Room)).room) 1 hts gX1_act_X8_firstAct (rm := ({ frames := 0, cells := 0, slots := 0, locals := 0 } : Room)) (mc := 0) (ms := 0) rfl rfl rfl (by decide +kernel) ⟨Nat.le_of_ble_eq_true rfl, Nat.le_of_ble_eq_true rfl⟩
  have cw1 := cwV (R := (headSpec wsX1_act ({ frames := 1, cells := 0, slots := 0, locals := 22 } : Room)).room) 1 hts gX1_act_X1_wordOf (rm := ({ frames := 0, cells := 0, slots := 0, locals := 0 } : Room)) (mc := 0) (ms := 0) rfl rfl rfl (by decide +kernel) ⟨Nat.le_of_ble_eq_true rfl, Nat.le_of_ble_eq_true rfl⟩
  have cw2 := cwV (R := (headSpec wsX1_act ({ frames := 1, cells := 0, slots := 0, locals := 22 } : Room)).room) 2 hts gX1_act_X5_put (rm := ({ frames := 0, cells := 0, slots := 0, locals := 0 } : Room)) (mc := 0) (ms := 0) rfl rfl rfl (by decide +kernel) ⟨Nat.le_of_ble_eq_true rfl, Nat.le_of_ble_eq_true rfl⟩
  have cw3 := va_cwS (R := (headSpec wsX1_act ({ frames := 1, cells := 0, slots := 0, locals := 22 } : Room)).room) 2 hts gX1_act_J9_floorMod_7cf53 (rm := ({ frames := 0, cells := 0, slots := 0, locals := 0 } : Room)) (mc := 0) (ms := 0) rfl rfl rfl (by decide +kernel) ⟨Nat.le_of_ble_eq_true rfl, Nat.le_of_ble_eq_true rfl⟩
  have hl := lv_entry ([.ref (ad p0), .ref (ad p1), .int p2, .ref (ad p3), .int p4]) (n := 10) (Nat.le_of_ble_eq_true rfl)
  rw [lg_entry_eq]
  generalize (lg_sl ([.ref (ad p0), .ref (ad p1), .int p2, .ref (ad p3), .int p4]) ++ List.replicate (10 - (lg_sl ([.ref (ad p0), .ref (ad p1), .int p2, .ref (ad p3), .int p4])).length) Slot.unset).toArray = ls at hl ⊢
  have hl : lv_has ls 10 [(0, .ref (ad p0)), (1, .ref (ad p1)), (2, .int p2), (3, .ref (ad p3)), (4, .int p4)] := hl
  refine (fun (K0 : ∀ (H : Heap) (locs : List Loc), va_P D vwCl (ha_wl cs ad xo_kd xo_ln N S) H → va_S (ha_A ad N) s.heap H locs → W p l e (headSpec wsX1_act ({ frames := 1, cells := 0, slots := 0, locals := 22 } : Room)).room s m ([.ref (ad p0), .ref (ad p1), .int p2, .ref (ad p3), .int p4] : List Value).toArray below meth c H locs 0 0 (MQ below (va_Qv (fun (_ : Unit) => True) (fun _ => ha_H D cs ad xo_kd xo_ln N out) (ha_A ad N)) ([.ref (ad p0), .ref (ad p1), .int p2, .ref (ad p3), .int p4] : List Value).toArray s 0 0 (ha_A ad N)) (F0 m 0 ls [])) => K0 _ _ hP hS) ?_
  intro H locs hP hS
  have hf := ha_rt hf
  have J220 : ∀  (S : ha_St) (H : Heap) (locs : List Loc) (ls : Array Slot), (f_X1_act_J220 p0 p1 p2 p3 p4  S).bind some = some out → va_P D vwCl (ha_wl cs ad xo_kd xo_ln N S) H → va_D (ha_A ad N) (ha_wl cs ad xo_kd xo_ln N S) → va_S (ha_A ad N) s.heap H locs → lv_has ls 10 [(0, .ref (ad p0)), (1, .ref (ad p1)), (2, .int p2), (3, .ref (ad p3)), (4, .int p4)] → W p l e (headSpec wsX1_act ({ frames := 1, cells := 0, slots := 0, locals := 22 } : Room)).room s m ([.ref (ad p0), .ref (ad p1), .int p2, .ref (ad p3), .int p4] : List Value).toArray below meth c H locs 0 0 (MQ below (va_Qv (fun (_ : Unit) => True) (fun _ => ha_H D cs ad xo_kd xo_ln N out) (ha_A ad N)) ([.ref (ad p0), .ref (ad p1), .int p2, .ref (ad p3), .int p4] : List Value).toArray s 0 0 (ha_A ad N)) (F0 m 220 ls []) := by
    intro  S H locs ls hf  hP hD hS hl
    unfold f_X1_act_J220 at hf
    have he := Option.some.inj hf
    exact ha_retv hx hb hr hlocks hP hD hS dX1_act_220 he
  unfold f_X1_act at hf
  refine lv_aload_n hx hb dX1_act_0 rfl (lv_at hl 3 rfl) ?_
  refine lv_iload hx hb dX1_act_1 (lv_at hl 4 rfl) ?_
  obtain ⟨z1, wz1, hf⟩ := ha_bds hf
  refine ha_callVi (As := [.int p4]) (rest := []) hZ ⟨hx, hb, hml, hown, hts⟩ hK hz hP hD hS (c_X8_firstAct hZ hN hX h3 wz1) cw0 hN h3 (by decide) rfl rfl hl.1 rfl (Nat.le_of_ble_eq_true rfl) dX1_act_3 ⟨Nat.le_of_ble_eq_true rfl, Nat.le_of_ble_eq_true rfl⟩ (fun H locs hP hD hS => ?_)
  refine lv_istore (lv' := [(5, .int z1.1), (0, .ref (ad p0)), (1, .ref (ad p1)), (2, .int p2), (3, .ref (ad p3)), (4, .int p4)]) hx hb dX1_act_6 hl (by decide) rfl (fun ls hl => ?_)
  have key43 : ∀ (K : (ha_St) → Option (ha_St)), (∀  (S : ha_St) (H : Heap) (locs : List Loc) (ls : Array Slot), K S = some out → va_P D vwCl (ha_wl cs ad xo_kd xo_ln N S) H → va_D (ha_A ad N) (ha_wl cs ad xo_kd xo_ln N S) → va_S (ha_A ad N) s.heap H locs → lv_has ls 10 [(0, .ref (ad p0)), (1, .ref (ad p1)), (2, .int p2), (3, .ref (ad p3)), (4, .int p4)] → W p l e (headSpec wsX1_act ({ frames := 1, cells := 0, slots := 0, locals := 22 } : Room)).room s m ([.ref (ad p0), .ref (ad p1), .int p2, .ref (ad p3), .int p4] : List Value).toArray below meth c H locs 0 0 (MQ below (va_Qv (fun (_ : Unit) => True) (fun _ => ha_H D cs ad xo_kd xo_ln N out) (ha_A ad N)) ([.ref (ad p0), .ref (ad p1), .int p2, .ref (ad p3), .int p4] : List Value).toArray s 0 0 (ha_A ad N)) (F0 m 220 ls [])) → ∀ (n : Nat) (v5 : Int32) (S : ha_St) (H : Heap) (locs : List Loc) (ls : Array Slot), (f_X1_act_L8i p0 p1 p2 p3 p4 n (v5, S)).bind K = some out → va_P D vwCl (ha_wl cs ad xo_kd xo_ln N S) H → va_D (ha_A ad N) (ha_wl cs ad xo_kd xo_ln N S) → va_S (ha_A ad N) s.heap H locs → lv_has ls 10 [(0, .ref (ad p0)), (1, .ref (ad p1)), (2, .int p2), (3, .ref (ad p3)), (4, .int p4), (5, .int v5)] → W p l e (headSpec wsX1_act ({ frames := 1, cells := 0, slots := 0, locals := 22 } : Room)).room s m ([.ref (ad p0), .ref (ad p1), .int p2, .ref (ad p3), .int p4] : List Value).toArray below meth c H locs 0 0 (MQ below (va_Qv (fun (_ : Unit) => True) (fun _ => ha_H D cs ad xo_kd xo_ln N out) (ha_A ad N)) ([.ref (ad p0), .ref (ad p1), .int p2, .ref (ad p3), .int p4] : List Value).toArray s 0 0 (ha_A ad N)) (F0 m 8 ls []) := by
    intro K hk n
    induction n with
    | zero =>
      intro v5 S H locs ls hf
      exact absurd (show (none : Option (ha_St)) = some out from hf) (fun h => by cases h)
    | succ n ih =>
      intro v5 S H locs ls hf  hP hD hS hl
      have J214 : ∀ (v5 : Int32) (S : ha_St) (H : Heap) (locs : List Loc) (ls : Array Slot), (f_X1_act_L8_J214 p0 p1 p2 p3 p4 (f_X1_act_L8i p0 p1 p2 p3 p4 n) v5 S).bind K = some out → va_P D vwCl (ha_wl cs ad xo_kd xo_ln N S) H → va_D (ha_A ad N) (ha_wl cs ad xo_kd xo_ln N S) → va_S (ha_A ad N) s.heap H locs → lv_has ls 10 [(0, .ref (ad p0)), (1, .ref (ad p1)), (2, .int p2), (3, .ref (ad p3)), (4, .int p4), (5, .int v5)] → W p l e (headSpec wsX1_act ({ frames := 1, cells := 0, slots := 0, locals := 22 } : Room)).room s m ([.ref (ad p0), .ref (ad p1), .int p2, .ref (ad p3), .int p4] : List Value).toArray below meth c H locs 0 0 (MQ below (va_Qv (fun (_ : Unit) => True) (fun _ => ha_H D cs ad xo_kd xo_ln N out) (ha_A ad N)) ([.ref (ad p0), .ref (ad p1), .int p2, .ref (ad p3), .int p4] : List Value).toArray s 0 0 (ha_A ad N)) (F0 m 214 ls []) := by
        intro v5 S H locs ls hf  hP hD hS hl
        unfold f_X1_act_L8_J214 at hf
        obtain ⟨x2, ex2⟩ : ∃ y : Int32, y = (v5 : Int32) + 1 := ⟨_, rfl⟩
        have hf := ha_nms hf ex2
        refine lv_iinc (v := x2) (lv' := [(5, .int x2), (0, .ref (ad p0)), (1, .ref (ad p1)), (2, .int p2), (3, .ref (ad p3)), (4, .int p4)]) hx hb dX1_act_214 hl (k := 5) rfl (by rw [ex2]; rfl) (by decide) rfl (fun ls hl => ?_)
        refine lv_goto (tgt := 8) hx hb dX1_act_217 (by decide) ?_
        exact ih x2 S H locs ls hf  hP hD hS (lv_sub hl [1, 2, 3, 4, 5, 0] rfl)
      have J170 : ∀ (v5 : Int32) (v6 : Int32) (S : ha_St) (H : Heap) (locs : List Loc) (ls : Array Slot), (f_X1_act_L8_J170 p0 p1 p2 p3 p4 (f_X1_act_L8i p0 p1 p2 p3 p4 n) v5 v6 S).bind K = some out → va_P D vwCl (ha_wl cs ad xo_kd xo_ln N S) H → va_D (ha_A ad N) (ha_wl cs ad xo_kd xo_ln N S) → va_S (ha_A ad N) s.heap H locs → lv_has ls 10 [(0, .ref (ad p0)), (1, .ref (ad p1)), (2, .int p2), (3, .ref (ad p3)), (4, .int p4), (5, .int v5), (6, .int v6)] → W p l e (headSpec wsX1_act ({ frames := 1, cells := 0, slots := 0, locals := 22 } : Room)).room s m ([.ref (ad p0), .ref (ad p1), .int p2, .ref (ad p3), .int p4] : List Value).toArray below meth c H locs 0 0 (MQ below (va_Qv (fun (_ : Unit) => True) (fun _ => ha_H D cs ad xo_kd xo_ln N out) (ha_A ad N)) ([.ref (ad p0), .ref (ad p1), .int p2, .ref (ad p3), .int p4] : List Value).toArray s 0 0 (ha_A ad N)) (F0 m 170 ls []) := by
        intro v5 v6 S H locs ls hf  hP hD hS hl
        unfold f_X1_act_L8_J170 at hf
        refine lv_iload hx hb dX1_act_170 (lv_at hl 6 rfl) ?_
        refine lv_bipush (v := 116) hx hb dX1_act_172 (by decide) ?_
        refine lv_icmp_ne (tgt := 214) hx hb dX1_act_174 (by decide) (fun c3 => ?_) (fun c3 => ?_)
        · have hf := ha_it hf c3
          exact J214 v5 S H locs ls hf  hP hD hS (lv_sub hl [0, 1, 2, 3, 4, 5] rfl)
        · have hf := ha_if hf (fun q => q c3)
          refine lv_iload_n hx hb dX1_act_177 rfl (lv_at hl 2 rfl) ?_
          refine lv_if_ne (tgt := 214) hx hb dX1_act_178 (by decide) (fun c4 => ?_) (fun c4 => ?_)
          · have hf := ha_it hf c4
            exact J214 v5 S H locs ls hf  hP hD hS (lv_sub hl [0, 1, 2, 3, 4, 5] rfl)
          · have hf := ha_if hf (fun q => q c4)
            refine lv_aload_n hx hb dX1_act_181 rfl (lv_at hl 1 rfl) ?_
            refine ha_geti hx hb hown hK hP q63 hN h1 dX1_act_182 ?_
            refine lv_aload_n hx hb dX1_act_185 rfl (lv_at hl 0 rfl) ?_
            refine ha_geti hx hb hown hK hP q49 hN h0 dX1_act_186 ?_
            refine lv_icmp_ge (tgt := 214) hx hb dX1_act_189 (by decide) (fun c5 => ?_) (fun c5 => ?_)
            · have hf := ha_it hf c5
              exact J214 v5 S H locs ls hf  hP hD hS (lv_sub hl [0, 1, 2, 3, 4, 5] rfl)
            · have hf := ha_if hf c5
              refine lv_aload_n hx hb dX1_act_192 rfl (lv_at hl 1 rfl) ?_
              refine lv_dup hx hb dX1_act_193 rfl ?_
              refine ha_geti hx hb hown hK hP q63 hN h1 dX1_act_194 ?_
              refine lv_iconst (v := 1) hx hb dX1_act_197 (by decide) ?_
              refine lv_iadd hx hb dX1_act_198 ?_
              refine ha_puti hx hb hown hK hP hD hS r63 hN h1 dX1_act_199 (fun S6 H locs eS6 hP hD hS => ?_)
              have hf := ha_nms hf eS6
              refine lv_aload_n hx hb dX1_act_202 rfl (lv_at hl 0 rfl) ?_
              obtain ⟨r7, wr7, hf⟩ := ha_bds hf
              obtain ⟨wr7, hr7⟩ := ha_rf_some wr7
              refine ha_getr hx hb hown hK hP q27 hN h0 wr7 dX1_act_203 ?_
              refine lv_bipush (v := 104) hx hb dX1_act_206 (by decide) ?_
              refine lv_aload_n hx hb dX1_act_208 rfl (lv_at hl 0 rfl) ?_
              refine lv_aload_n hx hb dX1_act_209 rfl (lv_at hl 1 rfl) ?_
              obtain ⟨z8, wz8, hf⟩ := ha_bds hf
              refine ha_callVi (As := [.ref (ad p1)]) (rest := [.int 104, .ref (ad r7)]) hZ ⟨hx, hb, hml, hown, hts⟩ hK hz hP hD hS (c_X1_wordOf hZ hN hX h0 h1 wz8) cw1 hN h0 (by decide) rfl rfl hl.1 rfl (Nat.le_of_ble_eq_true rfl) dX1_act_210 ⟨Nat.le_of_ble_eq_true rfl, Nat.le_of_ble_eq_true rfl⟩ (fun H locs hP hD hS => ?_)
              obtain ⟨g9, hf⟩ := ha_gds hf
              refine ha_iast hx hb hK hP hD hS hN hr7 g9 dX1_act_213 (fun S10 H locs eS10 hP hD hS => ?_)
              have hf := ha_nms hf eS10
              exact J214 v5 S10 H locs ls hf  hP hD hS (lv_sub hl [0, 1, 2, 3, 4, 5] rfl)
      have J157 : ∀ (v5 : Int32) (v8 : Int32) (k0 : Int32) (S : ha_St) (H : Heap) (locs : List Loc) (ls : Array Slot), (f_X1_act_L8_J157 p0 p1 p2 p3 p4 (f_X1_act_L8i p0 p1 p2 p3 p4 n) v5 v8 k0 S).bind K = some out → va_P D vwCl (ha_wl cs ad xo_kd xo_ln N S) H → va_D (ha_A ad N) (ha_wl cs ad xo_kd xo_ln N S) → va_S (ha_A ad N) s.heap H locs → lv_has ls 10 [(0, .ref (ad p0)), (1, .ref (ad p1)), (2, .int p2), (3, .ref (ad p3)), (4, .int p4), (5, .int v5), (8, .int v8)] → W p l e (headSpec wsX1_act ({ frames := 1, cells := 0, slots := 0, locals := 22 } : Room)).room s m ([.ref (ad p0), .ref (ad p1), .int p2, .ref (ad p3), .int p4] : List Value).toArray below meth c H locs 0 0 (MQ below (va_Qv (fun (_ : Unit) => True) (fun _ => ha_H D cs ad xo_kd xo_ln N out) (ha_A ad N)) ([.ref (ad p0), .ref (ad p1), .int p2, .ref (ad p3), .int p4] : List Value).toArray s 0 0 (ha_A ad N)) (F0 m 157 ls [.int k0]) := by
        intro v5 v8 k0 S H locs ls hf  hP hD hS hl
        unfold f_X1_act_L8_J157 at hf
        refine lv_istore (lv' := [(9, .int k0), (0, .ref (ad p0)), (1, .ref (ad p1)), (2, .int p2), (3, .ref (ad p3)), (4, .int p4), (5, .int v5), (8, .int v8)]) hx hb dX1_act_157 hl (by decide) rfl (fun ls hl => ?_)
        refine lv_aload_n hx hb dX1_act_159 rfl (lv_at hl 2 rfl) ?_
        refine lv_iload hx hb dX1_act_160 (lv_at hl 7 rfl) ?_
        refine lv_iload hx hb dX1_act_162 (lv_at hl 0 rfl) ?_
        obtain ⟨z11, wz11, hf⟩ := ha_bds hf
        refine ha_callVv (As := [.int v8, .int k0]) (rest := []) hZ ⟨hx, hb, hml, hown, hts⟩ hK hz hP hD hS (c_X5_put hZ hN hX h1 wz11) cw2 hN h1 (by decide) rfl rfl hl.1 rfl (Nat.le_of_ble_eq_true rfl) dX1_act_164 ⟨Nat.le_of_ble_eq_true rfl, Nat.le_of_ble_eq_true rfl⟩ (fun H locs hP hD hS => ?_)
        refine lv_goto (tgt := 214) hx hb dX1_act_167 (by decide) ?_
        exact J214 v5 z11 H locs ls hf  hP hD hS (lv_sub hl [1, 2, 3, 4, 5, 6] rfl)
      have J156 : ∀ (v5 : Int32) (v8 : Int32) (S : ha_St) (H : Heap) (locs : List Loc) (ls : Array Slot), (f_X1_act_L8_J156 p0 p1 p2 p3 p4 (f_X1_act_L8i p0 p1 p2 p3 p4 n) v5 v8 S).bind K = some out → va_P D vwCl (ha_wl cs ad xo_kd xo_ln N S) H → va_D (ha_A ad N) (ha_wl cs ad xo_kd xo_ln N S) → va_S (ha_A ad N) s.heap H locs → lv_has ls 10 [(0, .ref (ad p0)), (1, .ref (ad p1)), (2, .int p2), (3, .ref (ad p3)), (4, .int p4), (5, .int v5), (8, .int v8)] → W p l e (headSpec wsX1_act ({ frames := 1, cells := 0, slots := 0, locals := 22 } : Room)).room s m ([.ref (ad p0), .ref (ad p1), .int p2, .ref (ad p3), .int p4] : List Value).toArray below meth c H locs 0 0 (MQ below (va_Qv (fun (_ : Unit) => True) (fun _ => ha_H D cs ad xo_kd xo_ln N out) (ha_A ad N)) ([.ref (ad p0), .ref (ad p1), .int p2, .ref (ad p3), .int p4] : List Value).toArray s 0 0 (ha_A ad N)) (F0 m 156 ls []) := by
        intro v5 v8 S H locs ls hf  hP hD hS hl
        unfold f_X1_act_L8_J156 at hf
        refine lv_iconst (v := 0) hx hb dX1_act_156 (by decide) ?_
        exact J157 v5 v8 0 S H locs ls hf  hP hD hS (lv_sub hl [0, 1, 2, 3, 4, 5, 6] rfl)
      have J110 : ∀ (v5 : Int32) (v6 : Int32) (v8 : Int32) (S : ha_St) (H : Heap) (locs : List Loc) (ls : Array Slot), (f_X1_act_L8_J110 p0 p1 p2 p3 p4 (f_X1_act_L8i p0 p1 p2 p3 p4 n) v5 v6 v8 S).bind K = some out → va_P D vwCl (ha_wl cs ad xo_kd xo_ln N S) H → va_D (ha_A ad N) (ha_wl cs ad xo_kd xo_ln N S) → va_S (ha_A ad N) s.heap H locs → lv_has ls 10 [(0, .ref (ad p0)), (1, .ref (ad p1)), (2, .int p2), (3, .ref (ad p3)), (4, .int p4), (5, .int v5), (6, .int v6), (8, .int v8)] → W p l e (headSpec wsX1_act ({ frames := 1, cells := 0, slots := 0, locals := 22 } : Room)).room s m ([.ref (ad p0), .ref (ad p1), .int p2, .ref (ad p3), .int p4] : List Value).toArray below meth c H locs 0 0 (MQ below (va_Qv (fun (_ : Unit) => True) (fun _ => ha_H D cs ad xo_kd xo_ln N out) (ha_A ad N)) ([.ref (ad p0), .ref (ad p1), .int p2, .ref (ad p3), .int p4] : List Value).toArray s 0 0 (ha_A ad N)) (F0 m 110 ls []) := by
        intro v5 v6 v8 S H locs ls hf  hP hD hS hl
        unfold f_X1_act_L8_J110 at hf
        refine lv_iload hx hb dX1_act_110 (lv_at hl 6 rfl) ?_
        refine lv_bipush (v := 115) hx hb dX1_act_112 (by decide) ?_
        refine lv_icmp_ne (tgt := 170) hx hb dX1_act_114 (by decide) (fun c12 => ?_) (fun c12 => ?_)
        · have hf := ha_it hf c12
          exact J170 v5 v6 S H locs ls hf  hP hD hS (lv_sub hl [0, 1, 2, 3, 4, 5, 6] rfl)
        · have hf := ha_if hf (fun q => q c12)
          refine lv_iload_n hx hb dX1_act_117 rfl (lv_at hl 2 rfl) ?_
          refine lv_aload_n hx hb dX1_act_118 rfl (lv_at hl 1 rfl) ?_
          refine ha_geti hx hb hown hK hP q69 hN h1 dX1_act_119 ?_
          refine lv_iconst (v := 1) hx hb dX1_act_122 (by decide) ?_
          refine lv_isub hx hb dX1_act_123 ?_
          refine lv_icmp_ne (tgt := 170) hx hb dX1_act_124 (by decide) (fun c13 => ?_) (fun c13 => ?_)
          · have hf := ha_it hf c13
            exact J170 v5 v6 S H locs ls hf  hP hD hS (lv_sub hl [0, 1, 2, 3, 4, 5, 6] rfl)
          · have hf := ha_if hf (fun q => q c13)
            refine lv_aload_n hx hb dX1_act_127 rfl (lv_at hl 1 rfl) ?_
            refine ha_geti hx hb hown hK hP q60 hN h1 dX1_act_128 ?_
            refine lv_aload_n hx hb dX1_act_131 rfl (lv_at hl 0 rfl) ?_
            refine ha_geti hx hb hown hK hP q49 hN h0 dX1_act_132 ?_
            refine lv_icmp_ge (tgt := 156) hx hb dX1_act_135 (by decide) (fun c14 => ?_) (fun c14 => ?_)
            · have hf := ha_it hf c14
              exact J156 v5 v8 S H locs ls hf  hP hD hS (lv_sub hl [0, 1, 2, 3, 4, 5, 7] rfl)
            · have hf := ha_if hf c14
              refine lv_aload_n hx hb dX1_act_138 rfl (lv_at hl 0 rfl) ?_
              obtain ⟨r15, wr15, hf⟩ := ha_bds hf
              obtain ⟨wr15, hr15⟩ := ha_rf_some wr15
              refine ha_getr hx hb hown hK hP q17 hN h0 wr15 dX1_act_139 ?_
              refine lv_aload_n hx hb dX1_act_142 rfl (lv_at hl 1 rfl) ?_
              refine ha_geti hx hb hown hK hP q60 hN h1 dX1_act_143 ?_
              obtain ⟨g16, hf⟩ := ha_gds hf
              refine ha_iald hx hb hK hP hN hr15 g16 dX1_act_146 ?_
              refine lv_iload hx hb dX1_act_147 (lv_at hl 7 rfl) ?_
              refine lv_icmp_ne (tgt := 156) hx hb dX1_act_149 (by decide) (fun c17 => ?_) (fun c17 => ?_)
              · have hf := ha_it hf c17
                exact J156 v5 v8 S H locs ls hf  hP hD hS (lv_sub hl [0, 1, 2, 3, 4, 5, 7] rfl)
              · have hf := ha_if hf (fun q => q c17)
                refine lv_iconst (v := 1) hx hb dX1_act_152 (by decide) ?_
                refine lv_goto (tgt := 157) hx hb dX1_act_153 (by decide) ?_
                exact J157 v5 v8 1 S H locs ls hf  hP hD hS (lv_sub hl [0, 1, 2, 3, 4, 5, 7] rfl)
      have hf : (f_X1_act_L8 p0 p1 p2 p3 p4 (f_X1_act_L8i p0 p1 p2 p3 p4 n) v5 S).bind K = some out := hf
      unfold f_X1_act_L8 at hf
      refine lv_iload hx hb dX1_act_8 (lv_at hl 5 rfl) ?_
      refine lv_aload_n hx hb dX1_act_10 rfl (lv_at hl 3 rfl) ?_
      obtain ⟨r18, wr18, hf⟩ := ha_bds hf
      obtain ⟨wr18, hr18⟩ := ha_rf_some wr18
      refine ha_getr hx hb hown hK hP q114 hN h3 wr18 dX1_act_11 ?_
      refine lv_iload hx hb dX1_act_14 (lv_at hl 4 rfl) ?_
      obtain ⟨g19, hf⟩ := ha_gds hf
      refine ha_iald hx hb hK hP hN hr18 g19 dX1_act_16 ?_
      refine lv_icmp_ge (tgt := 220) hx hb dX1_act_17 (by decide) (fun c20 => ?_) (fun c20 => ?_)
      · have hf := ha_it hf c20
        exact hk  S H locs ls hf  hP hD hS (lv_sub hl [0, 1, 2, 3, 4] rfl)
      · have hf := ha_if hf c20
        refine lv_aload_n hx hb dX1_act_20 rfl (lv_at hl 3 rfl) ?_
        obtain ⟨r21, wr21, hf⟩ := ha_bds hf
        obtain ⟨wr21, hr21⟩ := ha_rf_some wr21
        refine ha_getr hx hb hown hK hP q117 hN h3 wr21 dX1_act_21 ?_
        refine lv_iload hx hb dX1_act_24 (lv_at hl 5 rfl) ?_
        obtain ⟨g22, hf⟩ := ha_gds hf
        refine ha_iald hx hb hK hP hN hr21 g22 dX1_act_26 ?_
        refine lv_topi (fun x23 ex23 => ?_)
        have hf := ha_nms hf ex23
        refine lv_istore (lv' := [(6, .int x23), (0, .ref (ad p0)), (1, .ref (ad p1)), (2, .int p2), (3, .ref (ad p3)), (4, .int p4), (5, .int v5)]) hx hb dX1_act_27 hl (by decide) rfl (fun ls hl => ?_)
        refine lv_aload_n hx hb dX1_act_29 rfl (lv_at hl 1 rfl) ?_
        obtain ⟨r24, wr24, hf⟩ := ha_bds hf
        obtain ⟨wr24, hr24⟩ := ha_rf_some wr24
        refine ha_getr hx hb hown hK hP q27 hN h0 wr24 dX1_act_30 ?_
        refine lv_aload_n hx hb dX1_act_33 rfl (lv_at hl 4 rfl) ?_
        obtain ⟨r25, wr25, hf⟩ := ha_bds hf
        obtain ⟨wr25, hr25⟩ := ha_rf_some wr25
        refine ha_getr hx hb hown hK hP q119 hN h3 wr25 dX1_act_34 ?_
        refine lv_iload hx hb dX1_act_37 (lv_at hl 6 rfl) ?_
        obtain ⟨g26, hf⟩ := ha_gds hf
        refine ha_iald hx hb hK hP hN hr25 g26 dX1_act_39 ?_
        obtain ⟨g27, hf⟩ := ha_gds hf
        refine ha_iald hx hb hK hP hN hr24 g27 dX1_act_40 ?_
        refine lv_aload_n hx hb dX1_act_41 rfl (lv_at hl 1 rfl) ?_
        obtain ⟨r28, wr28, hf⟩ := ha_bds hf
        obtain ⟨wr28, hr28⟩ := ha_rf_some wr28
        refine ha_getr hx hb hown hK hP q27 hN h0 wr28 dX1_act_42 ?_
        refine lv_aload_n hx hb dX1_act_45 rfl (lv_at hl 4 rfl) ?_
        obtain ⟨r29, wr29, hf⟩ := ha_bds hf
        obtain ⟨wr29, hr29⟩ := ha_rf_some wr29
        refine ha_getr hx hb hown hK hP q122 hN h3 wr29 dX1_act_46 ?_
        refine lv_iload hx hb dX1_act_49 (lv_at hl 6 rfl) ?_
        obtain ⟨g30, hf⟩ := ha_gds hf
        refine ha_iald hx hb hK hP hN hr29 g30 dX1_act_51 ?_
        obtain ⟨g31, hf⟩ := ha_gds hf
        refine ha_iald hx hb hK hP hN hr28 g31 dX1_act_52 ?_
        refine lv_iadd hx hb dX1_act_53 ?_
        refine lv_topi (fun x32 ex32 => ?_)
        have hf := ha_nms hf ex32
        refine lv_istore (lv' := [(7, .int x32), (6, .int x23), (0, .ref (ad p0)), (1, .ref (ad p1)), (2, .int p2), (3, .ref (ad p3)), (4, .int p4), (5, .int v5)]) hx hb dX1_act_54 hl (by decide) rfl (fun ls hl => ?_)
        refine lv_iload hx hb dX1_act_56 (lv_at hl 0 rfl) ?_
        refine lv_bipush (v := 64) hx hb dX1_act_58 (by decide) ?_
        obtain ⟨z33, wz33, hf⟩ := ha_bds hf
        refine ha_callSi (As := [.int x32, .int 64]) (rest := []) hZ ⟨hx, hb, hml, hown, hts⟩ hK hz hP hD hS (c_J9_floorMod_7cf53   wz33) cw3 rfl hl.1 rfl (Nat.le_of_ble_eq_true rfl) dX1_act_60 ⟨Nat.le_of_ble_eq_true rfl, Nat.le_of_ble_eq_true rfl⟩ (fun H locs hP hD hS => ?_)
        refine lv_istore (lv' := [(8, .int z33), (7, .int x32), (6, .int x23), (0, .ref (ad p0)), (1, .ref (ad p1)), (2, .int p2), (3, .ref (ad p3)), (4, .int p4), (5, .int v5)]) hx hb dX1_act_63 hl (by decide) rfl (fun ls hl => ?_)
        refine lv_iload hx hb dX1_act_65 (lv_at hl 2 rfl) ?_
        refine lv_bipush (v := 113) hx hb dX1_act_67 (by decide) ?_
        refine lv_icmp_ne (tgt := 84) hx hb dX1_act_69 (by decide) (fun c34 => ?_) (fun c34 => ?_)
        · have hf := ha_it hf c34
          refine lv_iload hx hb dX1_act_84 (lv_at hl 2 rfl) ?_
          refine lv_bipush (v := 106) hx hb dX1_act_86 (by decide) ?_
          refine lv_icmp_lt (tgt := 110) hx hb dX1_act_88 (by decide) (fun c35 => ?_) (fun c35 => ?_)
          · have hf := ha_it hf c35
            exact J110 v5 x23 z33 S H locs ls hf  hP hD hS (lv_sub hl [3, 4, 5, 6, 7, 8, 2, 0] rfl)
          · have hf := ha_if hf c35
            refine lv_iload hx hb dX1_act_91 (lv_at hl 2 rfl) ?_
            refine lv_bipush (v := 109) hx hb dX1_act_93 (by decide) ?_
            refine lv_icmp_gt (tgt := 110) hx hb dX1_act_95 (by decide) (fun c36 => ?_) (fun c36 => ?_)
            · have hf := ha_it hf c36
              exact J110 v5 x23 z33 S H locs ls hf  hP hD hS (lv_sub hl [3, 4, 5, 6, 7, 8, 2, 0] rfl)
            · have hf := ha_if hf c36
              refine lv_aload_n hx hb dX1_act_98 rfl (lv_at hl 3 rfl) ?_
              obtain ⟨r37, wr37, hf⟩ := ha_bds hf
              obtain ⟨wr37, hr37⟩ := ha_rf_some wr37
              refine ha_getr hx hb hown hK hP q27 hN h0 wr37 dX1_act_99 ?_
              refine lv_iload hx hb dX1_act_102 (lv_at hl 2 rfl) ?_
              refine lv_iload hx hb dX1_act_104 (lv_at hl 0 rfl) ?_
              obtain ⟨g38, hf⟩ := ha_gds hf
              refine ha_iast hx hb hK hP hD hS hN hr37 g38 dX1_act_106 (fun S39 H locs eS39 hP hD hS => ?_)
              have hf := ha_nms hf eS39
              refine lv_goto (tgt := 214) hx hb dX1_act_107 (by decide) ?_
              exact J214 v5 S39 H locs ls hf  hP hD hS (lv_sub hl [3, 4, 5, 6, 7, 8] rfl)
        · have hf := ha_if hf (fun q => q c34)
          refine lv_aload_n hx hb dX1_act_72 rfl (lv_at hl 3 rfl) ?_
          obtain ⟨r40, wr40, hf⟩ := ha_bds hf
          obtain ⟨wr40, hr40⟩ := ha_rf_some wr40
          refine ha_getr hx hb hown hK hP q27 hN h0 wr40 dX1_act_73 ?_
          refine lv_bipush (v := 102) hx hb dX1_act_76 (by decide) ?_
          refine lv_iload hx hb dX1_act_78 (lv_at hl 0 rfl) ?_
          obtain ⟨g41, hf⟩ := ha_gds hf
          refine ha_iast hx hb hK hP hD hS hN hr40 g41 dX1_act_80 (fun S42 H locs eS42 hP hD hS => ?_)
          have hf := ha_nms hf eS42
          refine lv_goto (tgt := 214) hx hb dX1_act_81 (by decide) ?_
          exact J214 v5 S42 H locs ls hf  hP hD hS (lv_sub hl [3, 4, 5, 6, 7, 8] rfl)
  refine key43 _ (fun  S H locs ls hf  hP hD hS hl => ?_) ha_fu z1.1 z1.2 H locs ls (ha_as hf)  hP hD hS (lv_sub hl [1, 2, 3, 4, 5, 0] rfl)
  have hf : (f_X1_act_J220 p0 p1 p2 p3 p4  S).bind some = some out := hf
  exact J220  S H locs ls hf  hP hD hS (lv_sub hl [0, 1, 2, 3, 4] rfl)

set_option maxHeartbeats 4000000 in
set_option maxRecDepth 100000 in
theorem c_X1_keep {l : Launch} {D : va_G} {cs : Nat → ClassId} {ad adK adV : Nat → Nat} {N : List Nat} {Z : State → Prop} (hZ : ha_Zok (ha_A ad N) Z) (hN : ∀ x, xo_kd x < 999 → x ∈ N) (hX : ∀ U, Z U → xo_Z adK adV (ha_A ad N) U) {p0 : Nat} {p1 : Nat} {p2 : Int32} {S : ha_St} {out : Int32 × ha_St} (h0 : xo_kd p0 = 1) (h1 : xo_kd p1 = 5) (hf : f_X1_keep p0 p1 p2 S = some out) : ha_Ci l D cs ad xo_kd xo_ln N Z yX1_keep wsX1_keep ({ frames := 1, cells := 0, slots := 0, locals := 26 } : Room) [.ref (ad p0), .ref (ad p1), .int p2] S out.1 out.2 := by
  refine Met.ofW (cc := cX1_keep) (maxL := 5) (ret := (some .boolean)) (by decide +kernel) rfl ?_
  intro p e s m args below meth c s₁ B hml hv
  obtain ⟨rfl, hP, hD, hK, hz⟩ := hv
  have hx := B.exec
  have hb := B.bytes
  have hr := B.returns
  have hts := atoms_spec (ws := wsX1_keep) B.pre
  have hown : s.vm.findClass RX1 = some m.cls := findClass_of_methodNamed B.named
  have hlocks := B.notSynchronized
  have hS : va_S (ha_A ad N) s.heap s.heap [] := va_S.rf
  have hi1 : ∀ w ∈ wsX10, w ∈ wsX1_keep := fun w h => List.mem_cons_of_mem _ (List.mem_append_left _ (List.mem_append_right _ h))
  have hi5 : ∀ w ∈ wsX50, w ∈ wsX1_keep := fun w h => List.mem_cons_of_mem _ (List.mem_append_right _ h)
  have q27 : ha_Fk s ([.ref (ad p0), .ref (ad p1), .int p2] : List Value).toArray RX1 27 1 4 1 := ⟨RX1, TX1, 8, wsX1_keep, rfl, by decide, by decide, rfl, rfl, hts, hi1, hts (.fieldLink RX1 27 "HillArms$Crew" "worth" "[I") (by decide +kernel)⟩
  have q103 : ha_Fk s ([.ref (ad p0), .ref (ad p1), .int p2] : List Value).toArray RX1 103 5 2 1 := ⟨RX5, TX5, 8, wsX1_keep, rfl, by decide, by decide, rfl, rfl, hts, hi5, hts (.fieldLink RX1 103 "HillArms$Line" "cell" "[I") (by decide +kernel)⟩
  have q66 : ha_Fk s ([.ref (ad p0), .ref (ad p1), .int p2] : List Value).toArray RX1 66 5 0 1 := ⟨RX5, TX5, 8, wsX1_keep, rfl, by decide, by decide, rfl, rfl, hts, hi5, hts (.fieldLink RX1 66 "HillArms$Line" "sign" "[I") (by decide +kernel)⟩
  have q24 : ha_Fk s ([.ref (ad p0), .ref (ad p1), .int p2] : List Value).toArray RX1 24 1 3 1 := ⟨RX1, TX1, 8, wsX1_keep, rfl, by decide, by decide, rfl, rfl, hts, hi1, hts (.fieldLink RX1 24 "HillArms$Crew" "ahead" "[I") (by decide +kernel)⟩
  have cw0 := hts (.methodLink RX1 43 arraycopyName) (by decide +kernel)
  have cw1 := hts (.native arraycopyName) (by decide +kernel)
  have cw2 := hts (.static arraycopyName) (by decide +kernel)
  have cw3 := hts (.initialized "java/lang/System") (by decide +kernel)
  have hl := lv_entry ([.ref (ad p0), .ref (ad p1), .int p2]) (n := 5) (Nat.le_of_ble_eq_true rfl)
  rw [lg_entry_eq]
  generalize (lg_sl ([.ref (ad p0), .ref (ad p1), .int p2]) ++ List.replicate (5 - (lg_sl ([.ref (ad p0), .ref (ad p1), .int p2])).length) Slot.unset).toArray = ls at hl ⊢
  have hl : lv_has ls 5 [(0, .ref (ad p0)), (1, .ref (ad p1)), (2, .int p2)] := hl
  refine (fun (K0 : ∀ (H : Heap) (locs : List Loc), va_P D vwCl (ha_wl cs ad xo_kd xo_ln N S) H → va_S (ha_A ad N) s.heap H locs → W p l e (headSpec wsX1_keep ({ frames := 1, cells := 0, slots := 0, locals := 26 } : Room)).room s m ([.ref (ad p0), .ref (ad p1), .int p2] : List Value).toArray below meth c H locs 0 0 (MQ below (va_Qi (fun (r : Int32) (_ : Unit) => r = out.1) (fun _ => ha_H D cs ad xo_kd xo_ln N out.2) (ha_A ad N)) ([.ref (ad p0), .ref (ad p1), .int p2] : List Value).toArray s 0 0 (ha_A ad N)) (F0 m 0 ls [])) => K0 _ _ hP hS) ?_
  intro H locs hP hS
  have hf := ha_rt hf
  have J82 : ∀ (v3 : Int32) (S : ha_St) (H : Heap) (locs : List Loc) (ls : Array Slot), (f_X1_keep_J82 p0 p1 p2 v3 S).bind some = some out → va_P D vwCl (ha_wl cs ad xo_kd xo_ln N S) H → va_D (ha_A ad N) (ha_wl cs ad xo_kd xo_ln N S) → va_S (ha_A ad N) s.heap H locs → lv_has ls 5 [(0, .ref (ad p0)), (1, .ref (ad p1)), (2, .int p2), (3, .int v3)] → W p l e (headSpec wsX1_keep ({ frames := 1, cells := 0, slots := 0, locals := 26 } : Room)).room s m ([.ref (ad p0), .ref (ad p1), .int p2] : List Value).toArray below meth c H locs 0 0 (MQ below (va_Qi (fun (r : Int32) (_ : Unit) => r = out.1) (fun _ => ha_H D cs ad xo_kd xo_ln N out.2) (ha_A ad N)) ([.ref (ad p0), .ref (ad p1), .int p2] : List Value).toArray s 0 0 (ha_A ad N)) (F0 m 82 ls []) := by
    intro v3 S H locs ls hf  hP hD hS hl
    unfold f_X1_keep_J82 at hf
    refine lv_aload_n hx hb dX1_keep_82 rfl (lv_at hl 0 rfl) ?_
    obtain ⟨r1, wr1, hf⟩ := ha_bds hf
    obtain ⟨wr1, hr1⟩ := ha_rf_some wr1
    refine ha_getr hx hb hown hK hP q27 hN h0 wr1 dX1_keep_83 ?_
    refine lv_bipush (v := 106) hx hb dX1_keep_86 (by decide) ?_
    refine lv_aload_n hx hb dX1_keep_88 rfl (lv_at hl 1 rfl) ?_
    obtain ⟨r2, wr2, hf⟩ := ha_bds hf
    obtain ⟨wr2, hr2⟩ := ha_rf_some wr2
    refine ha_getr hx hb hown hK hP q103 hN h1 wr2 dX1_keep_89 ?_
    refine lv_iload_n hx hb dX1_keep_92 rfl (lv_at hl 2 rfl) ?_
    refine lv_iconst (v := 4) hx hb dX1_keep_93 (by decide) ?_
    refine lv_imul hx hb dX1_keep_94 ?_
    refine lv_iconst (v := 4) hx hb dX1_keep_95 (by decide) ?_
    obtain ⟨g3, hf⟩ := ha_gds hf
    refine ha_copy hx hb (hml.trans hl.1.symm) hown cw0 cw1 cw2 cw3 hK hP hD hS hN hr1 hr2 g3 (by decide) (Nat.le_of_ble_eq_true rfl) dX1_keep_96 (fun S4 H locs eS4 hP hD hS => ?_)
    have hf := ha_nms hf eS4
    refine lv_iload_n hx hb dX1_keep_99 rfl (lv_at hl 3 rfl) ?_
    obtain ⟨g5, hf⟩ := ha_gds hf
    have he := Option.some.inj hf
    exact ha_retz hx hb hr hlocks hP hD hS dX1_keep_100 g5 (ha_e1 he) (ha_e2 he)
  have J21 : ∀ (k0 : Int32) (S : ha_St) (H : Heap) (locs : List Loc) (ls : Array Slot), (f_X1_keep_J21 p0 p1 p2 k0 S).bind some = some out → va_P D vwCl (ha_wl cs ad xo_kd xo_ln N S) H → va_D (ha_A ad N) (ha_wl cs ad xo_kd xo_ln N S) → va_S (ha_A ad N) s.heap H locs → lv_has ls 5 [(0, .ref (ad p0)), (1, .ref (ad p1)), (2, .int p2)] → W p l e (headSpec wsX1_keep ({ frames := 1, cells := 0, slots := 0, locals := 26 } : Room)).room s m ([.ref (ad p0), .ref (ad p1), .int p2] : List Value).toArray below meth c H locs 0 0 (MQ below (va_Qi (fun (r : Int32) (_ : Unit) => r = out.1) (fun _ => ha_H D cs ad xo_kd xo_ln N out.2) (ha_A ad N)) ([.ref (ad p0), .ref (ad p1), .int p2] : List Value).toArray s 0 0 (ha_A ad N)) (F0 m 21 ls [.int k0]) := by
    intro k0 S H locs ls hf  hP hD hS hl
    unfold f_X1_keep_J21 at hf
    refine lv_istore_n (lv' := [(3, .int k0), (0, .ref (ad p0)), (1, .ref (ad p1)), (2, .int p2)]) hx hb dX1_keep_21 rfl hl (by decide) rfl (fun ls hl => ?_)
    refine lv_aload_n hx hb dX1_keep_22 rfl (lv_at hl 2 rfl) ?_
    obtain ⟨r6, wr6, hf⟩ := ha_bds hf
    obtain ⟨wr6, hr6⟩ := ha_rf_some wr6
    refine ha_getr hx hb hown hK hP q66 hN h1 wr6 dX1_keep_23 ?_
    refine lv_iload_n hx hb dX1_keep_26 rfl (lv_at hl 3 rfl) ?_
    refine lv_aload_n hx hb dX1_keep_27 rfl (lv_at hl 1 rfl) ?_
    obtain ⟨r7, wr7, hf⟩ := ha_bds hf
    obtain ⟨wr7, hr7⟩ := ha_rf_some wr7
    refine ha_getr hx hb hown hK hP q27 hN h0 wr7 dX1_keep_28 ?_
    refine lv_bipush (v := 102) hx hb dX1_keep_31 (by decide) ?_
    obtain ⟨g8, hf⟩ := ha_gds hf
    refine ha_iald hx hb hK hP hN hr7 g8 dX1_keep_33 ?_
    obtain ⟨g9, hf⟩ := ha_gds hf
    refine ha_iast hx hb hK hP hD hS hN hr6 g9 dX1_keep_34 (fun S10 H locs eS10 hP hD hS => ?_)
    have hf := ha_nms hf eS10
    refine lv_iconst (v := 0) hx hb dX1_keep_35 (by decide) ?_
    refine lv_istore (lv' := [(4, .int 0), (3, .int k0), (0, .ref (ad p0)), (1, .ref (ad p1)), (2, .int p2)]) hx hb dX1_keep_36 hl (by decide) rfl (fun ls hl => ?_)
    have key19 : ∀ (K : (Int32 × ha_St) → Option (Int32 × ha_St)), (∀ (v3 : Int32) (S : ha_St) (H : Heap) (locs : List Loc) (ls : Array Slot), K (v3, S) = some out → va_P D vwCl (ha_wl cs ad xo_kd xo_ln N S) H → va_D (ha_A ad N) (ha_wl cs ad xo_kd xo_ln N S) → va_S (ha_A ad N) s.heap H locs → lv_has ls 5 [(0, .ref (ad p0)), (1, .ref (ad p1)), (2, .int p2), (3, .int v3)] → W p l e (headSpec wsX1_keep ({ frames := 1, cells := 0, slots := 0, locals := 26 } : Room)).room s m ([.ref (ad p0), .ref (ad p1), .int p2] : List Value).toArray below meth c H locs 0 0 (MQ below (va_Qi (fun (r : Int32) (_ : Unit) => r = out.1) (fun _ => ha_H D cs ad xo_kd xo_ln N out.2) (ha_A ad N)) ([.ref (ad p0), .ref (ad p1), .int p2] : List Value).toArray s 0 0 (ha_A ad N)) (F0 m 82 ls [])) → ∀ (n : Nat) (v3 : Int32) (v4 : Int32) (S : ha_St) (H : Heap) (locs : List Loc) (ls : Array Slot), (f_X1_keep_L38i p0 p1 p2 n (v3, v4, S)).bind K = some out → va_P D vwCl (ha_wl cs ad xo_kd xo_ln N S) H → va_D (ha_A ad N) (ha_wl cs ad xo_kd xo_ln N S) → va_S (ha_A ad N) s.heap H locs → lv_has ls 5 [(0, .ref (ad p0)), (1, .ref (ad p1)), (2, .int p2), (3, .int v3), (4, .int v4)] → W p l e (headSpec wsX1_keep ({ frames := 1, cells := 0, slots := 0, locals := 26 } : Room)).room s m ([.ref (ad p0), .ref (ad p1), .int p2] : List Value).toArray below meth c H locs 0 0 (MQ below (va_Qi (fun (r : Int32) (_ : Unit) => r = out.1) (fun _ => ha_H D cs ad xo_kd xo_ln N out.2) (ha_A ad N)) ([.ref (ad p0), .ref (ad p1), .int p2] : List Value).toArray s 0 0 (ha_A ad N)) (F0 m 38 ls []) := by
      intro K hk n
      induction n with
      | zero =>
        intro v3 v4 S H locs ls hf
        exact absurd (show (none : Option (Int32 × ha_St)) = some out from hf) (fun h => by cases h)
      | succ n ih =>
        intro v3 v4 S H locs ls hf  hP hD hS hl
        have J74 : ∀ (v4 : Int32) (k0 : Int32) (k1 : Int32) (S : ha_St) (H : Heap) (locs : List Loc) (ls : Array Slot), (f_X1_keep_L38_J74 p0 p1 p2 (f_X1_keep_L38i p0 p1 p2 n) v4 k0 k1 S).bind K = some out → va_P D vwCl (ha_wl cs ad xo_kd xo_ln N S) H → va_D (ha_A ad N) (ha_wl cs ad xo_kd xo_ln N S) → va_S (ha_A ad N) s.heap H locs → lv_has ls 5 [(0, .ref (ad p0)), (1, .ref (ad p1)), (2, .int p2), (4, .int v4)] → W p l e (headSpec wsX1_keep ({ frames := 1, cells := 0, slots := 0, locals := 26 } : Room)).room s m ([.ref (ad p0), .ref (ad p1), .int p2] : List Value).toArray below meth c H locs 0 0 (MQ below (va_Qi (fun (r : Int32) (_ : Unit) => r = out.1) (fun _ => ha_H D cs ad xo_kd xo_ln N out.2) (ha_A ad N)) ([.ref (ad p0), .ref (ad p1), .int p2] : List Value).toArray s 0 0 (ha_A ad N)) (F0 m 74 ls [.int k1, .int k0]) := by
          intro v4 k0 k1 S H locs ls hf  hP hD hS hl
          unfold f_X1_keep_L38_J74 at hf
          refine lv_ior hx hb dX1_keep_74 ?_
          refine lv_topi (fun x11 ex11 => ?_)
          have hf := ha_nms hf ex11
          refine lv_istore_n (lv' := [(3, .int x11), (0, .ref (ad p0)), (1, .ref (ad p1)), (2, .int p2), (4, .int v4)]) hx hb dX1_keep_75 rfl hl (by decide) rfl (fun ls hl => ?_)
          obtain ⟨x12, ex12⟩ : ∃ y : Int32, y = (v4 : Int32) + 1 := ⟨_, rfl⟩
          have hf := ha_nms hf ex12
          refine lv_iinc (v := x12) (lv' := [(4, .int x12), (3, .int x11), (0, .ref (ad p0)), (1, .ref (ad p1)), (2, .int p2)]) hx hb dX1_keep_76 hl (k := 4) rfl (by rw [ex12]; rfl) (by decide) rfl (fun ls hl => ?_)
          refine lv_goto (tgt := 38) hx hb dX1_keep_79 (by decide) ?_
          exact ih x11 x12 S H locs ls hf  hP hD hS (lv_sub hl [2, 3, 4, 1, 0] rfl)
        have hf : (f_X1_keep_L38 p0 p1 p2 (f_X1_keep_L38i p0 p1 p2 n) v3 v4 S).bind K = some out := hf
        unfold f_X1_keep_L38 at hf
        refine lv_iload hx hb dX1_keep_38 (lv_at hl 4 rfl) ?_
        refine lv_iconst (v := 4) hx hb dX1_keep_40 (by decide) ?_
        refine lv_icmp_ge (tgt := 82) hx hb dX1_keep_41 (by decide) (fun c13 => ?_) (fun c13 => ?_)
        · have hf := ha_it hf c13
          exact hk v3 S H locs ls hf  hP hD hS (lv_sub hl [0, 1, 2, 3] rfl)
        · have hf := ha_if hf c13
          refine lv_iload_n hx hb dX1_keep_44 rfl (lv_at hl 3 rfl) ?_
          refine lv_aload_n hx hb dX1_keep_45 rfl (lv_at hl 0 rfl) ?_
          obtain ⟨r14, wr14, hf⟩ := ha_bds hf
          obtain ⟨wr14, hr14⟩ := ha_rf_some wr14
          refine ha_getr hx hb hown hK hP q27 hN h0 wr14 dX1_keep_46 ?_
          refine lv_bipush (v := 106) hx hb dX1_keep_49 (by decide) ?_
          refine lv_iload hx hb dX1_keep_51 (lv_at hl 4 rfl) ?_
          refine lv_iadd hx hb dX1_keep_53 ?_
          obtain ⟨g15, hf⟩ := ha_gds hf
          refine ha_iald hx hb hK hP hN hr14 g15 dX1_keep_54 ?_
          refine lv_aload_n hx hb dX1_keep_55 rfl (lv_at hl 1 rfl) ?_
          obtain ⟨r16, wr16, hf⟩ := ha_bds hf
          obtain ⟨wr16, hr16⟩ := ha_rf_some wr16
          refine ha_getr hx hb hown hK hP q103 hN h1 wr16 dX1_keep_56 ?_
          refine lv_iload_n hx hb dX1_keep_59 rfl (lv_at hl 2 rfl) ?_
          refine lv_iconst (v := 4) hx hb dX1_keep_60 (by decide) ?_
          refine lv_imul hx hb dX1_keep_61 ?_
          refine lv_iload hx hb dX1_keep_62 (lv_at hl 4 rfl) ?_
          refine lv_iadd hx hb dX1_keep_64 ?_
          obtain ⟨g17, hf⟩ := ha_gds hf
          refine ha_iald hx hb hK hP hN hr16 g17 dX1_keep_65 ?_
          refine lv_icmp_eq (tgt := 73) hx hb dX1_keep_66 (by decide) (fun c18 => ?_) (fun c18 => ?_)
          · have hf := ha_it hf c18
            refine lv_iconst (v := 0) hx hb dX1_keep_73 (by decide) ?_
            exact J74 v4 v3 0 S H locs ls hf  hP hD hS (lv_sub hl [0, 1, 2, 4] rfl)
          · have hf := ha_if hf c18
            refine lv_iconst (v := 1) hx hb dX1_keep_69 (by decide) ?_
            refine lv_goto (tgt := 74) hx hb dX1_keep_70 (by decide) ?_
            exact J74 v4 v3 1 S H locs ls hf  hP hD hS (lv_sub hl [0, 1, 2, 4] rfl)
    refine key19 _ (fun v3 S H locs ls hf  hP hD hS hl => ?_) ha_fu k0 0 S10 H locs ls (ha_as hf)  hP hD hS (lv_sub hl [2, 3, 4, 1, 0] rfl)
    have hf : (f_X1_keep_J82 p0 p1 p2 v3 S).bind some = some out := hf
    exact J82 v3 S H locs ls hf  hP hD hS (lv_sub hl [0, 1, 2, 3] rfl)
  unfold f_X1_keep at hf
  refine lv_aload_n hx hb dX1_keep_0 rfl (lv_at hl 0 rfl) ?_
  obtain ⟨r21, wr21, hf⟩ := ha_bds hf
  obtain ⟨wr21, hr21⟩ := ha_rf_some wr21
  refine ha_getr hx hb hown hK hP q27 hN h0 wr21 dX1_keep_1 ?_
  refine lv_bipush (v := 102) hx hb dX1_keep_4 (by decide) ?_
  obtain ⟨g22, hf⟩ := ha_gds hf
  refine ha_iald hx hb hK hP hN hr21 g22 dX1_keep_6 ?_
  refine lv_aload_n hx hb dX1_keep_7 rfl (lv_at hl 0 rfl) ?_
  obtain ⟨r23, wr23, hf⟩ := ha_bds hf
  obtain ⟨wr23, hr23⟩ := ha_rf_some wr23
  refine ha_getr hx hb hown hK hP q24 hN h0 wr23 dX1_keep_8 ?_
  refine lv_iload_n hx hb dX1_keep_11 rfl (lv_at hl 2 rfl) ?_
  obtain ⟨g24, hf⟩ := ha_gds hf
  refine ha_iald hx hb hK hP hN hr23 g24 dX1_keep_12 ?_
  refine lv_icmp_eq (tgt := 20) hx hb dX1_keep_13 (by decide) (fun c25 => ?_) (fun c25 => ?_)
  · have hf := ha_it hf c25
    refine lv_iconst (v := 0) hx hb dX1_keep_20 (by decide) ?_
    exact J21 0 S H locs ls hf  hP hD hS (lv_sub hl [0, 1, 2] rfl)
  · have hf := ha_if hf c25
    refine lv_iconst (v := 1) hx hb dX1_keep_16 (by decide) ?_
    refine lv_goto (tgt := 21) hx hb dX1_keep_17 (by decide) ?_
    exact J21 1 S H locs ls hf  hP hD hS (lv_sub hl [0, 1, 2] rfl)

set_option maxHeartbeats 4000000 in
set_option maxRecDepth 100000 in
theorem c_X1_move {l : Launch} {D : va_G} {cs : Nat → ClassId} {ad adK adV : Nat → Nat} {N : List Nat} {Z : State → Prop} (hZ : ha_Zok (ha_A ad N) Z) (hN : ∀ x, xo_kd x < 999 → x ∈ N) (hX : ∀ U, Z U → xo_Z adK adV (ha_A ad N) U) {p0 : Nat} {p1 : Nat} {p2 : Int32} {p3 : Int32} {S : ha_St} {out : Int32 × ha_St} (h0 : xo_kd p0 = 1) (h1 : xo_kd p1 = 5) (hf : f_X1_move p0 p1 p2 p3 S = some out) : ha_Ci l D cs ad xo_kd xo_ln N Z yX1_move wsX1_move ({ frames := 2, cells := 0, slots := 0, locals := 51 } : Room) [.ref (ad p0), .ref (ad p1), .int p2, .int p3] S out.1 out.2 := by
  refine Met.ofW (cc := cX1_move) (maxL := 12) (ret := (some .boolean)) (by decide +kernel) rfl ?_
  intro p e s m args below meth c s₁ B hml hv
  obtain ⟨rfl, hP, hD, hK, hz⟩ := hv
  have hx := B.exec
  have hb := B.bytes
  have hr := B.returns
  have hts := atoms_spec (ws := wsX1_move) B.pre
  have hown : s.vm.findClass RX1 = some m.cls := findClass_of_methodNamed B.named
  have hlocks := B.notSynchronized
  have hS : va_S (ha_A ad N) s.heap s.heap [] := va_S.rf
  have hi1 : ∀ w ∈ wsX10, w ∈ wsX1_move := fun w h => List.mem_cons_of_mem _ (List.mem_append_left _ (List.mem_append_left _ (List.mem_append_right _ h)))
  have hi5 : ∀ w ∈ wsX50, w ∈ wsX1_move := fun w h => List.mem_cons_of_mem _ (List.mem_append_left _ (List.mem_append_right _ h))
  have q63 : ha_Fk s ([.ref (ad p0), .ref (ad p1), .int p2, .int p3] : List Value).toArray RX1 63 5 6 0 := ⟨RX5, TX5, 8, wsX1_move, rfl, by decide, by decide, rfl, rfl, hts, hi5, hts (.fieldLink RX1 63 "HillArms$Line" "sent" "I") (by decide +kernel)⟩
  have q60 : ha_Fk s ([.ref (ad p0), .ref (ad p1), .int p2, .int p3] : List Value).toArray RX1 60 5 5 0 := ⟨RX5, TX5, 8, wsX1_move, rfl, by decide, by decide, rfl, rfl, hts, hi5, hts (.fieldLink RX1 60 "HillArms$Line" "wrote" "I") (by decide +kernel)⟩
  have q66 : ha_Fk s ([.ref (ad p0), .ref (ad p1), .int p2, .int p3] : List Value).toArray RX1 66 5 0 1 := ⟨RX5, TX5, 8, wsX1_move, rfl, by decide, by decide, rfl, rfl, hts, hi5, hts (.fieldLink RX1 66 "HillArms$Line" "sign" "[I") (by decide +kernel)⟩
  have q24 : ha_Fk s ([.ref (ad p0), .ref (ad p1), .int p2, .int p3] : List Value).toArray RX1 24 1 3 1 := ⟨RX1, TX1, 8, wsX1_move, rfl, by decide, by decide, rfl, rfl, hts, hi1, hts (.fieldLink RX1 24 "HillArms$Crew" "ahead" "[I") (by decide +kernel)⟩
  have q69 : ha_Fk s ([.ref (ad p0), .ref (ad p1), .int p2, .int p3] : List Value).toArray RX1 69 5 4 0 := ⟨RX5, TX5, 8, wsX1_move, rfl, by decide, by decide, rfl, rfl, hts, hi5, hts (.fieldLink RX1 69 "HillArms$Line" "towers" "I") (by decide +kernel)⟩
  have q90 : ha_Fk s ([.ref (ad p0), .ref (ad p1), .int p2, .int p3] : List Value).toArray RX1 90 5 1 1 := ⟨RX5, TX5, 8, wsX1_move, rfl, by decide, by decide, rfl, rfl, hts, hi5, hts (.fieldLink RX1 90 "HillArms$Line" "time" "[I") (by decide +kernel)⟩
  have q11 : ha_Fk s ([.ref (ad p0), .ref (ad p1), .int p2, .int p3] : List Value).toArray RX1 11 1 0 1 := ⟨RX1, TX1, 8, wsX1_move, rfl, by decide, by decide, rfl, rfl, hts, hi1, hts (.fieldLink RX1 11 "HillArms$Crew" "programs" "[LHillArms$Program;") (by decide +kernel)⟩
  have q27 : ha_Fk s ([.ref (ad p0), .ref (ad p1), .int p2, .int p3] : List Value).toArray RX1 27 1 4 1 := ⟨RX1, TX1, 8, wsX1_move, rfl, by decide, by decide, rfl, rfl, hts, hi1, hts (.fieldLink RX1 27 "HillArms$Crew" "worth" "[I") (by decide +kernel)⟩
  have q21 : ha_Fk s ([.ref (ad p0), .ref (ad p1), .int p2, .int p3] : List Value).toArray RX1 21 1 2 1 := ⟨RX1, TX1, 8, wsX1_move, rfl, by decide, by decide, rfl, rfl, hts, hi1, hts (.fieldLink RX1 21 "HillArms$Crew" "fogBits" "[I") (by decide +kernel)⟩
  have cw0 := hts (.methodLink RX1 43 arraycopyName) (by decide +kernel)
  have cw1 := hts (.native arraycopyName) (by decide +kernel)
  have cw2 := hts (.static arraycopyName) (by decide +kernel)
  have cw3 := hts (.initialized "java/lang/System") (by decide +kernel)
  have cw4 := hts (.methodLink RX1 93 Lib.Math.min.name) (by decide +kernel)
  have cw5 := hts (.static Lib.Math.min.name) (by decide +kernel)
  have cw6 := hts (.initialized "java/lang/Math") (by decide +kernel)
  have cw7 := hts (.code Lib.Math.min.name Lib.Math.min.code 2 (some .int)) (by decide +kernel)
  have cw8 := cwV (R := (headSpec wsX1_move ({ frames := 2, cells := 0, slots := 0, locals := 51 } : Room)).room) 3 hts gX1_move_X1_see (rm := ({ frames := 1, cells := 0, slots := 0, locals := 26 } : Room)) (mc := 0) (ms := 0) rfl rfl rfl (by decide +kernel) ⟨Nat.le_of_ble_eq_true rfl, Nat.le_of_ble_eq_true rfl⟩
  have cw9 := va_cwS (R := (headSpec wsX1_move ({ frames := 2, cells := 0, slots := 0, locals := 51 } : Room)).room) 2 hts gX1_move_X1_kindOf (rm := ({ frames := 0, cells := 0, slots := 0, locals := 0 } : Room)) (mc := 0) (ms := 0) rfl rfl rfl (by decide +kernel) ⟨Nat.le_of_ble_eq_true rfl, Nat.le_of_ble_eq_true rfl⟩
  have cw10 := cwV (R := (headSpec wsX1_move ({ frames := 2, cells := 0, slots := 0, locals := 51 } : Room)).room) 1 hts gX1_move_X8_firstRuleThatHolds (rm := ({ frames := 1, cells := 0, slots := 0, locals := 22 } : Room)) (mc := 0) (ms := 0) rfl rfl rfl (by decide +kernel) ⟨Nat.le_of_ble_eq_true rfl, Nat.le_of_ble_eq_true rfl⟩
  have cw11 := cwV (R := (headSpec wsX1_move ({ frames := 2, cells := 0, slots := 0, locals := 51 } : Room)).room) 4 hts gX1_move_X1_act (rm := ({ frames := 1, cells := 0, slots := 0, locals := 22 } : Room)) (mc := 0) (ms := 0) rfl rfl rfl (by decide +kernel) ⟨Nat.le_of_ble_eq_true rfl, Nat.le_of_ble_eq_true rfl⟩
  have cw12 := cwV (R := (headSpec wsX1_move ({ frames := 2, cells := 0, slots := 0, locals := 51 } : Room)).room) 2 hts gX1_move_X1_keep (rm := ({ frames := 1, cells := 0, slots := 0, locals := 26 } : Room)) (mc := 0) (ms := 0) rfl rfl rfl (by decide +kernel) ⟨Nat.le_of_ble_eq_true rfl, Nat.le_of_ble_eq_true rfl⟩
  have hl := lv_entry ([.ref (ad p0), .ref (ad p1), .int p2, .int p3]) (n := 12) (Nat.le_of_ble_eq_true rfl)
  rw [lg_entry_eq]
  generalize (lg_sl ([.ref (ad p0), .ref (ad p1), .int p2, .int p3]) ++ List.replicate (12 - (lg_sl ([.ref (ad p0), .ref (ad p1), .int p2, .int p3])).length) Slot.unset).toArray = ls at hl ⊢
  have hl : lv_has ls 12 [(0, .ref (ad p0)), (1, .ref (ad p1)), (2, .int p2), (3, .int p3)] := hl
  refine (fun (K0 : ∀ (H : Heap) (locs : List Loc), va_P D vwCl (ha_wl cs ad xo_kd xo_ln N S) H → va_S (ha_A ad N) s.heap H locs → W p l e (headSpec wsX1_move ({ frames := 2, cells := 0, slots := 0, locals := 51 } : Room)).room s m ([.ref (ad p0), .ref (ad p1), .int p2, .int p3] : List Value).toArray below meth c H locs 0 0 (MQ below (va_Qi (fun (r : Int32) (_ : Unit) => r = out.1) (fun _ => ha_H D cs ad xo_kd xo_ln N out.2) (ha_A ad N)) ([.ref (ad p0), .ref (ad p1), .int p2, .int p3] : List Value).toArray s 0 0 (ha_A ad N)) (F0 m 0 ls [])) => K0 _ _ hP hS) ?_
  intro H locs hP hS
  have hf := ha_rt hf
  have J219 : ∀ (k0 : Int32) (S : ha_St) (H : Heap) (locs : List Loc) (ls : Array Slot), (f_X1_move_J219 p0 p1 p2 p3 k0 S).bind some = some out → va_P D vwCl (ha_wl cs ad xo_kd xo_ln N S) H → va_D (ha_A ad N) (ha_wl cs ad xo_kd xo_ln N S) → va_S (ha_A ad N) s.heap H locs → lv_has ls 12 [(0, .ref (ad p0)), (1, .ref (ad p1)), (2, .int p2), (3, .int p3)] → W p l e (headSpec wsX1_move ({ frames := 2, cells := 0, slots := 0, locals := 51 } : Room)).room s m ([.ref (ad p0), .ref (ad p1), .int p2, .int p3] : List Value).toArray below meth c H locs 0 0 (MQ below (va_Qi (fun (r : Int32) (_ : Unit) => r = out.1) (fun _ => ha_H D cs ad xo_kd xo_ln N out.2) (ha_A ad N)) ([.ref (ad p0), .ref (ad p1), .int p2, .int p3] : List Value).toArray s 0 0 (ha_A ad N)) (F0 m 219 ls [.int k0]) := by
    intro k0 S H locs ls hf  hP hD hS hl
    unfold f_X1_move_J219 at hf
    obtain ⟨g1, hf⟩ := ha_gds hf
    have he := Option.some.inj hf
    exact ha_retz hx hb hr hlocks hP hD hS dX1_move_219 g1 (ha_e1 he) (ha_e2 he)
  have J214 : ∀  (S : ha_St) (H : Heap) (locs : List Loc) (ls : Array Slot), (f_X1_move_J214 p0 p1 p2 p3  S).bind some = some out → va_P D vwCl (ha_wl cs ad xo_kd xo_ln N S) H → va_D (ha_A ad N) (ha_wl cs ad xo_kd xo_ln N S) → va_S (ha_A ad N) s.heap H locs → lv_has ls 12 [(0, .ref (ad p0)), (1, .ref (ad p1)), (2, .int p2), (3, .int p3)] → W p l e (headSpec wsX1_move ({ frames := 2, cells := 0, slots := 0, locals := 51 } : Room)).room s m ([.ref (ad p0), .ref (ad p1), .int p2, .int p3] : List Value).toArray below meth c H locs 0 0 (MQ below (va_Qi (fun (r : Int32) (_ : Unit) => r = out.1) (fun _ => ha_H D cs ad xo_kd xo_ln N out.2) (ha_A ad N)) ([.ref (ad p0), .ref (ad p1), .int p2, .int p3] : List Value).toArray s 0 0 (ha_A ad N)) (F0 m 214 ls []) := by
    intro  S H locs ls hf  hP hD hS hl
    unfold f_X1_move_J214 at hf
    refine lv_iconst (v := 1) hx hb dX1_move_214 (by decide) ?_
    refine lv_goto (tgt := 219) hx hb dX1_move_215 (by decide) ?_
    exact J219 1 S H locs ls hf  hP hD hS (lv_sub hl [0, 1, 2, 3] rfl)
  have J191 : ∀ (v5 : Int32) (v6 : Int32) (v7 : Int32) (S : ha_St) (H : Heap) (locs : List Loc) (ls : Array Slot), (f_X1_move_J191 p0 p1 p2 p3 v5 v6 v7 S).bind some = some out → va_P D vwCl (ha_wl cs ad xo_kd xo_ln N S) H → va_D (ha_A ad N) (ha_wl cs ad xo_kd xo_ln N S) → va_S (ha_A ad N) s.heap H locs → lv_has ls 12 [(0, .ref (ad p0)), (1, .ref (ad p1)), (2, .int p2), (3, .int p3), (5, .int v5), (6, .int v6), (7, .int v7)] → W p l e (headSpec wsX1_move ({ frames := 2, cells := 0, slots := 0, locals := 51 } : Room)).room s m ([.ref (ad p0), .ref (ad p1), .int p2, .int p3] : List Value).toArray below meth c H locs 0 0 (MQ below (va_Qi (fun (r : Int32) (_ : Unit) => r = out.1) (fun _ => ha_H D cs ad xo_kd xo_ln N out.2) (ha_A ad N)) ([.ref (ad p0), .ref (ad p1), .int p2, .int p3] : List Value).toArray s 0 0 (ha_A ad N)) (F0 m 191 ls []) := by
    intro v5 v6 v7 S H locs ls hf  hP hD hS hl
    unfold f_X1_move_J191 at hf
    refine lv_iload hx hb dX1_move_191 (lv_at hl 6 rfl) ?_
    refine lv_if_ne (tgt := 214) hx hb dX1_move_193 (by decide) (fun c2 => ?_) (fun c2 => ?_)
    · have hf := ha_it hf c2
      exact J214  S H locs ls hf  hP hD hS (lv_sub hl [0, 1, 2, 3] rfl)
    · have hf := ha_if hf (fun q => q c2)
      refine lv_aload_n hx hb dX1_move_196 rfl (lv_at hl 1 rfl) ?_
      refine ha_geti hx hb hown hK hP q63 hN h1 dX1_move_197 ?_
      refine lv_iload hx hb dX1_move_200 (lv_at hl 4 rfl) ?_
      refine lv_icmp_ne (tgt := 214) hx hb dX1_move_202 (by decide) (fun c3 => ?_) (fun c3 => ?_)
      · have hf := ha_it hf c3
        exact J214  S H locs ls hf  hP hD hS (lv_sub hl [0, 1, 2, 3] rfl)
      · have hf := ha_if hf (fun q => q c3)
        refine lv_aload_n hx hb dX1_move_205 rfl (lv_at hl 1 rfl) ?_
        refine ha_geti hx hb hown hK hP q60 hN h1 dX1_move_206 ?_
        refine lv_iload hx hb dX1_move_209 (lv_at hl 5 rfl) ?_
        refine lv_icmp_eq (tgt := 218) hx hb dX1_move_211 (by decide) (fun c4 => ?_) (fun c4 => ?_)
        · have hf := ha_it hf c4
          refine lv_iconst (v := 0) hx hb dX1_move_218 (by decide) ?_
          exact J219 0 S H locs ls hf  hP hD hS (lv_sub hl [0, 1, 2, 3] rfl)
        · have hf := ha_if hf c4
          exact J214  S H locs ls hf  hP hD hS (lv_sub hl [0, 1, 2, 3] rfl)
  have J21 : ∀ (k0 : Int32) (S : ha_St) (H : Heap) (locs : List Loc) (ls : Array Slot), (f_X1_move_J21 p0 p1 p2 p3 k0 S).bind some = some out → va_P D vwCl (ha_wl cs ad xo_kd xo_ln N S) H → va_D (ha_A ad N) (ha_wl cs ad xo_kd xo_ln N S) → va_S (ha_A ad N) s.heap H locs → lv_has ls 12 [(0, .ref (ad p0)), (1, .ref (ad p1)), (2, .int p2), (3, .int p3)] → W p l e (headSpec wsX1_move ({ frames := 2, cells := 0, slots := 0, locals := 51 } : Room)).room s m ([.ref (ad p0), .ref (ad p1), .int p2, .int p3] : List Value).toArray below meth c H locs 0 0 (MQ below (va_Qi (fun (r : Int32) (_ : Unit) => r = out.1) (fun _ => ha_H D cs ad xo_kd xo_ln N out.2) (ha_A ad N)) ([.ref (ad p0), .ref (ad p1), .int p2, .int p3] : List Value).toArray s 0 0 (ha_A ad N)) (F0 m 21 ls [.int k0]) := by
    intro k0 S H locs ls hf  hP hD hS hl
    unfold f_X1_move_J21 at hf
    refine lv_iload_n hx hb dX1_move_21 rfl (lv_at hl 3 rfl) ?_
    refine lv_ior hx hb dX1_move_22 ?_
    refine lv_topi (fun x5 ex5 => ?_)
    have hf := ha_nms hf ex5
    refine lv_istore (lv' := [(4, .int x5), (0, .ref (ad p0)), (1, .ref (ad p1)), (2, .int p2), (3, .int p3)]) hx hb dX1_move_23 hl (by decide) rfl (fun ls hl => ?_)
    refine lv_aload_n hx hb dX1_move_25 rfl (lv_at hl 2 rfl) ?_
    refine ha_geti hx hb hown hK hP q63 hN h1 dX1_move_26 ?_
    refine lv_topi (fun x6 ex6 => ?_)
    have hf := ha_nms hf ex6
    refine lv_istore (lv' := [(5, .int x6), (4, .int x5), (0, .ref (ad p0)), (1, .ref (ad p1)), (2, .int p2), (3, .int p3)]) hx hb dX1_move_29 hl (by decide) rfl (fun ls hl => ?_)
    refine lv_aload_n hx hb dX1_move_31 rfl (lv_at hl 3 rfl) ?_
    refine ha_geti hx hb hown hK hP q60 hN h1 dX1_move_32 ?_
    refine lv_topi (fun x7 ex7 => ?_)
    have hf := ha_nms hf ex7
    refine lv_istore (lv' := [(6, .int x7), (5, .int x6), (4, .int x5), (0, .ref (ad p0)), (1, .ref (ad p1)), (2, .int p2), (3, .int p3)]) hx hb dX1_move_35 hl (by decide) rfl (fun ls hl => ?_)
    refine lv_iconst (v := 0) hx hb dX1_move_37 (by decide) ?_
    refine lv_istore (lv' := [(7, .int 0), (6, .int x7), (5, .int x6), (4, .int x5), (0, .ref (ad p0)), (1, .ref (ad p1)), (2, .int p2), (3, .int p3)]) hx hb dX1_move_38 hl (by decide) rfl (fun ls hl => ?_)
    refine lv_aload_n hx hb dX1_move_40 rfl (lv_at hl 5 rfl) ?_
    obtain ⟨r8, wr8, hf⟩ := ha_bds hf
    obtain ⟨wr8, hr8⟩ := ha_rf_some wr8
    refine ha_getr hx hb hown hK hP q66 hN h1 wr8 dX1_move_41 ?_
    refine lv_iconst (v := 0) hx hb dX1_move_44 (by decide) ?_
    refine lv_aload_n hx hb dX1_move_45 rfl (lv_at hl 4 rfl) ?_
    obtain ⟨r9, wr9, hf⟩ := ha_bds hf
    obtain ⟨wr9, hr9⟩ := ha_rf_some wr9
    refine ha_getr hx hb hown hK hP q24 hN h0 wr9 dX1_move_46 ?_
    refine lv_iconst (v := 0) hx hb dX1_move_49 (by decide) ?_
    refine lv_aload_n hx hb dX1_move_50 rfl (lv_at hl 5 rfl) ?_
    refine ha_geti hx hb hown hK hP q69 hN h1 dX1_move_51 ?_
    obtain ⟨g10, hf⟩ := ha_gds hf
    refine ha_copy hx hb (hml.trans hl.1.symm) hown cw0 cw1 cw2 cw3 hK hP hD hS hN hr8 hr9 g10 (by decide) (Nat.le_of_ble_eq_true rfl) dX1_move_54 (fun S11 H locs eS11 hP hD hS => ?_)
    have hf := ha_nms hf eS11
    refine lv_iconst (v := 0) hx hb dX1_move_57 (by decide) ?_
    refine lv_istore (lv' := [(8, .int 0), (7, .int 0), (6, .int x7), (5, .int x6), (4, .int x5), (0, .ref (ad p0)), (1, .ref (ad p1)), (2, .int p2), (3, .int p3)]) hx hb dX1_move_58 hl (by decide) rfl (fun ls hl => ?_)
    have key36 : ∀ (K : (Int32 × Int32 × Int32 × ha_St) → Option (Int32 × ha_St)), (∀ (v5 : Int32) (v6 : Int32) (v7 : Int32) (S : ha_St) (H : Heap) (locs : List Loc) (ls : Array Slot), K (v5, v6, v7, S) = some out → va_P D vwCl (ha_wl cs ad xo_kd xo_ln N S) H → va_D (ha_A ad N) (ha_wl cs ad xo_kd xo_ln N S) → va_S (ha_A ad N) s.heap H locs → lv_has ls 12 [(0, .ref (ad p0)), (1, .ref (ad p1)), (2, .int p2), (3, .int p3), (5, .int v5), (6, .int v6), (7, .int v7)] → W p l e (headSpec wsX1_move ({ frames := 2, cells := 0, slots := 0, locals := 51 } : Room)).room s m ([.ref (ad p0), .ref (ad p1), .int p2, .int p3] : List Value).toArray below meth c H locs 0 0 (MQ below (va_Qi (fun (r : Int32) (_ : Unit) => r = out.1) (fun _ => ha_H D cs ad xo_kd xo_ln N out.2) (ha_A ad N)) ([.ref (ad p0), .ref (ad p1), .int p2, .int p3] : List Value).toArray s 0 0 (ha_A ad N)) (F0 m 191 ls [])) → ∀ (n : Nat) (v4 : Int32) (v5 : Int32) (v6 : Int32) (v7 : Int32) (v8 : Int32) (S : ha_St) (H : Heap) (locs : List Loc) (ls : Array Slot), (f_X1_move_L60i p0 p1 p2 p3 n (v4, v5, v6, v7, v8, S)).bind K = some out → va_P D vwCl (ha_wl cs ad xo_kd xo_ln N S) H → va_D (ha_A ad N) (ha_wl cs ad xo_kd xo_ln N S) → va_S (ha_A ad N) s.heap H locs → lv_has ls 12 [(0, .ref (ad p0)), (1, .ref (ad p1)), (2, .int p2), (3, .int p3), (4, .int v4), (5, .int v5), (6, .int v6), (7, .int v7), (8, .int v8)] → W p l e (headSpec wsX1_move ({ frames := 2, cells := 0, slots := 0, locals := 51 } : Room)).room s m ([.ref (ad p0), .ref (ad p1), .int p2, .int p3] : List Value).toArray below meth c H locs 0 0 (MQ below (va_Qi (fun (r : Int32) (_ : Unit) => r = out.1) (fun _ => ha_H D cs ad xo_kd xo_ln N out.2) (ha_A ad N)) ([.ref (ad p0), .ref (ad p1), .int p2, .int p3] : List Value).toArray s 0 0 (ha_A ad N)) (F0 m 60 ls []) := by
      intro K hk n
      induction n with
      | zero =>
        intro v4 v5 v6 v7 v8 S H locs ls hf
        exact absurd (show (none : Option (Int32 × ha_St)) = some out from hf) (fun h => by cases h)
      | succ n ih =>
        intro v4 v5 v6 v7 v8 S H locs ls hf  hP hD hS hl
        have J184 : ∀ (v4 : Int32) (v5 : Int32) (v6 : Int32) (v7 : Int32) (v8 : Int32) (k0 : Nat) (k1 : Int32) (k2 : Int32) (S : ha_St) (H : Heap) (locs : List Loc) (ls : Array Slot), (f_X1_move_L60_J184 p0 p1 p2 p3 (f_X1_move_L60i p0 p1 p2 p3 n) v4 v5 v6 v7 v8 k0 k1 k2 S).bind K = some out → xo_kd k0 = 100 → va_P D vwCl (ha_wl cs ad xo_kd xo_ln N S) H → va_D (ha_A ad N) (ha_wl cs ad xo_kd xo_ln N S) → va_S (ha_A ad N) s.heap H locs → lv_has ls 12 [(0, .ref (ad p0)), (1, .ref (ad p1)), (2, .int p2), (3, .int p3), (4, .int v4), (5, .int v5), (6, .int v6), (7, .int v7), (8, .int v8)] → W p l e (headSpec wsX1_move ({ frames := 2, cells := 0, slots := 0, locals := 51 } : Room)).room s m ([.ref (ad p0), .ref (ad p1), .int p2, .int p3] : List Value).toArray below meth c H locs 0 0 (MQ below (va_Qi (fun (r : Int32) (_ : Unit) => r = out.1) (fun _ => ha_H D cs ad xo_kd xo_ln N out.2) (ha_A ad N)) ([.ref (ad p0), .ref (ad p1), .int p2, .int p3] : List Value).toArray s 0 0 (ha_A ad N)) (F0 m 184 ls [.int k2, .int k1, .ref (ad k0)]) := by
          intro v4 v5 v6 v7 v8 k0 k1 k2 S H locs ls hf hk0 hP hD hS hl
          unfold f_X1_move_L60_J184 at hf
          obtain ⟨g12, hf⟩ := ha_gds hf
          refine ha_iast hx hb hK hP hD hS hN hk0 g12 dX1_move_184 (fun S13 H locs eS13 hP hD hS => ?_)
          have hf := ha_nms hf eS13
          obtain ⟨x14, ex14⟩ : ∃ y : Int32, y = (v8 : Int32) + 1 := ⟨_, rfl⟩
          have hf := ha_nms hf ex14
          refine lv_iinc (v := x14) (lv' := [(8, .int x14), (0, .ref (ad p0)), (1, .ref (ad p1)), (2, .int p2), (3, .int p3), (4, .int v4), (5, .int v5), (6, .int v6), (7, .int v7)]) hx hb dX1_move_185 hl (k := 8) rfl (by rw [ex14]; rfl) (by decide) rfl (fun ls hl => ?_)
          refine lv_goto (tgt := 60) hx hb dX1_move_188 (by decide) ?_
          exact ih v4 v5 v6 v7 x14 S13 H locs ls hf  hP hD hS (lv_sub hl [1, 2, 3, 4, 5, 6, 7, 8, 0] rfl)
        have J153 : ∀ (v4 : Int32) (v5 : Int32) (v6 : Int32) (v7 : Int32) (v8 : Int32) (k0 : Int32) (S : ha_St) (H : Heap) (locs : List Loc) (ls : Array Slot), (f_X1_move_L60_J153 p0 p1 p2 p3 (f_X1_move_L60i p0 p1 p2 p3 n) v4 v5 v6 v7 v8 k0 S).bind K = some out → va_P D vwCl (ha_wl cs ad xo_kd xo_ln N S) H → va_D (ha_A ad N) (ha_wl cs ad xo_kd xo_ln N S) → va_S (ha_A ad N) s.heap H locs → lv_has ls 12 [(0, .ref (ad p0)), (1, .ref (ad p1)), (2, .int p2), (3, .int p3), (4, .int v4), (5, .int v5), (6, .int v6), (7, .int v7), (8, .int v8)] → W p l e (headSpec wsX1_move ({ frames := 2, cells := 0, slots := 0, locals := 51 } : Room)).room s m ([.ref (ad p0), .ref (ad p1), .int p2, .int p3] : List Value).toArray below meth c H locs 0 0 (MQ below (va_Qi (fun (r : Int32) (_ : Unit) => r = out.1) (fun _ => ha_H D cs ad xo_kd xo_ln N out.2) (ha_A ad N)) ([.ref (ad p0), .ref (ad p1), .int p2, .int p3] : List Value).toArray s 0 0 (ha_A ad N)) (F0 m 153 ls [.int k0]) := by
          intro v4 v5 v6 v7 v8 k0 S H locs ls hf  hP hD hS hl
          unfold f_X1_move_L60_J153 at hf
          refine lv_istore (lv' := [(11, .int k0), (0, .ref (ad p0)), (1, .ref (ad p1)), (2, .int p2), (3, .int p3), (4, .int v4), (5, .int v5), (6, .int v6), (7, .int v7), (8, .int v8)]) hx hb dX1_move_153 hl (by decide) rfl (fun ls hl => ?_)
          refine lv_aload_n hx hb dX1_move_155 rfl (lv_at hl 2 rfl) ?_
          obtain ⟨r15, wr15, hf⟩ := ha_bds hf
          obtain ⟨wr15, hr15⟩ := ha_rf_some wr15
          refine ha_getr hx hb hown hK hP q90 hN h1 wr15 dX1_move_156 ?_
          refine lv_iload hx hb dX1_move_159 (lv_at hl 9 rfl) ?_
          refine lv_iload hx hb dX1_move_161 (lv_at hl 0 rfl) ?_
          refine lv_if_eq (tgt := 183) hx hb dX1_move_163 (by decide) (fun c16 => ?_) (fun c16 => ?_)
          · have hf := ha_it hf c16
            refine lv_iconst (v := 0) hx hb dX1_move_183 (by decide) ?_
            exact J184 v4 v5 v6 v7 v8 r15 v8 0 S H locs ls hf hr15 hP hD hS (lv_sub hl [1, 2, 3, 4, 5, 6, 7, 8, 9] rfl)
          · have hf := ha_if hf c16
            refine lv_aload_n hx hb dX1_move_166 rfl (lv_at hl 2 rfl) ?_
            obtain ⟨r17, wr17, hf⟩ := ha_bds hf
            obtain ⟨wr17, hr17⟩ := ha_rf_some wr17
            refine ha_getr hx hb hown hK hP q90 hN h1 wr17 dX1_move_167 ?_
            refine lv_iload hx hb dX1_move_170 (lv_at hl 9 rfl) ?_
            obtain ⟨g18, hf⟩ := ha_gds hf
            refine ha_iald hx hb hK hP hN hr17 g18 dX1_move_172 ?_
            refine lv_iconst (v := 1) hx hb dX1_move_173 (by decide) ?_
            refine lv_iadd hx hb dX1_move_174 ?_
            refine lv_bipush (v := 99) hx hb dX1_move_175 (by decide) ?_
            refine va_mmin hx hb (hml.trans hl.1.symm) hown cw4 cw5 cw6 cw7 (by decide) (Nat.le_of_ble_eq_true rfl) (Nat.zero_le _) (Nat.zero_le _) dX1_move_177 ?_
            refine lv_goto (tgt := 184) hx hb dX1_move_180 (by decide) ?_
            exact J184 v4 v5 v6 v7 v8 r15 v8 ((if (99 : Int32) < (((ha_gA S r17 (v8 : Int32).toNatClampNeg) : Int32) + 1) then 99 else (((ha_gA S r17 (v8 : Int32).toNatClampNeg) : Int32) + 1))) S H locs ls hf hr15 hP hD hS (lv_sub hl [1, 2, 3, 4, 5, 6, 7, 8, 9] rfl)
        have J131 : ∀ (v4 : Int32) (v5 : Int32) (v6 : Int32) (v7 : Int32) (v8 : Int32) (S : ha_St) (H : Heap) (locs : List Loc) (ls : Array Slot), (f_X1_move_L60_J131 p0 p1 p2 p3 (f_X1_move_L60i p0 p1 p2 p3 n) v4 v5 v6 v7 v8 S).bind K = some out → va_P D vwCl (ha_wl cs ad xo_kd xo_ln N S) H → va_D (ha_A ad N) (ha_wl cs ad xo_kd xo_ln N S) → va_S (ha_A ad N) s.heap H locs → lv_has ls 12 [(0, .ref (ad p0)), (1, .ref (ad p1)), (2, .int p2), (3, .int p3), (4, .int v4), (5, .int v5), (6, .int v6), (7, .int v7), (8, .int v8)] → W p l e (headSpec wsX1_move ({ frames := 2, cells := 0, slots := 0, locals := 51 } : Room)).room s m ([.ref (ad p0), .ref (ad p1), .int p2, .int p3] : List Value).toArray below meth c H locs 0 0 (MQ below (va_Qi (fun (r : Int32) (_ : Unit) => r = out.1) (fun _ => ha_H D cs ad xo_kd xo_ln N out.2) (ha_A ad N)) ([.ref (ad p0), .ref (ad p1), .int p2, .int p3] : List Value).toArray s 0 0 (ha_A ad N)) (F0 m 131 ls []) := by
          intro v4 v5 v6 v7 v8 S H locs ls hf  hP hD hS hl
          unfold f_X1_move_L60_J131 at hf
          refine lv_aload_n hx hb dX1_move_131 rfl (lv_at hl 1 rfl) ?_
          obtain ⟨r19, wr19, hf⟩ := ha_bds hf
          obtain ⟨wr19, hr19⟩ := ha_rf_some wr19
          refine ha_getr hx hb hown hK hP q66 hN h1 wr19 dX1_move_132 ?_
          refine lv_iload hx hb dX1_move_135 (lv_at hl 8 rfl) ?_
          obtain ⟨g20, hf⟩ := ha_gds hf
          refine ha_iald hx hb hK hP hN hr19 g20 dX1_move_137 ?_
          refine lv_aload_n hx hb dX1_move_138 rfl (lv_at hl 0 rfl) ?_
          obtain ⟨r21, wr21, hf⟩ := ha_bds hf
          obtain ⟨wr21, hr21⟩ := ha_rf_some wr21
          refine ha_getr hx hb hown hK hP q24 hN h0 wr21 dX1_move_139 ?_
          refine lv_iload hx hb dX1_move_142 (lv_at hl 8 rfl) ?_
          obtain ⟨g22, hf⟩ := ha_gds hf
          refine ha_iald hx hb hK hP hN hr21 g22 dX1_move_144 ?_
          refine lv_icmp_ne (tgt := 152) hx hb dX1_move_145 (by decide) (fun c23 => ?_) (fun c23 => ?_)
          · have hf := ha_it hf c23
            refine lv_iconst (v := 0) hx hb dX1_move_152 (by decide) ?_
            exact J153 v4 v5 v6 v7 v8 0 S H locs ls hf  hP hD hS (lv_sub hl [0, 1, 2, 3, 4, 5, 6, 7, 8] rfl)
          · have hf := ha_if hf (fun q => q c23)
            refine lv_iconst (v := 1) hx hb dX1_move_148 (by decide) ?_
            refine lv_goto (tgt := 153) hx hb dX1_move_149 (by decide) ?_
            exact J153 v4 v5 v6 v7 v8 1 S H locs ls hf  hP hD hS (lv_sub hl [0, 1, 2, 3, 4, 5, 6, 7, 8] rfl)
        have hf : (f_X1_move_L60 p0 p1 p2 p3 (f_X1_move_L60i p0 p1 p2 p3 n) v4 v5 v6 v7 v8 S).bind K = some out := hf
        unfold f_X1_move_L60 at hf
        refine lv_iload hx hb dX1_move_60 (lv_at hl 8 rfl) ?_
        refine lv_aload_n hx hb dX1_move_62 rfl (lv_at hl 1 rfl) ?_
        refine ha_geti hx hb hown hK hP q69 hN h1 dX1_move_63 ?_
        refine lv_icmp_ge (tgt := 191) hx hb dX1_move_66 (by decide) (fun c24 => ?_) (fun c24 => ?_)
        · have hf := ha_it hf c24
          exact hk v5 v6 v7 S H locs ls hf  hP hD hS (lv_sub hl [0, 1, 2, 3, 5, 6, 7] rfl)
        · have hf := ha_if hf c24
          refine lv_aload_n hx hb dX1_move_69 rfl (lv_at hl 0 rfl) ?_
          refine lv_aload_n hx hb dX1_move_70 rfl (lv_at hl 1 rfl) ?_
          refine lv_iload hx hb dX1_move_71 (lv_at hl 8 rfl) ?_
          refine lv_iload hx hb dX1_move_73 (lv_at hl 4 rfl) ?_
          obtain ⟨z25, wz25, hf⟩ := ha_bds hf
          refine ha_callVv (As := [.ref (ad p1), .int v8, .int v4]) (rest := []) hZ ⟨hx, hb, hml, hown, hts⟩ hK hz hP hD hS (c_X1_see hZ hN hX h0 h1 wz25) cw8 hN h0 (by decide) rfl rfl hl.1 rfl (Nat.le_of_ble_eq_true rfl) dX1_move_75 ⟨Nat.le_of_ble_eq_true rfl, Nat.le_of_ble_eq_true rfl⟩ (fun H locs hP hD hS => ?_)
          refine lv_aload_n hx hb dX1_move_78 rfl (lv_at hl 0 rfl) ?_
          obtain ⟨r26, wr26, hf⟩ := ha_bds hf
          obtain ⟨wr26, hr26⟩ := ha_rf_some wr26
          refine ha_getr hx hb hown hK hP q11 hN h0 wr26 dX1_move_79 ?_
          refine lv_aload_n hx hb dX1_move_82 rfl (lv_at hl 1 rfl) ?_
          refine lv_iload hx hb dX1_move_83 (lv_at hl 8 rfl) ?_
          obtain ⟨z27, wz27, hf⟩ := ha_bds hf
          refine ha_callSi (As := [.ref (ad p1), .int v8]) (rest := [.ref (ad r26)]) hZ ⟨hx, hb, hml, hown, hts⟩ hK hz hP hD hS (c_X1_kindOf hZ hN hX h1 wz27) cw9 rfl hl.1 rfl (Nat.le_of_ble_eq_true rfl) dX1_move_85 ⟨Nat.le_of_ble_eq_true rfl, Nat.le_of_ble_eq_true rfl⟩ (fun H locs hP hD hS => ?_)
          obtain ⟨g28, hf⟩ := ha_gds hf
          obtain ⟨r29, wr29, hf⟩ := ha_bds hf
          obtain ⟨wr29, hr29⟩ := ha_rb_some wr29
          refine ha_aald hx hb hK hP hN hr26 (by decide) g28 wr29 dX1_move_88 ?_
          refine lv_astore (lv' := [(9, .ref (ad r29)), (0, .ref (ad p0)), (1, .ref (ad p1)), (2, .int p2), (3, .int p3), (4, .int v4), (5, .int v5), (6, .int v6), (7, .int v7), (8, .int v8)]) hx hb dX1_move_89 hl (by decide) rfl (fun ls hl => ?_)
          refine lv_aload hx hb dX1_move_91 (lv_at hl 0 rfl) ?_
          refine lv_aload_n hx hb dX1_move_93 rfl (lv_at hl 1 rfl) ?_
          obtain ⟨r30, wr30, hf⟩ := ha_bds hf
          obtain ⟨wr30, hr30⟩ := ha_rf_some wr30
          refine ha_getr hx hb hown hK hP q27 hN h0 wr30 dX1_move_94 ?_
          obtain ⟨z31, wz31, hf⟩ := ha_bds hf
          refine ha_callVi (As := [.ref (ad r30)]) (rest := []) hZ ⟨hx, hb, hml, hown, hts⟩ hK hz hP hD hS (c_X8_firstRuleThatHolds hZ hN hX hr29 hr30 wz31) cw10 hN hr29 (by decide) rfl rfl hl.1 rfl (Nat.le_of_ble_eq_true rfl) dX1_move_97 ⟨Nat.le_of_ble_eq_true rfl, Nat.le_of_ble_eq_true rfl⟩ (fun H locs hP hD hS => ?_)
          refine lv_istore (lv' := [(10, .int z31.1), (9, .ref (ad r29)), (0, .ref (ad p0)), (1, .ref (ad p1)), (2, .int p2), (3, .int p3), (4, .int v4), (5, .int v5), (6, .int v6), (7, .int v7), (8, .int v8)]) hx hb dX1_move_100 hl (by decide) rfl (fun ls hl => ?_)
          refine lv_iload hx hb dX1_move_102 (lv_at hl 0 rfl) ?_
          refine lv_iconst (v := (-1)) hx hb dX1_move_104 (by decide) ?_
          refine lv_icmp_eq (tgt := 131) hx hb dX1_move_105 (by decide) (fun c32 => ?_) (fun c32 => ?_)
          · have hf := ha_it hf c32
            exact J131 v4 v5 v6 v7 v8 z31.2 H locs ls hf  hP hD hS (lv_sub hl [2, 3, 4, 5, 6, 7, 8, 9, 10] rfl)
          · have hf := ha_if hf c32
            refine lv_aload_n hx hb dX1_move_108 rfl (lv_at hl 2 rfl) ?_
            refine lv_aload_n hx hb dX1_move_109 rfl (lv_at hl 3 rfl) ?_
            refine lv_iload hx hb dX1_move_110 (lv_at hl 10 rfl) ?_
            refine lv_aload hx hb dX1_move_112 (lv_at hl 1 rfl) ?_
            refine lv_iload hx hb dX1_move_114 (lv_at hl 0 rfl) ?_
            obtain ⟨z33, wz33, hf⟩ := ha_bds hf
            refine ha_callVv (As := [.ref (ad p1), .int v8, .ref (ad r29), .int z31.1]) (rest := []) hZ ⟨hx, hb, hml, hown, hts⟩ hK hz hP hD hS (c_X1_act hZ hN hX h0 h1 hr29 wz33) cw11 hN h0 (by decide) rfl rfl hl.1 rfl (Nat.le_of_ble_eq_true rfl) dX1_move_116 ⟨Nat.le_of_ble_eq_true rfl, Nat.le_of_ble_eq_true rfl⟩ (fun H locs hP hD hS => ?_)
            refine lv_iload hx hb dX1_move_119 (lv_at hl 9 rfl) ?_
            refine lv_aload_n hx hb dX1_move_121 rfl (lv_at hl 2 rfl) ?_
            refine lv_aload_n hx hb dX1_move_122 rfl (lv_at hl 3 rfl) ?_
            refine lv_iload hx hb dX1_move_123 (lv_at hl 10 rfl) ?_
            obtain ⟨z34, wz34, hf⟩ := ha_bds hf
            refine ha_callVi (As := [.ref (ad p1), .int v8]) (rest := [.int v7]) hZ ⟨hx, hb, hml, hown, hts⟩ hK hz hP hD hS (c_X1_keep hZ hN hX h0 h1 wz34) cw12 hN h0 (by decide) rfl rfl hl.1 rfl (Nat.le_of_ble_eq_true rfl) dX1_move_125 ⟨Nat.le_of_ble_eq_true rfl, Nat.le_of_ble_eq_true rfl⟩ (fun H locs hP hD hS => ?_)
            refine lv_ior hx hb dX1_move_128 ?_
            refine lv_topi (fun x35 ex35 => ?_)
            have hf := ha_nms hf ex35
            refine lv_istore (lv' := [(7, .int x35), (10, .int z31.1), (9, .ref (ad r29)), (0, .ref (ad p0)), (1, .ref (ad p1)), (2, .int p2), (3, .int p3), (4, .int v4), (5, .int v5), (6, .int v6), (8, .int v8)]) hx hb dX1_move_129 hl (by decide) rfl (fun ls hl => ?_)
            exact J131 v4 v5 v6 x35 v8 z34.2 H locs ls hf  hP hD hS (lv_sub hl [3, 4, 5, 6, 7, 8, 9, 0, 10] rfl)
    refine key36 _ (fun v5 v6 v7 S H locs ls hf  hP hD hS hl => ?_) ha_fu x5 x6 x7 0 0 S11 H locs ls (ha_as hf)  hP hD hS (lv_sub hl [5, 6, 7, 8, 4, 3, 2, 1, 0] rfl)
    have hf : (f_X1_move_J191 p0 p1 p2 p3 v5 v6 v7 S).bind some = some out := hf
    exact J191 v5 v6 v7 S H locs ls hf  hP hD hS (lv_sub hl [0, 1, 2, 3, 4, 5, 6] rfl)
  have J20 : ∀  (S : ha_St) (H : Heap) (locs : List Loc) (ls : Array Slot), (f_X1_move_J20 p0 p1 p2 p3  S).bind some = some out → va_P D vwCl (ha_wl cs ad xo_kd xo_ln N S) H → va_D (ha_A ad N) (ha_wl cs ad xo_kd xo_ln N S) → va_S (ha_A ad N) s.heap H locs → lv_has ls 12 [(0, .ref (ad p0)), (1, .ref (ad p1)), (2, .int p2), (3, .int p3)] → W p l e (headSpec wsX1_move ({ frames := 2, cells := 0, slots := 0, locals := 51 } : Room)).room s m ([.ref (ad p0), .ref (ad p1), .int p2, .int p3] : List Value).toArray below meth c H locs 0 0 (MQ below (va_Qi (fun (r : Int32) (_ : Unit) => r = out.1) (fun _ => ha_H D cs ad xo_kd xo_ln N out.2) (ha_A ad N)) ([.ref (ad p0), .ref (ad p1), .int p2, .int p3] : List Value).toArray s 0 0 (ha_A ad N)) (F0 m 20 ls []) := by
    intro  S H locs ls hf  hP hD hS hl
    unfold f_X1_move_J20 at hf
    refine lv_iconst (v := 0) hx hb dX1_move_20 (by decide) ?_
    exact J21 0 S H locs ls hf  hP hD hS (lv_sub hl [0, 1, 2, 3] rfl)
  unfold f_X1_move at hf
  refine lv_iload_n hx hb dX1_move_0 rfl (lv_at hl 2 rfl) ?_
  refine lv_if_lt (tgt := 20) hx hb dX1_move_1 (by decide) (fun c38 => ?_) (fun c38 => ?_)
  · have hf := ha_it hf c38
    exact J20  S H locs ls hf  hP hD hS (lv_sub hl [0, 1, 2, 3] rfl)
  · have hf := ha_if hf c38
    refine lv_iload_n hx hb dX1_move_4 rfl (lv_at hl 2 rfl) ?_
    refine lv_sipush (v := 500) hx hb dX1_move_5 (by decide) ?_
    refine lv_icmp_gt (tgt := 20) hx hb dX1_move_8 (by decide) (fun c39 => ?_) (fun c39 => ?_)
    · have hf := ha_it hf c39
      exact J20  S H locs ls hf  hP hD hS (lv_sub hl [0, 1, 2, 3] rfl)
    · have hf := ha_if hf c39
      refine lv_aload_n hx hb dX1_move_11 rfl (lv_at hl 0 rfl) ?_
      obtain ⟨r40, wr40, hf⟩ := ha_bds hf
      obtain ⟨wr40, hr40⟩ := ha_rf_some wr40
      refine ha_getr hx hb hown hK hP q21 hN h0 wr40 dX1_move_12 ?_
      refine lv_iload_n hx hb dX1_move_15 rfl (lv_at hl 2 rfl) ?_
      obtain ⟨g41, hf⟩ := ha_gds hf
      refine ha_iald hx hb hK hP hN hr40 g41 dX1_move_16 ?_
      refine lv_goto (tgt := 21) hx hb dX1_move_17 (by decide) ?_
      exact J21 ((ha_gA S r40 (p2 : Int32).toNatClampNeg)) S H locs ls hf  hP hD hS (lv_sub hl [0, 1, 2, 3] rfl)

set_option maxHeartbeats 4000000 in
set_option maxRecDepth 100000 in
theorem c_X1_outcome {l : Launch} {D : va_G} {cs : Nat → ClassId} {ad adK adV : Nat → Nat} {N : List Nat} {Z : State → Prop} (hZ : ha_Zok (ha_A ad N) Z) (hN : ∀ x, xo_kd x < 999 → x ∈ N) (hX : ∀ U, Z U → xo_Z adK adV (ha_A ad N) U) {p0 : Nat} {p1 : Nat} {S : ha_St} {out : Int32 × ha_St} (h0 : xo_kd p0 = 1) (h1 : xo_kd p1 = 5) (hf : f_X1_outcome p0 p1 S = some out) : ha_Ci l D cs ad xo_kd xo_ln N Z yX1_outcome wsX1_outcome ({ frames := 0, cells := 0, slots := 0, locals := 0 } : Room) [.ref (ad p0), .ref (ad p1)] S out.1 out.2 := by
  refine Met.ofW (cc := cX1_outcome) (maxL := 2) (ret := (some .int)) (by decide +kernel) rfl ?_
  intro p e s m args below meth c s₁ B hml hv
  obtain ⟨rfl, hP, hD, hK, hz⟩ := hv
  have hx := B.exec
  have hb := B.bytes
  have hr := B.returns
  have hts := atoms_spec (ws := wsX1_outcome) B.pre
  have hown : s.vm.findClass RX1 = some m.cls := findClass_of_methodNamed B.named
  have hlocks := B.notSynchronized
  have hS : va_S (ha_A ad N) s.heap s.heap [] := va_S.rf
  have hi1 : ∀ w ∈ wsX10, w ∈ wsX1_outcome := fun w h => List.mem_cons_of_mem _ (List.mem_append_right _ h)
  have hi5 : ∀ w ∈ wsX50, w ∈ wsX1_outcome := fun w h => List.mem_cons_of_mem _ (List.mem_append_left _ (List.mem_append_right _ h))
  have q55 : ha_Fk s ([.ref (ad p0), .ref (ad p1)] : List Value).toArray RX1 55 5 7 0 := ⟨RX5, TX5, 8, wsX1_outcome, rfl, by decide, by decide, rfl, rfl, hts, hi5, hts (.fieldLink RX1 55 "HillArms$Line" "wrongAt" "I") (by decide +kernel)⟩
  have q60 : ha_Fk s ([.ref (ad p0), .ref (ad p1)] : List Value).toArray RX1 60 5 5 0 := ⟨RX5, TX5, 8, wsX1_outcome, rfl, by decide, by decide, rfl, rfl, hts, hi5, hts (.fieldLink RX1 60 "HillArms$Line" "wrote" "I") (by decide +kernel)⟩
  have q49 : ha_Fk s ([.ref (ad p0), .ref (ad p1)] : List Value).toArray RX1 49 1 6 0 := ⟨RX1, TX1, 8, wsX1_outcome, rfl, by decide, by decide, rfl, rfl, hts, hi1, hts (.fieldLink RX1 49 "HillArms$Crew" "messageSigns" "I") (by decide +kernel)⟩
  have hl := lv_entry ([.ref (ad p0), .ref (ad p1)]) (n := 2) (Nat.le_of_ble_eq_true rfl)
  rw [lg_entry_eq]
  generalize (lg_sl ([.ref (ad p0), .ref (ad p1)]) ++ List.replicate (2 - (lg_sl ([.ref (ad p0), .ref (ad p1)])).length) Slot.unset).toArray = ls at hl ⊢
  have hl : lv_has ls 2 [(0, .ref (ad p0)), (1, .ref (ad p1))] := hl
  refine (fun (K0 : ∀ (H : Heap) (locs : List Loc), va_P D vwCl (ha_wl cs ad xo_kd xo_ln N S) H → va_S (ha_A ad N) s.heap H locs → W p l e (headSpec wsX1_outcome ({ frames := 0, cells := 0, slots := 0, locals := 0 } : Room)).room s m ([.ref (ad p0), .ref (ad p1)] : List Value).toArray below meth c H locs 0 0 (MQ below (va_Qi (fun (r : Int32) (_ : Unit) => r = out.1) (fun _ => ha_H D cs ad xo_kd xo_ln N out.2) (ha_A ad N)) ([.ref (ad p0), .ref (ad p1)] : List Value).toArray s 0 0 (ha_A ad N)) (F0 m 0 ls [])) => K0 _ _ hP hS) ?_
  intro H locs hP hS
  have hf := ha_rt hf
  have J26 : ∀ (k0 : Int32) (S : ha_St) (H : Heap) (locs : List Loc) (ls : Array Slot), (f_X1_outcome_J26 p0 p1 k0 S).bind some = some out → va_P D vwCl (ha_wl cs ad xo_kd xo_ln N S) H → va_D (ha_A ad N) (ha_wl cs ad xo_kd xo_ln N S) → va_S (ha_A ad N) s.heap H locs → lv_has ls 2 [(0, .ref (ad p0)), (1, .ref (ad p1))] → W p l e (headSpec wsX1_outcome ({ frames := 0, cells := 0, slots := 0, locals := 0 } : Room)).room s m ([.ref (ad p0), .ref (ad p1)] : List Value).toArray below meth c H locs 0 0 (MQ below (va_Qi (fun (r : Int32) (_ : Unit) => r = out.1) (fun _ => ha_H D cs ad xo_kd xo_ln N out.2) (ha_A ad N)) ([.ref (ad p0), .ref (ad p1)] : List Value).toArray s 0 0 (ha_A ad N)) (F0 m 26 ls [.int k0]) := by
    intro k0 S H locs ls hf  hP hD hS hl
    unfold f_X1_outcome_J26 at hf
    have he := Option.some.inj hf
    exact ha_reti hx hb hr hlocks hP hD hS dX1_outcome_26 (ha_e1 he) (ha_e2 he)
  unfold f_X1_outcome at hf
  refine lv_aload_n hx hb dX1_outcome_0 rfl (lv_at hl 1 rfl) ?_
  refine ha_geti hx hb hown hK hP q55 hN h1 dX1_outcome_1 ?_
  refine lv_iconst (v := (-1)) hx hb dX1_outcome_4 (by decide) ?_
  refine lv_icmp_eq (tgt := 10) hx hb dX1_outcome_5 (by decide) (fun c1 => ?_) (fun c1 => ?_)
  · have hf := ha_it hf c1
    refine lv_aload_n hx hb dX1_outcome_10 rfl (lv_at hl 1 rfl) ?_
    refine ha_geti hx hb hown hK hP q60 hN h1 dX1_outcome_11 ?_
    refine lv_aload_n hx hb dX1_outcome_14 rfl (lv_at hl 0 rfl) ?_
    refine ha_geti hx hb hown hK hP q49 hN h0 dX1_outcome_15 ?_
    refine lv_icmp_ge (tgt := 25) hx hb dX1_outcome_18 (by decide) (fun c2 => ?_) (fun c2 => ?_)
    · have hf := ha_it hf c2
      refine lv_iconst (v := 0) hx hb dX1_outcome_25 (by decide) ?_
      exact J26 0 S H locs ls hf  hP hD hS (lv_sub hl [0, 1] rfl)
    · have hf := ha_if hf c2
      refine lv_iconst (v := 1) hx hb dX1_outcome_21 (by decide) ?_
      refine lv_goto (tgt := 26) hx hb dX1_outcome_22 (by decide) ?_
      exact J26 1 S H locs ls hf  hP hD hS (lv_sub hl [0, 1] rfl)
  · have hf := ha_if hf c1
    refine lv_iconst (v := 2) hx hb dX1_outcome_8 (by decide) ?_
    have he := Option.some.inj hf
    exact ha_reti hx hb hr hlocks hP hD hS dX1_outcome_9 (ha_e1 he) (ha_e2 he)

set_option maxHeartbeats 4000000 in
set_option maxRecDepth 100000 in
theorem c_X7_run {l : Launch} {D : va_G} {cs : Nat → ClassId} {ad adK adV : Nat → Nat} {N : List Nat} {Z : State → Prop} (hZ : ha_Zok (ha_A ad N) Z) (hN : ∀ x, xo_kd x < 999 → x ∈ N) (hX : ∀ U, Z U → xo_Z adK adV (ha_A ad N) U) {p0 : Nat} {p1 : Nat} {p2 : Int32} {S : ha_St} {out : ha_St} (h0 : xo_kd p0 = 7) (h1 : xo_kd p1 = 1) (hf : f_X7_run p0 p1 p2 S = some out) : ha_Cv l D cs ad xo_kd xo_ln N Z yX7_run wsX7_run ({ frames := 3, cells := 0, slots := 0, locals := 82 } : Room) [.ref (ad p0), .ref (ad p1), .int p2] S out := by
  refine Met.ofW (cc := cX7_run) (maxL := 4) (ret := none) (by decide +kernel) rfl ?_
  intro p e s m args below meth c s₁ B hml hv
  obtain ⟨rfl, hP, hD, hK, hz⟩ := hv
  have hx := B.exec
  have hb := B.bytes
  have hr := B.returns
  have hts := atoms_spec (ws := wsX7_run) B.pre
  have hown : s.vm.findClass RX7 = some m.cls := findClass_of_methodNamed B.named
  have hlocks := B.notSynchronized
  have hS : va_S (ha_A ad N) s.heap s.heap [] := va_S.rf
  have hi1 : ∀ w ∈ wsX10, w ∈ wsX7_run := fun w h => List.mem_cons_of_mem _ (List.mem_append_left _ (List.mem_append_left _ (List.mem_append_right _ h)))
  have hi5 : ∀ w ∈ wsX50, w ∈ wsX7_run := fun w h => List.mem_cons_of_mem _ (List.mem_append_left _ (List.mem_append_right _ h))
  have hi7 : ∀ w ∈ wsX70, w ∈ wsX7_run := fun w h => List.mem_cons_of_mem _ (List.mem_append_left _ (List.mem_append_left _ (List.mem_append_left _ (List.mem_append_right _ h))))
  have q14 : ha_Fk s ([.ref (ad p0), .ref (ad p1), .int p2] : List Value).toArray RX7 14 7 0 1 := ⟨RX7, TX7, 5, wsX7_run, rfl, by decide, by decide, rfl, rfl, hts, hi7, hts (.fieldLink RX7 14 "HillArms$Play" "line" "LHillArms$Line;") (by decide +kernel)⟩
  have q34 : ha_Fk s ([.ref (ad p0), .ref (ad p1), .int p2] : List Value).toArray RX7 34 1 5 0 := ⟨RX1, TX1, 8, wsX7_run, rfl, by decide, by decide, rfl, rfl, hts, hi1, hts (.fieldLink RX7 34 "HillArms$Crew" "towers" "I") (by decide +kernel)⟩
  have q45 : ha_Fk s ([.ref (ad p0), .ref (ad p1), .int p2] : List Value).toArray RX7 45 5 0 1 := ⟨RX5, TX5, 8, wsX7_run, rfl, by decide, by decide, rfl, rfl, hts, hi5, hts (.fieldLink RX7 45 "HillArms$Line" "sign" "[I") (by decide +kernel)⟩
  have q20 : ha_Fk s ([.ref (ad p0), .ref (ad p1), .int p2] : List Value).toArray RX7 20 7 1 1 := ⟨RX7, TX7, 5, wsX7_run, rfl, by decide, by decide, rfl, rfl, hts, hi7, hts (.fieldLink RX7 20 "HillArms$Play" "signs" "[I") (by decide +kernel)⟩
  have q28 : ha_Fk s ([.ref (ad p0), .ref (ad p1), .int p2] : List Value).toArray RX7 28 5 4 0 := ⟨RX5, TX5, 8, wsX7_run, rfl, by decide, by decide, rfl, rfl, hts, hi5, hts (.fieldLink RX7 28 "HillArms$Line" "towers" "I") (by decide +kernel)⟩
  have r58 : ha_Fp s ([.ref (ad p0), .ref (ad p1), .int p2] : List Value).toArray RX7 58 7 4 0 .int := ⟨RX7, TX7, 5, wsX7_run, tyX7, rfl, by decide, by decide, rfl, rfl, hts, hi7, hts (.fieldLink RX7 58 "HillArms$Play" "outcome" "I") (by decide +kernel), tyX7_ok, nmX7, rfl, by decide +kernel⟩
  have r24 : ha_Fp s ([.ref (ad p0), .ref (ad p1), .int p2] : List Value).toArray RX7 24 7 2 0 .int := ⟨RX7, TX7, 5, wsX7_run, tyX7, rfl, by decide, by decide, rfl, rfl, hts, hi7, hts (.fieldLink RX7 24 "HillArms$Play" "ticks" "I") (by decide +kernel), tyX7_ok, nmX7, rfl, by decide +kernel⟩
  have r31 : ha_Fp s ([.ref (ad p0), .ref (ad p1), .int p2] : List Value).toArray RX7 31 7 3 0 .int := ⟨RX7, TX7, 5, wsX7_run, tyX7, rfl, by decide, by decide, rfl, rfl, hts, hi7, hts (.fieldLink RX7 31 "HillArms$Play" "still" "I") (by decide +kernel), tyX7_ok, nmX7, rfl, by decide +kernel⟩
  have cw0 := cwV (R := (headSpec wsX7_run ({ frames := 3, cells := 0, slots := 0, locals := 82 } : Room)).room) 1 hts gX7_run_X1_outcome (rm := ({ frames := 0, cells := 0, slots := 0, locals := 0 } : Room)) (mc := 0) (ms := 0) rfl rfl rfl (by decide +kernel) ⟨Nat.le_of_ble_eq_true rfl, Nat.le_of_ble_eq_true rfl⟩
  have cw1 := cwV (R := (headSpec wsX7_run ({ frames := 3, cells := 0, slots := 0, locals := 82 } : Room)).room) 1 hts gX7_run_X5_begin (rm := ({ frames := 1, cells := 0, slots := 0, locals := 23 } : Room)) (mc := 0) (ms := 0) rfl rfl rfl (by decide +kernel) ⟨Nat.le_of_ble_eq_true rfl, Nat.le_of_ble_eq_true rfl⟩
  have cw2 := hts (.methodLink RX7 48 arraycopyName) (by decide +kernel)
  have cw3 := hts (.native arraycopyName) (by decide +kernel)
  have cw4 := hts (.static arraycopyName) (by decide +kernel)
  have cw5 := hts (.initialized "java/lang/System") (by decide +kernel)
  have cw6 := cwV (R := (headSpec wsX7_run ({ frames := 3, cells := 0, slots := 0, locals := 82 } : Room)).room) 3 hts gX7_run_X1_move (rm := ({ frames := 2, cells := 0, slots := 0, locals := 51 } : Room)) (mc := 0) (ms := 0) rfl rfl rfl (by decide +kernel) ⟨Nat.le_of_ble_eq_true rfl, Nat.le_of_ble_eq_true rfl⟩
  have hl := lv_entry ([.ref (ad p0), .ref (ad p1), .int p2]) (n := 4) (Nat.le_of_ble_eq_true rfl)
  rw [lg_entry_eq]
  generalize (lg_sl ([.ref (ad p0), .ref (ad p1), .int p2]) ++ List.replicate (4 - (lg_sl ([.ref (ad p0), .ref (ad p1), .int p2])).length) Slot.unset).toArray = ls at hl ⊢
  have hl : lv_has ls 4 [(0, .ref (ad p0)), (1, .ref (ad p1)), (2, .int p2)] := hl
  refine (fun (K0 : ∀ (H : Heap) (locs : List Loc), va_P D vwCl (ha_wl cs ad xo_kd xo_ln N S) H → va_S (ha_A ad N) s.heap H locs → W p l e (headSpec wsX7_run ({ frames := 3, cells := 0, slots := 0, locals := 82 } : Room)).room s m ([.ref (ad p0), .ref (ad p1), .int p2] : List Value).toArray below meth c H locs 0 0 (MQ below (va_Qv (fun (_ : Unit) => True) (fun _ => ha_H D cs ad xo_kd xo_ln N out) (ha_A ad N)) ([.ref (ad p0), .ref (ad p1), .int p2] : List Value).toArray s 0 0 (ha_A ad N)) (F0 m 0 ls [])) => K0 _ _ hP hS) ?_
  intro H locs hP hS
  have hf := ha_rt hf
  have J89 : ∀  (S : ha_St) (H : Heap) (locs : List Loc) (ls : Array Slot), (f_X7_run_J89 p0 p1 p2  S).bind some = some out → va_P D vwCl (ha_wl cs ad xo_kd xo_ln N S) H → va_D (ha_A ad N) (ha_wl cs ad xo_kd xo_ln N S) → va_S (ha_A ad N) s.heap H locs → lv_has ls 4 [(0, .ref (ad p0)), (1, .ref (ad p1)), (2, .int p2)] → W p l e (headSpec wsX7_run ({ frames := 3, cells := 0, slots := 0, locals := 82 } : Room)).room s m ([.ref (ad p0), .ref (ad p1), .int p2] : List Value).toArray below meth c H locs 0 0 (MQ below (va_Qv (fun (_ : Unit) => True) (fun _ => ha_H D cs ad xo_kd xo_ln N out) (ha_A ad N)) ([.ref (ad p0), .ref (ad p1), .int p2] : List Value).toArray s 0 0 (ha_A ad N)) (F0 m 89 ls []) := by
    intro  S H locs ls hf  hP hD hS hl
    unfold f_X7_run_J89 at hf
    refine lv_aload_n hx hb dX7_run_89 rfl (lv_at hl 0 rfl) ?_
    refine lv_aload_n hx hb dX7_run_90 rfl (lv_at hl 1 rfl) ?_
    refine lv_aload_n hx hb dX7_run_91 rfl (lv_at hl 0 rfl) ?_
    obtain ⟨r1, wr1, hf⟩ := ha_bds hf
    obtain ⟨wr1, hr1⟩ := ha_rf_some wr1
    refine ha_getr hx hb hown hK hP q14 hN h0 wr1 dX7_run_92 ?_
    obtain ⟨z2, wz2, hf⟩ := ha_bds hf
    refine ha_callVi (As := [.ref (ad r1)]) (rest := [.ref (ad p0)]) hZ ⟨hx, hb, hml, hown, hts⟩ hK hz hP hD hS (c_X1_outcome hZ hN hX h1 hr1 wz2) cw0 hN h1 (by decide) rfl rfl hl.1 rfl (Nat.le_of_ble_eq_true rfl) dX7_run_95 ⟨Nat.le_of_ble_eq_true rfl, Nat.le_of_ble_eq_true rfl⟩ (fun H locs hP hD hS => ?_)
    refine ha_puti hx hb hown hK hP hD hS r58 hN h0 dX7_run_98 (fun S3 H locs eS3 hP hD hS => ?_)
    have hf := ha_nms hf eS3
    have he := Option.some.inj hf
    exact ha_retv hx hb hr hlocks hP hD hS dX7_run_101 he
  unfold f_X7_run at hf
  refine lv_aload_n hx hb dX7_run_0 rfl (lv_at hl 0 rfl) ?_
  refine lv_iload_n hx hb dX7_run_1 rfl (lv_at hl 2 rfl) ?_
  refine ha_puti hx hb hown hK hP hD hS r24 hN h0 dX7_run_2 (fun S4 H locs eS4 hP hD hS => ?_)
  have hf := ha_nms hf eS4
  refine lv_aload_n hx hb dX7_run_5 rfl (lv_at hl 0 rfl) ?_
  refine lv_iconst (v := 0) hx hb dX7_run_6 (by decide) ?_
  refine ha_puti hx hb hown hK hP hD hS r31 hN h0 dX7_run_7 (fun S5 H locs eS5 hP hD hS => ?_)
  have hf := ha_nms hf eS5
  refine lv_aload_n hx hb dX7_run_10 rfl (lv_at hl 0 rfl) ?_
  obtain ⟨r6, wr6, hf⟩ := ha_bds hf
  obtain ⟨wr6, hr6⟩ := ha_rf_some wr6
  refine ha_getr hx hb hown hK hP q14 hN h0 wr6 dX7_run_11 ?_
  refine lv_aload_n hx hb dX7_run_14 rfl (lv_at hl 1 rfl) ?_
  refine ha_geti hx hb hown hK hP q34 hN h1 dX7_run_15 ?_
  obtain ⟨z7, wz7, hf⟩ := ha_bds hf
  refine ha_callVv (As := [.int ((ha_gI S5 p1 5))]) (rest := []) hZ ⟨hx, hb, hml, hown, hts⟩ hK hz hP hD hS (c_X5_begin hZ hN hX hr6 wz7) cw1 hN hr6 (by decide) rfl rfl hl.1 rfl (Nat.le_of_ble_eq_true rfl) dX7_run_18 ⟨Nat.le_of_ble_eq_true rfl, Nat.le_of_ble_eq_true rfl⟩ (fun H locs hP hD hS => ?_)
  refine lv_iconst (v := 0) hx hb dX7_run_21 (by decide) ?_
  refine lv_istore_n (lv' := [(3, .int 0), (0, .ref (ad p0)), (1, .ref (ad p1)), (2, .int p2)]) hx hb dX7_run_22 rfl hl (by decide) rfl (fun ls hl => ?_)
  have key22 : ∀ (K : (ha_St) → Option (ha_St)), (∀  (S : ha_St) (H : Heap) (locs : List Loc) (ls : Array Slot), K S = some out → va_P D vwCl (ha_wl cs ad xo_kd xo_ln N S) H → va_D (ha_A ad N) (ha_wl cs ad xo_kd xo_ln N S) → va_S (ha_A ad N) s.heap H locs → lv_has ls 4 [(0, .ref (ad p0)), (1, .ref (ad p1)), (2, .int p2)] → W p l e (headSpec wsX7_run ({ frames := 3, cells := 0, slots := 0, locals := 82 } : Room)).room s m ([.ref (ad p0), .ref (ad p1), .int p2] : List Value).toArray below meth c H locs 0 0 (MQ below (va_Qv (fun (_ : Unit) => True) (fun _ => ha_H D cs ad xo_kd xo_ln N out) (ha_A ad N)) ([.ref (ad p0), .ref (ad p1), .int p2] : List Value).toArray s 0 0 (ha_A ad N)) (F0 m 89 ls [])) → ∀ (n : Nat) (v3 : Int32) (S : ha_St) (H : Heap) (locs : List Loc) (ls : Array Slot), (f_X7_run_L23i p0 p1 p2 n (v3, S)).bind K = some out → va_P D vwCl (ha_wl cs ad xo_kd xo_ln N S) H → va_D (ha_A ad N) (ha_wl cs ad xo_kd xo_ln N S) → va_S (ha_A ad N) s.heap H locs → lv_has ls 4 [(0, .ref (ad p0)), (1, .ref (ad p1)), (2, .int p2), (3, .int v3)] → W p l e (headSpec wsX7_run ({ frames := 3, cells := 0, slots := 0, locals := 82 } : Room)).room s m ([.ref (ad p0), .ref (ad p1), .int p2] : List Value).toArray below meth c H locs 0 0 (MQ below (va_Qv (fun (_ : Unit) => True) (fun _ => ha_H D cs ad xo_kd xo_ln N out) (ha_A ad N)) ([.ref (ad p0), .ref (ad p1), .int p2] : List Value).toArray s 0 0 (ha_A ad N)) (F0 m 23 ls []) := by
    intro K hk n
    induction n with
    | zero =>
      intro v3 S H locs ls hf
      exact absurd (show (none : Option (ha_St)) = some out from hf) (fun h => by cases h)
    | succ n ih =>
      intro v3 S H locs ls hf  hP hD hS hl
      have J57 : ∀ (v3 : Int32) (S : ha_St) (H : Heap) (locs : List Loc) (ls : Array Slot), (f_X7_run_L23_J57 p0 p1 p2 (f_X7_run_L23i p0 p1 p2 n) v3 S).bind K = some out → va_P D vwCl (ha_wl cs ad xo_kd xo_ln N S) H → va_D (ha_A ad N) (ha_wl cs ad xo_kd xo_ln N S) → va_S (ha_A ad N) s.heap H locs → lv_has ls 4 [(0, .ref (ad p0)), (1, .ref (ad p1)), (2, .int p2), (3, .int v3)] → W p l e (headSpec wsX7_run ({ frames := 3, cells := 0, slots := 0, locals := 82 } : Room)).room s m ([.ref (ad p0), .ref (ad p1), .int p2] : List Value).toArray below meth c H locs 0 0 (MQ below (va_Qv (fun (_ : Unit) => True) (fun _ => ha_H D cs ad xo_kd xo_ln N out) (ha_A ad N)) ([.ref (ad p0), .ref (ad p1), .int p2] : List Value).toArray s 0 0 (ha_A ad N)) (F0 m 57 ls []) := by
        intro v3 S H locs ls hf  hP hD hS hl
        unfold f_X7_run_L23_J57 at hf
        refine lv_aload_n hx hb dX7_run_57 rfl (lv_at hl 0 rfl) ?_
        obtain ⟨r8, wr8, hf⟩ := ha_bds hf
        obtain ⟨wr8, hr8⟩ := ha_rf_some wr8
        refine ha_getr hx hb hown hK hP q14 hN h0 wr8 dX7_run_58 ?_
        obtain ⟨r9, wr9, hf⟩ := ha_bds hf
        obtain ⟨wr9, hr9⟩ := ha_rf_some wr9
        refine ha_getr hx hb hown hK hP q45 hN hr8 wr9 dX7_run_61 ?_
        refine lv_iconst (v := 0) hx hb dX7_run_64 (by decide) ?_
        refine lv_aload_n hx hb dX7_run_65 rfl (lv_at hl 0 rfl) ?_
        obtain ⟨r10, wr10, hf⟩ := ha_bds hf
        obtain ⟨wr10, hr10⟩ := ha_rf_some wr10
        refine ha_getr hx hb hown hK hP q20 hN h0 wr10 dX7_run_66 ?_
        refine lv_iload_n hx hb dX7_run_69 rfl (lv_at hl 3 rfl) ?_
        refine lv_bipush (v := 16) hx hb dX7_run_70 (by decide) ?_
        refine lv_imul hx hb dX7_run_72 ?_
        refine lv_aload_n hx hb dX7_run_73 rfl (lv_at hl 0 rfl) ?_
        obtain ⟨r11, wr11, hf⟩ := ha_bds hf
        obtain ⟨wr11, hr11⟩ := ha_rf_some wr11
        refine ha_getr hx hb hown hK hP q14 hN h0 wr11 dX7_run_74 ?_
        refine ha_geti hx hb hown hK hP q28 hN hr11 dX7_run_77 ?_
        obtain ⟨g12, hf⟩ := ha_gds hf
        refine ha_copy hx hb (hml.trans hl.1.symm) hown cw2 cw3 cw4 cw5 hK hP hD hS hN hr9 hr10 g12 (by decide) (Nat.le_of_ble_eq_true rfl) dX7_run_80 (fun S13 H locs eS13 hP hD hS => ?_)
        have hf := ha_nms hf eS13
        obtain ⟨x14, ex14⟩ : ∃ y : Int32, y = (v3 : Int32) + 1 := ⟨_, rfl⟩
        have hf := ha_nms hf ex14
        refine lv_iinc (v := x14) (lv' := [(3, .int x14), (0, .ref (ad p0)), (1, .ref (ad p1)), (2, .int p2)]) hx hb dX7_run_83 hl (k := 3) rfl (by rw [ex14]; rfl) (by decide) rfl (fun ls hl => ?_)
        refine lv_goto (tgt := 23) hx hb dX7_run_86 (by decide) ?_
        exact ih x14 S13 H locs ls hf  hP hD hS (lv_sub hl [1, 2, 3, 0] rfl)
      have hf : (f_X7_run_L23 p0 p1 p2 (f_X7_run_L23i p0 p1 p2 n) v3 S).bind K = some out := hf
      unfold f_X7_run_L23 at hf
      refine lv_iload_n hx hb dX7_run_23 rfl (lv_at hl 3 rfl) ?_
      refine lv_iload_n hx hb dX7_run_24 rfl (lv_at hl 2 rfl) ?_
      refine lv_icmp_gt (tgt := 89) hx hb dX7_run_25 (by decide) (fun c15 => ?_) (fun c15 => ?_)
      · have hf := ha_it hf c15
        exact hk  S H locs ls hf  hP hD hS (lv_sub hl [0, 1, 2] rfl)
      · have hf := ha_if hf c15
        refine lv_iload_n hx hb dX7_run_28 rfl (lv_at hl 3 rfl) ?_
        refine lv_sipush (v := 500) hx hb dX7_run_29 (by decide) ?_
        refine lv_icmp_gt (tgt := 89) hx hb dX7_run_32 (by decide) (fun c16 => ?_) (fun c16 => ?_)
        · have hf := ha_it hf c16
          exact hk  S H locs ls hf  hP hD hS (lv_sub hl [0, 1, 2] rfl)
        · have hf := ha_if hf c16
          refine lv_iload_n hx hb dX7_run_35 rfl (lv_at hl 3 rfl) ?_
          refine lv_if_le (tgt := 57) hx hb dX7_run_36 (by decide) (fun c17 => ?_) (fun c17 => ?_)
          · have hf := ha_it hf c17
            exact J57 v3 S H locs ls hf  hP hD hS (lv_sub hl [0, 1, 2, 3] rfl)
          · have hf := ha_if hf c17
            refine lv_aload_n hx hb dX7_run_39 rfl (lv_at hl 1 rfl) ?_
            refine lv_aload_n hx hb dX7_run_40 rfl (lv_at hl 0 rfl) ?_
            obtain ⟨r18, wr18, hf⟩ := ha_bds hf
            obtain ⟨wr18, hr18⟩ := ha_rf_some wr18
            refine ha_getr hx hb hown hK hP q14 hN h0 wr18 dX7_run_41 ?_
            refine lv_iload_n hx hb dX7_run_44 rfl (lv_at hl 3 rfl) ?_
            refine lv_iconst (v := 0) hx hb dX7_run_45 (by decide) ?_
            obtain ⟨z19, wz19, hf⟩ := ha_bds hf
            refine ha_callVi (As := [.ref (ad r18), .int v3, .int 0]) (rest := []) hZ ⟨hx, hb, hml, hown, hts⟩ hK hz hP hD hS (c_X1_move hZ hN hX h1 hr18 wz19) cw6 hN h1 (by decide) rfl rfl hl.1 rfl (Nat.le_of_ble_eq_true rfl) dX7_run_46 ⟨Nat.le_of_ble_eq_true rfl, Nat.le_of_ble_eq_true rfl⟩ (fun H locs hP hD hS => ?_)
            refine lv_if_eq (tgt := 57) hx hb dX7_run_49 (by decide) (fun c20 => ?_) (fun c20 => ?_)
            · have hf := ha_it hf c20
              exact J57 v3 z19.2 H locs ls hf  hP hD hS (lv_sub hl [0, 1, 2, 3] rfl)
            · have hf := ha_if hf c20
              refine lv_aload_n hx hb dX7_run_52 rfl (lv_at hl 0 rfl) ?_
              refine lv_iload_n hx hb dX7_run_53 rfl (lv_at hl 3 rfl) ?_
              refine ha_puti hx hb hown hK hP hD hS r31 hN h0 dX7_run_54 (fun S21 H locs eS21 hP hD hS => ?_)
              have hf := ha_nms hf eS21
              exact J57 v3 S21 H locs ls hf  hP hD hS (lv_sub hl [0, 1, 2, 3] rfl)
  refine key22 _ (fun  S H locs ls hf  hP hD hS hl => ?_) ha_fu 0 z7 H locs ls (ha_as hf)  hP hD hS (lv_sub hl [1, 2, 3, 0] rfl)
  have hf : (f_X7_run_J89 p0 p1 p2  S).bind some = some out := hf
  exact J89  S H locs ls hf  hP hD hS (lv_sub hl [0, 1, 2] rfl)

set_option maxHeartbeats 4000000 in
set_option maxRecDepth 100000 in
theorem c_X7_hasTower {l : Launch} {D : va_G} {cs : Nat → ClassId} {ad adK adV : Nat → Nat} {N : List Nat} {Z : State → Prop} (hZ : ha_Zok (ha_A ad N) Z) (hN : ∀ x, xo_kd x < 999 → x ∈ N) (hX : ∀ U, Z U → xo_Z adK adV (ha_A ad N) U) {p0 : Nat} {p1 : Int32} {S : ha_St} {out : Int32 × ha_St} (h0 : xo_kd p0 = 7) (hf : f_X7_hasTower p0 p1 S = some out) : ha_Ci l D cs ad xo_kd xo_ln N Z yX7_hasTower wsX7_hasTower ({ frames := 0, cells := 0, slots := 0, locals := 0 } : Room) [.ref (ad p0), .int p1] S out.1 out.2 := by
  refine Met.ofW (cc := cX7_hasTower) (maxL := 2) (ret := (some .boolean)) (by decide +kernel) rfl ?_
  intro p e s m args below meth c s₁ B hml hv
  obtain ⟨rfl, hP, hD, hK, hz⟩ := hv
  have hx := B.exec
  have hb := B.bytes
  have hr := B.returns
  have hts := atoms_spec (ws := wsX7_hasTower) B.pre
  have hown : s.vm.findClass RX7 = some m.cls := findClass_of_methodNamed B.named
  have hlocks := B.notSynchronized
  have hS : va_S (ha_A ad N) s.heap s.heap [] := va_S.rf
  have hi5 : ∀ w ∈ wsX50, w ∈ wsX7_hasTower := fun w h => List.mem_cons_of_mem _ (List.mem_append_right _ h)
  have hi7 : ∀ w ∈ wsX70, w ∈ wsX7_hasTower := fun w h => List.mem_cons_of_mem _ (List.mem_append_left _ (List.mem_append_right _ h))
  have q24 : ha_Fk s ([.ref (ad p0), .int p1] : List Value).toArray RX7 24 7 2 0 := ⟨RX7, TX7, 5, wsX7_hasTower, rfl, by decide, by decide, rfl, rfl, hts, hi7, hts (.fieldLink RX7 24 "HillArms$Play" "ticks" "I") (by decide +kernel)⟩
  have q14 : ha_Fk s ([.ref (ad p0), .int p1] : List Value).toArray RX7 14 7 0 1 := ⟨RX7, TX7, 5, wsX7_hasTower, rfl, by decide, by decide, rfl, rfl, hts, hi7, hts (.fieldLink RX7 14 "HillArms$Play" "line" "LHillArms$Line;") (by decide +kernel)⟩
  have q28 : ha_Fk s ([.ref (ad p0), .int p1] : List Value).toArray RX7 28 5 4 0 := ⟨RX5, TX5, 8, wsX7_hasTower, rfl, by decide, by decide, rfl, rfl, hts, hi5, hts (.fieldLink RX7 28 "HillArms$Line" "towers" "I") (by decide +kernel)⟩
  have hl := lv_entry ([.ref (ad p0), .int p1]) (n := 2) (Nat.le_of_ble_eq_true rfl)
  rw [lg_entry_eq]
  generalize (lg_sl ([.ref (ad p0), .int p1]) ++ List.replicate (2 - (lg_sl ([.ref (ad p0), .int p1])).length) Slot.unset).toArray = ls at hl ⊢
  have hl : lv_has ls 2 [(0, .ref (ad p0)), (1, .int p1)] := hl
  refine (fun (K0 : ∀ (H : Heap) (locs : List Loc), va_P D vwCl (ha_wl cs ad xo_kd xo_ln N S) H → va_S (ha_A ad N) s.heap H locs → W p l e (headSpec wsX7_hasTower ({ frames := 0, cells := 0, slots := 0, locals := 0 } : Room)).room s m ([.ref (ad p0), .int p1] : List Value).toArray below meth c H locs 0 0 (MQ below (va_Qi (fun (r : Int32) (_ : Unit) => r = out.1) (fun _ => ha_H D cs ad xo_kd xo_ln N out.2) (ha_A ad N)) ([.ref (ad p0), .int p1] : List Value).toArray s 0 0 (ha_A ad N)) (F0 m 0 ls [])) => K0 _ _ hP hS) ?_
  intro H locs hP hS
  have hf := ha_rt hf
  have J28 : ∀ (k0 : Int32) (S : ha_St) (H : Heap) (locs : List Loc) (ls : Array Slot), (f_X7_hasTower_J28 p0 p1 k0 S).bind some = some out → va_P D vwCl (ha_wl cs ad xo_kd xo_ln N S) H → va_D (ha_A ad N) (ha_wl cs ad xo_kd xo_ln N S) → va_S (ha_A ad N) s.heap H locs → lv_has ls 2 [(0, .ref (ad p0)), (1, .int p1)] → W p l e (headSpec wsX7_hasTower ({ frames := 0, cells := 0, slots := 0, locals := 0 } : Room)).room s m ([.ref (ad p0), .int p1] : List Value).toArray below meth c H locs 0 0 (MQ below (va_Qi (fun (r : Int32) (_ : Unit) => r = out.1) (fun _ => ha_H D cs ad xo_kd xo_ln N out.2) (ha_A ad N)) ([.ref (ad p0), .int p1] : List Value).toArray s 0 0 (ha_A ad N)) (F0 m 28 ls [.int k0]) := by
    intro k0 S H locs ls hf  hP hD hS hl
    unfold f_X7_hasTower_J28 at hf
    obtain ⟨g1, hf⟩ := ha_gds hf
    have he := Option.some.inj hf
    exact ha_retz hx hb hr hlocks hP hD hS dX7_hasTower_28 g1 (ha_e1 he) (ha_e2 he)
  have J27 : ∀  (S : ha_St) (H : Heap) (locs : List Loc) (ls : Array Slot), (f_X7_hasTower_J27 p0 p1  S).bind some = some out → va_P D vwCl (ha_wl cs ad xo_kd xo_ln N S) H → va_D (ha_A ad N) (ha_wl cs ad xo_kd xo_ln N S) → va_S (ha_A ad N) s.heap H locs → lv_has ls 2 [(0, .ref (ad p0)), (1, .int p1)] → W p l e (headSpec wsX7_hasTower ({ frames := 0, cells := 0, slots := 0, locals := 0 } : Room)).room s m ([.ref (ad p0), .int p1] : List Value).toArray below meth c H locs 0 0 (MQ below (va_Qi (fun (r : Int32) (_ : Unit) => r = out.1) (fun _ => ha_H D cs ad xo_kd xo_ln N out.2) (ha_A ad N)) ([.ref (ad p0), .int p1] : List Value).toArray s 0 0 (ha_A ad N)) (F0 m 27 ls []) := by
    intro  S H locs ls hf  hP hD hS hl
    unfold f_X7_hasTower_J27 at hf
    refine lv_iconst (v := 0) hx hb dX7_hasTower_27 (by decide) ?_
    exact J28 0 S H locs ls hf  hP hD hS (lv_sub hl [0, 1] rfl)
  unfold f_X7_hasTower at hf
  refine lv_aload_n hx hb dX7_hasTower_0 rfl (lv_at hl 0 rfl) ?_
  refine ha_geti hx hb hown hK hP q24 hN h0 dX7_hasTower_1 ?_
  refine lv_iconst (v := (-1)) hx hb dX7_hasTower_4 (by decide) ?_
  refine lv_icmp_eq (tgt := 27) hx hb dX7_hasTower_5 (by decide) (fun c2 => ?_) (fun c2 => ?_)
  · have hf := ha_it hf c2
    exact J27  S H locs ls hf  hP hD hS (lv_sub hl [0, 1] rfl)
  · have hf := ha_if hf c2
    refine lv_iload_n hx hb dX7_hasTower_8 rfl (lv_at hl 1 rfl) ?_
    refine lv_if_lt (tgt := 27) hx hb dX7_hasTower_9 (by decide) (fun c3 => ?_) (fun c3 => ?_)
    · have hf := ha_it hf c3
      exact J27  S H locs ls hf  hP hD hS (lv_sub hl [0, 1] rfl)
    · have hf := ha_if hf c3
      refine lv_iload_n hx hb dX7_hasTower_12 rfl (lv_at hl 1 rfl) ?_
      refine lv_aload_n hx hb dX7_hasTower_13 rfl (lv_at hl 0 rfl) ?_
      obtain ⟨r4, wr4, hf⟩ := ha_bds hf
      obtain ⟨wr4, hr4⟩ := ha_rf_some wr4
      refine ha_getr hx hb hown hK hP q14 hN h0 wr4 dX7_hasTower_14 ?_
      refine ha_geti hx hb hown hK hP q28 hN hr4 dX7_hasTower_17 ?_
      refine lv_icmp_ge (tgt := 27) hx hb dX7_hasTower_20 (by decide) (fun c5 => ?_) (fun c5 => ?_)
      · have hf := ha_it hf c5
        exact J27  S H locs ls hf  hP hD hS (lv_sub hl [0, 1] rfl)
      · have hf := ha_if hf c5
        refine lv_iconst (v := 1) hx hb dX7_hasTower_23 (by decide) ?_
        refine lv_goto (tgt := 28) hx hb dX7_hasTower_24 (by decide) ?_
        exact J28 1 S H locs ls hf  hP hD hS (lv_sub hl [0, 1] rfl)

set_option maxHeartbeats 4000000 in
set_option maxRecDepth 100000 in
theorem c_X0_listSingles {l : Launch} {D : va_G} {cs : Nat → ClassId} {ad adK adV : Nat → Nat} {N : List Nat} {Z : State → Prop} (hZ : ha_Zok (ha_A ad N) Z) (hN : ∀ x, xo_kd x < 999 → x ∈ N) (hX : ∀ U, Z U → xo_Z adK adV (ha_A ad N) U) {p0 : Nat} {p1 : Int32} {S : ha_St} {out : ha_St} (h0 : xo_kd p0 = 0) (hf : f_X0_listSingles p0 p1 S = some out) : ha_Cv l D cs ad xo_kd xo_ln N Z yX0_listSingles wsX0_listSingles ({ frames := 0, cells := 0, slots := 0, locals := 0 } : Room) [.ref (ad p0), .int p1] S out := by
  refine Met.ofW (cc := cX0_listSingles) (maxL := 4) (ret := none) (by decide +kernel) rfl ?_
  intro p e s m args below meth c s₁ B hml hv
  obtain ⟨rfl, hP, hD, hK, hz⟩ := hv
  have hx := B.exec
  have hb := B.bytes
  have hr := B.returns
  have hts := atoms_spec (ws := wsX0_listSingles) B.pre
  have hown : s.vm.findClass RX0 = some m.cls := findClass_of_methodNamed B.named
  have hlocks := B.notSynchronized
  have hS : va_S (ha_A ad N) s.heap s.heap [] := va_S.rf
  have hi0 : ∀ w ∈ wsX00, w ∈ wsX0_listSingles := fun w h => List.mem_cons_of_mem _ (List.mem_append_right _ h)
  have q53 : ha_Fk s ([.ref (ad p0), .int p1] : List Value).toArray RX0 53 0 7 0 := ⟨RX0, TX0, 11, wsX0_listSingles, rfl, by decide, by decide, rfl, rfl, hts, hi0, hts (.fieldLink RX0 53 "HillArms$Breaker" "wide" "I") (by decide +kernel)⟩
  have q80 : ha_Fk s ([.ref (ad p0), .int p1] : List Value).toArray RX0 80 0 5 0 := ⟨RX0, TX0, 11, wsX0_listSingles, rfl, by decide, by decide, rfl, rfl, hts, hi0, hts (.fieldLink RX0 80 "HillArms$Breaker" "singles" "I") (by decide +kernel)⟩
  have q27 : ha_Fk s ([.ref (ad p0), .int p1] : List Value).toArray RX0 27 0 3 1 := ⟨RX0, TX0, 11, wsX0_listSingles, rfl, by decide, by decide, rfl, rfl, hts, hi0, hts (.fieldLink RX0 27 "HillArms$Breaker" "singleTick" "[I") (by decide +kernel)⟩
  have q31 : ha_Fk s ([.ref (ad p0), .int p1] : List Value).toArray RX0 31 0 4 1 := ⟨RX0, TX0, 11, wsX0_listSingles, rfl, by decide, by decide, rfl, rfl, hts, hi0, hts (.fieldLink RX0 31 "HillArms$Breaker" "singleGap" "[I") (by decide +kernel)⟩
  have r80 : ha_Fp s ([.ref (ad p0), .int p1] : List Value).toArray RX0 80 0 5 0 .int := ⟨RX0, TX0, 11, wsX0_listSingles, tyX0, rfl, by decide, by decide, rfl, rfl, hts, hi0, hts (.fieldLink RX0 80 "HillArms$Breaker" "singles" "I") (by decide +kernel), tyX0_ok, nmX0, rfl, by decide +kernel⟩
  have hl := lv_entry ([.ref (ad p0), .int p1]) (n := 4) (Nat.le_of_ble_eq_true rfl)
  rw [lg_entry_eq]
  generalize (lg_sl ([.ref (ad p0), .int p1]) ++ List.replicate (4 - (lg_sl ([.ref (ad p0), .int p1])).length) Slot.unset).toArray = ls at hl ⊢
  have hl : lv_has ls 4 [(0, .ref (ad p0)), (1, .int p1)] := hl
  refine (fun (K0 : ∀ (H : Heap) (locs : List Loc), va_P D vwCl (ha_wl cs ad xo_kd xo_ln N S) H → va_S (ha_A ad N) s.heap H locs → W p l e (headSpec wsX0_listSingles ({ frames := 0, cells := 0, slots := 0, locals := 0 } : Room)).room s m ([.ref (ad p0), .int p1] : List Value).toArray below meth c H locs 0 0 (MQ below (va_Qv (fun (_ : Unit) => True) (fun _ => ha_H D cs ad xo_kd xo_ln N out) (ha_A ad N)) ([.ref (ad p0), .int p1] : List Value).toArray s 0 0 (ha_A ad N)) (F0 m 0 ls [])) => K0 _ _ hP hS) ?_
  intro H locs hP hS
  have hf := ha_rt hf
  have J76 : ∀  (S : ha_St) (H : Heap) (locs : List Loc) (ls : Array Slot), (f_X0_listSingles_J76 p0 p1  S).bind some = some out → va_P D vwCl (ha_wl cs ad xo_kd xo_ln N S) H → va_D (ha_A ad N) (ha_wl cs ad xo_kd xo_ln N S) → va_S (ha_A ad N) s.heap H locs → lv_has ls 4 [(0, .ref (ad p0)), (1, .int p1)] → W p l e (headSpec wsX0_listSingles ({ frames := 0, cells := 0, slots := 0, locals := 0 } : Room)).room s m ([.ref (ad p0), .int p1] : List Value).toArray below meth c H locs 0 0 (MQ below (va_Qv (fun (_ : Unit) => True) (fun _ => ha_H D cs ad xo_kd xo_ln N out) (ha_A ad N)) ([.ref (ad p0), .int p1] : List Value).toArray s 0 0 (ha_A ad N)) (F0 m 76 ls []) := by
    intro  S H locs ls hf  hP hD hS hl
    unfold f_X0_listSingles_J76 at hf
    have he := Option.some.inj hf
    exact ha_retv hx hb hr hlocks hP hD hS dX0_listSingles_76 he
  unfold f_X0_listSingles at hf
  refine lv_aload_n hx hb dX0_listSingles_0 rfl (lv_at hl 0 rfl) ?_
  refine lv_iconst (v := 0) hx hb dX0_listSingles_1 (by decide) ?_
  refine ha_puti hx hb hown hK hP hD hS r80 hN h0 dX0_listSingles_2 (fun S1 H locs eS1 hP hD hS => ?_)
  have hf := ha_nms hf eS1
  refine lv_iconst (v := 1) hx hb dX0_listSingles_5 (by decide) ?_
  refine lv_istore_n (lv' := [(2, .int 1), (0, .ref (ad p0)), (1, .int p1)]) hx hb dX0_listSingles_6 rfl hl (by decide) rfl (fun ls hl => ?_)
  have key17 : ∀ (K : (ha_St) → Option (ha_St)), (∀  (S : ha_St) (H : Heap) (locs : List Loc) (ls : Array Slot), K S = some out → va_P D vwCl (ha_wl cs ad xo_kd xo_ln N S) H → va_D (ha_A ad N) (ha_wl cs ad xo_kd xo_ln N S) → va_S (ha_A ad N) s.heap H locs → lv_has ls 4 [(0, .ref (ad p0)), (1, .int p1)] → W p l e (headSpec wsX0_listSingles ({ frames := 0, cells := 0, slots := 0, locals := 0 } : Room)).room s m ([.ref (ad p0), .int p1] : List Value).toArray below meth c H locs 0 0 (MQ below (va_Qv (fun (_ : Unit) => True) (fun _ => ha_H D cs ad xo_kd xo_ln N out) (ha_A ad N)) ([.ref (ad p0), .int p1] : List Value).toArray s 0 0 (ha_A ad N)) (F0 m 76 ls [])) → ∀ (n : Nat) (v2 : Int32) (S : ha_St) (H : Heap) (locs : List Loc) (ls : Array Slot), (f_X0_listSingles_L7i p0 p1 n (v2, S)).bind K = some out → va_P D vwCl (ha_wl cs ad xo_kd xo_ln N S) H → va_D (ha_A ad N) (ha_wl cs ad xo_kd xo_ln N S) → va_S (ha_A ad N) s.heap H locs → lv_has ls 4 [(0, .ref (ad p0)), (1, .int p1), (2, .int v2)] → W p l e (headSpec wsX0_listSingles ({ frames := 0, cells := 0, slots := 0, locals := 0 } : Room)).room s m ([.ref (ad p0), .int p1] : List Value).toArray below meth c H locs 0 0 (MQ below (va_Qv (fun (_ : Unit) => True) (fun _ => ha_H D cs ad xo_kd xo_ln N out) (ha_A ad N)) ([.ref (ad p0), .int p1] : List Value).toArray s 0 0 (ha_A ad N)) (F0 m 7 ls []) := by
    intro K hk n
    induction n with
    | zero =>
      intro v2 S H locs ls hf
      exact absurd (show (none : Option (ha_St)) = some out from hf) (fun h => by cases h)
    | succ n ih =>
      intro v2 S H locs ls hf  hP hD hS hl
      have J70 : ∀ (v2 : Int32) (S : ha_St) (H : Heap) (locs : List Loc) (ls : Array Slot), (f_X0_listSingles_L7_J70 p0 p1 (f_X0_listSingles_L7i p0 p1 n) v2 S).bind K = some out → va_P D vwCl (ha_wl cs ad xo_kd xo_ln N S) H → va_D (ha_A ad N) (ha_wl cs ad xo_kd xo_ln N S) → va_S (ha_A ad N) s.heap H locs → lv_has ls 4 [(0, .ref (ad p0)), (1, .int p1), (2, .int v2)] → W p l e (headSpec wsX0_listSingles ({ frames := 0, cells := 0, slots := 0, locals := 0 } : Room)).room s m ([.ref (ad p0), .int p1] : List Value).toArray below meth c H locs 0 0 (MQ below (va_Qv (fun (_ : Unit) => True) (fun _ => ha_H D cs ad xo_kd xo_ln N out) (ha_A ad N)) ([.ref (ad p0), .int p1] : List Value).toArray s 0 0 (ha_A ad N)) (F0 m 70 ls []) := by
        intro v2 S H locs ls hf  hP hD hS hl
        unfold f_X0_listSingles_L7_J70 at hf
        obtain ⟨x2, ex2⟩ : ∃ y : Int32, y = (v2 : Int32) + 1 := ⟨_, rfl⟩
        have hf := ha_nms hf ex2
        refine lv_iinc (v := x2) (lv' := [(2, .int x2), (0, .ref (ad p0)), (1, .int p1)]) hx hb dX0_listSingles_70 hl (k := 2) rfl (by rw [ex2]; rfl) (by decide) rfl (fun ls hl => ?_)
        refine lv_goto (tgt := 7) hx hb dX0_listSingles_73 (by decide) ?_
        exact ih x2 S H locs ls hf  hP hD hS (lv_sub hl [1, 2, 0] rfl)
      have hf : (f_X0_listSingles_L7 p0 p1 (f_X0_listSingles_L7i p0 p1 n) v2 S).bind K = some out := hf
      unfold f_X0_listSingles_L7 at hf
      refine lv_iload_n hx hb dX0_listSingles_7 rfl (lv_at hl 2 rfl) ?_
      refine lv_aload_n hx hb dX0_listSingles_8 rfl (lv_at hl 0 rfl) ?_
      refine ha_geti hx hb hown hK hP q53 hN h0 dX0_listSingles_9 ?_
      refine lv_icmp_gt (tgt := 76) hx hb dX0_listSingles_12 (by decide) (fun c3 => ?_) (fun c3 => ?_)
      · have hf := ha_it hf c3
        exact hk  S H locs ls hf  hP hD hS (lv_sub hl [0, 1] rfl)
      · have hf := ha_if hf c3
        refine lv_iconst (v := 0) hx hb dX0_listSingles_15 (by decide) ?_
        refine lv_istore_n (lv' := [(3, .int 0), (0, .ref (ad p0)), (1, .int p1), (2, .int v2)]) hx hb dX0_listSingles_16 rfl hl (by decide) rfl (fun ls hl => ?_)
        have key15 : ∀ (K : (Int32 × ha_St) → Option (ha_St)), (∀ (v2 : Int32) (S : ha_St) (H : Heap) (locs : List Loc) (ls : Array Slot), K (v2, S) = some out → va_P D vwCl (ha_wl cs ad xo_kd xo_ln N S) H → va_D (ha_A ad N) (ha_wl cs ad xo_kd xo_ln N S) → va_S (ha_A ad N) s.heap H locs → lv_has ls 4 [(0, .ref (ad p0)), (1, .int p1), (2, .int v2)] → W p l e (headSpec wsX0_listSingles ({ frames := 0, cells := 0, slots := 0, locals := 0 } : Room)).room s m ([.ref (ad p0), .int p1] : List Value).toArray below meth c H locs 0 0 (MQ below (va_Qv (fun (_ : Unit) => True) (fun _ => ha_H D cs ad xo_kd xo_ln N out) (ha_A ad N)) ([.ref (ad p0), .int p1] : List Value).toArray s 0 0 (ha_A ad N)) (F0 m 70 ls [])) → ∀ (n : Nat) (v2 : Int32) (v3 : Int32) (S : ha_St) (H : Heap) (locs : List Loc) (ls : Array Slot), (f_X0_listSingles_L17i p0 p1 n (v2, v3, S)).bind K = some out → va_P D vwCl (ha_wl cs ad xo_kd xo_ln N S) H → va_D (ha_A ad N) (ha_wl cs ad xo_kd xo_ln N S) → va_S (ha_A ad N) s.heap H locs → lv_has ls 4 [(0, .ref (ad p0)), (1, .int p1), (2, .int v2), (3, .int v3)] → W p l e (headSpec wsX0_listSingles ({ frames := 0, cells := 0, slots := 0, locals := 0 } : Room)).room s m ([.ref (ad p0), .int p1] : List Value).toArray below meth c H locs 0 0 (MQ below (va_Qv (fun (_ : Unit) => True) (fun _ => ha_H D cs ad xo_kd xo_ln N out) (ha_A ad N)) ([.ref (ad p0), .int p1] : List Value).toArray s 0 0 (ha_A ad N)) (F0 m 17 ls []) := by
          intro K hk n
          induction n with
          | zero =>
            intro v2 v3 S H locs ls hf
            exact absurd (show (none : Option (ha_St)) = some out from hf) (fun h => by cases h)
          | succ n ih =>
            intro v2 v3 S H locs ls hf  hP hD hS hl
            have hf : (f_X0_listSingles_L17 p0 p1 (f_X0_listSingles_L17i p0 p1 n) v2 v3 S).bind K = some out := hf
            unfold f_X0_listSingles_L17 at hf
            refine lv_iload_n hx hb dX0_listSingles_17 rfl (lv_at hl 3 rfl) ?_
            refine lv_iload_n hx hb dX0_listSingles_18 rfl (lv_at hl 1 rfl) ?_
            refine lv_icmp_ge (tgt := 70) hx hb dX0_listSingles_19 (by decide) (fun c4 => ?_) (fun c4 => ?_)
            · have hf := ha_it hf c4
              exact hk v2 S H locs ls hf  hP hD hS (lv_sub hl [0, 1, 2] rfl)
            · have hf := ha_if hf c4
              refine lv_aload_n hx hb dX0_listSingles_22 rfl (lv_at hl 0 rfl) ?_
              refine ha_geti hx hb hown hK hP q80 hN h0 dX0_listSingles_23 ?_
              refine lv_aload_n hx hb dX0_listSingles_26 rfl (lv_at hl 0 rfl) ?_
              obtain ⟨r5, wr5, hf⟩ := ha_bds hf
              obtain ⟨wr5, hr5⟩ := ha_rf_some wr5
              refine ha_getr hx hb hown hK hP q27 hN h0 wr5 dX0_listSingles_27 ?_
              refine ha_alen hx hb hK hP hN hr5 (by decide) (by decide) dX0_listSingles_30 ?_
              refine lv_icmp_ge (tgt := 70) hx hb dX0_listSingles_31 (by decide) (fun c6 => ?_) (fun c6 => ?_)
              · have hf := ha_it hf c6
                exact hk v2 S H locs ls hf  hP hD hS (lv_sub hl [0, 1, 2] rfl)
              · have hf := ha_if hf c6
                refine lv_aload_n hx hb dX0_listSingles_34 rfl (lv_at hl 0 rfl) ?_
                obtain ⟨r7, wr7, hf⟩ := ha_bds hf
                obtain ⟨wr7, hr7⟩ := ha_rf_some wr7
                refine ha_getr hx hb hown hK hP q27 hN h0 wr7 dX0_listSingles_35 ?_
                refine lv_aload_n hx hb dX0_listSingles_38 rfl (lv_at hl 0 rfl) ?_
                refine ha_geti hx hb hown hK hP q80 hN h0 dX0_listSingles_39 ?_
                refine lv_iload_n hx hb dX0_listSingles_42 rfl (lv_at hl 2 rfl) ?_
                obtain ⟨g8, hf⟩ := ha_gds hf
                refine ha_iast hx hb hK hP hD hS hN hr7 g8 dX0_listSingles_43 (fun S9 H locs eS9 hP hD hS => ?_)
                have hf := ha_nms hf eS9
                refine lv_aload_n hx hb dX0_listSingles_44 rfl (lv_at hl 0 rfl) ?_
                obtain ⟨r10, wr10, hf⟩ := ha_bds hf
                obtain ⟨wr10, hr10⟩ := ha_rf_some wr10
                refine ha_getr hx hb hown hK hP q31 hN h0 wr10 dX0_listSingles_45 ?_
                refine lv_aload_n hx hb dX0_listSingles_48 rfl (lv_at hl 0 rfl) ?_
                refine ha_geti hx hb hown hK hP q80 hN h0 dX0_listSingles_49 ?_
                refine lv_iload_n hx hb dX0_listSingles_52 rfl (lv_at hl 3 rfl) ?_
                obtain ⟨g11, hf⟩ := ha_gds hf
                refine ha_iast hx hb hK hP hD hS hN hr10 g11 dX0_listSingles_53 (fun S12 H locs eS12 hP hD hS => ?_)
                have hf := ha_nms hf eS12
                refine lv_aload_n hx hb dX0_listSingles_54 rfl (lv_at hl 0 rfl) ?_
                refine lv_dup hx hb dX0_listSingles_55 rfl ?_
                refine ha_geti hx hb hown hK hP q80 hN h0 dX0_listSingles_56 ?_
                refine lv_iconst (v := 1) hx hb dX0_listSingles_59 (by decide) ?_
                refine lv_iadd hx hb dX0_listSingles_60 ?_
                refine ha_puti hx hb hown hK hP hD hS r80 hN h0 dX0_listSingles_61 (fun S13 H locs eS13 hP hD hS => ?_)
                have hf := ha_nms hf eS13
                obtain ⟨x14, ex14⟩ : ∃ y : Int32, y = (v3 : Int32) + 1 := ⟨_, rfl⟩
                have hf := ha_nms hf ex14
                refine lv_iinc (v := x14) (lv' := [(3, .int x14), (0, .ref (ad p0)), (1, .int p1), (2, .int v2)]) hx hb dX0_listSingles_64 hl (k := 3) rfl (by rw [ex14]; rfl) (by decide) rfl (fun ls hl => ?_)
                refine lv_goto (tgt := 17) hx hb dX0_listSingles_67 (by decide) ?_
                exact ih v2 x14 S13 H locs ls hf  hP hD hS (lv_sub hl [1, 2, 3, 0] rfl)
        refine key15 _ (fun v2 S H locs ls hf  hP hD hS hl => ?_) ha_fu v2 0 S H locs ls (ha_as hf)  hP hD hS (lv_sub hl [1, 2, 3, 0] rfl)
        have hf : (f_X0_listSingles_L7_J70 p0 p1 (f_X0_listSingles_L7i p0 p1 n) v2 S).bind K = some out := hf
        exact J70 v2 S H locs ls hf  hP hD hS (lv_sub hl [0, 1, 2] rfl)
  refine key17 _ (fun  S H locs ls hf  hP hD hS hl => ?_) ha_fu 1 S1 H locs ls (ha_as hf)  hP hD hS (lv_sub hl [1, 2, 0] rfl)
  have hf : (f_X0_listSingles_J76 p0 p1  S).bind some = some out := hf
  exact J76  S H locs ls hf  hP hD hS (lv_sub hl [0, 1] rfl)

set_option maxHeartbeats 4000000 in
set_option maxRecDepth 100000 in
theorem c_X5_takeOver {l : Launch} {D : va_G} {cs : Nat → ClassId} {ad adK adV : Nat → Nat} {N : List Nat} {Z : State → Prop} (hZ : ha_Zok (ha_A ad N) Z) (hN : ∀ x, xo_kd x < 999 → x ∈ N) (hX : ∀ U, Z U → xo_Z adK adV (ha_A ad N) U) {p0 : Nat} {p1 : Nat} {S : ha_St} {out : ha_St} (h0 : xo_kd p0 = 5) (h1 : xo_kd p1 = 5) (hf : f_X5_takeOver p0 p1 S = some out) : ha_Cv l D cs ad xo_kd xo_ln N Z yX5_takeOver wsX5_takeOver ({ frames := 1, cells := 0, slots := 0, locals := 26 } : Room) [.ref (ad p0), .ref (ad p1)] S out := by
  refine Met.ofW (cc := cX5_takeOver) (maxL := 2) (ret := none) (by decide +kernel) rfl ?_
  intro p e s m args below meth c s₁ B hml hv
  obtain ⟨rfl, hP, hD, hK, hz⟩ := hv
  have hx := B.exec
  have hb := B.bytes
  have hr := B.returns
  have hts := atoms_spec (ws := wsX5_takeOver) B.pre
  have hown : s.vm.findClass RX5 = some m.cls := findClass_of_methodNamed B.named
  have hlocks := B.notSynchronized
  have hS : va_S (ha_A ad N) s.heap s.heap [] := va_S.rf
  have hi5 : ∀ w ∈ wsX50, w ∈ wsX5_takeOver := fun w h => List.mem_cons_of_mem _ (List.mem_append_right _ h)
  have q34 : ha_Fk s ([.ref (ad p0), .ref (ad p1)] : List Value).toArray RX5 34 5 4 0 := ⟨RX5, TX5, 8, wsX5_takeOver, rfl, by decide, by decide, rfl, rfl, hts, hi5, hts (.fieldLink RX5 34 "HillArms$Line" "towers" "I") (by decide +kernel)⟩
  have q9 : ha_Fk s ([.ref (ad p0), .ref (ad p1)] : List Value).toArray RX5 9 5 0 1 := ⟨RX5, TX5, 8, wsX5_takeOver, rfl, by decide, by decide, rfl, rfl, hts, hi5, hts (.fieldLink RX5 9 "HillArms$Line" "sign" "[I") (by decide +kernel)⟩
  have q15 : ha_Fk s ([.ref (ad p0), .ref (ad p1)] : List Value).toArray RX5 15 5 1 1 := ⟨RX5, TX5, 8, wsX5_takeOver, rfl, by decide, by decide, rfl, rfl, hts, hi5, hts (.fieldLink RX5 15 "HillArms$Line" "time" "[I") (by decide +kernel)⟩
  have q18 : ha_Fk s ([.ref (ad p0), .ref (ad p1)] : List Value).toArray RX5 18 5 2 1 := ⟨RX5, TX5, 8, wsX5_takeOver, rfl, by decide, by decide, rfl, rfl, hts, hi5, hts (.fieldLink RX5 18 "HillArms$Line" "cell" "[I") (by decide +kernel)⟩
  have q43 : ha_Fk s ([.ref (ad p0), .ref (ad p1)] : List Value).toArray RX5 43 5 5 0 := ⟨RX5, TX5, 8, wsX5_takeOver, rfl, by decide, by decide, rfl, rfl, hts, hi5, hts (.fieldLink RX5 43 "HillArms$Line" "wrote" "I") (by decide +kernel)⟩
  have q46 : ha_Fk s ([.ref (ad p0), .ref (ad p1)] : List Value).toArray RX5 46 5 6 0 := ⟨RX5, TX5, 8, wsX5_takeOver, rfl, by decide, by decide, rfl, rfl, hts, hi5, hts (.fieldLink RX5 46 "HillArms$Line" "sent" "I") (by decide +kernel)⟩
  have q24 : ha_Fk s ([.ref (ad p0), .ref (ad p1)] : List Value).toArray RX5 24 5 7 0 := ⟨RX5, TX5, 8, wsX5_takeOver, rfl, by decide, by decide, rfl, rfl, hts, hi5, hts (.fieldLink RX5 24 "HillArms$Line" "wrongAt" "I") (by decide +kernel)⟩
  have r34 : ha_Fp s ([.ref (ad p0), .ref (ad p1)] : List Value).toArray RX5 34 5 4 0 .int := ⟨RX5, TX5, 8, wsX5_takeOver, tyX5, rfl, by decide, by decide, rfl, rfl, hts, hi5, hts (.fieldLink RX5 34 "HillArms$Line" "towers" "I") (by decide +kernel), tyX5_ok, nmX5, rfl, by decide +kernel⟩
  have r43 : ha_Fp s ([.ref (ad p0), .ref (ad p1)] : List Value).toArray RX5 43 5 5 0 .int := ⟨RX5, TX5, 8, wsX5_takeOver, tyX5, rfl, by decide, by decide, rfl, rfl, hts, hi5, hts (.fieldLink RX5 43 "HillArms$Line" "wrote" "I") (by decide +kernel), tyX5_ok, nmX5, rfl, by decide +kernel⟩
  have r46 : ha_Fp s ([.ref (ad p0), .ref (ad p1)] : List Value).toArray RX5 46 5 6 0 .int := ⟨RX5, TX5, 8, wsX5_takeOver, tyX5, rfl, by decide, by decide, rfl, rfl, hts, hi5, hts (.fieldLink RX5 46 "HillArms$Line" "sent" "I") (by decide +kernel), tyX5_ok, nmX5, rfl, by decide +kernel⟩
  have r24 : ha_Fp s ([.ref (ad p0), .ref (ad p1)] : List Value).toArray RX5 24 5 7 0 .int := ⟨RX5, TX5, 8, wsX5_takeOver, tyX5, rfl, by decide, by decide, rfl, rfl, hts, hi5, hts (.fieldLink RX5 24 "HillArms$Line" "wrongAt" "I") (by decide +kernel), tyX5_ok, nmX5, rfl, by decide +kernel⟩
  have cw0 := hts (.methodLink RX5 28 Lib.Math.min.name) (by decide +kernel)
  have cw1 := hts (.static Lib.Math.min.name) (by decide +kernel)
  have cw2 := hts (.initialized "java/lang/Math") (by decide +kernel)
  have cw3 := hts (.code Lib.Math.min.name Lib.Math.min.code 2 (some .int)) (by decide +kernel)
  have cw4 := hts (.methodLink RX5 49 arraycopyName) (by decide +kernel)
  have cw5 := hts (.native arraycopyName) (by decide +kernel)
  have cw6 := hts (.static arraycopyName) (by decide +kernel)
  have cw7 := hts (.initialized "java/lang/System") (by decide +kernel)
  have hl := lv_entry ([.ref (ad p0), .ref (ad p1)]) (n := 2) (Nat.le_of_ble_eq_true rfl)
  rw [lg_entry_eq]
  generalize (lg_sl ([.ref (ad p0), .ref (ad p1)]) ++ List.replicate (2 - (lg_sl ([.ref (ad p0), .ref (ad p1)])).length) Slot.unset).toArray = ls at hl ⊢
  have hl : lv_has ls 2 [(0, .ref (ad p0)), (1, .ref (ad p1))] := hl
  refine (fun (K0 : ∀ (H : Heap) (locs : List Loc), va_P D vwCl (ha_wl cs ad xo_kd xo_ln N S) H → va_S (ha_A ad N) s.heap H locs → W p l e (headSpec wsX5_takeOver ({ frames := 1, cells := 0, slots := 0, locals := 26 } : Room)).room s m ([.ref (ad p0), .ref (ad p1)] : List Value).toArray below meth c H locs 0 0 (MQ below (va_Qv (fun (_ : Unit) => True) (fun _ => ha_H D cs ad xo_kd xo_ln N out) (ha_A ad N)) ([.ref (ad p0), .ref (ad p1)] : List Value).toArray s 0 0 (ha_A ad N)) (F0 m 0 ls [])) => K0 _ _ hP hS) ?_
  intro H locs hP hS
  have hf := ha_rt hf
  unfold f_X5_takeOver at hf
  refine lv_aload_n hx hb dX5_takeOver_0 rfl (lv_at hl 0 rfl) ?_
  refine lv_aload_n hx hb dX5_takeOver_1 rfl (lv_at hl 1 rfl) ?_
  refine ha_geti hx hb hown hK hP q34 hN h1 dX5_takeOver_2 ?_
  refine lv_aload_n hx hb dX5_takeOver_5 rfl (lv_at hl 0 rfl) ?_
  obtain ⟨r1, wr1, hf⟩ := ha_bds hf
  obtain ⟨wr1, hr1⟩ := ha_rf_some wr1
  refine ha_getr hx hb hown hK hP q9 hN h0 wr1 dX5_takeOver_6 ?_
  refine ha_alen hx hb hK hP hN hr1 (by decide) (by decide) dX5_takeOver_9 ?_
  refine va_mmin hx hb (hml.trans hl.1.symm) hown cw0 cw1 cw2 cw3 (by decide) (Nat.le_of_ble_eq_true rfl) (Nat.zero_le _) (Nat.zero_le _) dX5_takeOver_10 ?_
  refine ha_puti hx hb hown hK hP hD hS r34 hN h0 dX5_takeOver_13 (fun S2 H locs eS2 hP hD hS => ?_)
  have hf := ha_nms hf eS2
  refine lv_aload_n hx hb dX5_takeOver_16 rfl (lv_at hl 1 rfl) ?_
  obtain ⟨r3, wr3, hf⟩ := ha_bds hf
  obtain ⟨wr3, hr3⟩ := ha_rf_some wr3
  refine ha_getr hx hb hown hK hP q9 hN h1 wr3 dX5_takeOver_17 ?_
  refine lv_iconst (v := 0) hx hb dX5_takeOver_20 (by decide) ?_
  refine lv_aload_n hx hb dX5_takeOver_21 rfl (lv_at hl 0 rfl) ?_
  obtain ⟨r4, wr4, hf⟩ := ha_bds hf
  obtain ⟨wr4, hr4⟩ := ha_rf_some wr4
  refine ha_getr hx hb hown hK hP q9 hN h0 wr4 dX5_takeOver_22 ?_
  refine lv_iconst (v := 0) hx hb dX5_takeOver_25 (by decide) ?_
  refine lv_aload_n hx hb dX5_takeOver_26 rfl (lv_at hl 0 rfl) ?_
  refine ha_geti hx hb hown hK hP q34 hN h0 dX5_takeOver_27 ?_
  obtain ⟨g5, hf⟩ := ha_gds hf
  refine ha_copy hx hb (hml.trans hl.1.symm) hown cw4 cw5 cw6 cw7 hK hP hD hS hN hr3 hr4 g5 (by decide) (Nat.le_of_ble_eq_true rfl) dX5_takeOver_30 (fun S6 H locs eS6 hP hD hS => ?_)
  have hf := ha_nms hf eS6
  refine lv_aload_n hx hb dX5_takeOver_33 rfl (lv_at hl 1 rfl) ?_
  obtain ⟨r7, wr7, hf⟩ := ha_bds hf
  obtain ⟨wr7, hr7⟩ := ha_rf_some wr7
  refine ha_getr hx hb hown hK hP q15 hN h1 wr7 dX5_takeOver_34 ?_
  refine lv_iconst (v := 0) hx hb dX5_takeOver_37 (by decide) ?_
  refine lv_aload_n hx hb dX5_takeOver_38 rfl (lv_at hl 0 rfl) ?_
  obtain ⟨r8, wr8, hf⟩ := ha_bds hf
  obtain ⟨wr8, hr8⟩ := ha_rf_some wr8
  refine ha_getr hx hb hown hK hP q15 hN h0 wr8 dX5_takeOver_39 ?_
  refine lv_iconst (v := 0) hx hb dX5_takeOver_42 (by decide) ?_
  refine lv_aload_n hx hb dX5_takeOver_43 rfl (lv_at hl 0 rfl) ?_
  refine ha_geti hx hb hown hK hP q34 hN h0 dX5_takeOver_44 ?_
  obtain ⟨g9, hf⟩ := ha_gds hf
  refine ha_copy hx hb (hml.trans hl.1.symm) hown cw4 cw5 cw6 cw7 hK hP hD hS hN hr7 hr8 g9 (by decide) (Nat.le_of_ble_eq_true rfl) dX5_takeOver_47 (fun S10 H locs eS10 hP hD hS => ?_)
  have hf := ha_nms hf eS10
  refine lv_aload_n hx hb dX5_takeOver_50 rfl (lv_at hl 1 rfl) ?_
  obtain ⟨r11, wr11, hf⟩ := ha_bds hf
  obtain ⟨wr11, hr11⟩ := ha_rf_some wr11
  refine ha_getr hx hb hown hK hP q18 hN h1 wr11 dX5_takeOver_51 ?_
  refine lv_iconst (v := 0) hx hb dX5_takeOver_54 (by decide) ?_
  refine lv_aload_n hx hb dX5_takeOver_55 rfl (lv_at hl 0 rfl) ?_
  obtain ⟨r12, wr12, hf⟩ := ha_bds hf
  obtain ⟨wr12, hr12⟩ := ha_rf_some wr12
  refine ha_getr hx hb hown hK hP q18 hN h0 wr12 dX5_takeOver_56 ?_
  refine lv_iconst (v := 0) hx hb dX5_takeOver_59 (by decide) ?_
  refine lv_aload_n hx hb dX5_takeOver_60 rfl (lv_at hl 0 rfl) ?_
  refine ha_geti hx hb hown hK hP q34 hN h0 dX5_takeOver_61 ?_
  refine lv_iconst (v := 4) hx hb dX5_takeOver_64 (by decide) ?_
  refine lv_imul hx hb dX5_takeOver_65 ?_
  obtain ⟨g13, hf⟩ := ha_gds hf
  refine ha_copy hx hb (hml.trans hl.1.symm) hown cw4 cw5 cw6 cw7 hK hP hD hS hN hr11 hr12 g13 (by decide) (Nat.le_of_ble_eq_true rfl) dX5_takeOver_66 (fun S14 H locs eS14 hP hD hS => ?_)
  have hf := ha_nms hf eS14
  refine lv_aload_n hx hb dX5_takeOver_69 rfl (lv_at hl 0 rfl) ?_
  refine lv_aload_n hx hb dX5_takeOver_70 rfl (lv_at hl 1 rfl) ?_
  refine ha_geti hx hb hown hK hP q43 hN h1 dX5_takeOver_71 ?_
  refine ha_puti hx hb hown hK hP hD hS r43 hN h0 dX5_takeOver_74 (fun S15 H locs eS15 hP hD hS => ?_)
  have hf := ha_nms hf eS15
  refine lv_aload_n hx hb dX5_takeOver_77 rfl (lv_at hl 0 rfl) ?_
  refine lv_aload_n hx hb dX5_takeOver_78 rfl (lv_at hl 1 rfl) ?_
  refine ha_geti hx hb hown hK hP q46 hN h1 dX5_takeOver_79 ?_
  refine ha_puti hx hb hown hK hP hD hS r46 hN h0 dX5_takeOver_82 (fun S16 H locs eS16 hP hD hS => ?_)
  have hf := ha_nms hf eS16
  refine lv_aload_n hx hb dX5_takeOver_85 rfl (lv_at hl 0 rfl) ?_
  refine lv_aload_n hx hb dX5_takeOver_86 rfl (lv_at hl 1 rfl) ?_
  refine ha_geti hx hb hown hK hP q24 hN h1 dX5_takeOver_87 ?_
  refine ha_puti hx hb hown hK hP hD hS r24 hN h0 dX5_takeOver_90 (fun S17 H locs eS17 hP hD hS => ?_)
  have hf := ha_nms hf eS17
  have he := Option.some.inj hf
  exact ha_retv hx hb hr hlocks hP hD hS dX5_takeOver_93 he

set_option maxHeartbeats 4000000 in
set_option maxRecDepth 100000 in
theorem c_X0_playCalm {l : Launch} {D : va_G} {cs : Nat → ClassId} {ad adK adV : Nat → Nat} {N : List Nat} {Z : State → Prop} (hZ : ha_Zok (ha_A ad N) Z) (hN : ∀ x, xo_kd x < 999 → x ∈ N) (hX : ∀ U, Z U → xo_Z adK adV (ha_A ad N) U) {p0 : Nat} {p1 : Nat} {S : ha_St} {out : ha_St} (h0 : xo_kd p0 = 0) (h1 : xo_kd p1 = 1) (hf : f_X0_playCalm p0 p1 S = some out) : ha_Cv l D cs ad xo_kd xo_ln N Z yX0_playCalm wsX0_playCalm ({ frames := 3, cells := 0, slots := 0, locals := 82 } : Room) [.ref (ad p0), .ref (ad p1)] S out := by
  refine Met.ofW (cc := cX0_playCalm) (maxL := 3) (ret := none) (by decide +kernel) rfl ?_
  intro p e s m args below meth c s₁ B hml hv
  obtain ⟨rfl, hP, hD, hK, hz⟩ := hv
  have hx := B.exec
  have hb := B.bytes
  have hr := B.returns
  have hts := atoms_spec (ws := wsX0_playCalm) B.pre
  have hown : s.vm.findClass RX0 = some m.cls := findClass_of_methodNamed B.named
  have hlocks := B.notSynchronized
  have hS : va_S (ha_A ad N) s.heap s.heap [] := va_S.rf
  have hi0 : ∀ w ∈ wsX00, w ∈ wsX0_playCalm := fun w h => List.mem_cons_of_mem _ (List.mem_append_left _ (List.mem_append_left _ (List.mem_append_left _ (List.mem_append_right _ h))))
  have hi1 : ∀ w ∈ wsX10, w ∈ wsX0_playCalm := fun w h => List.mem_cons_of_mem _ (List.mem_append_left _ (List.mem_append_left _ (List.mem_append_right _ h)))
  have q11 : ha_Fk s ([.ref (ad p0), .ref (ad p1)] : List Value).toArray RX0 11 0 0 1 := ⟨RX0, TX0, 11, wsX0_playCalm, rfl, by decide, by decide, rfl, rfl, hts, hi0, hts (.fieldLink RX0 11 "HillArms$Breaker" "calm" "[LHillArms$Line;") (by decide +kernel)⟩
  have q56 : ha_Fk s ([.ref (ad p0), .ref (ad p1)] : List Value).toArray RX0 56 1 5 0 := ⟨RX1, TX1, 8, wsX0_playCalm, rfl, by decide, by decide, rfl, rfl, hts, hi1, hts (.fieldLink RX0 56 "HillArms$Crew" "towers" "I") (by decide +kernel)⟩
  have q50 : ha_Fk s ([.ref (ad p0), .ref (ad p1)] : List Value).toArray RX0 50 0 6 0 := ⟨RX0, TX0, 11, wsX0_playCalm, rfl, by decide, by decide, rfl, rfl, hts, hi0, hts (.fieldLink RX0 50 "HillArms$Breaker" "ticks" "I") (by decide +kernel)⟩
  have cw0 := cwV (R := (headSpec wsX0_playCalm ({ frames := 3, cells := 0, slots := 0, locals := 82 } : Room)).room) 1 hts gX0_playCalm_X5_begin (rm := ({ frames := 1, cells := 0, slots := 0, locals := 23 } : Room)) (mc := 0) (ms := 0) rfl rfl rfl (by decide +kernel) ⟨Nat.le_of_ble_eq_true rfl, Nat.le_of_ble_eq_true rfl⟩
  have cw1 := cwV (R := (headSpec wsX0_playCalm ({ frames := 3, cells := 0, slots := 0, locals := 82 } : Room)).room) 1 hts gX0_playCalm_X5_takeOver (rm := ({ frames := 1, cells := 0, slots := 0, locals := 26 } : Room)) (mc := 0) (ms := 0) rfl rfl rfl (by decide +kernel) ⟨Nat.le_of_ble_eq_true rfl, Nat.le_of_ble_eq_true rfl⟩
  have cw2 := cwV (R := (headSpec wsX0_playCalm ({ frames := 3, cells := 0, slots := 0, locals := 82 } : Room)).room) 3 hts gX0_playCalm_X1_move (rm := ({ frames := 2, cells := 0, slots := 0, locals := 51 } : Room)) (mc := 0) (ms := 0) rfl rfl rfl (by decide +kernel) ⟨Nat.le_of_ble_eq_true rfl, Nat.le_of_ble_eq_true rfl⟩
  have hl := lv_entry ([.ref (ad p0), .ref (ad p1)]) (n := 3) (Nat.le_of_ble_eq_true rfl)
  rw [lg_entry_eq]
  generalize (lg_sl ([.ref (ad p0), .ref (ad p1)]) ++ List.replicate (3 - (lg_sl ([.ref (ad p0), .ref (ad p1)])).length) Slot.unset).toArray = ls at hl ⊢
  have hl : lv_has ls 3 [(0, .ref (ad p0)), (1, .ref (ad p1))] := hl
  refine (fun (K0 : ∀ (H : Heap) (locs : List Loc), va_P D vwCl (ha_wl cs ad xo_kd xo_ln N S) H → va_S (ha_A ad N) s.heap H locs → W p l e (headSpec wsX0_playCalm ({ frames := 3, cells := 0, slots := 0, locals := 82 } : Room)).room s m ([.ref (ad p0), .ref (ad p1)] : List Value).toArray below meth c H locs 0 0 (MQ below (va_Qv (fun (_ : Unit) => True) (fun _ => ha_H D cs ad xo_kd xo_ln N out) (ha_A ad N)) ([.ref (ad p0), .ref (ad p1)] : List Value).toArray s 0 0 (ha_A ad N)) (F0 m 0 ls [])) => K0 _ _ hP hS) ?_
  intro H locs hP hS
  have hf := ha_rt hf
  have J59 : ∀  (S : ha_St) (H : Heap) (locs : List Loc) (ls : Array Slot), (f_X0_playCalm_J59 p0 p1  S).bind some = some out → va_P D vwCl (ha_wl cs ad xo_kd xo_ln N S) H → va_D (ha_A ad N) (ha_wl cs ad xo_kd xo_ln N S) → va_S (ha_A ad N) s.heap H locs → lv_has ls 3 [(0, .ref (ad p0)), (1, .ref (ad p1))] → W p l e (headSpec wsX0_playCalm ({ frames := 3, cells := 0, slots := 0, locals := 82 } : Room)).room s m ([.ref (ad p0), .ref (ad p1)] : List Value).toArray below meth c H locs 0 0 (MQ below (va_Qv (fun (_ : Unit) => True) (fun _ => ha_H D cs ad xo_kd xo_ln N out) (ha_A ad N)) ([.ref (ad p0), .ref (ad p1)] : List Value).toArray s 0 0 (ha_A ad N)) (F0 m 59 ls []) := by
    intro  S H locs ls hf  hP hD hS hl
    unfold f_X0_playCalm_J59 at hf
    have he := Option.some.inj hf
    exact ha_retv hx hb hr hlocks hP hD hS dX0_playCalm_59 he
  unfold f_X0_playCalm at hf
  refine lv_aload_n hx hb dX0_playCalm_0 rfl (lv_at hl 0 rfl) ?_
  obtain ⟨r1, wr1, hf⟩ := ha_bds hf
  obtain ⟨wr1, hr1⟩ := ha_rf_some wr1
  refine ha_getr hx hb hown hK hP q11 hN h0 wr1 dX0_playCalm_1 ?_
  refine lv_iconst (v := 0) hx hb dX0_playCalm_4 (by decide) ?_
  obtain ⟨g2, hf⟩ := ha_gds hf
  obtain ⟨r3, wr3, hf⟩ := ha_bds hf
  obtain ⟨wr3, hr3⟩ := ha_rb_some wr3
  refine ha_aald hx hb hK hP hN hr1 (by decide) g2 wr3 dX0_playCalm_5 ?_
  refine lv_aload_n hx hb dX0_playCalm_6 rfl (lv_at hl 1 rfl) ?_
  refine ha_geti hx hb hown hK hP q56 hN h1 dX0_playCalm_7 ?_
  obtain ⟨z4, wz4, hf⟩ := ha_bds hf
  refine ha_callVv (As := [.int ((ha_gI S p1 5))]) (rest := []) hZ ⟨hx, hb, hml, hown, hts⟩ hK hz hP hD hS (c_X5_begin hZ hN hX hr3 wz4) cw0 hN hr3 (by decide) rfl rfl hl.1 rfl (Nat.le_of_ble_eq_true rfl) dX0_playCalm_10 ⟨Nat.le_of_ble_eq_true rfl, Nat.le_of_ble_eq_true rfl⟩ (fun H locs hP hD hS => ?_)
  refine lv_iconst (v := 1) hx hb dX0_playCalm_13 (by decide) ?_
  refine lv_istore_n (lv' := [(2, .int 1), (0, .ref (ad p0)), (1, .ref (ad p1))]) hx hb dX0_playCalm_14 rfl hl (by decide) rfl (fun ls hl => ?_)
  have key18 : ∀ (K : (ha_St) → Option (ha_St)), (∀  (S : ha_St) (H : Heap) (locs : List Loc) (ls : Array Slot), K S = some out → va_P D vwCl (ha_wl cs ad xo_kd xo_ln N S) H → va_D (ha_A ad N) (ha_wl cs ad xo_kd xo_ln N S) → va_S (ha_A ad N) s.heap H locs → lv_has ls 3 [(0, .ref (ad p0)), (1, .ref (ad p1))] → W p l e (headSpec wsX0_playCalm ({ frames := 3, cells := 0, slots := 0, locals := 82 } : Room)).room s m ([.ref (ad p0), .ref (ad p1)] : List Value).toArray below meth c H locs 0 0 (MQ below (va_Qv (fun (_ : Unit) => True) (fun _ => ha_H D cs ad xo_kd xo_ln N out) (ha_A ad N)) ([.ref (ad p0), .ref (ad p1)] : List Value).toArray s 0 0 (ha_A ad N)) (F0 m 59 ls [])) → ∀ (n : Nat) (v2 : Int32) (S : ha_St) (H : Heap) (locs : List Loc) (ls : Array Slot), (f_X0_playCalm_L15i p0 p1 n (v2, S)).bind K = some out → va_P D vwCl (ha_wl cs ad xo_kd xo_ln N S) H → va_D (ha_A ad N) (ha_wl cs ad xo_kd xo_ln N S) → va_S (ha_A ad N) s.heap H locs → lv_has ls 3 [(0, .ref (ad p0)), (1, .ref (ad p1)), (2, .int v2)] → W p l e (headSpec wsX0_playCalm ({ frames := 3, cells := 0, slots := 0, locals := 82 } : Room)).room s m ([.ref (ad p0), .ref (ad p1)] : List Value).toArray below meth c H locs 0 0 (MQ below (va_Qv (fun (_ : Unit) => True) (fun _ => ha_H D cs ad xo_kd xo_ln N out) (ha_A ad N)) ([.ref (ad p0), .ref (ad p1)] : List Value).toArray s 0 0 (ha_A ad N)) (F0 m 15 ls []) := by
    intro K hk n
    induction n with
    | zero =>
      intro v2 S H locs ls hf
      exact absurd (show (none : Option (ha_St)) = some out from hf) (fun h => by cases h)
    | succ n ih =>
      intro v2 S H locs ls hf  hP hD hS hl
      have hf : (f_X0_playCalm_L15 p0 p1 (f_X0_playCalm_L15i p0 p1 n) v2 S).bind K = some out := hf
      unfold f_X0_playCalm_L15 at hf
      refine lv_iload_n hx hb dX0_playCalm_15 rfl (lv_at hl 2 rfl) ?_
      refine lv_aload_n hx hb dX0_playCalm_16 rfl (lv_at hl 0 rfl) ?_
      refine ha_geti hx hb hown hK hP q50 hN h0 dX0_playCalm_17 ?_
      refine lv_icmp_gt (tgt := 59) hx hb dX0_playCalm_20 (by decide) (fun c5 => ?_) (fun c5 => ?_)
      · have hf := ha_it hf c5
        exact hk  S H locs ls hf  hP hD hS (lv_sub hl [0, 1] rfl)
      · have hf := ha_if hf c5
        refine lv_aload_n hx hb dX0_playCalm_23 rfl (lv_at hl 0 rfl) ?_
        obtain ⟨r6, wr6, hf⟩ := ha_bds hf
        obtain ⟨wr6, hr6⟩ := ha_rf_some wr6
        refine ha_getr hx hb hown hK hP q11 hN h0 wr6 dX0_playCalm_24 ?_
        refine lv_iload_n hx hb dX0_playCalm_27 rfl (lv_at hl 2 rfl) ?_
        obtain ⟨g7, hf⟩ := ha_gds hf
        obtain ⟨r8, wr8, hf⟩ := ha_bds hf
        obtain ⟨wr8, hr8⟩ := ha_rb_some wr8
        refine ha_aald hx hb hK hP hN hr6 (by decide) g7 wr8 dX0_playCalm_28 ?_
        refine lv_aload_n hx hb dX0_playCalm_29 rfl (lv_at hl 0 rfl) ?_
        obtain ⟨r9, wr9, hf⟩ := ha_bds hf
        obtain ⟨wr9, hr9⟩ := ha_rf_some wr9
        refine ha_getr hx hb hown hK hP q11 hN h0 wr9 dX0_playCalm_30 ?_
        refine lv_iload_n hx hb dX0_playCalm_33 rfl (lv_at hl 2 rfl) ?_
        refine lv_iconst (v := 1) hx hb dX0_playCalm_34 (by decide) ?_
        refine lv_isub hx hb dX0_playCalm_35 ?_
        obtain ⟨g10, hf⟩ := ha_gds hf
        obtain ⟨r11, wr11, hf⟩ := ha_bds hf
        obtain ⟨wr11, hr11⟩ := ha_rb_some wr11
        refine ha_aald hx hb hK hP hN hr9 (by decide) g10 wr11 dX0_playCalm_36 ?_
        obtain ⟨z12, wz12, hf⟩ := ha_bds hf
        refine ha_callVv (As := [.ref (ad r11)]) (rest := []) hZ ⟨hx, hb, hml, hown, hts⟩ hK hz hP hD hS (c_X5_takeOver hZ hN hX hr8 hr11 wz12) cw1 hN hr8 (by decide) rfl rfl hl.1 rfl (Nat.le_of_ble_eq_true rfl) dX0_playCalm_37 ⟨Nat.le_of_ble_eq_true rfl, Nat.le_of_ble_eq_true rfl⟩ (fun H locs hP hD hS => ?_)
        refine lv_aload_n hx hb dX0_playCalm_40 rfl (lv_at hl 1 rfl) ?_
        refine lv_aload_n hx hb dX0_playCalm_41 rfl (lv_at hl 0 rfl) ?_
        obtain ⟨r13, wr13, hf⟩ := ha_bds hf
        obtain ⟨wr13, hr13⟩ := ha_rf_some wr13
        refine ha_getr hx hb hown hK hP q11 hN h0 wr13 dX0_playCalm_42 ?_
        refine lv_iload_n hx hb dX0_playCalm_45 rfl (lv_at hl 2 rfl) ?_
        obtain ⟨g14, hf⟩ := ha_gds hf
        obtain ⟨r15, wr15, hf⟩ := ha_bds hf
        obtain ⟨wr15, hr15⟩ := ha_rb_some wr15
        refine ha_aald hx hb hK hP hN hr13 (by decide) g14 wr15 dX0_playCalm_46 ?_
        refine lv_iload_n hx hb dX0_playCalm_47 rfl (lv_at hl 2 rfl) ?_
        refine lv_iconst (v := 0) hx hb dX0_playCalm_48 (by decide) ?_
        obtain ⟨z16, wz16, hf⟩ := ha_bds hf
        refine ha_callVi (As := [.ref (ad r15), .int v2, .int 0]) (rest := []) hZ ⟨hx, hb, hml, hown, hts⟩ hK hz hP hD hS (c_X1_move hZ hN hX h1 hr15 wz16) cw2 hN h1 (by decide) rfl rfl hl.1 rfl (Nat.le_of_ble_eq_true rfl) dX0_playCalm_49 ⟨Nat.le_of_ble_eq_true rfl, Nat.le_of_ble_eq_true rfl⟩ (fun H locs hP hD hS => ?_)
        refine lv_pop hx hb dX0_playCalm_52 rfl ?_
        obtain ⟨x17, ex17⟩ : ∃ y : Int32, y = (v2 : Int32) + 1 := ⟨_, rfl⟩
        have hf := ha_nms hf ex17
        refine lv_iinc (v := x17) (lv' := [(2, .int x17), (0, .ref (ad p0)), (1, .ref (ad p1))]) hx hb dX0_playCalm_53 hl (k := 2) rfl (by rw [ex17]; rfl) (by decide) rfl (fun ls hl => ?_)
        refine lv_goto (tgt := 15) hx hb dX0_playCalm_56 (by decide) ?_
        exact ih x17 z16.2 H locs ls hf  hP hD hS (lv_sub hl [1, 2, 0] rfl)
  refine key18 _ (fun  S H locs ls hf  hP hD hS hl => ?_) ha_fu 1 z4 H locs ls (ha_as hf)  hP hD hS (lv_sub hl [1, 2, 0] rfl)
  have hf : (f_X0_playCalm_J59 p0 p1  S).bind some = some out := hf
  exact J59  S H locs ls hf  hP hD hS (lv_sub hl [0, 1] rfl)

set_option maxHeartbeats 4000000 in
set_option maxRecDepth 100000 in
theorem c_X1_alike {l : Launch} {D : va_G} {cs : Nat → ClassId} {ad adK adV : Nat → Nat} {N : List Nat} {Z : State → Prop} (hZ : ha_Zok (ha_A ad N) Z) (hN : ∀ x, xo_kd x < 999 → x ∈ N) (hX : ∀ U, Z U → xo_Z adK adV (ha_A ad N) U) {p0 : Nat} {p1 : Nat} {p2 : Nat} {S : ha_St} {out : Int32 × ha_St} (h0 : xo_kd p0 = 1) (h1 : xo_kd p1 = 5) (h2 : xo_kd p2 = 5) (hf : f_X1_alike p0 p1 p2 S = some out) : ha_Ci l D cs ad xo_kd xo_ln N Z yX1_alike wsX1_alike ({ frames := 1, cells := 0, slots := 0, locals := 21 } : Room) [.ref (ad p0), .ref (ad p1), .ref (ad p2)] S out.1 out.2 := by
  refine Met.ofW (cc := cX1_alike) (maxL := 5) (ret := (some .boolean)) (by decide +kernel) rfl ?_
  intro p e s m args below meth c s₁ B hml hv
  obtain ⟨rfl, hP, hD, hK, hz⟩ := hv
  have hx := B.exec
  have hb := B.bytes
  have hr := B.returns
  have hts := atoms_spec (ws := wsX1_alike) B.pre
  have hown : s.vm.findClass RX1 = some m.cls := findClass_of_methodNamed B.named
  have hlocks := B.notSynchronized
  have hS : va_S (ha_A ad N) s.heap s.heap [] := va_S.rf
  have hi1 : ∀ w ∈ wsX10, w ∈ wsX1_alike := fun w h => List.mem_cons_of_mem _ (List.mem_append_left _ (List.mem_append_right _ h))
  have hi5 : ∀ w ∈ wsX50, w ∈ wsX1_alike := fun w h => List.mem_cons_of_mem _ (List.mem_append_left _ (List.mem_append_left _ (List.mem_append_right _ h)))
  have hi8 : ∀ w ∈ wsX80, w ∈ wsX1_alike := fun w h => List.mem_cons_of_mem _ (List.mem_append_right _ h)
  have q103 : ha_Fk s ([.ref (ad p0), .ref (ad p1), .ref (ad p2)] : List Value).toArray RX1 103 5 2 1 := ⟨RX5, TX5, 8, wsX1_alike, rfl, by decide, by decide, rfl, rfl, hts, hi5, hts (.fieldLink RX1 103 "HillArms$Line" "cell" "[I") (by decide +kernel)⟩
  have q63 : ha_Fk s ([.ref (ad p0), .ref (ad p1), .ref (ad p2)] : List Value).toArray RX1 63 5 6 0 := ⟨RX5, TX5, 8, wsX1_alike, rfl, by decide, by decide, rfl, rfl, hts, hi5, hts (.fieldLink RX1 63 "HillArms$Line" "sent" "I") (by decide +kernel)⟩
  have q60 : ha_Fk s ([.ref (ad p0), .ref (ad p1), .ref (ad p2)] : List Value).toArray RX1 60 5 5 0 := ⟨RX5, TX5, 8, wsX1_alike, rfl, by decide, by decide, rfl, rfl, hts, hi5, hts (.fieldLink RX1 60 "HillArms$Line" "wrote" "I") (by decide +kernel)⟩
  have q55 : ha_Fk s ([.ref (ad p0), .ref (ad p1), .ref (ad p2)] : List Value).toArray RX1 55 5 7 0 := ⟨RX5, TX5, 8, wsX1_alike, rfl, by decide, by decide, rfl, rfl, hts, hi5, hts (.fieldLink RX1 55 "HillArms$Line" "wrongAt" "I") (by decide +kernel)⟩
  have q69 : ha_Fk s ([.ref (ad p0), .ref (ad p1), .ref (ad p2)] : List Value).toArray RX1 69 5 4 0 := ⟨RX5, TX5, 8, wsX1_alike, rfl, by decide, by decide, rfl, rfl, hts, hi5, hts (.fieldLink RX1 69 "HillArms$Line" "towers" "I") (by decide +kernel)⟩
  have q66 : ha_Fk s ([.ref (ad p0), .ref (ad p1), .ref (ad p2)] : List Value).toArray RX1 66 5 0 1 := ⟨RX5, TX5, 8, wsX1_alike, rfl, by decide, by decide, rfl, rfl, hts, hi5, hts (.fieldLink RX1 66 "HillArms$Line" "sign" "[I") (by decide +kernel)⟩
  have q90 : ha_Fk s ([.ref (ad p0), .ref (ad p1), .ref (ad p2)] : List Value).toArray RX1 90 5 1 1 := ⟨RX5, TX5, 8, wsX1_alike, rfl, by decide, by decide, rfl, rfl, hts, hi5, hts (.fieldLink RX1 90 "HillArms$Line" "time" "[I") (by decide +kernel)⟩
  have q11 : ha_Fk s ([.ref (ad p0), .ref (ad p1), .ref (ad p2)] : List Value).toArray RX1 11 1 0 1 := ⟨RX1, TX1, 8, wsX1_alike, rfl, by decide, by decide, rfl, rfl, hts, hi1, hts (.fieldLink RX1 11 "HillArms$Crew" "programs" "[LHillArms$Program;") (by decide +kernel)⟩
  have q99 : ha_Fk s ([.ref (ad p0), .ref (ad p1), .ref (ad p2)] : List Value).toArray RX1 99 8 11 0 := ⟨RX8, TX8, 12, wsX1_alike, rfl, by decide, by decide, rfl, rfl, hts, hi8, hts (.fieldLink RX1 99 "HillArms$Program" "asksTime" "Z") (by decide +kernel)⟩
  have cw0 := hts (.methodLink RX1 93 Lib.Math.min.name) (by decide +kernel)
  have cw1 := hts (.static Lib.Math.min.name) (by decide +kernel)
  have cw2 := hts (.initialized "java/lang/Math") (by decide +kernel)
  have cw3 := hts (.code Lib.Math.min.name Lib.Math.min.code 2 (some .int)) (by decide +kernel)
  have cw4 := va_cwS (R := (headSpec wsX1_alike ({ frames := 1, cells := 0, slots := 0, locals := 21 } : Room)).room) 2 hts gX1_alike_X1_kindOf (rm := ({ frames := 0, cells := 0, slots := 0, locals := 0 } : Room)) (mc := 0) (ms := 0) rfl rfl rfl (by decide +kernel) ⟨Nat.le_of_ble_eq_true rfl, Nat.le_of_ble_eq_true rfl⟩
  have hl := lv_entry ([.ref (ad p0), .ref (ad p1), .ref (ad p2)]) (n := 5) (Nat.le_of_ble_eq_true rfl)
  rw [lg_entry_eq]
  generalize (lg_sl ([.ref (ad p0), .ref (ad p1), .ref (ad p2)]) ++ List.replicate (5 - (lg_sl ([.ref (ad p0), .ref (ad p1), .ref (ad p2)])).length) Slot.unset).toArray = ls at hl ⊢
  have hl : lv_has ls 5 [(0, .ref (ad p0)), (1, .ref (ad p1)), (2, .ref (ad p2))] := hl
  refine (fun (K0 : ∀ (H : Heap) (locs : List Loc), va_P D vwCl (ha_wl cs ad xo_kd xo_ln N S) H → va_S (ha_A ad N) s.heap H locs → W p l e (headSpec wsX1_alike ({ frames := 1, cells := 0, slots := 0, locals := 21 } : Room)).room s m ([.ref (ad p0), .ref (ad p1), .ref (ad p2)] : List Value).toArray below meth c H locs 0 0 (MQ below (va_Qi (fun (r : Int32) (_ : Unit) => r = out.1) (fun _ => ha_H D cs ad xo_kd xo_ln N out.2) (ha_A ad N)) ([.ref (ad p0), .ref (ad p1), .ref (ad p2)] : List Value).toArray s 0 0 (ha_A ad N)) (F0 m 0 ls [])) => K0 _ _ hP hS) ?_
  intro H locs hP hS
  have hf := ha_rt hf
  have J153 : ∀  (S : ha_St) (H : Heap) (locs : List Loc) (ls : Array Slot), (f_X1_alike_J153 p0 p1 p2  S).bind some = some out → va_P D vwCl (ha_wl cs ad xo_kd xo_ln N S) H → va_D (ha_A ad N) (ha_wl cs ad xo_kd xo_ln N S) → va_S (ha_A ad N) s.heap H locs → lv_has ls 5 [(0, .ref (ad p0)), (1, .ref (ad p1)), (2, .ref (ad p2))] → W p l e (headSpec wsX1_alike ({ frames := 1, cells := 0, slots := 0, locals := 21 } : Room)).room s m ([.ref (ad p0), .ref (ad p1), .ref (ad p2)] : List Value).toArray below meth c H locs 0 0 (MQ below (va_Qi (fun (r : Int32) (_ : Unit) => r = out.1) (fun _ => ha_H D cs ad xo_kd xo_ln N out.2) (ha_A ad N)) ([.ref (ad p0), .ref (ad p1), .ref (ad p2)] : List Value).toArray s 0 0 (ha_A ad N)) (F0 m 153 ls []) := by
    intro  S H locs ls hf  hP hD hS hl
    unfold f_X1_alike_J153 at hf
    refine lv_iconst (v := 1) hx hb dX1_alike_153 (by decide) ?_
    have he := Option.some.inj hf
    exact ha_retz hx hb hr hlocks hP hD hS dX1_alike_154 (by decide) (ha_e1 he) (ha_e2 he)
  have J117 : ∀ (v3 : Int32) (S : ha_St) (H : Heap) (locs : List Loc) (ls : Array Slot), (f_X1_alike_J117 p0 p1 p2 v3 S).bind some = some out → va_P D vwCl (ha_wl cs ad xo_kd xo_ln N S) H → va_D (ha_A ad N) (ha_wl cs ad xo_kd xo_ln N S) → va_S (ha_A ad N) s.heap H locs → lv_has ls 5 [(0, .ref (ad p0)), (1, .ref (ad p1)), (2, .ref (ad p2)), (3, .int v3)] → W p l e (headSpec wsX1_alike ({ frames := 1, cells := 0, slots := 0, locals := 21 } : Room)).room s m ([.ref (ad p0), .ref (ad p1), .ref (ad p2)] : List Value).toArray below meth c H locs 0 0 (MQ below (va_Qi (fun (r : Int32) (_ : Unit) => r = out.1) (fun _ => ha_H D cs ad xo_kd xo_ln N out.2) (ha_A ad N)) ([.ref (ad p0), .ref (ad p1), .ref (ad p2)] : List Value).toArray s 0 0 (ha_A ad N)) (F0 m 117 ls []) := by
    intro v3 S H locs ls hf  hP hD hS hl
    unfold f_X1_alike_J117 at hf
    refine lv_iconst (v := 0) hx hb dX1_alike_117 (by decide) ?_
    refine lv_istore (lv' := [(4, .int 0), (0, .ref (ad p0)), (1, .ref (ad p1)), (2, .ref (ad p2)), (3, .int v3)]) hx hb dX1_alike_118 hl (by decide) rfl (fun ls hl => ?_)
    have key8 : ∀ (K : ((ha_St) ⊕ (Int32 × ha_St)) → Option (Int32 × ha_St)), (∀  (S : ha_St) (H : Heap) (locs : List Loc) (ls : Array Slot), K (.inl S) = some out → va_P D vwCl (ha_wl cs ad xo_kd xo_ln N S) H → va_D (ha_A ad N) (ha_wl cs ad xo_kd xo_ln N S) → va_S (ha_A ad N) s.heap H locs → lv_has ls 5 [(0, .ref (ad p0)), (1, .ref (ad p1)), (2, .ref (ad p2))] → W p l e (headSpec wsX1_alike ({ frames := 1, cells := 0, slots := 0, locals := 21 } : Room)).room s m ([.ref (ad p0), .ref (ad p1), .ref (ad p2)] : List Value).toArray below meth c H locs 0 0 (MQ below (va_Qi (fun (r : Int32) (_ : Unit) => r = out.1) (fun _ => ha_H D cs ad xo_kd xo_ln N out.2) (ha_A ad N)) ([.ref (ad p0), .ref (ad p1), .ref (ad p2)] : List Value).toArray s 0 0 (ha_A ad N)) (F0 m 153 ls [])) → (∀ r, K (.inr r) = some out → r = out) → ∀ (n : Nat) (v3 : Int32) (v4 : Int32) (S : ha_St) (H : Heap) (locs : List Loc) (ls : Array Slot), (f_X1_alike_L120i p0 p1 p2 n (v3, v4, S)).bind K = some out → va_P D vwCl (ha_wl cs ad xo_kd xo_ln N S) H → va_D (ha_A ad N) (ha_wl cs ad xo_kd xo_ln N S) → va_S (ha_A ad N) s.heap H locs → lv_has ls 5 [(0, .ref (ad p0)), (1, .ref (ad p1)), (2, .ref (ad p2)), (3, .int v3), (4, .int v4)] → W p l e (headSpec wsX1_alike ({ frames := 1, cells := 0, slots := 0, locals := 21 } : Room)).room s m ([.ref (ad p0), .ref (ad p1), .ref (ad p2)] : List Value).toArray below meth c H locs 0 0 (MQ below (va_Qi (fun (r : Int32) (_ : Unit) => r = out.1) (fun _ => ha_H D cs ad xo_kd xo_ln N out.2) (ha_A ad N)) ([.ref (ad p0), .ref (ad p1), .ref (ad p2)] : List Value).toArray s 0 0 (ha_A ad N)) (F0 m 120 ls []) := by
      intro K hk hke n
      induction n with
      | zero =>
        intro v3 v4 S H locs ls hf
        exact absurd (show (none : Option (Int32 × ha_St)) = some out from hf) (fun h => by cases h)
      | succ n ih =>
        intro v3 v4 S H locs ls hf  hP hD hS hl
        have hf : (f_X1_alike_L120 p0 p1 p2 (f_X1_alike_L120i p0 p1 p2 n) v3 v4 S).bind K = some out := hf
        unfold f_X1_alike_L120 at hf
        refine lv_iload hx hb dX1_alike_120 (lv_at hl 4 rfl) ?_
        refine lv_iload_n hx hb dX1_alike_122 rfl (lv_at hl 3 rfl) ?_
        refine lv_iconst (v := 4) hx hb dX1_alike_123 (by decide) ?_
        refine lv_imul hx hb dX1_alike_124 ?_
        refine lv_icmp_ge (tgt := 153) hx hb dX1_alike_125 (by decide) (fun c1 => ?_) (fun c1 => ?_)
        · have hf := ha_it hf c1
          exact hk  S H locs ls hf  hP hD hS (lv_sub hl [0, 1, 2] rfl)
        · have hf := ha_if hf c1
          refine lv_aload_n hx hb dX1_alike_128 rfl (lv_at hl 1 rfl) ?_
          obtain ⟨r2, wr2, hf⟩ := ha_bds hf
          obtain ⟨wr2, hr2⟩ := ha_rf_some wr2
          refine ha_getr hx hb hown hK hP q103 hN h1 wr2 dX1_alike_129 ?_
          refine lv_iload hx hb dX1_alike_132 (lv_at hl 4 rfl) ?_
          obtain ⟨g3, hf⟩ := ha_gds hf
          refine ha_iald hx hb hK hP hN hr2 g3 dX1_alike_134 ?_
          refine lv_aload_n hx hb dX1_alike_135 rfl (lv_at hl 2 rfl) ?_
          obtain ⟨r4, wr4, hf⟩ := ha_bds hf
          obtain ⟨wr4, hr4⟩ := ha_rf_some wr4
          refine ha_getr hx hb hown hK hP q103 hN h2 wr4 dX1_alike_136 ?_
          refine lv_iload hx hb dX1_alike_139 (lv_at hl 4 rfl) ?_
          obtain ⟨g5, hf⟩ := ha_gds hf
          refine ha_iald hx hb hK hP hN hr4 g5 dX1_alike_141 ?_
          refine lv_icmp_eq (tgt := 147) hx hb dX1_alike_142 (by decide) (fun c6 => ?_) (fun c6 => ?_)
          · have hf := ha_it hf c6
            obtain ⟨x7, ex7⟩ : ∃ y : Int32, y = (v4 : Int32) + 1 := ⟨_, rfl⟩
            have hf := ha_nms hf ex7
            refine lv_iinc (v := x7) (lv' := [(4, .int x7), (0, .ref (ad p0)), (1, .ref (ad p1)), (2, .ref (ad p2)), (3, .int v3)]) hx hb dX1_alike_147 hl (k := 4) rfl (by rw [ex7]; rfl) (by decide) rfl (fun ls hl => ?_)
            refine lv_goto (tgt := 120) hx hb dX1_alike_150 (by decide) ?_
            exact ih v3 x7 S H locs ls hf  hP hD hS (lv_sub hl [1, 2, 3, 4, 0] rfl)
          · have hf := ha_if hf c6
            refine lv_iconst (v := 0) hx hb dX1_alike_145 (by decide) ?_
            have he := hke _ hf
            exact ha_retz hx hb hr hlocks hP hD hS dX1_alike_146 (by decide) (ha_e1 he) (ha_e2 he)
    refine key8 _ (fun  S H locs ls hf  hP hD hS hl => ?_) (fun r h => Option.some.inj h) ha_fu v3 0 S H locs ls (ha_as hf)  hP hD hS (lv_sub hl [1, 2, 3, 4, 0] rfl)
    have hf : (f_X1_alike_J153 p0 p1 p2  S).bind some = some out := hf
    exact J153  S H locs ls hf  hP hD hS (lv_sub hl [0, 1, 2] rfl)
  have J33 : ∀  (S : ha_St) (H : Heap) (locs : List Loc) (ls : Array Slot), (f_X1_alike_J33 p0 p1 p2  S).bind some = some out → va_P D vwCl (ha_wl cs ad xo_kd xo_ln N S) H → va_D (ha_A ad N) (ha_wl cs ad xo_kd xo_ln N S) → va_S (ha_A ad N) s.heap H locs → lv_has ls 5 [(0, .ref (ad p0)), (1, .ref (ad p1)), (2, .ref (ad p2))] → W p l e (headSpec wsX1_alike ({ frames := 1, cells := 0, slots := 0, locals := 21 } : Room)).room s m ([.ref (ad p0), .ref (ad p1), .ref (ad p2)] : List Value).toArray below meth c H locs 0 0 (MQ below (va_Qi (fun (r : Int32) (_ : Unit) => r = out.1) (fun _ => ha_H D cs ad xo_kd xo_ln N out.2) (ha_A ad N)) ([.ref (ad p0), .ref (ad p1), .ref (ad p2)] : List Value).toArray s 0 0 (ha_A ad N)) (F0 m 33 ls []) := by
    intro  S H locs ls hf  hP hD hS hl
    unfold f_X1_alike_J33 at hf
    refine lv_iconst (v := 0) hx hb dX1_alike_33 (by decide) ?_
    have he := Option.some.inj hf
    exact ha_retz hx hb hr hlocks hP hD hS dX1_alike_34 (by decide) (ha_e1 he) (ha_e2 he)
  unfold f_X1_alike at hf
  refine lv_aload_n hx hb dX1_alike_0 rfl (lv_at hl 1 rfl) ?_
  refine ha_geti hx hb hown hK hP q63 hN h1 dX1_alike_1 ?_
  refine lv_aload_n hx hb dX1_alike_4 rfl (lv_at hl 2 rfl) ?_
  refine ha_geti hx hb hown hK hP q63 hN h2 dX1_alike_5 ?_
  refine lv_icmp_ne (tgt := 33) hx hb dX1_alike_8 (by decide) (fun c10 => ?_) (fun c10 => ?_)
  · have hf := ha_it hf c10
    exact J33  S H locs ls hf  hP hD hS (lv_sub hl [0, 1, 2] rfl)
  · have hf := ha_if hf (fun q => q c10)
    refine lv_aload_n hx hb dX1_alike_11 rfl (lv_at hl 1 rfl) ?_
    refine ha_geti hx hb hown hK hP q60 hN h1 dX1_alike_12 ?_
    refine lv_aload_n hx hb dX1_alike_15 rfl (lv_at hl 2 rfl) ?_
    refine ha_geti hx hb hown hK hP q60 hN h2 dX1_alike_16 ?_
    refine lv_icmp_ne (tgt := 33) hx hb dX1_alike_19 (by decide) (fun c11 => ?_) (fun c11 => ?_)
    · have hf := ha_it hf c11
      exact J33  S H locs ls hf  hP hD hS (lv_sub hl [0, 1, 2] rfl)
    · have hf := ha_if hf (fun q => q c11)
      refine lv_aload_n hx hb dX1_alike_22 rfl (lv_at hl 1 rfl) ?_
      refine ha_geti hx hb hown hK hP q55 hN h1 dX1_alike_23 ?_
      refine lv_aload_n hx hb dX1_alike_26 rfl (lv_at hl 2 rfl) ?_
      refine ha_geti hx hb hown hK hP q55 hN h2 dX1_alike_27 ?_
      refine lv_icmp_eq (tgt := 35) hx hb dX1_alike_30 (by decide) (fun c12 => ?_) (fun c12 => ?_)
      · have hf := ha_it hf c12
        refine lv_aload_n hx hb dX1_alike_35 rfl (lv_at hl 1 rfl) ?_
        refine ha_geti hx hb hown hK hP q69 hN h1 dX1_alike_36 ?_
        refine lv_aload_n hx hb dX1_alike_39 rfl (lv_at hl 2 rfl) ?_
        refine ha_geti hx hb hown hK hP q69 hN h2 dX1_alike_40 ?_
        refine va_mmin hx hb (hml.trans hl.1.symm) hown cw0 cw1 cw2 cw3 (by decide) (Nat.le_of_ble_eq_true rfl) (Nat.zero_le _) (Nat.zero_le _) dX1_alike_43 ?_
        refine lv_topi (fun x13 ex13 => ?_)
        have hf := ha_nms hf ex13
        refine lv_istore_n (lv' := [(3, .int x13), (0, .ref (ad p0)), (1, .ref (ad p1)), (2, .ref (ad p2))]) hx hb dX1_alike_46 rfl hl (by decide) rfl (fun ls hl => ?_)
        refine lv_iconst (v := 0) hx hb dX1_alike_47 (by decide) ?_
        refine lv_istore (lv' := [(4, .int 0), (3, .int x13), (0, .ref (ad p0)), (1, .ref (ad p1)), (2, .ref (ad p2))]) hx hb dX1_alike_48 hl (by decide) rfl (fun ls hl => ?_)
        have key31 : ∀ (K : ((Int32 × ha_St) ⊕ (Int32 × ha_St)) → Option (Int32 × ha_St)), (∀ (v3 : Int32) (S : ha_St) (H : Heap) (locs : List Loc) (ls : Array Slot), K (.inl (v3, S)) = some out → va_P D vwCl (ha_wl cs ad xo_kd xo_ln N S) H → va_D (ha_A ad N) (ha_wl cs ad xo_kd xo_ln N S) → va_S (ha_A ad N) s.heap H locs → lv_has ls 5 [(0, .ref (ad p0)), (1, .ref (ad p1)), (2, .ref (ad p2)), (3, .int v3)] → W p l e (headSpec wsX1_alike ({ frames := 1, cells := 0, slots := 0, locals := 21 } : Room)).room s m ([.ref (ad p0), .ref (ad p1), .ref (ad p2)] : List Value).toArray below meth c H locs 0 0 (MQ below (va_Qi (fun (r : Int32) (_ : Unit) => r = out.1) (fun _ => ha_H D cs ad xo_kd xo_ln N out.2) (ha_A ad N)) ([.ref (ad p0), .ref (ad p1), .ref (ad p2)] : List Value).toArray s 0 0 (ha_A ad N)) (F0 m 117 ls [])) → (∀ r, K (.inr r) = some out → r = out) → ∀ (n : Nat) (v3 : Int32) (v4 : Int32) (S : ha_St) (H : Heap) (locs : List Loc) (ls : Array Slot), (f_X1_alike_L50i p0 p1 p2 n (v3, v4, S)).bind K = some out → va_P D vwCl (ha_wl cs ad xo_kd xo_ln N S) H → va_D (ha_A ad N) (ha_wl cs ad xo_kd xo_ln N S) → va_S (ha_A ad N) s.heap H locs → lv_has ls 5 [(0, .ref (ad p0)), (1, .ref (ad p1)), (2, .ref (ad p2)), (3, .int v3), (4, .int v4)] → W p l e (headSpec wsX1_alike ({ frames := 1, cells := 0, slots := 0, locals := 21 } : Room)).room s m ([.ref (ad p0), .ref (ad p1), .ref (ad p2)] : List Value).toArray below meth c H locs 0 0 (MQ below (va_Qi (fun (r : Int32) (_ : Unit) => r = out.1) (fun _ => ha_H D cs ad xo_kd xo_ln N out.2) (ha_A ad N)) ([.ref (ad p0), .ref (ad p1), .ref (ad p2)] : List Value).toArray s 0 0 (ha_A ad N)) (F0 m 50 ls []) := by
          intro K hk hke n
          induction n with
          | zero =>
            intro v3 v4 S H locs ls hf
            exact absurd (show (none : Option (Int32 × ha_St)) = some out from hf) (fun h => by cases h)
          | succ n ih =>
            intro v3 v4 S H locs ls hf  hP hD hS hl
            have J111 : ∀ (v3 : Int32) (v4 : Int32) (S : ha_St) (H : Heap) (locs : List Loc) (ls : Array Slot), (f_X1_alike_L50_J111 p0 p1 p2 (f_X1_alike_L50i p0 p1 p2 n) v3 v4 S).bind K = some out → va_P D vwCl (ha_wl cs ad xo_kd xo_ln N S) H → va_D (ha_A ad N) (ha_wl cs ad xo_kd xo_ln N S) → va_S (ha_A ad N) s.heap H locs → lv_has ls 5 [(0, .ref (ad p0)), (1, .ref (ad p1)), (2, .ref (ad p2)), (3, .int v3), (4, .int v4)] → W p l e (headSpec wsX1_alike ({ frames := 1, cells := 0, slots := 0, locals := 21 } : Room)).room s m ([.ref (ad p0), .ref (ad p1), .ref (ad p2)] : List Value).toArray below meth c H locs 0 0 (MQ below (va_Qi (fun (r : Int32) (_ : Unit) => r = out.1) (fun _ => ha_H D cs ad xo_kd xo_ln N out.2) (ha_A ad N)) ([.ref (ad p0), .ref (ad p1), .ref (ad p2)] : List Value).toArray s 0 0 (ha_A ad N)) (F0 m 111 ls []) := by
              intro v3 v4 S H locs ls hf  hP hD hS hl
              unfold f_X1_alike_L50_J111 at hf
              obtain ⟨x14, ex14⟩ : ∃ y : Int32, y = (v4 : Int32) + 1 := ⟨_, rfl⟩
              have hf := ha_nms hf ex14
              refine lv_iinc (v := x14) (lv' := [(4, .int x14), (0, .ref (ad p0)), (1, .ref (ad p1)), (2, .ref (ad p2)), (3, .int v3)]) hx hb dX1_alike_111 hl (k := 4) rfl (by rw [ex14]; rfl) (by decide) rfl (fun ls hl => ?_)
              refine lv_goto (tgt := 50) hx hb dX1_alike_114 (by decide) ?_
              exact ih v3 x14 S H locs ls hf  hP hD hS (lv_sub hl [1, 2, 3, 4, 0] rfl)
            have hf : (f_X1_alike_L50 p0 p1 p2 (f_X1_alike_L50i p0 p1 p2 n) v3 v4 S).bind K = some out := hf
            unfold f_X1_alike_L50 at hf
            refine lv_iload hx hb dX1_alike_50 (lv_at hl 4 rfl) ?_
            refine lv_iload_n hx hb dX1_alike_52 rfl (lv_at hl 3 rfl) ?_
            refine lv_icmp_ge (tgt := 117) hx hb dX1_alike_53 (by decide) (fun c15 => ?_) (fun c15 => ?_)
            · have hf := ha_it hf c15
              exact hk v3 S H locs ls hf  hP hD hS (lv_sub hl [0, 1, 2, 3] rfl)
            · have hf := ha_if hf c15
              refine lv_aload_n hx hb dX1_alike_56 rfl (lv_at hl 1 rfl) ?_
              obtain ⟨r16, wr16, hf⟩ := ha_bds hf
              obtain ⟨wr16, hr16⟩ := ha_rf_some wr16
              refine ha_getr hx hb hown hK hP q66 hN h1 wr16 dX1_alike_57 ?_
              refine lv_iload hx hb dX1_alike_60 (lv_at hl 4 rfl) ?_
              obtain ⟨g17, hf⟩ := ha_gds hf
              refine ha_iald hx hb hK hP hN hr16 g17 dX1_alike_62 ?_
              refine lv_aload_n hx hb dX1_alike_63 rfl (lv_at hl 2 rfl) ?_
              obtain ⟨r18, wr18, hf⟩ := ha_bds hf
              obtain ⟨wr18, hr18⟩ := ha_rf_some wr18
              refine ha_getr hx hb hown hK hP q66 hN h2 wr18 dX1_alike_64 ?_
              refine lv_iload hx hb dX1_alike_67 (lv_at hl 4 rfl) ?_
              obtain ⟨g19, hf⟩ := ha_gds hf
              refine ha_iald hx hb hK hP hN hr18 g19 dX1_alike_69 ?_
              refine lv_icmp_eq (tgt := 75) hx hb dX1_alike_70 (by decide) (fun c20 => ?_) (fun c20 => ?_)
              · have hf := ha_it hf c20
                refine lv_aload_n hx hb dX1_alike_75 rfl (lv_at hl 1 rfl) ?_
                obtain ⟨r21, wr21, hf⟩ := ha_bds hf
                obtain ⟨wr21, hr21⟩ := ha_rf_some wr21
                refine ha_getr hx hb hown hK hP q90 hN h1 wr21 dX1_alike_76 ?_
                refine lv_iload hx hb dX1_alike_79 (lv_at hl 4 rfl) ?_
                obtain ⟨g22, hf⟩ := ha_gds hf
                refine ha_iald hx hb hK hP hN hr21 g22 dX1_alike_81 ?_
                refine lv_aload_n hx hb dX1_alike_82 rfl (lv_at hl 2 rfl) ?_
                obtain ⟨r23, wr23, hf⟩ := ha_bds hf
                obtain ⟨wr23, hr23⟩ := ha_rf_some wr23
                refine ha_getr hx hb hown hK hP q90 hN h2 wr23 dX1_alike_83 ?_
                refine lv_iload hx hb dX1_alike_86 (lv_at hl 4 rfl) ?_
                obtain ⟨g24, hf⟩ := ha_gds hf
                refine ha_iald hx hb hK hP hN hr23 g24 dX1_alike_88 ?_
                refine lv_icmp_eq (tgt := 111) hx hb dX1_alike_89 (by decide) (fun c25 => ?_) (fun c25 => ?_)
                · have hf := ha_it hf c25
                  exact J111 v3 v4 S H locs ls hf  hP hD hS (lv_sub hl [0, 1, 2, 3, 4] rfl)
                · have hf := ha_if hf c25
                  refine lv_aload_n hx hb dX1_alike_92 rfl (lv_at hl 0 rfl) ?_
                  obtain ⟨r26, wr26, hf⟩ := ha_bds hf
                  obtain ⟨wr26, hr26⟩ := ha_rf_some wr26
                  refine ha_getr hx hb hown hK hP q11 hN h0 wr26 dX1_alike_93 ?_
                  refine lv_aload_n hx hb dX1_alike_96 rfl (lv_at hl 1 rfl) ?_
                  refine lv_iload hx hb dX1_alike_97 (lv_at hl 4 rfl) ?_
                  obtain ⟨z27, wz27, hf⟩ := ha_bds hf
                  refine ha_callSi (As := [.ref (ad p1), .int v4]) (rest := [.ref (ad r26)]) hZ ⟨hx, hb, hml, hown, hts⟩ hK hz hP hD hS (c_X1_kindOf hZ hN hX h1 wz27) cw4 rfl hl.1 rfl (Nat.le_of_ble_eq_true rfl) dX1_alike_99 ⟨Nat.le_of_ble_eq_true rfl, Nat.le_of_ble_eq_true rfl⟩ (fun H locs hP hD hS => ?_)
                  obtain ⟨g28, hf⟩ := ha_gds hf
                  obtain ⟨r29, wr29, hf⟩ := ha_bds hf
                  obtain ⟨wr29, hr29⟩ := ha_rb_some wr29
                  refine ha_aald hx hb hK hP hN hr26 (by decide) g28 wr29 dX1_alike_102 ?_
                  refine ha_geti hx hb hown hK hP q99 hN hr29 dX1_alike_103 ?_
                  refine lv_if_eq (tgt := 111) hx hb dX1_alike_106 (by decide) (fun c30 => ?_) (fun c30 => ?_)
                  · have hf := ha_it hf c30
                    exact J111 v3 v4 z27.2 H locs ls hf  hP hD hS (lv_sub hl [0, 1, 2, 3, 4] rfl)
                  · have hf := ha_if hf c30
                    refine lv_iconst (v := 0) hx hb dX1_alike_109 (by decide) ?_
                    have he := hke _ hf
                    exact ha_retz hx hb hr hlocks hP hD hS dX1_alike_110 (by decide) (ha_e1 he) (ha_e2 he)
              · have hf := ha_if hf c20
                refine lv_iconst (v := 0) hx hb dX1_alike_73 (by decide) ?_
                have he := hke _ hf
                exact ha_retz hx hb hr hlocks hP hD hS dX1_alike_74 (by decide) (ha_e1 he) (ha_e2 he)
        refine key31 _ (fun v3 S H locs ls hf  hP hD hS hl => ?_) (fun r h => Option.some.inj h) ha_fu x13 0 S H locs ls (ha_as hf)  hP hD hS (lv_sub hl [2, 3, 4, 1, 0] rfl)
        have hf : (f_X1_alike_J117 p0 p1 p2 v3 S).bind some = some out := hf
        exact J117 v3 S H locs ls hf  hP hD hS (lv_sub hl [0, 1, 2, 3] rfl)
      · have hf := ha_if hf c12
        exact J33  S H locs ls hf  hP hD hS (lv_sub hl [0, 1, 2] rfl)

set_option maxHeartbeats 4000000 in
set_option maxRecDepth 100000 in
theorem c_X0_breaks {l : Launch} {D : va_G} {cs : Nat → ClassId} {ad adK adV : Nat → Nat} {N : List Nat} {Z : State → Prop} (hZ : ha_Zok (ha_A ad N) Z) (hN : ∀ x, xo_kd x < 999 → x ∈ N) (hX : ∀ U, Z U → xo_Z adK adV (ha_A ad N) U) {p0 : Nat} {p1 : Nat} {p2 : Int32} {S : ha_St} {out : Int32 × ha_St} (h0 : xo_kd p0 = 0) (h1 : xo_kd p1 = 1) (hf : f_X0_breaks p0 p1 p2 S = some out) : ha_Ci l D cs ad xo_kd xo_ln N Z yX0_breaks wsX0_breaks ({ frames := 3, cells := 0, slots := 0, locals := 82 } : Room) [.ref (ad p0), .ref (ad p1), .int p2] S out.1 out.2 := by
  refine Met.ofW (cc := cX0_breaks) (maxL := 4) (ret := (some .boolean)) (by decide +kernel) rfl ?_
  intro p e s m args below meth c s₁ B hml hv
  obtain ⟨rfl, hP, hD, hK, hz⟩ := hv
  have hx := B.exec
  have hb := B.bytes
  have hr := B.returns
  have hts := atoms_spec (ws := wsX0_breaks) B.pre
  have hown : s.vm.findClass RX0 = some m.cls := findClass_of_methodNamed B.named
  have hlocks := B.notSynchronized
  have hS : va_S (ha_A ad N) s.heap s.heap [] := va_S.rf
  have hi0 : ∀ w ∈ wsX00, w ∈ wsX0_breaks := fun w h => List.mem_cons_of_mem _ (List.mem_append_left _ (List.mem_append_left _ (List.mem_append_left _ (List.mem_append_right _ h))))
  have hi5 : ∀ w ∈ wsX50, w ∈ wsX0_breaks := fun w h => List.mem_cons_of_mem _ (List.mem_append_left _ (List.mem_append_left _ (List.mem_append_right _ h)))
  have q23 : ha_Fk s ([.ref (ad p0), .ref (ad p1), .int p2] : List Value).toArray RX0 23 0 2 1 := ⟨RX0, TX0, 11, wsX0_breaks, rfl, by decide, by decide, rfl, rfl, hts, hi0, hts (.fieldLink RX0 23 "HillArms$Breaker" "tried" "LHillArms$Line;") (by decide +kernel)⟩
  have q50 : ha_Fk s ([.ref (ad p0), .ref (ad p1), .int p2] : List Value).toArray RX0 50 0 6 0 := ⟨RX0, TX0, 11, wsX0_breaks, rfl, by decide, by decide, rfl, rfl, hts, hi0, hts (.fieldLink RX0 50 "HillArms$Breaker" "ticks" "I") (by decide +kernel)⟩
  have q113 : ha_Fk s ([.ref (ad p0), .ref (ad p1), .int p2] : List Value).toArray RX0 113 5 7 0 := ⟨RX5, TX5, 8, wsX0_breaks, rfl, by decide, by decide, rfl, rfl, hts, hi5, hts (.fieldLink RX0 113 "HillArms$Line" "wrongAt" "I") (by decide +kernel)⟩
  have q11 : ha_Fk s ([.ref (ad p0), .ref (ad p1), .int p2] : List Value).toArray RX0 11 0 0 1 := ⟨RX0, TX0, 11, wsX0_breaks, rfl, by decide, by decide, rfl, rfl, hts, hi0, hts (.fieldLink RX0 11 "HillArms$Breaker" "calm" "[LHillArms$Line;") (by decide +kernel)⟩
  have cw0 := cwV (R := (headSpec wsX0_breaks ({ frames := 3, cells := 0, slots := 0, locals := 82 } : Room)).room) 1 hts gX0_breaks_X1_outcome (rm := ({ frames := 0, cells := 0, slots := 0, locals := 0 } : Room)) (mc := 0) (ms := 0) rfl rfl rfl (by decide +kernel) ⟨Nat.le_of_ble_eq_true rfl, Nat.le_of_ble_eq_true rfl⟩
  have cw1 := cwV (R := (headSpec wsX0_breaks ({ frames := 3, cells := 0, slots := 0, locals := 82 } : Room)).room) 2 hts gX0_breaks_X1_alike (rm := ({ frames := 1, cells := 0, slots := 0, locals := 21 } : Room)) (mc := 0) (ms := 0) rfl rfl rfl (by decide +kernel) ⟨Nat.le_of_ble_eq_true rfl, Nat.le_of_ble_eq_true rfl⟩
  have cw2 := cwV (R := (headSpec wsX0_breaks ({ frames := 3, cells := 0, slots := 0, locals := 82 } : Room)).room) 3 hts gX0_breaks_X1_move (rm := ({ frames := 2, cells := 0, slots := 0, locals := 51 } : Room)) (mc := 0) (ms := 0) rfl rfl rfl (by decide +kernel) ⟨Nat.le_of_ble_eq_true rfl, Nat.le_of_ble_eq_true rfl⟩
  have hl := lv_entry ([.ref (ad p0), .ref (ad p1), .int p2]) (n := 4) (Nat.le_of_ble_eq_true rfl)
  rw [lg_entry_eq]
  generalize (lg_sl ([.ref (ad p0), .ref (ad p1), .int p2]) ++ List.replicate (4 - (lg_sl ([.ref (ad p0), .ref (ad p1), .int p2])).length) Slot.unset).toArray = ls at hl ⊢
  have hl : lv_has ls 4 [(0, .ref (ad p0)), (1, .ref (ad p1)), (2, .int p2)] := hl
  refine (fun (K0 : ∀ (H : Heap) (locs : List Loc), va_P D vwCl (ha_wl cs ad xo_kd xo_ln N S) H → va_S (ha_A ad N) s.heap H locs → W p l e (headSpec wsX0_breaks ({ frames := 3, cells := 0, slots := 0, locals := 82 } : Room)).room s m ([.ref (ad p0), .ref (ad p1), .int p2] : List Value).toArray below meth c H locs 0 0 (MQ below (va_Qi (fun (r : Int32) (_ : Unit) => r = out.1) (fun _ => ha_H D cs ad xo_kd xo_ln N out.2) (ha_A ad N)) ([.ref (ad p0), .ref (ad p1), .int p2] : List Value).toArray s 0 0 (ha_A ad N)) (F0 m 0 ls [])) => K0 _ _ hP hS) ?_
  intro H locs hP hS
  have hf := ha_rt hf
  have J77 : ∀ (k0 : Int32) (S : ha_St) (H : Heap) (locs : List Loc) (ls : Array Slot), (f_X0_breaks_J77 p0 p1 p2 k0 S).bind some = some out → va_P D vwCl (ha_wl cs ad xo_kd xo_ln N S) H → va_D (ha_A ad N) (ha_wl cs ad xo_kd xo_ln N S) → va_S (ha_A ad N) s.heap H locs → lv_has ls 4 [(0, .ref (ad p0)), (1, .ref (ad p1)), (2, .int p2)] → W p l e (headSpec wsX0_breaks ({ frames := 3, cells := 0, slots := 0, locals := 82 } : Room)).room s m ([.ref (ad p0), .ref (ad p1), .int p2] : List Value).toArray below meth c H locs 0 0 (MQ below (va_Qi (fun (r : Int32) (_ : Unit) => r = out.1) (fun _ => ha_H D cs ad xo_kd xo_ln N out.2) (ha_A ad N)) ([.ref (ad p0), .ref (ad p1), .int p2] : List Value).toArray s 0 0 (ha_A ad N)) (F0 m 77 ls [.int k0]) := by
    intro k0 S H locs ls hf  hP hD hS hl
    unfold f_X0_breaks_J77 at hf
    obtain ⟨g1, hf⟩ := ha_gds hf
    have he := Option.some.inj hf
    exact ha_retz hx hb hr hlocks hP hD hS dX0_breaks_77 g1 (ha_e1 he) (ha_e2 he)
  have J61 : ∀  (S : ha_St) (H : Heap) (locs : List Loc) (ls : Array Slot), (f_X0_breaks_J61 p0 p1 p2  S).bind some = some out → va_P D vwCl (ha_wl cs ad xo_kd xo_ln N S) H → va_D (ha_A ad N) (ha_wl cs ad xo_kd xo_ln N S) → va_S (ha_A ad N) s.heap H locs → lv_has ls 4 [(0, .ref (ad p0)), (1, .ref (ad p1)), (2, .int p2)] → W p l e (headSpec wsX0_breaks ({ frames := 3, cells := 0, slots := 0, locals := 82 } : Room)).room s m ([.ref (ad p0), .ref (ad p1), .int p2] : List Value).toArray below meth c H locs 0 0 (MQ below (va_Qi (fun (r : Int32) (_ : Unit) => r = out.1) (fun _ => ha_H D cs ad xo_kd xo_ln N out.2) (ha_A ad N)) ([.ref (ad p0), .ref (ad p1), .int p2] : List Value).toArray s 0 0 (ha_A ad N)) (F0 m 61 ls []) := by
    intro  S H locs ls hf  hP hD hS hl
    unfold f_X0_breaks_J61 at hf
    refine lv_aload_n hx hb dX0_breaks_61 rfl (lv_at hl 1 rfl) ?_
    refine lv_aload_n hx hb dX0_breaks_62 rfl (lv_at hl 0 rfl) ?_
    obtain ⟨r2, wr2, hf⟩ := ha_bds hf
    obtain ⟨wr2, hr2⟩ := ha_rf_some wr2
    refine ha_getr hx hb hown hK hP q23 hN h0 wr2 dX0_breaks_63 ?_
    obtain ⟨z3, wz3, hf⟩ := ha_bds hf
    refine ha_callVi (As := [.ref (ad r2)]) (rest := []) hZ ⟨hx, hb, hml, hown, hts⟩ hK hz hP hD hS (c_X1_outcome hZ hN hX h1 hr2 wz3) cw0 hN h1 (by decide) rfl rfl hl.1 rfl (Nat.le_of_ble_eq_true rfl) dX0_breaks_66 ⟨Nat.le_of_ble_eq_true rfl, Nat.le_of_ble_eq_true rfl⟩ (fun H locs hP hD hS => ?_)
    refine lv_if_eq (tgt := 76) hx hb dX0_breaks_69 (by decide) (fun c4 => ?_) (fun c4 => ?_)
    · have hf := ha_it hf c4
      refine lv_iconst (v := 0) hx hb dX0_breaks_76 (by decide) ?_
      exact J77 0 z3.2 H locs ls hf  hP hD hS (lv_sub hl [0, 1, 2] rfl)
    · have hf := ha_if hf c4
      refine lv_iconst (v := 1) hx hb dX0_breaks_72 (by decide) ?_
      refine lv_goto (tgt := 77) hx hb dX0_breaks_73 (by decide) ?_
      exact J77 1 z3.2 H locs ls hf  hP hD hS (lv_sub hl [0, 1, 2] rfl)
  unfold f_X0_breaks at hf
  refine lv_iload_n hx hb dX0_breaks_0 rfl (lv_at hl 2 rfl) ?_
  refine lv_istore_n (lv' := [(3, .int p2), (0, .ref (ad p0)), (1, .ref (ad p1)), (2, .int p2)]) hx hb dX0_breaks_1 rfl hl (by decide) rfl (fun ls hl => ?_)
  have key17 : ∀ (K : ((ha_St) ⊕ (Int32 × ha_St)) → Option (Int32 × ha_St)), (∀  (S : ha_St) (H : Heap) (locs : List Loc) (ls : Array Slot), K (.inl S) = some out → va_P D vwCl (ha_wl cs ad xo_kd xo_ln N S) H → va_D (ha_A ad N) (ha_wl cs ad xo_kd xo_ln N S) → va_S (ha_A ad N) s.heap H locs → lv_has ls 4 [(0, .ref (ad p0)), (1, .ref (ad p1)), (2, .int p2)] → W p l e (headSpec wsX0_breaks ({ frames := 3, cells := 0, slots := 0, locals := 82 } : Room)).room s m ([.ref (ad p0), .ref (ad p1), .int p2] : List Value).toArray below meth c H locs 0 0 (MQ below (va_Qi (fun (r : Int32) (_ : Unit) => r = out.1) (fun _ => ha_H D cs ad xo_kd xo_ln N out.2) (ha_A ad N)) ([.ref (ad p0), .ref (ad p1), .int p2] : List Value).toArray s 0 0 (ha_A ad N)) (F0 m 61 ls [])) → (∀ r, K (.inr r) = some out → r = out) → ∀ (n : Nat) (v3 : Int32) (S : ha_St) (H : Heap) (locs : List Loc) (ls : Array Slot), (f_X0_breaks_L2i p0 p1 p2 n (v3, S)).bind K = some out → va_P D vwCl (ha_wl cs ad xo_kd xo_ln N S) H → va_D (ha_A ad N) (ha_wl cs ad xo_kd xo_ln N S) → va_S (ha_A ad N) s.heap H locs → lv_has ls 4 [(0, .ref (ad p0)), (1, .ref (ad p1)), (2, .int p2), (3, .int v3)] → W p l e (headSpec wsX0_breaks ({ frames := 3, cells := 0, slots := 0, locals := 82 } : Room)).room s m ([.ref (ad p0), .ref (ad p1), .int p2] : List Value).toArray below meth c H locs 0 0 (MQ below (va_Qi (fun (r : Int32) (_ : Unit) => r = out.1) (fun _ => ha_H D cs ad xo_kd xo_ln N out.2) (ha_A ad N)) ([.ref (ad p0), .ref (ad p1), .int p2] : List Value).toArray s 0 0 (ha_A ad N)) (F0 m 2 ls []) := by
    intro K hk hke n
    induction n with
    | zero =>
      intro v3 S H locs ls hf
      exact absurd (show (none : Option (Int32 × ha_St)) = some out from hf) (fun h => by cases h)
    | succ n ih =>
      intro v3 S H locs ls hf  hP hD hS hl
      have hf : (f_X0_breaks_L2 p0 p1 p2 (f_X0_breaks_L2i p0 p1 p2 n) v3 S).bind K = some out := hf
      unfold f_X0_breaks_L2 at hf
      refine lv_iload_n hx hb dX0_breaks_2 rfl (lv_at hl 3 rfl) ?_
      refine lv_aload_n hx hb dX0_breaks_3 rfl (lv_at hl 0 rfl) ?_
      refine ha_geti hx hb hown hK hP q50 hN h0 dX0_breaks_4 ?_
      refine lv_icmp_ge (tgt := 61) hx hb dX0_breaks_7 (by decide) (fun c5 => ?_) (fun c5 => ?_)
      · have hf := ha_it hf c5
        exact hk  S H locs ls hf  hP hD hS (lv_sub hl [0, 1, 2] rfl)
      · have hf := ha_if hf c5
        refine lv_aload_n hx hb dX0_breaks_10 rfl (lv_at hl 0 rfl) ?_
        obtain ⟨r6, wr6, hf⟩ := ha_bds hf
        obtain ⟨wr6, hr6⟩ := ha_rf_some wr6
        refine ha_getr hx hb hown hK hP q23 hN h0 wr6 dX0_breaks_11 ?_
        refine ha_geti hx hb hown hK hP q113 hN hr6 dX0_breaks_14 ?_
        refine lv_iconst (v := (-1)) hx hb dX0_breaks_17 (by decide) ?_
        refine lv_icmp_eq (tgt := 23) hx hb dX0_breaks_18 (by decide) (fun c7 => ?_) (fun c7 => ?_)
        · have hf := ha_it hf c7
          refine lv_aload_n hx hb dX0_breaks_23 rfl (lv_at hl 1 rfl) ?_
          refine lv_aload_n hx hb dX0_breaks_24 rfl (lv_at hl 0 rfl) ?_
          obtain ⟨r8, wr8, hf⟩ := ha_bds hf
          obtain ⟨wr8, hr8⟩ := ha_rf_some wr8
          refine ha_getr hx hb hown hK hP q23 hN h0 wr8 dX0_breaks_25 ?_
          refine lv_aload_n hx hb dX0_breaks_28 rfl (lv_at hl 0 rfl) ?_
          obtain ⟨r9, wr9, hf⟩ := ha_bds hf
          obtain ⟨wr9, hr9⟩ := ha_rf_some wr9
          refine ha_getr hx hb hown hK hP q11 hN h0 wr9 dX0_breaks_29 ?_
          refine lv_iload_n hx hb dX0_breaks_32 rfl (lv_at hl 3 rfl) ?_
          obtain ⟨g10, hf⟩ := ha_gds hf
          obtain ⟨r11, wr11, hf⟩ := ha_bds hf
          obtain ⟨wr11, hr11⟩ := ha_rb_some wr11
          refine ha_aald hx hb hK hP hN hr9 (by decide) g10 wr11 dX0_breaks_33 ?_
          obtain ⟨z12, wz12, hf⟩ := ha_bds hf
          refine ha_callVi (As := [.ref (ad r8), .ref (ad r11)]) (rest := []) hZ ⟨hx, hb, hml, hown, hts⟩ hK hz hP hD hS (c_X1_alike hZ hN hX h1 hr8 hr11 wz12) cw1 hN h1 (by decide) rfl rfl hl.1 rfl (Nat.le_of_ble_eq_true rfl) dX0_breaks_34 ⟨Nat.le_of_ble_eq_true rfl, Nat.le_of_ble_eq_true rfl⟩ (fun H locs hP hD hS => ?_)
          refine lv_if_eq (tgt := 42) hx hb dX0_breaks_37 (by decide) (fun c13 => ?_) (fun c13 => ?_)
          · have hf := ha_it hf c13
            refine lv_aload_n hx hb dX0_breaks_42 rfl (lv_at hl 1 rfl) ?_
            refine lv_aload_n hx hb dX0_breaks_43 rfl (lv_at hl 0 rfl) ?_
            obtain ⟨r14, wr14, hf⟩ := ha_bds hf
            obtain ⟨wr14, hr14⟩ := ha_rf_some wr14
            refine ha_getr hx hb hown hK hP q23 hN h0 wr14 dX0_breaks_44 ?_
            refine lv_iload_n hx hb dX0_breaks_47 rfl (lv_at hl 3 rfl) ?_
            refine lv_iconst (v := 1) hx hb dX0_breaks_48 (by decide) ?_
            refine lv_iadd hx hb dX0_breaks_49 ?_
            refine lv_iconst (v := 0) hx hb dX0_breaks_50 (by decide) ?_
            obtain ⟨z15, wz15, hf⟩ := ha_bds hf
            refine ha_callVi (As := [.ref (ad r14), .int (((v3 : Int32) + 1)), .int 0]) (rest := []) hZ ⟨hx, hb, hml, hown, hts⟩ hK hz hP hD hS (c_X1_move hZ hN hX h1 hr14 wz15) cw2 hN h1 (by decide) rfl rfl hl.1 rfl (Nat.le_of_ble_eq_true rfl) dX0_breaks_51 ⟨Nat.le_of_ble_eq_true rfl, Nat.le_of_ble_eq_true rfl⟩ (fun H locs hP hD hS => ?_)
            refine lv_pop hx hb dX0_breaks_54 rfl ?_
            obtain ⟨x16, ex16⟩ : ∃ y : Int32, y = (v3 : Int32) + 1 := ⟨_, rfl⟩
            have hf := ha_nms hf ex16
            refine lv_iinc (v := x16) (lv' := [(3, .int x16), (0, .ref (ad p0)), (1, .ref (ad p1)), (2, .int p2)]) hx hb dX0_breaks_55 hl (k := 3) rfl (by rw [ex16]; rfl) (by decide) rfl (fun ls hl => ?_)
            refine lv_goto (tgt := 2) hx hb dX0_breaks_58 (by decide) ?_
            exact ih x16 z15.2 H locs ls hf  hP hD hS (lv_sub hl [1, 2, 3, 0] rfl)
          · have hf := ha_if hf c13
            refine lv_iconst (v := 0) hx hb dX0_breaks_40 (by decide) ?_
            have he := hke _ hf
            exact ha_retz hx hb hr hlocks hP hD hS dX0_breaks_41 (by decide) (ha_e1 he) (ha_e2 he)
        · have hf := ha_if hf c7
          refine lv_iconst (v := 1) hx hb dX0_breaks_21 (by decide) ?_
          have he := hke _ hf
          exact ha_retz hx hb hr hlocks hP hD hS dX0_breaks_22 (by decide) (ha_e1 he) (ha_e2 he)
  refine key17 _ (fun  S H locs ls hf  hP hD hS hl => ?_) (fun r h => Option.some.inj h) ha_fu p2 S H locs ls (ha_as hf)  hP hD hS (lv_sub hl [1, 2, 3, 0] rfl)
  have hf : (f_X0_breaks_J61 p0 p1 p2  S).bind some = some out := hf
  exact J61  S H locs ls hf  hP hD hS (lv_sub hl [0, 1, 2] rfl)

set_option maxHeartbeats 4000000 in
set_option maxRecDepth 100000 in
theorem c_X0_tell {l : Launch} {D : va_G} {cs : Nat → ClassId} {ad adK adV : Nat → Nat} {N : List Nat} {Z : State → Prop} (hZ : ha_Zok (ha_A ad N) Z) (hN : ∀ x, xo_kd x < 999 → x ∈ N) (hX : ∀ U, Z U → xo_Z adK adV (ha_A ad N) U) {p0 : Nat} {p1 : Int32} {p2 : Int32} {S : ha_St} {out : ha_St} (h0 : xo_kd p0 = 0) (hf : f_X0_tell p0 p1 p2 S = some out) : ha_Cv l D cs ad xo_kd xo_ln N Z yX0_tell wsX0_tell ({ frames := 0, cells := 0, slots := 0, locals := 0 } : Room) [.ref (ad p0), .int p1, .int p2] S out := by
  refine Met.ofW (cc := cX0_tell) (maxL := 3) (ret := none) (by decide +kernel) rfl ?_
  intro p e s m args below meth c s₁ B hml hv
  obtain ⟨rfl, hP, hD, hK, hz⟩ := hv
  have hx := B.exec
  have hb := B.bytes
  have hr := B.returns
  have hts := atoms_spec (ws := wsX0_tell) B.pre
  have hown : s.vm.findClass RX0 = some m.cls := findClass_of_methodNamed B.named
  have hlocks := B.notSynchronized
  have hS : va_S (ha_A ad N) s.heap s.heap [] := va_S.rf
  have hi0 : ∀ w ∈ wsX00, w ∈ wsX0_tell := fun w h => List.mem_cons_of_mem _ (List.mem_append_right _ h)
  have q34 : ha_Fk s ([.ref (ad p0), .int p1, .int p2] : List Value).toArray RX0 34 0 8 1 := ⟨RX0, TX0, 11, wsX0_tell, rfl, by decide, by decide, rfl, rfl, hts, hi0, hts (.fieldLink RX0 34 "HillArms$Breaker" "foundTick" "[I") (by decide +kernel)⟩
  have q27 : ha_Fk s ([.ref (ad p0), .int p1, .int p2] : List Value).toArray RX0 27 0 3 1 := ⟨RX0, TX0, 11, wsX0_tell, rfl, by decide, by decide, rfl, rfl, hts, hi0, hts (.fieldLink RX0 27 "HillArms$Breaker" "singleTick" "[I") (by decide +kernel)⟩
  have q37 : ha_Fk s ([.ref (ad p0), .int p1, .int p2] : List Value).toArray RX0 37 0 9 1 := ⟨RX0, TX0, 11, wsX0_tell, rfl, by decide, by decide, rfl, rfl, hts, hi0, hts (.fieldLink RX0 37 "HillArms$Breaker" "foundGap" "[I") (by decide +kernel)⟩
  have q31 : ha_Fk s ([.ref (ad p0), .int p1, .int p2] : List Value).toArray RX0 31 0 4 1 := ⟨RX0, TX0, 11, wsX0_tell, rfl, by decide, by decide, rfl, rfl, hts, hi0, hts (.fieldLink RX0 31 "HillArms$Breaker" "singleGap" "[I") (by decide +kernel)⟩
  have hl := lv_entry ([.ref (ad p0), .int p1, .int p2]) (n := 3) (Nat.le_of_ble_eq_true rfl)
  rw [lg_entry_eq]
  generalize (lg_sl ([.ref (ad p0), .int p1, .int p2]) ++ List.replicate (3 - (lg_sl ([.ref (ad p0), .int p1, .int p2])).length) Slot.unset).toArray = ls at hl ⊢
  have hl : lv_has ls 3 [(0, .ref (ad p0)), (1, .int p1), (2, .int p2)] := hl
  refine (fun (K0 : ∀ (H : Heap) (locs : List Loc), va_P D vwCl (ha_wl cs ad xo_kd xo_ln N S) H → va_S (ha_A ad N) s.heap H locs → W p l e (headSpec wsX0_tell ({ frames := 0, cells := 0, slots := 0, locals := 0 } : Room)).room s m ([.ref (ad p0), .int p1, .int p2] : List Value).toArray below meth c H locs 0 0 (MQ below (va_Qv (fun (_ : Unit) => True) (fun _ => ha_H D cs ad xo_kd xo_ln N out) (ha_A ad N)) ([.ref (ad p0), .int p1, .int p2] : List Value).toArray s 0 0 (ha_A ad N)) (F0 m 0 ls [])) => K0 _ _ hP hS) ?_
  intro H locs hP hS
  have hf := ha_rt hf
  unfold f_X0_tell at hf
  refine lv_aload_n hx hb dX0_tell_0 rfl (lv_at hl 0 rfl) ?_
  obtain ⟨r1, wr1, hf⟩ := ha_bds hf
  obtain ⟨wr1, hr1⟩ := ha_rf_some wr1
  refine ha_getr hx hb hown hK hP q34 hN h0 wr1 dX0_tell_1 ?_
  refine lv_iload_n hx hb dX0_tell_4 rfl (lv_at hl 1 rfl) ?_
  refine lv_aload_n hx hb dX0_tell_5 rfl (lv_at hl 0 rfl) ?_
  obtain ⟨r2, wr2, hf⟩ := ha_bds hf
  obtain ⟨wr2, hr2⟩ := ha_rf_some wr2
  refine ha_getr hx hb hown hK hP q27 hN h0 wr2 dX0_tell_6 ?_
  refine lv_iload_n hx hb dX0_tell_9 rfl (lv_at hl 2 rfl) ?_
  obtain ⟨g3, hf⟩ := ha_gds hf
  refine ha_iald hx hb hK hP hN hr2 g3 dX0_tell_10 ?_
  obtain ⟨g4, hf⟩ := ha_gds hf
  refine ha_iast hx hb hK hP hD hS hN hr1 g4 dX0_tell_11 (fun S5 H locs eS5 hP hD hS => ?_)
  have hf := ha_nms hf eS5
  refine lv_aload_n hx hb dX0_tell_12 rfl (lv_at hl 0 rfl) ?_
  obtain ⟨r6, wr6, hf⟩ := ha_bds hf
  obtain ⟨wr6, hr6⟩ := ha_rf_some wr6
  refine ha_getr hx hb hown hK hP q37 hN h0 wr6 dX0_tell_13 ?_
  refine lv_iload_n hx hb dX0_tell_16 rfl (lv_at hl 1 rfl) ?_
  refine lv_aload_n hx hb dX0_tell_17 rfl (lv_at hl 0 rfl) ?_
  obtain ⟨r7, wr7, hf⟩ := ha_bds hf
  obtain ⟨wr7, hr7⟩ := ha_rf_some wr7
  refine ha_getr hx hb hown hK hP q31 hN h0 wr7 dX0_tell_18 ?_
  refine lv_iload_n hx hb dX0_tell_21 rfl (lv_at hl 2 rfl) ?_
  obtain ⟨g8, hf⟩ := ha_gds hf
  refine ha_iald hx hb hK hP hN hr7 g8 dX0_tell_22 ?_
  obtain ⟨g9, hf⟩ := ha_gds hf
  refine ha_iast hx hb hK hP hD hS hN hr6 g9 dX0_tell_23 (fun S10 H locs eS10 hP hD hS => ?_)
  have hf := ha_nms hf eS10
  have he := Option.some.inj hf
  exact ha_retv hx hb hr hlocks hP hD hS dX0_tell_24 he

set_option maxHeartbeats 4000000 in
set_option maxRecDepth 100000 in
theorem c_X0_oneDoes {l : Launch} {D : va_G} {cs : Nat → ClassId} {ad adK adV : Nat → Nat} {N : List Nat} {Z : State → Prop} (hZ : ha_Zok (ha_A ad N) Z) (hN : ∀ x, xo_kd x < 999 → x ∈ N) (hX : ∀ U, Z U → xo_Z adK adV (ha_A ad N) U) {p0 : Nat} {p1 : Nat} {S : ha_St} {out : Int32 × ha_St} (h0 : xo_kd p0 = 0) (h1 : xo_kd p1 = 1) (hf : f_X0_oneDoes p0 p1 S = some out) : ha_Ci l D cs ad xo_kd xo_ln N Z yX0_oneDoes wsX0_oneDoes ({ frames := 4, cells := 0, slots := 0, locals := 105 } : Room) [.ref (ad p0), .ref (ad p1)] S out.1 out.2 := by
  refine Met.ofW (cc := cX0_oneDoes) (maxL := 4) (ret := (some .boolean)) (by decide +kernel) rfl ?_
  intro p e s m args below meth c s₁ B hml hv
  obtain ⟨rfl, hP, hD, hK, hz⟩ := hv
  have hx := B.exec
  have hb := B.bytes
  have hr := B.returns
  have hts := atoms_spec (ws := wsX0_oneDoes) B.pre
  have hown : s.vm.findClass RX0 = some m.cls := findClass_of_methodNamed B.named
  have hlocks := B.notSynchronized
  have hS : va_S (ha_A ad N) s.heap s.heap [] := va_S.rf
  have hi0 : ∀ w ∈ wsX00, w ∈ wsX0_oneDoes := fun w h => List.mem_cons_of_mem _ (List.mem_append_left _ (List.mem_append_left _ (List.mem_append_left _ (List.mem_append_right _ h))))
  have q80 : ha_Fk s ([.ref (ad p0), .ref (ad p1)] : List Value).toArray RX0 80 0 5 0 := ⟨RX0, TX0, 11, wsX0_oneDoes, rfl, by decide, by decide, rfl, rfl, hts, hi0, hts (.fieldLink RX0 80 "HillArms$Breaker" "singles" "I") (by decide +kernel)⟩
  have q27 : ha_Fk s ([.ref (ad p0), .ref (ad p1)] : List Value).toArray RX0 27 0 3 1 := ⟨RX0, TX0, 11, wsX0_oneDoes, rfl, by decide, by decide, rfl, rfl, hts, hi0, hts (.fieldLink RX0 27 "HillArms$Breaker" "singleTick" "[I") (by decide +kernel)⟩
  have q23 : ha_Fk s ([.ref (ad p0), .ref (ad p1)] : List Value).toArray RX0 23 0 2 1 := ⟨RX0, TX0, 11, wsX0_oneDoes, rfl, by decide, by decide, rfl, rfl, hts, hi0, hts (.fieldLink RX0 23 "HillArms$Breaker" "tried" "LHillArms$Line;") (by decide +kernel)⟩
  have q11 : ha_Fk s ([.ref (ad p0), .ref (ad p1)] : List Value).toArray RX0 11 0 0 1 := ⟨RX0, TX0, 11, wsX0_oneDoes, rfl, by decide, by decide, rfl, rfl, hts, hi0, hts (.fieldLink RX0 11 "HillArms$Breaker" "calm" "[LHillArms$Line;") (by decide +kernel)⟩
  have q31 : ha_Fk s ([.ref (ad p0), .ref (ad p1)] : List Value).toArray RX0 31 0 4 1 := ⟨RX0, TX0, 11, wsX0_oneDoes, rfl, by decide, by decide, rfl, rfl, hts, hi0, hts (.fieldLink RX0 31 "HillArms$Breaker" "singleGap" "[I") (by decide +kernel)⟩
  have r40 : ha_Fp s ([.ref (ad p0), .ref (ad p1)] : List Value).toArray RX0 40 0 10 0 .int := ⟨RX0, TX0, 11, wsX0_oneDoes, tyX0, rfl, by decide, by decide, rfl, rfl, hts, hi0, hts (.fieldLink RX0 40 "HillArms$Breaker" "found" "I") (by decide +kernel), tyX0_ok, nmX0, rfl, by decide +kernel⟩
  have cw0 := cwV (R := (headSpec wsX0_oneDoes ({ frames := 4, cells := 0, slots := 0, locals := 105 } : Room)).room) 1 hts gX0_oneDoes_X5_takeOver (rm := ({ frames := 1, cells := 0, slots := 0, locals := 26 } : Room)) (mc := 0) (ms := 0) rfl rfl rfl (by decide +kernel) ⟨Nat.le_of_ble_eq_true rfl, Nat.le_of_ble_eq_true rfl⟩
  have cw1 := cwV (R := (headSpec wsX0_oneDoes ({ frames := 4, cells := 0, slots := 0, locals := 105 } : Room)).room) 3 hts gX0_oneDoes_X1_move (rm := ({ frames := 2, cells := 0, slots := 0, locals := 51 } : Room)) (mc := 0) (ms := 0) rfl rfl rfl (by decide +kernel) ⟨Nat.le_of_ble_eq_true rfl, Nat.le_of_ble_eq_true rfl⟩
  have cw2 := cwV (R := (headSpec wsX0_oneDoes ({ frames := 4, cells := 0, slots := 0, locals := 105 } : Room)).room) 2 hts gX0_oneDoes_X0_breaks (rm := ({ frames := 3, cells := 0, slots := 0, locals := 82 } : Room)) (mc := 0) (ms := 0) rfl rfl rfl (by decide +kernel) ⟨Nat.le_of_ble_eq_true rfl, Nat.le_of_ble_eq_true rfl⟩
  have cw3 := cwV (R := (headSpec wsX0_oneDoes ({ frames := 4, cells := 0, slots := 0, locals := 105 } : Room)).room) 2 hts gX0_oneDoes_X0_tell (rm := ({ frames := 0, cells := 0, slots := 0, locals := 0 } : Room)) (mc := 0) (ms := 0) rfl rfl rfl (by decide +kernel) ⟨Nat.le_of_ble_eq_true rfl, Nat.le_of_ble_eq_true rfl⟩
  have hl := lv_entry ([.ref (ad p0), .ref (ad p1)]) (n := 4) (Nat.le_of_ble_eq_true rfl)
  rw [lg_entry_eq]
  generalize (lg_sl ([.ref (ad p0), .ref (ad p1)]) ++ List.replicate (4 - (lg_sl ([.ref (ad p0), .ref (ad p1)])).length) Slot.unset).toArray = ls at hl ⊢
  have hl : lv_has ls 4 [(0, .ref (ad p0)), (1, .ref (ad p1))] := hl
  refine (fun (K0 : ∀ (H : Heap) (locs : List Loc), va_P D vwCl (ha_wl cs ad xo_kd xo_ln N S) H → va_S (ha_A ad N) s.heap H locs → W p l e (headSpec wsX0_oneDoes ({ frames := 4, cells := 0, slots := 0, locals := 105 } : Room)).room s m ([.ref (ad p0), .ref (ad p1)] : List Value).toArray below meth c H locs 0 0 (MQ below (va_Qi (fun (r : Int32) (_ : Unit) => r = out.1) (fun _ => ha_H D cs ad xo_kd xo_ln N out.2) (ha_A ad N)) ([.ref (ad p0), .ref (ad p1)] : List Value).toArray s 0 0 (ha_A ad N)) (F0 m 0 ls [])) => K0 _ _ hP hS) ?_
  intro H locs hP hS
  have hf := ha_rt hf
  have J78 : ∀  (S : ha_St) (H : Heap) (locs : List Loc) (ls : Array Slot), (f_X0_oneDoes_J78 p0 p1  S).bind some = some out → va_P D vwCl (ha_wl cs ad xo_kd xo_ln N S) H → va_D (ha_A ad N) (ha_wl cs ad xo_kd xo_ln N S) → va_S (ha_A ad N) s.heap H locs → lv_has ls 4 [(0, .ref (ad p0)), (1, .ref (ad p1))] → W p l e (headSpec wsX0_oneDoes ({ frames := 4, cells := 0, slots := 0, locals := 105 } : Room)).room s m ([.ref (ad p0), .ref (ad p1)] : List Value).toArray below meth c H locs 0 0 (MQ below (va_Qi (fun (r : Int32) (_ : Unit) => r = out.1) (fun _ => ha_H D cs ad xo_kd xo_ln N out.2) (ha_A ad N)) ([.ref (ad p0), .ref (ad p1)] : List Value).toArray s 0 0 (ha_A ad N)) (F0 m 78 ls []) := by
    intro  S H locs ls hf  hP hD hS hl
    unfold f_X0_oneDoes_J78 at hf
    refine lv_iconst (v := 0) hx hb dX0_oneDoes_78 (by decide) ?_
    have he := Option.some.inj hf
    exact ha_retz hx hb hr hlocks hP hD hS dX0_oneDoes_79 (by decide) (ha_e1 he) (ha_e2 he)
  unfold f_X0_oneDoes at hf
  refine lv_iconst (v := 0) hx hb dX0_oneDoes_0 (by decide) ?_
  refine lv_istore_n (lv' := [(2, .int 0), (0, .ref (ad p0)), (1, .ref (ad p1))]) hx hb dX0_oneDoes_1 rfl hl (by decide) rfl (fun ls hl => ?_)
  have key19 : ∀ (K : ((ha_St) ⊕ (Int32 × ha_St)) → Option (Int32 × ha_St)), (∀  (S : ha_St) (H : Heap) (locs : List Loc) (ls : Array Slot), K (.inl S) = some out → va_P D vwCl (ha_wl cs ad xo_kd xo_ln N S) H → va_D (ha_A ad N) (ha_wl cs ad xo_kd xo_ln N S) → va_S (ha_A ad N) s.heap H locs → lv_has ls 4 [(0, .ref (ad p0)), (1, .ref (ad p1))] → W p l e (headSpec wsX0_oneDoes ({ frames := 4, cells := 0, slots := 0, locals := 105 } : Room)).room s m ([.ref (ad p0), .ref (ad p1)] : List Value).toArray below meth c H locs 0 0 (MQ below (va_Qi (fun (r : Int32) (_ : Unit) => r = out.1) (fun _ => ha_H D cs ad xo_kd xo_ln N out.2) (ha_A ad N)) ([.ref (ad p0), .ref (ad p1)] : List Value).toArray s 0 0 (ha_A ad N)) (F0 m 78 ls [])) → (∀ r, K (.inr r) = some out → r = out) → ∀ (n : Nat) (v2 : Int32) (S : ha_St) (H : Heap) (locs : List Loc) (ls : Array Slot), (f_X0_oneDoes_L2i p0 p1 n (v2, S)).bind K = some out → va_P D vwCl (ha_wl cs ad xo_kd xo_ln N S) H → va_D (ha_A ad N) (ha_wl cs ad xo_kd xo_ln N S) → va_S (ha_A ad N) s.heap H locs → lv_has ls 4 [(0, .ref (ad p0)), (1, .ref (ad p1)), (2, .int v2)] → W p l e (headSpec wsX0_oneDoes ({ frames := 4, cells := 0, slots := 0, locals := 105 } : Room)).room s m ([.ref (ad p0), .ref (ad p1)] : List Value).toArray below meth c H locs 0 0 (MQ below (va_Qi (fun (r : Int32) (_ : Unit) => r = out.1) (fun _ => ha_H D cs ad xo_kd xo_ln N out.2) (ha_A ad N)) ([.ref (ad p0), .ref (ad p1)] : List Value).toArray s 0 0 (ha_A ad N)) (F0 m 2 ls []) := by
    intro K hk hke n
    induction n with
    | zero =>
      intro v2 S H locs ls hf
      exact absurd (show (none : Option (Int32 × ha_St)) = some out from hf) (fun h => by cases h)
    | succ n ih =>
      intro v2 S H locs ls hf  hP hD hS hl
      have hf : (f_X0_oneDoes_L2 p0 p1 (f_X0_oneDoes_L2i p0 p1 n) v2 S).bind K = some out := hf
      unfold f_X0_oneDoes_L2 at hf
      refine lv_iload_n hx hb dX0_oneDoes_2 rfl (lv_at hl 2 rfl) ?_
      refine lv_aload_n hx hb dX0_oneDoes_3 rfl (lv_at hl 0 rfl) ?_
      refine ha_geti hx hb hown hK hP q80 hN h0 dX0_oneDoes_4 ?_
      refine lv_icmp_ge (tgt := 78) hx hb dX0_oneDoes_7 (by decide) (fun c1 => ?_) (fun c1 => ?_)
      · have hf := ha_it hf c1
        exact hk  S H locs ls hf  hP hD hS (lv_sub hl [0, 1] rfl)
      · have hf := ha_if hf c1
        refine lv_aload_n hx hb dX0_oneDoes_10 rfl (lv_at hl 0 rfl) ?_
        obtain ⟨r2, wr2, hf⟩ := ha_bds hf
        obtain ⟨wr2, hr2⟩ := ha_rf_some wr2
        refine ha_getr hx hb hown hK hP q27 hN h0 wr2 dX0_oneDoes_11 ?_
        refine lv_iload_n hx hb dX0_oneDoes_14 rfl (lv_at hl 2 rfl) ?_
        obtain ⟨g3, hf⟩ := ha_gds hf
        refine ha_iald hx hb hK hP hN hr2 g3 dX0_oneDoes_15 ?_
        refine lv_topi (fun x4 ex4 => ?_)
        have hf := ha_nms hf ex4
        refine lv_istore_n (lv' := [(3, .int x4), (0, .ref (ad p0)), (1, .ref (ad p1)), (2, .int v2)]) hx hb dX0_oneDoes_16 rfl hl (by decide) rfl (fun ls hl => ?_)
        refine lv_aload_n hx hb dX0_oneDoes_17 rfl (lv_at hl 1 rfl) ?_
        obtain ⟨r5, wr5, hf⟩ := ha_bds hf
        obtain ⟨wr5, hr5⟩ := ha_rf_some wr5
        refine ha_getr hx hb hown hK hP q23 hN h0 wr5 dX0_oneDoes_18 ?_
        refine lv_aload_n hx hb dX0_oneDoes_21 rfl (lv_at hl 1 rfl) ?_
        obtain ⟨r6, wr6, hf⟩ := ha_bds hf
        obtain ⟨wr6, hr6⟩ := ha_rf_some wr6
        refine ha_getr hx hb hown hK hP q11 hN h0 wr6 dX0_oneDoes_22 ?_
        refine lv_iload_n hx hb dX0_oneDoes_25 rfl (lv_at hl 0 rfl) ?_
        refine lv_iconst (v := 1) hx hb dX0_oneDoes_26 (by decide) ?_
        refine lv_isub hx hb dX0_oneDoes_27 ?_
        obtain ⟨g7, hf⟩ := ha_gds hf
        obtain ⟨r8, wr8, hf⟩ := ha_bds hf
        obtain ⟨wr8, hr8⟩ := ha_rb_some wr8
        refine ha_aald hx hb hK hP hN hr6 (by decide) g7 wr8 dX0_oneDoes_28 ?_
        obtain ⟨z9, wz9, hf⟩ := ha_bds hf
        refine ha_callVv (As := [.ref (ad r8)]) (rest := []) hZ ⟨hx, hb, hml, hown, hts⟩ hK hz hP hD hS (c_X5_takeOver hZ hN hX hr5 hr8 wz9) cw0 hN hr5 (by decide) rfl rfl hl.1 rfl (Nat.le_of_ble_eq_true rfl) dX0_oneDoes_29 ⟨Nat.le_of_ble_eq_true rfl, Nat.le_of_ble_eq_true rfl⟩ (fun H locs hP hD hS => ?_)
        refine lv_aload_n hx hb dX0_oneDoes_32 rfl (lv_at hl 2 rfl) ?_
        refine lv_aload_n hx hb dX0_oneDoes_33 rfl (lv_at hl 1 rfl) ?_
        obtain ⟨r10, wr10, hf⟩ := ha_bds hf
        obtain ⟨wr10, hr10⟩ := ha_rf_some wr10
        refine ha_getr hx hb hown hK hP q23 hN h0 wr10 dX0_oneDoes_34 ?_
        refine lv_iload_n hx hb dX0_oneDoes_37 rfl (lv_at hl 0 rfl) ?_
        refine lv_iconst (v := 1) hx hb dX0_oneDoes_38 (by decide) ?_
        refine lv_aload_n hx hb dX0_oneDoes_39 rfl (lv_at hl 1 rfl) ?_
        obtain ⟨r11, wr11, hf⟩ := ha_bds hf
        obtain ⟨wr11, hr11⟩ := ha_rf_some wr11
        refine ha_getr hx hb hown hK hP q31 hN h0 wr11 dX0_oneDoes_40 ?_
        refine lv_iload_n hx hb dX0_oneDoes_43 rfl (lv_at hl 3 rfl) ?_
        obtain ⟨g12, hf⟩ := ha_gds hf
        refine ha_iald hx hb hK hP hN hr11 g12 dX0_oneDoes_44 ?_
        refine lv_ishl hx hb dX0_oneDoes_45 ?_
        obtain ⟨z13, wz13, hf⟩ := ha_bds hf
        refine ha_callVi (As := [.ref (ad r10), .int x4, .int (((1 : Int32) <<< (((ha_gA z9 r11 (v2 : Int32).toNatClampNeg) : Int32) &&& 31)))]) (rest := []) hZ ⟨hx, hb, hml, hown, hts⟩ hK hz hP hD hS (c_X1_move hZ hN hX h1 hr10 wz13) cw1 hN h1 (by decide) rfl rfl hl.1 rfl (Nat.le_of_ble_eq_true rfl) dX0_oneDoes_46 ⟨Nat.le_of_ble_eq_true rfl, Nat.le_of_ble_eq_true rfl⟩ (fun H locs hP hD hS => ?_)
        refine lv_pop hx hb dX0_oneDoes_49 rfl ?_
        refine lv_aload_n hx hb dX0_oneDoes_50 rfl (lv_at hl 1 rfl) ?_
        refine lv_aload_n hx hb dX0_oneDoes_51 rfl (lv_at hl 2 rfl) ?_
        refine lv_iload_n hx hb dX0_oneDoes_52 rfl (lv_at hl 0 rfl) ?_
        obtain ⟨z14, wz14, hf⟩ := ha_bds hf
        refine ha_callVi (As := [.ref (ad p1), .int x4]) (rest := []) hZ ⟨hx, hb, hml, hown, hts⟩ hK hz hP hD hS (c_X0_breaks hZ hN hX h0 h1 wz14) cw2 hN h0 (by decide) rfl rfl hl.1 rfl (Nat.le_of_ble_eq_true rfl) dX0_oneDoes_53 ⟨Nat.le_of_ble_eq_true rfl, Nat.le_of_ble_eq_true rfl⟩ (fun H locs hP hD hS => ?_)
        refine lv_if_eq (tgt := 72) hx hb dX0_oneDoes_56 (by decide) (fun c15 => ?_) (fun c15 => ?_)
        · have hf := ha_it hf c15
          obtain ⟨x16, ex16⟩ : ∃ y : Int32, y = (v2 : Int32) + 1 := ⟨_, rfl⟩
          have hf := ha_nms hf ex16
          refine lv_iinc (v := x16) (lv' := [(2, .int x16), (3, .int x4), (0, .ref (ad p0)), (1, .ref (ad p1))]) hx hb dX0_oneDoes_72 hl (k := 3) rfl (by rw [ex16]; rfl) (by decide) rfl (fun ls hl => ?_)
          refine lv_goto (tgt := 2) hx hb dX0_oneDoes_75 (by decide) ?_
          exact ih x16 z14.2 H locs ls hf  hP hD hS (lv_sub hl [2, 3, 0] rfl)
        · have hf := ha_if hf c15
          refine lv_aload_n hx hb dX0_oneDoes_59 rfl (lv_at hl 1 rfl) ?_
          refine lv_iconst (v := 0) hx hb dX0_oneDoes_60 (by decide) ?_
          refine lv_iload_n hx hb dX0_oneDoes_61 rfl (lv_at hl 3 rfl) ?_
          obtain ⟨z17, wz17, hf⟩ := ha_bds hf
          refine ha_callVv (As := [.int 0, .int v2]) (rest := []) hZ ⟨hx, hb, hml, hown, hts⟩ hK hz hP hD hS (c_X0_tell hZ hN hX h0 wz17) cw3 hN h0 (by decide) rfl rfl hl.1 rfl (Nat.le_of_ble_eq_true rfl) dX0_oneDoes_62 ⟨Nat.le_of_ble_eq_true rfl, Nat.le_of_ble_eq_true rfl⟩ (fun H locs hP hD hS => ?_)
          refine lv_aload_n hx hb dX0_oneDoes_65 rfl (lv_at hl 1 rfl) ?_
          refine lv_iconst (v := 1) hx hb dX0_oneDoes_66 (by decide) ?_
          refine ha_puti hx hb hown hK hP hD hS r40 hN h0 dX0_oneDoes_67 (fun S18 H locs eS18 hP hD hS => ?_)
          have hf := ha_nms hf eS18
          refine lv_iconst (v := 1) hx hb dX0_oneDoes_70 (by decide) ?_
          have he := hke _ hf
          exact ha_retz hx hb hr hlocks hP hD hS dX0_oneDoes_71 (by decide) (ha_e1 he) (ha_e2 he)
  refine key19 _ (fun  S H locs ls hf  hP hD hS hl => ?_) (fun r h => Option.some.inj h) ha_fu 0 S H locs ls (ha_as hf)  hP hD hS (lv_sub hl [1, 2, 0] rfl)
  have hf : (f_X0_oneDoes_J78 p0 p1  S).bind some = some out := hf
  exact J78  S H locs ls hf  hP hD hS (lv_sub hl [0, 1] rfl)

set_option maxHeartbeats 4000000 in
set_option maxRecDepth 100000 in
theorem c_X0_playOnce {l : Launch} {D : va_G} {cs : Nat → ClassId} {ad adK adV : Nat → Nat} {N : List Nat} {Z : State → Prop} (hZ : ha_Zok (ha_A ad N) Z) (hN : ∀ x, xo_kd x < 999 → x ∈ N) (hX : ∀ U, Z U → xo_Z adK adV (ha_A ad N) U) {p0 : Nat} {p1 : Nat} {p2 : Int32} {S : ha_St} {out : ha_St} (h0 : xo_kd p0 = 0) (h1 : xo_kd p1 = 1) (hf : f_X0_playOnce p0 p1 p2 S = some out) : ha_Cv l D cs ad xo_kd xo_ln N Z yX0_playOnce wsX0_playOnce ({ frames := 3, cells := 0, slots := 0, locals := 82 } : Room) [.ref (ad p0), .ref (ad p1), .int p2] S out := by
  refine Met.ofW (cc := cX0_playOnce) (maxL := 5) (ret := none) (by decide +kernel) rfl ?_
  intro p e s m args below meth c s₁ B hml hv
  obtain ⟨rfl, hP, hD, hK, hz⟩ := hv
  have hx := B.exec
  have hb := B.bytes
  have hr := B.returns
  have hts := atoms_spec (ws := wsX0_playOnce) B.pre
  have hown : s.vm.findClass RX0 = some m.cls := findClass_of_methodNamed B.named
  have hlocks := B.notSynchronized
  have hS : va_S (ha_A ad N) s.heap s.heap [] := va_S.rf
  have hi0 : ∀ w ∈ wsX00, w ∈ wsX0_playOnce := fun w h => List.mem_cons_of_mem _ (List.mem_append_left _ (List.mem_append_left _ (List.mem_append_left _ (List.mem_append_right _ h))))
  have q27 : ha_Fk s ([.ref (ad p0), .ref (ad p1), .int p2] : List Value).toArray RX0 27 0 3 1 := ⟨RX0, TX0, 11, wsX0_playOnce, rfl, by decide, by decide, rfl, rfl, hts, hi0, hts (.fieldLink RX0 27 "HillArms$Breaker" "singleTick" "[I") (by decide +kernel)⟩
  have q17 : ha_Fk s ([.ref (ad p0), .ref (ad p1), .int p2] : List Value).toArray RX0 17 0 1 1 := ⟨RX0, TX0, 11, wsX0_playOnce, rfl, by decide, by decide, rfl, rfl, hts, hi0, hts (.fieldLink RX0 17 "HillArms$Breaker" "once" "[LHillArms$Line;") (by decide +kernel)⟩
  have q31 : ha_Fk s ([.ref (ad p0), .ref (ad p1), .int p2] : List Value).toArray RX0 31 0 4 1 := ⟨RX0, TX0, 11, wsX0_playOnce, rfl, by decide, by decide, rfl, rfl, hts, hi0, hts (.fieldLink RX0 31 "HillArms$Breaker" "singleGap" "[I") (by decide +kernel)⟩
  have q53 : ha_Fk s ([.ref (ad p0), .ref (ad p1), .int p2] : List Value).toArray RX0 53 0 7 0 := ⟨RX0, TX0, 11, wsX0_playOnce, rfl, by decide, by decide, rfl, rfl, hts, hi0, hts (.fieldLink RX0 53 "HillArms$Breaker" "wide" "I") (by decide +kernel)⟩
  have q11 : ha_Fk s ([.ref (ad p0), .ref (ad p1), .int p2] : List Value).toArray RX0 11 0 0 1 := ⟨RX0, TX0, 11, wsX0_playOnce, rfl, by decide, by decide, rfl, rfl, hts, hi0, hts (.fieldLink RX0 11 "HillArms$Breaker" "calm" "[LHillArms$Line;") (by decide +kernel)⟩
  have cw0 := cwV (R := (headSpec wsX0_playOnce ({ frames := 3, cells := 0, slots := 0, locals := 82 } : Room)).room) 3 hts gX0_playOnce_X1_move (rm := ({ frames := 2, cells := 0, slots := 0, locals := 51 } : Room)) (mc := 0) (ms := 0) rfl rfl rfl (by decide +kernel) ⟨Nat.le_of_ble_eq_true rfl, Nat.le_of_ble_eq_true rfl⟩
  have cw1 := cwV (R := (headSpec wsX0_playOnce ({ frames := 3, cells := 0, slots := 0, locals := 82 } : Room)).room) 1 hts gX0_playOnce_X5_takeOver (rm := ({ frames := 1, cells := 0, slots := 0, locals := 26 } : Room)) (mc := 0) (ms := 0) rfl rfl rfl (by decide +kernel) ⟨Nat.le_of_ble_eq_true rfl, Nat.le_of_ble_eq_true rfl⟩
  have hl := lv_entry ([.ref (ad p0), .ref (ad p1), .int p2]) (n := 5) (Nat.le_of_ble_eq_true rfl)
  rw [lg_entry_eq]
  generalize (lg_sl ([.ref (ad p0), .ref (ad p1), .int p2]) ++ List.replicate (5 - (lg_sl ([.ref (ad p0), .ref (ad p1), .int p2])).length) Slot.unset).toArray = ls at hl ⊢
  have hl : lv_has ls 5 [(0, .ref (ad p0)), (1, .ref (ad p1)), (2, .int p2)] := hl
  refine (fun (K0 : ∀ (H : Heap) (locs : List Loc), va_P D vwCl (ha_wl cs ad xo_kd xo_ln N S) H → va_S (ha_A ad N) s.heap H locs → W p l e (headSpec wsX0_playOnce ({ frames := 3, cells := 0, slots := 0, locals := 82 } : Room)).room s m ([.ref (ad p0), .ref (ad p1), .int p2] : List Value).toArray below meth c H locs 0 0 (MQ below (va_Qv (fun (_ : Unit) => True) (fun _ => ha_H D cs ad xo_kd xo_ln N out) (ha_A ad N)) ([.ref (ad p0), .ref (ad p1), .int p2] : List Value).toArray s 0 0 (ha_A ad N)) (F0 m 0 ls [])) => K0 _ _ hP hS) ?_
  intro H locs hP hS
  have hf := ha_rt hf
  have J94 : ∀  (S : ha_St) (H : Heap) (locs : List Loc) (ls : Array Slot), (f_X0_playOnce_J94 p0 p1 p2  S).bind some = some out → va_P D vwCl (ha_wl cs ad xo_kd xo_ln N S) H → va_D (ha_A ad N) (ha_wl cs ad xo_kd xo_ln N S) → va_S (ha_A ad N) s.heap H locs → lv_has ls 5 [(0, .ref (ad p0)), (1, .ref (ad p1)), (2, .int p2)] → W p l e (headSpec wsX0_playOnce ({ frames := 3, cells := 0, slots := 0, locals := 82 } : Room)).room s m ([.ref (ad p0), .ref (ad p1), .int p2] : List Value).toArray below meth c H locs 0 0 (MQ below (va_Qv (fun (_ : Unit) => True) (fun _ => ha_H D cs ad xo_kd xo_ln N out) (ha_A ad N)) ([.ref (ad p0), .ref (ad p1), .int p2] : List Value).toArray s 0 0 (ha_A ad N)) (F0 m 94 ls []) := by
    intro  S H locs ls hf  hP hD hS hl
    unfold f_X0_playOnce_J94 at hf
    have he := Option.some.inj hf
    exact ha_retv hx hb hr hlocks hP hD hS dX0_playOnce_94 he
  unfold f_X0_playOnce at hf
  refine lv_aload_n hx hb dX0_playOnce_0 rfl (lv_at hl 0 rfl) ?_
  obtain ⟨r1, wr1, hf⟩ := ha_bds hf
  obtain ⟨wr1, hr1⟩ := ha_rf_some wr1
  refine ha_getr hx hb hown hK hP q27 hN h0 wr1 dX0_playOnce_1 ?_
  refine lv_iload_n hx hb dX0_playOnce_4 rfl (lv_at hl 2 rfl) ?_
  obtain ⟨g2, hf⟩ := ha_gds hf
  refine ha_iald hx hb hK hP hN hr1 g2 dX0_playOnce_5 ?_
  refine lv_topi (fun x3 ex3 => ?_)
  have hf := ha_nms hf ex3
  refine lv_istore_n (lv' := [(3, .int x3), (0, .ref (ad p0)), (1, .ref (ad p1)), (2, .int p2)]) hx hb dX0_playOnce_6 rfl hl (by decide) rfl (fun ls hl => ?_)
  refine lv_iload_n hx hb dX0_playOnce_7 rfl (lv_at hl 0 rfl) ?_
  refine lv_istore (lv' := [(4, .int x3), (3, .int x3), (0, .ref (ad p0)), (1, .ref (ad p1)), (2, .int p2)]) hx hb dX0_playOnce_8 hl (by decide) rfl (fun ls hl => ?_)
  have key24 : ∀ (K : (ha_St) → Option (ha_St)), (∀  (S : ha_St) (H : Heap) (locs : List Loc) (ls : Array Slot), K S = some out → va_P D vwCl (ha_wl cs ad xo_kd xo_ln N S) H → va_D (ha_A ad N) (ha_wl cs ad xo_kd xo_ln N S) → va_S (ha_A ad N) s.heap H locs → lv_has ls 5 [(0, .ref (ad p0)), (1, .ref (ad p1)), (2, .int p2)] → W p l e (headSpec wsX0_playOnce ({ frames := 3, cells := 0, slots := 0, locals := 82 } : Room)).room s m ([.ref (ad p0), .ref (ad p1), .int p2] : List Value).toArray below meth c H locs 0 0 (MQ below (va_Qv (fun (_ : Unit) => True) (fun _ => ha_H D cs ad xo_kd xo_ln N out) (ha_A ad N)) ([.ref (ad p0), .ref (ad p1), .int p2] : List Value).toArray s 0 0 (ha_A ad N)) (F0 m 94 ls [])) → ∀ (n : Nat) (v3 : Int32) (v4 : Int32) (S : ha_St) (H : Heap) (locs : List Loc) (ls : Array Slot), (f_X0_playOnce_L10i p0 p1 p2 n (v3, v4, S)).bind K = some out → va_P D vwCl (ha_wl cs ad xo_kd xo_ln N S) H → va_D (ha_A ad N) (ha_wl cs ad xo_kd xo_ln N S) → va_S (ha_A ad N) s.heap H locs → lv_has ls 5 [(0, .ref (ad p0)), (1, .ref (ad p1)), (2, .int p2), (3, .int v3), (4, .int v4)] → W p l e (headSpec wsX0_playOnce ({ frames := 3, cells := 0, slots := 0, locals := 82 } : Room)).room s m ([.ref (ad p0), .ref (ad p1), .int p2] : List Value).toArray below meth c H locs 0 0 (MQ below (va_Qv (fun (_ : Unit) => True) (fun _ => ha_H D cs ad xo_kd xo_ln N out) (ha_A ad N)) ([.ref (ad p0), .ref (ad p1), .int p2] : List Value).toArray s 0 0 (ha_A ad N)) (F0 m 10 ls []) := by
    intro K hk n
    induction n with
    | zero =>
      intro v3 v4 S H locs ls hf
      exact absurd (show (none : Option (ha_St)) = some out from hf) (fun h => by cases h)
    | succ n ih =>
      intro v3 v4 S H locs ls hf  hP hD hS hl
      have J84 : ∀ (v3 : Int32) (v4 : Int32) (k0 : Nat) (k1 : Nat) (k2 : Int32) (k3 : Int32) (S : ha_St) (H : Heap) (locs : List Loc) (ls : Array Slot), (f_X0_playOnce_L10_J84 p0 p1 p2 (f_X0_playOnce_L10i p0 p1 p2 n) v3 v4 k0 k1 k2 k3 S).bind K = some out → xo_kd k0 = 1 → xo_kd k1 = 5 → va_P D vwCl (ha_wl cs ad xo_kd xo_ln N S) H → va_D (ha_A ad N) (ha_wl cs ad xo_kd xo_ln N S) → va_S (ha_A ad N) s.heap H locs → lv_has ls 5 [(0, .ref (ad p0)), (1, .ref (ad p1)), (2, .int p2), (3, .int v3), (4, .int v4)] → W p l e (headSpec wsX0_playOnce ({ frames := 3, cells := 0, slots := 0, locals := 82 } : Room)).room s m ([.ref (ad p0), .ref (ad p1), .int p2] : List Value).toArray below meth c H locs 0 0 (MQ below (va_Qv (fun (_ : Unit) => True) (fun _ => ha_H D cs ad xo_kd xo_ln N out) (ha_A ad N)) ([.ref (ad p0), .ref (ad p1), .int p2] : List Value).toArray s 0 0 (ha_A ad N)) (F0 m 84 ls [.int k3, .int k2, .ref (ad k1), .ref (ad k0)]) := by
        intro v3 v4 k0 k1 k2 k3 S H locs ls hf hk0 hk1 hP hD hS hl
        unfold f_X0_playOnce_L10_J84 at hf
        obtain ⟨z4, wz4, hf⟩ := ha_bds hf
        refine ha_callVi (As := [.ref (ad k1), .int k2, .int k3]) (rest := []) hZ ⟨hx, hb, hml, hown, hts⟩ hK hz hP hD hS (c_X1_move hZ hN hX hk0 hk1 wz4) cw0 hN hk0 (by decide) rfl rfl hl.1 rfl (Nat.le_of_ble_eq_true rfl) dX0_playOnce_84 ⟨Nat.le_of_ble_eq_true rfl, Nat.le_of_ble_eq_true rfl⟩ (fun H locs hP hD hS => ?_)
        refine lv_pop hx hb dX0_playOnce_87 rfl ?_
        obtain ⟨x5, ex5⟩ : ∃ y : Int32, y = (v4 : Int32) + 1 := ⟨_, rfl⟩
        have hf := ha_nms hf ex5
        refine lv_iinc (v := x5) (lv' := [(4, .int x5), (0, .ref (ad p0)), (1, .ref (ad p1)), (2, .int p2), (3, .int v3)]) hx hb dX0_playOnce_88 hl (k := 4) rfl (by rw [ex5]; rfl) (by decide) rfl (fun ls hl => ?_)
        refine lv_goto (tgt := 10) hx hb dX0_playOnce_91 (by decide) ?_
        exact ih v3 x5 z4.2 H locs ls hf  hP hD hS (lv_sub hl [1, 2, 3, 4, 0] rfl)
      have J53 : ∀ (v3 : Int32) (v4 : Int32) (k0 : Nat) (k1 : Nat) (S : ha_St) (H : Heap) (locs : List Loc) (ls : Array Slot), (f_X0_playOnce_L10_J53 p0 p1 p2 (f_X0_playOnce_L10i p0 p1 p2 n) v3 v4 k0 k1 S).bind K = some out → xo_kd k0 = 5 → xo_kd k1 = 5 → va_P D vwCl (ha_wl cs ad xo_kd xo_ln N S) H → va_D (ha_A ad N) (ha_wl cs ad xo_kd xo_ln N S) → va_S (ha_A ad N) s.heap H locs → lv_has ls 5 [(0, .ref (ad p0)), (1, .ref (ad p1)), (2, .int p2), (3, .int v3), (4, .int v4)] → W p l e (headSpec wsX0_playOnce ({ frames := 3, cells := 0, slots := 0, locals := 82 } : Room)).room s m ([.ref (ad p0), .ref (ad p1), .int p2] : List Value).toArray below meth c H locs 0 0 (MQ below (va_Qv (fun (_ : Unit) => True) (fun _ => ha_H D cs ad xo_kd xo_ln N out) (ha_A ad N)) ([.ref (ad p0), .ref (ad p1), .int p2] : List Value).toArray s 0 0 (ha_A ad N)) (F0 m 53 ls [.ref (ad k1), .ref (ad k0)]) := by
        intro v3 v4 k0 k1 S H locs ls hf hk0 hk1 hP hD hS hl
        unfold f_X0_playOnce_L10_J53 at hf
        obtain ⟨z6, wz6, hf⟩ := ha_bds hf
        refine ha_callVv (As := [.ref (ad k1)]) (rest := []) hZ ⟨hx, hb, hml, hown, hts⟩ hK hz hP hD hS (c_X5_takeOver hZ hN hX hk0 hk1 wz6) cw1 hN hk0 (by decide) rfl rfl hl.1 rfl (Nat.le_of_ble_eq_true rfl) dX0_playOnce_53 ⟨Nat.le_of_ble_eq_true rfl, Nat.le_of_ble_eq_true rfl⟩ (fun H locs hP hD hS => ?_)
        refine lv_aload_n hx hb dX0_playOnce_56 rfl (lv_at hl 1 rfl) ?_
        refine lv_aload_n hx hb dX0_playOnce_57 rfl (lv_at hl 0 rfl) ?_
        obtain ⟨r7, wr7, hf⟩ := ha_bds hf
        obtain ⟨wr7, hr7⟩ := ha_rf_some wr7
        refine ha_getr hx hb hown hK hP q17 hN h0 wr7 dX0_playOnce_58 ?_
        refine lv_iload hx hb dX0_playOnce_61 (lv_at hl 4 rfl) ?_
        obtain ⟨g8, hf⟩ := ha_gds hf
        obtain ⟨r9, wr9, hf⟩ := ha_bds hf
        obtain ⟨wr9, hr9⟩ := ha_rb_some wr9
        refine ha_aald hx hb hK hP hN hr7 (by decide) g8 wr9 dX0_playOnce_63 ?_
        refine lv_iload hx hb dX0_playOnce_64 (lv_at hl 4 rfl) ?_
        refine lv_iload hx hb dX0_playOnce_66 (lv_at hl 4 rfl) ?_
        refine lv_iload_n hx hb dX0_playOnce_68 rfl (lv_at hl 3 rfl) ?_
        refine lv_icmp_ne (tgt := 83) hx hb dX0_playOnce_69 (by decide) (fun c10 => ?_) (fun c10 => ?_)
        · have hf := ha_it hf c10
          refine lv_iconst (v := 0) hx hb dX0_playOnce_83 (by decide) ?_
          exact J84 v3 v4 p1 r9 v4 0 z6 H locs ls hf h1 hr9 hP hD hS (lv_sub hl [0, 1, 2, 3, 4] rfl)
        · have hf := ha_if hf (fun q => q c10)
          refine lv_iconst (v := 1) hx hb dX0_playOnce_72 (by decide) ?_
          refine lv_aload_n hx hb dX0_playOnce_73 rfl (lv_at hl 0 rfl) ?_
          obtain ⟨r11, wr11, hf⟩ := ha_bds hf
          obtain ⟨wr11, hr11⟩ := ha_rf_some wr11
          refine ha_getr hx hb hown hK hP q31 hN h0 wr11 dX0_playOnce_74 ?_
          refine lv_iload_n hx hb dX0_playOnce_77 rfl (lv_at hl 2 rfl) ?_
          obtain ⟨g12, hf⟩ := ha_gds hf
          refine ha_iald hx hb hK hP hN hr11 g12 dX0_playOnce_78 ?_
          refine lv_ishl hx hb dX0_playOnce_79 ?_
          refine lv_goto (tgt := 84) hx hb dX0_playOnce_80 (by decide) ?_
          exact J84 v3 v4 p1 r9 v4 (((1 : Int32) <<< (((ha_gA z6 r11 (p2 : Int32).toNatClampNeg) : Int32) &&& 31))) z6 H locs ls hf h1 hr9 hP hD hS (lv_sub hl [0, 1, 2, 3, 4] rfl)
      have hf : (f_X0_playOnce_L10 p0 p1 p2 (f_X0_playOnce_L10i p0 p1 p2 n) v3 v4 S).bind K = some out := hf
      unfold f_X0_playOnce_L10 at hf
      refine lv_iload hx hb dX0_playOnce_10 (lv_at hl 4 rfl) ?_
      refine lv_aload_n hx hb dX0_playOnce_12 rfl (lv_at hl 0 rfl) ?_
      refine ha_geti hx hb hown hK hP q53 hN h0 dX0_playOnce_13 ?_
      refine lv_icmp_gt (tgt := 94) hx hb dX0_playOnce_16 (by decide) (fun c13 => ?_) (fun c13 => ?_)
      · have hf := ha_it hf c13
        exact hk  S H locs ls hf  hP hD hS (lv_sub hl [0, 1, 2] rfl)
      · have hf := ha_if hf c13
        refine lv_aload_n hx hb dX0_playOnce_19 rfl (lv_at hl 0 rfl) ?_
        obtain ⟨r14, wr14, hf⟩ := ha_bds hf
        obtain ⟨wr14, hr14⟩ := ha_rf_some wr14
        refine ha_getr hx hb hown hK hP q17 hN h0 wr14 dX0_playOnce_20 ?_
        refine lv_iload hx hb dX0_playOnce_23 (lv_at hl 4 rfl) ?_
        obtain ⟨g15, hf⟩ := ha_gds hf
        obtain ⟨r16, wr16, hf⟩ := ha_bds hf
        obtain ⟨wr16, hr16⟩ := ha_rb_some wr16
        refine ha_aald hx hb hK hP hN hr14 (by decide) g15 wr16 dX0_playOnce_25 ?_
        refine lv_iload hx hb dX0_playOnce_26 (lv_at hl 4 rfl) ?_
        refine lv_iload_n hx hb dX0_playOnce_28 rfl (lv_at hl 3 rfl) ?_
        refine lv_icmp_ne (tgt := 44) hx hb dX0_playOnce_29 (by decide) (fun c17 => ?_) (fun c17 => ?_)
        · have hf := ha_it hf c17
          refine lv_aload_n hx hb dX0_playOnce_44 rfl (lv_at hl 0 rfl) ?_
          obtain ⟨r18, wr18, hf⟩ := ha_bds hf
          obtain ⟨wr18, hr18⟩ := ha_rf_some wr18
          refine ha_getr hx hb hown hK hP q17 hN h0 wr18 dX0_playOnce_45 ?_
          refine lv_iload hx hb dX0_playOnce_48 (lv_at hl 4 rfl) ?_
          refine lv_iconst (v := 1) hx hb dX0_playOnce_50 (by decide) ?_
          refine lv_isub hx hb dX0_playOnce_51 ?_
          obtain ⟨g19, hf⟩ := ha_gds hf
          obtain ⟨r20, wr20, hf⟩ := ha_bds hf
          obtain ⟨wr20, hr20⟩ := ha_rb_some wr20
          refine ha_aald hx hb hK hP hN hr18 (by decide) g19 wr20 dX0_playOnce_52 ?_
          exact J53 v3 v4 r16 r20 S H locs ls hf hr16 hr20 hP hD hS (lv_sub hl [0, 1, 2, 3, 4] rfl)
        · have hf := ha_if hf (fun q => q c17)
          refine lv_aload_n hx hb dX0_playOnce_32 rfl (lv_at hl 0 rfl) ?_
          obtain ⟨r21, wr21, hf⟩ := ha_bds hf
          obtain ⟨wr21, hr21⟩ := ha_rf_some wr21
          refine ha_getr hx hb hown hK hP q11 hN h0 wr21 dX0_playOnce_33 ?_
          refine lv_iload hx hb dX0_playOnce_36 (lv_at hl 4 rfl) ?_
          refine lv_iconst (v := 1) hx hb dX0_playOnce_38 (by decide) ?_
          refine lv_isub hx hb dX0_playOnce_39 ?_
          obtain ⟨g22, hf⟩ := ha_gds hf
          obtain ⟨r23, wr23, hf⟩ := ha_bds hf
          obtain ⟨wr23, hr23⟩ := ha_rb_some wr23
          refine ha_aald hx hb hK hP hN hr21 (by decide) g22 wr23 dX0_playOnce_40 ?_
          refine lv_goto (tgt := 53) hx hb dX0_playOnce_41 (by decide) ?_
          exact J53 v3 v4 r16 r23 S H locs ls hf hr16 hr23 hP hD hS (lv_sub hl [0, 1, 2, 3, 4] rfl)
  refine key24 _ (fun  S H locs ls hf  hP hD hS hl => ?_) ha_fu x3 x3 S H locs ls (ha_as hf)  hP hD hS (lv_sub hl [2, 3, 4, 1, 0] rfl)
  have hf : (f_X0_playOnce_J94 p0 p1 p2  S).bind some = some out := hf
  exact J94  S H locs ls hf  hP hD hS (lv_sub hl [0, 1, 2] rfl)

set_option maxHeartbeats 4000000 in
set_option maxRecDepth 100000 in
theorem c_X0_bothMatter {l : Launch} {D : va_G} {cs : Nat → ClassId} {ad adK adV : Nat → Nat} {N : List Nat} {Z : State → Prop} (hZ : ha_Zok (ha_A ad N) Z) (hN : ∀ x, xo_kd x < 999 → x ∈ N) (hX : ∀ U, Z U → xo_Z adK adV (ha_A ad N) U) {p0 : Nat} {p1 : Nat} {p2 : Int32} {p3 : Int32} {S : ha_St} {out : Int32 × ha_St} (h0 : xo_kd p0 = 0) (h1 : xo_kd p1 = 1) (hf : f_X0_bothMatter p0 p1 p2 p3 S = some out) : ha_Ci l D cs ad xo_kd xo_ln N Z yX0_bothMatter wsX0_bothMatter ({ frames := 3, cells := 0, slots := 0, locals := 82 } : Room) [.ref (ad p0), .ref (ad p1), .int p2, .int p3] S out.1 out.2 := by
  refine Met.ofW (cc := cX0_bothMatter) (maxL := 6) (ret := (some .boolean)) (by decide +kernel) rfl ?_
  intro p e s m args below meth c s₁ B hml hv
  obtain ⟨rfl, hP, hD, hK, hz⟩ := hv
  have hx := B.exec
  have hb := B.bytes
  have hr := B.returns
  have hts := atoms_spec (ws := wsX0_bothMatter) B.pre
  have hown : s.vm.findClass RX0 = some m.cls := findClass_of_methodNamed B.named
  have hlocks := B.notSynchronized
  have hS : va_S (ha_A ad N) s.heap s.heap [] := va_S.rf
  have hi0 : ∀ w ∈ wsX00, w ∈ wsX0_bothMatter := fun w h => List.mem_cons_of_mem _ (List.mem_append_left _ (List.mem_append_left _ (List.mem_append_left _ (List.mem_append_right _ h))))
  have q23 : ha_Fk s ([.ref (ad p0), .ref (ad p1), .int p2, .int p3] : List Value).toArray RX0 23 0 2 1 := ⟨RX0, TX0, 11, wsX0_bothMatter, rfl, by decide, by decide, rfl, rfl, hts, hi0, hts (.fieldLink RX0 23 "HillArms$Breaker" "tried" "LHillArms$Line;") (by decide +kernel)⟩
  have q17 : ha_Fk s ([.ref (ad p0), .ref (ad p1), .int p2, .int p3] : List Value).toArray RX0 17 0 1 1 := ⟨RX0, TX0, 11, wsX0_bothMatter, rfl, by decide, by decide, rfl, rfl, hts, hi0, hts (.fieldLink RX0 17 "HillArms$Breaker" "once" "[LHillArms$Line;") (by decide +kernel)⟩
  have q27 : ha_Fk s ([.ref (ad p0), .ref (ad p1), .int p2, .int p3] : List Value).toArray RX0 27 0 3 1 := ⟨RX0, TX0, 11, wsX0_bothMatter, rfl, by decide, by decide, rfl, rfl, hts, hi0, hts (.fieldLink RX0 27 "HillArms$Breaker" "singleTick" "[I") (by decide +kernel)⟩
  have q31 : ha_Fk s ([.ref (ad p0), .ref (ad p1), .int p2, .int p3] : List Value).toArray RX0 31 0 4 1 := ⟨RX0, TX0, 11, wsX0_bothMatter, rfl, by decide, by decide, rfl, rfl, hts, hi0, hts (.fieldLink RX0 31 "HillArms$Breaker" "singleGap" "[I") (by decide +kernel)⟩
  have q11 : ha_Fk s ([.ref (ad p0), .ref (ad p1), .int p2, .int p3] : List Value).toArray RX0 11 0 0 1 := ⟨RX0, TX0, 11, wsX0_bothMatter, rfl, by decide, by decide, rfl, rfl, hts, hi0, hts (.fieldLink RX0 11 "HillArms$Breaker" "calm" "[LHillArms$Line;") (by decide +kernel)⟩
  have cw0 := cwV (R := (headSpec wsX0_bothMatter ({ frames := 3, cells := 0, slots := 0, locals := 82 } : Room)).room) 3 hts gX0_bothMatter_X1_move (rm := ({ frames := 2, cells := 0, slots := 0, locals := 51 } : Room)) (mc := 0) (ms := 0) rfl rfl rfl (by decide +kernel) ⟨Nat.le_of_ble_eq_true rfl, Nat.le_of_ble_eq_true rfl⟩
  have cw1 := cwV (R := (headSpec wsX0_bothMatter ({ frames := 3, cells := 0, slots := 0, locals := 82 } : Room)).room) 2 hts gX0_bothMatter_X1_alike (rm := ({ frames := 1, cells := 0, slots := 0, locals := 21 } : Room)) (mc := 0) (ms := 0) rfl rfl rfl (by decide +kernel) ⟨Nat.le_of_ble_eq_true rfl, Nat.le_of_ble_eq_true rfl⟩
  have cw2 := cwV (R := (headSpec wsX0_bothMatter ({ frames := 3, cells := 0, slots := 0, locals := 82 } : Room)).room) 1 hts gX0_bothMatter_X5_takeOver (rm := ({ frames := 1, cells := 0, slots := 0, locals := 26 } : Room)) (mc := 0) (ms := 0) rfl rfl rfl (by decide +kernel) ⟨Nat.le_of_ble_eq_true rfl, Nat.le_of_ble_eq_true rfl⟩
  have hl := lv_entry ([.ref (ad p0), .ref (ad p1), .int p2, .int p3]) (n := 6) (Nat.le_of_ble_eq_true rfl)
  rw [lg_entry_eq]
  generalize (lg_sl ([.ref (ad p0), .ref (ad p1), .int p2, .int p3]) ++ List.replicate (6 - (lg_sl ([.ref (ad p0), .ref (ad p1), .int p2, .int p3])).length) Slot.unset).toArray = ls at hl ⊢
  have hl : lv_has ls 6 [(0, .ref (ad p0)), (1, .ref (ad p1)), (2, .int p2), (3, .int p3)] := hl
  refine (fun (K0 : ∀ (H : Heap) (locs : List Loc), va_P D vwCl (ha_wl cs ad xo_kd xo_ln N S) H → va_S (ha_A ad N) s.heap H locs → W p l e (headSpec wsX0_bothMatter ({ frames := 3, cells := 0, slots := 0, locals := 82 } : Room)).room s m ([.ref (ad p0), .ref (ad p1), .int p2, .int p3] : List Value).toArray below meth c H locs 0 0 (MQ below (va_Qi (fun (r : Int32) (_ : Unit) => r = out.1) (fun _ => ha_H D cs ad xo_kd xo_ln N out.2) (ha_A ad N)) ([.ref (ad p0), .ref (ad p1), .int p2, .int p3] : List Value).toArray s 0 0 (ha_A ad N)) (F0 m 0 ls [])) => K0 _ _ hP hS) ?_
  intro H locs hP hS
  have hf := ha_rt hf
  have J140 : ∀ (k0 : Int32) (S : ha_St) (H : Heap) (locs : List Loc) (ls : Array Slot), (f_X0_bothMatter_J140 p0 p1 p2 p3 k0 S).bind some = some out → va_P D vwCl (ha_wl cs ad xo_kd xo_ln N S) H → va_D (ha_A ad N) (ha_wl cs ad xo_kd xo_ln N S) → va_S (ha_A ad N) s.heap H locs → lv_has ls 6 [(0, .ref (ad p0)), (1, .ref (ad p1)), (2, .int p2), (3, .int p3)] → W p l e (headSpec wsX0_bothMatter ({ frames := 3, cells := 0, slots := 0, locals := 82 } : Room)).room s m ([.ref (ad p0), .ref (ad p1), .int p2, .int p3] : List Value).toArray below meth c H locs 0 0 (MQ below (va_Qi (fun (r : Int32) (_ : Unit) => r = out.1) (fun _ => ha_H D cs ad xo_kd xo_ln N out.2) (ha_A ad N)) ([.ref (ad p0), .ref (ad p1), .int p2, .int p3] : List Value).toArray s 0 0 (ha_A ad N)) (F0 m 140 ls [.int k0]) := by
    intro k0 S H locs ls hf  hP hD hS hl
    unfold f_X0_bothMatter_J140 at hf
    obtain ⟨g1, hf⟩ := ha_gds hf
    have he := Option.some.inj hf
    exact ha_retz hx hb hr hlocks hP hD hS dX0_bothMatter_140 g1 (ha_e1 he) (ha_e2 he)
  have J104 : ∀ (v4 : Int32) (v5 : Int32) (S : ha_St) (H : Heap) (locs : List Loc) (ls : Array Slot), (f_X0_bothMatter_J104 p0 p1 p2 p3 v4 v5 S).bind some = some out → va_P D vwCl (ha_wl cs ad xo_kd xo_ln N S) H → va_D (ha_A ad N) (ha_wl cs ad xo_kd xo_ln N S) → va_S (ha_A ad N) s.heap H locs → lv_has ls 6 [(0, .ref (ad p0)), (1, .ref (ad p1)), (2, .int p2), (3, .int p3), (4, .int v4), (5, .int v5)] → W p l e (headSpec wsX0_bothMatter ({ frames := 3, cells := 0, slots := 0, locals := 82 } : Room)).room s m ([.ref (ad p0), .ref (ad p1), .int p2, .int p3] : List Value).toArray below meth c H locs 0 0 (MQ below (va_Qi (fun (r : Int32) (_ : Unit) => r = out.1) (fun _ => ha_H D cs ad xo_kd xo_ln N out.2) (ha_A ad N)) ([.ref (ad p0), .ref (ad p1), .int p2, .int p3] : List Value).toArray s 0 0 (ha_A ad N)) (F0 m 104 ls []) := by
    intro v4 v5 S H locs ls hf  hP hD hS hl
    unfold f_X0_bothMatter_J104 at hf
    refine lv_aload_n hx hb dX0_bothMatter_104 rfl (lv_at hl 1 rfl) ?_
    refine lv_aload_n hx hb dX0_bothMatter_105 rfl (lv_at hl 0 rfl) ?_
    obtain ⟨r2, wr2, hf⟩ := ha_bds hf
    obtain ⟨wr2, hr2⟩ := ha_rf_some wr2
    refine ha_getr hx hb hown hK hP q23 hN h0 wr2 dX0_bothMatter_106 ?_
    refine lv_iload hx hb dX0_bothMatter_109 (lv_at hl 4 rfl) ?_
    refine lv_iload hx hb dX0_bothMatter_111 (lv_at hl 5 rfl) ?_
    obtain ⟨z3, wz3, hf⟩ := ha_bds hf
    refine ha_callVi (As := [.ref (ad r2), .int v4, .int v5]) (rest := []) hZ ⟨hx, hb, hml, hown, hts⟩ hK hz hP hD hS (c_X1_move hZ hN hX h1 hr2 wz3) cw0 hN h1 (by decide) rfl rfl hl.1 rfl (Nat.le_of_ble_eq_true rfl) dX0_bothMatter_113 ⟨Nat.le_of_ble_eq_true rfl, Nat.le_of_ble_eq_true rfl⟩ (fun H locs hP hD hS => ?_)
    refine lv_pop hx hb dX0_bothMatter_116 rfl ?_
    refine lv_aload_n hx hb dX0_bothMatter_117 rfl (lv_at hl 1 rfl) ?_
    refine lv_aload_n hx hb dX0_bothMatter_118 rfl (lv_at hl 0 rfl) ?_
    obtain ⟨r4, wr4, hf⟩ := ha_bds hf
    obtain ⟨wr4, hr4⟩ := ha_rf_some wr4
    refine ha_getr hx hb hown hK hP q23 hN h0 wr4 dX0_bothMatter_119 ?_
    refine lv_aload_n hx hb dX0_bothMatter_122 rfl (lv_at hl 0 rfl) ?_
    obtain ⟨r5, wr5, hf⟩ := ha_bds hf
    obtain ⟨wr5, hr5⟩ := ha_rf_some wr5
    refine ha_getr hx hb hown hK hP q17 hN h0 wr5 dX0_bothMatter_123 ?_
    refine lv_iload hx hb dX0_bothMatter_126 (lv_at hl 4 rfl) ?_
    obtain ⟨g6, hf⟩ := ha_gds hf
    obtain ⟨r7, wr7, hf⟩ := ha_bds hf
    obtain ⟨wr7, hr7⟩ := ha_rb_some wr7
    refine ha_aald hx hb hK hP hN hr5 (by decide) g6 wr7 dX0_bothMatter_128 ?_
    obtain ⟨z8, wz8, hf⟩ := ha_bds hf
    refine ha_callVi (As := [.ref (ad r4), .ref (ad r7)]) (rest := []) hZ ⟨hx, hb, hml, hown, hts⟩ hK hz hP hD hS (c_X1_alike hZ hN hX h1 hr4 hr7 wz8) cw1 hN h1 (by decide) rfl rfl hl.1 rfl (Nat.le_of_ble_eq_true rfl) dX0_bothMatter_129 ⟨Nat.le_of_ble_eq_true rfl, Nat.le_of_ble_eq_true rfl⟩ (fun H locs hP hD hS => ?_)
    refine lv_if_ne (tgt := 139) hx hb dX0_bothMatter_132 (by decide) (fun c9 => ?_) (fun c9 => ?_)
    · have hf := ha_it hf c9
      refine lv_iconst (v := 0) hx hb dX0_bothMatter_139 (by decide) ?_
      exact J140 0 z8.2 H locs ls hf  hP hD hS (lv_sub hl [0, 1, 2, 3] rfl)
    · have hf := ha_if hf (fun q => q c9)
      refine lv_iconst (v := 1) hx hb dX0_bothMatter_135 (by decide) ?_
      refine lv_goto (tgt := 140) hx hb dX0_bothMatter_136 (by decide) ?_
      exact J140 1 z8.2 H locs ls hf  hP hD hS (lv_sub hl [0, 1, 2, 3] rfl)
  unfold f_X0_bothMatter at hf
  refine lv_aload_n hx hb dX0_bothMatter_0 rfl (lv_at hl 0 rfl) ?_
  obtain ⟨r10, wr10, hf⟩ := ha_bds hf
  obtain ⟨wr10, hr10⟩ := ha_rf_some wr10
  refine ha_getr hx hb hown hK hP q27 hN h0 wr10 dX0_bothMatter_1 ?_
  refine lv_iload_n hx hb dX0_bothMatter_4 rfl (lv_at hl 3 rfl) ?_
  obtain ⟨g11, hf⟩ := ha_gds hf
  refine ha_iald hx hb hK hP hN hr10 g11 dX0_bothMatter_5 ?_
  refine lv_topi (fun x12 ex12 => ?_)
  have hf := ha_nms hf ex12
  refine lv_istore (lv' := [(4, .int x12), (0, .ref (ad p0)), (1, .ref (ad p1)), (2, .int p2), (3, .int p3)]) hx hb dX0_bothMatter_6 hl (by decide) rfl (fun ls hl => ?_)
  refine lv_iconst (v := 1) hx hb dX0_bothMatter_8 (by decide) ?_
  refine lv_aload_n hx hb dX0_bothMatter_9 rfl (lv_at hl 1 rfl) ?_
  obtain ⟨r13, wr13, hf⟩ := ha_bds hf
  obtain ⟨wr13, hr13⟩ := ha_rf_some wr13
  refine ha_getr hx hb hown hK hP q31 hN h0 wr13 dX0_bothMatter_10 ?_
  refine lv_iload_n hx hb dX0_bothMatter_13 rfl (lv_at hl 4 rfl) ?_
  obtain ⟨g14, hf⟩ := ha_gds hf
  refine ha_iald hx hb hK hP hN hr13 g14 dX0_bothMatter_14 ?_
  refine lv_ishl hx hb dX0_bothMatter_15 ?_
  refine lv_topi (fun x15 ex15 => ?_)
  have hf := ha_nms hf ex15
  refine lv_istore (lv' := [(5, .int x15), (4, .int x12), (0, .ref (ad p0)), (1, .ref (ad p1)), (2, .int p2), (3, .int p3)]) hx hb dX0_bothMatter_16 hl (by decide) rfl (fun ls hl => ?_)
  refine lv_iload hx hb dX0_bothMatter_18 (lv_at hl 1 rfl) ?_
  refine lv_aload_n hx hb dX0_bothMatter_20 rfl (lv_at hl 2 rfl) ?_
  obtain ⟨r16, wr16, hf⟩ := ha_bds hf
  obtain ⟨wr16, hr16⟩ := ha_rf_some wr16
  refine ha_getr hx hb hown hK hP q27 hN h0 wr16 dX0_bothMatter_21 ?_
  refine lv_iload_n hx hb dX0_bothMatter_24 rfl (lv_at hl 4 rfl) ?_
  obtain ⟨g17, hf⟩ := ha_gds hf
  refine ha_iald hx hb hK hP hN hr16 g17 dX0_bothMatter_25 ?_
  refine lv_icmp_ne (tgt := 61) hx hb dX0_bothMatter_26 (by decide) (fun c18 => ?_) (fun c18 => ?_)
  · have hf := ha_it hf c18
    refine lv_aload_n hx hb dX0_bothMatter_61 rfl (lv_at hl 3 rfl) ?_
    refine lv_aload_n hx hb dX0_bothMatter_62 rfl (lv_at hl 2 rfl) ?_
    obtain ⟨r19, wr19, hf⟩ := ha_bds hf
    obtain ⟨wr19, hr19⟩ := ha_rf_some wr19
    refine ha_getr hx hb hown hK hP q17 hN h0 wr19 dX0_bothMatter_63 ?_
    refine lv_iload hx hb dX0_bothMatter_66 (lv_at hl 1 rfl) ?_
    refine lv_iconst (v := 1) hx hb dX0_bothMatter_68 (by decide) ?_
    refine lv_isub hx hb dX0_bothMatter_69 ?_
    obtain ⟨g20, hf⟩ := ha_gds hf
    obtain ⟨r21, wr21, hf⟩ := ha_bds hf
    obtain ⟨wr21, hr21⟩ := ha_rb_some wr21
    refine ha_aald hx hb hK hP hN hr19 (by decide) g20 wr21 dX0_bothMatter_70 ?_
    refine lv_aload_n hx hb dX0_bothMatter_71 rfl (lv_at hl 2 rfl) ?_
    obtain ⟨r22, wr22, hf⟩ := ha_bds hf
    obtain ⟨wr22, hr22⟩ := ha_rf_some wr22
    refine ha_getr hx hb hown hK hP q11 hN h0 wr22 dX0_bothMatter_72 ?_
    refine lv_iload hx hb dX0_bothMatter_75 (lv_at hl 1 rfl) ?_
    refine lv_iconst (v := 1) hx hb dX0_bothMatter_77 (by decide) ?_
    refine lv_isub hx hb dX0_bothMatter_78 ?_
    obtain ⟨g23, hf⟩ := ha_gds hf
    obtain ⟨r24, wr24, hf⟩ := ha_bds hf
    obtain ⟨wr24, hr24⟩ := ha_rb_some wr24
    refine ha_aald hx hb hK hP hN hr22 (by decide) g23 wr24 dX0_bothMatter_79 ?_
    obtain ⟨z25, wz25, hf⟩ := ha_bds hf
    refine ha_callVi (As := [.ref (ad r21), .ref (ad r24)]) (rest := []) hZ ⟨hx, hb, hml, hown, hts⟩ hK hz hP hD hS (c_X1_alike hZ hN hX h1 hr21 hr24 wz25) cw1 hN h1 (by decide) rfl rfl hl.1 rfl (Nat.le_of_ble_eq_true rfl) dX0_bothMatter_80 ⟨Nat.le_of_ble_eq_true rfl, Nat.le_of_ble_eq_true rfl⟩ (fun H locs hP hD hS => ?_)
    refine lv_if_eq (tgt := 88) hx hb dX0_bothMatter_83 (by decide) (fun c26 => ?_) (fun c26 => ?_)
    · have hf := ha_it hf c26
      refine lv_aload_n hx hb dX0_bothMatter_88 rfl (lv_at hl 2 rfl) ?_
      obtain ⟨r27, wr27, hf⟩ := ha_bds hf
      obtain ⟨wr27, hr27⟩ := ha_rf_some wr27
      refine ha_getr hx hb hown hK hP q23 hN h0 wr27 dX0_bothMatter_89 ?_
      refine lv_aload_n hx hb dX0_bothMatter_92 rfl (lv_at hl 2 rfl) ?_
      obtain ⟨r28, wr28, hf⟩ := ha_bds hf
      obtain ⟨wr28, hr28⟩ := ha_rf_some wr28
      refine ha_getr hx hb hown hK hP q17 hN h0 wr28 dX0_bothMatter_93 ?_
      refine lv_iload hx hb dX0_bothMatter_96 (lv_at hl 1 rfl) ?_
      refine lv_iconst (v := 1) hx hb dX0_bothMatter_98 (by decide) ?_
      refine lv_isub hx hb dX0_bothMatter_99 ?_
      obtain ⟨g29, hf⟩ := ha_gds hf
      obtain ⟨r30, wr30, hf⟩ := ha_bds hf
      obtain ⟨wr30, hr30⟩ := ha_rb_some wr30
      refine ha_aald hx hb hK hP hN hr28 (by decide) g29 wr30 dX0_bothMatter_100 ?_
      obtain ⟨z31, wz31, hf⟩ := ha_bds hf
      refine ha_callVv (As := [.ref (ad r30)]) (rest := []) hZ ⟨hx, hb, hml, hown, hts⟩ hK hz hP hD hS (c_X5_takeOver hZ hN hX hr27 hr30 wz31) cw2 hN hr27 (by decide) rfl rfl hl.1 rfl (Nat.le_of_ble_eq_true rfl) dX0_bothMatter_101 ⟨Nat.le_of_ble_eq_true rfl, Nat.le_of_ble_eq_true rfl⟩ (fun H locs hP hD hS => ?_)
      exact J104 x12 x15 z31 H locs ls hf  hP hD hS (lv_sub hl [2, 3, 4, 5, 1, 0] rfl)
    · have hf := ha_if hf c26
      refine lv_iconst (v := 0) hx hb dX0_bothMatter_86 (by decide) ?_
      have he := Option.some.inj hf
      exact ha_retz hx hb hr hlocks hP hD hS dX0_bothMatter_87 (by decide) (ha_e1 he) (ha_e2 he)
  · have hf := ha_if hf (fun q => q c18)
    refine lv_aload_n hx hb dX0_bothMatter_29 rfl (lv_at hl 2 rfl) ?_
    obtain ⟨r32, wr32, hf⟩ := ha_bds hf
    obtain ⟨wr32, hr32⟩ := ha_rf_some wr32
    refine ha_getr hx hb hown hK hP q23 hN h0 wr32 dX0_bothMatter_30 ?_
    refine lv_aload_n hx hb dX0_bothMatter_33 rfl (lv_at hl 2 rfl) ?_
    obtain ⟨r33, wr33, hf⟩ := ha_bds hf
    obtain ⟨wr33, hr33⟩ := ha_rf_some wr33
    refine ha_getr hx hb hown hK hP q11 hN h0 wr33 dX0_bothMatter_34 ?_
    refine lv_iload hx hb dX0_bothMatter_37 (lv_at hl 1 rfl) ?_
    refine lv_iconst (v := 1) hx hb dX0_bothMatter_39 (by decide) ?_
    refine lv_isub hx hb dX0_bothMatter_40 ?_
    obtain ⟨g34, hf⟩ := ha_gds hf
    obtain ⟨r35, wr35, hf⟩ := ha_bds hf
    obtain ⟨wr35, hr35⟩ := ha_rb_some wr35
    refine ha_aald hx hb hK hP hN hr33 (by decide) g34 wr35 dX0_bothMatter_41 ?_
    obtain ⟨z36, wz36, hf⟩ := ha_bds hf
    refine ha_callVv (As := [.ref (ad r35)]) (rest := []) hZ ⟨hx, hb, hml, hown, hts⟩ hK hz hP hD hS (c_X5_takeOver hZ hN hX hr32 hr35 wz36) cw2 hN hr32 (by decide) rfl rfl hl.1 rfl (Nat.le_of_ble_eq_true rfl) dX0_bothMatter_42 ⟨Nat.le_of_ble_eq_true rfl, Nat.le_of_ble_eq_true rfl⟩ (fun H locs hP hD hS => ?_)
    refine lv_iload hx hb dX0_bothMatter_45 (lv_at hl 0 rfl) ?_
    refine lv_iconst (v := 1) hx hb dX0_bothMatter_47 (by decide) ?_
    refine lv_aload_n hx hb dX0_bothMatter_48 rfl (lv_at hl 2 rfl) ?_
    obtain ⟨r37, wr37, hf⟩ := ha_bds hf
    obtain ⟨wr37, hr37⟩ := ha_rf_some wr37
    refine ha_getr hx hb hown hK hP q31 hN h0 wr37 dX0_bothMatter_49 ?_
    refine lv_iload_n hx hb dX0_bothMatter_52 rfl (lv_at hl 4 rfl) ?_
    obtain ⟨g38, hf⟩ := ha_gds hf
    refine ha_iald hx hb hK hP hN hr37 g38 dX0_bothMatter_53 ?_
    refine lv_ishl hx hb dX0_bothMatter_54 ?_
    refine lv_ior hx hb dX0_bothMatter_55 ?_
    refine lv_topi (fun x39 ex39 => ?_)
    have hf := ha_nms hf ex39
    refine lv_istore (lv' := [(5, .int x39), (4, .int x12), (0, .ref (ad p0)), (1, .ref (ad p1)), (2, .int p2), (3, .int p3)]) hx hb dX0_bothMatter_56 hl (by decide) rfl (fun ls hl => ?_)
    refine lv_goto (tgt := 104) hx hb dX0_bothMatter_58 (by decide) ?_
    exact J104 x12 x39 z36 H locs ls hf  hP hD hS (lv_sub hl [2, 3, 4, 5, 1, 0] rfl)

set_option maxHeartbeats 4000000 in
set_option maxRecDepth 100000 in
theorem c_X0_twoDo {l : Launch} {D : va_G} {cs : Nat → ClassId} {ad adK adV : Nat → Nat} {N : List Nat} {Z : State → Prop} (hZ : ha_Zok (ha_A ad N) Z) (hN : ∀ x, xo_kd x < 999 → x ∈ N) (hX : ∀ U, Z U → xo_Z adK adV (ha_A ad N) U) {p0 : Nat} {p1 : Nat} {S : ha_St} {out : Int32 × ha_St} (h0 : xo_kd p0 = 0) (h1 : xo_kd p1 = 1) (hf : f_X0_twoDo p0 p1 S = some out) : ha_Ci l D cs ad xo_kd xo_ln N Z yX0_twoDo wsX0_twoDo ({ frames := 4, cells := 0, slots := 0, locals := 107 } : Room) [.ref (ad p0), .ref (ad p1)] S out.1 out.2 := by
  refine Met.ofW (cc := cX0_twoDo) (maxL := 4) (ret := (some .boolean)) (by decide +kernel) rfl ?_
  intro p e s m args below meth c s₁ B hml hv
  obtain ⟨rfl, hP, hD, hK, hz⟩ := hv
  have hx := B.exec
  have hb := B.bytes
  have hr := B.returns
  have hts := atoms_spec (ws := wsX0_twoDo) B.pre
  have hown : s.vm.findClass RX0 = some m.cls := findClass_of_methodNamed B.named
  have hlocks := B.notSynchronized
  have hS : va_S (ha_A ad N) s.heap s.heap [] := va_S.rf
  have hi0 : ∀ w ∈ wsX00, w ∈ wsX0_twoDo := fun w h => List.mem_cons_of_mem _ (List.mem_append_left _ (List.mem_append_left _ (List.mem_append_left _ (List.mem_append_right _ h))))
  have q80 : ha_Fk s ([.ref (ad p0), .ref (ad p1)] : List Value).toArray RX0 80 0 5 0 := ⟨RX0, TX0, 11, wsX0_twoDo, rfl, by decide, by decide, rfl, rfl, hts, hi0, hts (.fieldLink RX0 80 "HillArms$Breaker" "singles" "I") (by decide +kernel)⟩
  have q27 : ha_Fk s ([.ref (ad p0), .ref (ad p1)] : List Value).toArray RX0 27 0 3 1 := ⟨RX0, TX0, 11, wsX0_twoDo, rfl, by decide, by decide, rfl, rfl, hts, hi0, hts (.fieldLink RX0 27 "HillArms$Breaker" "singleTick" "[I") (by decide +kernel)⟩
  have r40 : ha_Fp s ([.ref (ad p0), .ref (ad p1)] : List Value).toArray RX0 40 0 10 0 .int := ⟨RX0, TX0, 11, wsX0_twoDo, tyX0, rfl, by decide, by decide, rfl, rfl, hts, hi0, hts (.fieldLink RX0 40 "HillArms$Breaker" "found" "I") (by decide +kernel), tyX0_ok, nmX0, rfl, by decide +kernel⟩
  have cw0 := cwV (R := (headSpec wsX0_twoDo ({ frames := 4, cells := 0, slots := 0, locals := 107 } : Room)).room) 2 hts gX0_twoDo_X0_playOnce (rm := ({ frames := 3, cells := 0, slots := 0, locals := 82 } : Room)) (mc := 0) (ms := 0) rfl rfl rfl (by decide +kernel) ⟨Nat.le_of_ble_eq_true rfl, Nat.le_of_ble_eq_true rfl⟩
  have cw1 := cwV (R := (headSpec wsX0_twoDo ({ frames := 4, cells := 0, slots := 0, locals := 107 } : Room)).room) 3 hts gX0_twoDo_X0_bothMatter (rm := ({ frames := 3, cells := 0, slots := 0, locals := 82 } : Room)) (mc := 0) (ms := 0) rfl rfl rfl (by decide +kernel) ⟨Nat.le_of_ble_eq_true rfl, Nat.le_of_ble_eq_true rfl⟩
  have cw2 := cwV (R := (headSpec wsX0_twoDo ({ frames := 4, cells := 0, slots := 0, locals := 107 } : Room)).room) 2 hts gX0_twoDo_X0_breaks (rm := ({ frames := 3, cells := 0, slots := 0, locals := 82 } : Room)) (mc := 0) (ms := 0) rfl rfl rfl (by decide +kernel) ⟨Nat.le_of_ble_eq_true rfl, Nat.le_of_ble_eq_true rfl⟩
  have cw3 := cwV (R := (headSpec wsX0_twoDo ({ frames := 4, cells := 0, slots := 0, locals := 107 } : Room)).room) 2 hts gX0_twoDo_X0_tell (rm := ({ frames := 0, cells := 0, slots := 0, locals := 0 } : Room)) (mc := 0) (ms := 0) rfl rfl rfl (by decide +kernel) ⟨Nat.le_of_ble_eq_true rfl, Nat.le_of_ble_eq_true rfl⟩
  have hl := lv_entry ([.ref (ad p0), .ref (ad p1)]) (n := 4) (Nat.le_of_ble_eq_true rfl)
  rw [lg_entry_eq]
  generalize (lg_sl ([.ref (ad p0), .ref (ad p1)]) ++ List.replicate (4 - (lg_sl ([.ref (ad p0), .ref (ad p1)])).length) Slot.unset).toArray = ls at hl ⊢
  have hl : lv_has ls 4 [(0, .ref (ad p0)), (1, .ref (ad p1))] := hl
  refine (fun (K0 : ∀ (H : Heap) (locs : List Loc), va_P D vwCl (ha_wl cs ad xo_kd xo_ln N S) H → va_S (ha_A ad N) s.heap H locs → W p l e (headSpec wsX0_twoDo ({ frames := 4, cells := 0, slots := 0, locals := 107 } : Room)).room s m ([.ref (ad p0), .ref (ad p1)] : List Value).toArray below meth c H locs 0 0 (MQ below (va_Qi (fun (r : Int32) (_ : Unit) => r = out.1) (fun _ => ha_H D cs ad xo_kd xo_ln N out.2) (ha_A ad N)) ([.ref (ad p0), .ref (ad p1)] : List Value).toArray s 0 0 (ha_A ad N)) (F0 m 0 ls [])) => K0 _ _ hP hS) ?_
  intro H locs hP hS
  have hf := ha_rt hf
  have J83 : ∀  (S : ha_St) (H : Heap) (locs : List Loc) (ls : Array Slot), (f_X0_twoDo_J83 p0 p1  S).bind some = some out → va_P D vwCl (ha_wl cs ad xo_kd xo_ln N S) H → va_D (ha_A ad N) (ha_wl cs ad xo_kd xo_ln N S) → va_S (ha_A ad N) s.heap H locs → lv_has ls 4 [(0, .ref (ad p0)), (1, .ref (ad p1))] → W p l e (headSpec wsX0_twoDo ({ frames := 4, cells := 0, slots := 0, locals := 107 } : Room)).room s m ([.ref (ad p0), .ref (ad p1)] : List Value).toArray below meth c H locs 0 0 (MQ below (va_Qi (fun (r : Int32) (_ : Unit) => r = out.1) (fun _ => ha_H D cs ad xo_kd xo_ln N out.2) (ha_A ad N)) ([.ref (ad p0), .ref (ad p1)] : List Value).toArray s 0 0 (ha_A ad N)) (F0 m 83 ls []) := by
    intro  S H locs ls hf  hP hD hS hl
    unfold f_X0_twoDo_J83 at hf
    refine lv_iconst (v := 0) hx hb dX0_twoDo_83 (by decide) ?_
    have he := Option.some.inj hf
    exact ha_retz hx hb hr hlocks hP hD hS dX0_twoDo_84 (by decide) (ha_e1 he) (ha_e2 he)
  unfold f_X0_twoDo at hf
  refine lv_iconst (v := 0) hx hb dX0_twoDo_0 (by decide) ?_
  refine lv_istore_n (lv' := [(2, .int 0), (0, .ref (ad p0)), (1, .ref (ad p1))]) hx hb dX0_twoDo_1 rfl hl (by decide) rfl (fun ls hl => ?_)
  have key18 : ∀ (K : ((ha_St) ⊕ (Int32 × ha_St)) → Option (Int32 × ha_St)), (∀  (S : ha_St) (H : Heap) (locs : List Loc) (ls : Array Slot), K (.inl S) = some out → va_P D vwCl (ha_wl cs ad xo_kd xo_ln N S) H → va_D (ha_A ad N) (ha_wl cs ad xo_kd xo_ln N S) → va_S (ha_A ad N) s.heap H locs → lv_has ls 4 [(0, .ref (ad p0)), (1, .ref (ad p1))] → W p l e (headSpec wsX0_twoDo ({ frames := 4, cells := 0, slots := 0, locals := 107 } : Room)).room s m ([.ref (ad p0), .ref (ad p1)] : List Value).toArray below meth c H locs 0 0 (MQ below (va_Qi (fun (r : Int32) (_ : Unit) => r = out.1) (fun _ => ha_H D cs ad xo_kd xo_ln N out.2) (ha_A ad N)) ([.ref (ad p0), .ref (ad p1)] : List Value).toArray s 0 0 (ha_A ad N)) (F0 m 83 ls [])) → (∀ r, K (.inr r) = some out → r = out) → ∀ (n : Nat) (v2 : Int32) (S : ha_St) (H : Heap) (locs : List Loc) (ls : Array Slot), (f_X0_twoDo_L2i p0 p1 n (v2, S)).bind K = some out → va_P D vwCl (ha_wl cs ad xo_kd xo_ln N S) H → va_D (ha_A ad N) (ha_wl cs ad xo_kd xo_ln N S) → va_S (ha_A ad N) s.heap H locs → lv_has ls 4 [(0, .ref (ad p0)), (1, .ref (ad p1)), (2, .int v2)] → W p l e (headSpec wsX0_twoDo ({ frames := 4, cells := 0, slots := 0, locals := 107 } : Room)).room s m ([.ref (ad p0), .ref (ad p1)] : List Value).toArray below meth c H locs 0 0 (MQ below (va_Qi (fun (r : Int32) (_ : Unit) => r = out.1) (fun _ => ha_H D cs ad xo_kd xo_ln N out.2) (ha_A ad N)) ([.ref (ad p0), .ref (ad p1)] : List Value).toArray s 0 0 (ha_A ad N)) (F0 m 2 ls []) := by
    intro K hk hke n
    induction n with
    | zero =>
      intro v2 S H locs ls hf
      exact absurd (show (none : Option (Int32 × ha_St)) = some out from hf) (fun h => by cases h)
    | succ n ih =>
      intro v2 S H locs ls hf  hP hD hS hl
      have J77 : ∀ (v2 : Int32) (S : ha_St) (H : Heap) (locs : List Loc) (ls : Array Slot), (f_X0_twoDo_L2_J77 p0 p1 (f_X0_twoDo_L2i p0 p1 n) v2 S).bind K = some out → va_P D vwCl (ha_wl cs ad xo_kd xo_ln N S) H → va_D (ha_A ad N) (ha_wl cs ad xo_kd xo_ln N S) → va_S (ha_A ad N) s.heap H locs → lv_has ls 4 [(0, .ref (ad p0)), (1, .ref (ad p1)), (2, .int v2)] → W p l e (headSpec wsX0_twoDo ({ frames := 4, cells := 0, slots := 0, locals := 107 } : Room)).room s m ([.ref (ad p0), .ref (ad p1)] : List Value).toArray below meth c H locs 0 0 (MQ below (va_Qi (fun (r : Int32) (_ : Unit) => r = out.1) (fun _ => ha_H D cs ad xo_kd xo_ln N out.2) (ha_A ad N)) ([.ref (ad p0), .ref (ad p1)] : List Value).toArray s 0 0 (ha_A ad N)) (F0 m 77 ls []) := by
        intro v2 S H locs ls hf  hP hD hS hl
        unfold f_X0_twoDo_L2_J77 at hf
        obtain ⟨x1, ex1⟩ : ∃ y : Int32, y = (v2 : Int32) + 1 := ⟨_, rfl⟩
        have hf := ha_nms hf ex1
        refine lv_iinc (v := x1) (lv' := [(2, .int x1), (0, .ref (ad p0)), (1, .ref (ad p1))]) hx hb dX0_twoDo_77 hl (k := 2) rfl (by rw [ex1]; rfl) (by decide) rfl (fun ls hl => ?_)
        refine lv_goto (tgt := 2) hx hb dX0_twoDo_80 (by decide) ?_
        exact ih x1 S H locs ls hf  hP hD hS (lv_sub hl [1, 2, 0] rfl)
      have hf : (f_X0_twoDo_L2 p0 p1 (f_X0_twoDo_L2i p0 p1 n) v2 S).bind K = some out := hf
      unfold f_X0_twoDo_L2 at hf
      refine lv_iload_n hx hb dX0_twoDo_2 rfl (lv_at hl 2 rfl) ?_
      refine lv_aload_n hx hb dX0_twoDo_3 rfl (lv_at hl 0 rfl) ?_
      refine ha_geti hx hb hown hK hP q80 hN h0 dX0_twoDo_4 ?_
      refine lv_icmp_ge (tgt := 83) hx hb dX0_twoDo_7 (by decide) (fun c2 => ?_) (fun c2 => ?_)
      · have hf := ha_it hf c2
        exact hk  S H locs ls hf  hP hD hS (lv_sub hl [0, 1] rfl)
      · have hf := ha_if hf c2
        refine lv_aload_n hx hb dX0_twoDo_10 rfl (lv_at hl 0 rfl) ?_
        refine lv_aload_n hx hb dX0_twoDo_11 rfl (lv_at hl 1 rfl) ?_
        refine lv_iload_n hx hb dX0_twoDo_12 rfl (lv_at hl 2 rfl) ?_
        obtain ⟨z3, wz3, hf⟩ := ha_bds hf
        refine ha_callVv (As := [.ref (ad p1), .int v2]) (rest := []) hZ ⟨hx, hb, hml, hown, hts⟩ hK hz hP hD hS (c_X0_playOnce hZ hN hX h0 h1 wz3) cw0 hN h0 (by decide) rfl rfl hl.1 rfl (Nat.le_of_ble_eq_true rfl) dX0_twoDo_13 ⟨Nat.le_of_ble_eq_true rfl, Nat.le_of_ble_eq_true rfl⟩ (fun H locs hP hD hS => ?_)
        refine lv_iload_n hx hb dX0_twoDo_16 rfl (lv_at hl 2 rfl) ?_
        refine lv_iconst (v := 1) hx hb dX0_twoDo_17 (by decide) ?_
        refine lv_iadd hx hb dX0_twoDo_18 ?_
        refine lv_topi (fun x4 ex4 => ?_)
        have hf := ha_nms hf ex4
        refine lv_istore_n (lv' := [(3, .int x4), (0, .ref (ad p0)), (1, .ref (ad p1)), (2, .int v2)]) hx hb dX0_twoDo_19 rfl hl (by decide) rfl (fun ls hl => ?_)
        have key16 : ∀ (K : ((Int32 × ha_St) ⊕ (Int32 × ha_St)) → Option (Int32 × ha_St)), (∀ (v2 : Int32) (S : ha_St) (H : Heap) (locs : List Loc) (ls : Array Slot), K (.inl (v2, S)) = some out → va_P D vwCl (ha_wl cs ad xo_kd xo_ln N S) H → va_D (ha_A ad N) (ha_wl cs ad xo_kd xo_ln N S) → va_S (ha_A ad N) s.heap H locs → lv_has ls 4 [(0, .ref (ad p0)), (1, .ref (ad p1)), (2, .int v2)] → W p l e (headSpec wsX0_twoDo ({ frames := 4, cells := 0, slots := 0, locals := 107 } : Room)).room s m ([.ref (ad p0), .ref (ad p1)] : List Value).toArray below meth c H locs 0 0 (MQ below (va_Qi (fun (r : Int32) (_ : Unit) => r = out.1) (fun _ => ha_H D cs ad xo_kd xo_ln N out.2) (ha_A ad N)) ([.ref (ad p0), .ref (ad p1)] : List Value).toArray s 0 0 (ha_A ad N)) (F0 m 77 ls [])) → (∀ r, K (.inr r) = some out → r = out) → ∀ (n : Nat) (v2 : Int32) (v3 : Int32) (S : ha_St) (H : Heap) (locs : List Loc) (ls : Array Slot), (f_X0_twoDo_L20i p0 p1 n (v2, v3, S)).bind K = some out → va_P D vwCl (ha_wl cs ad xo_kd xo_ln N S) H → va_D (ha_A ad N) (ha_wl cs ad xo_kd xo_ln N S) → va_S (ha_A ad N) s.heap H locs → lv_has ls 4 [(0, .ref (ad p0)), (1, .ref (ad p1)), (2, .int v2), (3, .int v3)] → W p l e (headSpec wsX0_twoDo ({ frames := 4, cells := 0, slots := 0, locals := 107 } : Room)).room s m ([.ref (ad p0), .ref (ad p1)] : List Value).toArray below meth c H locs 0 0 (MQ below (va_Qi (fun (r : Int32) (_ : Unit) => r = out.1) (fun _ => ha_H D cs ad xo_kd xo_ln N out.2) (ha_A ad N)) ([.ref (ad p0), .ref (ad p1)] : List Value).toArray s 0 0 (ha_A ad N)) (F0 m 20 ls []) := by
          intro K hk hke n
          induction n with
          | zero =>
            intro v2 v3 S H locs ls hf
            exact absurd (show (none : Option (Int32 × ha_St)) = some out from hf) (fun h => by cases h)
          | succ n ih =>
            intro v2 v3 S H locs ls hf  hP hD hS hl
            have J71 : ∀ (v2 : Int32) (v3 : Int32) (S : ha_St) (H : Heap) (locs : List Loc) (ls : Array Slot), (f_X0_twoDo_L20_J71 p0 p1 (f_X0_twoDo_L20i p0 p1 n) v2 v3 S).bind K = some out → va_P D vwCl (ha_wl cs ad xo_kd xo_ln N S) H → va_D (ha_A ad N) (ha_wl cs ad xo_kd xo_ln N S) → va_S (ha_A ad N) s.heap H locs → lv_has ls 4 [(0, .ref (ad p0)), (1, .ref (ad p1)), (2, .int v2), (3, .int v3)] → W p l e (headSpec wsX0_twoDo ({ frames := 4, cells := 0, slots := 0, locals := 107 } : Room)).room s m ([.ref (ad p0), .ref (ad p1)] : List Value).toArray below meth c H locs 0 0 (MQ below (va_Qi (fun (r : Int32) (_ : Unit) => r = out.1) (fun _ => ha_H D cs ad xo_kd xo_ln N out.2) (ha_A ad N)) ([.ref (ad p0), .ref (ad p1)] : List Value).toArray s 0 0 (ha_A ad N)) (F0 m 71 ls []) := by
              intro v2 v3 S H locs ls hf  hP hD hS hl
              unfold f_X0_twoDo_L20_J71 at hf
              obtain ⟨x5, ex5⟩ : ∃ y : Int32, y = (v3 : Int32) + 1 := ⟨_, rfl⟩
              have hf := ha_nms hf ex5
              refine lv_iinc (v := x5) (lv' := [(3, .int x5), (0, .ref (ad p0)), (1, .ref (ad p1)), (2, .int v2)]) hx hb dX0_twoDo_71 hl (k := 3) rfl (by rw [ex5]; rfl) (by decide) rfl (fun ls hl => ?_)
              refine lv_goto (tgt := 20) hx hb dX0_twoDo_74 (by decide) ?_
              exact ih v2 x5 S H locs ls hf  hP hD hS (lv_sub hl [1, 2, 3, 0] rfl)
            have hf : (f_X0_twoDo_L20 p0 p1 (f_X0_twoDo_L20i p0 p1 n) v2 v3 S).bind K = some out := hf
            unfold f_X0_twoDo_L20 at hf
            refine lv_iload_n hx hb dX0_twoDo_20 rfl (lv_at hl 3 rfl) ?_
            refine lv_aload_n hx hb dX0_twoDo_21 rfl (lv_at hl 0 rfl) ?_
            refine ha_geti hx hb hown hK hP q80 hN h0 dX0_twoDo_22 ?_
            refine lv_icmp_ge (tgt := 77) hx hb dX0_twoDo_25 (by decide) (fun c6 => ?_) (fun c6 => ?_)
            · have hf := ha_it hf c6
              exact hk v2 S H locs ls hf  hP hD hS (lv_sub hl [0, 1, 2] rfl)
            · have hf := ha_if hf c6
              refine lv_aload_n hx hb dX0_twoDo_28 rfl (lv_at hl 0 rfl) ?_
              refine lv_aload_n hx hb dX0_twoDo_29 rfl (lv_at hl 1 rfl) ?_
              refine lv_iload_n hx hb dX0_twoDo_30 rfl (lv_at hl 2 rfl) ?_
              refine lv_iload_n hx hb dX0_twoDo_31 rfl (lv_at hl 3 rfl) ?_
              obtain ⟨z7, wz7, hf⟩ := ha_bds hf
              refine ha_callVi (As := [.ref (ad p1), .int v2, .int v3]) (rest := []) hZ ⟨hx, hb, hml, hown, hts⟩ hK hz hP hD hS (c_X0_bothMatter hZ hN hX h0 h1 wz7) cw1 hN h0 (by decide) rfl rfl hl.1 rfl (Nat.le_of_ble_eq_true rfl) dX0_twoDo_32 ⟨Nat.le_of_ble_eq_true rfl, Nat.le_of_ble_eq_true rfl⟩ (fun H locs hP hD hS => ?_)
              refine lv_if_eq (tgt := 71) hx hb dX0_twoDo_35 (by decide) (fun c8 => ?_) (fun c8 => ?_)
              · have hf := ha_it hf c8
                exact J71 v2 v3 z7.2 H locs ls hf  hP hD hS (lv_sub hl [0, 1, 2, 3] rfl)
              · have hf := ha_if hf c8
                refine lv_aload_n hx hb dX0_twoDo_38 rfl (lv_at hl 0 rfl) ?_
                refine lv_aload_n hx hb dX0_twoDo_39 rfl (lv_at hl 1 rfl) ?_
                refine lv_aload_n hx hb dX0_twoDo_40 rfl (lv_at hl 0 rfl) ?_
                obtain ⟨r9, wr9, hf⟩ := ha_bds hf
                obtain ⟨wr9, hr9⟩ := ha_rf_some wr9
                refine ha_getr hx hb hown hK hP q27 hN h0 wr9 dX0_twoDo_41 ?_
                refine lv_iload_n hx hb dX0_twoDo_44 rfl (lv_at hl 3 rfl) ?_
                obtain ⟨g10, hf⟩ := ha_gds hf
                refine ha_iald hx hb hK hP hN hr9 g10 dX0_twoDo_45 ?_
                obtain ⟨z11, wz11, hf⟩ := ha_bds hf
                refine ha_callVi (As := [.ref (ad p1), .int ((ha_gA z7.2 r9 (v3 : Int32).toNatClampNeg))]) (rest := []) hZ ⟨hx, hb, hml, hown, hts⟩ hK hz hP hD hS (c_X0_breaks hZ hN hX h0 h1 wz11) cw2 hN h0 (by decide) rfl rfl hl.1 rfl (Nat.le_of_ble_eq_true rfl) dX0_twoDo_46 ⟨Nat.le_of_ble_eq_true rfl, Nat.le_of_ble_eq_true rfl⟩ (fun H locs hP hD hS => ?_)
                refine lv_if_eq (tgt := 71) hx hb dX0_twoDo_49 (by decide) (fun c12 => ?_) (fun c12 => ?_)
                · have hf := ha_it hf c12
                  exact J71 v2 v3 z11.2 H locs ls hf  hP hD hS (lv_sub hl [0, 1, 2, 3] rfl)
                · have hf := ha_if hf c12
                  refine lv_aload_n hx hb dX0_twoDo_52 rfl (lv_at hl 0 rfl) ?_
                  refine lv_iconst (v := 0) hx hb dX0_twoDo_53 (by decide) ?_
                  refine lv_iload_n hx hb dX0_twoDo_54 rfl (lv_at hl 2 rfl) ?_
                  obtain ⟨z13, wz13, hf⟩ := ha_bds hf
                  refine ha_callVv (As := [.int 0, .int v2]) (rest := []) hZ ⟨hx, hb, hml, hown, hts⟩ hK hz hP hD hS (c_X0_tell hZ hN hX h0 wz13) cw3 hN h0 (by decide) rfl rfl hl.1 rfl (Nat.le_of_ble_eq_true rfl) dX0_twoDo_55 ⟨Nat.le_of_ble_eq_true rfl, Nat.le_of_ble_eq_true rfl⟩ (fun H locs hP hD hS => ?_)
                  refine lv_aload_n hx hb dX0_twoDo_58 rfl (lv_at hl 0 rfl) ?_
                  refine lv_iconst (v := 1) hx hb dX0_twoDo_59 (by decide) ?_
                  refine lv_iload_n hx hb dX0_twoDo_60 rfl (lv_at hl 3 rfl) ?_
                  obtain ⟨z14, wz14, hf⟩ := ha_bds hf
                  refine ha_callVv (As := [.int 1, .int v3]) (rest := []) hZ ⟨hx, hb, hml, hown, hts⟩ hK hz hP hD hS (c_X0_tell hZ hN hX h0 wz14) cw3 hN h0 (by decide) rfl rfl hl.1 rfl (Nat.le_of_ble_eq_true rfl) dX0_twoDo_61 ⟨Nat.le_of_ble_eq_true rfl, Nat.le_of_ble_eq_true rfl⟩ (fun H locs hP hD hS => ?_)
                  refine lv_aload_n hx hb dX0_twoDo_64 rfl (lv_at hl 0 rfl) ?_
                  refine lv_iconst (v := 2) hx hb dX0_twoDo_65 (by decide) ?_
                  refine ha_puti hx hb hown hK hP hD hS r40 hN h0 dX0_twoDo_66 (fun S15 H locs eS15 hP hD hS => ?_)
                  have hf := ha_nms hf eS15
                  refine lv_iconst (v := 1) hx hb dX0_twoDo_69 (by decide) ?_
                  have he := hke _ hf
                  exact ha_retz hx hb hr hlocks hP hD hS dX0_twoDo_70 (by decide) (ha_e1 he) (ha_e2 he)
        refine key16 _ (fun v2 S H locs ls hf  hP hD hS hl => ?_) (fun r h => hke r h) ha_fu v2 x4 z3 H locs ls (ha_as hf)  hP hD hS (lv_sub hl [1, 2, 3, 0] rfl)
        have hf : (f_X0_twoDo_L2_J77 p0 p1 (f_X0_twoDo_L2i p0 p1 n) v2 S).bind K = some out := hf
        exact J77 v2 S H locs ls hf  hP hD hS (lv_sub hl [0, 1, 2] rfl)
  refine key18 _ (fun  S H locs ls hf  hP hD hS hl => ?_) (fun r h => Option.some.inj h) ha_fu 0 S H locs ls (ha_as hf)  hP hD hS (lv_sub hl [1, 2, 0] rfl)
  have hf : (f_X0_twoDo_J83 p0 p1  S).bind some = some out := hf
  exact J83  S H locs ls hf  hP hD hS (lv_sub hl [0, 1] rfl)

set_option maxHeartbeats 4000000 in
set_option maxRecDepth 100000 in
theorem c_X0_search {l : Launch} {D : va_G} {cs : Nat → ClassId} {ad adK adV : Nat → Nat} {N : List Nat} {Z : State → Prop} (hZ : ha_Zok (ha_A ad N) Z) (hN : ∀ x, xo_kd x < 999 → x ∈ N) (hX : ∀ U, Z U → xo_Z adK adV (ha_A ad N) U) {p0 : Nat} {p1 : Nat} {p2 : Int32} {p3 : Int32} {S : ha_St} {out : Int32 × ha_St} (h0 : xo_kd p0 = 0) (h1 : xo_kd p1 = 1) (hf : f_X0_search p0 p1 p2 p3 S = some out) : ha_Ci l D cs ad xo_kd xo_ln N Z yX0_search wsX0_search ({ frames := 5, cells := 0, slots := 0, locals := 130 } : Room) [.ref (ad p0), .ref (ad p1), .int p2, .int p3] S out.1 out.2 := by
  refine Met.ofW (cc := cX0_search) (maxL := 4) (ret := (some .int)) (by decide +kernel) rfl ?_
  intro p e s m args below meth c s₁ B hml hv
  obtain ⟨rfl, hP, hD, hK, hz⟩ := hv
  have hx := B.exec
  have hb := B.bytes
  have hr := B.returns
  have hts := atoms_spec (ws := wsX0_search) B.pre
  have hown : s.vm.findClass RX0 = some m.cls := findClass_of_methodNamed B.named
  have hlocks := B.notSynchronized
  have hS : va_S (ha_A ad N) s.heap s.heap [] := va_S.rf
  have hi0 : ∀ w ∈ wsX00, w ∈ wsX0_search := fun w h => List.mem_cons_of_mem _ (List.mem_append_left _ (List.mem_append_left _ (List.mem_append_left _ (List.mem_append_right _ h))))
  have hi1 : ∀ w ∈ wsX10, w ∈ wsX0_search := fun w h => List.mem_cons_of_mem _ (List.mem_append_left _ (List.mem_append_left _ (List.mem_append_right _ h)))
  have q50 : ha_Fk s ([.ref (ad p0), .ref (ad p1), .int p2, .int p3] : List Value).toArray RX0 50 0 6 0 := ⟨RX0, TX0, 11, wsX0_search, rfl, by decide, by decide, rfl, rfl, hts, hi0, hts (.fieldLink RX0 50 "HillArms$Breaker" "ticks" "I") (by decide +kernel)⟩
  have q56 : ha_Fk s ([.ref (ad p0), .ref (ad p1), .int p2, .int p3] : List Value).toArray RX0 56 1 5 0 := ⟨RX1, TX1, 8, wsX0_search, rfl, by decide, by decide, rfl, rfl, hts, hi1, hts (.fieldLink RX0 56 "HillArms$Crew" "towers" "I") (by decide +kernel)⟩
  have q11 : ha_Fk s ([.ref (ad p0), .ref (ad p1), .int p2, .int p3] : List Value).toArray RX0 11 0 0 1 := ⟨RX0, TX0, 11, wsX0_search, rfl, by decide, by decide, rfl, rfl, hts, hi0, hts (.fieldLink RX0 11 "HillArms$Breaker" "calm" "[LHillArms$Line;") (by decide +kernel)⟩
  have r50 : ha_Fp s ([.ref (ad p0), .ref (ad p1), .int p2, .int p3] : List Value).toArray RX0 50 0 6 0 .int := ⟨RX0, TX0, 11, wsX0_search, tyX0, rfl, by decide, by decide, rfl, rfl, hts, hi0, hts (.fieldLink RX0 50 "HillArms$Breaker" "ticks" "I") (by decide +kernel), tyX0_ok, nmX0, rfl, by decide +kernel⟩
  have r53 : ha_Fp s ([.ref (ad p0), .ref (ad p1), .int p2, .int p3] : List Value).toArray RX0 53 0 7 0 .int := ⟨RX0, TX0, 11, wsX0_search, tyX0, rfl, by decide, by decide, rfl, rfl, hts, hi0, hts (.fieldLink RX0 53 "HillArms$Breaker" "wide" "I") (by decide +kernel), tyX0_ok, nmX0, rfl, by decide +kernel⟩
  have r40 : ha_Fp s ([.ref (ad p0), .ref (ad p1), .int p2, .int p3] : List Value).toArray RX0 40 0 10 0 .int := ⟨RX0, TX0, 11, wsX0_search, tyX0, rfl, by decide, by decide, rfl, rfl, hts, hi0, hts (.fieldLink RX0 40 "HillArms$Breaker" "found" "I") (by decide +kernel), tyX0_ok, nmX0, rfl, by decide +kernel⟩
  have cw0 := hts (.methodLink RX0 44 Lib.Math.min.name) (by decide +kernel)
  have cw1 := hts (.static Lib.Math.min.name) (by decide +kernel)
  have cw2 := hts (.initialized "java/lang/Math") (by decide +kernel)
  have cw3 := hts (.code Lib.Math.min.name Lib.Math.min.code 2 (some .int)) (by decide +kernel)
  have cw4 := cwV (R := (headSpec wsX0_search ({ frames := 5, cells := 0, slots := 0, locals := 130 } : Room)).room) 1 hts gX0_search_X0_listSingles (rm := ({ frames := 0, cells := 0, slots := 0, locals := 0 } : Room)) (mc := 0) (ms := 0) rfl rfl rfl (by decide +kernel) ⟨Nat.le_of_ble_eq_true rfl, Nat.le_of_ble_eq_true rfl⟩
  have cw5 := cwV (R := (headSpec wsX0_search ({ frames := 5, cells := 0, slots := 0, locals := 130 } : Room)).room) 1 hts gX0_search_X0_playCalm (rm := ({ frames := 3, cells := 0, slots := 0, locals := 82 } : Room)) (mc := 0) (ms := 0) rfl rfl rfl (by decide +kernel) ⟨Nat.le_of_ble_eq_true rfl, Nat.le_of_ble_eq_true rfl⟩
  have cw6 := cwV (R := (headSpec wsX0_search ({ frames := 5, cells := 0, slots := 0, locals := 130 } : Room)).room) 1 hts gX0_search_X1_outcome (rm := ({ frames := 0, cells := 0, slots := 0, locals := 0 } : Room)) (mc := 0) (ms := 0) rfl rfl rfl (by decide +kernel) ⟨Nat.le_of_ble_eq_true rfl, Nat.le_of_ble_eq_true rfl⟩
  have cw7 := cwV (R := (headSpec wsX0_search ({ frames := 5, cells := 0, slots := 0, locals := 130 } : Room)).room) 1 hts gX0_search_X0_oneDoes (rm := ({ frames := 4, cells := 0, slots := 0, locals := 105 } : Room)) (mc := 0) (ms := 0) rfl rfl rfl (by decide +kernel) ⟨Nat.le_of_ble_eq_true rfl, Nat.le_of_ble_eq_true rfl⟩
  have cw8 := cwV (R := (headSpec wsX0_search ({ frames := 5, cells := 0, slots := 0, locals := 130 } : Room)).room) 1 hts gX0_search_X0_twoDo (rm := ({ frames := 4, cells := 0, slots := 0, locals := 107 } : Room)) (mc := 0) (ms := 0) rfl rfl rfl (by decide +kernel) ⟨Nat.le_of_ble_eq_true rfl, Nat.le_of_ble_eq_true rfl⟩
  have hl := lv_entry ([.ref (ad p0), .ref (ad p1), .int p2, .int p3]) (n := 4) (Nat.le_of_ble_eq_true rfl)
  rw [lg_entry_eq]
  generalize (lg_sl ([.ref (ad p0), .ref (ad p1), .int p2, .int p3]) ++ List.replicate (4 - (lg_sl ([.ref (ad p0), .ref (ad p1), .int p2, .int p3])).length) Slot.unset).toArray = ls at hl ⊢
  have hl : lv_has ls 4 [(0, .ref (ad p0)), (1, .ref (ad p1)), (2, .int p2), (3, .int p3)] := hl
  refine (fun (K0 : ∀ (H : Heap) (locs : List Loc), va_P D vwCl (ha_wl cs ad xo_kd xo_ln N S) H → va_S (ha_A ad N) s.heap H locs → W p l e (headSpec wsX0_search ({ frames := 5, cells := 0, slots := 0, locals := 130 } : Room)).room s m ([.ref (ad p0), .ref (ad p1), .int p2, .int p3] : List Value).toArray below meth c H locs 0 0 (MQ below (va_Qi (fun (r : Int32) (_ : Unit) => r = out.1) (fun _ => ha_H D cs ad xo_kd xo_ln N out.2) (ha_A ad N)) ([.ref (ad p0), .ref (ad p1), .int p2, .int p3] : List Value).toArray s 0 0 (ha_A ad N)) (F0 m 0 ls [])) => K0 _ _ hP hS) ?_
  intro H locs hP hS
  have hf := ha_rt hf
  have J88 : ∀ (k0 : Int32) (S : ha_St) (H : Heap) (locs : List Loc) (ls : Array Slot), (f_X0_search_J88 p0 p1 p2 p3 k0 S).bind some = some out → va_P D vwCl (ha_wl cs ad xo_kd xo_ln N S) H → va_D (ha_A ad N) (ha_wl cs ad xo_kd xo_ln N S) → va_S (ha_A ad N) s.heap H locs → lv_has ls 4 [(0, .ref (ad p0)), (1, .ref (ad p1)), (2, .int p2), (3, .int p3)] → W p l e (headSpec wsX0_search ({ frames := 5, cells := 0, slots := 0, locals := 130 } : Room)).room s m ([.ref (ad p0), .ref (ad p1), .int p2, .int p3] : List Value).toArray below meth c H locs 0 0 (MQ below (va_Qi (fun (r : Int32) (_ : Unit) => r = out.1) (fun _ => ha_H D cs ad xo_kd xo_ln N out.2) (ha_A ad N)) ([.ref (ad p0), .ref (ad p1), .int p2, .int p3] : List Value).toArray s 0 0 (ha_A ad N)) (F0 m 88 ls [.int k0]) := by
    intro k0 S H locs ls hf  hP hD hS hl
    unfold f_X0_search_J88 at hf
    have he := Option.some.inj hf
    exact ha_reti hx hb hr hlocks hP hD hS dX0_search_88 (ha_e1 he) (ha_e2 he)
  unfold f_X0_search at hf
  refine lv_aload_n hx hb dX0_search_0 rfl (lv_at hl 0 rfl) ?_
  refine lv_iload_n hx hb dX0_search_1 rfl (lv_at hl 2 rfl) ?_
  refine lv_bipush (v := 60) hx hb dX0_search_2 (by decide) ?_
  refine va_mmin hx hb (hml.trans hl.1.symm) hown cw0 cw1 cw2 cw3 (by decide) (Nat.le_of_ble_eq_true rfl) (Nat.zero_le _) (Nat.zero_le _) dX0_search_4 ?_
  refine ha_puti hx hb hown hK hP hD hS r50 hN h0 dX0_search_7 (fun S1 H locs eS1 hP hD hS => ?_)
  have hf := ha_nms hf eS1
  refine lv_aload_n hx hb dX0_search_10 rfl (lv_at hl 0 rfl) ?_
  refine lv_iload_n hx hb dX0_search_11 rfl (lv_at hl 3 rfl) ?_
  refine lv_bipush (v := 10) hx hb dX0_search_12 (by decide) ?_
  refine va_mmin hx hb (hml.trans hl.1.symm) hown cw0 cw1 cw2 cw3 (by decide) (Nat.le_of_ble_eq_true rfl) (Nat.zero_le _) (Nat.zero_le _) dX0_search_14 ?_
  refine lv_aload_n hx hb dX0_search_17 rfl (lv_at hl 0 rfl) ?_
  refine ha_geti hx hb hown hK hP q50 hN h0 dX0_search_18 ?_
  refine va_mmin hx hb (hml.trans hl.1.symm) hown cw0 cw1 cw2 cw3 (by decide) (Nat.le_of_ble_eq_true rfl) (Nat.zero_le _) (Nat.zero_le _) dX0_search_21 ?_
  refine ha_puti hx hb hown hK hP hD hS r53 hN h0 dX0_search_24 (fun S2 H locs eS2 hP hD hS => ?_)
  have hf := ha_nms hf eS2
  refine lv_aload_n hx hb dX0_search_27 rfl (lv_at hl 0 rfl) ?_
  refine lv_aload_n hx hb dX0_search_28 rfl (lv_at hl 1 rfl) ?_
  refine ha_geti hx hb hown hK hP q56 hN h1 dX0_search_29 ?_
  refine lv_iconst (v := 1) hx hb dX0_search_32 (by decide) ?_
  refine lv_isub hx hb dX0_search_33 ?_
  obtain ⟨z3, wz3, hf⟩ := ha_bds hf
  refine ha_callVv (As := [.int ((((ha_gI S2 p1 5) : Int32) - 1))]) (rest := []) hZ ⟨hx, hb, hml, hown, hts⟩ hK hz hP hD hS (c_X0_listSingles hZ hN hX h0 wz3) cw4 hN h0 (by decide) rfl rfl hl.1 rfl (Nat.le_of_ble_eq_true rfl) dX0_search_34 ⟨Nat.le_of_ble_eq_true rfl, Nat.le_of_ble_eq_true rfl⟩ (fun H locs hP hD hS => ?_)
  refine lv_aload_n hx hb dX0_search_37 rfl (lv_at hl 0 rfl) ?_
  refine lv_aload_n hx hb dX0_search_38 rfl (lv_at hl 1 rfl) ?_
  obtain ⟨z4, wz4, hf⟩ := ha_bds hf
  refine ha_callVv (As := [.ref (ad p1)]) (rest := []) hZ ⟨hx, hb, hml, hown, hts⟩ hK hz hP hD hS (c_X0_playCalm hZ hN hX h0 h1 wz4) cw5 hN h0 (by decide) rfl rfl hl.1 rfl (Nat.le_of_ble_eq_true rfl) dX0_search_39 ⟨Nat.le_of_ble_eq_true rfl, Nat.le_of_ble_eq_true rfl⟩ (fun H locs hP hD hS => ?_)
  refine lv_aload_n hx hb dX0_search_42 rfl (lv_at hl 1 rfl) ?_
  refine lv_aload_n hx hb dX0_search_43 rfl (lv_at hl 0 rfl) ?_
  obtain ⟨r5, wr5, hf⟩ := ha_bds hf
  obtain ⟨wr5, hr5⟩ := ha_rf_some wr5
  refine ha_getr hx hb hown hK hP q11 hN h0 wr5 dX0_search_44 ?_
  refine lv_aload_n hx hb dX0_search_47 rfl (lv_at hl 0 rfl) ?_
  refine ha_geti hx hb hown hK hP q50 hN h0 dX0_search_48 ?_
  obtain ⟨g6, hf⟩ := ha_gds hf
  obtain ⟨r7, wr7, hf⟩ := ha_bds hf
  obtain ⟨wr7, hr7⟩ := ha_rb_some wr7
  refine ha_aald hx hb hK hP hN hr5 (by decide) g6 wr7 dX0_search_51 ?_
  obtain ⟨z8, wz8, hf⟩ := ha_bds hf
  refine ha_callVi (As := [.ref (ad r7)]) (rest := []) hZ ⟨hx, hb, hml, hown, hts⟩ hK hz hP hD hS (c_X1_outcome hZ hN hX h1 hr7 wz8) cw6 hN h1 (by decide) rfl rfl hl.1 rfl (Nat.le_of_ble_eq_true rfl) dX0_search_52 ⟨Nat.le_of_ble_eq_true rfl, Nat.le_of_ble_eq_true rfl⟩ (fun H locs hP hD hS => ?_)
  refine lv_if_eq (tgt := 65) hx hb dX0_search_55 (by decide) (fun c9 => ?_) (fun c9 => ?_)
  · have hf := ha_it hf c9
    refine lv_aload_n hx hb dX0_search_65 rfl (lv_at hl 0 rfl) ?_
    refine lv_aload_n hx hb dX0_search_66 rfl (lv_at hl 1 rfl) ?_
    obtain ⟨z10, wz10, hf⟩ := ha_bds hf
    refine ha_callVi (As := [.ref (ad p1)]) (rest := []) hZ ⟨hx, hb, hml, hown, hts⟩ hK hz hP hD hS (c_X0_oneDoes hZ hN hX h0 h1 wz10) cw7 hN h0 (by decide) rfl rfl hl.1 rfl (Nat.le_of_ble_eq_true rfl) dX0_search_67 ⟨Nat.le_of_ble_eq_true rfl, Nat.le_of_ble_eq_true rfl⟩ (fun H locs hP hD hS => ?_)
    refine lv_if_eq (tgt := 75) hx hb dX0_search_70 (by decide) (fun c11 => ?_) (fun c11 => ?_)
    · have hf := ha_it hf c11
      refine lv_aload_n hx hb dX0_search_75 rfl (lv_at hl 0 rfl) ?_
      refine lv_aload_n hx hb dX0_search_76 rfl (lv_at hl 1 rfl) ?_
      obtain ⟨z12, wz12, hf⟩ := ha_bds hf
      refine ha_callVi (As := [.ref (ad p1)]) (rest := []) hZ ⟨hx, hb, hml, hown, hts⟩ hK hz hP hD hS (c_X0_twoDo hZ hN hX h0 h1 wz12) cw8 hN h0 (by decide) rfl rfl hl.1 rfl (Nat.le_of_ble_eq_true rfl) dX0_search_77 ⟨Nat.le_of_ble_eq_true rfl, Nat.le_of_ble_eq_true rfl⟩ (fun H locs hP hD hS => ?_)
      refine lv_if_eq (tgt := 87) hx hb dX0_search_80 (by decide) (fun c13 => ?_) (fun c13 => ?_)
      · have hf := ha_it hf c13
        refine lv_iconst (v := (-1)) hx hb dX0_search_87 (by decide) ?_
        exact J88 (-1) z12.2 H locs ls hf  hP hD hS (lv_sub hl [0, 1, 2, 3] rfl)
      · have hf := ha_if hf c13
        refine lv_iconst (v := 2) hx hb dX0_search_83 (by decide) ?_
        refine lv_goto (tgt := 88) hx hb dX0_search_84 (by decide) ?_
        exact J88 2 z12.2 H locs ls hf  hP hD hS (lv_sub hl [0, 1, 2, 3] rfl)
    · have hf := ha_if hf c11
      refine lv_iconst (v := 1) hx hb dX0_search_73 (by decide) ?_
      have he := Option.some.inj hf
      exact ha_reti hx hb hr hlocks hP hD hS dX0_search_74 (ha_e1 he) (ha_e2 he)
  · have hf := ha_if hf c9
    refine lv_aload_n hx hb dX0_search_58 rfl (lv_at hl 0 rfl) ?_
    refine lv_iconst (v := 0) hx hb dX0_search_59 (by decide) ?_
    refine ha_puti hx hb hown hK hP hD hS r40 hN h0 dX0_search_60 (fun S14 H locs eS14 hP hD hS => ?_)
    have hf := ha_nms hf eS14
    refine lv_iconst (v := 0) hx hb dX0_search_63 (by decide) ?_
    have he := Option.some.inj hf
    exact ha_reti hx hb hr hlocks hP hD hS dX0_search_64 (ha_e1 he) (ha_e2 he)

set_option maxHeartbeats 4000000 in
set_option maxRecDepth 100000 in
theorem c_X3_isAt {l : Launch} {D : va_G} {cs : Nat → ClassId} {ad adK adV : Nat → Nat} {N : List Nat} {Z : State → Prop} (hZ : ha_Zok (ha_A ad N) Z) (hN : ∀ x, xo_kd x < 999 → x ∈ N) (hX : ∀ U, Z U → xo_Z adK adV (ha_A ad N) U) {p0 : Nat} {p1 : Int32} {p2 : Nat} {p3 : Int32} {p4 : Int32} {S : ha_St} {out : Int32 × ha_St} (h0 : xo_kd p0 = 3) (h2 : xo_kd p2 = 100) (hf : f_X3_isAt p0 p1 p2 p3 p4 S = some out) : ha_Ci l D cs ad xo_kd xo_ln N Z yX3_isAt wsX3_isAt ({ frames := 0, cells := 0, slots := 0, locals := 0 } : Room) [.ref (ad p0), .int p1, .ref (ad p2), .int p3, .int p4] S out.1 out.2 := by
  refine Met.ofW (cc := cX3_isAt) (maxL := 6) (ret := (some .boolean)) (by decide +kernel) rfl ?_
  intro p e s m args below meth c s₁ B hml hv
  obtain ⟨rfl, hP, hD, hK, hz⟩ := hv
  have hx := B.exec
  have hb := B.bytes
  have hr := B.returns
  have hts := atoms_spec (ws := wsX3_isAt) B.pre
  have hown : s.vm.findClass RX3 = some m.cls := findClass_of_methodNamed B.named
  have hlocks := B.notSynchronized
  have hS : va_S (ha_A ad N) s.heap s.heap [] := va_S.rf
  have hi3 : ∀ w ∈ wsX30, w ∈ wsX3_isAt := fun w h => List.mem_cons_of_mem _ (List.mem_append_right _ h)
  have q15 : ha_Fk s ([.ref (ad p0), .int p1, .ref (ad p2), .int p3, .int p4] : List Value).toArray RX3 15 3 1 1 := ⟨RX3, TX3, 4, wsX3_isAt, rfl, by decide, by decide, rfl, rfl, hts, hi3, hts (.fieldLink RX3 15 "HillArms$Entries" "length" "[I") (by decide +kernel)⟩
  have q9 : ha_Fk s ([.ref (ad p0), .int p1, .ref (ad p2), .int p3, .int p4] : List Value).toArray RX3 9 3 0 1 := ⟨RX3, TX3, 4, wsX3_isAt, rfl, by decide, by decide, rfl, rfl, hts, hi3, hts (.fieldLink RX3 9 "HillArms$Entries" "bytes" "[I") (by decide +kernel)⟩
  have hl := lv_entry ([.ref (ad p0), .int p1, .ref (ad p2), .int p3, .int p4]) (n := 6) (Nat.le_of_ble_eq_true rfl)
  rw [lg_entry_eq]
  generalize (lg_sl ([.ref (ad p0), .int p1, .ref (ad p2), .int p3, .int p4]) ++ List.replicate (6 - (lg_sl ([.ref (ad p0), .int p1, .ref (ad p2), .int p3, .int p4])).length) Slot.unset).toArray = ls at hl ⊢
  have hl : lv_has ls 6 [(0, .ref (ad p0)), (1, .int p1), (2, .ref (ad p2)), (3, .int p3), (4, .int p4)] := hl
  refine (fun (K0 : ∀ (H : Heap) (locs : List Loc), va_P D vwCl (ha_wl cs ad xo_kd xo_ln N S) H → va_S (ha_A ad N) s.heap H locs → W p l e (headSpec wsX3_isAt ({ frames := 0, cells := 0, slots := 0, locals := 0 } : Room)).room s m ([.ref (ad p0), .int p1, .ref (ad p2), .int p3, .int p4] : List Value).toArray below meth c H locs 0 0 (MQ below (va_Qi (fun (r : Int32) (_ : Unit) => r = out.1) (fun _ => ha_H D cs ad xo_kd xo_ln N out.2) (ha_A ad N)) ([.ref (ad p0), .int p1, .ref (ad p2), .int p3, .int p4] : List Value).toArray s 0 0 (ha_A ad N)) (F0 m 0 ls [])) => K0 _ _ hP hS) ?_
  intro H locs hP hS
  have hf := ha_rt hf
  have J58 : ∀  (S : ha_St) (H : Heap) (locs : List Loc) (ls : Array Slot), (f_X3_isAt_J58 p0 p1 p2 p3 p4  S).bind some = some out → va_P D vwCl (ha_wl cs ad xo_kd xo_ln N S) H → va_D (ha_A ad N) (ha_wl cs ad xo_kd xo_ln N S) → va_S (ha_A ad N) s.heap H locs → lv_has ls 6 [(0, .ref (ad p0)), (1, .int p1), (2, .ref (ad p2)), (3, .int p3), (4, .int p4)] → W p l e (headSpec wsX3_isAt ({ frames := 0, cells := 0, slots := 0, locals := 0 } : Room)).room s m ([.ref (ad p0), .int p1, .ref (ad p2), .int p3, .int p4] : List Value).toArray below meth c H locs 0 0 (MQ below (va_Qi (fun (r : Int32) (_ : Unit) => r = out.1) (fun _ => ha_H D cs ad xo_kd xo_ln N out.2) (ha_A ad N)) ([.ref (ad p0), .int p1, .ref (ad p2), .int p3, .int p4] : List Value).toArray s 0 0 (ha_A ad N)) (F0 m 58 ls []) := by
    intro  S H locs ls hf  hP hD hS hl
    unfold f_X3_isAt_J58 at hf
    refine lv_iconst (v := 1) hx hb dX3_isAt_58 (by decide) ?_
    have he := Option.some.inj hf
    exact ha_retz hx hb hr hlocks hP hD hS dX3_isAt_59 (by decide) (ha_e1 he) (ha_e2 he)
  unfold f_X3_isAt at hf
  refine lv_iload_n hx hb dX3_isAt_0 rfl (lv_at hl 3 rfl) ?_
  refine lv_aload_n hx hb dX3_isAt_1 rfl (lv_at hl 0 rfl) ?_
  obtain ⟨r1, wr1, hf⟩ := ha_bds hf
  obtain ⟨wr1, hr1⟩ := ha_rf_some wr1
  refine ha_getr hx hb hown hK hP q15 hN h0 wr1 dX3_isAt_2 ?_
  refine lv_iload_n hx hb dX3_isAt_5 rfl (lv_at hl 1 rfl) ?_
  obtain ⟨g2, hf⟩ := ha_gds hf
  refine ha_iald hx hb hK hP hN hr1 g2 dX3_isAt_6 ?_
  refine lv_iadd hx hb dX3_isAt_7 ?_
  refine lv_iload hx hb dX3_isAt_8 (lv_at hl 4 rfl) ?_
  refine lv_icmp_le (tgt := 15) hx hb dX3_isAt_10 (by decide) (fun c3 => ?_) (fun c3 => ?_)
  · have hf := ha_it hf c3
    refine lv_iconst (v := 0) hx hb dX3_isAt_15 (by decide) ?_
    refine lv_istore (lv' := [(5, .int 0), (0, .ref (ad p0)), (1, .int p1), (2, .ref (ad p2)), (3, .int p3), (4, .int p4)]) hx hb dX3_isAt_16 hl (by decide) rfl (fun ls hl => ?_)
    have key12 : ∀ (K : ((ha_St) ⊕ (Int32 × ha_St)) → Option (Int32 × ha_St)), (∀  (S : ha_St) (H : Heap) (locs : List Loc) (ls : Array Slot), K (.inl S) = some out → va_P D vwCl (ha_wl cs ad xo_kd xo_ln N S) H → va_D (ha_A ad N) (ha_wl cs ad xo_kd xo_ln N S) → va_S (ha_A ad N) s.heap H locs → lv_has ls 6 [(0, .ref (ad p0)), (1, .int p1), (2, .ref (ad p2)), (3, .int p3), (4, .int p4)] → W p l e (headSpec wsX3_isAt ({ frames := 0, cells := 0, slots := 0, locals := 0 } : Room)).room s m ([.ref (ad p0), .int p1, .ref (ad p2), .int p3, .int p4] : List Value).toArray below meth c H locs 0 0 (MQ below (va_Qi (fun (r : Int32) (_ : Unit) => r = out.1) (fun _ => ha_H D cs ad xo_kd xo_ln N out.2) (ha_A ad N)) ([.ref (ad p0), .int p1, .ref (ad p2), .int p3, .int p4] : List Value).toArray s 0 0 (ha_A ad N)) (F0 m 58 ls [])) → (∀ r, K (.inr r) = some out → r = out) → ∀ (n : Nat) (v5 : Int32) (S : ha_St) (H : Heap) (locs : List Loc) (ls : Array Slot), (f_X3_isAt_L18i p0 p1 p2 p3 p4 n (v5, S)).bind K = some out → va_P D vwCl (ha_wl cs ad xo_kd xo_ln N S) H → va_D (ha_A ad N) (ha_wl cs ad xo_kd xo_ln N S) → va_S (ha_A ad N) s.heap H locs → lv_has ls 6 [(0, .ref (ad p0)), (1, .int p1), (2, .ref (ad p2)), (3, .int p3), (4, .int p4), (5, .int v5)] → W p l e (headSpec wsX3_isAt ({ frames := 0, cells := 0, slots := 0, locals := 0 } : Room)).room s m ([.ref (ad p0), .int p1, .ref (ad p2), .int p3, .int p4] : List Value).toArray below meth c H locs 0 0 (MQ below (va_Qi (fun (r : Int32) (_ : Unit) => r = out.1) (fun _ => ha_H D cs ad xo_kd xo_ln N out.2) (ha_A ad N)) ([.ref (ad p0), .int p1, .ref (ad p2), .int p3, .int p4] : List Value).toArray s 0 0 (ha_A ad N)) (F0 m 18 ls []) := by
      intro K hk hke n
      induction n with
      | zero =>
        intro v5 S H locs ls hf
        exact absurd (show (none : Option (Int32 × ha_St)) = some out from hf) (fun h => by cases h)
      | succ n ih =>
        intro v5 S H locs ls hf  hP hD hS hl
        have hf : (f_X3_isAt_L18 p0 p1 p2 p3 p4 (f_X3_isAt_L18i p0 p1 p2 p3 p4 n) v5 S).bind K = some out := hf
        unfold f_X3_isAt_L18 at hf
        refine lv_iload hx hb dX3_isAt_18 (lv_at hl 5 rfl) ?_
        refine lv_aload_n hx hb dX3_isAt_20 rfl (lv_at hl 0 rfl) ?_
        obtain ⟨r4, wr4, hf⟩ := ha_bds hf
        obtain ⟨wr4, hr4⟩ := ha_rf_some wr4
        refine ha_getr hx hb hown hK hP q15 hN h0 wr4 dX3_isAt_21 ?_
        refine lv_iload_n hx hb dX3_isAt_24 rfl (lv_at hl 1 rfl) ?_
        obtain ⟨g5, hf⟩ := ha_gds hf
        refine ha_iald hx hb hK hP hN hr4 g5 dX3_isAt_25 ?_
        refine lv_icmp_ge (tgt := 58) hx hb dX3_isAt_26 (by decide) (fun c6 => ?_) (fun c6 => ?_)
        · have hf := ha_it hf c6
          exact hk  S H locs ls hf  hP hD hS (lv_sub hl [0, 1, 2, 3, 4] rfl)
        · have hf := ha_if hf c6
          refine lv_aload_n hx hb dX3_isAt_29 rfl (lv_at hl 0 rfl) ?_
          obtain ⟨r7, wr7, hf⟩ := ha_bds hf
          obtain ⟨wr7, hr7⟩ := ha_rf_some wr7
          refine ha_getr hx hb hown hK hP q9 hN h0 wr7 dX3_isAt_30 ?_
          refine lv_iload_n hx hb dX3_isAt_33 rfl (lv_at hl 1 rfl) ?_
          refine lv_bipush (v := 12) hx hb dX3_isAt_34 (by decide) ?_
          refine lv_imul hx hb dX3_isAt_36 ?_
          refine lv_iload hx hb dX3_isAt_37 (lv_at hl 5 rfl) ?_
          refine lv_iadd hx hb dX3_isAt_39 ?_
          obtain ⟨g8, hf⟩ := ha_gds hf
          refine ha_iald hx hb hK hP hN hr7 g8 dX3_isAt_40 ?_
          refine lv_aload_n hx hb dX3_isAt_41 rfl (lv_at hl 2 rfl) ?_
          refine lv_iload_n hx hb dX3_isAt_42 rfl (lv_at hl 3 rfl) ?_
          refine lv_iload hx hb dX3_isAt_43 (lv_at hl 5 rfl) ?_
          refine lv_iadd hx hb dX3_isAt_45 ?_
          obtain ⟨g9, hf⟩ := ha_gds hf
          refine ha_iald hx hb hK hP hN h2 g9 dX3_isAt_46 ?_
          refine lv_icmp_eq (tgt := 52) hx hb dX3_isAt_47 (by decide) (fun c10 => ?_) (fun c10 => ?_)
          · have hf := ha_it hf c10
            obtain ⟨x11, ex11⟩ : ∃ y : Int32, y = (v5 : Int32) + 1 := ⟨_, rfl⟩
            have hf := ha_nms hf ex11
            refine lv_iinc (v := x11) (lv' := [(5, .int x11), (0, .ref (ad p0)), (1, .int p1), (2, .ref (ad p2)), (3, .int p3), (4, .int p4)]) hx hb dX3_isAt_52 hl (k := 5) rfl (by rw [ex11]; rfl) (by decide) rfl (fun ls hl => ?_)
            refine lv_goto (tgt := 18) hx hb dX3_isAt_55 (by decide) ?_
            exact ih x11 S H locs ls hf  hP hD hS (lv_sub hl [1, 2, 3, 4, 5, 0] rfl)
          · have hf := ha_if hf c10
            refine lv_iconst (v := 0) hx hb dX3_isAt_50 (by decide) ?_
            have he := hke _ hf
            exact ha_retz hx hb hr hlocks hP hD hS dX3_isAt_51 (by decide) (ha_e1 he) (ha_e2 he)
    refine key12 _ (fun  S H locs ls hf  hP hD hS hl => ?_) (fun r h => Option.some.inj h) ha_fu 0 S H locs ls (ha_as hf)  hP hD hS (lv_sub hl [1, 2, 3, 4, 5, 0] rfl)
    have hf : (f_X3_isAt_J58 p0 p1 p2 p3 p4  S).bind some = some out := hf
    exact J58  S H locs ls hf  hP hD hS (lv_sub hl [0, 1, 2, 3, 4] rfl)
  · have hf := ha_if hf c3
    refine lv_iconst (v := 0) hx hb dX3_isAt_13 (by decide) ?_
    have he := Option.some.inj hf
    exact ha_retz hx hb hr hlocks hP hD hS dX3_isAt_14 (by decide) (ha_e1 he) (ha_e2 he)

set_option maxHeartbeats 4000000 in
set_option maxRecDepth 100000 in
theorem c_X3_has {l : Launch} {D : va_G} {cs : Nat → ClassId} {ad adK adV : Nat → Nat} {N : List Nat} {Z : State → Prop} (hZ : ha_Zok (ha_A ad N) Z) (hN : ∀ x, xo_kd x < 999 → x ∈ N) (hX : ∀ U, Z U → xo_Z adK adV (ha_A ad N) U) {p0 : Nat} {p1 : Nat} {S : ha_St} {out : Int32 × ha_St} (h0 : xo_kd p0 = 3) (h1 : xo_kd p1 = 10) (hf : f_X3_has p0 p1 S = some out) : ha_Ci l D cs ad xo_kd xo_ln N Z yX3_has wsX3_has ({ frames := 1, cells := 0, slots := 0, locals := 25 } : Room) [.ref (ad p0), .ref (ad p1)] S out.1 out.2 := by
  refine Met.ofW (cc := cX3_has) (maxL := 3) (ret := (some .boolean)) (by decide +kernel) rfl ?_
  intro p e s m args below meth c s₁ B hml hv
  obtain ⟨rfl, hP, hD, hK, hz⟩ := hv
  have hx := B.exec
  have hb := B.bytes
  have hr := B.returns
  have hts := atoms_spec (ws := wsX3_has) B.pre
  have hown : s.vm.findClass RX3 = some m.cls := findClass_of_methodNamed B.named
  have hlocks := B.notSynchronized
  have hS : va_S (ha_A ad N) s.heap s.heap [] := va_S.rf
  have hi3 : ∀ w ∈ wsX30, w ∈ wsX3_has := fun w h => List.mem_cons_of_mem _ (List.mem_append_left _ (List.mem_append_right _ h))
  have hi10 : ∀ w ∈ wsX100, w ∈ wsX3_has := fun w h => List.mem_cons_of_mem _ (List.mem_append_right _ h)
  have q21 : ha_Fk s ([.ref (ad p0), .ref (ad p1)] : List Value).toArray RX3 21 3 3 0 := ⟨RX3, TX3, 4, wsX3_has, rfl, by decide, by decide, rfl, rfl, hts, hi3, hts (.fieldLink RX3 21 "HillArms$Entries" "known" "I") (by decide +kernel)⟩
  have q15 : ha_Fk s ([.ref (ad p0), .ref (ad p1)] : List Value).toArray RX3 15 3 1 1 := ⟨RX3, TX3, 4, wsX3_has, rfl, by decide, by decide, rfl, rfl, hts, hi3, hts (.fieldLink RX3 15 "HillArms$Entries" "length" "[I") (by decide +kernel)⟩
  have q25 : ha_Fk s ([.ref (ad p0), .ref (ad p1)] : List Value).toArray RX3 25 10 1 0 := ⟨RX10, TX10, 2, wsX3_has, rfl, by decide, by decide, rfl, rfl, hts, hi10, hts (.fieldLink RX3 25 "HillArms$Tape" "size" "I") (by decide +kernel)⟩
  have q30 : ha_Fk s ([.ref (ad p0), .ref (ad p1)] : List Value).toArray RX3 30 10 0 1 := ⟨RX10, TX10, 2, wsX3_has, rfl, by decide, by decide, rfl, rfl, hts, hi10, hts (.fieldLink RX3 30 "HillArms$Tape" "bytes" "[I") (by decide +kernel)⟩
  have cw0 := cwV (R := (headSpec wsX3_has ({ frames := 1, cells := 0, slots := 0, locals := 25 } : Room)).room) 4 hts gX3_has_X3_isAt (rm := ({ frames := 0, cells := 0, slots := 0, locals := 0 } : Room)) (mc := 0) (ms := 0) rfl rfl rfl (by decide +kernel) ⟨Nat.le_of_ble_eq_true rfl, Nat.le_of_ble_eq_true rfl⟩
  have hl := lv_entry ([.ref (ad p0), .ref (ad p1)]) (n := 3) (Nat.le_of_ble_eq_true rfl)
  rw [lg_entry_eq]
  generalize (lg_sl ([.ref (ad p0), .ref (ad p1)]) ++ List.replicate (3 - (lg_sl ([.ref (ad p0), .ref (ad p1)])).length) Slot.unset).toArray = ls at hl ⊢
  have hl : lv_has ls 3 [(0, .ref (ad p0)), (1, .ref (ad p1))] := hl
  refine (fun (K0 : ∀ (H : Heap) (locs : List Loc), va_P D vwCl (ha_wl cs ad xo_kd xo_ln N S) H → va_S (ha_A ad N) s.heap H locs → W p l e (headSpec wsX3_has ({ frames := 1, cells := 0, slots := 0, locals := 25 } : Room)).room s m ([.ref (ad p0), .ref (ad p1)] : List Value).toArray below meth c H locs 0 0 (MQ below (va_Qi (fun (r : Int32) (_ : Unit) => r = out.1) (fun _ => ha_H D cs ad xo_kd xo_ln N out.2) (ha_A ad N)) ([.ref (ad p0), .ref (ad p1)] : List Value).toArray s 0 0 (ha_A ad N)) (F0 m 0 ls [])) => K0 _ _ hP hS) ?_
  intro H locs hP hS
  have hf := ha_rt hf
  have J48 : ∀  (S : ha_St) (H : Heap) (locs : List Loc) (ls : Array Slot), (f_X3_has_J48 p0 p1  S).bind some = some out → va_P D vwCl (ha_wl cs ad xo_kd xo_ln N S) H → va_D (ha_A ad N) (ha_wl cs ad xo_kd xo_ln N S) → va_S (ha_A ad N) s.heap H locs → lv_has ls 3 [(0, .ref (ad p0)), (1, .ref (ad p1))] → W p l e (headSpec wsX3_has ({ frames := 1, cells := 0, slots := 0, locals := 25 } : Room)).room s m ([.ref (ad p0), .ref (ad p1)] : List Value).toArray below meth c H locs 0 0 (MQ below (va_Qi (fun (r : Int32) (_ : Unit) => r = out.1) (fun _ => ha_H D cs ad xo_kd xo_ln N out.2) (ha_A ad N)) ([.ref (ad p0), .ref (ad p1)] : List Value).toArray s 0 0 (ha_A ad N)) (F0 m 48 ls []) := by
    intro  S H locs ls hf  hP hD hS hl
    unfold f_X3_has_J48 at hf
    refine lv_iconst (v := 0) hx hb dX3_has_48 (by decide) ?_
    have he := Option.some.inj hf
    exact ha_retz hx hb hr hlocks hP hD hS dX3_has_49 (by decide) (ha_e1 he) (ha_e2 he)
  unfold f_X3_has at hf
  refine lv_iconst (v := 0) hx hb dX3_has_0 (by decide) ?_
  refine lv_istore_n (lv' := [(2, .int 0), (0, .ref (ad p0)), (1, .ref (ad p1))]) hx hb dX3_has_1 rfl hl (by decide) rfl (fun ls hl => ?_)
  have key9 : ∀ (K : ((ha_St) ⊕ (Int32 × ha_St)) → Option (Int32 × ha_St)), (∀  (S : ha_St) (H : Heap) (locs : List Loc) (ls : Array Slot), K (.inl S) = some out → va_P D vwCl (ha_wl cs ad xo_kd xo_ln N S) H → va_D (ha_A ad N) (ha_wl cs ad xo_kd xo_ln N S) → va_S (ha_A ad N) s.heap H locs → lv_has ls 3 [(0, .ref (ad p0)), (1, .ref (ad p1))] → W p l e (headSpec wsX3_has ({ frames := 1, cells := 0, slots := 0, locals := 25 } : Room)).room s m ([.ref (ad p0), .ref (ad p1)] : List Value).toArray below meth c H locs 0 0 (MQ below (va_Qi (fun (r : Int32) (_ : Unit) => r = out.1) (fun _ => ha_H D cs ad xo_kd xo_ln N out.2) (ha_A ad N)) ([.ref (ad p0), .ref (ad p1)] : List Value).toArray s 0 0 (ha_A ad N)) (F0 m 48 ls [])) → (∀ r, K (.inr r) = some out → r = out) → ∀ (n : Nat) (v2 : Int32) (S : ha_St) (H : Heap) (locs : List Loc) (ls : Array Slot), (f_X3_has_L2i p0 p1 n (v2, S)).bind K = some out → va_P D vwCl (ha_wl cs ad xo_kd xo_ln N S) H → va_D (ha_A ad N) (ha_wl cs ad xo_kd xo_ln N S) → va_S (ha_A ad N) s.heap H locs → lv_has ls 3 [(0, .ref (ad p0)), (1, .ref (ad p1)), (2, .int v2)] → W p l e (headSpec wsX3_has ({ frames := 1, cells := 0, slots := 0, locals := 25 } : Room)).room s m ([.ref (ad p0), .ref (ad p1)] : List Value).toArray below meth c H locs 0 0 (MQ below (va_Qi (fun (r : Int32) (_ : Unit) => r = out.1) (fun _ => ha_H D cs ad xo_kd xo_ln N out.2) (ha_A ad N)) ([.ref (ad p0), .ref (ad p1)] : List Value).toArray s 0 0 (ha_A ad N)) (F0 m 2 ls []) := by
    intro K hk hke n
    induction n with
    | zero =>
      intro v2 S H locs ls hf
      exact absurd (show (none : Option (Int32 × ha_St)) = some out from hf) (fun h => by cases h)
    | succ n ih =>
      intro v2 S H locs ls hf  hP hD hS hl
      have J42 : ∀ (v2 : Int32) (S : ha_St) (H : Heap) (locs : List Loc) (ls : Array Slot), (f_X3_has_L2_J42 p0 p1 (f_X3_has_L2i p0 p1 n) v2 S).bind K = some out → va_P D vwCl (ha_wl cs ad xo_kd xo_ln N S) H → va_D (ha_A ad N) (ha_wl cs ad xo_kd xo_ln N S) → va_S (ha_A ad N) s.heap H locs → lv_has ls 3 [(0, .ref (ad p0)), (1, .ref (ad p1)), (2, .int v2)] → W p l e (headSpec wsX3_has ({ frames := 1, cells := 0, slots := 0, locals := 25 } : Room)).room s m ([.ref (ad p0), .ref (ad p1)] : List Value).toArray below meth c H locs 0 0 (MQ below (va_Qi (fun (r : Int32) (_ : Unit) => r = out.1) (fun _ => ha_H D cs ad xo_kd xo_ln N out.2) (ha_A ad N)) ([.ref (ad p0), .ref (ad p1)] : List Value).toArray s 0 0 (ha_A ad N)) (F0 m 42 ls []) := by
        intro v2 S H locs ls hf  hP hD hS hl
        unfold f_X3_has_L2_J42 at hf
        obtain ⟨x1, ex1⟩ : ∃ y : Int32, y = (v2 : Int32) + 1 := ⟨_, rfl⟩
        have hf := ha_nms hf ex1
        refine lv_iinc (v := x1) (lv' := [(2, .int x1), (0, .ref (ad p0)), (1, .ref (ad p1))]) hx hb dX3_has_42 hl (k := 2) rfl (by rw [ex1]; rfl) (by decide) rfl (fun ls hl => ?_)
        refine lv_goto (tgt := 2) hx hb dX3_has_45 (by decide) ?_
        exact ih x1 S H locs ls hf  hP hD hS (lv_sub hl [1, 2, 0] rfl)
      have hf : (f_X3_has_L2 p0 p1 (f_X3_has_L2i p0 p1 n) v2 S).bind K = some out := hf
      unfold f_X3_has_L2 at hf
      refine lv_iload_n hx hb dX3_has_2 rfl (lv_at hl 2 rfl) ?_
      refine lv_aload_n hx hb dX3_has_3 rfl (lv_at hl 0 rfl) ?_
      refine ha_geti hx hb hown hK hP q21 hN h0 dX3_has_4 ?_
      refine lv_icmp_ge (tgt := 48) hx hb dX3_has_7 (by decide) (fun c2 => ?_) (fun c2 => ?_)
      · have hf := ha_it hf c2
        exact hk  S H locs ls hf  hP hD hS (lv_sub hl [0, 1] rfl)
      · have hf := ha_if hf c2
        refine lv_aload_n hx hb dX3_has_10 rfl (lv_at hl 0 rfl) ?_
        obtain ⟨r3, wr3, hf⟩ := ha_bds hf
        obtain ⟨wr3, hr3⟩ := ha_rf_some wr3
        refine ha_getr hx hb hown hK hP q15 hN h0 wr3 dX3_has_11 ?_
        refine lv_iload_n hx hb dX3_has_14 rfl (lv_at hl 2 rfl) ?_
        obtain ⟨g4, hf⟩ := ha_gds hf
        refine ha_iald hx hb hK hP hN hr3 g4 dX3_has_15 ?_
        refine lv_aload_n hx hb dX3_has_16 rfl (lv_at hl 1 rfl) ?_
        refine ha_geti hx hb hown hK hP q25 hN h1 dX3_has_17 ?_
        refine lv_icmp_ne (tgt := 42) hx hb dX3_has_20 (by decide) (fun c5 => ?_) (fun c5 => ?_)
        · have hf := ha_it hf c5
          exact J42 v2 S H locs ls hf  hP hD hS (lv_sub hl [0, 1, 2] rfl)
        · have hf := ha_if hf (fun q => q c5)
          refine lv_aload_n hx hb dX3_has_23 rfl (lv_at hl 0 rfl) ?_
          refine lv_iload_n hx hb dX3_has_24 rfl (lv_at hl 2 rfl) ?_
          refine lv_aload_n hx hb dX3_has_25 rfl (lv_at hl 1 rfl) ?_
          obtain ⟨r6, wr6, hf⟩ := ha_bds hf
          obtain ⟨wr6, hr6⟩ := ha_rf_some wr6
          refine ha_getr hx hb hown hK hP q30 hN h1 wr6 dX3_has_26 ?_
          refine lv_iconst (v := 0) hx hb dX3_has_29 (by decide) ?_
          refine lv_aload_n hx hb dX3_has_30 rfl (lv_at hl 1 rfl) ?_
          refine ha_geti hx hb hown hK hP q25 hN h1 dX3_has_31 ?_
          obtain ⟨z7, wz7, hf⟩ := ha_bds hf
          refine ha_callVi (As := [.int v2, .ref (ad r6), .int 0, .int ((ha_gI S p1 1))]) (rest := []) hZ ⟨hx, hb, hml, hown, hts⟩ hK hz hP hD hS (c_X3_isAt hZ hN hX h0 hr6 wz7) cw0 hN h0 (by decide) rfl rfl hl.1 rfl (Nat.le_of_ble_eq_true rfl) dX3_has_34 ⟨Nat.le_of_ble_eq_true rfl, Nat.le_of_ble_eq_true rfl⟩ (fun H locs hP hD hS => ?_)
          refine lv_if_eq (tgt := 42) hx hb dX3_has_37 (by decide) (fun c8 => ?_) (fun c8 => ?_)
          · have hf := ha_it hf c8
            exact J42 v2 z7.2 H locs ls hf  hP hD hS (lv_sub hl [0, 1, 2] rfl)
          · have hf := ha_if hf c8
            refine lv_iconst (v := 1) hx hb dX3_has_40 (by decide) ?_
            have he := hke _ hf
            exact ha_retz hx hb hr hlocks hP hD hS dX3_has_41 (by decide) (ha_e1 he) (ha_e2 he)
  refine key9 _ (fun  S H locs ls hf  hP hD hS hl => ?_) (fun r h => Option.some.inj h) ha_fu 0 S H locs ls (ha_as hf)  hP hD hS (lv_sub hl [1, 2, 0] rfl)
  have hf : (f_X3_has_J48 p0 p1  S).bind some = some out := hf
  exact J48  S H locs ls hf  hP hD hS (lv_sub hl [0, 1] rfl)

set_option maxHeartbeats 4000000 in
set_option maxRecDepth 100000 in
theorem c_X3_add {l : Launch} {D : va_G} {cs : Nat → ClassId} {ad adK adV : Nat → Nat} {N : List Nat} {Z : State → Prop} (hZ : ha_Zok (ha_A ad N) Z) (hN : ∀ x, xo_kd x < 999 → x ∈ N) (hX : ∀ U, Z U → xo_Z adK adV (ha_A ad N) U) {p0 : Nat} {p1 : Nat} {S : ha_St} {out : Int32 × ha_St} (h0 : xo_kd p0 = 3) (h1 : xo_kd p1 = 10) (hf : f_X3_add p0 p1 S = some out) : ha_Ci l D cs ad xo_kd xo_ln N Z yX3_add wsX3_add ({ frames := 0, cells := 0, slots := 0, locals := 0 } : Room) [.ref (ad p0), .ref (ad p1)] S out.1 out.2 := by
  refine Met.ofW (cc := cX3_add) (maxL := 3) (ret := (some .int)) (by decide +kernel) rfl ?_
  intro p e s m args below meth c s₁ B hml hv
  obtain ⟨rfl, hP, hD, hK, hz⟩ := hv
  have hx := B.exec
  have hb := B.bytes
  have hr := B.returns
  have hts := atoms_spec (ws := wsX3_add) B.pre
  have hown : s.vm.findClass RX3 = some m.cls := findClass_of_methodNamed B.named
  have hlocks := B.notSynchronized
  have hS : va_S (ha_A ad N) s.heap s.heap [] := va_S.rf
  have hi3 : ∀ w ∈ wsX30, w ∈ wsX3_add := fun w h => List.mem_cons_of_mem _ (List.mem_append_left _ (List.mem_append_right _ h))
  have hi10 : ∀ w ∈ wsX100, w ∈ wsX3_add := fun w h => List.mem_cons_of_mem _ (List.mem_append_right _ h)
  have q15 : ha_Fk s ([.ref (ad p0), .ref (ad p1)] : List Value).toArray RX3 15 3 1 1 := ⟨RX3, TX3, 4, wsX3_add, rfl, by decide, by decide, rfl, rfl, hts, hi3, hts (.fieldLink RX3 15 "HillArms$Entries" "length" "[I") (by decide +kernel)⟩
  have q21 : ha_Fk s ([.ref (ad p0), .ref (ad p1)] : List Value).toArray RX3 21 3 3 0 := ⟨RX3, TX3, 4, wsX3_add, rfl, by decide, by decide, rfl, rfl, hts, hi3, hts (.fieldLink RX3 21 "HillArms$Entries" "known" "I") (by decide +kernel)⟩
  have q25 : ha_Fk s ([.ref (ad p0), .ref (ad p1)] : List Value).toArray RX3 25 10 1 0 := ⟨RX10, TX10, 2, wsX3_add, rfl, by decide, by decide, rfl, rfl, hts, hi10, hts (.fieldLink RX3 25 "HillArms$Tape" "size" "I") (by decide +kernel)⟩
  have q18 : ha_Fk s ([.ref (ad p0), .ref (ad p1)] : List Value).toArray RX3 18 3 2 1 := ⟨RX3, TX3, 4, wsX3_add, rfl, by decide, by decide, rfl, rfl, hts, hi3, hts (.fieldLink RX3 18 "HillArms$Entries" "words" "[I") (by decide +kernel)⟩
  have q9 : ha_Fk s ([.ref (ad p0), .ref (ad p1)] : List Value).toArray RX3 9 3 0 1 := ⟨RX3, TX3, 4, wsX3_add, rfl, by decide, by decide, rfl, rfl, hts, hi3, hts (.fieldLink RX3 9 "HillArms$Entries" "bytes" "[I") (by decide +kernel)⟩
  have q30 : ha_Fk s ([.ref (ad p0), .ref (ad p1)] : List Value).toArray RX3 30 10 0 1 := ⟨RX10, TX10, 2, wsX3_add, rfl, by decide, by decide, rfl, rfl, hts, hi10, hts (.fieldLink RX3 30 "HillArms$Tape" "bytes" "[I") (by decide +kernel)⟩
  have r21 : ha_Fp s ([.ref (ad p0), .ref (ad p1)] : List Value).toArray RX3 21 3 3 0 .int := ⟨RX3, TX3, 4, wsX3_add, tyX3, rfl, by decide, by decide, rfl, rfl, hts, hi3, hts (.fieldLink RX3 21 "HillArms$Entries" "known" "I") (by decide +kernel), tyX3_ok, nmX3, rfl, by decide +kernel⟩
  have hl := lv_entry ([.ref (ad p0), .ref (ad p1)]) (n := 3) (Nat.le_of_ble_eq_true rfl)
  rw [lg_entry_eq]
  generalize (lg_sl ([.ref (ad p0), .ref (ad p1)]) ++ List.replicate (3 - (lg_sl ([.ref (ad p0), .ref (ad p1)])).length) Slot.unset).toArray = ls at hl ⊢
  have hl : lv_has ls 3 [(0, .ref (ad p0)), (1, .ref (ad p1))] := hl
  refine (fun (K0 : ∀ (H : Heap) (locs : List Loc), va_P D vwCl (ha_wl cs ad xo_kd xo_ln N S) H → va_S (ha_A ad N) s.heap H locs → W p l e (headSpec wsX3_add ({ frames := 0, cells := 0, slots := 0, locals := 0 } : Room)).room s m ([.ref (ad p0), .ref (ad p1)] : List Value).toArray below meth c H locs 0 0 (MQ below (va_Qi (fun (r : Int32) (_ : Unit) => r = out.1) (fun _ => ha_H D cs ad xo_kd xo_ln N out.2) (ha_A ad N)) ([.ref (ad p0), .ref (ad p1)] : List Value).toArray s 0 0 (ha_A ad N)) (F0 m 0 ls [])) => K0 _ _ hP hS) ?_
  intro H locs hP hS
  have hf := ha_rt hf
  have J90 : ∀  (S : ha_St) (H : Heap) (locs : List Loc) (ls : Array Slot), (f_X3_add_J90 p0 p1  S).bind some = some out → va_P D vwCl (ha_wl cs ad xo_kd xo_ln N S) H → va_D (ha_A ad N) (ha_wl cs ad xo_kd xo_ln N S) → va_S (ha_A ad N) s.heap H locs → lv_has ls 3 [(0, .ref (ad p0)), (1, .ref (ad p1))] → W p l e (headSpec wsX3_add ({ frames := 0, cells := 0, slots := 0, locals := 0 } : Room)).room s m ([.ref (ad p0), .ref (ad p1)] : List Value).toArray below meth c H locs 0 0 (MQ below (va_Qi (fun (r : Int32) (_ : Unit) => r = out.1) (fun _ => ha_H D cs ad xo_kd xo_ln N out.2) (ha_A ad N)) ([.ref (ad p0), .ref (ad p1)] : List Value).toArray s 0 0 (ha_A ad N)) (F0 m 90 ls []) := by
    intro  S H locs ls hf  hP hD hS hl
    unfold f_X3_add_J90 at hf
    refine lv_aload_n hx hb dX3_add_90 rfl (lv_at hl 0 rfl) ?_
    obtain ⟨r1, wr1, hf⟩ := ha_bds hf
    obtain ⟨wr1, hr1⟩ := ha_rf_some wr1
    refine ha_getr hx hb hown hK hP q15 hN h0 wr1 dX3_add_91 ?_
    refine lv_aload_n hx hb dX3_add_94 rfl (lv_at hl 0 rfl) ?_
    refine ha_geti hx hb hown hK hP q21 hN h0 dX3_add_95 ?_
    refine lv_aload_n hx hb dX3_add_98 rfl (lv_at hl 1 rfl) ?_
    refine ha_geti hx hb hown hK hP q25 hN h1 dX3_add_99 ?_
    obtain ⟨g2, hf⟩ := ha_gds hf
    refine ha_iast hx hb hK hP hD hS hN hr1 g2 dX3_add_102 (fun S3 H locs eS3 hP hD hS => ?_)
    have hf := ha_nms hf eS3
    refine lv_aload_n hx hb dX3_add_103 rfl (lv_at hl 0 rfl) ?_
    refine lv_dup hx hb dX3_add_104 rfl ?_
    refine ha_geti hx hb hown hK hP q21 hN h0 dX3_add_105 ?_
    refine lv_iconst (v := 1) hx hb dX3_add_108 (by decide) ?_
    refine lv_iadd hx hb dX3_add_109 ?_
    refine ha_puti hx hb hown hK hP hD hS r21 hN h0 dX3_add_110 (fun S4 H locs eS4 hP hD hS => ?_)
    have hf := ha_nms hf eS4
    refine lv_aload_n hx hb dX3_add_113 rfl (lv_at hl 0 rfl) ?_
    refine ha_geti hx hb hown hK hP q21 hN h0 dX3_add_114 ?_
    refine lv_iconst (v := 1) hx hb dX3_add_117 (by decide) ?_
    refine lv_isub hx hb dX3_add_118 ?_
    have he := Option.some.inj hf
    exact ha_reti hx hb hr hlocks hP hD hS dX3_add_119 (ha_e1 he) (ha_e2 he)
  have J18 : ∀  (S : ha_St) (H : Heap) (locs : List Loc) (ls : Array Slot), (f_X3_add_J18 p0 p1  S).bind some = some out → va_P D vwCl (ha_wl cs ad xo_kd xo_ln N S) H → va_D (ha_A ad N) (ha_wl cs ad xo_kd xo_ln N S) → va_S (ha_A ad N) s.heap H locs → lv_has ls 3 [(0, .ref (ad p0)), (1, .ref (ad p1))] → W p l e (headSpec wsX3_add ({ frames := 0, cells := 0, slots := 0, locals := 0 } : Room)).room s m ([.ref (ad p0), .ref (ad p1)] : List Value).toArray below meth c H locs 0 0 (MQ below (va_Qi (fun (r : Int32) (_ : Unit) => r = out.1) (fun _ => ha_H D cs ad xo_kd xo_ln N out.2) (ha_A ad N)) ([.ref (ad p0), .ref (ad p1)] : List Value).toArray s 0 0 (ha_A ad N)) (F0 m 18 ls []) := by
    intro  S H locs ls hf  hP hD hS hl
    unfold f_X3_add_J18 at hf
    refine lv_iconst (v := (-1)) hx hb dX3_add_18 (by decide) ?_
    have he := Option.some.inj hf
    exact ha_reti hx hb hr hlocks hP hD hS dX3_add_19 (ha_e1 he) (ha_e2 he)
  unfold f_X3_add at hf
  refine lv_aload_n hx hb dX3_add_0 rfl (lv_at hl 0 rfl) ?_
  refine ha_geti hx hb hown hK hP q21 hN h0 dX3_add_1 ?_
  refine lv_bipush (v := 12) hx hb dX3_add_4 (by decide) ?_
  refine lv_icmp_ge (tgt := 18) hx hb dX3_add_6 (by decide) (fun c5 => ?_) (fun c5 => ?_)
  · have hf := ha_it hf c5
    exact J18  S H locs ls hf  hP hD hS (lv_sub hl [0, 1] rfl)
  · have hf := ha_if hf c5
    refine lv_aload_n hx hb dX3_add_9 rfl (lv_at hl 1 rfl) ?_
    refine ha_geti hx hb hown hK hP q25 hN h1 dX3_add_10 ?_
    refine lv_bipush (v := 12) hx hb dX3_add_13 (by decide) ?_
    refine lv_icmp_le (tgt := 20) hx hb dX3_add_15 (by decide) (fun c6 => ?_) (fun c6 => ?_)
    · have hf := ha_it hf c6
      refine lv_aload_n hx hb dX3_add_20 rfl (lv_at hl 0 rfl) ?_
      obtain ⟨r7, wr7, hf⟩ := ha_bds hf
      obtain ⟨wr7, hr7⟩ := ha_rf_some wr7
      refine ha_getr hx hb hown hK hP q18 hN h0 wr7 dX3_add_21 ?_
      refine lv_aload_n hx hb dX3_add_24 rfl (lv_at hl 0 rfl) ?_
      refine ha_geti hx hb hown hK hP q21 hN h0 dX3_add_25 ?_
      refine lv_iconst (v := 1) hx hb dX3_add_28 (by decide) ?_
      obtain ⟨g8, hf⟩ := ha_gds hf
      refine ha_iast hx hb hK hP hD hS hN hr7 g8 dX3_add_29 (fun S9 H locs eS9 hP hD hS => ?_)
      have hf := ha_nms hf eS9
      refine lv_iconst (v := 0) hx hb dX3_add_30 (by decide) ?_
      refine lv_istore_n (lv' := [(2, .int 0), (0, .ref (ad p0)), (1, .ref (ad p1))]) hx hb dX3_add_31 rfl hl (by decide) rfl (fun ls hl => ?_)
      have key24 : ∀ (K : (ha_St) → Option (Int32 × ha_St)), (∀  (S : ha_St) (H : Heap) (locs : List Loc) (ls : Array Slot), K S = some out → va_P D vwCl (ha_wl cs ad xo_kd xo_ln N S) H → va_D (ha_A ad N) (ha_wl cs ad xo_kd xo_ln N S) → va_S (ha_A ad N) s.heap H locs → lv_has ls 3 [(0, .ref (ad p0)), (1, .ref (ad p1))] → W p l e (headSpec wsX3_add ({ frames := 0, cells := 0, slots := 0, locals := 0 } : Room)).room s m ([.ref (ad p0), .ref (ad p1)] : List Value).toArray below meth c H locs 0 0 (MQ below (va_Qi (fun (r : Int32) (_ : Unit) => r = out.1) (fun _ => ha_H D cs ad xo_kd xo_ln N out.2) (ha_A ad N)) ([.ref (ad p0), .ref (ad p1)] : List Value).toArray s 0 0 (ha_A ad N)) (F0 m 90 ls [])) → ∀ (n : Nat) (v2 : Int32) (S : ha_St) (H : Heap) (locs : List Loc) (ls : Array Slot), (f_X3_add_L32i p0 p1 n (v2, S)).bind K = some out → va_P D vwCl (ha_wl cs ad xo_kd xo_ln N S) H → va_D (ha_A ad N) (ha_wl cs ad xo_kd xo_ln N S) → va_S (ha_A ad N) s.heap H locs → lv_has ls 3 [(0, .ref (ad p0)), (1, .ref (ad p1)), (2, .int v2)] → W p l e (headSpec wsX3_add ({ frames := 0, cells := 0, slots := 0, locals := 0 } : Room)).room s m ([.ref (ad p0), .ref (ad p1)] : List Value).toArray below meth c H locs 0 0 (MQ below (va_Qi (fun (r : Int32) (_ : Unit) => r = out.1) (fun _ => ha_H D cs ad xo_kd xo_ln N out.2) (ha_A ad N)) ([.ref (ad p0), .ref (ad p1)] : List Value).toArray s 0 0 (ha_A ad N)) (F0 m 32 ls []) := by
        intro K hk n
        induction n with
        | zero =>
          intro v2 S H locs ls hf
          exact absurd (show (none : Option (Int32 × ha_St)) = some out from hf) (fun h => by cases h)
        | succ n ih =>
          intro v2 S H locs ls hf  hP hD hS hl
          have J84 : ∀ (v2 : Int32) (S : ha_St) (H : Heap) (locs : List Loc) (ls : Array Slot), (f_X3_add_L32_J84 p0 p1 (f_X3_add_L32i p0 p1 n) v2 S).bind K = some out → va_P D vwCl (ha_wl cs ad xo_kd xo_ln N S) H → va_D (ha_A ad N) (ha_wl cs ad xo_kd xo_ln N S) → va_S (ha_A ad N) s.heap H locs → lv_has ls 3 [(0, .ref (ad p0)), (1, .ref (ad p1)), (2, .int v2)] → W p l e (headSpec wsX3_add ({ frames := 0, cells := 0, slots := 0, locals := 0 } : Room)).room s m ([.ref (ad p0), .ref (ad p1)] : List Value).toArray below meth c H locs 0 0 (MQ below (va_Qi (fun (r : Int32) (_ : Unit) => r = out.1) (fun _ => ha_H D cs ad xo_kd xo_ln N out.2) (ha_A ad N)) ([.ref (ad p0), .ref (ad p1)] : List Value).toArray s 0 0 (ha_A ad N)) (F0 m 84 ls []) := by
            intro v2 S H locs ls hf  hP hD hS hl
            unfold f_X3_add_L32_J84 at hf
            obtain ⟨x10, ex10⟩ : ∃ y : Int32, y = (v2 : Int32) + 1 := ⟨_, rfl⟩
            have hf := ha_nms hf ex10
            refine lv_iinc (v := x10) (lv' := [(2, .int x10), (0, .ref (ad p0)), (1, .ref (ad p1))]) hx hb dX3_add_84 hl (k := 2) rfl (by rw [ex10]; rfl) (by decide) rfl (fun ls hl => ?_)
            refine lv_goto (tgt := 32) hx hb dX3_add_87 (by decide) ?_
            exact ih x10 S H locs ls hf  hP hD hS (lv_sub hl [1, 2, 0] rfl)
          have hf : (f_X3_add_L32 p0 p1 (f_X3_add_L32i p0 p1 n) v2 S).bind K = some out := hf
          unfold f_X3_add_L32 at hf
          refine lv_iload_n hx hb dX3_add_32 rfl (lv_at hl 2 rfl) ?_
          refine lv_aload_n hx hb dX3_add_33 rfl (lv_at hl 1 rfl) ?_
          refine ha_geti hx hb hown hK hP q25 hN h1 dX3_add_34 ?_
          refine lv_icmp_ge (tgt := 90) hx hb dX3_add_37 (by decide) (fun c11 => ?_) (fun c11 => ?_)
          · have hf := ha_it hf c11
            exact hk  S H locs ls hf  hP hD hS (lv_sub hl [0, 1] rfl)
          · have hf := ha_if hf c11
            refine lv_aload_n hx hb dX3_add_40 rfl (lv_at hl 0 rfl) ?_
            obtain ⟨r12, wr12, hf⟩ := ha_bds hf
            obtain ⟨wr12, hr12⟩ := ha_rf_some wr12
            refine ha_getr hx hb hown hK hP q9 hN h0 wr12 dX3_add_41 ?_
            refine lv_aload_n hx hb dX3_add_44 rfl (lv_at hl 0 rfl) ?_
            refine ha_geti hx hb hown hK hP q21 hN h0 dX3_add_45 ?_
            refine lv_bipush (v := 12) hx hb dX3_add_48 (by decide) ?_
            refine lv_imul hx hb dX3_add_50 ?_
            refine lv_iload_n hx hb dX3_add_51 rfl (lv_at hl 2 rfl) ?_
            refine lv_iadd hx hb dX3_add_52 ?_
            refine lv_aload_n hx hb dX3_add_53 rfl (lv_at hl 1 rfl) ?_
            obtain ⟨r13, wr13, hf⟩ := ha_bds hf
            obtain ⟨wr13, hr13⟩ := ha_rf_some wr13
            refine ha_getr hx hb hown hK hP q30 hN h1 wr13 dX3_add_54 ?_
            refine lv_iload_n hx hb dX3_add_57 rfl (lv_at hl 2 rfl) ?_
            obtain ⟨g14, hf⟩ := ha_gds hf
            refine ha_iald hx hb hK hP hN hr13 g14 dX3_add_58 ?_
            obtain ⟨g15, hf⟩ := ha_gds hf
            refine ha_iast hx hb hK hP hD hS hN hr12 g15 dX3_add_59 (fun S16 H locs eS16 hP hD hS => ?_)
            have hf := ha_nms hf eS16
            refine lv_aload_n hx hb dX3_add_60 rfl (lv_at hl 1 rfl) ?_
            obtain ⟨r17, wr17, hf⟩ := ha_bds hf
            obtain ⟨wr17, hr17⟩ := ha_rf_some wr17
            refine ha_getr hx hb hown hK hP q30 hN h1 wr17 dX3_add_61 ?_
            refine lv_iload_n hx hb dX3_add_64 rfl (lv_at hl 2 rfl) ?_
            obtain ⟨g18, hf⟩ := ha_gds hf
            refine ha_iald hx hb hK hP hN hr17 g18 dX3_add_65 ?_
            refine lv_bipush (v := 32) hx hb dX3_add_66 (by decide) ?_
            refine lv_icmp_ne (tgt := 84) hx hb dX3_add_68 (by decide) (fun c19 => ?_) (fun c19 => ?_)
            · have hf := ha_it hf c19
              exact J84 v2 S16 H locs ls hf  hP hD hS (lv_sub hl [0, 1, 2] rfl)
            · have hf := ha_if hf (fun q => q c19)
              refine lv_aload_n hx hb dX3_add_71 rfl (lv_at hl 0 rfl) ?_
              obtain ⟨r20, wr20, hf⟩ := ha_bds hf
              obtain ⟨wr20, hr20⟩ := ha_rf_some wr20
              refine ha_getr hx hb hown hK hP q18 hN h0 wr20 dX3_add_72 ?_
              refine lv_aload_n hx hb dX3_add_75 rfl (lv_at hl 0 rfl) ?_
              refine ha_geti hx hb hown hK hP q21 hN h0 dX3_add_76 ?_
              refine lv_dup2_11 hx hb dX3_add_79 rfl rfl ?_
              obtain ⟨g21, hf⟩ := ha_gds hf
              refine ha_iald hx hb hK hP hN hr20 g21 dX3_add_80 ?_
              refine lv_iconst (v := 1) hx hb dX3_add_81 (by decide) ?_
              refine lv_iadd hx hb dX3_add_82 ?_
              obtain ⟨g22, hf⟩ := ha_gds hf
              refine ha_iast hx hb hK hP hD hS hN hr20 g22 dX3_add_83 (fun S23 H locs eS23 hP hD hS => ?_)
              have hf := ha_nms hf eS23
              exact J84 v2 S23 H locs ls hf  hP hD hS (lv_sub hl [0, 1, 2] rfl)
      refine key24 _ (fun  S H locs ls hf  hP hD hS hl => ?_) ha_fu 0 S9 H locs ls (ha_as hf)  hP hD hS (lv_sub hl [1, 2, 0] rfl)
      have hf : (f_X3_add_J90 p0 p1  S).bind some = some out := hf
      exact J90  S H locs ls hf  hP hD hS (lv_sub hl [0, 1] rfl)
    · have hf := ha_if hf c6
      exact J18  S H locs ls hf  hP hD hS (lv_sub hl [0, 1] rfl)

set_option maxHeartbeats 4000000 in
set_option maxRecDepth 100000 in
theorem c_X6_clear {l : Launch} {D : va_G} {cs : Nat → ClassId} {ad adK adV : Nat → Nat} {N : List Nat} {Z : State → Prop} (hZ : ha_Zok (ha_A ad N) Z) (hN : ∀ x, xo_kd x < 999 → x ∈ N) (hX : ∀ U, Z U → xo_Z adK adV (ha_A ad N) U) {p0 : Nat} {S : ha_St} {out : ha_St} (h0 : xo_kd p0 = 6) (hf : f_X6_clear p0 S = some out) : ha_Cv l D cs ad xo_kd xo_ln N Z yX6_clear wsX6_clear ({ frames := 0, cells := 0, slots := 0, locals := 0 } : Room) [.ref (ad p0)] S out := by
  refine Met.ofW (cc := cX6_clear) (maxL := 1) (ret := none) (by decide +kernel) rfl ?_
  intro p e s m args below meth c s₁ B hml hv
  obtain ⟨rfl, hP, hD, hK, hz⟩ := hv
  have hx := B.exec
  have hb := B.bytes
  have hr := B.returns
  have hts := atoms_spec (ws := wsX6_clear) B.pre
  have hown : s.vm.findClass RX6 = some m.cls := findClass_of_methodNamed B.named
  have hlocks := B.notSynchronized
  have hS : va_S (ha_A ad N) s.heap s.heap [] := va_S.rf
  have hi6 : ∀ w ∈ wsX60, w ∈ wsX6_clear := fun w h => List.mem_cons_of_mem _ (List.mem_append_right _ h)
  have r24 : ha_Fp s ([.ref (ad p0)] : List Value).toArray RX6 24 6 4 0 .int := ⟨RX6, TX6, 8, wsX6_clear, tyX6, rfl, by decide, by decide, rfl, rfl, hts, hi6, hts (.fieldLink RX6 24 "HillArms$Pages" "size" "I") (by decide +kernel), tyX6_ok, nmX6, rfl, by decide +kernel⟩
  have r28 : ha_Fp s ([.ref (ad p0)] : List Value).toArray RX6 28 6 5 0 .int := ⟨RX6, TX6, 8, wsX6_clear, tyX6, rfl, by decide, by decide, rfl, rfl, hts, hi6, hts (.fieldLink RX6 28 "HillArms$Pages" "words" "I") (by decide +kernel), tyX6_ok, nmX6, rfl, by decide +kernel⟩
  have r31 : ha_Fp s ([.ref (ad p0)] : List Value).toArray RX6 31 6 6 0 .int := ⟨RX6, TX6, 8, wsX6_clear, tyX6, rfl, by decide, by decide, rfl, rfl, hts, hi6, hts (.fieldLink RX6 31 "HillArms$Pages" "texts" "I") (by decide +kernel), tyX6_ok, nmX6, rfl, by decide +kernel⟩
  have r34 : ha_Fp s ([.ref (ad p0)] : List Value).toArray RX6 34 6 7 0 .int := ⟨RX6, TX6, 8, wsX6_clear, tyX6, rfl, by decide, by decide, rfl, rfl, hts, hi6, hts (.fieldLink RX6 34 "HillArms$Pages" "bytes" "I") (by decide +kernel), tyX6_ok, nmX6, rfl, by decide +kernel⟩
  have hl := lv_entry ([.ref (ad p0)]) (n := 1) (Nat.le_of_ble_eq_true rfl)
  rw [lg_entry_eq]
  generalize (lg_sl ([.ref (ad p0)]) ++ List.replicate (1 - (lg_sl ([.ref (ad p0)])).length) Slot.unset).toArray = ls at hl ⊢
  have hl : lv_has ls 1 [(0, .ref (ad p0))] := hl
  refine (fun (K0 : ∀ (H : Heap) (locs : List Loc), va_P D vwCl (ha_wl cs ad xo_kd xo_ln N S) H → va_S (ha_A ad N) s.heap H locs → W p l e (headSpec wsX6_clear ({ frames := 0, cells := 0, slots := 0, locals := 0 } : Room)).room s m ([.ref (ad p0)] : List Value).toArray below meth c H locs 0 0 (MQ below (va_Qv (fun (_ : Unit) => True) (fun _ => ha_H D cs ad xo_kd xo_ln N out) (ha_A ad N)) ([.ref (ad p0)] : List Value).toArray s 0 0 (ha_A ad N)) (F0 m 0 ls [])) => K0 _ _ hP hS) ?_
  intro H locs hP hS
  have hf := ha_rt hf
  unfold f_X6_clear at hf
  refine lv_aload_n hx hb dX6_clear_0 rfl (lv_at hl 0 rfl) ?_
  refine lv_iconst (v := 0) hx hb dX6_clear_1 (by decide) ?_
  refine ha_puti hx hb hown hK hP hD hS r24 hN h0 dX6_clear_2 (fun S1 H locs eS1 hP hD hS => ?_)
  have hf := ha_nms hf eS1
  refine lv_aload_n hx hb dX6_clear_5 rfl (lv_at hl 0 rfl) ?_
  refine lv_iconst (v := 0) hx hb dX6_clear_6 (by decide) ?_
  refine ha_puti hx hb hown hK hP hD hS r28 hN h0 dX6_clear_7 (fun S2 H locs eS2 hP hD hS => ?_)
  have hf := ha_nms hf eS2
  refine lv_aload_n hx hb dX6_clear_10 rfl (lv_at hl 0 rfl) ?_
  refine lv_iconst (v := 0) hx hb dX6_clear_11 (by decide) ?_
  refine ha_puti hx hb hown hK hP hD hS r31 hN h0 dX6_clear_12 (fun S3 H locs eS3 hP hD hS => ?_)
  have hf := ha_nms hf eS3
  refine lv_aload_n hx hb dX6_clear_15 rfl (lv_at hl 0 rfl) ?_
  refine lv_iconst (v := 0) hx hb dX6_clear_16 (by decide) ?_
  refine ha_puti hx hb hown hK hP hD hS r34 hN h0 dX6_clear_17 (fun S4 H locs eS4 hP hD hS => ?_)
  have hf := ha_nms hf eS4
  have he := Option.some.inj hf
  exact ha_retv hx hb hr hlocks hP hD hS dX6_clear_20 he

set_option maxHeartbeats 4000000 in
set_option maxRecDepth 100000 in
theorem c_X6_add {l : Launch} {D : va_G} {cs : Nat → ClassId} {ad adK adV : Nat → Nat} {N : List Nat} {Z : State → Prop} (hZ : ha_Zok (ha_A ad N) Z) (hN : ∀ x, xo_kd x < 999 → x ∈ N) (hX : ∀ U, Z U → xo_Z adK adV (ha_A ad N) U) {p0 : Nat} {p1 : Nat} {S : ha_St} {out : ha_St} (h0 : xo_kd p0 = 6) (h1 : xo_kd p1 = 10) (hf : f_X6_add p0 p1 S = some out) : ha_Cv l D cs ad xo_kd xo_ln N Z yX6_add wsX6_add ({ frames := 1, cells := 0, slots := 0, locals := 26 } : Room) [.ref (ad p0), .ref (ad p1)] S out := by
  refine Met.ofW (cc := cX6_add) (maxL := 2) (ret := none) (by decide +kernel) rfl ?_
  intro p e s m args below meth c s₁ B hml hv
  obtain ⟨rfl, hP, hD, hK, hz⟩ := hv
  have hx := B.exec
  have hb := B.bytes
  have hr := B.returns
  have hts := atoms_spec (ws := wsX6_add) B.pre
  have hown : s.vm.findClass RX6 = some m.cls := findClass_of_methodNamed B.named
  have hlocks := B.notSynchronized
  have hS : va_S (ha_A ad N) s.heap s.heap [] := va_S.rf
  have hi6 : ∀ w ∈ wsX60, w ∈ wsX6_add := fun w h => List.mem_cons_of_mem _ (List.mem_append_left _ (List.mem_append_right _ h))
  have hi10 : ∀ w ∈ wsX100, w ∈ wsX6_add := fun w h => List.mem_cons_of_mem _ (List.mem_append_right _ h)
  have q24 : ha_Fk s ([.ref (ad p0), .ref (ad p1)] : List Value).toArray RX6 24 6 4 0 := ⟨RX6, TX6, 8, wsX6_add, rfl, by decide, by decide, rfl, rfl, hts, hi6, hts (.fieldLink RX6 24 "HillArms$Pages" "size" "I") (by decide +kernel)⟩
  have q37 : ha_Fk s ([.ref (ad p0), .ref (ad p1)] : List Value).toArray RX6 37 10 1 0 := ⟨RX10, TX10, 2, wsX6_add, rfl, by decide, by decide, rfl, rfl, hts, hi10, hts (.fieldLink RX6 37 "HillArms$Tape" "size" "I") (by decide +kernel)⟩
  have q9 : ha_Fk s ([.ref (ad p0), .ref (ad p1)] : List Value).toArray RX6 9 6 0 1 := ⟨RX6, TX6, 8, wsX6_add, rfl, by decide, by decide, rfl, rfl, hts, hi6, hts (.fieldLink RX6 9 "HillArms$Pages" "text" "[I") (by decide +kernel)⟩
  have q40 : ha_Fk s ([.ref (ad p0), .ref (ad p1)] : List Value).toArray RX6 40 10 0 1 := ⟨RX10, TX10, 2, wsX6_add, rfl, by decide, by decide, rfl, rfl, hts, hi10, hts (.fieldLink RX6 40 "HillArms$Tape" "bytes" "[I") (by decide +kernel)⟩
  have q34 : ha_Fk s ([.ref (ad p0), .ref (ad p1)] : List Value).toArray RX6 34 6 7 0 := ⟨RX6, TX6, 8, wsX6_add, rfl, by decide, by decide, rfl, rfl, hts, hi6, hts (.fieldLink RX6 34 "HillArms$Pages" "bytes" "I") (by decide +kernel)⟩
  have q31 : ha_Fk s ([.ref (ad p0), .ref (ad p1)] : List Value).toArray RX6 31 6 6 0 := ⟨RX6, TX6, 8, wsX6_add, rfl, by decide, by decide, rfl, rfl, hts, hi6, hts (.fieldLink RX6 31 "HillArms$Pages" "texts" "I") (by decide +kernel)⟩
  have r24 : ha_Fp s ([.ref (ad p0), .ref (ad p1)] : List Value).toArray RX6 24 6 4 0 .int := ⟨RX6, TX6, 8, wsX6_add, tyX6, rfl, by decide, by decide, rfl, rfl, hts, hi6, hts (.fieldLink RX6 24 "HillArms$Pages" "size" "I") (by decide +kernel), tyX6_ok, nmX6, rfl, by decide +kernel⟩
  have r34 : ha_Fp s ([.ref (ad p0), .ref (ad p1)] : List Value).toArray RX6 34 6 7 0 .int := ⟨RX6, TX6, 8, wsX6_add, tyX6, rfl, by decide, by decide, rfl, rfl, hts, hi6, hts (.fieldLink RX6 34 "HillArms$Pages" "bytes" "I") (by decide +kernel), tyX6_ok, nmX6, rfl, by decide +kernel⟩
  have r31 : ha_Fp s ([.ref (ad p0), .ref (ad p1)] : List Value).toArray RX6 31 6 6 0 .int := ⟨RX6, TX6, 8, wsX6_add, tyX6, rfl, by decide, by decide, rfl, rfl, hts, hi6, hts (.fieldLink RX6 31 "HillArms$Pages" "texts" "I") (by decide +kernel), tyX6_ok, nmX6, rfl, by decide +kernel⟩
  have cw0 := hts (.methodLink RX6 42 arraycopyName) (by decide +kernel)
  have cw1 := hts (.native arraycopyName) (by decide +kernel)
  have cw2 := hts (.static arraycopyName) (by decide +kernel)
  have cw3 := hts (.initialized "java/lang/System") (by decide +kernel)
  have hl := lv_entry ([.ref (ad p0), .ref (ad p1)]) (n := 2) (Nat.le_of_ble_eq_true rfl)
  rw [lg_entry_eq]
  generalize (lg_sl ([.ref (ad p0), .ref (ad p1)]) ++ List.replicate (2 - (lg_sl ([.ref (ad p0), .ref (ad p1)])).length) Slot.unset).toArray = ls at hl ⊢
  have hl : lv_has ls 2 [(0, .ref (ad p0)), (1, .ref (ad p1))] := hl
  refine (fun (K0 : ∀ (H : Heap) (locs : List Loc), va_P D vwCl (ha_wl cs ad xo_kd xo_ln N S) H → va_S (ha_A ad N) s.heap H locs → W p l e (headSpec wsX6_add ({ frames := 1, cells := 0, slots := 0, locals := 26 } : Room)).room s m ([.ref (ad p0), .ref (ad p1)] : List Value).toArray below meth c H locs 0 0 (MQ below (va_Qv (fun (_ : Unit) => True) (fun _ => ha_H D cs ad xo_kd xo_ln N out) (ha_A ad N)) ([.ref (ad p0), .ref (ad p1)] : List Value).toArray s 0 0 (ha_A ad N)) (F0 m 0 ls [])) => K0 _ _ hP hS) ?_
  intro H locs hP hS
  have hf := ha_rt hf
  unfold f_X6_add at hf
  refine lv_aload_n hx hb dX6_add_0 rfl (lv_at hl 0 rfl) ?_
  refine ha_geti hx hb hown hK hP q24 hN h0 dX6_add_1 ?_
  refine lv_aload_n hx hb dX6_add_4 rfl (lv_at hl 1 rfl) ?_
  refine ha_geti hx hb hown hK hP q37 hN h1 dX6_add_5 ?_
  refine lv_iadd hx hb dX6_add_8 ?_
  refine lv_iconst (v := 1) hx hb dX6_add_9 (by decide) ?_
  refine lv_iadd hx hb dX6_add_10 ?_
  refine lv_aload_n hx hb dX6_add_11 rfl (lv_at hl 0 rfl) ?_
  obtain ⟨r1, wr1, hf⟩ := ha_bds hf
  obtain ⟨wr1, hr1⟩ := ha_rf_some wr1
  refine ha_getr hx hb hown hK hP q9 hN h0 wr1 dX6_add_12 ?_
  refine ha_alen hx hb hK hP hN hr1 (by decide) (by decide) dX6_add_15 ?_
  refine lv_icmp_le (tgt := 20) hx hb dX6_add_16 (by decide) (fun c2 => ?_) (fun c2 => ?_)
  · have hf := ha_it hf c2
    refine lv_aload_n hx hb dX6_add_20 rfl (lv_at hl 1 rfl) ?_
    obtain ⟨r3, wr3, hf⟩ := ha_bds hf
    obtain ⟨wr3, hr3⟩ := ha_rf_some wr3
    refine ha_getr hx hb hown hK hP q40 hN h1 wr3 dX6_add_21 ?_
    refine lv_iconst (v := 0) hx hb dX6_add_24 (by decide) ?_
    refine lv_aload_n hx hb dX6_add_25 rfl (lv_at hl 0 rfl) ?_
    obtain ⟨r4, wr4, hf⟩ := ha_bds hf
    obtain ⟨wr4, hr4⟩ := ha_rf_some wr4
    refine ha_getr hx hb hown hK hP q9 hN h0 wr4 dX6_add_26 ?_
    refine lv_aload_n hx hb dX6_add_29 rfl (lv_at hl 0 rfl) ?_
    refine ha_geti hx hb hown hK hP q24 hN h0 dX6_add_30 ?_
    refine lv_aload_n hx hb dX6_add_33 rfl (lv_at hl 1 rfl) ?_
    refine ha_geti hx hb hown hK hP q37 hN h1 dX6_add_34 ?_
    obtain ⟨g5, hf⟩ := ha_gds hf
    refine ha_copy hx hb (hml.trans hl.1.symm) hown cw0 cw1 cw2 cw3 hK hP hD hS hN hr3 hr4 g5 (by decide) (Nat.le_of_ble_eq_true rfl) dX6_add_37 (fun S6 H locs eS6 hP hD hS => ?_)
    have hf := ha_nms hf eS6
    refine lv_aload_n hx hb dX6_add_40 rfl (lv_at hl 0 rfl) ?_
    refine lv_dup hx hb dX6_add_41 rfl ?_
    refine ha_geti hx hb hown hK hP q24 hN h0 dX6_add_42 ?_
    refine lv_aload_n hx hb dX6_add_45 rfl (lv_at hl 1 rfl) ?_
    refine ha_geti hx hb hown hK hP q37 hN h1 dX6_add_46 ?_
    refine lv_iadd hx hb dX6_add_49 ?_
    refine ha_puti hx hb hown hK hP hD hS r24 hN h0 dX6_add_50 (fun S7 H locs eS7 hP hD hS => ?_)
    have hf := ha_nms hf eS7
    refine lv_aload_n hx hb dX6_add_53 rfl (lv_at hl 0 rfl) ?_
    obtain ⟨r8, wr8, hf⟩ := ha_bds hf
    obtain ⟨wr8, hr8⟩ := ha_rf_some wr8
    refine ha_getr hx hb hown hK hP q9 hN h0 wr8 dX6_add_54 ?_
    refine lv_aload_n hx hb dX6_add_57 rfl (lv_at hl 0 rfl) ?_
    refine ha_geti hx hb hown hK hP q24 hN h0 dX6_add_58 ?_
    refine lv_iconst (v := 0) hx hb dX6_add_61 (by decide) ?_
    obtain ⟨g9, hf⟩ := ha_gds hf
    refine ha_iast hx hb hK hP hD hS hN hr8 g9 dX6_add_62 (fun S10 H locs eS10 hP hD hS => ?_)
    have hf := ha_nms hf eS10
    refine lv_aload_n hx hb dX6_add_63 rfl (lv_at hl 0 rfl) ?_
    refine lv_dup hx hb dX6_add_64 rfl ?_
    refine ha_geti hx hb hown hK hP q24 hN h0 dX6_add_65 ?_
    refine lv_iconst (v := 1) hx hb dX6_add_68 (by decide) ?_
    refine lv_iadd hx hb dX6_add_69 ?_
    refine ha_puti hx hb hown hK hP hD hS r24 hN h0 dX6_add_70 (fun S11 H locs eS11 hP hD hS => ?_)
    have hf := ha_nms hf eS11
    refine lv_aload_n hx hb dX6_add_73 rfl (lv_at hl 0 rfl) ?_
    refine lv_dup hx hb dX6_add_74 rfl ?_
    refine ha_geti hx hb hown hK hP q34 hN h0 dX6_add_75 ?_
    refine lv_aload_n hx hb dX6_add_78 rfl (lv_at hl 1 rfl) ?_
    refine ha_geti hx hb hown hK hP q37 hN h1 dX6_add_79 ?_
    refine lv_iadd hx hb dX6_add_82 ?_
    refine ha_puti hx hb hown hK hP hD hS r34 hN h0 dX6_add_83 (fun S12 H locs eS12 hP hD hS => ?_)
    have hf := ha_nms hf eS12
    refine lv_aload_n hx hb dX6_add_86 rfl (lv_at hl 0 rfl) ?_
    refine lv_dup hx hb dX6_add_87 rfl ?_
    refine ha_geti hx hb hown hK hP q31 hN h0 dX6_add_88 ?_
    refine lv_iconst (v := 1) hx hb dX6_add_91 (by decide) ?_
    refine lv_iadd hx hb dX6_add_92 ?_
    refine ha_puti hx hb hown hK hP hD hS r31 hN h0 dX6_add_93 (fun S13 H locs eS13 hP hD hS => ?_)
    have hf := ha_nms hf eS13
    have he := Option.some.inj hf
    exact ha_retv hx hb hr hlocks hP hD hS dX6_add_96 he
  · have hf := ha_if hf c2
    have he := Option.some.inj hf
    exact ha_retv hx hb hr hlocks hP hD hS dX6_add_19 he

set_option maxHeartbeats 4000000 in
set_option maxRecDepth 100000 in
theorem c_X3_fittingAt {l : Launch} {D : va_G} {cs : Nat → ClassId} {ad adK adV : Nat → Nat} {N : List Nat} {Z : State → Prop} (hZ : ha_Zok (ha_A ad N) Z) (hN : ∀ x, xo_kd x < 999 → x ∈ N) (hX : ∀ U, Z U → xo_Z adK adV (ha_A ad N) U) {p0 : Nat} {p1 : Nat} {p2 : Int32} {p3 : Int32} {S : ha_St} {out : Int32 × ha_St} (h0 : xo_kd p0 = 3) (h1 : xo_kd p1 = 100) (hf : f_X3_fittingAt p0 p1 p2 p3 S = some out) : ha_Ci l D cs ad xo_kd xo_ln N Z yX3_fittingAt wsX3_fittingAt ({ frames := 1, cells := 0, slots := 0, locals := 25 } : Room) [.ref (ad p0), .ref (ad p1), .int p2, .int p3] S out.1 out.2 := by
  refine Met.ofW (cc := cX3_fittingAt) (maxL := 7) (ret := (some .int)) (by decide +kernel) rfl ?_
  intro p e s m args below meth c s₁ B hml hv
  obtain ⟨rfl, hP, hD, hK, hz⟩ := hv
  have hx := B.exec
  have hb := B.bytes
  have hr := B.returns
  have hts := atoms_spec (ws := wsX3_fittingAt) B.pre
  have hown : s.vm.findClass RX3 = some m.cls := findClass_of_methodNamed B.named
  have hlocks := B.notSynchronized
  have hS : va_S (ha_A ad N) s.heap s.heap [] := va_S.rf
  have hi3 : ∀ w ∈ wsX30, w ∈ wsX3_fittingAt := fun w h => List.mem_cons_of_mem _ (List.mem_append_right _ h)
  have q21 : ha_Fk s ([.ref (ad p0), .ref (ad p1), .int p2, .int p3] : List Value).toArray RX3 21 3 3 0 := ⟨RX3, TX3, 4, wsX3_fittingAt, rfl, by decide, by decide, rfl, rfl, hts, hi3, hts (.fieldLink RX3 21 "HillArms$Entries" "known" "I") (by decide +kernel)⟩
  have q15 : ha_Fk s ([.ref (ad p0), .ref (ad p1), .int p2, .int p3] : List Value).toArray RX3 15 3 1 1 := ⟨RX3, TX3, 4, wsX3_fittingAt, rfl, by decide, by decide, rfl, rfl, hts, hi3, hts (.fieldLink RX3 15 "HillArms$Entries" "length" "[I") (by decide +kernel)⟩
  have cw0 := cwV (R := (headSpec wsX3_fittingAt ({ frames := 1, cells := 0, slots := 0, locals := 25 } : Room)).room) 4 hts gX3_fittingAt_X3_isAt (rm := ({ frames := 0, cells := 0, slots := 0, locals := 0 } : Room)) (mc := 0) (ms := 0) rfl rfl rfl (by decide +kernel) ⟨Nat.le_of_ble_eq_true rfl, Nat.le_of_ble_eq_true rfl⟩
  have hl := lv_entry ([.ref (ad p0), .ref (ad p1), .int p2, .int p3]) (n := 7) (Nat.le_of_ble_eq_true rfl)
  rw [lg_entry_eq]
  generalize (lg_sl ([.ref (ad p0), .ref (ad p1), .int p2, .int p3]) ++ List.replicate (7 - (lg_sl ([.ref (ad p0), .ref (ad p1), .int p2, .int p3])).length) Slot.unset).toArray = ls at hl ⊢
  have hl : lv_has ls 7 [(0, .ref (ad p0)), (1, .ref (ad p1)), (2, .int p2), (3, .int p3)] := hl
  refine (fun (K0 : ∀ (H : Heap) (locs : List Loc), va_P D vwCl (ha_wl cs ad xo_kd xo_ln N S) H → va_S (ha_A ad N) s.heap H locs → W p l e (headSpec wsX3_fittingAt ({ frames := 1, cells := 0, slots := 0, locals := 25 } : Room)).room s m ([.ref (ad p0), .ref (ad p1), .int p2, .int p3] : List Value).toArray below meth c H locs 0 0 (MQ below (va_Qi (fun (r : Int32) (_ : Unit) => r = out.1) (fun _ => ha_H D cs ad xo_kd xo_ln N out.2) (ha_A ad N)) ([.ref (ad p0), .ref (ad p1), .int p2, .int p3] : List Value).toArray s 0 0 (ha_A ad N)) (F0 m 0 ls [])) => K0 _ _ hP hS) ?_
  intro H locs hP hS
  have hf := ha_rt hf
  have J69 : ∀ (v4 : Int32) (S : ha_St) (H : Heap) (locs : List Loc) (ls : Array Slot), (f_X3_fittingAt_J69 p0 p1 p2 p3 v4 S).bind some = some out → va_P D vwCl (ha_wl cs ad xo_kd xo_ln N S) H → va_D (ha_A ad N) (ha_wl cs ad xo_kd xo_ln N S) → va_S (ha_A ad N) s.heap H locs → lv_has ls 7 [(0, .ref (ad p0)), (1, .ref (ad p1)), (2, .int p2), (3, .int p3), (4, .int v4)] → W p l e (headSpec wsX3_fittingAt ({ frames := 1, cells := 0, slots := 0, locals := 25 } : Room)).room s m ([.ref (ad p0), .ref (ad p1), .int p2, .int p3] : List Value).toArray below meth c H locs 0 0 (MQ below (va_Qi (fun (r : Int32) (_ : Unit) => r = out.1) (fun _ => ha_H D cs ad xo_kd xo_ln N out.2) (ha_A ad N)) ([.ref (ad p0), .ref (ad p1), .int p2, .int p3] : List Value).toArray s 0 0 (ha_A ad N)) (F0 m 69 ls []) := by
    intro v4 S H locs ls hf  hP hD hS hl
    unfold f_X3_fittingAt_J69 at hf
    refine lv_iload hx hb dX3_fittingAt_69 (lv_at hl 4 rfl) ?_
    have he := Option.some.inj hf
    exact ha_reti hx hb hr hlocks hP hD hS dX3_fittingAt_71 (ha_e1 he) (ha_e2 he)
  unfold f_X3_fittingAt at hf
  refine lv_iconst (v := 0) hx hb dX3_fittingAt_0 (by decide) ?_
  refine lv_istore (lv' := [(4, .int 0), (0, .ref (ad p0)), (1, .ref (ad p1)), (2, .int p2), (3, .int p3)]) hx hb dX3_fittingAt_1 hl (by decide) rfl (fun ls hl => ?_)
  refine lv_iconst (v := 0) hx hb dX3_fittingAt_3 (by decide) ?_
  refine lv_istore (lv' := [(5, .int 0), (4, .int 0), (0, .ref (ad p0)), (1, .ref (ad p1)), (2, .int p2), (3, .int p3)]) hx hb dX3_fittingAt_4 hl (by decide) rfl (fun ls hl => ?_)
  have key13 : ∀ (K : (Int32 × ha_St) → Option (Int32 × ha_St)), (∀ (v4 : Int32) (S : ha_St) (H : Heap) (locs : List Loc) (ls : Array Slot), K (v4, S) = some out → va_P D vwCl (ha_wl cs ad xo_kd xo_ln N S) H → va_D (ha_A ad N) (ha_wl cs ad xo_kd xo_ln N S) → va_S (ha_A ad N) s.heap H locs → lv_has ls 7 [(0, .ref (ad p0)), (1, .ref (ad p1)), (2, .int p2), (3, .int p3), (4, .int v4)] → W p l e (headSpec wsX3_fittingAt ({ frames := 1, cells := 0, slots := 0, locals := 25 } : Room)).room s m ([.ref (ad p0), .ref (ad p1), .int p2, .int p3] : List Value).toArray below meth c H locs 0 0 (MQ below (va_Qi (fun (r : Int32) (_ : Unit) => r = out.1) (fun _ => ha_H D cs ad xo_kd xo_ln N out.2) (ha_A ad N)) ([.ref (ad p0), .ref (ad p1), .int p2, .int p3] : List Value).toArray s 0 0 (ha_A ad N)) (F0 m 69 ls [])) → ∀ (n : Nat) (v4 : Int32) (v5 : Int32) (S : ha_St) (H : Heap) (locs : List Loc) (ls : Array Slot), (f_X3_fittingAt_L6i p0 p1 p2 p3 n (v4, v5, S)).bind K = some out → va_P D vwCl (ha_wl cs ad xo_kd xo_ln N S) H → va_D (ha_A ad N) (ha_wl cs ad xo_kd xo_ln N S) → va_S (ha_A ad N) s.heap H locs → lv_has ls 7 [(0, .ref (ad p0)), (1, .ref (ad p1)), (2, .int p2), (3, .int p3), (4, .int v4), (5, .int v5)] → W p l e (headSpec wsX3_fittingAt ({ frames := 1, cells := 0, slots := 0, locals := 25 } : Room)).room s m ([.ref (ad p0), .ref (ad p1), .int p2, .int p3] : List Value).toArray below meth c H locs 0 0 (MQ below (va_Qi (fun (r : Int32) (_ : Unit) => r = out.1) (fun _ => ha_H D cs ad xo_kd xo_ln N out.2) (ha_A ad N)) ([.ref (ad p0), .ref (ad p1), .int p2, .int p3] : List Value).toArray s 0 0 (ha_A ad N)) (F0 m 6 ls []) := by
    intro K hk n
    induction n with
    | zero =>
      intro v4 v5 S H locs ls hf
      exact absurd (show (none : Option (Int32 × ha_St)) = some out from hf) (fun h => by cases h)
    | succ n ih =>
      intro v4 v5 S H locs ls hf  hP hD hS hl
      have J63 : ∀ (v4 : Int32) (v5 : Int32) (S : ha_St) (H : Heap) (locs : List Loc) (ls : Array Slot), (f_X3_fittingAt_L6_J63 p0 p1 p2 p3 (f_X3_fittingAt_L6i p0 p1 p2 p3 n) v4 v5 S).bind K = some out → va_P D vwCl (ha_wl cs ad xo_kd xo_ln N S) H → va_D (ha_A ad N) (ha_wl cs ad xo_kd xo_ln N S) → va_S (ha_A ad N) s.heap H locs → lv_has ls 7 [(0, .ref (ad p0)), (1, .ref (ad p1)), (2, .int p2), (3, .int p3), (4, .int v4), (5, .int v5)] → W p l e (headSpec wsX3_fittingAt ({ frames := 1, cells := 0, slots := 0, locals := 25 } : Room)).room s m ([.ref (ad p0), .ref (ad p1), .int p2, .int p3] : List Value).toArray below meth c H locs 0 0 (MQ below (va_Qi (fun (r : Int32) (_ : Unit) => r = out.1) (fun _ => ha_H D cs ad xo_kd xo_ln N out.2) (ha_A ad N)) ([.ref (ad p0), .ref (ad p1), .int p2, .int p3] : List Value).toArray s 0 0 (ha_A ad N)) (F0 m 63 ls []) := by
        intro v4 v5 S H locs ls hf  hP hD hS hl
        unfold f_X3_fittingAt_L6_J63 at hf
        obtain ⟨x1, ex1⟩ : ∃ y : Int32, y = (v5 : Int32) + 1 := ⟨_, rfl⟩
        have hf := ha_nms hf ex1
        refine lv_iinc (v := x1) (lv' := [(5, .int x1), (0, .ref (ad p0)), (1, .ref (ad p1)), (2, .int p2), (3, .int p3), (4, .int v4)]) hx hb dX3_fittingAt_63 hl (k := 5) rfl (by rw [ex1]; rfl) (by decide) rfl (fun ls hl => ?_)
        refine lv_goto (tgt := 6) hx hb dX3_fittingAt_66 (by decide) ?_
        exact ih v4 x1 S H locs ls hf  hP hD hS (lv_sub hl [1, 2, 3, 4, 5, 0] rfl)
      have J54 : ∀ (v4 : Int32) (v5 : Int32) (S : ha_St) (H : Heap) (locs : List Loc) (ls : Array Slot), (f_X3_fittingAt_L6_J54 p0 p1 p2 p3 (f_X3_fittingAt_L6i p0 p1 p2 p3 n) v4 v5 S).bind K = some out → va_P D vwCl (ha_wl cs ad xo_kd xo_ln N S) H → va_D (ha_A ad N) (ha_wl cs ad xo_kd xo_ln N S) → va_S (ha_A ad N) s.heap H locs → lv_has ls 7 [(0, .ref (ad p0)), (1, .ref (ad p1)), (2, .int p2), (3, .int p3), (4, .int v4), (5, .int v5)] → W p l e (headSpec wsX3_fittingAt ({ frames := 1, cells := 0, slots := 0, locals := 25 } : Room)).room s m ([.ref (ad p0), .ref (ad p1), .int p2, .int p3] : List Value).toArray below meth c H locs 0 0 (MQ below (va_Qi (fun (r : Int32) (_ : Unit) => r = out.1) (fun _ => ha_H D cs ad xo_kd xo_ln N out.2) (ha_A ad N)) ([.ref (ad p0), .ref (ad p1), .int p2, .int p3] : List Value).toArray s 0 0 (ha_A ad N)) (F0 m 54 ls []) := by
        intro v4 v5 S H locs ls hf  hP hD hS hl
        unfold f_X3_fittingAt_L6_J54 at hf
        refine lv_iload hx hb dX3_fittingAt_54 (lv_at hl 4 rfl) ?_
        refine lv_iconst (v := 1) hx hb dX3_fittingAt_56 (by decide) ?_
        refine lv_iload hx hb dX3_fittingAt_57 (lv_at hl 5 rfl) ?_
        refine lv_ishl hx hb dX3_fittingAt_59 ?_
        refine lv_ior hx hb dX3_fittingAt_60 ?_
        refine lv_topi (fun x2 ex2 => ?_)
        have hf := ha_nms hf ex2
        refine lv_istore (lv' := [(4, .int x2), (0, .ref (ad p0)), (1, .ref (ad p1)), (2, .int p2), (3, .int p3), (5, .int v5)]) hx hb dX3_fittingAt_61 hl (by decide) rfl (fun ls hl => ?_)
        exact J63 x2 v5 S H locs ls hf  hP hD hS (lv_sub hl [1, 2, 3, 4, 0, 5] rfl)
      have hf : (f_X3_fittingAt_L6 p0 p1 p2 p3 (f_X3_fittingAt_L6i p0 p1 p2 p3 n) v4 v5 S).bind K = some out := hf
      unfold f_X3_fittingAt_L6 at hf
      refine lv_iload hx hb dX3_fittingAt_6 (lv_at hl 5 rfl) ?_
      refine lv_aload_n hx hb dX3_fittingAt_8 rfl (lv_at hl 0 rfl) ?_
      refine ha_geti hx hb hown hK hP q21 hN h0 dX3_fittingAt_9 ?_
      refine lv_icmp_ge (tgt := 69) hx hb dX3_fittingAt_12 (by decide) (fun c3 => ?_) (fun c3 => ?_)
      · have hf := ha_it hf c3
        exact hk v4 S H locs ls hf  hP hD hS (lv_sub hl [0, 1, 2, 3, 4] rfl)
      · have hf := ha_if hf c3
        refine lv_iload_n hx hb dX3_fittingAt_15 rfl (lv_at hl 2 rfl) ?_
        refine lv_aload_n hx hb dX3_fittingAt_16 rfl (lv_at hl 0 rfl) ?_
        obtain ⟨r4, wr4, hf⟩ := ha_bds hf
        obtain ⟨wr4, hr4⟩ := ha_rf_some wr4
        refine ha_getr hx hb hown hK hP q15 hN h0 wr4 dX3_fittingAt_17 ?_
        refine lv_iload hx hb dX3_fittingAt_20 (lv_at hl 5 rfl) ?_
        obtain ⟨g5, hf⟩ := ha_gds hf
        refine ha_iald hx hb hK hP hN hr4 g5 dX3_fittingAt_22 ?_
        refine lv_iadd hx hb dX3_fittingAt_23 ?_
        refine lv_topi (fun x6 ex6 => ?_)
        have hf := ha_nms hf ex6
        refine lv_istore (lv' := [(6, .int x6), (0, .ref (ad p0)), (1, .ref (ad p1)), (2, .int p2), (3, .int p3), (4, .int v4), (5, .int v5)]) hx hb dX3_fittingAt_24 hl (by decide) rfl (fun ls hl => ?_)
        refine lv_aload_n hx hb dX3_fittingAt_26 rfl (lv_at hl 1 rfl) ?_
        refine lv_iload hx hb dX3_fittingAt_27 (lv_at hl 6 rfl) ?_
        refine lv_aload_n hx hb dX3_fittingAt_29 rfl (lv_at hl 2 rfl) ?_
        refine lv_iload_n hx hb dX3_fittingAt_30 rfl (lv_at hl 3 rfl) ?_
        refine lv_iload_n hx hb dX3_fittingAt_31 rfl (lv_at hl 4 rfl) ?_
        obtain ⟨z7, wz7, hf⟩ := ha_bds hf
        refine ha_callVi (As := [.int v5, .ref (ad p1), .int p2, .int p3]) (rest := []) hZ ⟨hx, hb, hml, hown, hts⟩ hK hz hP hD hS (c_X3_isAt hZ hN hX h0 h1 wz7) cw0 hN h0 (by decide) rfl rfl hl.1 rfl (Nat.le_of_ble_eq_true rfl) dX3_fittingAt_32 ⟨Nat.le_of_ble_eq_true rfl, Nat.le_of_ble_eq_true rfl⟩ (fun H locs hP hD hS => ?_)
        refine lv_if_eq (tgt := 63) hx hb dX3_fittingAt_35 (by decide) (fun c8 => ?_) (fun c8 => ?_)
        · have hf := ha_it hf c8
          exact J63 v4 v5 z7.2 H locs ls hf  hP hD hS (lv_sub hl [1, 2, 3, 4, 5, 6] rfl)
        · have hf := ha_if hf c8
          refine lv_iload hx hb dX3_fittingAt_38 (lv_at hl 0 rfl) ?_
          refine lv_iload_n hx hb dX3_fittingAt_40 rfl (lv_at hl 4 rfl) ?_
          refine lv_icmp_ge (tgt := 54) hx hb dX3_fittingAt_41 (by decide) (fun c9 => ?_) (fun c9 => ?_)
          · have hf := ha_it hf c9
            exact J54 v4 v5 z7.2 H locs ls hf  hP hD hS (lv_sub hl [1, 2, 3, 4, 5, 6] rfl)
          · have hf := ha_if hf c9
            refine lv_aload_n hx hb dX3_fittingAt_44 rfl (lv_at hl 2 rfl) ?_
            refine lv_iload hx hb dX3_fittingAt_45 (lv_at hl 0 rfl) ?_
            obtain ⟨g10, hf⟩ := ha_gds hf
            refine ha_iald hx hb hK hP hN h1 g10 dX3_fittingAt_47 ?_
            obtain ⟨z11, wz11, hf⟩ := ha_bds hf
            refine ha_callNi (As := [.int ((ha_gA z7.2 p1 (x6 : Int32).toNatClampNeg))]) (rest := []) hZ ⟨hx, hb, hml, hown, hts⟩ hK hz hP hD hS (c_X11_isLetter   wz11) ⟨va_cnB 1 hts gX3_fittingAt_X11_isLetter_n35 (rm := ({ frames := 0, cells := 0, slots := 0, locals := 0 } : Room)) (mc := 0) (ms := 0) rfl rfl rfl (xo_nl_X3_35 (hX s hz)) (hts (.initialized RX11) (by decide +kernel)) (by decide +kernel) ⟨Nat.le_of_ble_eq_true rfl, Nat.le_of_ble_eq_true rfl⟩, hts (.static yX11_isLetter) (by decide +kernel), trivial⟩ rfl hl.1 rfl (Nat.le_of_ble_eq_true rfl) dX3_fittingAt_48 ⟨Nat.le_of_ble_eq_true rfl, Nat.le_of_ble_eq_true rfl⟩ (fun H locs hP hD hS => ?_)
            refine lv_if_ne (tgt := 63) hx hb dX3_fittingAt_51 (by decide) (fun c12 => ?_) (fun c12 => ?_)
            · have hf := ha_it hf c12
              exact J63 v4 v5 z7.2 H locs ls hf  hP hD hS (lv_sub hl [1, 2, 3, 4, 5, 6] rfl)
            · have hf := ha_if hf (fun q => q c12)
              exact J54 v4 v5 z7.2 H locs ls hf  hP hD hS (lv_sub hl [1, 2, 3, 4, 5, 6] rfl)
  refine key13 _ (fun v4 S H locs ls hf  hP hD hS hl => ?_) ha_fu 0 0 S H locs ls (ha_as hf)  hP hD hS (lv_sub hl [2, 3, 4, 5, 1, 0] rfl)
  have hf : (f_X3_fittingAt_J69 p0 p1 p2 p3 v4 S).bind some = some out := hf
  exact J69 v4 S H locs ls hf  hP hD hS (lv_sub hl [0, 1, 2, 3, 4] rfl)

set_option maxHeartbeats 4000000 in
set_option maxRecDepth 100000 in
theorem c_X6_mark {l : Launch} {D : va_G} {cs : Nat → ClassId} {ad adK adV : Nat → Nat} {N : List Nat} {Z : State → Prop} (hZ : ha_Zok (ha_A ad N) Z) (hN : ∀ x, xo_kd x < 999 → x ∈ N) (hX : ∀ U, Z U → xo_Z adK adV (ha_A ad N) U) {p0 : Nat} {p1 : Nat} {S : ha_St} {out : ha_St} (h0 : xo_kd p0 = 6) (h1 : xo_kd p1 = 3) (hf : f_X6_mark p0 p1 S = some out) : ha_Cv l D cs ad xo_kd xo_ln N Z yX6_mark wsX6_mark ({ frames := 2, cells := 0, slots := 0, locals := 51 } : Room) [.ref (ad p0), .ref (ad p1)] S out := by
  refine Met.ofW (cc := cX6_mark) (maxL := 3) (ret := none) (by decide +kernel) rfl ?_
  intro p e s m args below meth c s₁ B hml hv
  obtain ⟨rfl, hP, hD, hK, hz⟩ := hv
  have hx := B.exec
  have hb := B.bytes
  have hr := B.returns
  have hts := atoms_spec (ws := wsX6_mark) B.pre
  have hown : s.vm.findClass RX6 = some m.cls := findClass_of_methodNamed B.named
  have hlocks := B.notSynchronized
  have hS : va_S (ha_A ad N) s.heap s.heap [] := va_S.rf
  have hi6 : ∀ w ∈ wsX60, w ∈ wsX6_mark := fun w h => List.mem_cons_of_mem _ (List.mem_append_left _ (List.mem_append_right _ h))
  have q15 : ha_Fk s ([.ref (ad p0), .ref (ad p1)] : List Value).toArray RX6 15 6 1 1 := ⟨RX6, TX6, 8, wsX6_mark, rfl, by decide, by decide, rfl, rfl, hts, hi6, hts (.fieldLink RX6 15 "HillArms$Pages" "wordAt" "[I") (by decide +kernel)⟩
  have q28 : ha_Fk s ([.ref (ad p0), .ref (ad p1)] : List Value).toArray RX6 28 6 5 0 := ⟨RX6, TX6, 8, wsX6_mark, rfl, by decide, by decide, rfl, rfl, hts, hi6, hts (.fieldLink RX6 28 "HillArms$Pages" "words" "I") (by decide +kernel)⟩
  have q18 : ha_Fk s ([.ref (ad p0), .ref (ad p1)] : List Value).toArray RX6 18 6 2 1 := ⟨RX6, TX6, 8, wsX6_mark, rfl, by decide, by decide, rfl, rfl, hts, hi6, hts (.fieldLink RX6 18 "HillArms$Pages" "fitting" "[I") (by decide +kernel)⟩
  have q9 : ha_Fk s ([.ref (ad p0), .ref (ad p1)] : List Value).toArray RX6 9 6 0 1 := ⟨RX6, TX6, 8, wsX6_mark, rfl, by decide, by decide, rfl, rfl, hts, hi6, hts (.fieldLink RX6 9 "HillArms$Pages" "text" "[I") (by decide +kernel)⟩
  have q24 : ha_Fk s ([.ref (ad p0), .ref (ad p1)] : List Value).toArray RX6 24 6 4 0 := ⟨RX6, TX6, 8, wsX6_mark, rfl, by decide, by decide, rfl, rfl, hts, hi6, hts (.fieldLink RX6 24 "HillArms$Pages" "size" "I") (by decide +kernel)⟩
  have r28 : ha_Fp s ([.ref (ad p0), .ref (ad p1)] : List Value).toArray RX6 28 6 5 0 .int := ⟨RX6, TX6, 8, wsX6_mark, tyX6, rfl, by decide, by decide, rfl, rfl, hts, hi6, hts (.fieldLink RX6 28 "HillArms$Pages" "words" "I") (by decide +kernel), tyX6_ok, nmX6, rfl, by decide +kernel⟩
  have cw0 := cwV (R := (headSpec wsX6_mark ({ frames := 2, cells := 0, slots := 0, locals := 51 } : Room)).room) 3 hts gX6_mark_X3_fittingAt (rm := ({ frames := 1, cells := 0, slots := 0, locals := 25 } : Room)) (mc := 0) (ms := 0) rfl rfl rfl (by decide +kernel) ⟨Nat.le_of_ble_eq_true rfl, Nat.le_of_ble_eq_true rfl⟩
  have hl := lv_entry ([.ref (ad p0), .ref (ad p1)]) (n := 3) (Nat.le_of_ble_eq_true rfl)
  rw [lg_entry_eq]
  generalize (lg_sl ([.ref (ad p0), .ref (ad p1)]) ++ List.replicate (3 - (lg_sl ([.ref (ad p0), .ref (ad p1)])).length) Slot.unset).toArray = ls at hl ⊢
  have hl : lv_has ls 3 [(0, .ref (ad p0)), (1, .ref (ad p1))] := hl
  refine (fun (K0 : ∀ (H : Heap) (locs : List Loc), va_P D vwCl (ha_wl cs ad xo_kd xo_ln N S) H → va_S (ha_A ad N) s.heap H locs → W p l e (headSpec wsX6_mark ({ frames := 2, cells := 0, slots := 0, locals := 51 } : Room)).room s m ([.ref (ad p0), .ref (ad p1)] : List Value).toArray below meth c H locs 0 0 (MQ below (va_Qv (fun (_ : Unit) => True) (fun _ => ha_H D cs ad xo_kd xo_ln N out) (ha_A ad N)) ([.ref (ad p0), .ref (ad p1)] : List Value).toArray s 0 0 (ha_A ad N)) (F0 m 0 ls [])) => K0 _ _ hP hS) ?_
  intro H locs hP hS
  have hf := ha_rt hf
  have J107 : ∀  (S : ha_St) (H : Heap) (locs : List Loc) (ls : Array Slot), (f_X6_mark_J107 p0 p1  S).bind some = some out → va_P D vwCl (ha_wl cs ad xo_kd xo_ln N S) H → va_D (ha_A ad N) (ha_wl cs ad xo_kd xo_ln N S) → va_S (ha_A ad N) s.heap H locs → lv_has ls 3 [(0, .ref (ad p0)), (1, .ref (ad p1))] → W p l e (headSpec wsX6_mark ({ frames := 2, cells := 0, slots := 0, locals := 51 } : Room)).room s m ([.ref (ad p0), .ref (ad p1)] : List Value).toArray below meth c H locs 0 0 (MQ below (va_Qv (fun (_ : Unit) => True) (fun _ => ha_H D cs ad xo_kd xo_ln N out) (ha_A ad N)) ([.ref (ad p0), .ref (ad p1)] : List Value).toArray s 0 0 (ha_A ad N)) (F0 m 107 ls []) := by
    intro  S H locs ls hf  hP hD hS hl
    unfold f_X6_mark_J107 at hf
    have he := Option.some.inj hf
    exact ha_retv hx hb hr hlocks hP hD hS dX6_mark_107 he
  unfold f_X6_mark at hf
  refine lv_aload_n hx hb dX6_mark_0 rfl (lv_at hl 0 rfl) ?_
  refine lv_iconst (v := 0) hx hb dX6_mark_1 (by decide) ?_
  refine ha_puti hx hb hown hK hP hD hS r28 hN h0 dX6_mark_2 (fun S1 H locs eS1 hP hD hS => ?_)
  have hf := ha_nms hf eS1
  refine lv_iconst (v := 0) hx hb dX6_mark_5 (by decide) ?_
  refine lv_istore_n (lv' := [(2, .int 0), (0, .ref (ad p0)), (1, .ref (ad p1))]) hx hb dX6_mark_6 rfl hl (by decide) rfl (fun ls hl => ?_)
  have key24 : ∀ (K : (ha_St) → Option (ha_St)), (∀  (S : ha_St) (H : Heap) (locs : List Loc) (ls : Array Slot), K S = some out → va_P D vwCl (ha_wl cs ad xo_kd xo_ln N S) H → va_D (ha_A ad N) (ha_wl cs ad xo_kd xo_ln N S) → va_S (ha_A ad N) s.heap H locs → lv_has ls 3 [(0, .ref (ad p0)), (1, .ref (ad p1))] → W p l e (headSpec wsX6_mark ({ frames := 2, cells := 0, slots := 0, locals := 51 } : Room)).room s m ([.ref (ad p0), .ref (ad p1)] : List Value).toArray below meth c H locs 0 0 (MQ below (va_Qv (fun (_ : Unit) => True) (fun _ => ha_H D cs ad xo_kd xo_ln N out) (ha_A ad N)) ([.ref (ad p0), .ref (ad p1)] : List Value).toArray s 0 0 (ha_A ad N)) (F0 m 107 ls [])) → ∀ (n : Nat) (v2 : Int32) (S : ha_St) (H : Heap) (locs : List Loc) (ls : Array Slot), (f_X6_mark_L7i p0 p1 n (v2, S)).bind K = some out → va_P D vwCl (ha_wl cs ad xo_kd xo_ln N S) H → va_D (ha_A ad N) (ha_wl cs ad xo_kd xo_ln N S) → va_S (ha_A ad N) s.heap H locs → lv_has ls 3 [(0, .ref (ad p0)), (1, .ref (ad p1)), (2, .int v2)] → W p l e (headSpec wsX6_mark ({ frames := 2, cells := 0, slots := 0, locals := 51 } : Room)).room s m ([.ref (ad p0), .ref (ad p1)] : List Value).toArray below meth c H locs 0 0 (MQ below (va_Qv (fun (_ : Unit) => True) (fun _ => ha_H D cs ad xo_kd xo_ln N out) (ha_A ad N)) ([.ref (ad p0), .ref (ad p1)] : List Value).toArray s 0 0 (ha_A ad N)) (F0 m 7 ls []) := by
    intro K hk n
    induction n with
    | zero =>
      intro v2 S H locs ls hf
      exact absurd (show (none : Option (ha_St)) = some out from hf) (fun h => by cases h)
    | succ n ih =>
      intro v2 S H locs ls hf  hP hD hS hl
      have J101 : ∀ (v2 : Int32) (S : ha_St) (H : Heap) (locs : List Loc) (ls : Array Slot), (f_X6_mark_L7_J101 p0 p1 (f_X6_mark_L7i p0 p1 n) v2 S).bind K = some out → va_P D vwCl (ha_wl cs ad xo_kd xo_ln N S) H → va_D (ha_A ad N) (ha_wl cs ad xo_kd xo_ln N S) → va_S (ha_A ad N) s.heap H locs → lv_has ls 3 [(0, .ref (ad p0)), (1, .ref (ad p1)), (2, .int v2)] → W p l e (headSpec wsX6_mark ({ frames := 2, cells := 0, slots := 0, locals := 51 } : Room)).room s m ([.ref (ad p0), .ref (ad p1)] : List Value).toArray below meth c H locs 0 0 (MQ below (va_Qv (fun (_ : Unit) => True) (fun _ => ha_H D cs ad xo_kd xo_ln N out) (ha_A ad N)) ([.ref (ad p0), .ref (ad p1)] : List Value).toArray s 0 0 (ha_A ad N)) (F0 m 101 ls []) := by
        intro v2 S H locs ls hf  hP hD hS hl
        unfold f_X6_mark_L7_J101 at hf
        obtain ⟨x2, ex2⟩ : ∃ y : Int32, y = (v2 : Int32) + 1 := ⟨_, rfl⟩
        have hf := ha_nms hf ex2
        refine lv_iinc (v := x2) (lv' := [(2, .int x2), (0, .ref (ad p0)), (1, .ref (ad p1))]) hx hb dX6_mark_101 hl (k := 2) rfl (by rw [ex2]; rfl) (by decide) rfl (fun ls hl => ?_)
        refine lv_goto (tgt := 7) hx hb dX6_mark_104 (by decide) ?_
        exact ih x2 S H locs ls hf  hP hD hS (lv_sub hl [1, 2, 0] rfl)
      have J59 : ∀ (v2 : Int32) (S : ha_St) (H : Heap) (locs : List Loc) (ls : Array Slot), (f_X6_mark_L7_J59 p0 p1 (f_X6_mark_L7i p0 p1 n) v2 S).bind K = some out → va_P D vwCl (ha_wl cs ad xo_kd xo_ln N S) H → va_D (ha_A ad N) (ha_wl cs ad xo_kd xo_ln N S) → va_S (ha_A ad N) s.heap H locs → lv_has ls 3 [(0, .ref (ad p0)), (1, .ref (ad p1)), (2, .int v2)] → W p l e (headSpec wsX6_mark ({ frames := 2, cells := 0, slots := 0, locals := 51 } : Room)).room s m ([.ref (ad p0), .ref (ad p1)] : List Value).toArray below meth c H locs 0 0 (MQ below (va_Qv (fun (_ : Unit) => True) (fun _ => ha_H D cs ad xo_kd xo_ln N out) (ha_A ad N)) ([.ref (ad p0), .ref (ad p1)] : List Value).toArray s 0 0 (ha_A ad N)) (F0 m 59 ls []) := by
        intro v2 S H locs ls hf  hP hD hS hl
        unfold f_X6_mark_L7_J59 at hf
        refine lv_aload_n hx hb dX6_mark_59 rfl (lv_at hl 0 rfl) ?_
        obtain ⟨r3, wr3, hf⟩ := ha_bds hf
        obtain ⟨wr3, hr3⟩ := ha_rf_some wr3
        refine ha_getr hx hb hown hK hP q15 hN h0 wr3 dX6_mark_60 ?_
        refine lv_aload_n hx hb dX6_mark_63 rfl (lv_at hl 0 rfl) ?_
        refine ha_geti hx hb hown hK hP q28 hN h0 dX6_mark_64 ?_
        refine lv_iload_n hx hb dX6_mark_67 rfl (lv_at hl 2 rfl) ?_
        obtain ⟨g4, hf⟩ := ha_gds hf
        refine ha_iast hx hb hK hP hD hS hN hr3 g4 dX6_mark_68 (fun S5 H locs eS5 hP hD hS => ?_)
        have hf := ha_nms hf eS5
        refine lv_aload_n hx hb dX6_mark_69 rfl (lv_at hl 0 rfl) ?_
        obtain ⟨r6, wr6, hf⟩ := ha_bds hf
        obtain ⟨wr6, hr6⟩ := ha_rf_some wr6
        refine ha_getr hx hb hown hK hP q18 hN h0 wr6 dX6_mark_70 ?_
        refine lv_aload_n hx hb dX6_mark_73 rfl (lv_at hl 0 rfl) ?_
        refine ha_geti hx hb hown hK hP q28 hN h0 dX6_mark_74 ?_
        refine lv_aload_n hx hb dX6_mark_77 rfl (lv_at hl 1 rfl) ?_
        refine lv_aload_n hx hb dX6_mark_78 rfl (lv_at hl 0 rfl) ?_
        obtain ⟨r7, wr7, hf⟩ := ha_bds hf
        obtain ⟨wr7, hr7⟩ := ha_rf_some wr7
        refine ha_getr hx hb hown hK hP q9 hN h0 wr7 dX6_mark_79 ?_
        refine lv_iload_n hx hb dX6_mark_82 rfl (lv_at hl 2 rfl) ?_
        refine lv_aload_n hx hb dX6_mark_83 rfl (lv_at hl 0 rfl) ?_
        refine ha_geti hx hb hown hK hP q24 hN h0 dX6_mark_84 ?_
        obtain ⟨z8, wz8, hf⟩ := ha_bds hf
        refine ha_callVi (As := [.ref (ad r7), .int v2, .int ((ha_gI S5 p0 4))]) (rest := [.int ((ha_gI S5 p0 5)), .ref (ad r6)]) hZ ⟨hx, hb, hml, hown, hts⟩ hK hz hP hD hS (c_X3_fittingAt hZ hN hX h1 hr7 wz8) cw0 hN h1 (by decide) rfl rfl hl.1 rfl (Nat.le_of_ble_eq_true rfl) dX6_mark_87 ⟨Nat.le_of_ble_eq_true rfl, Nat.le_of_ble_eq_true rfl⟩ (fun H locs hP hD hS => ?_)
        obtain ⟨g9, hf⟩ := ha_gds hf
        refine ha_iast hx hb hK hP hD hS hN hr6 g9 dX6_mark_90 (fun S10 H locs eS10 hP hD hS => ?_)
        have hf := ha_nms hf eS10
        refine lv_aload_n hx hb dX6_mark_91 rfl (lv_at hl 0 rfl) ?_
        refine lv_dup hx hb dX6_mark_92 rfl ?_
        refine ha_geti hx hb hown hK hP q28 hN h0 dX6_mark_93 ?_
        refine lv_iconst (v := 1) hx hb dX6_mark_96 (by decide) ?_
        refine lv_iadd hx hb dX6_mark_97 ?_
        refine ha_puti hx hb hown hK hP hD hS r28 hN h0 dX6_mark_98 (fun S11 H locs eS11 hP hD hS => ?_)
        have hf := ha_nms hf eS11
        exact J101 v2 S11 H locs ls hf  hP hD hS (lv_sub hl [0, 1, 2] rfl)
      have hf : (f_X6_mark_L7 p0 p1 (f_X6_mark_L7i p0 p1 n) v2 S).bind K = some out := hf
      unfold f_X6_mark_L7 at hf
      refine lv_iload_n hx hb dX6_mark_7 rfl (lv_at hl 2 rfl) ?_
      refine lv_aload_n hx hb dX6_mark_8 rfl (lv_at hl 0 rfl) ?_
      refine ha_geti hx hb hown hK hP q24 hN h0 dX6_mark_9 ?_
      refine lv_icmp_ge (tgt := 107) hx hb dX6_mark_12 (by decide) (fun c12 => ?_) (fun c12 => ?_)
      · have hf := ha_it hf c12
        exact hk  S H locs ls hf  hP hD hS (lv_sub hl [0, 1] rfl)
      · have hf := ha_if hf c12
        refine lv_aload_n hx hb dX6_mark_15 rfl (lv_at hl 0 rfl) ?_
        refine ha_geti hx hb hown hK hP q28 hN h0 dX6_mark_16 ?_
        refine lv_aload_n hx hb dX6_mark_19 rfl (lv_at hl 0 rfl) ?_
        obtain ⟨r13, wr13, hf⟩ := ha_bds hf
        obtain ⟨wr13, hr13⟩ := ha_rf_some wr13
        refine ha_getr hx hb hown hK hP q15 hN h0 wr13 dX6_mark_20 ?_
        refine ha_alen hx hb hK hP hN hr13 (by decide) (by decide) dX6_mark_23 ?_
        refine lv_iconst (v := 1) hx hb dX6_mark_24 (by decide) ?_
        refine lv_isub hx hb dX6_mark_25 ?_
        refine lv_icmp_ge (tgt := 107) hx hb dX6_mark_26 (by decide) (fun c14 => ?_) (fun c14 => ?_)
        · have hf := ha_it hf c14
          exact hk  S H locs ls hf  hP hD hS (lv_sub hl [0, 1] rfl)
        · have hf := ha_if hf c14
          refine lv_aload_n hx hb dX6_mark_29 rfl (lv_at hl 0 rfl) ?_
          obtain ⟨r15, wr15, hf⟩ := ha_bds hf
          obtain ⟨wr15, hr15⟩ := ha_rf_some wr15
          refine ha_getr hx hb hown hK hP q9 hN h0 wr15 dX6_mark_30 ?_
          refine lv_iload_n hx hb dX6_mark_33 rfl (lv_at hl 2 rfl) ?_
          obtain ⟨g16, hf⟩ := ha_gds hf
          refine ha_iald hx hb hK hP hN hr15 g16 dX6_mark_34 ?_
          obtain ⟨z17, wz17, hf⟩ := ha_bds hf
          refine ha_callNi (As := [.int ((ha_gA S r15 (v2 : Int32).toNatClampNeg))]) (rest := []) hZ ⟨hx, hb, hml, hown, hts⟩ hK hz hP hD hS (c_X11_isLetter   wz17) ⟨va_cnB 1 hts gX6_mark_X11_isLetter_n48 (rm := ({ frames := 0, cells := 0, slots := 0, locals := 0 } : Room)) (mc := 0) (ms := 0) rfl rfl rfl (xo_nl_X6_48 (hX s hz)) (hts (.initialized RX11) (by decide +kernel)) (by decide +kernel) ⟨Nat.le_of_ble_eq_true rfl, Nat.le_of_ble_eq_true rfl⟩, hts (.static yX11_isLetter) (by decide +kernel), trivial⟩ rfl hl.1 rfl (Nat.le_of_ble_eq_true rfl) dX6_mark_35 ⟨Nat.le_of_ble_eq_true rfl, Nat.le_of_ble_eq_true rfl⟩ (fun H locs hP hD hS => ?_)
          refine lv_if_eq (tgt := 101) hx hb dX6_mark_38 (by decide) (fun c18 => ?_) (fun c18 => ?_)
          · have hf := ha_it hf c18
            exact J101 v2 S H locs ls hf  hP hD hS (lv_sub hl [0, 1, 2] rfl)
          · have hf := ha_if hf c18
            refine lv_iload_n hx hb dX6_mark_41 rfl (lv_at hl 2 rfl) ?_
            refine lv_if_eq (tgt := 59) hx hb dX6_mark_42 (by decide) (fun c19 => ?_) (fun c19 => ?_)
            · have hf := ha_it hf c19
              exact J59 v2 S H locs ls hf  hP hD hS (lv_sub hl [0, 1, 2] rfl)
            · have hf := ha_if hf c19
              refine lv_aload_n hx hb dX6_mark_45 rfl (lv_at hl 0 rfl) ?_
              obtain ⟨r20, wr20, hf⟩ := ha_bds hf
              obtain ⟨wr20, hr20⟩ := ha_rf_some wr20
              refine ha_getr hx hb hown hK hP q9 hN h0 wr20 dX6_mark_46 ?_
              refine lv_iload_n hx hb dX6_mark_49 rfl (lv_at hl 2 rfl) ?_
              refine lv_iconst (v := 1) hx hb dX6_mark_50 (by decide) ?_
              refine lv_isub hx hb dX6_mark_51 ?_
              obtain ⟨g21, hf⟩ := ha_gds hf
              refine ha_iald hx hb hK hP hN hr20 g21 dX6_mark_52 ?_
              obtain ⟨z22, wz22, hf⟩ := ha_bds hf
              refine ha_callNi (As := [.int ((ha_gA S r20 (((v2 : Int32) - 1) : Int32).toNatClampNeg))]) (rest := []) hZ ⟨hx, hb, hml, hown, hts⟩ hK hz hP hD hS (c_X11_isLetter   wz22) ⟨va_cnB 1 hts gX6_mark_X11_isLetter_n48 (rm := ({ frames := 0, cells := 0, slots := 0, locals := 0 } : Room)) (mc := 0) (ms := 0) rfl rfl rfl (xo_nl_X6_48 (hX s hz)) (hts (.initialized RX11) (by decide +kernel)) (by decide +kernel) ⟨Nat.le_of_ble_eq_true rfl, Nat.le_of_ble_eq_true rfl⟩, hts (.static yX11_isLetter) (by decide +kernel), trivial⟩ rfl hl.1 rfl (Nat.le_of_ble_eq_true rfl) dX6_mark_53 ⟨Nat.le_of_ble_eq_true rfl, Nat.le_of_ble_eq_true rfl⟩ (fun H locs hP hD hS => ?_)
              refine lv_if_ne (tgt := 101) hx hb dX6_mark_56 (by decide) (fun c23 => ?_) (fun c23 => ?_)
              · have hf := ha_it hf c23
                exact J101 v2 S H locs ls hf  hP hD hS (lv_sub hl [0, 1, 2] rfl)
              · have hf := ha_if hf (fun q => q c23)
                exact J59 v2 S H locs ls hf  hP hD hS (lv_sub hl [0, 1, 2] rfl)
  refine key24 _ (fun  S H locs ls hf  hP hD hS hl => ?_) ha_fu 0 S1 H locs ls (ha_as hf)  hP hD hS (lv_sub hl [1, 2, 0] rfl)
  have hf : (f_X6_mark_J107 p0 p1  S).bind some = some out := hf
  exact J107  S H locs ls hf  hP hD hS (lv_sub hl [0, 1] rfl)

set_option maxHeartbeats 4000000 in
set_option maxRecDepth 100000 in
theorem c_X3_all {l : Launch} {D : va_G} {cs : Nat → ClassId} {ad adK adV : Nat → Nat} {N : List Nat} {Z : State → Prop} (hZ : ha_Zok (ha_A ad N) Z) (hN : ∀ x, xo_kd x < 999 → x ∈ N) (hX : ∀ U, Z U → xo_Z adK adV (ha_A ad N) U) {p0 : Nat} {S : ha_St} {out : Int32 × ha_St} (h0 : xo_kd p0 = 3) (hf : f_X3_all p0 S = some out) : ha_Ci l D cs ad xo_kd xo_ln N Z yX3_all wsX3_all ({ frames := 0, cells := 0, slots := 0, locals := 0 } : Room) [.ref (ad p0)] S out.1 out.2 := by
  refine Met.ofW (cc := cX3_all) (maxL := 1) (ret := (some .int)) (by decide +kernel) rfl ?_
  intro p e s m args below meth c s₁ B hml hv
  obtain ⟨rfl, hP, hD, hK, hz⟩ := hv
  have hx := B.exec
  have hb := B.bytes
  have hr := B.returns
  have hts := atoms_spec (ws := wsX3_all) B.pre
  have hown : s.vm.findClass RX3 = some m.cls := findClass_of_methodNamed B.named
  have hlocks := B.notSynchronized
  have hS : va_S (ha_A ad N) s.heap s.heap [] := va_S.rf
  have hi3 : ∀ w ∈ wsX30, w ∈ wsX3_all := fun w h => List.mem_cons_of_mem _ (List.mem_append_right _ h)
  have q21 : ha_Fk s ([.ref (ad p0)] : List Value).toArray RX3 21 3 3 0 := ⟨RX3, TX3, 4, wsX3_all, rfl, by decide, by decide, rfl, rfl, hts, hi3, hts (.fieldLink RX3 21 "HillArms$Entries" "known" "I") (by decide +kernel)⟩
  have hl := lv_entry ([.ref (ad p0)]) (n := 1) (Nat.le_of_ble_eq_true rfl)
  rw [lg_entry_eq]
  generalize (lg_sl ([.ref (ad p0)]) ++ List.replicate (1 - (lg_sl ([.ref (ad p0)])).length) Slot.unset).toArray = ls at hl ⊢
  have hl : lv_has ls 1 [(0, .ref (ad p0))] := hl
  refine (fun (K0 : ∀ (H : Heap) (locs : List Loc), va_P D vwCl (ha_wl cs ad xo_kd xo_ln N S) H → va_S (ha_A ad N) s.heap H locs → W p l e (headSpec wsX3_all ({ frames := 0, cells := 0, slots := 0, locals := 0 } : Room)).room s m ([.ref (ad p0)] : List Value).toArray below meth c H locs 0 0 (MQ below (va_Qi (fun (r : Int32) (_ : Unit) => r = out.1) (fun _ => ha_H D cs ad xo_kd xo_ln N out.2) (ha_A ad N)) ([.ref (ad p0)] : List Value).toArray s 0 0 (ha_A ad N)) (F0 m 0 ls [])) => K0 _ _ hP hS) ?_
  intro H locs hP hS
  have hf := ha_rt hf
  unfold f_X3_all at hf
  refine lv_iconst (v := 1) hx hb dX3_all_0 (by decide) ?_
  refine lv_aload_n hx hb dX3_all_1 rfl (lv_at hl 0 rfl) ?_
  refine ha_geti hx hb hown hK hP q21 hN h0 dX3_all_2 ?_
  refine lv_ishl hx hb dX3_all_5 ?_
  refine lv_iconst (v := 1) hx hb dX3_all_6 (by decide) ?_
  refine lv_isub hx hb dX3_all_7 ?_
  have he := Option.some.inj hf
  exact ha_reti hx hb hr hlocks hP hD hS dX3_all_8 (ha_e1 he) (ha_e2 he)

set_option maxHeartbeats 4000000 in
set_option maxRecDepth 100000 in
theorem c_X6_savingBy {l : Launch} {D : va_G} {cs : Nat → ClassId} {ad adK adV : Nat → Nat} {N : List Nat} {Z : State → Prop} (hZ : ha_Zok (ha_A ad N) Z) (hN : ∀ x, xo_kd x < 999 → x ∈ N) (hX : ∀ U, Z U → xo_Z adK adV (ha_A ad N) U) {p0 : Nat} {p1 : Nat} {p2 : Int32} {p3 : Int32} {S : ha_St} {out : Int32 × ha_St} (h0 : xo_kd p0 = 6) (h1 : xo_kd p1 = 3) (hf : f_X6_savingBy p0 p1 p2 p3 S = some out) : ha_Ci l D cs ad xo_kd xo_ln N Z yX6_savingBy wsX6_savingBy ({ frames := 1, cells := 0, slots := 0, locals := 21 } : Room) [.ref (ad p0), .ref (ad p1), .int p2, .int p3] S out.1 out.2 := by
  refine Met.ofW (cc := cX6_savingBy) (maxL := 5) (ret := (some .int)) (by decide +kernel) rfl ?_
  intro p e s m args below meth c s₁ B hml hv
  obtain ⟨rfl, hP, hD, hK, hz⟩ := hv
  have hx := B.exec
  have hb := B.bytes
  have hr := B.returns
  have hts := atoms_spec (ws := wsX6_savingBy) B.pre
  have hown : s.vm.findClass RX6 = some m.cls := findClass_of_methodNamed B.named
  have hlocks := B.notSynchronized
  have hS : va_S (ha_A ad N) s.heap s.heap [] := va_S.rf
  have hi3 : ∀ w ∈ wsX30, w ∈ wsX6_savingBy := fun w h => List.mem_cons_of_mem _ (List.mem_append_left _ (List.mem_append_right _ h))
  have hi6 : ∀ w ∈ wsX60, w ∈ wsX6_savingBy := fun w h => List.mem_cons_of_mem _ (List.mem_append_right _ h)
  have q71 : ha_Fk s ([.ref (ad p0), .ref (ad p1), .int p2, .int p3] : List Value).toArray RX6 71 3 2 1 := ⟨RX3, TX3, 4, wsX6_savingBy, rfl, by decide, by decide, rfl, rfl, hts, hi3, hts (.fieldLink RX6 71 "HillArms$Entries" "words" "[I") (by decide +kernel)⟩
  have q28 : ha_Fk s ([.ref (ad p0), .ref (ad p1), .int p2, .int p3] : List Value).toArray RX6 28 6 5 0 := ⟨RX6, TX6, 8, wsX6_savingBy, rfl, by decide, by decide, rfl, rfl, hts, hi6, hts (.fieldLink RX6 28 "HillArms$Pages" "words" "I") (by decide +kernel)⟩
  have q76 : ha_Fk s ([.ref (ad p0), .ref (ad p1), .int p2, .int p3] : List Value).toArray RX6 76 3 1 1 := ⟨RX3, TX3, 4, wsX6_savingBy, rfl, by decide, by decide, rfl, rfl, hts, hi3, hts (.fieldLink RX6 76 "HillArms$Entries" "length" "[I") (by decide +kernel)⟩
  have q21 : ha_Fk s ([.ref (ad p0), .ref (ad p1), .int p2, .int p3] : List Value).toArray RX6 21 6 3 1 := ⟨RX6, TX6, 8, wsX6_savingBy, rfl, by decide, by decide, rfl, rfl, hts, hi6, hts (.fieldLink RX6 21 "HillArms$Pages" "saved" "[I") (by decide +kernel)⟩
  have cw0 := hts (.methodLink RX6 73 Lib.Math.min.name) (by decide +kernel)
  have cw1 := hts (.static Lib.Math.min.name) (by decide +kernel)
  have cw2 := hts (.initialized "java/lang/Math") (by decide +kernel)
  have cw3 := hts (.code Lib.Math.min.name Lib.Math.min.code 2 (some .int)) (by decide +kernel)
  have hl := lv_entry ([.ref (ad p0), .ref (ad p1), .int p2, .int p3]) (n := 5) (Nat.le_of_ble_eq_true rfl)
  rw [lg_entry_eq]
  generalize (lg_sl ([.ref (ad p0), .ref (ad p1), .int p2, .int p3]) ++ List.replicate (5 - (lg_sl ([.ref (ad p0), .ref (ad p1), .int p2, .int p3])).length) Slot.unset).toArray = ls at hl ⊢
  have hl : lv_has ls 5 [(0, .ref (ad p0)), (1, .ref (ad p1)), (2, .int p2), (3, .int p3)] := hl
  refine (fun (K0 : ∀ (H : Heap) (locs : List Loc), va_P D vwCl (ha_wl cs ad xo_kd xo_ln N S) H → va_S (ha_A ad N) s.heap H locs → W p l e (headSpec wsX6_savingBy ({ frames := 1, cells := 0, slots := 0, locals := 21 } : Room)).room s m ([.ref (ad p0), .ref (ad p1), .int p2, .int p3] : List Value).toArray below meth c H locs 0 0 (MQ below (va_Qi (fun (r : Int32) (_ : Unit) => r = out.1) (fun _ => ha_H D cs ad xo_kd xo_ln N out.2) (ha_A ad N)) ([.ref (ad p0), .ref (ad p1), .int p2, .int p3] : List Value).toArray s 0 0 (ha_A ad N)) (F0 m 0 ls [])) => K0 _ _ hP hS) ?_
  intro H locs hP hS
  have hf := ha_rt hf
  unfold f_X6_savingBy at hf
  refine lv_iload_n hx hb dX6_savingBy_0 rfl (lv_at hl 3 rfl) ?_
  refine lv_aload_n hx hb dX6_savingBy_1 rfl (lv_at hl 1 rfl) ?_
  obtain ⟨r1, wr1, hf⟩ := ha_bds hf
  obtain ⟨wr1, hr1⟩ := ha_rf_some wr1
  refine ha_getr hx hb hown hK hP q71 hN h1 wr1 dX6_savingBy_2 ?_
  refine lv_iload_n hx hb dX6_savingBy_5 rfl (lv_at hl 2 rfl) ?_
  obtain ⟨g2, hf⟩ := ha_gds hf
  refine ha_iald hx hb hK hP hN hr1 g2 dX6_savingBy_6 ?_
  refine lv_iadd hx hb dX6_savingBy_7 ?_
  refine lv_aload_n hx hb dX6_savingBy_8 rfl (lv_at hl 0 rfl) ?_
  refine ha_geti hx hb hown hK hP q28 hN h0 dX6_savingBy_9 ?_
  refine va_mmin hx hb (hml.trans hl.1.symm) hown cw0 cw1 cw2 cw3 (by decide) (Nat.le_of_ble_eq_true rfl) (Nat.zero_le _) (Nat.zero_le _) dX6_savingBy_12 ?_
  refine lv_topi (fun x3 ex3 => ?_)
  have hf := ha_nms hf ex3
  refine lv_istore (lv' := [(4, .int x3), (0, .ref (ad p0)), (1, .ref (ad p1)), (2, .int p2), (3, .int p3)]) hx hb dX6_savingBy_15 hl (by decide) rfl (fun ls hl => ?_)
  refine lv_aload_n hx hb dX6_savingBy_17 rfl (lv_at hl 2 rfl) ?_
  obtain ⟨r4, wr4, hf⟩ := ha_bds hf
  obtain ⟨wr4, hr4⟩ := ha_rf_some wr4
  refine ha_getr hx hb hown hK hP q76 hN h1 wr4 dX6_savingBy_18 ?_
  refine lv_iload_n hx hb dX6_savingBy_21 rfl (lv_at hl 3 rfl) ?_
  obtain ⟨g5, hf⟩ := ha_gds hf
  refine ha_iald hx hb hK hP hN hr4 g5 dX6_savingBy_22 ?_
  refine lv_iconst (v := 2) hx hb dX6_savingBy_23 (by decide) ?_
  refine lv_isub hx hb dX6_savingBy_24 ?_
  refine lv_aload_n hx hb dX6_savingBy_25 rfl (lv_at hl 1 rfl) ?_
  obtain ⟨r6, wr6, hf⟩ := ha_bds hf
  obtain ⟨wr6, hr6⟩ := ha_rf_some wr6
  refine ha_getr hx hb hown hK hP q21 hN h0 wr6 dX6_savingBy_26 ?_
  refine lv_iload hx hb dX6_savingBy_29 (lv_at hl 0 rfl) ?_
  obtain ⟨g7, hf⟩ := ha_gds hf
  refine ha_iald hx hb hK hP hN hr6 g7 dX6_savingBy_31 ?_
  refine lv_iadd hx hb dX6_savingBy_32 ?_
  have he := Option.some.inj hf
  exact ha_reti hx hb hr hlocks hP hD hS dX6_savingBy_33 (ha_e1 he) (ha_e2 he)

set_option maxHeartbeats 4000000 in
set_option maxRecDepth 100000 in
theorem c_X6_saving {l : Launch} {D : va_G} {cs : Nat → ClassId} {ad adK adV : Nat → Nat} {N : List Nat} {Z : State → Prop} (hZ : ha_Zok (ha_A ad N) Z) (hN : ∀ x, xo_kd x < 999 → x ∈ N) (hX : ∀ U, Z U → xo_Z adK adV (ha_A ad N) U) {p0 : Nat} {p1 : Nat} {p2 : Int32} {S : ha_St} {out : Int32 × ha_St} (h0 : xo_kd p0 = 6) (h1 : xo_kd p1 = 3) (hf : f_X6_saving p0 p1 p2 S = some out) : ha_Ci l D cs ad xo_kd xo_ln N Z yX6_saving wsX6_saving ({ frames := 2, cells := 0, slots := 0, locals := 45 } : Room) [.ref (ad p0), .ref (ad p1), .int p2] S out.1 out.2 := by
  refine Met.ofW (cc := cX6_saving) (maxL := 6) (ret := (some .int)) (by decide +kernel) rfl ?_
  intro p e s m args below meth c s₁ B hml hv
  obtain ⟨rfl, hP, hD, hK, hz⟩ := hv
  have hx := B.exec
  have hb := B.bytes
  have hr := B.returns
  have hts := atoms_spec (ws := wsX6_saving) B.pre
  have hown : s.vm.findClass RX6 = some m.cls := findClass_of_methodNamed B.named
  have hlocks := B.notSynchronized
  have hS : va_S (ha_A ad N) s.heap s.heap [] := va_S.rf
  have hi3 : ∀ w ∈ wsX30, w ∈ wsX6_saving := fun w h => List.mem_cons_of_mem _ (List.mem_append_right _ h)
  have hi6 : ∀ w ∈ wsX60, w ∈ wsX6_saving := fun w h => List.mem_cons_of_mem _ (List.mem_append_left _ (List.mem_append_right _ h))
  have q21 : ha_Fk s ([.ref (ad p0), .ref (ad p1), .int p2] : List Value).toArray RX6 21 6 3 1 := ⟨RX6, TX6, 8, wsX6_saving, rfl, by decide, by decide, rfl, rfl, hts, hi6, hts (.fieldLink RX6 21 "HillArms$Pages" "saved" "[I") (by decide +kernel)⟩
  have q28 : ha_Fk s ([.ref (ad p0), .ref (ad p1), .int p2] : List Value).toArray RX6 28 6 5 0 := ⟨RX6, TX6, 8, wsX6_saving, rfl, by decide, by decide, rfl, rfl, hts, hi6, hts (.fieldLink RX6 28 "HillArms$Pages" "words" "I") (by decide +kernel)⟩
  have q18 : ha_Fk s ([.ref (ad p0), .ref (ad p1), .int p2] : List Value).toArray RX6 18 6 2 1 := ⟨RX6, TX6, 8, wsX6_saving, rfl, by decide, by decide, rfl, rfl, hts, hi6, hts (.fieldLink RX6 18 "HillArms$Pages" "fitting" "[I") (by decide +kernel)⟩
  have q58 : ha_Fk s ([.ref (ad p0), .ref (ad p1), .int p2] : List Value).toArray RX6 58 3 3 0 := ⟨RX3, TX3, 4, wsX6_saving, rfl, by decide, by decide, rfl, rfl, hts, hi3, hts (.fieldLink RX6 58 "HillArms$Entries" "known" "I") (by decide +kernel)⟩
  have cw0 := cwV (R := (headSpec wsX6_saving ({ frames := 2, cells := 0, slots := 0, locals := 45 } : Room)).room) 3 hts gX6_saving_X6_savingBy (rm := ({ frames := 1, cells := 0, slots := 0, locals := 21 } : Room)) (mc := 0) (ms := 0) rfl rfl rfl (by decide +kernel) ⟨Nat.le_of_ble_eq_true rfl, Nat.le_of_ble_eq_true rfl⟩
  have cw1 := hts (.methodLink RX6 65 Lib.Math.max.name) (by decide +kernel)
  have cw2 := hts (.static Lib.Math.max.name) (by decide +kernel)
  have cw3 := hts (.initialized "java/lang/Math") (by decide +kernel)
  have cw4 := hts (.code Lib.Math.max.name Lib.Math.max.code 2 (some .int)) (by decide +kernel)
  have hl := lv_entry ([.ref (ad p0), .ref (ad p1), .int p2]) (n := 6) (Nat.le_of_ble_eq_true rfl)
  rw [lg_entry_eq]
  generalize (lg_sl ([.ref (ad p0), .ref (ad p1), .int p2]) ++ List.replicate (6 - (lg_sl ([.ref (ad p0), .ref (ad p1), .int p2])).length) Slot.unset).toArray = ls at hl ⊢
  have hl : lv_has ls 6 [(0, .ref (ad p0)), (1, .ref (ad p1)), (2, .int p2)] := hl
  refine (fun (K0 : ∀ (H : Heap) (locs : List Loc), va_P D vwCl (ha_wl cs ad xo_kd xo_ln N S) H → va_S (ha_A ad N) s.heap H locs → W p l e (headSpec wsX6_saving ({ frames := 2, cells := 0, slots := 0, locals := 45 } : Room)).room s m ([.ref (ad p0), .ref (ad p1), .int p2] : List Value).toArray below meth c H locs 0 0 (MQ below (va_Qi (fun (r : Int32) (_ : Unit) => r = out.1) (fun _ => ha_H D cs ad xo_kd xo_ln N out.2) (ha_A ad N)) ([.ref (ad p0), .ref (ad p1), .int p2] : List Value).toArray s 0 0 (ha_A ad N)) (F0 m 0 ls [])) => K0 _ _ hP hS) ?_
  intro H locs hP hS
  have hf := ha_rt hf
  have J110 : ∀  (S : ha_St) (H : Heap) (locs : List Loc) (ls : Array Slot), (f_X6_saving_J110 p0 p1 p2  S).bind some = some out → va_P D vwCl (ha_wl cs ad xo_kd xo_ln N S) H → va_D (ha_A ad N) (ha_wl cs ad xo_kd xo_ln N S) → va_S (ha_A ad N) s.heap H locs → lv_has ls 6 [(0, .ref (ad p0)), (1, .ref (ad p1)), (2, .int p2)] → W p l e (headSpec wsX6_saving ({ frames := 2, cells := 0, slots := 0, locals := 45 } : Room)).room s m ([.ref (ad p0), .ref (ad p1), .int p2] : List Value).toArray below meth c H locs 0 0 (MQ below (va_Qi (fun (r : Int32) (_ : Unit) => r = out.1) (fun _ => ha_H D cs ad xo_kd xo_ln N out.2) (ha_A ad N)) ([.ref (ad p0), .ref (ad p1), .int p2] : List Value).toArray s 0 0 (ha_A ad N)) (F0 m 110 ls []) := by
    intro  S H locs ls hf  hP hD hS hl
    unfold f_X6_saving_J110 at hf
    refine lv_aload_n hx hb dX6_saving_110 rfl (lv_at hl 0 rfl) ?_
    obtain ⟨r1, wr1, hf⟩ := ha_bds hf
    obtain ⟨wr1, hr1⟩ := ha_rf_some wr1
    refine ha_getr hx hb hown hK hP q21 hN h0 wr1 dX6_saving_111 ?_
    refine lv_iconst (v := 0) hx hb dX6_saving_114 (by decide) ?_
    obtain ⟨g2, hf⟩ := ha_gds hf
    refine ha_iald hx hb hK hP hN hr1 g2 dX6_saving_115 ?_
    have he := Option.some.inj hf
    exact ha_reti hx hb hr hlocks hP hD hS dX6_saving_116 (ha_e1 he) (ha_e2 he)
  unfold f_X6_saving at hf
  refine lv_aload_n hx hb dX6_saving_0 rfl (lv_at hl 0 rfl) ?_
  obtain ⟨r3, wr3, hf⟩ := ha_bds hf
  obtain ⟨wr3, hr3⟩ := ha_rf_some wr3
  refine ha_getr hx hb hown hK hP q21 hN h0 wr3 dX6_saving_1 ?_
  refine lv_aload_n hx hb dX6_saving_4 rfl (lv_at hl 0 rfl) ?_
  refine ha_geti hx hb hown hK hP q28 hN h0 dX6_saving_5 ?_
  refine lv_iconst (v := 0) hx hb dX6_saving_8 (by decide) ?_
  obtain ⟨g4, hf⟩ := ha_gds hf
  refine ha_iast hx hb hK hP hD hS hN hr3 g4 dX6_saving_9 (fun S5 H locs eS5 hP hD hS => ?_)
  have hf := ha_nms hf eS5
  refine lv_aload_n hx hb dX6_saving_10 rfl (lv_at hl 0 rfl) ?_
  refine ha_geti hx hb hown hK hP q28 hN h0 dX6_saving_11 ?_
  refine lv_iconst (v := 1) hx hb dX6_saving_14 (by decide) ?_
  refine lv_isub hx hb dX6_saving_15 ?_
  refine lv_topi (fun x6 ex6 => ?_)
  have hf := ha_nms hf ex6
  refine lv_istore_n (lv' := [(3, .int x6), (0, .ref (ad p0)), (1, .ref (ad p1)), (2, .int p2)]) hx hb dX6_saving_16 rfl hl (by decide) rfl (fun ls hl => ?_)
  have key29 : ∀ (K : (ha_St) → Option (Int32 × ha_St)), (∀  (S : ha_St) (H : Heap) (locs : List Loc) (ls : Array Slot), K S = some out → va_P D vwCl (ha_wl cs ad xo_kd xo_ln N S) H → va_D (ha_A ad N) (ha_wl cs ad xo_kd xo_ln N S) → va_S (ha_A ad N) s.heap H locs → lv_has ls 6 [(0, .ref (ad p0)), (1, .ref (ad p1)), (2, .int p2)] → W p l e (headSpec wsX6_saving ({ frames := 2, cells := 0, slots := 0, locals := 45 } : Room)).room s m ([.ref (ad p0), .ref (ad p1), .int p2] : List Value).toArray below meth c H locs 0 0 (MQ below (va_Qi (fun (r : Int32) (_ : Unit) => r = out.1) (fun _ => ha_H D cs ad xo_kd xo_ln N out.2) (ha_A ad N)) ([.ref (ad p0), .ref (ad p1), .int p2] : List Value).toArray s 0 0 (ha_A ad N)) (F0 m 110 ls [])) → ∀ (n : Nat) (v3 : Int32) (S : ha_St) (H : Heap) (locs : List Loc) (ls : Array Slot), (f_X6_saving_L17i p0 p1 p2 n (v3, S)).bind K = some out → va_P D vwCl (ha_wl cs ad xo_kd xo_ln N S) H → va_D (ha_A ad N) (ha_wl cs ad xo_kd xo_ln N S) → va_S (ha_A ad N) s.heap H locs → lv_has ls 6 [(0, .ref (ad p0)), (1, .ref (ad p1)), (2, .int p2), (3, .int v3)] → W p l e (headSpec wsX6_saving ({ frames := 2, cells := 0, slots := 0, locals := 45 } : Room)).room s m ([.ref (ad p0), .ref (ad p1), .int p2] : List Value).toArray below meth c H locs 0 0 (MQ below (va_Qi (fun (r : Int32) (_ : Unit) => r = out.1) (fun _ => ha_H D cs ad xo_kd xo_ln N out.2) (ha_A ad N)) ([.ref (ad p0), .ref (ad p1), .int p2] : List Value).toArray s 0 0 (ha_A ad N)) (F0 m 17 ls []) := by
    intro K hk n
    induction n with
    | zero =>
      intro v3 S H locs ls hf
      exact absurd (show (none : Option (Int32 × ha_St)) = some out from hf) (fun h => by cases h)
    | succ n ih =>
      intro v3 S H locs ls hf  hP hD hS hl
      have J104 : ∀ (v3 : Int32) (S : ha_St) (H : Heap) (locs : List Loc) (ls : Array Slot), (f_X6_saving_L17_J104 p0 p1 p2 (f_X6_saving_L17i p0 p1 p2 n) v3 S).bind K = some out → va_P D vwCl (ha_wl cs ad xo_kd xo_ln N S) H → va_D (ha_A ad N) (ha_wl cs ad xo_kd xo_ln N S) → va_S (ha_A ad N) s.heap H locs → lv_has ls 6 [(0, .ref (ad p0)), (1, .ref (ad p1)), (2, .int p2), (3, .int v3)] → W p l e (headSpec wsX6_saving ({ frames := 2, cells := 0, slots := 0, locals := 45 } : Room)).room s m ([.ref (ad p0), .ref (ad p1), .int p2] : List Value).toArray below meth c H locs 0 0 (MQ below (va_Qi (fun (r : Int32) (_ : Unit) => r = out.1) (fun _ => ha_H D cs ad xo_kd xo_ln N out.2) (ha_A ad N)) ([.ref (ad p0), .ref (ad p1), .int p2] : List Value).toArray s 0 0 (ha_A ad N)) (F0 m 104 ls []) := by
        intro v3 S H locs ls hf  hP hD hS hl
        unfold f_X6_saving_L17_J104 at hf
        obtain ⟨x7, ex7⟩ : ∃ y : Int32, y = (v3 : Int32) + (-1) := ⟨_, rfl⟩
        have hf := ha_nms hf ex7
        refine lv_iinc (v := x7) (lv' := [(3, .int x7), (0, .ref (ad p0)), (1, .ref (ad p1)), (2, .int p2)]) hx hb dX6_saving_104 hl (k := 3) rfl (by rw [ex7]; rfl) (by decide) rfl (fun ls hl => ?_)
        refine lv_goto (tgt := 17) hx hb dX6_saving_107 (by decide) ?_
        exact ih x7 S H locs ls hf  hP hD hS (lv_sub hl [1, 2, 3, 0] rfl)
      have hf : (f_X6_saving_L17 p0 p1 p2 (f_X6_saving_L17i p0 p1 p2 n) v3 S).bind K = some out := hf
      unfold f_X6_saving_L17 at hf
      refine lv_iload_n hx hb dX6_saving_17 rfl (lv_at hl 3 rfl) ?_
      refine lv_if_lt (tgt := 110) hx hb dX6_saving_18 (by decide) (fun c8 => ?_) (fun c8 => ?_)
      · have hf := ha_it hf c8
        exact hk  S H locs ls hf  hP hD hS (lv_sub hl [0, 1, 2] rfl)
      · have hf := ha_if hf c8
        refine lv_aload_n hx hb dX6_saving_21 rfl (lv_at hl 0 rfl) ?_
        obtain ⟨r9, wr9, hf⟩ := ha_bds hf
        obtain ⟨wr9, hr9⟩ := ha_rf_some wr9
        refine ha_getr hx hb hown hK hP q21 hN h0 wr9 dX6_saving_22 ?_
        refine lv_iload_n hx hb dX6_saving_25 rfl (lv_at hl 3 rfl) ?_
        refine lv_aload_n hx hb dX6_saving_26 rfl (lv_at hl 0 rfl) ?_
        obtain ⟨r10, wr10, hf⟩ := ha_bds hf
        obtain ⟨wr10, hr10⟩ := ha_rf_some wr10
        refine ha_getr hx hb hown hK hP q21 hN h0 wr10 dX6_saving_27 ?_
        refine lv_iload_n hx hb dX6_saving_30 rfl (lv_at hl 3 rfl) ?_
        refine lv_iconst (v := 1) hx hb dX6_saving_31 (by decide) ?_
        refine lv_iadd hx hb dX6_saving_32 ?_
        obtain ⟨g11, hf⟩ := ha_gds hf
        refine ha_iald hx hb hK hP hN hr10 g11 dX6_saving_33 ?_
        obtain ⟨g12, hf⟩ := ha_gds hf
        refine ha_iast hx hb hK hP hD hS hN hr9 g12 dX6_saving_34 (fun S13 H locs eS13 hP hD hS => ?_)
        have hf := ha_nms hf eS13
        refine lv_aload_n hx hb dX6_saving_35 rfl (lv_at hl 0 rfl) ?_
        obtain ⟨r14, wr14, hf⟩ := ha_bds hf
        obtain ⟨wr14, hr14⟩ := ha_rf_some wr14
        refine ha_getr hx hb hown hK hP q18 hN h0 wr14 dX6_saving_36 ?_
        refine lv_iload_n hx hb dX6_saving_39 rfl (lv_at hl 3 rfl) ?_
        obtain ⟨g15, hf⟩ := ha_gds hf
        refine ha_iald hx hb hK hP hN hr14 g15 dX6_saving_40 ?_
        refine lv_iload_n hx hb dX6_saving_41 rfl (lv_at hl 2 rfl) ?_
        refine lv_iand hx hb dX6_saving_42 ?_
        refine lv_topi (fun x16 ex16 => ?_)
        have hf := ha_nms hf ex16
        refine lv_istore (lv' := [(4, .int x16), (0, .ref (ad p0)), (1, .ref (ad p1)), (2, .int p2), (3, .int v3)]) hx hb dX6_saving_43 hl (by decide) rfl (fun ls hl => ?_)
        refine lv_iconst (v := 0) hx hb dX6_saving_45 (by decide) ?_
        refine lv_istore (lv' := [(5, .int 0), (4, .int x16), (0, .ref (ad p0)), (1, .ref (ad p1)), (2, .int p2), (3, .int v3)]) hx hb dX6_saving_46 hl (by decide) rfl (fun ls hl => ?_)
        have key27 : ∀ (K : (Int32 × ha_St) → Option (Int32 × ha_St)), (∀ (v3 : Int32) (S : ha_St) (H : Heap) (locs : List Loc) (ls : Array Slot), K (v3, S) = some out → va_P D vwCl (ha_wl cs ad xo_kd xo_ln N S) H → va_D (ha_A ad N) (ha_wl cs ad xo_kd xo_ln N S) → va_S (ha_A ad N) s.heap H locs → lv_has ls 6 [(0, .ref (ad p0)), (1, .ref (ad p1)), (2, .int p2), (3, .int v3)] → W p l e (headSpec wsX6_saving ({ frames := 2, cells := 0, slots := 0, locals := 45 } : Room)).room s m ([.ref (ad p0), .ref (ad p1), .int p2] : List Value).toArray below meth c H locs 0 0 (MQ below (va_Qi (fun (r : Int32) (_ : Unit) => r = out.1) (fun _ => ha_H D cs ad xo_kd xo_ln N out.2) (ha_A ad N)) ([.ref (ad p0), .ref (ad p1), .int p2] : List Value).toArray s 0 0 (ha_A ad N)) (F0 m 104 ls [])) → ∀ (n : Nat) (v3 : Int32) (v4 : Int32) (v5 : Int32) (S : ha_St) (H : Heap) (locs : List Loc) (ls : Array Slot), (f_X6_saving_L48i p0 p1 p2 n (v3, v4, v5, S)).bind K = some out → va_P D vwCl (ha_wl cs ad xo_kd xo_ln N S) H → va_D (ha_A ad N) (ha_wl cs ad xo_kd xo_ln N S) → va_S (ha_A ad N) s.heap H locs → lv_has ls 6 [(0, .ref (ad p0)), (1, .ref (ad p1)), (2, .int p2), (3, .int v3), (4, .int v4), (5, .int v5)] → W p l e (headSpec wsX6_saving ({ frames := 2, cells := 0, slots := 0, locals := 45 } : Room)).room s m ([.ref (ad p0), .ref (ad p1), .int p2] : List Value).toArray below meth c H locs 0 0 (MQ below (va_Qi (fun (r : Int32) (_ : Unit) => r = out.1) (fun _ => ha_H D cs ad xo_kd xo_ln N out.2) (ha_A ad N)) ([.ref (ad p0), .ref (ad p1), .int p2] : List Value).toArray s 0 0 (ha_A ad N)) (F0 m 48 ls []) := by
          intro K hk n
          induction n with
          | zero =>
            intro v3 v4 v5 S H locs ls hf
            exact absurd (show (none : Option (Int32 × ha_St)) = some out from hf) (fun h => by cases h)
          | succ n ih =>
            intro v3 v4 v5 S H locs ls hf  hP hD hS hl
            have J98 : ∀ (v3 : Int32) (v4 : Int32) (v5 : Int32) (S : ha_St) (H : Heap) (locs : List Loc) (ls : Array Slot), (f_X6_saving_L48_J98 p0 p1 p2 (f_X6_saving_L48i p0 p1 p2 n) v3 v4 v5 S).bind K = some out → va_P D vwCl (ha_wl cs ad xo_kd xo_ln N S) H → va_D (ha_A ad N) (ha_wl cs ad xo_kd xo_ln N S) → va_S (ha_A ad N) s.heap H locs → lv_has ls 6 [(0, .ref (ad p0)), (1, .ref (ad p1)), (2, .int p2), (3, .int v3), (4, .int v4), (5, .int v5)] → W p l e (headSpec wsX6_saving ({ frames := 2, cells := 0, slots := 0, locals := 45 } : Room)).room s m ([.ref (ad p0), .ref (ad p1), .int p2] : List Value).toArray below meth c H locs 0 0 (MQ below (va_Qi (fun (r : Int32) (_ : Unit) => r = out.1) (fun _ => ha_H D cs ad xo_kd xo_ln N out.2) (ha_A ad N)) ([.ref (ad p0), .ref (ad p1), .int p2] : List Value).toArray s 0 0 (ha_A ad N)) (F0 m 98 ls []) := by
              intro v3 v4 v5 S H locs ls hf  hP hD hS hl
              unfold f_X6_saving_L48_J98 at hf
              obtain ⟨x17, ex17⟩ : ∃ y : Int32, y = (v5 : Int32) + 1 := ⟨_, rfl⟩
              have hf := ha_nms hf ex17
              refine lv_iinc (v := x17) (lv' := [(5, .int x17), (0, .ref (ad p0)), (1, .ref (ad p1)), (2, .int p2), (3, .int v3), (4, .int v4)]) hx hb dX6_saving_98 hl (k := 5) rfl (by rw [ex17]; rfl) (by decide) rfl (fun ls hl => ?_)
              refine lv_goto (tgt := 48) hx hb dX6_saving_101 (by decide) ?_
              exact ih v3 v4 x17 S H locs ls hf  hP hD hS (lv_sub hl [1, 2, 3, 4, 5, 0] rfl)
            have hf : (f_X6_saving_L48 p0 p1 p2 (f_X6_saving_L48i p0 p1 p2 n) v3 v4 v5 S).bind K = some out := hf
            unfold f_X6_saving_L48 at hf
            refine lv_iload hx hb dX6_saving_48 (lv_at hl 5 rfl) ?_
            refine lv_aload_n hx hb dX6_saving_50 rfl (lv_at hl 1 rfl) ?_
            refine ha_geti hx hb hown hK hP q58 hN h1 dX6_saving_51 ?_
            refine lv_icmp_ge (tgt := 104) hx hb dX6_saving_54 (by decide) (fun c18 => ?_) (fun c18 => ?_)
            · have hf := ha_it hf c18
              exact hk v3 S H locs ls hf  hP hD hS (lv_sub hl [0, 1, 2, 3] rfl)
            · have hf := ha_if hf c18
              refine lv_iload hx hb dX6_saving_57 (lv_at hl 4 rfl) ?_
              refine lv_iload hx hb dX6_saving_59 (lv_at hl 5 rfl) ?_
              refine lv_ishr hx hb dX6_saving_61 ?_
              refine lv_if_eq (tgt := 104) hx hb dX6_saving_62 (by decide) (fun c19 => ?_) (fun c19 => ?_)
              · have hf := ha_it hf c19
                exact hk v3 S H locs ls hf  hP hD hS (lv_sub hl [0, 1, 2, 3] rfl)
              · have hf := ha_if hf c19
                refine lv_iload hx hb dX6_saving_65 (lv_at hl 4 rfl) ?_
                refine lv_iload hx hb dX6_saving_67 (lv_at hl 5 rfl) ?_
                refine lv_ishr hx hb dX6_saving_69 ?_
                refine lv_iconst (v := 1) hx hb dX6_saving_70 (by decide) ?_
                refine lv_iand hx hb dX6_saving_71 ?_
                refine lv_if_eq (tgt := 98) hx hb dX6_saving_72 (by decide) (fun c20 => ?_) (fun c20 => ?_)
                · have hf := ha_it hf c20
                  exact J98 v3 v4 v5 S H locs ls hf  hP hD hS (lv_sub hl [0, 1, 2, 3, 4, 5] rfl)
                · have hf := ha_if hf c20
                  refine lv_aload_n hx hb dX6_saving_75 rfl (lv_at hl 0 rfl) ?_
                  obtain ⟨r21, wr21, hf⟩ := ha_bds hf
                  obtain ⟨wr21, hr21⟩ := ha_rf_some wr21
                  refine ha_getr hx hb hown hK hP q21 hN h0 wr21 dX6_saving_76 ?_
                  refine lv_iload_n hx hb dX6_saving_79 rfl (lv_at hl 3 rfl) ?_
                  refine lv_aload_n hx hb dX6_saving_80 rfl (lv_at hl 0 rfl) ?_
                  obtain ⟨r22, wr22, hf⟩ := ha_bds hf
                  obtain ⟨wr22, hr22⟩ := ha_rf_some wr22
                  refine ha_getr hx hb hown hK hP q21 hN h0 wr22 dX6_saving_81 ?_
                  refine lv_iload_n hx hb dX6_saving_84 rfl (lv_at hl 3 rfl) ?_
                  obtain ⟨g23, hf⟩ := ha_gds hf
                  refine ha_iald hx hb hK hP hN hr22 g23 dX6_saving_85 ?_
                  refine lv_aload_n hx hb dX6_saving_86 rfl (lv_at hl 0 rfl) ?_
                  refine lv_aload_n hx hb dX6_saving_87 rfl (lv_at hl 1 rfl) ?_
                  refine lv_iload hx hb dX6_saving_88 (lv_at hl 5 rfl) ?_
                  refine lv_iload_n hx hb dX6_saving_90 rfl (lv_at hl 3 rfl) ?_
                  obtain ⟨z24, wz24, hf⟩ := ha_bds hf
                  refine ha_callVi (As := [.ref (ad p1), .int v5, .int v3]) (rest := [.int ((ha_gA S r22 (v3 : Int32).toNatClampNeg)), .int v3, .ref (ad r21)]) hZ ⟨hx, hb, hml, hown, hts⟩ hK hz hP hD hS (c_X6_savingBy hZ hN hX h0 h1 wz24) cw0 hN h0 (by decide) rfl rfl hl.1 rfl (Nat.le_of_ble_eq_true rfl) dX6_saving_91 ⟨Nat.le_of_ble_eq_true rfl, Nat.le_of_ble_eq_true rfl⟩ (fun H locs hP hD hS => ?_)
                  refine va_mmax hx hb (hml.trans hl.1.symm) hown cw1 cw2 cw3 cw4 (by decide) (Nat.le_of_ble_eq_true rfl) (Nat.zero_le _) (Nat.zero_le _) dX6_saving_94 ?_
                  obtain ⟨g25, hf⟩ := ha_gds hf
                  refine ha_iast hx hb hK hP hD hS hN hr21 g25 dX6_saving_97 (fun S26 H locs eS26 hP hD hS => ?_)
                  have hf := ha_nms hf eS26
                  exact J98 v3 v4 v5 S26 H locs ls hf  hP hD hS (lv_sub hl [0, 1, 2, 3, 4, 5] rfl)
        refine key27 _ (fun v3 S H locs ls hf  hP hD hS hl => ?_) ha_fu v3 x16 0 S13 H locs ls (ha_as hf)  hP hD hS (lv_sub hl [2, 3, 4, 5, 1, 0] rfl)
        have hf : (f_X6_saving_L17_J104 p0 p1 p2 (f_X6_saving_L17i p0 p1 p2 n) v3 S).bind K = some out := hf
        exact J104 v3 S H locs ls hf  hP hD hS (lv_sub hl [0, 1, 2, 3] rfl)
  refine key29 _ (fun  S H locs ls hf  hP hD hS hl => ?_) ha_fu x6 S5 H locs ls (ha_as hf)  hP hD hS (lv_sub hl [1, 2, 3, 0] rfl)
  have hf : (f_X6_saving_J110 p0 p1 p2  S).bind some = some out := hf
  exact J110  S H locs ls hf  hP hD hS (lv_sub hl [0, 1, 2] rfl)

set_option maxHeartbeats 4000000 in
set_option maxRecDepth 100000 in
theorem c_X6_entryToTake {l : Launch} {D : va_G} {cs : Nat → ClassId} {ad adK adV : Nat → Nat} {N : List Nat} {Z : State → Prop} (hZ : ha_Zok (ha_A ad N) Z) (hN : ∀ x, xo_kd x < 999 → x ∈ N) (hX : ∀ U, Z U → xo_Z adK adV (ha_A ad N) U) {p0 : Nat} {p1 : Nat} {p2 : Int32} {S : ha_St} {out : Int32 × ha_St} (h0 : xo_kd p0 = 6) (h1 : xo_kd p1 = 3) (hf : f_X6_entryToTake p0 p1 p2 S = some out) : ha_Ci l D cs ad xo_kd xo_ln N Z yX6_entryToTake wsX6_entryToTake ({ frames := 2, cells := 0, slots := 0, locals := 45 } : Room) [.ref (ad p0), .ref (ad p1), .int p2] S out.1 out.2 := by
  refine Met.ofW (cc := cX6_entryToTake) (maxL := 4) (ret := (some .int)) (by decide +kernel) rfl ?_
  intro p e s m args below meth c s₁ B hml hv
  obtain ⟨rfl, hP, hD, hK, hz⟩ := hv
  have hx := B.exec
  have hb := B.bytes
  have hr := B.returns
  have hts := atoms_spec (ws := wsX6_entryToTake) B.pre
  have hown : s.vm.findClass RX6 = some m.cls := findClass_of_methodNamed B.named
  have hlocks := B.notSynchronized
  have hS : va_S (ha_A ad N) s.heap s.heap [] := va_S.rf
  have hi3 : ∀ w ∈ wsX30, w ∈ wsX6_entryToTake := fun w h => List.mem_cons_of_mem _ (List.mem_append_left _ (List.mem_append_right _ h))
  have hi6 : ∀ w ∈ wsX60, w ∈ wsX6_entryToTake := fun w h => List.mem_cons_of_mem _ (List.mem_append_right _ h)
  have q58 : ha_Fk s ([.ref (ad p0), .ref (ad p1), .int p2] : List Value).toArray RX6 58 3 3 0 := ⟨RX3, TX3, 4, wsX6_entryToTake, rfl, by decide, by decide, rfl, rfl, hts, hi3, hts (.fieldLink RX6 58 "HillArms$Entries" "known" "I") (by decide +kernel)⟩
  have q18 : ha_Fk s ([.ref (ad p0), .ref (ad p1), .int p2] : List Value).toArray RX6 18 6 2 1 := ⟨RX6, TX6, 8, wsX6_entryToTake, rfl, by decide, by decide, rfl, rfl, hts, hi6, hts (.fieldLink RX6 18 "HillArms$Pages" "fitting" "[I") (by decide +kernel)⟩
  have q21 : ha_Fk s ([.ref (ad p0), .ref (ad p1), .int p2] : List Value).toArray RX6 21 6 3 1 := ⟨RX6, TX6, 8, wsX6_entryToTake, rfl, by decide, by decide, rfl, rfl, hts, hi6, hts (.fieldLink RX6 21 "HillArms$Pages" "saved" "[I") (by decide +kernel)⟩
  have cw0 := cwV (R := (headSpec wsX6_entryToTake ({ frames := 2, cells := 0, slots := 0, locals := 45 } : Room)).room) 3 hts gX6_entryToTake_X6_savingBy (rm := ({ frames := 1, cells := 0, slots := 0, locals := 21 } : Room)) (mc := 0) (ms := 0) rfl rfl rfl (by decide +kernel) ⟨Nat.le_of_ble_eq_true rfl, Nat.le_of_ble_eq_true rfl⟩
  have hl := lv_entry ([.ref (ad p0), .ref (ad p1), .int p2]) (n := 4) (Nat.le_of_ble_eq_true rfl)
  rw [lg_entry_eq]
  generalize (lg_sl ([.ref (ad p0), .ref (ad p1), .int p2]) ++ List.replicate (4 - (lg_sl ([.ref (ad p0), .ref (ad p1), .int p2])).length) Slot.unset).toArray = ls at hl ⊢
  have hl : lv_has ls 4 [(0, .ref (ad p0)), (1, .ref (ad p1)), (2, .int p2)] := hl
  refine (fun (K0 : ∀ (H : Heap) (locs : List Loc), va_P D vwCl (ha_wl cs ad xo_kd xo_ln N S) H → va_S (ha_A ad N) s.heap H locs → W p l e (headSpec wsX6_entryToTake ({ frames := 2, cells := 0, slots := 0, locals := 45 } : Room)).room s m ([.ref (ad p0), .ref (ad p1), .int p2] : List Value).toArray below meth c H locs 0 0 (MQ below (va_Qi (fun (r : Int32) (_ : Unit) => r = out.1) (fun _ => ha_H D cs ad xo_kd xo_ln N out.2) (ha_A ad N)) ([.ref (ad p0), .ref (ad p1), .int p2] : List Value).toArray s 0 0 (ha_A ad N)) (F0 m 0 ls [])) => K0 _ _ hP hS) ?_
  intro H locs hP hS
  have hf := ha_rt hf
  have J47 : ∀  (S : ha_St) (H : Heap) (locs : List Loc) (ls : Array Slot), (f_X6_entryToTake_J47 p0 p1 p2  S).bind some = some out → va_P D vwCl (ha_wl cs ad xo_kd xo_ln N S) H → va_D (ha_A ad N) (ha_wl cs ad xo_kd xo_ln N S) → va_S (ha_A ad N) s.heap H locs → lv_has ls 4 [(0, .ref (ad p0)), (1, .ref (ad p1)), (2, .int p2)] → W p l e (headSpec wsX6_entryToTake ({ frames := 2, cells := 0, slots := 0, locals := 45 } : Room)).room s m ([.ref (ad p0), .ref (ad p1), .int p2] : List Value).toArray below meth c H locs 0 0 (MQ below (va_Qi (fun (r : Int32) (_ : Unit) => r = out.1) (fun _ => ha_H D cs ad xo_kd xo_ln N out.2) (ha_A ad N)) ([.ref (ad p0), .ref (ad p1), .int p2] : List Value).toArray s 0 0 (ha_A ad N)) (F0 m 47 ls []) := by
    intro  S H locs ls hf  hP hD hS hl
    unfold f_X6_entryToTake_J47 at hf
    refine lv_iconst (v := (-1)) hx hb dX6_entryToTake_47 (by decide) ?_
    have he := Option.some.inj hf
    exact ha_reti hx hb hr hlocks hP hD hS dX6_entryToTake_48 (ha_e1 he) (ha_e2 he)
  unfold f_X6_entryToTake at hf
  refine lv_iconst (v := 0) hx hb dX6_entryToTake_0 (by decide) ?_
  refine lv_istore_n (lv' := [(3, .int 0), (0, .ref (ad p0)), (1, .ref (ad p1)), (2, .int p2)]) hx hb dX6_entryToTake_1 rfl hl (by decide) rfl (fun ls hl => ?_)
  have key10 : ∀ (K : ((ha_St) ⊕ (Int32 × ha_St)) → Option (Int32 × ha_St)), (∀  (S : ha_St) (H : Heap) (locs : List Loc) (ls : Array Slot), K (.inl S) = some out → va_P D vwCl (ha_wl cs ad xo_kd xo_ln N S) H → va_D (ha_A ad N) (ha_wl cs ad xo_kd xo_ln N S) → va_S (ha_A ad N) s.heap H locs → lv_has ls 4 [(0, .ref (ad p0)), (1, .ref (ad p1)), (2, .int p2)] → W p l e (headSpec wsX6_entryToTake ({ frames := 2, cells := 0, slots := 0, locals := 45 } : Room)).room s m ([.ref (ad p0), .ref (ad p1), .int p2] : List Value).toArray below meth c H locs 0 0 (MQ below (va_Qi (fun (r : Int32) (_ : Unit) => r = out.1) (fun _ => ha_H D cs ad xo_kd xo_ln N out.2) (ha_A ad N)) ([.ref (ad p0), .ref (ad p1), .int p2] : List Value).toArray s 0 0 (ha_A ad N)) (F0 m 47 ls [])) → (∀ r, K (.inr r) = some out → r = out) → ∀ (n : Nat) (v3 : Int32) (S : ha_St) (H : Heap) (locs : List Loc) (ls : Array Slot), (f_X6_entryToTake_L2i p0 p1 p2 n (v3, S)).bind K = some out → va_P D vwCl (ha_wl cs ad xo_kd xo_ln N S) H → va_D (ha_A ad N) (ha_wl cs ad xo_kd xo_ln N S) → va_S (ha_A ad N) s.heap H locs → lv_has ls 4 [(0, .ref (ad p0)), (1, .ref (ad p1)), (2, .int p2), (3, .int v3)] → W p l e (headSpec wsX6_entryToTake ({ frames := 2, cells := 0, slots := 0, locals := 45 } : Room)).room s m ([.ref (ad p0), .ref (ad p1), .int p2] : List Value).toArray below meth c H locs 0 0 (MQ below (va_Qi (fun (r : Int32) (_ : Unit) => r = out.1) (fun _ => ha_H D cs ad xo_kd xo_ln N out.2) (ha_A ad N)) ([.ref (ad p0), .ref (ad p1), .int p2] : List Value).toArray s 0 0 (ha_A ad N)) (F0 m 2 ls []) := by
    intro K hk hke n
    induction n with
    | zero =>
      intro v3 S H locs ls hf
      exact absurd (show (none : Option (Int32 × ha_St)) = some out from hf) (fun h => by cases h)
    | succ n ih =>
      intro v3 S H locs ls hf  hP hD hS hl
      have J41 : ∀ (v3 : Int32) (S : ha_St) (H : Heap) (locs : List Loc) (ls : Array Slot), (f_X6_entryToTake_L2_J41 p0 p1 p2 (f_X6_entryToTake_L2i p0 p1 p2 n) v3 S).bind K = some out → va_P D vwCl (ha_wl cs ad xo_kd xo_ln N S) H → va_D (ha_A ad N) (ha_wl cs ad xo_kd xo_ln N S) → va_S (ha_A ad N) s.heap H locs → lv_has ls 4 [(0, .ref (ad p0)), (1, .ref (ad p1)), (2, .int p2), (3, .int v3)] → W p l e (headSpec wsX6_entryToTake ({ frames := 2, cells := 0, slots := 0, locals := 45 } : Room)).room s m ([.ref (ad p0), .ref (ad p1), .int p2] : List Value).toArray below meth c H locs 0 0 (MQ below (va_Qi (fun (r : Int32) (_ : Unit) => r = out.1) (fun _ => ha_H D cs ad xo_kd xo_ln N out.2) (ha_A ad N)) ([.ref (ad p0), .ref (ad p1), .int p2] : List Value).toArray s 0 0 (ha_A ad N)) (F0 m 41 ls []) := by
        intro v3 S H locs ls hf  hP hD hS hl
        unfold f_X6_entryToTake_L2_J41 at hf
        obtain ⟨x1, ex1⟩ : ∃ y : Int32, y = (v3 : Int32) + 1 := ⟨_, rfl⟩
        have hf := ha_nms hf ex1
        refine lv_iinc (v := x1) (lv' := [(3, .int x1), (0, .ref (ad p0)), (1, .ref (ad p1)), (2, .int p2)]) hx hb dX6_entryToTake_41 hl (k := 3) rfl (by rw [ex1]; rfl) (by decide) rfl (fun ls hl => ?_)
        refine lv_goto (tgt := 2) hx hb dX6_entryToTake_44 (by decide) ?_
        exact ih x1 S H locs ls hf  hP hD hS (lv_sub hl [1, 2, 3, 0] rfl)
      have hf : (f_X6_entryToTake_L2 p0 p1 p2 (f_X6_entryToTake_L2i p0 p1 p2 n) v3 S).bind K = some out := hf
      unfold f_X6_entryToTake_L2 at hf
      refine lv_iload_n hx hb dX6_entryToTake_2 rfl (lv_at hl 3 rfl) ?_
      refine lv_aload_n hx hb dX6_entryToTake_3 rfl (lv_at hl 1 rfl) ?_
      refine ha_geti hx hb hown hK hP q58 hN h1 dX6_entryToTake_4 ?_
      refine lv_icmp_ge (tgt := 47) hx hb dX6_entryToTake_7 (by decide) (fun c2 => ?_) (fun c2 => ?_)
      · have hf := ha_it hf c2
        exact hk  S H locs ls hf  hP hD hS (lv_sub hl [0, 1, 2] rfl)
      · have hf := ha_if hf c2
        refine lv_aload_n hx hb dX6_entryToTake_10 rfl (lv_at hl 0 rfl) ?_
        obtain ⟨r3, wr3, hf⟩ := ha_bds hf
        obtain ⟨wr3, hr3⟩ := ha_rf_some wr3
        refine ha_getr hx hb hown hK hP q18 hN h0 wr3 dX6_entryToTake_11 ?_
        refine lv_iload_n hx hb dX6_entryToTake_14 rfl (lv_at hl 2 rfl) ?_
        obtain ⟨g4, hf⟩ := ha_gds hf
        refine ha_iald hx hb hK hP hN hr3 g4 dX6_entryToTake_15 ?_
        refine lv_iload_n hx hb dX6_entryToTake_16 rfl (lv_at hl 3 rfl) ?_
        refine lv_ishr hx hb dX6_entryToTake_17 ?_
        refine lv_iconst (v := 1) hx hb dX6_entryToTake_18 (by decide) ?_
        refine lv_iand hx hb dX6_entryToTake_19 ?_
        refine lv_if_eq (tgt := 41) hx hb dX6_entryToTake_20 (by decide) (fun c5 => ?_) (fun c5 => ?_)
        · have hf := ha_it hf c5
          exact J41 v3 S H locs ls hf  hP hD hS (lv_sub hl [0, 1, 2, 3] rfl)
        · have hf := ha_if hf c5
          refine lv_aload_n hx hb dX6_entryToTake_23 rfl (lv_at hl 0 rfl) ?_
          refine lv_aload_n hx hb dX6_entryToTake_24 rfl (lv_at hl 1 rfl) ?_
          refine lv_iload_n hx hb dX6_entryToTake_25 rfl (lv_at hl 3 rfl) ?_
          refine lv_iload_n hx hb dX6_entryToTake_26 rfl (lv_at hl 2 rfl) ?_
          obtain ⟨z6, wz6, hf⟩ := ha_bds hf
          refine ha_callVi (As := [.ref (ad p1), .int v3, .int p2]) (rest := []) hZ ⟨hx, hb, hml, hown, hts⟩ hK hz hP hD hS (c_X6_savingBy hZ hN hX h0 h1 wz6) cw0 hN h0 (by decide) rfl rfl hl.1 rfl (Nat.le_of_ble_eq_true rfl) dX6_entryToTake_27 ⟨Nat.le_of_ble_eq_true rfl, Nat.le_of_ble_eq_true rfl⟩ (fun H locs hP hD hS => ?_)
          refine lv_aload_n hx hb dX6_entryToTake_30 rfl (lv_at hl 0 rfl) ?_
          obtain ⟨r7, wr7, hf⟩ := ha_bds hf
          obtain ⟨wr7, hr7⟩ := ha_rf_some wr7
          refine ha_getr hx hb hown hK hP q21 hN h0 wr7 dX6_entryToTake_31 ?_
          refine lv_iload_n hx hb dX6_entryToTake_34 rfl (lv_at hl 2 rfl) ?_
          obtain ⟨g8, hf⟩ := ha_gds hf
          refine ha_iald hx hb hK hP hN hr7 g8 dX6_entryToTake_35 ?_
          refine lv_icmp_ne (tgt := 41) hx hb dX6_entryToTake_36 (by decide) (fun c9 => ?_) (fun c9 => ?_)
          · have hf := ha_it hf c9
            exact J41 v3 z6.2 H locs ls hf  hP hD hS (lv_sub hl [0, 1, 2, 3] rfl)
          · have hf := ha_if hf (fun q => q c9)
            refine lv_iload_n hx hb dX6_entryToTake_39 rfl (lv_at hl 3 rfl) ?_
            have he := hke _ hf
            exact ha_reti hx hb hr hlocks hP hD hS dX6_entryToTake_40 (ha_e1 he) (ha_e2 he)
  refine key10 _ (fun  S H locs ls hf  hP hD hS hl => ?_) (fun r h => Option.some.inj h) ha_fu 0 S H locs ls (ha_as hf)  hP hD hS (lv_sub hl [1, 2, 3, 0] rfl)
  have hf : (f_X6_entryToTake_J47 p0 p1 p2  S).bind some = some out := hf
  exact J47  S H locs ls hf  hP hD hS (lv_sub hl [0, 1, 2] rfl)

set_option maxHeartbeats 4000000 in
set_option maxRecDepth 100000 in
theorem c_X6_cut {l : Launch} {D : va_G} {cs : Nat → ClassId} {ad adK adV : Nat → Nat} {N : List Nat} {Z : State → Prop} (hZ : ha_Zok (ha_A ad N) Z) (hN : ∀ x, xo_kd x < 999 → x ∈ N) (hX : ∀ U, Z U → xo_Z adK adV (ha_A ad N) U) {p0 : Nat} {p1 : Nat} {p2 : Nat} {S : ha_St} {out : Int32 × ha_St} (h0 : xo_kd p0 = 6) (h1 : xo_kd p1 = 3) (h2 : xo_kd p2 = 100) (hf : f_X6_cut p0 p1 p2 S = some out) : ha_Ci l D cs ad xo_kd xo_ln N Z yX6_cut wsX6_cut ({ frames := 3, cells := 0, slots := 0, locals := 68 } : Room) [.ref (ad p0), .ref (ad p1), .ref (ad p2)] S out.1 out.2 := by
  refine Met.ofW (cc := cX6_cut) (maxL := 7) (ret := (some .int)) (by decide +kernel) rfl ?_
  intro p e s m args below meth c s₁ B hml hv
  obtain ⟨rfl, hP, hD, hK, hz⟩ := hv
  have hx := B.exec
  have hb := B.bytes
  have hr := B.returns
  have hts := atoms_spec (ws := wsX6_cut) B.pre
  have hown : s.vm.findClass RX6 = some m.cls := findClass_of_methodNamed B.named
  have hlocks := B.notSynchronized
  have hS : va_S (ha_A ad N) s.heap s.heap [] := va_S.rf
  have hi3 : ∀ w ∈ wsX30, w ∈ wsX6_cut := fun w h => List.mem_cons_of_mem _ (List.mem_append_right _ h)
  have hi6 : ∀ w ∈ wsX60, w ∈ wsX6_cut := fun w h => List.mem_cons_of_mem _ (List.mem_append_left _ (List.mem_append_right _ h))
  have q76 : ha_Fk s ([.ref (ad p0), .ref (ad p1), .ref (ad p2)] : List Value).toArray RX6 76 3 1 1 := ⟨RX3, TX3, 4, wsX6_cut, rfl, by decide, by decide, rfl, rfl, hts, hi3, hts (.fieldLink RX6 76 "HillArms$Entries" "length" "[I") (by decide +kernel)⟩
  have q9 : ha_Fk s ([.ref (ad p0), .ref (ad p1), .ref (ad p2)] : List Value).toArray RX6 9 6 0 1 := ⟨RX6, TX6, 8, wsX6_cut, rfl, by decide, by decide, rfl, rfl, hts, hi6, hts (.fieldLink RX6 9 "HillArms$Pages" "text" "[I") (by decide +kernel)⟩
  have q34 : ha_Fk s ([.ref (ad p0), .ref (ad p1), .ref (ad p2)] : List Value).toArray RX6 34 6 7 0 := ⟨RX6, TX6, 8, wsX6_cut, rfl, by decide, by decide, rfl, rfl, hts, hi6, hts (.fieldLink RX6 34 "HillArms$Pages" "bytes" "I") (by decide +kernel)⟩
  have q28 : ha_Fk s ([.ref (ad p0), .ref (ad p1), .ref (ad p2)] : List Value).toArray RX6 28 6 5 0 := ⟨RX6, TX6, 8, wsX6_cut, rfl, by decide, by decide, rfl, rfl, hts, hi6, hts (.fieldLink RX6 28 "HillArms$Pages" "words" "I") (by decide +kernel)⟩
  have q15 : ha_Fk s ([.ref (ad p0), .ref (ad p1), .ref (ad p2)] : List Value).toArray RX6 15 6 1 1 := ⟨RX6, TX6, 8, wsX6_cut, rfl, by decide, by decide, rfl, rfl, hts, hi6, hts (.fieldLink RX6 15 "HillArms$Pages" "wordAt" "[I") (by decide +kernel)⟩
  have q71 : ha_Fk s ([.ref (ad p0), .ref (ad p1), .ref (ad p2)] : List Value).toArray RX6 71 3 2 1 := ⟨RX3, TX3, 4, wsX6_cut, rfl, by decide, by decide, rfl, rfl, hts, hi3, hts (.fieldLink RX6 71 "HillArms$Entries" "words" "[I") (by decide +kernel)⟩
  have cw0 := cwV (R := (headSpec wsX6_cut ({ frames := 3, cells := 0, slots := 0, locals := 68 } : Room)).room) 2 hts gX6_cut_X6_entryToTake (rm := ({ frames := 2, cells := 0, slots := 0, locals := 45 } : Room)) (mc := 0) (ms := 0) rfl rfl rfl (by decide +kernel) ⟨Nat.le_of_ble_eq_true rfl, Nat.le_of_ble_eq_true rfl⟩
  have hl := lv_entry ([.ref (ad p0), .ref (ad p1), .ref (ad p2)]) (n := 7) (Nat.le_of_ble_eq_true rfl)
  rw [lg_entry_eq]
  generalize (lg_sl ([.ref (ad p0), .ref (ad p1), .ref (ad p2)]) ++ List.replicate (7 - (lg_sl ([.ref (ad p0), .ref (ad p1), .ref (ad p2)])).length) Slot.unset).toArray = ls at hl ⊢
  have hl : lv_has ls 7 [(0, .ref (ad p0)), (1, .ref (ad p1)), (2, .ref (ad p2))] := hl
  refine (fun (K0 : ∀ (H : Heap) (locs : List Loc), va_P D vwCl (ha_wl cs ad xo_kd xo_ln N S) H → va_S (ha_A ad N) s.heap H locs → W p l e (headSpec wsX6_cut ({ frames := 3, cells := 0, slots := 0, locals := 68 } : Room)).room s m ([.ref (ad p0), .ref (ad p1), .ref (ad p2)] : List Value).toArray below meth c H locs 0 0 (MQ below (va_Qi (fun (r : Int32) (_ : Unit) => r = out.1) (fun _ => ha_H D cs ad xo_kd xo_ln N out.2) (ha_A ad N)) ([.ref (ad p0), .ref (ad p1), .ref (ad p2)] : List Value).toArray s 0 0 (ha_A ad N)) (F0 m 0 ls [])) => K0 _ _ hP hS) ?_
  intro H locs hP hS
  have hf := ha_rt hf
  have J130 : ∀ (v3 : Int32) (S : ha_St) (H : Heap) (locs : List Loc) (ls : Array Slot), (f_X6_cut_J130 p0 p1 p2 v3 S).bind some = some out → va_P D vwCl (ha_wl cs ad xo_kd xo_ln N S) H → va_D (ha_A ad N) (ha_wl cs ad xo_kd xo_ln N S) → va_S (ha_A ad N) s.heap H locs → lv_has ls 7 [(0, .ref (ad p0)), (1, .ref (ad p1)), (2, .ref (ad p2)), (3, .int v3)] → W p l e (headSpec wsX6_cut ({ frames := 3, cells := 0, slots := 0, locals := 68 } : Room)).room s m ([.ref (ad p0), .ref (ad p1), .ref (ad p2)] : List Value).toArray below meth c H locs 0 0 (MQ below (va_Qi (fun (r : Int32) (_ : Unit) => r = out.1) (fun _ => ha_H D cs ad xo_kd xo_ln N out.2) (ha_A ad N)) ([.ref (ad p0), .ref (ad p1), .ref (ad p2)] : List Value).toArray s 0 0 (ha_A ad N)) (F0 m 130 ls []) := by
    intro v3 S H locs ls hf  hP hD hS hl
    unfold f_X6_cut_J130 at hf
    refine lv_iload_n hx hb dX6_cut_130 rfl (lv_at hl 3 rfl) ?_
    have he := Option.some.inj hf
    exact ha_reti hx hb hr hlocks hP hD hS dX6_cut_131 (ha_e1 he) (ha_e2 he)
  unfold f_X6_cut at hf
  refine lv_iconst (v := 0) hx hb dX6_cut_0 (by decide) ?_
  refine lv_istore_n (lv' := [(3, .int 0), (0, .ref (ad p0)), (1, .ref (ad p1)), (2, .ref (ad p2))]) hx hb dX6_cut_1 rfl hl (by decide) rfl (fun ls hl => ?_)
  refine lv_iconst (v := 0) hx hb dX6_cut_2 (by decide) ?_
  refine lv_istore (lv' := [(4, .int 0), (3, .int 0), (0, .ref (ad p0)), (1, .ref (ad p1)), (2, .ref (ad p2))]) hx hb dX6_cut_3 hl (by decide) rfl (fun ls hl => ?_)
  refine lv_iconst (v := 0) hx hb dX6_cut_5 (by decide) ?_
  refine lv_istore (lv' := [(5, .int 0), (4, .int 0), (3, .int 0), (0, .ref (ad p0)), (1, .ref (ad p1)), (2, .ref (ad p2))]) hx hb dX6_cut_6 hl (by decide) rfl (fun ls hl => ?_)
  have key22 : ∀ (K : (Int32 × ha_St) → Option (Int32 × ha_St)), (∀ (v3 : Int32) (S : ha_St) (H : Heap) (locs : List Loc) (ls : Array Slot), K (v3, S) = some out → va_P D vwCl (ha_wl cs ad xo_kd xo_ln N S) H → va_D (ha_A ad N) (ha_wl cs ad xo_kd xo_ln N S) → va_S (ha_A ad N) s.heap H locs → lv_has ls 7 [(0, .ref (ad p0)), (1, .ref (ad p1)), (2, .ref (ad p2)), (3, .int v3)] → W p l e (headSpec wsX6_cut ({ frames := 3, cells := 0, slots := 0, locals := 68 } : Room)).room s m ([.ref (ad p0), .ref (ad p1), .ref (ad p2)] : List Value).toArray below meth c H locs 0 0 (MQ below (va_Qi (fun (r : Int32) (_ : Unit) => r = out.1) (fun _ => ha_H D cs ad xo_kd xo_ln N out.2) (ha_A ad N)) ([.ref (ad p0), .ref (ad p1), .ref (ad p2)] : List Value).toArray s 0 0 (ha_A ad N)) (F0 m 130 ls [])) → ∀ (n : Nat) (v3 : Int32) (v4 : Int32) (v5 : Int32) (S : ha_St) (H : Heap) (locs : List Loc) (ls : Array Slot), (f_X6_cut_L8i p0 p1 p2 n (v3, v4, v5, S)).bind K = some out → va_P D vwCl (ha_wl cs ad xo_kd xo_ln N S) H → va_D (ha_A ad N) (ha_wl cs ad xo_kd xo_ln N S) → va_S (ha_A ad N) s.heap H locs → lv_has ls 7 [(0, .ref (ad p0)), (1, .ref (ad p1)), (2, .ref (ad p2)), (3, .int v3), (4, .int v4), (5, .int v5)] → W p l e (headSpec wsX6_cut ({ frames := 3, cells := 0, slots := 0, locals := 68 } : Room)).room s m ([.ref (ad p0), .ref (ad p1), .ref (ad p2)] : List Value).toArray below meth c H locs 0 0 (MQ below (va_Qi (fun (r : Int32) (_ : Unit) => r = out.1) (fun _ => ha_H D cs ad xo_kd xo_ln N out.2) (ha_A ad N)) ([.ref (ad p0), .ref (ad p1), .ref (ad p2)] : List Value).toArray s 0 0 (ha_A ad N)) (F0 m 8 ls []) := by
    intro K hk n
    induction n with
    | zero =>
      intro v3 v4 v5 S H locs ls hf
      exact absurd (show (none : Option (Int32 × ha_St)) = some out from hf) (fun h => by cases h)
    | succ n ih =>
      intro v3 v4 v5 S H locs ls hf  hP hD hS hl
      have J124 : ∀ (v3 : Int32) (v4 : Int32) (k0 : Int32) (k1 : Int32) (S : ha_St) (H : Heap) (locs : List Loc) (ls : Array Slot), (f_X6_cut_L8_J124 p0 p1 p2 (f_X6_cut_L8i p0 p1 p2 n) v3 v4 k0 k1 S).bind K = some out → va_P D vwCl (ha_wl cs ad xo_kd xo_ln N S) H → va_D (ha_A ad N) (ha_wl cs ad xo_kd xo_ln N S) → va_S (ha_A ad N) s.heap H locs → lv_has ls 7 [(0, .ref (ad p0)), (1, .ref (ad p1)), (2, .ref (ad p2)), (3, .int v3), (4, .int v4)] → W p l e (headSpec wsX6_cut ({ frames := 3, cells := 0, slots := 0, locals := 68 } : Room)).room s m ([.ref (ad p0), .ref (ad p1), .ref (ad p2)] : List Value).toArray below meth c H locs 0 0 (MQ below (va_Qi (fun (r : Int32) (_ : Unit) => r = out.1) (fun _ => ha_H D cs ad xo_kd xo_ln N out.2) (ha_A ad N)) ([.ref (ad p0), .ref (ad p1), .ref (ad p2)] : List Value).toArray s 0 0 (ha_A ad N)) (F0 m 124 ls [.int k1, .int k0]) := by
        intro v3 v4 k0 k1 S H locs ls hf  hP hD hS hl
        unfold f_X6_cut_L8_J124 at hf
        refine lv_iadd hx hb dX6_cut_124 ?_
        refine lv_topi (fun x1 ex1 => ?_)
        have hf := ha_nms hf ex1
        refine lv_istore (lv' := [(5, .int x1), (0, .ref (ad p0)), (1, .ref (ad p1)), (2, .ref (ad p2)), (3, .int v3), (4, .int v4)]) hx hb dX6_cut_125 hl (by decide) rfl (fun ls hl => ?_)
        refine lv_goto (tgt := 8) hx hb dX6_cut_127 (by decide) ?_
        exact ih v3 v4 x1 S H locs ls hf  hP hD hS (lv_sub hl [1, 2, 3, 4, 5, 0] rfl)
      have J101 : ∀ (v3 : Int32) (v4 : Int32) (v5 : Int32) (v6 : Int32) (k0 : Nat) (k1 : Int32) (k2 : Int32) (S : ha_St) (H : Heap) (locs : List Loc) (ls : Array Slot), (f_X6_cut_L8_J101 p0 p1 p2 (f_X6_cut_L8i p0 p1 p2 n) v3 v4 v5 v6 k0 k1 k2 S).bind K = some out → xo_kd k0 = 100 → va_P D vwCl (ha_wl cs ad xo_kd xo_ln N S) H → va_D (ha_A ad N) (ha_wl cs ad xo_kd xo_ln N S) → va_S (ha_A ad N) s.heap H locs → lv_has ls 7 [(0, .ref (ad p0)), (1, .ref (ad p1)), (2, .ref (ad p2)), (3, .int v3), (4, .int v4), (5, .int v5), (6, .int v6)] → W p l e (headSpec wsX6_cut ({ frames := 3, cells := 0, slots := 0, locals := 68 } : Room)).room s m ([.ref (ad p0), .ref (ad p1), .ref (ad p2)] : List Value).toArray below meth c H locs 0 0 (MQ below (va_Qi (fun (r : Int32) (_ : Unit) => r = out.1) (fun _ => ha_H D cs ad xo_kd xo_ln N out.2) (ha_A ad N)) ([.ref (ad p0), .ref (ad p1), .ref (ad p2)] : List Value).toArray s 0 0 (ha_A ad N)) (F0 m 101 ls [.int k2, .int k1, .ref (ad k0)]) := by
        intro v3 v4 v5 v6 k0 k1 k2 S H locs ls hf hk0 hP hD hS hl
        unfold f_X6_cut_L8_J101 at hf
        obtain ⟨g2, hf⟩ := ha_gds hf
        refine ha_iast hx hb hK hP hD hS hN hk0 g2 dX6_cut_101 (fun S3 H locs eS3 hP hD hS => ?_)
        have hf := ha_nms hf eS3
        obtain ⟨x4, ex4⟩ : ∃ y : Int32, y = (v3 : Int32) + 1 := ⟨_, rfl⟩
        have hf := ha_nms hf ex4
        refine lv_iinc (v := x4) (lv' := [(3, .int x4), (0, .ref (ad p0)), (1, .ref (ad p1)), (2, .ref (ad p2)), (4, .int v4), (5, .int v5), (6, .int v6)]) hx hb dX6_cut_102 hl (k := 3) rfl (by rw [ex4]; rfl) (by decide) rfl (fun ls hl => ?_)
        refine lv_iload hx hb dX6_cut_105 (lv_at hl 5 rfl) ?_
        refine lv_iload hx hb dX6_cut_107 (lv_at hl 6 rfl) ?_
        refine lv_iconst (v := (-1)) hx hb dX6_cut_109 (by decide) ?_
        refine lv_icmp_ne (tgt := 117) hx hb dX6_cut_110 (by decide) (fun c5 => ?_) (fun c5 => ?_)
        · have hf := ha_it hf c5
          refine lv_aload_n hx hb dX6_cut_117 rfl (lv_at hl 2 rfl) ?_
          obtain ⟨r6, wr6, hf⟩ := ha_bds hf
          obtain ⟨wr6, hr6⟩ := ha_rf_some wr6
          refine ha_getr hx hb hown hK hP q76 hN h1 wr6 dX6_cut_118 ?_
          refine lv_iload hx hb dX6_cut_121 (lv_at hl 6 rfl) ?_
          obtain ⟨g7, hf⟩ := ha_gds hf
          refine ha_iald hx hb hK hP hN hr6 g7 dX6_cut_123 ?_
          exact J124 x4 v4 v5 ((ha_gA S3 r6 (v6 : Int32).toNatClampNeg)) S3 H locs ls hf  hP hD hS (lv_sub hl [1, 2, 3, 0, 4] rfl)
        · have hf := ha_if hf (fun q => q c5)
          refine lv_iconst (v := 1) hx hb dX6_cut_113 (by decide) ?_
          refine lv_goto (tgt := 124) hx hb dX6_cut_114 (by decide) ?_
          exact J124 x4 v4 v5 1 S3 H locs ls hf  hP hD hS (lv_sub hl [1, 2, 3, 0, 4] rfl)
      have J78 : ∀ (v3 : Int32) (v4 : Int32) (v5 : Int32) (v6 : Int32) (S : ha_St) (H : Heap) (locs : List Loc) (ls : Array Slot), (f_X6_cut_L8_J78 p0 p1 p2 (f_X6_cut_L8i p0 p1 p2 n) v3 v4 v5 v6 S).bind K = some out → va_P D vwCl (ha_wl cs ad xo_kd xo_ln N S) H → va_D (ha_A ad N) (ha_wl cs ad xo_kd xo_ln N S) → va_S (ha_A ad N) s.heap H locs → lv_has ls 7 [(0, .ref (ad p0)), (1, .ref (ad p1)), (2, .ref (ad p2)), (3, .int v3), (4, .int v4), (5, .int v5), (6, .int v6)] → W p l e (headSpec wsX6_cut ({ frames := 3, cells := 0, slots := 0, locals := 68 } : Room)).room s m ([.ref (ad p0), .ref (ad p1), .ref (ad p2)] : List Value).toArray below meth c H locs 0 0 (MQ below (va_Qi (fun (r : Int32) (_ : Unit) => r = out.1) (fun _ => ha_H D cs ad xo_kd xo_ln N out.2) (ha_A ad N)) ([.ref (ad p0), .ref (ad p1), .ref (ad p2)] : List Value).toArray s 0 0 (ha_A ad N)) (F0 m 78 ls []) := by
        intro v3 v4 v5 v6 S H locs ls hf  hP hD hS hl
        unfold f_X6_cut_L8_J78 at hf
        refine lv_aload_n hx hb dX6_cut_78 rfl (lv_at hl 2 rfl) ?_
        refine lv_iload_n hx hb dX6_cut_79 rfl (lv_at hl 3 rfl) ?_
        refine lv_iload hx hb dX6_cut_80 (lv_at hl 6 rfl) ?_
        refine lv_iconst (v := (-1)) hx hb dX6_cut_82 (by decide) ?_
        refine lv_icmp_ne (tgt := 96) hx hb dX6_cut_83 (by decide) (fun c8 => ?_) (fun c8 => ?_)
        · have hf := ha_it hf c8
          refine lv_bipush (v := 100) hx hb dX6_cut_96 (by decide) ?_
          refine lv_iload hx hb dX6_cut_98 (lv_at hl 6 rfl) ?_
          refine lv_iadd hx hb dX6_cut_100 ?_
          exact J101 v3 v4 v5 v6 p2 v3 (((100 : Int32) + v6)) S H locs ls hf h2 hP hD hS (lv_sub hl [0, 1, 2, 3, 4, 5, 6] rfl)
        · have hf := ha_if hf (fun q => q c8)
          refine lv_aload_n hx hb dX6_cut_86 rfl (lv_at hl 0 rfl) ?_
          obtain ⟨r9, wr9, hf⟩ := ha_bds hf
          obtain ⟨wr9, hr9⟩ := ha_rf_some wr9
          refine ha_getr hx hb hown hK hP q9 hN h0 wr9 dX6_cut_87 ?_
          refine lv_iload hx hb dX6_cut_90 (lv_at hl 5 rfl) ?_
          obtain ⟨g10, hf⟩ := ha_gds hf
          refine ha_iald hx hb hK hP hN hr9 g10 dX6_cut_92 ?_
          refine lv_goto (tgt := 101) hx hb dX6_cut_93 (by decide) ?_
          exact J101 v3 v4 v5 v6 p2 v3 ((ha_gA S r9 (v5 : Int32).toNatClampNeg)) S H locs ls hf h2 hP hD hS (lv_sub hl [0, 1, 2, 3, 4, 5, 6] rfl)
      have J75 : ∀ (v3 : Int32) (v5 : Int32) (v6 : Int32) (k0 : Int32) (k1 : Int32) (S : ha_St) (H : Heap) (locs : List Loc) (ls : Array Slot), (f_X6_cut_L8_J75 p0 p1 p2 (f_X6_cut_L8i p0 p1 p2 n) v3 v5 v6 k0 k1 S).bind K = some out → va_P D vwCl (ha_wl cs ad xo_kd xo_ln N S) H → va_D (ha_A ad N) (ha_wl cs ad xo_kd xo_ln N S) → va_S (ha_A ad N) s.heap H locs → lv_has ls 7 [(0, .ref (ad p0)), (1, .ref (ad p1)), (2, .ref (ad p2)), (3, .int v3), (5, .int v5), (6, .int v6)] → W p l e (headSpec wsX6_cut ({ frames := 3, cells := 0, slots := 0, locals := 68 } : Room)).room s m ([.ref (ad p0), .ref (ad p1), .ref (ad p2)] : List Value).toArray below meth c H locs 0 0 (MQ below (va_Qi (fun (r : Int32) (_ : Unit) => r = out.1) (fun _ => ha_H D cs ad xo_kd xo_ln N out.2) (ha_A ad N)) ([.ref (ad p0), .ref (ad p1), .ref (ad p2)] : List Value).toArray s 0 0 (ha_A ad N)) (F0 m 75 ls [.int k1, .int k0]) := by
        intro v3 v5 v6 k0 k1 S H locs ls hf  hP hD hS hl
        unfold f_X6_cut_L8_J75 at hf
        refine lv_iadd hx hb dX6_cut_75 ?_
        refine lv_topi (fun x11 ex11 => ?_)
        have hf := ha_nms hf ex11
        refine lv_istore (lv' := [(4, .int x11), (0, .ref (ad p0)), (1, .ref (ad p1)), (2, .ref (ad p2)), (3, .int v3), (5, .int v5), (6, .int v6)]) hx hb dX6_cut_76 hl (by decide) rfl (fun ls hl => ?_)
        exact J78 v3 x11 v5 v6 S H locs ls hf  hP hD hS (lv_sub hl [1, 2, 3, 4, 0, 5, 6] rfl)
      have hf : (f_X6_cut_L8 p0 p1 p2 (f_X6_cut_L8i p0 p1 p2 n) v3 v4 v5 S).bind K = some out := hf
      unfold f_X6_cut_L8 at hf
      refine lv_iload hx hb dX6_cut_8 (lv_at hl 5 rfl) ?_
      refine lv_aload_n hx hb dX6_cut_10 rfl (lv_at hl 0 rfl) ?_
      refine ha_geti hx hb hown hK hP q34 hN h0 dX6_cut_11 ?_
      refine lv_icmp_ge (tgt := 130) hx hb dX6_cut_14 (by decide) (fun c12 => ?_) (fun c12 => ?_)
      · have hf := ha_it hf c12
        exact hk v3 S H locs ls hf  hP hD hS (lv_sub hl [0, 1, 2, 3] rfl)
      · have hf := ha_if hf c12
        refine lv_iload_n hx hb dX6_cut_17 rfl (lv_at hl 3 rfl) ?_
        refine lv_aload_n hx hb dX6_cut_18 rfl (lv_at hl 2 rfl) ?_
        refine ha_alen hx hb hK hP hN h2 (by decide) (by decide) dX6_cut_19 ?_
        refine lv_icmp_ge (tgt := 130) hx hb dX6_cut_20 (by decide) (fun c13 => ?_) (fun c13 => ?_)
        · have hf := ha_it hf c13
          exact hk v3 S H locs ls hf  hP hD hS (lv_sub hl [0, 1, 2, 3] rfl)
        · have hf := ha_if hf c13
          refine lv_iconst (v := (-1)) hx hb dX6_cut_23 (by decide) ?_
          refine lv_istore (lv' := [(6, .int (-1)), (0, .ref (ad p0)), (1, .ref (ad p1)), (2, .ref (ad p2)), (3, .int v3), (4, .int v4), (5, .int v5)]) hx hb dX6_cut_24 hl (by decide) rfl (fun ls hl => ?_)
          refine lv_iload hx hb dX6_cut_26 (lv_at hl 5 rfl) ?_
          refine lv_aload_n hx hb dX6_cut_28 rfl (lv_at hl 1 rfl) ?_
          refine ha_geti hx hb hown hK hP q28 hN h0 dX6_cut_29 ?_
          refine lv_icmp_ge (tgt := 78) hx hb dX6_cut_32 (by decide) (fun c14 => ?_) (fun c14 => ?_)
          · have hf := ha_it hf c14
            exact J78 v3 v4 v5 (-1) S H locs ls hf  hP hD hS (lv_sub hl [1, 2, 3, 4, 5, 6, 0] rfl)
          · have hf := ha_if hf c14
            refine lv_aload_n hx hb dX6_cut_35 rfl (lv_at hl 1 rfl) ?_
            obtain ⟨r15, wr15, hf⟩ := ha_bds hf
            obtain ⟨wr15, hr15⟩ := ha_rf_some wr15
            refine ha_getr hx hb hown hK hP q15 hN h0 wr15 dX6_cut_36 ?_
            refine lv_iload hx hb dX6_cut_39 (lv_at hl 5 rfl) ?_
            obtain ⟨g16, hf⟩ := ha_gds hf
            refine ha_iald hx hb hK hP hN hr15 g16 dX6_cut_41 ?_
            refine lv_iload hx hb dX6_cut_42 (lv_at hl 6 rfl) ?_
            refine lv_icmp_ne (tgt := 78) hx hb dX6_cut_44 (by decide) (fun c17 => ?_) (fun c17 => ?_)
            · have hf := ha_it hf c17
              exact J78 v3 v4 v5 (-1) S H locs ls hf  hP hD hS (lv_sub hl [1, 2, 3, 4, 5, 6, 0] rfl)
            · have hf := ha_if hf (fun q => q c17)
              refine lv_aload_n hx hb dX6_cut_47 rfl (lv_at hl 1 rfl) ?_
              refine lv_aload_n hx hb dX6_cut_48 rfl (lv_at hl 2 rfl) ?_
              refine lv_iload hx hb dX6_cut_49 (lv_at hl 5 rfl) ?_
              obtain ⟨z18, wz18, hf⟩ := ha_bds hf
              refine ha_callVi (As := [.ref (ad p1), .int v4]) (rest := []) hZ ⟨hx, hb, hml, hown, hts⟩ hK hz hP hD hS (c_X6_entryToTake hZ hN hX h0 h1 wz18) cw0 hN h0 (by decide) rfl rfl hl.1 rfl (Nat.le_of_ble_eq_true rfl) dX6_cut_51 ⟨Nat.le_of_ble_eq_true rfl, Nat.le_of_ble_eq_true rfl⟩ (fun H locs hP hD hS => ?_)
              refine lv_istore (lv' := [(6, .int z18.1), (0, .ref (ad p0)), (1, .ref (ad p1)), (2, .ref (ad p2)), (3, .int v3), (4, .int v4), (5, .int v5)]) hx hb dX6_cut_54 hl (by decide) rfl (fun ls hl => ?_)
              refine lv_iload hx hb dX6_cut_56 (lv_at hl 5 rfl) ?_
              refine lv_iload hx hb dX6_cut_58 (lv_at hl 0 rfl) ?_
              refine lv_iconst (v := (-1)) hx hb dX6_cut_60 (by decide) ?_
              refine lv_icmp_ne (tgt := 68) hx hb dX6_cut_61 (by decide) (fun c19 => ?_) (fun c19 => ?_)
              · have hf := ha_it hf c19
                refine lv_aload_n hx hb dX6_cut_68 rfl (lv_at hl 2 rfl) ?_
                obtain ⟨r20, wr20, hf⟩ := ha_bds hf
                obtain ⟨wr20, hr20⟩ := ha_rf_some wr20
                refine ha_getr hx hb hown hK hP q71 hN h1 wr20 dX6_cut_69 ?_
                refine lv_iload hx hb dX6_cut_72 (lv_at hl 0 rfl) ?_
                obtain ⟨g21, hf⟩ := ha_gds hf
                refine ha_iald hx hb hK hP hN hr20 g21 dX6_cut_74 ?_
                exact J75 v3 v5 z18.1 v4 ((ha_gA z18.2 r20 (z18.1 : Int32).toNatClampNeg)) z18.2 H locs ls hf  hP hD hS (lv_sub hl [1, 2, 3, 4, 6, 0] rfl)
              · have hf := ha_if hf (fun q => q c19)
                refine lv_iconst (v := 1) hx hb dX6_cut_64 (by decide) ?_
                refine lv_goto (tgt := 75) hx hb dX6_cut_65 (by decide) ?_
                exact J75 v3 v5 z18.1 v4 1 z18.2 H locs ls hf  hP hD hS (lv_sub hl [1, 2, 3, 4, 6, 0] rfl)
  refine key22 _ (fun v3 S H locs ls hf  hP hD hS hl => ?_) ha_fu 0 0 0 S H locs ls (ha_as hf)  hP hD hS (lv_sub hl [3, 4, 5, 2, 1, 0] rfl)
  have hf : (f_X6_cut_J130 p0 p1 p2 v3 S).bind some = some out := hf
  exact J130 v3 S H locs ls hf  hP hD hS (lv_sub hl [0, 1, 2, 3] rfl)

set_option maxHeartbeats 4000000 in
set_option maxRecDepth 100000 in
theorem c_X6_usefulSet {l : Launch} {D : va_G} {cs : Nat → ClassId} {ad adK adV : Nat → Nat} {N : List Nat} {Z : State → Prop} (hZ : ha_Zok (ha_A ad N) Z) (hN : ∀ x, xo_kd x < 999 → x ∈ N) (hX : ∀ U, Z U → xo_Z adK adV (ha_A ad N) U) {p0 : Nat} {p1 : Nat} {S : ha_St} {out : Int32 × ha_St} (h0 : xo_kd p0 = 6) (h1 : xo_kd p1 = 3) (hf : f_X6_usefulSet p0 p1 S = some out) : ha_Ci l D cs ad xo_kd xo_ln N Z yX6_usefulSet wsX6_usefulSet ({ frames := 0, cells := 0, slots := 0, locals := 0 } : Room) [.ref (ad p0), .ref (ad p1)] S out.1 out.2 := by
  refine Met.ofW (cc := cX6_usefulSet) (maxL := 4) (ret := (some .int)) (by decide +kernel) rfl ?_
  intro p e s m args below meth c s₁ B hml hv
  obtain ⟨rfl, hP, hD, hK, hz⟩ := hv
  have hx := B.exec
  have hb := B.bytes
  have hr := B.returns
  have hts := atoms_spec (ws := wsX6_usefulSet) B.pre
  have hown : s.vm.findClass RX6 = some m.cls := findClass_of_methodNamed B.named
  have hlocks := B.notSynchronized
  have hS : va_S (ha_A ad N) s.heap s.heap [] := va_S.rf
  have hi3 : ∀ w ∈ wsX30, w ∈ wsX6_usefulSet := fun w h => List.mem_cons_of_mem _ (List.mem_append_right _ h)
  have hi6 : ∀ w ∈ wsX60, w ∈ wsX6_usefulSet := fun w h => List.mem_cons_of_mem _ (List.mem_append_left _ (List.mem_append_right _ h))
  have q58 : ha_Fk s ([.ref (ad p0), .ref (ad p1)] : List Value).toArray RX6 58 3 3 0 := ⟨RX3, TX3, 4, wsX6_usefulSet, rfl, by decide, by decide, rfl, rfl, hts, hi3, hts (.fieldLink RX6 58 "HillArms$Entries" "known" "I") (by decide +kernel)⟩
  have q76 : ha_Fk s ([.ref (ad p0), .ref (ad p1)] : List Value).toArray RX6 76 3 1 1 := ⟨RX3, TX3, 4, wsX6_usefulSet, rfl, by decide, by decide, rfl, rfl, hts, hi3, hts (.fieldLink RX6 76 "HillArms$Entries" "length" "[I") (by decide +kernel)⟩
  have q28 : ha_Fk s ([.ref (ad p0), .ref (ad p1)] : List Value).toArray RX6 28 6 5 0 := ⟨RX6, TX6, 8, wsX6_usefulSet, rfl, by decide, by decide, rfl, rfl, hts, hi6, hts (.fieldLink RX6 28 "HillArms$Pages" "words" "I") (by decide +kernel)⟩
  have q18 : ha_Fk s ([.ref (ad p0), .ref (ad p1)] : List Value).toArray RX6 18 6 2 1 := ⟨RX6, TX6, 8, wsX6_usefulSet, rfl, by decide, by decide, rfl, rfl, hts, hi6, hts (.fieldLink RX6 18 "HillArms$Pages" "fitting" "[I") (by decide +kernel)⟩
  have hl := lv_entry ([.ref (ad p0), .ref (ad p1)]) (n := 4) (Nat.le_of_ble_eq_true rfl)
  rw [lg_entry_eq]
  generalize (lg_sl ([.ref (ad p0), .ref (ad p1)]) ++ List.replicate (4 - (lg_sl ([.ref (ad p0), .ref (ad p1)])).length) Slot.unset).toArray = ls at hl ⊢
  have hl : lv_has ls 4 [(0, .ref (ad p0)), (1, .ref (ad p1))] := hl
  refine (fun (K0 : ∀ (H : Heap) (locs : List Loc), va_P D vwCl (ha_wl cs ad xo_kd xo_ln N S) H → va_S (ha_A ad N) s.heap H locs → W p l e (headSpec wsX6_usefulSet ({ frames := 0, cells := 0, slots := 0, locals := 0 } : Room)).room s m ([.ref (ad p0), .ref (ad p1)] : List Value).toArray below meth c H locs 0 0 (MQ below (va_Qi (fun (r : Int32) (_ : Unit) => r = out.1) (fun _ => ha_H D cs ad xo_kd xo_ln N out.2) (ha_A ad N)) ([.ref (ad p0), .ref (ad p1)] : List Value).toArray s 0 0 (ha_A ad N)) (F0 m 0 ls [])) => K0 _ _ hP hS) ?_
  intro H locs hP hS
  have hf := ha_rt hf
  have J61 : ∀ (v2 : Int32) (S : ha_St) (H : Heap) (locs : List Loc) (ls : Array Slot), (f_X6_usefulSet_J61 p0 p1 v2 S).bind some = some out → va_P D vwCl (ha_wl cs ad xo_kd xo_ln N S) H → va_D (ha_A ad N) (ha_wl cs ad xo_kd xo_ln N S) → va_S (ha_A ad N) s.heap H locs → lv_has ls 4 [(0, .ref (ad p0)), (1, .ref (ad p1)), (2, .int v2)] → W p l e (headSpec wsX6_usefulSet ({ frames := 0, cells := 0, slots := 0, locals := 0 } : Room)).room s m ([.ref (ad p0), .ref (ad p1)] : List Value).toArray below meth c H locs 0 0 (MQ below (va_Qi (fun (r : Int32) (_ : Unit) => r = out.1) (fun _ => ha_H D cs ad xo_kd xo_ln N out.2) (ha_A ad N)) ([.ref (ad p0), .ref (ad p1)] : List Value).toArray s 0 0 (ha_A ad N)) (F0 m 61 ls []) := by
    intro v2 S H locs ls hf  hP hD hS hl
    unfold f_X6_usefulSet_J61 at hf
    refine lv_iload_n hx hb dX6_usefulSet_61 rfl (lv_at hl 2 rfl) ?_
    have he := Option.some.inj hf
    exact ha_reti hx hb hr hlocks hP hD hS dX6_usefulSet_62 (ha_e1 he) (ha_e2 he)
  have J27 : ∀ (v2 : Int32) (S : ha_St) (H : Heap) (locs : List Loc) (ls : Array Slot), (f_X6_usefulSet_J27 p0 p1 v2 S).bind some = some out → va_P D vwCl (ha_wl cs ad xo_kd xo_ln N S) H → va_D (ha_A ad N) (ha_wl cs ad xo_kd xo_ln N S) → va_S (ha_A ad N) s.heap H locs → lv_has ls 4 [(0, .ref (ad p0)), (1, .ref (ad p1)), (2, .int v2)] → W p l e (headSpec wsX6_usefulSet ({ frames := 0, cells := 0, slots := 0, locals := 0 } : Room)).room s m ([.ref (ad p0), .ref (ad p1)] : List Value).toArray below meth c H locs 0 0 (MQ below (va_Qi (fun (r : Int32) (_ : Unit) => r = out.1) (fun _ => ha_H D cs ad xo_kd xo_ln N out.2) (ha_A ad N)) ([.ref (ad p0), .ref (ad p1)] : List Value).toArray s 0 0 (ha_A ad N)) (F0 m 27 ls []) := by
    intro v2 S H locs ls hf  hP hD hS hl
    unfold f_X6_usefulSet_J27 at hf
    refine lv_iconst (v := 0) hx hb dX6_usefulSet_27 (by decide) ?_
    refine lv_istore_n (lv' := [(3, .int 0), (0, .ref (ad p0)), (1, .ref (ad p1)), (2, .int v2)]) hx hb dX6_usefulSet_28 rfl hl (by decide) rfl (fun ls hl => ?_)
    have key7 : ∀ (K : (Int32 × ha_St) → Option (Int32 × ha_St)), (∀ (v2 : Int32) (S : ha_St) (H : Heap) (locs : List Loc) (ls : Array Slot), K (v2, S) = some out → va_P D vwCl (ha_wl cs ad xo_kd xo_ln N S) H → va_D (ha_A ad N) (ha_wl cs ad xo_kd xo_ln N S) → va_S (ha_A ad N) s.heap H locs → lv_has ls 4 [(0, .ref (ad p0)), (1, .ref (ad p1)), (2, .int v2)] → W p l e (headSpec wsX6_usefulSet ({ frames := 0, cells := 0, slots := 0, locals := 0 } : Room)).room s m ([.ref (ad p0), .ref (ad p1)] : List Value).toArray below meth c H locs 0 0 (MQ below (va_Qi (fun (r : Int32) (_ : Unit) => r = out.1) (fun _ => ha_H D cs ad xo_kd xo_ln N out.2) (ha_A ad N)) ([.ref (ad p0), .ref (ad p1)] : List Value).toArray s 0 0 (ha_A ad N)) (F0 m 61 ls [])) → ∀ (n : Nat) (v2 : Int32) (v3 : Int32) (S : ha_St) (H : Heap) (locs : List Loc) (ls : Array Slot), (f_X6_usefulSet_L29i p0 p1 n (v2, v3, S)).bind K = some out → va_P D vwCl (ha_wl cs ad xo_kd xo_ln N S) H → va_D (ha_A ad N) (ha_wl cs ad xo_kd xo_ln N S) → va_S (ha_A ad N) s.heap H locs → lv_has ls 4 [(0, .ref (ad p0)), (1, .ref (ad p1)), (2, .int v2), (3, .int v3)] → W p l e (headSpec wsX6_usefulSet ({ frames := 0, cells := 0, slots := 0, locals := 0 } : Room)).room s m ([.ref (ad p0), .ref (ad p1)] : List Value).toArray below meth c H locs 0 0 (MQ below (va_Qi (fun (r : Int32) (_ : Unit) => r = out.1) (fun _ => ha_H D cs ad xo_kd xo_ln N out.2) (ha_A ad N)) ([.ref (ad p0), .ref (ad p1)] : List Value).toArray s 0 0 (ha_A ad N)) (F0 m 29 ls []) := by
      intro K hk n
      induction n with
      | zero =>
        intro v2 v3 S H locs ls hf
        exact absurd (show (none : Option (Int32 × ha_St)) = some out from hf) (fun h => by cases h)
      | succ n ih =>
        intro v2 v3 S H locs ls hf  hP hD hS hl
        have J55 : ∀ (v2 : Int32) (v3 : Int32) (S : ha_St) (H : Heap) (locs : List Loc) (ls : Array Slot), (f_X6_usefulSet_L29_J55 p0 p1 (f_X6_usefulSet_L29i p0 p1 n) v2 v3 S).bind K = some out → va_P D vwCl (ha_wl cs ad xo_kd xo_ln N S) H → va_D (ha_A ad N) (ha_wl cs ad xo_kd xo_ln N S) → va_S (ha_A ad N) s.heap H locs → lv_has ls 4 [(0, .ref (ad p0)), (1, .ref (ad p1)), (2, .int v2), (3, .int v3)] → W p l e (headSpec wsX6_usefulSet ({ frames := 0, cells := 0, slots := 0, locals := 0 } : Room)).room s m ([.ref (ad p0), .ref (ad p1)] : List Value).toArray below meth c H locs 0 0 (MQ below (va_Qi (fun (r : Int32) (_ : Unit) => r = out.1) (fun _ => ha_H D cs ad xo_kd xo_ln N out.2) (ha_A ad N)) ([.ref (ad p0), .ref (ad p1)] : List Value).toArray s 0 0 (ha_A ad N)) (F0 m 55 ls []) := by
          intro v2 v3 S H locs ls hf  hP hD hS hl
          unfold f_X6_usefulSet_L29_J55 at hf
          obtain ⟨x1, ex1⟩ : ∃ y : Int32, y = (v3 : Int32) + 1 := ⟨_, rfl⟩
          have hf := ha_nms hf ex1
          refine lv_iinc (v := x1) (lv' := [(3, .int x1), (0, .ref (ad p0)), (1, .ref (ad p1)), (2, .int v2)]) hx hb dX6_usefulSet_55 hl (k := 3) rfl (by rw [ex1]; rfl) (by decide) rfl (fun ls hl => ?_)
          refine lv_goto (tgt := 29) hx hb dX6_usefulSet_58 (by decide) ?_
          exact ih v2 x1 S H locs ls hf  hP hD hS (lv_sub hl [1, 2, 3, 0] rfl)
        have hf : (f_X6_usefulSet_L29 p0 p1 (f_X6_usefulSet_L29i p0 p1 n) v2 v3 S).bind K = some out := hf
        unfold f_X6_usefulSet_L29 at hf
        refine lv_iload_n hx hb dX6_usefulSet_29 rfl (lv_at hl 3 rfl) ?_
        refine lv_aload_n hx hb dX6_usefulSet_30 rfl (lv_at hl 1 rfl) ?_
        refine ha_geti hx hb hown hK hP q58 hN h1 dX6_usefulSet_31 ?_
        refine lv_icmp_ge (tgt := 61) hx hb dX6_usefulSet_34 (by decide) (fun c2 => ?_) (fun c2 => ?_)
        · have hf := ha_it hf c2
          exact hk v2 S H locs ls hf  hP hD hS (lv_sub hl [0, 1, 2] rfl)
        · have hf := ha_if hf c2
          refine lv_aload_n hx hb dX6_usefulSet_37 rfl (lv_at hl 1 rfl) ?_
          obtain ⟨r3, wr3, hf⟩ := ha_bds hf
          obtain ⟨wr3, hr3⟩ := ha_rf_some wr3
          refine ha_getr hx hb hown hK hP q76 hN h1 wr3 dX6_usefulSet_38 ?_
          refine lv_iload_n hx hb dX6_usefulSet_41 rfl (lv_at hl 3 rfl) ?_
          obtain ⟨g4, hf⟩ := ha_gds hf
          refine ha_iald hx hb hK hP hN hr3 g4 dX6_usefulSet_42 ?_
          refine lv_iconst (v := 2) hx hb dX6_usefulSet_43 (by decide) ?_
          refine lv_icmp_gt (tgt := 55) hx hb dX6_usefulSet_44 (by decide) (fun c5 => ?_) (fun c5 => ?_)
          · have hf := ha_it hf c5
            exact J55 v2 v3 S H locs ls hf  hP hD hS (lv_sub hl [0, 1, 2, 3] rfl)
          · have hf := ha_if hf c5
            refine lv_iload_n hx hb dX6_usefulSet_47 rfl (lv_at hl 2 rfl) ?_
            refine lv_iconst (v := 1) hx hb dX6_usefulSet_48 (by decide) ?_
            refine lv_iload_n hx hb dX6_usefulSet_49 rfl (lv_at hl 3 rfl) ?_
            refine lv_ishl hx hb dX6_usefulSet_50 ?_
            refine lv_iconst (v := (-1)) hx hb dX6_usefulSet_51 (by decide) ?_
            refine lv_ixor hx hb dX6_usefulSet_52 ?_
            refine lv_iand hx hb dX6_usefulSet_53 ?_
            refine lv_topi (fun x6 ex6 => ?_)
            have hf := ha_nms hf ex6
            refine lv_istore_n (lv' := [(2, .int x6), (0, .ref (ad p0)), (1, .ref (ad p1)), (3, .int v3)]) hx hb dX6_usefulSet_54 rfl hl (by decide) rfl (fun ls hl => ?_)
            exact J55 x6 v3 S H locs ls hf  hP hD hS (lv_sub hl [1, 2, 0, 3] rfl)
    refine key7 _ (fun v2 S H locs ls hf  hP hD hS hl => ?_) ha_fu v2 0 S H locs ls (ha_as hf)  hP hD hS (lv_sub hl [1, 2, 3, 0] rfl)
    have hf : (f_X6_usefulSet_J61 p0 p1 v2 S).bind some = some out := hf
    exact J61 v2 S H locs ls hf  hP hD hS (lv_sub hl [0, 1, 2] rfl)
  unfold f_X6_usefulSet at hf
  refine lv_iconst (v := 0) hx hb dX6_usefulSet_0 (by decide) ?_
  refine lv_istore_n (lv' := [(2, .int 0), (0, .ref (ad p0)), (1, .ref (ad p1))]) hx hb dX6_usefulSet_1 rfl hl (by decide) rfl (fun ls hl => ?_)
  refine lv_iconst (v := 0) hx hb dX6_usefulSet_2 (by decide) ?_
  refine lv_istore_n (lv' := [(3, .int 0), (2, .int 0), (0, .ref (ad p0)), (1, .ref (ad p1))]) hx hb dX6_usefulSet_3 rfl hl (by decide) rfl (fun ls hl => ?_)
  have key14 : ∀ (K : (Int32 × ha_St) → Option (Int32 × ha_St)), (∀ (v2 : Int32) (S : ha_St) (H : Heap) (locs : List Loc) (ls : Array Slot), K (v2, S) = some out → va_P D vwCl (ha_wl cs ad xo_kd xo_ln N S) H → va_D (ha_A ad N) (ha_wl cs ad xo_kd xo_ln N S) → va_S (ha_A ad N) s.heap H locs → lv_has ls 4 [(0, .ref (ad p0)), (1, .ref (ad p1)), (2, .int v2)] → W p l e (headSpec wsX6_usefulSet ({ frames := 0, cells := 0, slots := 0, locals := 0 } : Room)).room s m ([.ref (ad p0), .ref (ad p1)] : List Value).toArray below meth c H locs 0 0 (MQ below (va_Qi (fun (r : Int32) (_ : Unit) => r = out.1) (fun _ => ha_H D cs ad xo_kd xo_ln N out.2) (ha_A ad N)) ([.ref (ad p0), .ref (ad p1)] : List Value).toArray s 0 0 (ha_A ad N)) (F0 m 27 ls [])) → ∀ (n : Nat) (v2 : Int32) (v3 : Int32) (S : ha_St) (H : Heap) (locs : List Loc) (ls : Array Slot), (f_X6_usefulSet_L4i p0 p1 n (v2, v3, S)).bind K = some out → va_P D vwCl (ha_wl cs ad xo_kd xo_ln N S) H → va_D (ha_A ad N) (ha_wl cs ad xo_kd xo_ln N S) → va_S (ha_A ad N) s.heap H locs → lv_has ls 4 [(0, .ref (ad p0)), (1, .ref (ad p1)), (2, .int v2), (3, .int v3)] → W p l e (headSpec wsX6_usefulSet ({ frames := 0, cells := 0, slots := 0, locals := 0 } : Room)).room s m ([.ref (ad p0), .ref (ad p1)] : List Value).toArray below meth c H locs 0 0 (MQ below (va_Qi (fun (r : Int32) (_ : Unit) => r = out.1) (fun _ => ha_H D cs ad xo_kd xo_ln N out.2) (ha_A ad N)) ([.ref (ad p0), .ref (ad p1)] : List Value).toArray s 0 0 (ha_A ad N)) (F0 m 4 ls []) := by
    intro K hk n
    induction n with
    | zero =>
      intro v2 v3 S H locs ls hf
      exact absurd (show (none : Option (Int32 × ha_St)) = some out from hf) (fun h => by cases h)
    | succ n ih =>
      intro v2 v3 S H locs ls hf  hP hD hS hl
      have hf : (f_X6_usefulSet_L4 p0 p1 (f_X6_usefulSet_L4i p0 p1 n) v2 v3 S).bind K = some out := hf
      unfold f_X6_usefulSet_L4 at hf
      refine lv_iload_n hx hb dX6_usefulSet_4 rfl (lv_at hl 3 rfl) ?_
      refine lv_aload_n hx hb dX6_usefulSet_5 rfl (lv_at hl 0 rfl) ?_
      refine ha_geti hx hb hown hK hP q28 hN h0 dX6_usefulSet_6 ?_
      refine lv_icmp_ge (tgt := 27) hx hb dX6_usefulSet_9 (by decide) (fun c9 => ?_) (fun c9 => ?_)
      · have hf := ha_it hf c9
        exact hk v2 S H locs ls hf  hP hD hS (lv_sub hl [0, 1, 2] rfl)
      · have hf := ha_if hf c9
        refine lv_iload_n hx hb dX6_usefulSet_12 rfl (lv_at hl 2 rfl) ?_
        refine lv_aload_n hx hb dX6_usefulSet_13 rfl (lv_at hl 0 rfl) ?_
        obtain ⟨r10, wr10, hf⟩ := ha_bds hf
        obtain ⟨wr10, hr10⟩ := ha_rf_some wr10
        refine ha_getr hx hb hown hK hP q18 hN h0 wr10 dX6_usefulSet_14 ?_
        refine lv_iload_n hx hb dX6_usefulSet_17 rfl (lv_at hl 3 rfl) ?_
        obtain ⟨g11, hf⟩ := ha_gds hf
        refine ha_iald hx hb hK hP hN hr10 g11 dX6_usefulSet_18 ?_
        refine lv_ior hx hb dX6_usefulSet_19 ?_
        refine lv_topi (fun x12 ex12 => ?_)
        have hf := ha_nms hf ex12
        refine lv_istore_n (lv' := [(2, .int x12), (0, .ref (ad p0)), (1, .ref (ad p1)), (3, .int v3)]) hx hb dX6_usefulSet_20 rfl hl (by decide) rfl (fun ls hl => ?_)
        obtain ⟨x13, ex13⟩ : ∃ y : Int32, y = (v3 : Int32) + 1 := ⟨_, rfl⟩
        have hf := ha_nms hf ex13
        refine lv_iinc (v := x13) (lv' := [(3, .int x13), (2, .int x12), (0, .ref (ad p0)), (1, .ref (ad p1))]) hx hb dX6_usefulSet_21 hl (k := 3) rfl (by rw [ex13]; rfl) (by decide) rfl (fun ls hl => ?_)
        refine lv_goto (tgt := 4) hx hb dX6_usefulSet_24 (by decide) ?_
        exact ih x12 x13 S H locs ls hf  hP hD hS (lv_sub hl [2, 3, 1, 0] rfl)
  refine key14 _ (fun v2 S H locs ls hf  hP hD hS hl => ?_) ha_fu 0 0 S H locs ls (ha_as hf)  hP hD hS (lv_sub hl [2, 3, 1, 0] rfl)
  have hf : (f_X6_usefulSet_J27 p0 p1 v2 S).bind some = some out := hf
  exact J27 v2 S H locs ls hf  hP hD hS (lv_sub hl [0, 1, 2] rfl)

set_option maxHeartbeats 4000000 in
set_option maxRecDepth 100000 in
theorem c_X6_bestSet {l : Launch} {D : va_G} {cs : Nat → ClassId} {ad adK adV : Nat → Nat} {N : List Nat} {Z : State → Prop} (hZ : ha_Zok (ha_A ad N) Z) (hN : ∀ x, xo_kd x < 999 → x ∈ N) (hX : ∀ U, Z U → xo_Z adK adV (ha_A ad N) U) {p0 : Nat} {p1 : Nat} {p2 : Int32} {S : ha_St} {out : Int32 × ha_St} (h0 : xo_kd p0 = 6) (h1 : xo_kd p1 = 3) (hf : f_X6_bestSet p0 p1 p2 S = some out) : ha_Ci l D cs ad xo_kd xo_ln N Z yX6_bestSet wsX6_bestSet ({ frames := 3, cells := 0, slots := 0, locals := 70 } : Room) [.ref (ad p0), .ref (ad p1), .int p2] S out.1 out.2 := by
  refine Met.ofW (cc := cX6_bestSet) (maxL := 8) (ret := (some .int)) (by decide +kernel) rfl ?_
  intro p e s m args below meth c s₁ B hml hv
  obtain ⟨rfl, hP, hD, hK, hz⟩ := hv
  have hx := B.exec
  have hb := B.bytes
  have hr := B.returns
  have hts := atoms_spec (ws := wsX6_bestSet) B.pre
  have hown : s.vm.findClass RX6 = some m.cls := findClass_of_methodNamed B.named
  have hlocks := B.notSynchronized
  have hS : va_S (ha_A ad N) s.heap s.heap [] := va_S.rf
  have cw0 := cwV (R := (headSpec wsX6_bestSet ({ frames := 3, cells := 0, slots := 0, locals := 70 } : Room)).room) 1 hts gX6_bestSet_X6_usefulSet (rm := ({ frames := 0, cells := 0, slots := 0, locals := 0 } : Room)) (mc := 0) (ms := 0) rfl rfl rfl (by decide +kernel) ⟨Nat.le_of_ble_eq_true rfl, Nat.le_of_ble_eq_true rfl⟩
  have cw1 := va_cwS (R := (headSpec wsX6_bestSet ({ frames := 3, cells := 0, slots := 0, locals := 70 } : Room)).room) 1 hts gX6_bestSet_J6_bitCount_0f7a4 (rm := ({ frames := 0, cells := 0, slots := 0, locals := 0 } : Room)) (mc := 0) (ms := 0) rfl rfl rfl (by decide +kernel) ⟨Nat.le_of_ble_eq_true rfl, Nat.le_of_ble_eq_true rfl⟩
  have cw2 := cwV (R := (headSpec wsX6_bestSet ({ frames := 3, cells := 0, slots := 0, locals := 70 } : Room)).room) 2 hts gX6_bestSet_X6_saving (rm := ({ frames := 2, cells := 0, slots := 0, locals := 45 } : Room)) (mc := 0) (ms := 0) rfl rfl rfl (by decide +kernel) ⟨Nat.le_of_ble_eq_true rfl, Nat.le_of_ble_eq_true rfl⟩
  have hl := lv_entry ([.ref (ad p0), .ref (ad p1), .int p2]) (n := 8) (Nat.le_of_ble_eq_true rfl)
  rw [lg_entry_eq]
  generalize (lg_sl ([.ref (ad p0), .ref (ad p1), .int p2]) ++ List.replicate (8 - (lg_sl ([.ref (ad p0), .ref (ad p1), .int p2])).length) Slot.unset).toArray = ls at hl ⊢
  have hl : lv_has ls 8 [(0, .ref (ad p0)), (1, .ref (ad p1)), (2, .int p2)] := hl
  refine (fun (K0 : ∀ (H : Heap) (locs : List Loc), va_P D vwCl (ha_wl cs ad xo_kd xo_ln N S) H → va_S (ha_A ad N) s.heap H locs → W p l e (headSpec wsX6_bestSet ({ frames := 3, cells := 0, slots := 0, locals := 70 } : Room)).room s m ([.ref (ad p0), .ref (ad p1), .int p2] : List Value).toArray below meth c H locs 0 0 (MQ below (va_Qi (fun (r : Int32) (_ : Unit) => r = out.1) (fun _ => ha_H D cs ad xo_kd xo_ln N out.2) (ha_A ad N)) ([.ref (ad p0), .ref (ad p1), .int p2] : List Value).toArray s 0 0 (ha_A ad N)) (F0 m 0 ls [])) => K0 _ _ hP hS) ?_
  intro H locs hP hS
  have hf := ha_rt hf
  have J69 : ∀ (v4 : Int32) (S : ha_St) (H : Heap) (locs : List Loc) (ls : Array Slot), (f_X6_bestSet_J69 p0 p1 p2 v4 S).bind some = some out → va_P D vwCl (ha_wl cs ad xo_kd xo_ln N S) H → va_D (ha_A ad N) (ha_wl cs ad xo_kd xo_ln N S) → va_S (ha_A ad N) s.heap H locs → lv_has ls 8 [(0, .ref (ad p0)), (1, .ref (ad p1)), (2, .int p2), (4, .int v4)] → W p l e (headSpec wsX6_bestSet ({ frames := 3, cells := 0, slots := 0, locals := 70 } : Room)).room s m ([.ref (ad p0), .ref (ad p1), .int p2] : List Value).toArray below meth c H locs 0 0 (MQ below (va_Qi (fun (r : Int32) (_ : Unit) => r = out.1) (fun _ => ha_H D cs ad xo_kd xo_ln N out.2) (ha_A ad N)) ([.ref (ad p0), .ref (ad p1), .int p2] : List Value).toArray s 0 0 (ha_A ad N)) (F0 m 69 ls []) := by
    intro v4 S H locs ls hf  hP hD hS hl
    unfold f_X6_bestSet_J69 at hf
    refine lv_iload hx hb dX6_bestSet_69 (lv_at hl 3 rfl) ?_
    have he := Option.some.inj hf
    exact ha_reti hx hb hr hlocks hP hD hS dX6_bestSet_71 (ha_e1 he) (ha_e2 he)
  unfold f_X6_bestSet at hf
  refine lv_aload_n hx hb dX6_bestSet_0 rfl (lv_at hl 0 rfl) ?_
  refine lv_aload_n hx hb dX6_bestSet_1 rfl (lv_at hl 1 rfl) ?_
  obtain ⟨z1, wz1, hf⟩ := ha_bds hf
  refine ha_callVi (As := [.ref (ad p1)]) (rest := []) hZ ⟨hx, hb, hml, hown, hts⟩ hK hz hP hD hS (c_X6_usefulSet hZ hN hX h0 h1 wz1) cw0 hN h0 (by decide) rfl rfl hl.1 rfl (Nat.le_of_ble_eq_true rfl) dX6_bestSet_2 ⟨Nat.le_of_ble_eq_true rfl, Nat.le_of_ble_eq_true rfl⟩ (fun H locs hP hD hS => ?_)
  refine lv_istore_n (lv' := [(3, .int z1.1), (0, .ref (ad p0)), (1, .ref (ad p1)), (2, .int p2)]) hx hb dX6_bestSet_5 rfl hl (by decide) rfl (fun ls hl => ?_)
  refine lv_iconst (v := 0) hx hb dX6_bestSet_6 (by decide) ?_
  refine lv_istore (lv' := [(4, .int 0), (3, .int z1.1), (0, .ref (ad p0)), (1, .ref (ad p1)), (2, .int p2)]) hx hb dX6_bestSet_7 hl (by decide) rfl (fun ls hl => ?_)
  refine lv_iconst (v := 0) hx hb dX6_bestSet_9 (by decide) ?_
  refine lv_istore (lv' := [(5, .int 0), (4, .int 0), (3, .int z1.1), (0, .ref (ad p0)), (1, .ref (ad p1)), (2, .int p2)]) hx hb dX6_bestSet_10 hl (by decide) rfl (fun ls hl => ?_)
  refine lv_iconst (v := 1) hx hb dX6_bestSet_12 (by decide) ?_
  refine lv_istore (lv' := [(6, .int 1), (5, .int 0), (4, .int 0), (3, .int z1.1), (0, .ref (ad p0)), (1, .ref (ad p1)), (2, .int p2)]) hx hb dX6_bestSet_13 hl (by decide) rfl (fun ls hl => ?_)
  have key9 : ∀ (K : (Int32 × ha_St) → Option (Int32 × ha_St)), (∀ (v4 : Int32) (S : ha_St) (H : Heap) (locs : List Loc) (ls : Array Slot), K (v4, S) = some out → va_P D vwCl (ha_wl cs ad xo_kd xo_ln N S) H → va_D (ha_A ad N) (ha_wl cs ad xo_kd xo_ln N S) → va_S (ha_A ad N) s.heap H locs → lv_has ls 8 [(0, .ref (ad p0)), (1, .ref (ad p1)), (2, .int p2), (4, .int v4)] → W p l e (headSpec wsX6_bestSet ({ frames := 3, cells := 0, slots := 0, locals := 70 } : Room)).room s m ([.ref (ad p0), .ref (ad p1), .int p2] : List Value).toArray below meth c H locs 0 0 (MQ below (va_Qi (fun (r : Int32) (_ : Unit) => r = out.1) (fun _ => ha_H D cs ad xo_kd xo_ln N out.2) (ha_A ad N)) ([.ref (ad p0), .ref (ad p1), .int p2] : List Value).toArray s 0 0 (ha_A ad N)) (F0 m 69 ls [])) → ∀ (n : Nat) (v3 : Int32) (v4 : Int32) (v5 : Int32) (v6 : Int32) (S : ha_St) (H : Heap) (locs : List Loc) (ls : Array Slot), (f_X6_bestSet_L15i p0 p1 p2 n (v3, v4, v5, v6, S)).bind K = some out → va_P D vwCl (ha_wl cs ad xo_kd xo_ln N S) H → va_D (ha_A ad N) (ha_wl cs ad xo_kd xo_ln N S) → va_S (ha_A ad N) s.heap H locs → lv_has ls 8 [(0, .ref (ad p0)), (1, .ref (ad p1)), (2, .int p2), (3, .int v3), (4, .int v4), (5, .int v5), (6, .int v6)] → W p l e (headSpec wsX6_bestSet ({ frames := 3, cells := 0, slots := 0, locals := 70 } : Room)).room s m ([.ref (ad p0), .ref (ad p1), .int p2] : List Value).toArray below meth c H locs 0 0 (MQ below (va_Qi (fun (r : Int32) (_ : Unit) => r = out.1) (fun _ => ha_H D cs ad xo_kd xo_ln N out.2) (ha_A ad N)) ([.ref (ad p0), .ref (ad p1), .int p2] : List Value).toArray s 0 0 (ha_A ad N)) (F0 m 15 ls []) := by
    intro K hk n
    induction n with
    | zero =>
      intro v3 v4 v5 v6 S H locs ls hf
      exact absurd (show (none : Option (Int32 × ha_St)) = some out from hf) (fun h => by cases h)
    | succ n ih =>
      intro v3 v4 v5 v6 S H locs ls hf  hP hD hS hl
      have J63 : ∀ (v3 : Int32) (v4 : Int32) (v5 : Int32) (v6 : Int32) (S : ha_St) (H : Heap) (locs : List Loc) (ls : Array Slot), (f_X6_bestSet_L15_J63 p0 p1 p2 (f_X6_bestSet_L15i p0 p1 p2 n) v3 v4 v5 v6 S).bind K = some out → va_P D vwCl (ha_wl cs ad xo_kd xo_ln N S) H → va_D (ha_A ad N) (ha_wl cs ad xo_kd xo_ln N S) → va_S (ha_A ad N) s.heap H locs → lv_has ls 8 [(0, .ref (ad p0)), (1, .ref (ad p1)), (2, .int p2), (3, .int v3), (4, .int v4), (5, .int v5), (6, .int v6)] → W p l e (headSpec wsX6_bestSet ({ frames := 3, cells := 0, slots := 0, locals := 70 } : Room)).room s m ([.ref (ad p0), .ref (ad p1), .int p2] : List Value).toArray below meth c H locs 0 0 (MQ below (va_Qi (fun (r : Int32) (_ : Unit) => r = out.1) (fun _ => ha_H D cs ad xo_kd xo_ln N out.2) (ha_A ad N)) ([.ref (ad p0), .ref (ad p1), .int p2] : List Value).toArray s 0 0 (ha_A ad N)) (F0 m 63 ls []) := by
        intro v3 v4 v5 v6 S H locs ls hf  hP hD hS hl
        unfold f_X6_bestSet_L15_J63 at hf
        obtain ⟨x2, ex2⟩ : ∃ y : Int32, y = (v6 : Int32) + 1 := ⟨_, rfl⟩
        have hf := ha_nms hf ex2
        refine lv_iinc (v := x2) (lv' := [(6, .int x2), (0, .ref (ad p0)), (1, .ref (ad p1)), (2, .int p2), (3, .int v3), (4, .int v4), (5, .int v5)]) hx hb dX6_bestSet_63 hl (k := 6) rfl (by rw [ex2]; rfl) (by decide) rfl (fun ls hl => ?_)
        refine lv_goto (tgt := 15) hx hb dX6_bestSet_66 (by decide) ?_
        exact ih v3 v4 v5 x2 S H locs ls hf  hP hD hS (lv_sub hl [1, 2, 3, 4, 5, 6, 0] rfl)
      have hf : (f_X6_bestSet_L15 p0 p1 p2 (f_X6_bestSet_L15i p0 p1 p2 n) v3 v4 v5 v6 S).bind K = some out := hf
      unfold f_X6_bestSet_L15 at hf
      refine lv_iload hx hb dX6_bestSet_15 (lv_at hl 6 rfl) ?_
      refine lv_iload_n hx hb dX6_bestSet_17 rfl (lv_at hl 3 rfl) ?_
      refine lv_icmp_gt (tgt := 69) hx hb dX6_bestSet_18 (by decide) (fun c3 => ?_) (fun c3 => ?_)
      · have hf := ha_it hf c3
        exact hk v4 S H locs ls hf  hP hD hS (lv_sub hl [0, 1, 2, 4] rfl)
      · have hf := ha_if hf c3
        refine lv_iload hx hb dX6_bestSet_21 (lv_at hl 6 rfl) ?_
        refine lv_iload_n hx hb dX6_bestSet_23 rfl (lv_at hl 3 rfl) ?_
        refine lv_iconst (v := (-1)) hx hb dX6_bestSet_24 (by decide) ?_
        refine lv_ixor hx hb dX6_bestSet_25 ?_
        refine lv_iand hx hb dX6_bestSet_26 ?_
        refine lv_if_ne (tgt := 63) hx hb dX6_bestSet_27 (by decide) (fun c4 => ?_) (fun c4 => ?_)
        · have hf := ha_it hf c4
          exact J63 v3 v4 v5 v6 S H locs ls hf  hP hD hS (lv_sub hl [0, 1, 2, 3, 4, 5, 6] rfl)
        · have hf := ha_if hf (fun q => q c4)
          refine lv_iload hx hb dX6_bestSet_30 (lv_at hl 6 rfl) ?_
          obtain ⟨z5, wz5, hf⟩ := ha_bds hf
          refine ha_callSi (As := [.int v6]) (rest := []) hZ ⟨hx, hb, hml, hown, hts⟩ hK hz hP hD hS (c_J6_bitCount_0f7a4   wz5) cw1 rfl hl.1 rfl (Nat.le_of_ble_eq_true rfl) dX6_bestSet_32 ⟨Nat.le_of_ble_eq_true rfl, Nat.le_of_ble_eq_true rfl⟩ (fun H locs hP hD hS => ?_)
          refine lv_iload_n hx hb dX6_bestSet_35 rfl (lv_at hl 2 rfl) ?_
          refine lv_icmp_gt (tgt := 63) hx hb dX6_bestSet_36 (by decide) (fun c6 => ?_) (fun c6 => ?_)
          · have hf := ha_it hf c6
            exact J63 v3 v4 v5 v6 S H locs ls hf  hP hD hS (lv_sub hl [0, 1, 2, 3, 4, 5, 6] rfl)
          · have hf := ha_if hf c6
            refine lv_aload_n hx hb dX6_bestSet_39 rfl (lv_at hl 0 rfl) ?_
            refine lv_aload_n hx hb dX6_bestSet_40 rfl (lv_at hl 1 rfl) ?_
            refine lv_iload hx hb dX6_bestSet_41 (lv_at hl 6 rfl) ?_
            obtain ⟨z7, wz7, hf⟩ := ha_bds hf
            refine ha_callVi (As := [.ref (ad p1), .int v6]) (rest := []) hZ ⟨hx, hb, hml, hown, hts⟩ hK hz hP hD hS (c_X6_saving hZ hN hX h0 h1 wz7) cw2 hN h0 (by decide) rfl rfl hl.1 rfl (Nat.le_of_ble_eq_true rfl) dX6_bestSet_43 ⟨Nat.le_of_ble_eq_true rfl, Nat.le_of_ble_eq_true rfl⟩ (fun H locs hP hD hS => ?_)
            refine lv_istore (lv' := [(7, .int z7.1), (0, .ref (ad p0)), (1, .ref (ad p1)), (2, .int p2), (3, .int v3), (4, .int v4), (5, .int v5), (6, .int v6)]) hx hb dX6_bestSet_46 hl (by decide) rfl (fun ls hl => ?_)
            refine lv_iload hx hb dX6_bestSet_48 (lv_at hl 0 rfl) ?_
            refine lv_iload hx hb dX6_bestSet_50 (lv_at hl 6 rfl) ?_
            refine lv_icmp_le (tgt := 63) hx hb dX6_bestSet_52 (by decide) (fun c8 => ?_) (fun c8 => ?_)
            · have hf := ha_it hf c8
              exact J63 v3 v4 v5 v6 z7.2 H locs ls hf  hP hD hS (lv_sub hl [1, 2, 3, 4, 5, 6, 7] rfl)
            · have hf := ha_if hf c8
              refine lv_iload hx hb dX6_bestSet_55 (lv_at hl 0 rfl) ?_
              refine lv_istore (lv' := [(5, .int z7.1), (7, .int z7.1), (0, .ref (ad p0)), (1, .ref (ad p1)), (2, .int p2), (3, .int v3), (4, .int v4), (6, .int v6)]) hx hb dX6_bestSet_57 hl (by decide) rfl (fun ls hl => ?_)
              refine lv_iload hx hb dX6_bestSet_59 (lv_at hl 7 rfl) ?_
              refine lv_istore (lv' := [(4, .int v6), (5, .int z7.1), (7, .int z7.1), (0, .ref (ad p0)), (1, .ref (ad p1)), (2, .int p2), (3, .int v3), (6, .int v6)]) hx hb dX6_bestSet_61 hl (by decide) rfl (fun ls hl => ?_)
              exact J63 v3 v6 z7.1 v6 z7.2 H locs ls hf  hP hD hS (lv_sub hl [3, 4, 5, 6, 0, 1, 7] rfl)
  refine key9 _ (fun v4 S H locs ls hf  hP hD hS hl => ?_) ha_fu z1.1 0 0 1 z1.2 H locs ls (ha_as hf)  hP hD hS (lv_sub hl [4, 5, 6, 3, 2, 1, 0] rfl)
  have hf : (f_X6_bestSet_J69 p0 p1 p2 v4 S).bind some = some out := hf
  exact J69 v4 S H locs ls hf  hP hD hS (lv_sub hl [0, 1, 2, 3] rfl)

set_option maxHeartbeats 4000000 in
set_option maxRecDepth 100000 in
theorem c_X2_add {l : Launch} {D : va_G} {cs : Nat → ClassId} {ad adK adV : Nat → Nat} {N : List Nat} {Z : State → Prop} (hZ : ha_Zok (ha_A ad N) Z) (hN : ∀ x, xo_kd x < 999 → x ∈ N) (hX : ∀ U, Z U → xo_Z adK adV (ha_A ad N) U) {p0 : Nat} {p1 : Int32} {p2 : Int32} {p3 : Int32} {p4 : Int32} {S : ha_St} {out : Int32 × ha_St} (h0 : xo_kd p0 = 2) (hf : f_X2_add p0 p1 p2 p3 p4 S = some out) : ha_Ci l D cs ad xo_kd xo_ln N Z yX2_add wsX2_add ({ frames := 0, cells := 0, slots := 0, locals := 0 } : Room) [.ref (ad p0), .int p1, .int p2, .int p3, .int p4] S out.1 out.2 := by
  refine Met.ofW (cc := cX2_add) (maxL := 5) (ret := (some .int)) (by decide +kernel) rfl ?_
  intro p e s m args below meth c s₁ B hml hv
  obtain ⟨rfl, hP, hD, hK, hz⟩ := hv
  have hx := B.exec
  have hb := B.bytes
  have hr := B.returns
  have hts := atoms_spec (ws := wsX2_add) B.pre
  have hown : s.vm.findClass RX2 = some m.cls := findClass_of_methodNamed B.named
  have hlocks := B.notSynchronized
  have hS : va_S (ha_A ad N) s.heap s.heap [] := va_S.rf
  have hi2 : ∀ w ∈ wsX20, w ∈ wsX2_add := fun w h => List.mem_cons_of_mem _ (List.mem_append_right _ h)
  have q33 : ha_Fk s ([.ref (ad p0), .int p1, .int p2, .int p3, .int p4] : List Value).toArray RX2 33 2 8 0 := ⟨RX2, TX2, 9, wsX2_add, rfl, by decide, by decide, rfl, rfl, hts, hi2, hts (.fieldLink RX2 33 "HillArms$Delays" "notes" "I") (by decide +kernel)⟩
  have q9 : ha_Fk s ([.ref (ad p0), .int p1, .int p2, .int p3, .int p4] : List Value).toArray RX2 9 2 0 1 := ⟨RX2, TX2, 9, wsX2_add, rfl, by decide, by decide, rfl, rfl, hts, hi2, hts (.fieldLink RX2 9 "HillArms$Delays" "from" "[I") (by decide +kernel)⟩
  have q15 : ha_Fk s ([.ref (ad p0), .int p1, .int p2, .int p3, .int p4] : List Value).toArray RX2 15 2 1 1 := ⟨RX2, TX2, 9, wsX2_add, rfl, by decide, by decide, rfl, rfl, hts, hi2, hts (.fieldLink RX2 15 "HillArms$Delays" "to" "[I") (by decide +kernel)⟩
  have q18 : ha_Fk s ([.ref (ad p0), .int p1, .int p2, .int p3, .int p4] : List Value).toArray RX2 18 2 2 1 := ⟨RX2, TX2, 9, wsX2_add, rfl, by decide, by decide, rfl, rfl, hts, hi2, hts (.fieldLink RX2 18 "HillArms$Delays" "minutes" "[I") (by decide +kernel)⟩
  have q21 : ha_Fk s ([.ref (ad p0), .int p1, .int p2, .int p3, .int p4] : List Value).toArray RX2 21 2 3 1 := ⟨RX2, TX2, 9, wsX2_add, rfl, by decide, by decide, rfl, rfl, hts, hi2, hts (.fieldLink RX2 21 "HillArms$Delays" "day" "[I") (by decide +kernel)⟩
  have r33 : ha_Fp s ([.ref (ad p0), .int p1, .int p2, .int p3, .int p4] : List Value).toArray RX2 33 2 8 0 .int := ⟨RX2, TX2, 9, wsX2_add, tyX2, rfl, by decide, by decide, rfl, rfl, hts, hi2, hts (.fieldLink RX2 33 "HillArms$Delays" "notes" "I") (by decide +kernel), tyX2_ok, nmX2, rfl, by decide +kernel⟩
  have hl := lv_entry ([.ref (ad p0), .int p1, .int p2, .int p3, .int p4]) (n := 5) (Nat.le_of_ble_eq_true rfl)
  rw [lg_entry_eq]
  generalize (lg_sl ([.ref (ad p0), .int p1, .int p2, .int p3, .int p4]) ++ List.replicate (5 - (lg_sl ([.ref (ad p0), .int p1, .int p2, .int p3, .int p4])).length) Slot.unset).toArray = ls at hl ⊢
  have hl : lv_has ls 5 [(0, .ref (ad p0)), (1, .int p1), (2, .int p2), (3, .int p3), (4, .int p4)] := hl
  refine (fun (K0 : ∀ (H : Heap) (locs : List Loc), va_P D vwCl (ha_wl cs ad xo_kd xo_ln N S) H → va_S (ha_A ad N) s.heap H locs → W p l e (headSpec wsX2_add ({ frames := 0, cells := 0, slots := 0, locals := 0 } : Room)).room s m ([.ref (ad p0), .int p1, .int p2, .int p3, .int p4] : List Value).toArray below meth c H locs 0 0 (MQ below (va_Qi (fun (r : Int32) (_ : Unit) => r = out.1) (fun _ => ha_H D cs ad xo_kd xo_ln N out.2) (ha_A ad N)) ([.ref (ad p0), .int p1, .int p2, .int p3, .int p4] : List Value).toArray s 0 0 (ha_A ad N)) (F0 m 0 ls [])) => K0 _ _ hP hS) ?_
  intro H locs hP hS
  have hf := ha_rt hf
  unfold f_X2_add at hf
  refine lv_aload_n hx hb dX2_add_0 rfl (lv_at hl 0 rfl) ?_
  refine ha_geti hx hb hown hK hP q33 hN h0 dX2_add_1 ?_
  refine lv_bipush (v := 60) hx hb dX2_add_4 (by decide) ?_
  refine lv_icmp_lt (tgt := 11) hx hb dX2_add_6 (by decide) (fun c1 => ?_) (fun c1 => ?_)
  · have hf := ha_it hf c1
    refine lv_aload_n hx hb dX2_add_11 rfl (lv_at hl 0 rfl) ?_
    obtain ⟨r2, wr2, hf⟩ := ha_bds hf
    obtain ⟨wr2, hr2⟩ := ha_rf_some wr2
    refine ha_getr hx hb hown hK hP q9 hN h0 wr2 dX2_add_12 ?_
    refine lv_aload_n hx hb dX2_add_15 rfl (lv_at hl 0 rfl) ?_
    refine ha_geti hx hb hown hK hP q33 hN h0 dX2_add_16 ?_
    refine lv_iload_n hx hb dX2_add_19 rfl (lv_at hl 1 rfl) ?_
    obtain ⟨g3, hf⟩ := ha_gds hf
    refine ha_iast hx hb hK hP hD hS hN hr2 g3 dX2_add_20 (fun S4 H locs eS4 hP hD hS => ?_)
    have hf := ha_nms hf eS4
    refine lv_aload_n hx hb dX2_add_21 rfl (lv_at hl 0 rfl) ?_
    obtain ⟨r5, wr5, hf⟩ := ha_bds hf
    obtain ⟨wr5, hr5⟩ := ha_rf_some wr5
    refine ha_getr hx hb hown hK hP q15 hN h0 wr5 dX2_add_22 ?_
    refine lv_aload_n hx hb dX2_add_25 rfl (lv_at hl 0 rfl) ?_
    refine ha_geti hx hb hown hK hP q33 hN h0 dX2_add_26 ?_
    refine lv_iload_n hx hb dX2_add_29 rfl (lv_at hl 2 rfl) ?_
    obtain ⟨g6, hf⟩ := ha_gds hf
    refine ha_iast hx hb hK hP hD hS hN hr5 g6 dX2_add_30 (fun S7 H locs eS7 hP hD hS => ?_)
    have hf := ha_nms hf eS7
    refine lv_aload_n hx hb dX2_add_31 rfl (lv_at hl 0 rfl) ?_
    obtain ⟨r8, wr8, hf⟩ := ha_bds hf
    obtain ⟨wr8, hr8⟩ := ha_rf_some wr8
    refine ha_getr hx hb hown hK hP q18 hN h0 wr8 dX2_add_32 ?_
    refine lv_aload_n hx hb dX2_add_35 rfl (lv_at hl 0 rfl) ?_
    refine ha_geti hx hb hown hK hP q33 hN h0 dX2_add_36 ?_
    refine lv_iload_n hx hb dX2_add_39 rfl (lv_at hl 3 rfl) ?_
    obtain ⟨g9, hf⟩ := ha_gds hf
    refine ha_iast hx hb hK hP hD hS hN hr8 g9 dX2_add_40 (fun S10 H locs eS10 hP hD hS => ?_)
    have hf := ha_nms hf eS10
    refine lv_aload_n hx hb dX2_add_41 rfl (lv_at hl 0 rfl) ?_
    obtain ⟨r11, wr11, hf⟩ := ha_bds hf
    obtain ⟨wr11, hr11⟩ := ha_rf_some wr11
    refine ha_getr hx hb hown hK hP q21 hN h0 wr11 dX2_add_42 ?_
    refine lv_aload_n hx hb dX2_add_45 rfl (lv_at hl 0 rfl) ?_
    refine ha_geti hx hb hown hK hP q33 hN h0 dX2_add_46 ?_
    refine lv_iload hx hb dX2_add_49 (lv_at hl 4 rfl) ?_
    obtain ⟨g12, hf⟩ := ha_gds hf
    refine ha_iast hx hb hK hP hD hS hN hr11 g12 dX2_add_51 (fun S13 H locs eS13 hP hD hS => ?_)
    have hf := ha_nms hf eS13
    refine lv_aload_n hx hb dX2_add_52 rfl (lv_at hl 0 rfl) ?_
    refine lv_dup hx hb dX2_add_53 rfl ?_
    refine ha_geti hx hb hown hK hP q33 hN h0 dX2_add_54 ?_
    refine lv_iconst (v := 1) hx hb dX2_add_57 (by decide) ?_
    refine lv_iadd hx hb dX2_add_58 ?_
    refine ha_puti hx hb hown hK hP hD hS r33 hN h0 dX2_add_59 (fun S14 H locs eS14 hP hD hS => ?_)
    have hf := ha_nms hf eS14
    refine lv_aload_n hx hb dX2_add_62 rfl (lv_at hl 0 rfl) ?_
    refine ha_geti hx hb hown hK hP q33 hN h0 dX2_add_63 ?_
    refine lv_iconst (v := 1) hx hb dX2_add_66 (by decide) ?_
    refine lv_isub hx hb dX2_add_67 ?_
    have he := Option.some.inj hf
    exact ha_reti hx hb hr hlocks hP hD hS dX2_add_68 (ha_e1 he) (ha_e2 he)
  · have hf := ha_if hf c1
    refine lv_iconst (v := (-1)) hx hb dX2_add_9 (by decide) ?_
    have he := Option.some.inj hf
    exact ha_reti hx hb hr hlocks hP hD hS dX2_add_10 (ha_e1 he) (ha_e2 he)

set_option maxHeartbeats 4000000 in
set_option maxRecDepth 100000 in
theorem c_X2_toldBy {l : Launch} {D : va_G} {cs : Nat → ClassId} {ad adK adV : Nat → Nat} {N : List Nat} {Z : State → Prop} (hZ : ha_Zok (ha_A ad N) Z) (hN : ∀ x, xo_kd x < 999 → x ∈ N) (hX : ∀ U, Z U → xo_Z adK adV (ha_A ad N) U) {p0 : Nat} {p1 : Int32} {S : ha_St} {out : Int32 × ha_St} (h0 : xo_kd p0 = 2) (hf : f_X2_toldBy p0 p1 S = some out) : ha_Ci l D cs ad xo_kd xo_ln N Z yX2_toldBy wsX2_toldBy ({ frames := 0, cells := 0, slots := 0, locals := 0 } : Room) [.ref (ad p0), .int p1] S out.1 out.2 := by
  refine Met.ofW (cc := cX2_toldBy) (maxL := 3) (ret := (some .int)) (by decide +kernel) rfl ?_
  intro p e s m args below meth c s₁ B hml hv
  obtain ⟨rfl, hP, hD, hK, hz⟩ := hv
  have hx := B.exec
  have hb := B.bytes
  have hr := B.returns
  have hts := atoms_spec (ws := wsX2_toldBy) B.pre
  have hown : s.vm.findClass RX2 = some m.cls := findClass_of_methodNamed B.named
  have hlocks := B.notSynchronized
  have hS : va_S (ha_A ad N) s.heap s.heap [] := va_S.rf
  have hi2 : ∀ w ∈ wsX20, w ∈ wsX2_toldBy := fun w h => List.mem_cons_of_mem _ (List.mem_append_right _ h)
  have q33 : ha_Fk s ([.ref (ad p0), .int p1] : List Value).toArray RX2 33 2 8 0 := ⟨RX2, TX2, 9, wsX2_toldBy, rfl, by decide, by decide, rfl, rfl, hts, hi2, hts (.fieldLink RX2 33 "HillArms$Delays" "notes" "I") (by decide +kernel)⟩
  have q21 : ha_Fk s ([.ref (ad p0), .int p1] : List Value).toArray RX2 21 2 3 1 := ⟨RX2, TX2, 9, wsX2_toldBy, rfl, by decide, by decide, rfl, rfl, hts, hi2, hts (.fieldLink RX2 21 "HillArms$Delays" "day" "[I") (by decide +kernel)⟩
  have hl := lv_entry ([.ref (ad p0), .int p1]) (n := 3) (Nat.le_of_ble_eq_true rfl)
  rw [lg_entry_eq]
  generalize (lg_sl ([.ref (ad p0), .int p1]) ++ List.replicate (3 - (lg_sl ([.ref (ad p0), .int p1])).length) Slot.unset).toArray = ls at hl ⊢
  have hl : lv_has ls 3 [(0, .ref (ad p0)), (1, .int p1)] := hl
  refine (fun (K0 : ∀ (H : Heap) (locs : List Loc), va_P D vwCl (ha_wl cs ad xo_kd xo_ln N S) H → va_S (ha_A ad N) s.heap H locs → W p l e (headSpec wsX2_toldBy ({ frames := 0, cells := 0, slots := 0, locals := 0 } : Room)).room s m ([.ref (ad p0), .int p1] : List Value).toArray below meth c H locs 0 0 (MQ below (va_Qi (fun (r : Int32) (_ : Unit) => r = out.1) (fun _ => ha_H D cs ad xo_kd xo_ln N out.2) (ha_A ad N)) ([.ref (ad p0), .int p1] : List Value).toArray s 0 0 (ha_A ad N)) (F0 m 0 ls [])) => K0 _ _ hP hS) ?_
  intro H locs hP hS
  have hf := ha_rt hf
  have J26 : ∀ (v2 : Int32) (S : ha_St) (H : Heap) (locs : List Loc) (ls : Array Slot), (f_X2_toldBy_J26 p0 p1 v2 S).bind some = some out → va_P D vwCl (ha_wl cs ad xo_kd xo_ln N S) H → va_D (ha_A ad N) (ha_wl cs ad xo_kd xo_ln N S) → va_S (ha_A ad N) s.heap H locs → lv_has ls 3 [(0, .ref (ad p0)), (1, .int p1), (2, .int v2)] → W p l e (headSpec wsX2_toldBy ({ frames := 0, cells := 0, slots := 0, locals := 0 } : Room)).room s m ([.ref (ad p0), .int p1] : List Value).toArray below meth c H locs 0 0 (MQ below (va_Qi (fun (r : Int32) (_ : Unit) => r = out.1) (fun _ => ha_H D cs ad xo_kd xo_ln N out.2) (ha_A ad N)) ([.ref (ad p0), .int p1] : List Value).toArray s 0 0 (ha_A ad N)) (F0 m 26 ls []) := by
    intro v2 S H locs ls hf  hP hD hS hl
    unfold f_X2_toldBy_J26 at hf
    refine lv_iload_n hx hb dX2_toldBy_26 rfl (lv_at hl 2 rfl) ?_
    have he := Option.some.inj hf
    exact ha_reti hx hb hr hlocks hP hD hS dX2_toldBy_27 (ha_e1 he) (ha_e2 he)
  unfold f_X2_toldBy at hf
  refine lv_iconst (v := 0) hx hb dX2_toldBy_0 (by decide) ?_
  refine lv_istore_n (lv' := [(2, .int 0), (0, .ref (ad p0)), (1, .int p1)]) hx hb dX2_toldBy_1 rfl hl (by decide) rfl (fun ls hl => ?_)
  have key6 : ∀ (K : (Int32 × ha_St) → Option (Int32 × ha_St)), (∀ (v2 : Int32) (S : ha_St) (H : Heap) (locs : List Loc) (ls : Array Slot), K (v2, S) = some out → va_P D vwCl (ha_wl cs ad xo_kd xo_ln N S) H → va_D (ha_A ad N) (ha_wl cs ad xo_kd xo_ln N S) → va_S (ha_A ad N) s.heap H locs → lv_has ls 3 [(0, .ref (ad p0)), (1, .int p1), (2, .int v2)] → W p l e (headSpec wsX2_toldBy ({ frames := 0, cells := 0, slots := 0, locals := 0 } : Room)).room s m ([.ref (ad p0), .int p1] : List Value).toArray below meth c H locs 0 0 (MQ below (va_Qi (fun (r : Int32) (_ : Unit) => r = out.1) (fun _ => ha_H D cs ad xo_kd xo_ln N out.2) (ha_A ad N)) ([.ref (ad p0), .int p1] : List Value).toArray s 0 0 (ha_A ad N)) (F0 m 26 ls [])) → ∀ (n : Nat) (v2 : Int32) (S : ha_St) (H : Heap) (locs : List Loc) (ls : Array Slot), (f_X2_toldBy_L2i p0 p1 n (v2, S)).bind K = some out → va_P D vwCl (ha_wl cs ad xo_kd xo_ln N S) H → va_D (ha_A ad N) (ha_wl cs ad xo_kd xo_ln N S) → va_S (ha_A ad N) s.heap H locs → lv_has ls 3 [(0, .ref (ad p0)), (1, .int p1), (2, .int v2)] → W p l e (headSpec wsX2_toldBy ({ frames := 0, cells := 0, slots := 0, locals := 0 } : Room)).room s m ([.ref (ad p0), .int p1] : List Value).toArray below meth c H locs 0 0 (MQ below (va_Qi (fun (r : Int32) (_ : Unit) => r = out.1) (fun _ => ha_H D cs ad xo_kd xo_ln N out.2) (ha_A ad N)) ([.ref (ad p0), .int p1] : List Value).toArray s 0 0 (ha_A ad N)) (F0 m 2 ls []) := by
    intro K hk n
    induction n with
    | zero =>
      intro v2 S H locs ls hf
      exact absurd (show (none : Option (Int32 × ha_St)) = some out from hf) (fun h => by cases h)
    | succ n ih =>
      intro v2 S H locs ls hf  hP hD hS hl
      have hf : (f_X2_toldBy_L2 p0 p1 (f_X2_toldBy_L2i p0 p1 n) v2 S).bind K = some out := hf
      unfold f_X2_toldBy_L2 at hf
      refine lv_iload_n hx hb dX2_toldBy_2 rfl (lv_at hl 2 rfl) ?_
      refine lv_aload_n hx hb dX2_toldBy_3 rfl (lv_at hl 0 rfl) ?_
      refine ha_geti hx hb hown hK hP q33 hN h0 dX2_toldBy_4 ?_
      refine lv_icmp_ge (tgt := 26) hx hb dX2_toldBy_7 (by decide) (fun c1 => ?_) (fun c1 => ?_)
      · have hf := ha_it hf c1
        exact hk v2 S H locs ls hf  hP hD hS (lv_sub hl [0, 1, 2] rfl)
      · have hf := ha_if hf c1
        refine lv_aload_n hx hb dX2_toldBy_10 rfl (lv_at hl 0 rfl) ?_
        obtain ⟨r2, wr2, hf⟩ := ha_bds hf
        obtain ⟨wr2, hr2⟩ := ha_rf_some wr2
        refine ha_getr hx hb hown hK hP q21 hN h0 wr2 dX2_toldBy_11 ?_
        refine lv_iload_n hx hb dX2_toldBy_14 rfl (lv_at hl 2 rfl) ?_
        obtain ⟨g3, hf⟩ := ha_gds hf
        refine ha_iald hx hb hK hP hN hr2 g3 dX2_toldBy_15 ?_
        refine lv_iload_n hx hb dX2_toldBy_16 rfl (lv_at hl 1 rfl) ?_
        refine lv_icmp_gt (tgt := 26) hx hb dX2_toldBy_17 (by decide) (fun c4 => ?_) (fun c4 => ?_)
        · have hf := ha_it hf c4
          exact hk v2 S H locs ls hf  hP hD hS (lv_sub hl [0, 1, 2] rfl)
        · have hf := ha_if hf c4
          obtain ⟨x5, ex5⟩ : ∃ y : Int32, y = (v2 : Int32) + 1 := ⟨_, rfl⟩
          have hf := ha_nms hf ex5
          refine lv_iinc (v := x5) (lv' := [(2, .int x5), (0, .ref (ad p0)), (1, .int p1)]) hx hb dX2_toldBy_20 hl (k := 2) rfl (by rw [ex5]; rfl) (by decide) rfl (fun ls hl => ?_)
          refine lv_goto (tgt := 2) hx hb dX2_toldBy_23 (by decide) ?_
          exact ih x5 S H locs ls hf  hP hD hS (lv_sub hl [1, 2, 0] rfl)
  refine key6 _ (fun v2 S H locs ls hf  hP hD hS hl => ?_) ha_fu 0 S H locs ls (ha_as hf)  hP hD hS (lv_sub hl [1, 2, 0] rfl)
  have hf : (f_X2_toldBy_J26 p0 p1 v2 S).bind some = some out := hf
  exact J26 v2 S H locs ls hf  hP hD hS (lv_sub hl [0, 1, 2] rfl)

set_option maxHeartbeats 4000000 in
set_option maxRecDepth 100000 in
theorem c_X2_tighten {l : Launch} {D : va_G} {cs : Nat → ClassId} {ad adK adV : Nat → Nat} {N : List Nat} {Z : State → Prop} (hZ : ha_Zok (ha_A ad N) Z) (hN : ∀ x, xo_kd x < 999 → x ∈ N) (hX : ∀ U, Z U → xo_Z adK adV (ha_A ad N) U) {p0 : Nat} {p1 : Int32} {p2 : Int32} {p3 : Int32} {S : ha_St} {out : Int32 × ha_St} (h0 : xo_kd p0 = 2) (hf : f_X2_tighten p0 p1 p2 p3 S = some out) : ha_Ci l D cs ad xo_kd xo_ln N Z yX2_tighten wsX2_tighten ({ frames := 1, cells := 0, slots := 0, locals := 21 } : Room) [.ref (ad p0), .int p1, .int p2, .int p3] S out.1 out.2 := by
  refine Met.ofW (cc := cX2_tighten) (maxL := 6) (ret := (some .boolean)) (by decide +kernel) rfl ?_
  intro p e s m args below meth c s₁ B hml hv
  obtain ⟨rfl, hP, hD, hK, hz⟩ := hv
  have hx := B.exec
  have hb := B.bytes
  have hr := B.returns
  have hts := atoms_spec (ws := wsX2_tighten) B.pre
  have hown : s.vm.findClass RX2 = some m.cls := findClass_of_methodNamed B.named
  have hlocks := B.notSynchronized
  have hS : va_S (ha_A ad N) s.heap s.heap [] := va_S.rf
  have hi2 : ∀ w ∈ wsX20, w ∈ wsX2_tighten := fun w h => List.mem_cons_of_mem _ (List.mem_append_right _ h)
  have q26 : ha_Fk s ([.ref (ad p0), .int p1, .int p2, .int p3] : List Value).toArray RX2 26 2 4 1 := ⟨RX2, TX2, 9, wsX2_tighten, rfl, by decide, by decide, rfl, rfl, hts, hi2, hts (.fieldLink RX2 26 "HillArms$Delays" "most" "[[I") (by decide +kernel)⟩
  have q46 : ha_Fk s ([.ref (ad p0), .int p1, .int p2, .int p3] : List Value).toArray RX2 46 2 5 0 := ⟨RX2, TX2, 9, wsX2_tighten, rfl, by decide, by decide, rfl, rfl, hts, hi2, hts (.fieldLink RX2 46 "HillArms$Delays" "ends" "I") (by decide +kernel)⟩
  have cw0 := hts (.methodLink RX2 57 Lib.Math.min.name) (by decide +kernel)
  have cw1 := hts (.static Lib.Math.min.name) (by decide +kernel)
  have cw2 := hts (.initialized "java/lang/Math") (by decide +kernel)
  have cw3 := hts (.code Lib.Math.min.name Lib.Math.min.code 2 (some .int)) (by decide +kernel)
  have hl := lv_entry ([.ref (ad p0), .int p1, .int p2, .int p3]) (n := 6) (Nat.le_of_ble_eq_true rfl)
  rw [lg_entry_eq]
  generalize (lg_sl ([.ref (ad p0), .int p1, .int p2, .int p3]) ++ List.replicate (6 - (lg_sl ([.ref (ad p0), .int p1, .int p2, .int p3])).length) Slot.unset).toArray = ls at hl ⊢
  have hl : lv_has ls 6 [(0, .ref (ad p0)), (1, .int p1), (2, .int p2), (3, .int p3)] := hl
  refine (fun (K0 : ∀ (H : Heap) (locs : List Loc), va_P D vwCl (ha_wl cs ad xo_kd xo_ln N S) H → va_S (ha_A ad N) s.heap H locs → W p l e (headSpec wsX2_tighten ({ frames := 1, cells := 0, slots := 0, locals := 21 } : Room)).room s m ([.ref (ad p0), .int p1, .int p2, .int p3] : List Value).toArray below meth c H locs 0 0 (MQ below (va_Qi (fun (r : Int32) (_ : Unit) => r = out.1) (fun _ => ha_H D cs ad xo_kd xo_ln N out.2) (ha_A ad N)) ([.ref (ad p0), .int p1, .int p2, .int p3] : List Value).toArray s 0 0 (ha_A ad N)) (F0 m 0 ls [])) => K0 _ _ hP hS) ?_
  intro H locs hP hS
  have hf := ha_rt hf
  have J109 : ∀  (S : ha_St) (H : Heap) (locs : List Loc) (ls : Array Slot), (f_X2_tighten_J109 p0 p1 p2 p3  S).bind some = some out → va_P D vwCl (ha_wl cs ad xo_kd xo_ln N S) H → va_D (ha_A ad N) (ha_wl cs ad xo_kd xo_ln N S) → va_S (ha_A ad N) s.heap H locs → lv_has ls 6 [(0, .ref (ad p0)), (1, .int p1), (2, .int p2), (3, .int p3)] → W p l e (headSpec wsX2_tighten ({ frames := 1, cells := 0, slots := 0, locals := 21 } : Room)).room s m ([.ref (ad p0), .int p1, .int p2, .int p3] : List Value).toArray below meth c H locs 0 0 (MQ below (va_Qi (fun (r : Int32) (_ : Unit) => r = out.1) (fun _ => ha_H D cs ad xo_kd xo_ln N out.2) (ha_A ad N)) ([.ref (ad p0), .int p1, .int p2, .int p3] : List Value).toArray s 0 0 (ha_A ad N)) (F0 m 109 ls []) := by
    intro  S H locs ls hf  hP hD hS hl
    unfold f_X2_tighten_J109 at hf
    refine lv_iconst (v := 1) hx hb dX2_tighten_109 (by decide) ?_
    have he := Option.some.inj hf
    exact ha_retz hx hb hr hlocks hP hD hS dX2_tighten_110 (by decide) (ha_e1 he) (ha_e2 he)
  unfold f_X2_tighten at hf
  refine lv_iload_n hx hb dX2_tighten_0 rfl (lv_at hl 3 rfl) ?_
  refine lv_aload_n hx hb dX2_tighten_1 rfl (lv_at hl 0 rfl) ?_
  obtain ⟨r1, wr1, hf⟩ := ha_bds hf
  obtain ⟨wr1, hr1⟩ := ha_rf_some wr1
  refine ha_getr hx hb hown hK hP q26 hN h0 wr1 dX2_tighten_2 ?_
  refine lv_iload_n hx hb dX2_tighten_5 rfl (lv_at hl 1 rfl) ?_
  obtain ⟨g2, hf⟩ := ha_gds hf
  obtain ⟨r3, wr3, hf⟩ := ha_bds hf
  obtain ⟨wr3, hr3⟩ := ha_rb_some wr3
  refine ha_aalr hx hb hK hP hN hr1 g2 wr3 dX2_tighten_6 ?_
  refine lv_iload_n hx hb dX2_tighten_7 rfl (lv_at hl 2 rfl) ?_
  obtain ⟨g4, hf⟩ := ha_gds hf
  refine ha_iald hx hb hK hP hN hr3 g4 dX2_tighten_8 ?_
  refine lv_icmp_lt (tgt := 14) hx hb dX2_tighten_9 (by decide) (fun c5 => ?_) (fun c5 => ?_)
  · have hf := ha_it hf c5
    refine lv_iload_n hx hb dX2_tighten_14 rfl (lv_at hl 3 rfl) ?_
    refine lv_aload_n hx hb dX2_tighten_15 rfl (lv_at hl 0 rfl) ?_
    obtain ⟨r6, wr6, hf⟩ := ha_bds hf
    obtain ⟨wr6, hr6⟩ := ha_rf_some wr6
    refine ha_getr hx hb hown hK hP q26 hN h0 wr6 dX2_tighten_16 ?_
    refine lv_iload_n hx hb dX2_tighten_19 rfl (lv_at hl 2 rfl) ?_
    obtain ⟨g7, hf⟩ := ha_gds hf
    obtain ⟨r8, wr8, hf⟩ := ha_bds hf
    obtain ⟨wr8, hr8⟩ := ha_rb_some wr8
    refine ha_aalr hx hb hK hP hN hr6 g7 wr8 dX2_tighten_20 ?_
    refine lv_iload_n hx hb dX2_tighten_21 rfl (lv_at hl 1 rfl) ?_
    obtain ⟨g9, hf⟩ := ha_gds hf
    refine ha_iald hx hb hK hP hN hr8 g9 dX2_tighten_22 ?_
    refine lv_iadd hx hb dX2_tighten_23 ?_
    refine lv_if_ge (tgt := 29) hx hb dX2_tighten_24 (by decide) (fun c10 => ?_) (fun c10 => ?_)
    · have hf := ha_it hf c10
      refine lv_iconst (v := 0) hx hb dX2_tighten_29 (by decide) ?_
      refine lv_istore (lv' := [(4, .int 0), (0, .ref (ad p0)), (1, .int p1), (2, .int p2), (3, .int p3)]) hx hb dX2_tighten_30 hl (by decide) rfl (fun ls hl => ?_)
      have key34 : ∀ (K : (ha_St) → Option (Int32 × ha_St)), (∀  (S : ha_St) (H : Heap) (locs : List Loc) (ls : Array Slot), K S = some out → va_P D vwCl (ha_wl cs ad xo_kd xo_ln N S) H → va_D (ha_A ad N) (ha_wl cs ad xo_kd xo_ln N S) → va_S (ha_A ad N) s.heap H locs → lv_has ls 6 [(0, .ref (ad p0)), (1, .int p1), (2, .int p2), (3, .int p3)] → W p l e (headSpec wsX2_tighten ({ frames := 1, cells := 0, slots := 0, locals := 21 } : Room)).room s m ([.ref (ad p0), .int p1, .int p2, .int p3] : List Value).toArray below meth c H locs 0 0 (MQ below (va_Qi (fun (r : Int32) (_ : Unit) => r = out.1) (fun _ => ha_H D cs ad xo_kd xo_ln N out.2) (ha_A ad N)) ([.ref (ad p0), .int p1, .int p2, .int p3] : List Value).toArray s 0 0 (ha_A ad N)) (F0 m 109 ls [])) → ∀ (n : Nat) (v4 : Int32) (S : ha_St) (H : Heap) (locs : List Loc) (ls : Array Slot), (f_X2_tighten_L32i p0 p1 p2 p3 n (v4, S)).bind K = some out → va_P D vwCl (ha_wl cs ad xo_kd xo_ln N S) H → va_D (ha_A ad N) (ha_wl cs ad xo_kd xo_ln N S) → va_S (ha_A ad N) s.heap H locs → lv_has ls 6 [(0, .ref (ad p0)), (1, .int p1), (2, .int p2), (3, .int p3), (4, .int v4)] → W p l e (headSpec wsX2_tighten ({ frames := 1, cells := 0, slots := 0, locals := 21 } : Room)).room s m ([.ref (ad p0), .int p1, .int p2, .int p3] : List Value).toArray below meth c H locs 0 0 (MQ below (va_Qi (fun (r : Int32) (_ : Unit) => r = out.1) (fun _ => ha_H D cs ad xo_kd xo_ln N out.2) (ha_A ad N)) ([.ref (ad p0), .int p1, .int p2, .int p3] : List Value).toArray s 0 0 (ha_A ad N)) (F0 m 32 ls []) := by
        intro K hk n
        induction n with
        | zero =>
          intro v4 S H locs ls hf
          exact absurd (show (none : Option (Int32 × ha_St)) = some out from hf) (fun h => by cases h)
        | succ n ih =>
          intro v4 S H locs ls hf  hP hD hS hl
          have J103 : ∀ (v4 : Int32) (S : ha_St) (H : Heap) (locs : List Loc) (ls : Array Slot), (f_X2_tighten_L32_J103 p0 p1 p2 p3 (f_X2_tighten_L32i p0 p1 p2 p3 n) v4 S).bind K = some out → va_P D vwCl (ha_wl cs ad xo_kd xo_ln N S) H → va_D (ha_A ad N) (ha_wl cs ad xo_kd xo_ln N S) → va_S (ha_A ad N) s.heap H locs → lv_has ls 6 [(0, .ref (ad p0)), (1, .int p1), (2, .int p2), (3, .int p3), (4, .int v4)] → W p l e (headSpec wsX2_tighten ({ frames := 1, cells := 0, slots := 0, locals := 21 } : Room)).room s m ([.ref (ad p0), .int p1, .int p2, .int p3] : List Value).toArray below meth c H locs 0 0 (MQ below (va_Qi (fun (r : Int32) (_ : Unit) => r = out.1) (fun _ => ha_H D cs ad xo_kd xo_ln N out.2) (ha_A ad N)) ([.ref (ad p0), .int p1, .int p2, .int p3] : List Value).toArray s 0 0 (ha_A ad N)) (F0 m 103 ls []) := by
            intro v4 S H locs ls hf  hP hD hS hl
            unfold f_X2_tighten_L32_J103 at hf
            obtain ⟨x11, ex11⟩ : ∃ y : Int32, y = (v4 : Int32) + 1 := ⟨_, rfl⟩
            have hf := ha_nms hf ex11
            refine lv_iinc (v := x11) (lv' := [(4, .int x11), (0, .ref (ad p0)), (1, .int p1), (2, .int p2), (3, .int p3)]) hx hb dX2_tighten_103 hl (k := 4) rfl (by rw [ex11]; rfl) (by decide) rfl (fun ls hl => ?_)
            refine lv_goto (tgt := 32) hx hb dX2_tighten_106 (by decide) ?_
            exact ih x11 S H locs ls hf  hP hD hS (lv_sub hl [1, 2, 3, 4, 0] rfl)
          have hf : (f_X2_tighten_L32 p0 p1 p2 p3 (f_X2_tighten_L32i p0 p1 p2 p3 n) v4 S).bind K = some out := hf
          unfold f_X2_tighten_L32 at hf
          refine lv_iload hx hb dX2_tighten_32 (lv_at hl 4 rfl) ?_
          refine lv_aload_n hx hb dX2_tighten_34 rfl (lv_at hl 0 rfl) ?_
          refine ha_geti hx hb hown hK hP q46 hN h0 dX2_tighten_35 ?_
          refine lv_icmp_ge (tgt := 109) hx hb dX2_tighten_38 (by decide) (fun c12 => ?_) (fun c12 => ?_)
          · have hf := ha_it hf c12
            exact hk  S H locs ls hf  hP hD hS (lv_sub hl [0, 1, 2, 3] rfl)
          · have hf := ha_if hf c12
            refine lv_iconst (v := 0) hx hb dX2_tighten_41 (by decide) ?_
            refine lv_istore (lv' := [(5, .int 0), (0, .ref (ad p0)), (1, .int p1), (2, .int p2), (3, .int p3), (4, .int v4)]) hx hb dX2_tighten_42 hl (by decide) rfl (fun ls hl => ?_)
            have key32 : ∀ (K : (Int32 × ha_St) → Option (Int32 × ha_St)), (∀ (v4 : Int32) (S : ha_St) (H : Heap) (locs : List Loc) (ls : Array Slot), K (v4, S) = some out → va_P D vwCl (ha_wl cs ad xo_kd xo_ln N S) H → va_D (ha_A ad N) (ha_wl cs ad xo_kd xo_ln N S) → va_S (ha_A ad N) s.heap H locs → lv_has ls 6 [(0, .ref (ad p0)), (1, .int p1), (2, .int p2), (3, .int p3), (4, .int v4)] → W p l e (headSpec wsX2_tighten ({ frames := 1, cells := 0, slots := 0, locals := 21 } : Room)).room s m ([.ref (ad p0), .int p1, .int p2, .int p3] : List Value).toArray below meth c H locs 0 0 (MQ below (va_Qi (fun (r : Int32) (_ : Unit) => r = out.1) (fun _ => ha_H D cs ad xo_kd xo_ln N out.2) (ha_A ad N)) ([.ref (ad p0), .int p1, .int p2, .int p3] : List Value).toArray s 0 0 (ha_A ad N)) (F0 m 103 ls [])) → ∀ (n : Nat) (v4 : Int32) (v5 : Int32) (S : ha_St) (H : Heap) (locs : List Loc) (ls : Array Slot), (f_X2_tighten_L44i p0 p1 p2 p3 n (v4, v5, S)).bind K = some out → va_P D vwCl (ha_wl cs ad xo_kd xo_ln N S) H → va_D (ha_A ad N) (ha_wl cs ad xo_kd xo_ln N S) → va_S (ha_A ad N) s.heap H locs → lv_has ls 6 [(0, .ref (ad p0)), (1, .int p1), (2, .int p2), (3, .int p3), (4, .int v4), (5, .int v5)] → W p l e (headSpec wsX2_tighten ({ frames := 1, cells := 0, slots := 0, locals := 21 } : Room)).room s m ([.ref (ad p0), .int p1, .int p2, .int p3] : List Value).toArray below meth c H locs 0 0 (MQ below (va_Qi (fun (r : Int32) (_ : Unit) => r = out.1) (fun _ => ha_H D cs ad xo_kd xo_ln N out.2) (ha_A ad N)) ([.ref (ad p0), .int p1, .int p2, .int p3] : List Value).toArray s 0 0 (ha_A ad N)) (F0 m 44 ls []) := by
              intro K hk n
              induction n with
              | zero =>
                intro v4 v5 S H locs ls hf
                exact absurd (show (none : Option (Int32 × ha_St)) = some out from hf) (fun h => by cases h)
              | succ n ih =>
                intro v4 v5 S H locs ls hf  hP hD hS hl
                have hf : (f_X2_tighten_L44 p0 p1 p2 p3 (f_X2_tighten_L44i p0 p1 p2 p3 n) v4 v5 S).bind K = some out := hf
                unfold f_X2_tighten_L44 at hf
                refine lv_iload hx hb dX2_tighten_44 (lv_at hl 5 rfl) ?_
                refine lv_aload_n hx hb dX2_tighten_46 rfl (lv_at hl 0 rfl) ?_
                refine ha_geti hx hb hown hK hP q46 hN h0 dX2_tighten_47 ?_
                refine lv_icmp_ge (tgt := 103) hx hb dX2_tighten_50 (by decide) (fun c13 => ?_) (fun c13 => ?_)
                · have hf := ha_it hf c13
                  exact hk v4 S H locs ls hf  hP hD hS (lv_sub hl [0, 1, 2, 3, 4] rfl)
                · have hf := ha_if hf c13
                  refine lv_aload_n hx hb dX2_tighten_53 rfl (lv_at hl 0 rfl) ?_
                  obtain ⟨r14, wr14, hf⟩ := ha_bds hf
                  obtain ⟨wr14, hr14⟩ := ha_rf_some wr14
                  refine ha_getr hx hb hown hK hP q26 hN h0 wr14 dX2_tighten_54 ?_
                  refine lv_iload hx hb dX2_tighten_57 (lv_at hl 4 rfl) ?_
                  obtain ⟨g15, hf⟩ := ha_gds hf
                  obtain ⟨r16, wr16, hf⟩ := ha_bds hf
                  obtain ⟨wr16, hr16⟩ := ha_rb_some wr16
                  refine ha_aalr hx hb hK hP hN hr14 g15 wr16 dX2_tighten_59 ?_
                  refine lv_iload hx hb dX2_tighten_60 (lv_at hl 5 rfl) ?_
                  refine lv_aload_n hx hb dX2_tighten_62 rfl (lv_at hl 0 rfl) ?_
                  obtain ⟨r17, wr17, hf⟩ := ha_bds hf
                  obtain ⟨wr17, hr17⟩ := ha_rf_some wr17
                  refine ha_getr hx hb hown hK hP q26 hN h0 wr17 dX2_tighten_63 ?_
                  refine lv_iload hx hb dX2_tighten_66 (lv_at hl 4 rfl) ?_
                  obtain ⟨g18, hf⟩ := ha_gds hf
                  obtain ⟨r19, wr19, hf⟩ := ha_bds hf
                  obtain ⟨wr19, hr19⟩ := ha_rb_some wr19
                  refine ha_aalr hx hb hK hP hN hr17 g18 wr19 dX2_tighten_68 ?_
                  refine lv_iload hx hb dX2_tighten_69 (lv_at hl 5 rfl) ?_
                  obtain ⟨g20, hf⟩ := ha_gds hf
                  refine ha_iald hx hb hK hP hN hr19 g20 dX2_tighten_71 ?_
                  refine lv_aload_n hx hb dX2_tighten_72 rfl (lv_at hl 0 rfl) ?_
                  obtain ⟨r21, wr21, hf⟩ := ha_bds hf
                  obtain ⟨wr21, hr21⟩ := ha_rf_some wr21
                  refine ha_getr hx hb hown hK hP q26 hN h0 wr21 dX2_tighten_73 ?_
                  refine lv_iload hx hb dX2_tighten_76 (lv_at hl 4 rfl) ?_
                  obtain ⟨g22, hf⟩ := ha_gds hf
                  obtain ⟨r23, wr23, hf⟩ := ha_bds hf
                  obtain ⟨wr23, hr23⟩ := ha_rb_some wr23
                  refine ha_aalr hx hb hK hP hN hr21 g22 wr23 dX2_tighten_78 ?_
                  refine lv_iload_n hx hb dX2_tighten_79 rfl (lv_at hl 1 rfl) ?_
                  obtain ⟨g24, hf⟩ := ha_gds hf
                  refine ha_iald hx hb hK hP hN hr23 g24 dX2_tighten_80 ?_
                  refine lv_iload_n hx hb dX2_tighten_81 rfl (lv_at hl 3 rfl) ?_
                  refine lv_iadd hx hb dX2_tighten_82 ?_
                  refine lv_aload_n hx hb dX2_tighten_83 rfl (lv_at hl 0 rfl) ?_
                  obtain ⟨r25, wr25, hf⟩ := ha_bds hf
                  obtain ⟨wr25, hr25⟩ := ha_rf_some wr25
                  refine ha_getr hx hb hown hK hP q26 hN h0 wr25 dX2_tighten_84 ?_
                  refine lv_iload_n hx hb dX2_tighten_87 rfl (lv_at hl 2 rfl) ?_
                  obtain ⟨g26, hf⟩ := ha_gds hf
                  obtain ⟨r27, wr27, hf⟩ := ha_bds hf
                  obtain ⟨wr27, hr27⟩ := ha_rb_some wr27
                  refine ha_aalr hx hb hK hP hN hr25 g26 wr27 dX2_tighten_88 ?_
                  refine lv_iload hx hb dX2_tighten_89 (lv_at hl 5 rfl) ?_
                  obtain ⟨g28, hf⟩ := ha_gds hf
                  refine ha_iald hx hb hK hP hN hr27 g28 dX2_tighten_91 ?_
                  refine lv_iadd hx hb dX2_tighten_92 ?_
                  refine va_mmin hx hb (hml.trans hl.1.symm) hown cw0 cw1 cw2 cw3 (by decide) (Nat.le_of_ble_eq_true rfl) (Nat.zero_le _) (Nat.zero_le _) dX2_tighten_93 ?_
                  obtain ⟨g29, hf⟩ := ha_gds hf
                  refine ha_iast hx hb hK hP hD hS hN hr16 g29 dX2_tighten_96 (fun S30 H locs eS30 hP hD hS => ?_)
                  have hf := ha_nms hf eS30
                  obtain ⟨x31, ex31⟩ : ∃ y : Int32, y = (v5 : Int32) + 1 := ⟨_, rfl⟩
                  have hf := ha_nms hf ex31
                  refine lv_iinc (v := x31) (lv' := [(5, .int x31), (0, .ref (ad p0)), (1, .int p1), (2, .int p2), (3, .int p3), (4, .int v4)]) hx hb dX2_tighten_97 hl (k := 5) rfl (by rw [ex31]; rfl) (by decide) rfl (fun ls hl => ?_)
                  refine lv_goto (tgt := 44) hx hb dX2_tighten_100 (by decide) ?_
                  exact ih v4 x31 S30 H locs ls hf  hP hD hS (lv_sub hl [1, 2, 3, 4, 5, 0] rfl)
            refine key32 _ (fun v4 S H locs ls hf  hP hD hS hl => ?_) ha_fu v4 0 S H locs ls (ha_as hf)  hP hD hS (lv_sub hl [1, 2, 3, 4, 5, 0] rfl)
            have hf : (f_X2_tighten_L32_J103 p0 p1 p2 p3 (f_X2_tighten_L32i p0 p1 p2 p3 n) v4 S).bind K = some out := hf
            exact J103 v4 S H locs ls hf  hP hD hS (lv_sub hl [0, 1, 2, 3, 4] rfl)
      refine key34 _ (fun  S H locs ls hf  hP hD hS hl => ?_) ha_fu 0 S H locs ls (ha_as hf)  hP hD hS (lv_sub hl [1, 2, 3, 4, 0] rfl)
      have hf : (f_X2_tighten_J109 p0 p1 p2 p3  S).bind some = some out := hf
      exact J109  S H locs ls hf  hP hD hS (lv_sub hl [0, 1, 2, 3] rfl)
    · have hf := ha_if hf c10
      refine lv_iconst (v := 0) hx hb dX2_tighten_27 (by decide) ?_
      have he := Option.some.inj hf
      exact ha_retz hx hb hr hlocks hP hD hS dX2_tighten_28 (by decide) (ha_e1 he) (ha_e2 he)
  · have hf := ha_if hf c5
    refine lv_iconst (v := 1) hx hb dX2_tighten_12 (by decide) ?_
    have he := Option.some.inj hf
    exact ha_retz hx hb hr hlocks hP hD hS dX2_tighten_13 (by decide) (ha_e1 he) (ha_e2 he)

set_option maxHeartbeats 4000000 in
set_option maxRecDepth 100000 in
theorem c_X2_weigh {l : Launch} {D : va_G} {cs : Nat → ClassId} {ad adK adV : Nat → Nat} {N : List Nat} {Z : State → Prop} (hZ : ha_Zok (ha_A ad N) Z) (hN : ∀ x, xo_kd x < 999 → x ∈ N) (hX : ∀ U, Z U → xo_Z adK adV (ha_A ad N) U) {p0 : Nat} {p1 : Int32} {p2 : Int32} {S : ha_St} {out : ha_St} (h0 : xo_kd p0 = 2) (hf : f_X2_weigh p0 p1 p2 S = some out) : ha_Cv l D cs ad xo_kd xo_ln N Z yX2_weigh wsX2_weigh ({ frames := 2, cells := 0, slots := 0, locals := 46 } : Room) [.ref (ad p0), .int p1, .int p2] S out := by
  refine Met.ofW (cc := cX2_weigh) (maxL := 5) (ret := none) (by decide +kernel) rfl ?_
  intro p e s m args below meth c s₁ B hml hv
  obtain ⟨rfl, hP, hD, hK, hz⟩ := hv
  have hx := B.exec
  have hb := B.bytes
  have hr := B.returns
  have hts := atoms_spec (ws := wsX2_weigh) B.pre
  have hown : s.vm.findClass RX2 = some m.cls := findClass_of_methodNamed B.named
  have hlocks := B.notSynchronized
  have hS : va_S (ha_A ad N) s.heap s.heap [] := va_S.rf
  have hi2 : ∀ w ∈ wsX20, w ∈ wsX2_weigh := fun w h => List.mem_cons_of_mem _ (List.mem_append_right _ h)
  have q53 : ha_Fk s ([.ref (ad p0), .int p1, .int p2] : List Value).toArray RX2 53 2 7 0 := ⟨RX2, TX2, 9, wsX2_weigh, rfl, by decide, by decide, rfl, rfl, hts, hi2, hts (.fieldLink RX2 53 "HillArms$Delays" "quarrel" "Z") (by decide +kernel)⟩
  have q15 : ha_Fk s ([.ref (ad p0), .int p1, .int p2] : List Value).toArray RX2 15 2 1 1 := ⟨RX2, TX2, 9, wsX2_weigh, rfl, by decide, by decide, rfl, rfl, hts, hi2, hts (.fieldLink RX2 15 "HillArms$Delays" "to" "[I") (by decide +kernel)⟩
  have q9 : ha_Fk s ([.ref (ad p0), .int p1, .int p2] : List Value).toArray RX2 9 2 0 1 := ⟨RX2, TX2, 9, wsX2_weigh, rfl, by decide, by decide, rfl, rfl, hts, hi2, hts (.fieldLink RX2 9 "HillArms$Delays" "from" "[I") (by decide +kernel)⟩
  have q18 : ha_Fk s ([.ref (ad p0), .int p1, .int p2] : List Value).toArray RX2 18 2 2 1 := ⟨RX2, TX2, 9, wsX2_weigh, rfl, by decide, by decide, rfl, rfl, hts, hi2, hts (.fieldLink RX2 18 "HillArms$Delays" "minutes" "[I") (by decide +kernel)⟩
  have q46 : ha_Fk s ([.ref (ad p0), .int p1, .int p2] : List Value).toArray RX2 46 2 5 0 := ⟨RX2, TX2, 9, wsX2_weigh, rfl, by decide, by decide, rfl, rfl, hts, hi2, hts (.fieldLink RX2 46 "HillArms$Delays" "ends" "I") (by decide +kernel)⟩
  have q26 : ha_Fk s ([.ref (ad p0), .int p1, .int p2] : List Value).toArray RX2 26 2 4 1 := ⟨RX2, TX2, 9, wsX2_weigh, rfl, by decide, by decide, rfl, rfl, hts, hi2, hts (.fieldLink RX2 26 "HillArms$Delays" "most" "[[I") (by decide +kernel)⟩
  have r53 : ha_Fp s ([.ref (ad p0), .int p1, .int p2] : List Value).toArray RX2 53 2 7 0 .boolean := ⟨RX2, TX2, 9, wsX2_weigh, tyX2, rfl, by decide, by decide, rfl, rfl, hts, hi2, hts (.fieldLink RX2 53 "HillArms$Delays" "quarrel" "Z") (by decide +kernel), tyX2_ok, nmX2, rfl, by decide +kernel⟩
  have r46 : ha_Fp s ([.ref (ad p0), .int p1, .int p2] : List Value).toArray RX2 46 2 5 0 .int := ⟨RX2, TX2, 9, wsX2_weigh, tyX2, rfl, by decide, by decide, rfl, rfl, hts, hi2, hts (.fieldLink RX2 46 "HillArms$Delays" "ends" "I") (by decide +kernel), tyX2_ok, nmX2, rfl, by decide +kernel⟩
  have r29 : ha_Fp s ([.ref (ad p0), .int p1, .int p2] : List Value).toArray RX2 29 2 6 0 .int := ⟨RX2, TX2, 9, wsX2_weigh, tyX2, rfl, by decide, by decide, rfl, rfl, hts, hi2, hts (.fieldLink RX2 29 "HillArms$Delays" "weighed" "I") (by decide +kernel), tyX2_ok, nmX2, rfl, by decide +kernel⟩
  have cw0 := cwV (R := (headSpec wsX2_weigh ({ frames := 2, cells := 0, slots := 0, locals := 46 } : Room)).room) 3 hts gX2_weigh_X2_tighten (rm := ({ frames := 1, cells := 0, slots := 0, locals := 21 } : Room)) (mc := 0) (ms := 0) rfl rfl rfl (by decide +kernel) ⟨Nat.le_of_ble_eq_true rfl, Nat.le_of_ble_eq_true rfl⟩
  have cw1 := hts (.methodLink RX2 57 Lib.Math.min.name) (by decide +kernel)
  have cw2 := hts (.static Lib.Math.min.name) (by decide +kernel)
  have cw3 := hts (.initialized "java/lang/Math") (by decide +kernel)
  have cw4 := hts (.code Lib.Math.min.name Lib.Math.min.code 2 (some .int)) (by decide +kernel)
  have hl := lv_entry ([.ref (ad p0), .int p1, .int p2]) (n := 5) (Nat.le_of_ble_eq_true rfl)
  rw [lg_entry_eq]
  generalize (lg_sl ([.ref (ad p0), .int p1, .int p2]) ++ List.replicate (5 - (lg_sl ([.ref (ad p0), .int p1, .int p2])).length) Slot.unset).toArray = ls at hl ⊢
  have hl : lv_has ls 5 [(0, .ref (ad p0)), (1, .int p1), (2, .int p2)] := hl
  refine (fun (K0 : ∀ (H : Heap) (locs : List Loc), va_P D vwCl (ha_wl cs ad xo_kd xo_ln N S) H → va_S (ha_A ad N) s.heap H locs → W p l e (headSpec wsX2_weigh ({ frames := 2, cells := 0, slots := 0, locals := 46 } : Room)).room s m ([.ref (ad p0), .int p1, .int p2] : List Value).toArray below meth c H locs 0 0 (MQ below (va_Qv (fun (_ : Unit) => True) (fun _ => ha_H D cs ad xo_kd xo_ln N out) (ha_A ad N)) ([.ref (ad p0), .int p1, .int p2] : List Value).toArray s 0 0 (ha_A ad N)) (F0 m 0 ls [])) => K0 _ _ hP hS) ?_
  intro H locs hP hS
  have hf := ha_rt hf
  have J164 : ∀  (S : ha_St) (H : Heap) (locs : List Loc) (ls : Array Slot), (f_X2_weigh_J164 p0 p1 p2  S).bind some = some out → va_P D vwCl (ha_wl cs ad xo_kd xo_ln N S) H → va_D (ha_A ad N) (ha_wl cs ad xo_kd xo_ln N S) → va_S (ha_A ad N) s.heap H locs → lv_has ls 5 [(0, .ref (ad p0)), (1, .int p1), (2, .int p2)] → W p l e (headSpec wsX2_weigh ({ frames := 2, cells := 0, slots := 0, locals := 46 } : Room)).room s m ([.ref (ad p0), .int p1, .int p2] : List Value).toArray below meth c H locs 0 0 (MQ below (va_Qv (fun (_ : Unit) => True) (fun _ => ha_H D cs ad xo_kd xo_ln N out) (ha_A ad N)) ([.ref (ad p0), .int p1, .int p2] : List Value).toArray s 0 0 (ha_A ad N)) (F0 m 164 ls []) := by
    intro  S H locs ls hf  hP hD hS hl
    unfold f_X2_weigh_J164 at hf
    have he := Option.some.inj hf
    exact ha_retv hx hb hr hlocks hP hD hS dX2_weigh_164 he
  have J82 : ∀  (S : ha_St) (H : Heap) (locs : List Loc) (ls : Array Slot), (f_X2_weigh_J82 p0 p1 p2  S).bind some = some out → va_P D vwCl (ha_wl cs ad xo_kd xo_ln N S) H → va_D (ha_A ad N) (ha_wl cs ad xo_kd xo_ln N S) → va_S (ha_A ad N) s.heap H locs → lv_has ls 5 [(0, .ref (ad p0)), (1, .int p1), (2, .int p2)] → W p l e (headSpec wsX2_weigh ({ frames := 2, cells := 0, slots := 0, locals := 46 } : Room)).room s m ([.ref (ad p0), .int p1, .int p2] : List Value).toArray below meth c H locs 0 0 (MQ below (va_Qv (fun (_ : Unit) => True) (fun _ => ha_H D cs ad xo_kd xo_ln N out) (ha_A ad N)) ([.ref (ad p0), .int p1, .int p2] : List Value).toArray s 0 0 (ha_A ad N)) (F0 m 82 ls []) := by
    intro  S H locs ls hf  hP hD hS hl
    unfold f_X2_weigh_J82 at hf
    refine lv_iconst (v := 0) hx hb dX2_weigh_82 (by decide) ?_
    refine lv_istore_n (lv' := [(3, .int 0), (0, .ref (ad p0)), (1, .int p1), (2, .int p2)]) hx hb dX2_weigh_83 rfl hl (by decide) rfl (fun ls hl => ?_)
    have key21 : ∀ (K : (ha_St) → Option (ha_St)), (∀  (S : ha_St) (H : Heap) (locs : List Loc) (ls : Array Slot), K S = some out → va_P D vwCl (ha_wl cs ad xo_kd xo_ln N S) H → va_D (ha_A ad N) (ha_wl cs ad xo_kd xo_ln N S) → va_S (ha_A ad N) s.heap H locs → lv_has ls 5 [(0, .ref (ad p0)), (1, .int p1), (2, .int p2)] → W p l e (headSpec wsX2_weigh ({ frames := 2, cells := 0, slots := 0, locals := 46 } : Room)).room s m ([.ref (ad p0), .int p1, .int p2] : List Value).toArray below meth c H locs 0 0 (MQ below (va_Qv (fun (_ : Unit) => True) (fun _ => ha_H D cs ad xo_kd xo_ln N out) (ha_A ad N)) ([.ref (ad p0), .int p1, .int p2] : List Value).toArray s 0 0 (ha_A ad N)) (F0 m 164 ls [])) → ∀ (n : Nat) (v3 : Int32) (S : ha_St) (H : Heap) (locs : List Loc) (ls : Array Slot), (f_X2_weigh_L84i p0 p1 p2 n (v3, S)).bind K = some out → va_P D vwCl (ha_wl cs ad xo_kd xo_ln N S) H → va_D (ha_A ad N) (ha_wl cs ad xo_kd xo_ln N S) → va_S (ha_A ad N) s.heap H locs → lv_has ls 5 [(0, .ref (ad p0)), (1, .int p1), (2, .int p2), (3, .int v3)] → W p l e (headSpec wsX2_weigh ({ frames := 2, cells := 0, slots := 0, locals := 46 } : Room)).room s m ([.ref (ad p0), .int p1, .int p2] : List Value).toArray below meth c H locs 0 0 (MQ below (va_Qv (fun (_ : Unit) => True) (fun _ => ha_H D cs ad xo_kd xo_ln N out) (ha_A ad N)) ([.ref (ad p0), .int p1, .int p2] : List Value).toArray s 0 0 (ha_A ad N)) (F0 m 84 ls []) := by
      intro K hk n
      induction n with
      | zero =>
        intro v3 S H locs ls hf
        exact absurd (show (none : Option (ha_St)) = some out from hf) (fun h => by cases h)
      | succ n ih =>
        intro v3 S H locs ls hf  hP hD hS hl
        have J155 : ∀ (v3 : Int32) (k0 : Nat) (k1 : Int32) (S : ha_St) (H : Heap) (locs : List Loc) (ls : Array Slot), (f_X2_weigh_L84_J155 p0 p1 p2 (f_X2_weigh_L84i p0 p1 p2 n) v3 k0 k1 S).bind K = some out → xo_kd k0 = 2 → va_P D vwCl (ha_wl cs ad xo_kd xo_ln N S) H → va_D (ha_A ad N) (ha_wl cs ad xo_kd xo_ln N S) → va_S (ha_A ad N) s.heap H locs → lv_has ls 5 [(0, .ref (ad p0)), (1, .int p1), (2, .int p2), (3, .int v3)] → W p l e (headSpec wsX2_weigh ({ frames := 2, cells := 0, slots := 0, locals := 46 } : Room)).room s m ([.ref (ad p0), .int p1, .int p2] : List Value).toArray below meth c H locs 0 0 (MQ below (va_Qv (fun (_ : Unit) => True) (fun _ => ha_H D cs ad xo_kd xo_ln N out) (ha_A ad N)) ([.ref (ad p0), .int p1, .int p2] : List Value).toArray s 0 0 (ha_A ad N)) (F0 m 155 ls [.int k1, .ref (ad k0)]) := by
          intro v3 k0 k1 S H locs ls hf hk0 hP hD hS hl
          unfold f_X2_weigh_L84_J155 at hf
          obtain ⟨g2, hf⟩ := ha_gds hf
          refine ha_putz hx hb hown hK hP hD hS r53 hN hk0 g2 dX2_weigh_155 (fun S1 H locs eS1 hP hD hS => ?_)
          have hf := ha_nms hf eS1
          obtain ⟨x3, ex3⟩ : ∃ y : Int32, y = (v3 : Int32) + 1 := ⟨_, rfl⟩
          have hf := ha_nms hf ex3
          refine lv_iinc (v := x3) (lv' := [(3, .int x3), (0, .ref (ad p0)), (1, .int p1), (2, .int p2)]) hx hb dX2_weigh_158 hl (k := 3) rfl (by rw [ex3]; rfl) (by decide) rfl (fun ls hl => ?_)
          refine lv_goto (tgt := 84) hx hb dX2_weigh_161 (by decide) ?_
          exact ih x3 S1 H locs ls hf  hP hD hS (lv_sub hl [1, 2, 3, 0] rfl)
        have J150 : ∀ (v3 : Int32) (k0 : Nat) (S : ha_St) (H : Heap) (locs : List Loc) (ls : Array Slot), (f_X2_weigh_L84_J150 p0 p1 p2 (f_X2_weigh_L84i p0 p1 p2 n) v3 k0 S).bind K = some out → xo_kd k0 = 2 → va_P D vwCl (ha_wl cs ad xo_kd xo_ln N S) H → va_D (ha_A ad N) (ha_wl cs ad xo_kd xo_ln N S) → va_S (ha_A ad N) s.heap H locs → lv_has ls 5 [(0, .ref (ad p0)), (1, .int p1), (2, .int p2), (3, .int v3)] → W p l e (headSpec wsX2_weigh ({ frames := 2, cells := 0, slots := 0, locals := 46 } : Room)).room s m ([.ref (ad p0), .int p1, .int p2] : List Value).toArray below meth c H locs 0 0 (MQ below (va_Qv (fun (_ : Unit) => True) (fun _ => ha_H D cs ad xo_kd xo_ln N out) (ha_A ad N)) ([.ref (ad p0), .int p1, .int p2] : List Value).toArray s 0 0 (ha_A ad N)) (F0 m 150 ls [.ref (ad k0)]) := by
          intro v3 k0 S H locs ls hf hk0 hP hD hS hl
          unfold f_X2_weigh_L84_J150 at hf
          refine lv_iconst (v := 1) hx hb dX2_weigh_150 (by decide) ?_
          refine lv_goto (tgt := 155) hx hb dX2_weigh_151 (by decide) ?_
          exact J155 v3 k0 1 S H locs ls hf hk0 hP hD hS (lv_sub hl [0, 1, 2, 3] rfl)
        have hf : (f_X2_weigh_L84 p0 p1 p2 (f_X2_weigh_L84i p0 p1 p2 n) v3 S).bind K = some out := hf
        unfold f_X2_weigh_L84 at hf
        refine lv_iload_n hx hb dX2_weigh_84 rfl (lv_at hl 3 rfl) ?_
        refine lv_iload_n hx hb dX2_weigh_85 rfl (lv_at hl 2 rfl) ?_
        refine lv_icmp_ge (tgt := 164) hx hb dX2_weigh_86 (by decide) (fun c4 => ?_) (fun c4 => ?_)
        · have hf := ha_it hf c4
          exact hk  S H locs ls hf  hP hD hS (lv_sub hl [0, 1, 2] rfl)
        · have hf := ha_if hf c4
          refine lv_aload_n hx hb dX2_weigh_89 rfl (lv_at hl 0 rfl) ?_
          refine ha_geti hx hb hown hK hP q53 hN h0 dX2_weigh_90 ?_
          refine lv_if_ne (tgt := 164) hx hb dX2_weigh_93 (by decide) (fun c5 => ?_) (fun c5 => ?_)
          · have hf := ha_it hf c5
            exact hk  S H locs ls hf  hP hD hS (lv_sub hl [0, 1, 2] rfl)
          · have hf := ha_if hf (fun q => q c5)
            refine lv_aload_n hx hb dX2_weigh_96 rfl (lv_at hl 0 rfl) ?_
            obtain ⟨r6, wr6, hf⟩ := ha_bds hf
            obtain ⟨wr6, hr6⟩ := ha_rf_some wr6
            refine ha_getr hx hb hown hK hP q15 hN h0 wr6 dX2_weigh_97 ?_
            refine lv_iload_n hx hb dX2_weigh_100 rfl (lv_at hl 3 rfl) ?_
            obtain ⟨g7, hf⟩ := ha_gds hf
            refine ha_iald hx hb hK hP hN hr6 g7 dX2_weigh_101 ?_
            refine lv_iconst (v := 1) hx hb dX2_weigh_102 (by decide) ?_
            refine lv_iadd hx hb dX2_weigh_103 ?_
            refine lv_topi (fun x8 ex8 => ?_)
            have hf := ha_nms hf ex8
            refine lv_istore (lv' := [(4, .int x8), (0, .ref (ad p0)), (1, .int p1), (2, .int p2), (3, .int v3)]) hx hb dX2_weigh_104 hl (by decide) rfl (fun ls hl => ?_)
            refine lv_aload_n hx hb dX2_weigh_106 rfl (lv_at hl 1 rfl) ?_
            refine lv_aload_n hx hb dX2_weigh_107 rfl (lv_at hl 1 rfl) ?_
            refine lv_aload_n hx hb dX2_weigh_108 rfl (lv_at hl 1 rfl) ?_
            obtain ⟨r9, wr9, hf⟩ := ha_bds hf
            obtain ⟨wr9, hr9⟩ := ha_rf_some wr9
            refine ha_getr hx hb hown hK hP q9 hN h0 wr9 dX2_weigh_109 ?_
            refine lv_iload_n hx hb dX2_weigh_112 rfl (lv_at hl 4 rfl) ?_
            obtain ⟨g10, hf⟩ := ha_gds hf
            refine ha_iald hx hb hK hP hN hr9 g10 dX2_weigh_113 ?_
            refine lv_iload hx hb dX2_weigh_114 (lv_at hl 0 rfl) ?_
            refine lv_aload_n hx hb dX2_weigh_116 rfl (lv_at hl 1 rfl) ?_
            obtain ⟨r11, wr11, hf⟩ := ha_bds hf
            obtain ⟨wr11, hr11⟩ := ha_rf_some wr11
            refine ha_getr hx hb hown hK hP q18 hN h0 wr11 dX2_weigh_117 ?_
            refine lv_iload_n hx hb dX2_weigh_120 rfl (lv_at hl 4 rfl) ?_
            obtain ⟨g12, hf⟩ := ha_gds hf
            refine ha_iald hx hb hK hP hN hr11 g12 dX2_weigh_121 ?_
            obtain ⟨z13, wz13, hf⟩ := ha_bds hf
            refine ha_callVi (As := [.int ((ha_gA S r9 (v3 : Int32).toNatClampNeg)), .int x8, .int ((ha_gA S r11 (v3 : Int32).toNatClampNeg))]) (rest := [.ref (ad p0)]) hZ ⟨hx, hb, hml, hown, hts⟩ hK hz hP hD hS (c_X2_tighten hZ hN hX h0 wz13) cw0 hN h0 (by decide) rfl rfl hl.1 rfl (Nat.le_of_ble_eq_true rfl) dX2_weigh_122 ⟨Nat.le_of_ble_eq_true rfl, Nat.le_of_ble_eq_true rfl⟩ (fun H locs hP hD hS => ?_)
            refine lv_if_eq (tgt := 150) hx hb dX2_weigh_125 (by decide) (fun c14 => ?_) (fun c14 => ?_)
            · have hf := ha_it hf c14
              exact J150 v3 p0 z13.2 H locs ls hf h0 hP hD hS (lv_sub hl [1, 2, 3, 4] rfl)
            · have hf := ha_if hf c14
              refine lv_aload_n hx hb dX2_weigh_128 rfl (lv_at hl 1 rfl) ?_
              refine lv_iload hx hb dX2_weigh_129 (lv_at hl 0 rfl) ?_
              refine lv_aload_n hx hb dX2_weigh_131 rfl (lv_at hl 1 rfl) ?_
              obtain ⟨r15, wr15, hf⟩ := ha_bds hf
              obtain ⟨wr15, hr15⟩ := ha_rf_some wr15
              refine ha_getr hx hb hown hK hP q9 hN h0 wr15 dX2_weigh_132 ?_
              refine lv_iload_n hx hb dX2_weigh_135 rfl (lv_at hl 4 rfl) ?_
              obtain ⟨g16, hf⟩ := ha_gds hf
              refine ha_iald hx hb hK hP hN hr15 g16 dX2_weigh_136 ?_
              refine lv_aload_n hx hb dX2_weigh_137 rfl (lv_at hl 1 rfl) ?_
              obtain ⟨r17, wr17, hf⟩ := ha_bds hf
              obtain ⟨wr17, hr17⟩ := ha_rf_some wr17
              refine ha_getr hx hb hown hK hP q18 hN h0 wr17 dX2_weigh_138 ?_
              refine lv_iload_n hx hb dX2_weigh_141 rfl (lv_at hl 4 rfl) ?_
              obtain ⟨g18, hf⟩ := ha_gds hf
              refine ha_iald hx hb hK hP hN hr17 g18 dX2_weigh_142 ?_
              refine lv_ineg hx hb dX2_weigh_143 ?_
              obtain ⟨z19, wz19, hf⟩ := ha_bds hf
              refine ha_callVi (As := [.int x8, .int ((ha_gA z13.2 r15 (v3 : Int32).toNatClampNeg)), .int ((-(ha_gA z13.2 r17 (v3 : Int32).toNatClampNeg)))]) (rest := [.ref (ad p0)]) hZ ⟨hx, hb, hml, hown, hts⟩ hK hz hP hD hS (c_X2_tighten hZ hN hX h0 wz19) cw0 hN h0 (by decide) rfl rfl hl.1 rfl (Nat.le_of_ble_eq_true rfl) dX2_weigh_144 ⟨Nat.le_of_ble_eq_true rfl, Nat.le_of_ble_eq_true rfl⟩ (fun H locs hP hD hS => ?_)
              refine lv_if_ne (tgt := 154) hx hb dX2_weigh_147 (by decide) (fun c20 => ?_) (fun c20 => ?_)
              · have hf := ha_it hf c20
                refine lv_iconst (v := 0) hx hb dX2_weigh_154 (by decide) ?_
                exact J155 v3 p0 0 z19.2 H locs ls hf h0 hP hD hS (lv_sub hl [1, 2, 3, 4] rfl)
              · have hf := ha_if hf (fun q => q c20)
                exact J150 v3 p0 z19.2 H locs ls hf h0 hP hD hS (lv_sub hl [1, 2, 3, 4] rfl)
    refine key21 _ (fun  S H locs ls hf  hP hD hS hl => ?_) ha_fu 0 S H locs ls (ha_as hf)  hP hD hS (lv_sub hl [1, 2, 3, 0] rfl)
    have hf : (f_X2_weigh_J164 p0 p1 p2  S).bind some = some out := hf
    exact J164  S H locs ls hf  hP hD hS (lv_sub hl [0, 1, 2] rfl)
  unfold f_X2_weigh at hf
  refine lv_aload_n hx hb dX2_weigh_0 rfl (lv_at hl 0 rfl) ?_
  refine lv_iload_n hx hb dX2_weigh_1 rfl (lv_at hl 1 rfl) ?_
  refine lv_bipush (v := 16) hx hb dX2_weigh_2 (by decide) ?_
  refine va_mmin hx hb (hml.trans hl.1.symm) hown cw1 cw2 cw3 cw4 (by decide) (Nat.le_of_ble_eq_true rfl) (Nat.zero_le _) (Nat.zero_le _) dX2_weigh_4 ?_
  refine lv_iconst (v := 1) hx hb dX2_weigh_7 (by decide) ?_
  refine lv_iadd hx hb dX2_weigh_8 ?_
  refine ha_puti hx hb hown hK hP hD hS r46 hN h0 dX2_weigh_9 (fun S23 H locs eS23 hP hD hS => ?_)
  have hf := ha_nms hf eS23
  refine lv_aload_n hx hb dX2_weigh_12 rfl (lv_at hl 0 rfl) ?_
  refine lv_iload_n hx hb dX2_weigh_13 rfl (lv_at hl 2 rfl) ?_
  refine ha_puti hx hb hown hK hP hD hS r29 hN h0 dX2_weigh_14 (fun S24 H locs eS24 hP hD hS => ?_)
  have hf := ha_nms hf eS24
  refine lv_aload_n hx hb dX2_weigh_17 rfl (lv_at hl 0 rfl) ?_
  refine lv_iconst (v := 0) hx hb dX2_weigh_18 (by decide) ?_
  obtain ⟨g26, hf⟩ := ha_gds hf
  refine ha_putz hx hb hown hK hP hD hS r53 hN h0 g26 dX2_weigh_19 (fun S25 H locs eS25 hP hD hS => ?_)
  have hf := ha_nms hf eS25
  refine lv_iconst (v := 0) hx hb dX2_weigh_22 (by decide) ?_
  refine lv_istore_n (lv' := [(3, .int 0), (0, .ref (ad p0)), (1, .int p1), (2, .int p2)]) hx hb dX2_weigh_23 rfl hl (by decide) rfl (fun ls hl => ?_)
  have key39 : ∀ (K : (ha_St) → Option (ha_St)), (∀  (S : ha_St) (H : Heap) (locs : List Loc) (ls : Array Slot), K S = some out → va_P D vwCl (ha_wl cs ad xo_kd xo_ln N S) H → va_D (ha_A ad N) (ha_wl cs ad xo_kd xo_ln N S) → va_S (ha_A ad N) s.heap H locs → lv_has ls 5 [(0, .ref (ad p0)), (1, .int p1), (2, .int p2)] → W p l e (headSpec wsX2_weigh ({ frames := 2, cells := 0, slots := 0, locals := 46 } : Room)).room s m ([.ref (ad p0), .int p1, .int p2] : List Value).toArray below meth c H locs 0 0 (MQ below (va_Qv (fun (_ : Unit) => True) (fun _ => ha_H D cs ad xo_kd xo_ln N out) (ha_A ad N)) ([.ref (ad p0), .int p1, .int p2] : List Value).toArray s 0 0 (ha_A ad N)) (F0 m 82 ls [])) → ∀ (n : Nat) (v3 : Int32) (S : ha_St) (H : Heap) (locs : List Loc) (ls : Array Slot), (f_X2_weigh_L24i p0 p1 p2 n (v3, S)).bind K = some out → va_P D vwCl (ha_wl cs ad xo_kd xo_ln N S) H → va_D (ha_A ad N) (ha_wl cs ad xo_kd xo_ln N S) → va_S (ha_A ad N) s.heap H locs → lv_has ls 5 [(0, .ref (ad p0)), (1, .int p1), (2, .int p2), (3, .int v3)] → W p l e (headSpec wsX2_weigh ({ frames := 2, cells := 0, slots := 0, locals := 46 } : Room)).room s m ([.ref (ad p0), .int p1, .int p2] : List Value).toArray below meth c H locs 0 0 (MQ below (va_Qv (fun (_ : Unit) => True) (fun _ => ha_H D cs ad xo_kd xo_ln N out) (ha_A ad N)) ([.ref (ad p0), .int p1, .int p2] : List Value).toArray s 0 0 (ha_A ad N)) (F0 m 24 ls []) := by
    intro K hk n
    induction n with
    | zero =>
      intro v3 S H locs ls hf
      exact absurd (show (none : Option (ha_St)) = some out from hf) (fun h => by cases h)
    | succ n ih =>
      intro v3 S H locs ls hf  hP hD hS hl
      have J76 : ∀ (v3 : Int32) (S : ha_St) (H : Heap) (locs : List Loc) (ls : Array Slot), (f_X2_weigh_L24_J76 p0 p1 p2 (f_X2_weigh_L24i p0 p1 p2 n) v3 S).bind K = some out → va_P D vwCl (ha_wl cs ad xo_kd xo_ln N S) H → va_D (ha_A ad N) (ha_wl cs ad xo_kd xo_ln N S) → va_S (ha_A ad N) s.heap H locs → lv_has ls 5 [(0, .ref (ad p0)), (1, .int p1), (2, .int p2), (3, .int v3)] → W p l e (headSpec wsX2_weigh ({ frames := 2, cells := 0, slots := 0, locals := 46 } : Room)).room s m ([.ref (ad p0), .int p1, .int p2] : List Value).toArray below meth c H locs 0 0 (MQ below (va_Qv (fun (_ : Unit) => True) (fun _ => ha_H D cs ad xo_kd xo_ln N out) (ha_A ad N)) ([.ref (ad p0), .int p1, .int p2] : List Value).toArray s 0 0 (ha_A ad N)) (F0 m 76 ls []) := by
        intro v3 S H locs ls hf  hP hD hS hl
        unfold f_X2_weigh_L24_J76 at hf
        obtain ⟨x27, ex27⟩ : ∃ y : Int32, y = (v3 : Int32) + 1 := ⟨_, rfl⟩
        have hf := ha_nms hf ex27
        refine lv_iinc (v := x27) (lv' := [(3, .int x27), (0, .ref (ad p0)), (1, .int p1), (2, .int p2)]) hx hb dX2_weigh_76 hl (k := 3) rfl (by rw [ex27]; rfl) (by decide) rfl (fun ls hl => ?_)
        refine lv_goto (tgt := 24) hx hb dX2_weigh_79 (by decide) ?_
        exact ih x27 S H locs ls hf  hP hD hS (lv_sub hl [1, 2, 3, 0] rfl)
      have hf : (f_X2_weigh_L24 p0 p1 p2 (f_X2_weigh_L24i p0 p1 p2 n) v3 S).bind K = some out := hf
      unfold f_X2_weigh_L24 at hf
      refine lv_iload_n hx hb dX2_weigh_24 rfl (lv_at hl 3 rfl) ?_
      refine lv_aload_n hx hb dX2_weigh_25 rfl (lv_at hl 0 rfl) ?_
      refine ha_geti hx hb hown hK hP q46 hN h0 dX2_weigh_26 ?_
      refine lv_icmp_ge (tgt := 82) hx hb dX2_weigh_29 (by decide) (fun c28 => ?_) (fun c28 => ?_)
      · have hf := ha_it hf c28
        exact hk  S H locs ls hf  hP hD hS (lv_sub hl [0, 1, 2] rfl)
      · have hf := ha_if hf c28
        refine lv_iconst (v := 0) hx hb dX2_weigh_32 (by decide) ?_
        refine lv_istore (lv' := [(4, .int 0), (0, .ref (ad p0)), (1, .int p1), (2, .int p2), (3, .int v3)]) hx hb dX2_weigh_33 hl (by decide) rfl (fun ls hl => ?_)
        have key37 : ∀ (K : (Int32 × ha_St) → Option (ha_St)), (∀ (v3 : Int32) (S : ha_St) (H : Heap) (locs : List Loc) (ls : Array Slot), K (v3, S) = some out → va_P D vwCl (ha_wl cs ad xo_kd xo_ln N S) H → va_D (ha_A ad N) (ha_wl cs ad xo_kd xo_ln N S) → va_S (ha_A ad N) s.heap H locs → lv_has ls 5 [(0, .ref (ad p0)), (1, .int p1), (2, .int p2), (3, .int v3)] → W p l e (headSpec wsX2_weigh ({ frames := 2, cells := 0, slots := 0, locals := 46 } : Room)).room s m ([.ref (ad p0), .int p1, .int p2] : List Value).toArray below meth c H locs 0 0 (MQ below (va_Qv (fun (_ : Unit) => True) (fun _ => ha_H D cs ad xo_kd xo_ln N out) (ha_A ad N)) ([.ref (ad p0), .int p1, .int p2] : List Value).toArray s 0 0 (ha_A ad N)) (F0 m 76 ls [])) → ∀ (n : Nat) (v3 : Int32) (v4 : Int32) (S : ha_St) (H : Heap) (locs : List Loc) (ls : Array Slot), (f_X2_weigh_L35i p0 p1 p2 n (v3, v4, S)).bind K = some out → va_P D vwCl (ha_wl cs ad xo_kd xo_ln N S) H → va_D (ha_A ad N) (ha_wl cs ad xo_kd xo_ln N S) → va_S (ha_A ad N) s.heap H locs → lv_has ls 5 [(0, .ref (ad p0)), (1, .int p1), (2, .int p2), (3, .int v3), (4, .int v4)] → W p l e (headSpec wsX2_weigh ({ frames := 2, cells := 0, slots := 0, locals := 46 } : Room)).room s m ([.ref (ad p0), .int p1, .int p2] : List Value).toArray below meth c H locs 0 0 (MQ below (va_Qv (fun (_ : Unit) => True) (fun _ => ha_H D cs ad xo_kd xo_ln N out) (ha_A ad N)) ([.ref (ad p0), .int p1, .int p2] : List Value).toArray s 0 0 (ha_A ad N)) (F0 m 35 ls []) := by
          intro K hk n
          induction n with
          | zero =>
            intro v3 v4 S H locs ls hf
            exact absurd (show (none : Option (ha_St)) = some out from hf) (fun h => by cases h)
          | succ n ih =>
            intro v3 v4 S H locs ls hf  hP hD hS hl
            have J68 : ∀ (v3 : Int32) (v4 : Int32) (k0 : Nat) (k1 : Int32) (k2 : Int32) (k3 : Int32) (S : ha_St) (H : Heap) (locs : List Loc) (ls : Array Slot), (f_X2_weigh_L35_J68 p0 p1 p2 (f_X2_weigh_L35i p0 p1 p2 n) v3 v4 k0 k1 k2 k3 S).bind K = some out → xo_kd k0 = 100 → va_P D vwCl (ha_wl cs ad xo_kd xo_ln N S) H → va_D (ha_A ad N) (ha_wl cs ad xo_kd xo_ln N S) → va_S (ha_A ad N) s.heap H locs → lv_has ls 5 [(0, .ref (ad p0)), (1, .int p1), (2, .int p2), (3, .int v3), (4, .int v4)] → W p l e (headSpec wsX2_weigh ({ frames := 2, cells := 0, slots := 0, locals := 46 } : Room)).room s m ([.ref (ad p0), .int p1, .int p2] : List Value).toArray below meth c H locs 0 0 (MQ below (va_Qv (fun (_ : Unit) => True) (fun _ => ha_H D cs ad xo_kd xo_ln N out) (ha_A ad N)) ([.ref (ad p0), .int p1, .int p2] : List Value).toArray s 0 0 (ha_A ad N)) (F0 m 68 ls [.int k3, .int k2, .int k1, .ref (ad k0)]) := by
              intro v3 v4 k0 k1 k2 k3 S H locs ls hf hk0 hP hD hS hl
              unfold f_X2_weigh_L35_J68 at hf
              refine lv_imul hx hb dX2_weigh_68 ?_
              obtain ⟨g29, hf⟩ := ha_gds hf
              refine ha_iast hx hb hK hP hD hS hN hk0 g29 dX2_weigh_69 (fun S30 H locs eS30 hP hD hS => ?_)
              have hf := ha_nms hf eS30
              obtain ⟨x31, ex31⟩ : ∃ y : Int32, y = (v4 : Int32) + 1 := ⟨_, rfl⟩
              have hf := ha_nms hf ex31
              refine lv_iinc (v := x31) (lv' := [(4, .int x31), (0, .ref (ad p0)), (1, .int p1), (2, .int p2), (3, .int v3)]) hx hb dX2_weigh_70 hl (k := 4) rfl (by rw [ex31]; rfl) (by decide) rfl (fun ls hl => ?_)
              refine lv_goto (tgt := 35) hx hb dX2_weigh_73 (by decide) ?_
              exact ih v3 x31 S30 H locs ls hf  hP hD hS (lv_sub hl [1, 2, 3, 4, 0] rfl)
            have hf : (f_X2_weigh_L35 p0 p1 p2 (f_X2_weigh_L35i p0 p1 p2 n) v3 v4 S).bind K = some out := hf
            unfold f_X2_weigh_L35 at hf
            refine lv_iload hx hb dX2_weigh_35 (lv_at hl 4 rfl) ?_
            refine lv_aload_n hx hb dX2_weigh_37 rfl (lv_at hl 0 rfl) ?_
            refine ha_geti hx hb hown hK hP q46 hN h0 dX2_weigh_38 ?_
            refine lv_icmp_ge (tgt := 76) hx hb dX2_weigh_41 (by decide) (fun c32 => ?_) (fun c32 => ?_)
            · have hf := ha_it hf c32
              exact hk v3 S H locs ls hf  hP hD hS (lv_sub hl [0, 1, 2, 3] rfl)
            · have hf := ha_if hf c32
              refine lv_aload_n hx hb dX2_weigh_44 rfl (lv_at hl 0 rfl) ?_
              obtain ⟨r33, wr33, hf⟩ := ha_bds hf
              obtain ⟨wr33, hr33⟩ := ha_rf_some wr33
              refine ha_getr hx hb hown hK hP q26 hN h0 wr33 dX2_weigh_45 ?_
              refine lv_iload_n hx hb dX2_weigh_48 rfl (lv_at hl 3 rfl) ?_
              obtain ⟨g34, hf⟩ := ha_gds hf
              obtain ⟨r35, wr35, hf⟩ := ha_bds hf
              obtain ⟨wr35, hr35⟩ := ha_rb_some wr35
              refine ha_aalr hx hb hK hP hN hr33 g34 wr35 dX2_weigh_49 ?_
              refine lv_iload hx hb dX2_weigh_50 (lv_at hl 4 rfl) ?_
              refine lv_iload hx hb dX2_weigh_52 (lv_at hl 4 rfl) ?_
              refine lv_iload_n hx hb dX2_weigh_54 rfl (lv_at hl 3 rfl) ?_
              refine lv_isub hx hb dX2_weigh_55 ?_
              refine lv_iload hx hb dX2_weigh_56 (lv_at hl 4 rfl) ?_
              refine lv_iload_n hx hb dX2_weigh_58 rfl (lv_at hl 3 rfl) ?_
              refine lv_icmp_le (tgt := 67) hx hb dX2_weigh_59 (by decide) (fun c36 => ?_) (fun c36 => ?_)
              · have hf := ha_it hf c36
                refine lv_iconst (v := 1) hx hb dX2_weigh_67 (by decide) ?_
                exact J68 v3 v4 r35 v4 (((v4 : Int32) - v3)) 1 S H locs ls hf hr35 hP hD hS (lv_sub hl [0, 1, 2, 3, 4] rfl)
              · have hf := ha_if hf c36
                refine lv_bipush (v := 9) hx hb dX2_weigh_62 (by decide) ?_
                refine lv_goto (tgt := 68) hx hb dX2_weigh_64 (by decide) ?_
                exact J68 v3 v4 r35 v4 (((v4 : Int32) - v3)) 9 S H locs ls hf hr35 hP hD hS (lv_sub hl [0, 1, 2, 3, 4] rfl)
        refine key37 _ (fun v3 S H locs ls hf  hP hD hS hl => ?_) ha_fu v3 0 S H locs ls (ha_as hf)  hP hD hS (lv_sub hl [1, 2, 3, 4, 0] rfl)
        have hf : (f_X2_weigh_L24_J76 p0 p1 p2 (f_X2_weigh_L24i p0 p1 p2 n) v3 S).bind K = some out := hf
        exact J76 v3 S H locs ls hf  hP hD hS (lv_sub hl [0, 1, 2, 3] rfl)
  refine key39 _ (fun  S H locs ls hf  hP hD hS hl => ?_) ha_fu 0 S25 H locs ls (ha_as hf)  hP hD hS (lv_sub hl [1, 2, 3, 0] rfl)
  have hf : (f_X2_weigh_J82 p0 p1 p2  S).bind some = some out := hf
  exact J82  S H locs ls hf  hP hD hS (lv_sub hl [0, 1, 2] rfl)

set_option maxHeartbeats 4000000 in
set_option maxRecDepth 100000 in
theorem c_X2_fit {l : Launch} {D : va_G} {cs : Nat → ClassId} {ad adK adV : Nat → Nat} {N : List Nat} {Z : State → Prop} (hZ : ha_Zok (ha_A ad N) Z) (hN : ∀ x, xo_kd x < 999 → x ∈ N) (hX : ∀ U, Z U → xo_Z adK adV (ha_A ad N) U) {p0 : Nat} {p1 : Int32} {p2 : Int32} {S : ha_St} {out : Int32 × ha_St} (h0 : xo_kd p0 = 2) (hf : f_X2_fit p0 p1 p2 S = some out) : ha_Ci l D cs ad xo_kd xo_ln N Z yX2_fit wsX2_fit ({ frames := 3, cells := 0, slots := 0, locals := 70 } : Room) [.ref (ad p0), .int p1, .int p2] S out.1 out.2 := by
  refine Met.ofW (cc := cX2_fit) (maxL := 4) (ret := (some .boolean)) (by decide +kernel) rfl ?_
  intro p e s m args below meth c s₁ B hml hv
  obtain ⟨rfl, hP, hD, hK, hz⟩ := hv
  have hx := B.exec
  have hb := B.bytes
  have hr := B.returns
  have hts := atoms_spec (ws := wsX2_fit) B.pre
  have hown : s.vm.findClass RX2 = some m.cls := findClass_of_methodNamed B.named
  have hlocks := B.notSynchronized
  have hS : va_S (ha_A ad N) s.heap s.heap [] := va_S.rf
  have hi2 : ∀ w ∈ wsX20, w ∈ wsX2_fit := fun w h => List.mem_cons_of_mem _ (List.mem_append_right _ h)
  have q53 : ha_Fk s ([.ref (ad p0), .int p1, .int p2] : List Value).toArray RX2 53 2 7 0 := ⟨RX2, TX2, 9, wsX2_fit, rfl, by decide, by decide, rfl, rfl, hts, hi2, hts (.fieldLink RX2 53 "HillArms$Delays" "quarrel" "Z") (by decide +kernel)⟩
  have q29 : ha_Fk s ([.ref (ad p0), .int p1, .int p2] : List Value).toArray RX2 29 2 6 0 := ⟨RX2, TX2, 9, wsX2_fit, rfl, by decide, by decide, rfl, rfl, hts, hi2, hts (.fieldLink RX2 29 "HillArms$Delays" "weighed" "I") (by decide +kernel)⟩
  have q46 : ha_Fk s ([.ref (ad p0), .int p1, .int p2] : List Value).toArray RX2 46 2 5 0 := ⟨RX2, TX2, 9, wsX2_fit, rfl, by decide, by decide, rfl, rfl, hts, hi2, hts (.fieldLink RX2 46 "HillArms$Delays" "ends" "I") (by decide +kernel)⟩
  have cw0 := cwV (R := (headSpec wsX2_fit ({ frames := 3, cells := 0, slots := 0, locals := 70 } : Room)).room) 2 hts gX2_fit_X2_weigh (rm := ({ frames := 2, cells := 0, slots := 0, locals := 46 } : Room)) (mc := 0) (ms := 0) rfl rfl rfl (by decide +kernel) ⟨Nat.le_of_ble_eq_true rfl, Nat.le_of_ble_eq_true rfl⟩
  have cw1 := cwV (R := (headSpec wsX2_fit ({ frames := 3, cells := 0, slots := 0, locals := 70 } : Room)).room) 1 hts gX2_fit_X2_toldBy (rm := ({ frames := 0, cells := 0, slots := 0, locals := 0 } : Room)) (mc := 0) (ms := 0) rfl rfl rfl (by decide +kernel) ⟨Nat.le_of_ble_eq_true rfl, Nat.le_of_ble_eq_true rfl⟩
  have hl := lv_entry ([.ref (ad p0), .int p1, .int p2]) (n := 4) (Nat.le_of_ble_eq_true rfl)
  rw [lg_entry_eq]
  generalize (lg_sl ([.ref (ad p0), .int p1, .int p2]) ++ List.replicate (4 - (lg_sl ([.ref (ad p0), .int p1, .int p2])).length) Slot.unset).toArray = ls at hl ⊢
  have hl : lv_has ls 4 [(0, .ref (ad p0)), (1, .int p1), (2, .int p2)] := hl
  refine (fun (K0 : ∀ (H : Heap) (locs : List Loc), va_P D vwCl (ha_wl cs ad xo_kd xo_ln N S) H → va_S (ha_A ad N) s.heap H locs → W p l e (headSpec wsX2_fit ({ frames := 3, cells := 0, slots := 0, locals := 70 } : Room)).room s m ([.ref (ad p0), .int p1, .int p2] : List Value).toArray below meth c H locs 0 0 (MQ below (va_Qi (fun (r : Int32) (_ : Unit) => r = out.1) (fun _ => ha_H D cs ad xo_kd xo_ln N out.2) (ha_A ad N)) ([.ref (ad p0), .int p1, .int p2] : List Value).toArray s 0 0 (ha_A ad N)) (F0 m 0 ls [])) => K0 _ _ hP hS) ?_
  intro H locs hP hS
  have hf := ha_rt hf
  have J42 : ∀ (k0 : Int32) (S : ha_St) (H : Heap) (locs : List Loc) (ls : Array Slot), (f_X2_fit_J42 p0 p1 p2 k0 S).bind some = some out → va_P D vwCl (ha_wl cs ad xo_kd xo_ln N S) H → va_D (ha_A ad N) (ha_wl cs ad xo_kd xo_ln N S) → va_S (ha_A ad N) s.heap H locs → lv_has ls 4 [(0, .ref (ad p0)), (1, .int p1), (2, .int p2)] → W p l e (headSpec wsX2_fit ({ frames := 3, cells := 0, slots := 0, locals := 70 } : Room)).room s m ([.ref (ad p0), .int p1, .int p2] : List Value).toArray below meth c H locs 0 0 (MQ below (va_Qi (fun (r : Int32) (_ : Unit) => r = out.1) (fun _ => ha_H D cs ad xo_kd xo_ln N out.2) (ha_A ad N)) ([.ref (ad p0), .int p1, .int p2] : List Value).toArray s 0 0 (ha_A ad N)) (F0 m 42 ls [.int k0]) := by
    intro k0 S H locs ls hf  hP hD hS hl
    unfold f_X2_fit_J42 at hf
    obtain ⟨g1, hf⟩ := ha_gds hf
    have he := Option.some.inj hf
    exact ha_retz hx hb hr hlocks hP hD hS dX2_fit_42 g1 (ha_e1 he) (ha_e2 he)
  have J30 : ∀  (S : ha_St) (H : Heap) (locs : List Loc) (ls : Array Slot), (f_X2_fit_J30 p0 p1 p2  S).bind some = some out → va_P D vwCl (ha_wl cs ad xo_kd xo_ln N S) H → va_D (ha_A ad N) (ha_wl cs ad xo_kd xo_ln N S) → va_S (ha_A ad N) s.heap H locs → lv_has ls 4 [(0, .ref (ad p0)), (1, .int p1), (2, .int p2)] → W p l e (headSpec wsX2_fit ({ frames := 3, cells := 0, slots := 0, locals := 70 } : Room)).room s m ([.ref (ad p0), .int p1, .int p2] : List Value).toArray below meth c H locs 0 0 (MQ below (va_Qi (fun (r : Int32) (_ : Unit) => r = out.1) (fun _ => ha_H D cs ad xo_kd xo_ln N out.2) (ha_A ad N)) ([.ref (ad p0), .int p1, .int p2] : List Value).toArray s 0 0 (ha_A ad N)) (F0 m 30 ls []) := by
    intro  S H locs ls hf  hP hD hS hl
    unfold f_X2_fit_J30 at hf
    refine lv_aload_n hx hb dX2_fit_30 rfl (lv_at hl 0 rfl) ?_
    refine ha_geti hx hb hown hK hP q53 hN h0 dX2_fit_31 ?_
    refine lv_if_ne (tgt := 41) hx hb dX2_fit_34 (by decide) (fun c2 => ?_) (fun c2 => ?_)
    · have hf := ha_it hf c2
      refine lv_iconst (v := 0) hx hb dX2_fit_41 (by decide) ?_
      exact J42 0 S H locs ls hf  hP hD hS (lv_sub hl [0, 1, 2] rfl)
    · have hf := ha_if hf (fun q => q c2)
      refine lv_iconst (v := 1) hx hb dX2_fit_37 (by decide) ?_
      refine lv_goto (tgt := 42) hx hb dX2_fit_38 (by decide) ?_
      exact J42 1 S H locs ls hf  hP hD hS (lv_sub hl [0, 1, 2] rfl)
  have J24 : ∀ (v3 : Int32) (S : ha_St) (H : Heap) (locs : List Loc) (ls : Array Slot), (f_X2_fit_J24 p0 p1 p2 v3 S).bind some = some out → va_P D vwCl (ha_wl cs ad xo_kd xo_ln N S) H → va_D (ha_A ad N) (ha_wl cs ad xo_kd xo_ln N S) → va_S (ha_A ad N) s.heap H locs → lv_has ls 4 [(0, .ref (ad p0)), (1, .int p1), (2, .int p2), (3, .int v3)] → W p l e (headSpec wsX2_fit ({ frames := 3, cells := 0, slots := 0, locals := 70 } : Room)).room s m ([.ref (ad p0), .int p1, .int p2] : List Value).toArray below meth c H locs 0 0 (MQ below (va_Qi (fun (r : Int32) (_ : Unit) => r = out.1) (fun _ => ha_H D cs ad xo_kd xo_ln N out.2) (ha_A ad N)) ([.ref (ad p0), .int p1, .int p2] : List Value).toArray s 0 0 (ha_A ad N)) (F0 m 24 ls []) := by
    intro v3 S H locs ls hf  hP hD hS hl
    unfold f_X2_fit_J24 at hf
    refine lv_aload_n hx hb dX2_fit_24 rfl (lv_at hl 0 rfl) ?_
    refine lv_iload_n hx hb dX2_fit_25 rfl (lv_at hl 1 rfl) ?_
    refine lv_iload_n hx hb dX2_fit_26 rfl (lv_at hl 3 rfl) ?_
    obtain ⟨z3, wz3, hf⟩ := ha_bds hf
    refine ha_callVv (As := [.int p1, .int v3]) (rest := []) hZ ⟨hx, hb, hml, hown, hts⟩ hK hz hP hD hS (c_X2_weigh hZ hN hX h0 wz3) cw0 hN h0 (by decide) rfl rfl hl.1 rfl (Nat.le_of_ble_eq_true rfl) dX2_fit_27 ⟨Nat.le_of_ble_eq_true rfl, Nat.le_of_ble_eq_true rfl⟩ (fun H locs hP hD hS => ?_)
    exact J30  z3 H locs ls hf  hP hD hS (lv_sub hl [0, 1, 2] rfl)
  unfold f_X2_fit at hf
  refine lv_aload_n hx hb dX2_fit_0 rfl (lv_at hl 0 rfl) ?_
  refine lv_iload_n hx hb dX2_fit_1 rfl (lv_at hl 2 rfl) ?_
  obtain ⟨z4, wz4, hf⟩ := ha_bds hf
  refine ha_callVi (As := [.int p2]) (rest := []) hZ ⟨hx, hb, hml, hown, hts⟩ hK hz hP hD hS (c_X2_toldBy hZ hN hX h0 wz4) cw1 hN h0 (by decide) rfl rfl hl.1 rfl (Nat.le_of_ble_eq_true rfl) dX2_fit_2 ⟨Nat.le_of_ble_eq_true rfl, Nat.le_of_ble_eq_true rfl⟩ (fun H locs hP hD hS => ?_)
  refine lv_istore_n (lv' := [(3, .int z4.1), (0, .ref (ad p0)), (1, .int p1), (2, .int p2)]) hx hb dX2_fit_5 rfl hl (by decide) rfl (fun ls hl => ?_)
  refine lv_iload_n hx hb dX2_fit_6 rfl (lv_at hl 0 rfl) ?_
  refine lv_aload_n hx hb dX2_fit_7 rfl (lv_at hl 1 rfl) ?_
  refine ha_geti hx hb hown hK hP q29 hN h0 dX2_fit_8 ?_
  refine lv_icmp_ne (tgt := 24) hx hb dX2_fit_11 (by decide) (fun c5 => ?_) (fun c5 => ?_)
  · have hf := ha_it hf c5
    exact J24 z4.1 z4.2 H locs ls hf  hP hD hS (lv_sub hl [1, 2, 3, 0] rfl)
  · have hf := ha_if hf (fun q => q c5)
    refine lv_aload_n hx hb dX2_fit_14 rfl (lv_at hl 1 rfl) ?_
    refine ha_geti hx hb hown hK hP q46 hN h0 dX2_fit_15 ?_
    refine lv_iload_n hx hb dX2_fit_18 rfl (lv_at hl 2 rfl) ?_
    refine lv_iconst (v := 1) hx hb dX2_fit_19 (by decide) ?_
    refine lv_iadd hx hb dX2_fit_20 ?_
    refine lv_icmp_eq (tgt := 30) hx hb dX2_fit_21 (by decide) (fun c6 => ?_) (fun c6 => ?_)
    · have hf := ha_it hf c6
      exact J30  z4.2 H locs ls hf  hP hD hS (lv_sub hl [1, 2, 3] rfl)
    · have hf := ha_if hf c6
      exact J24 z4.1 z4.2 H locs ls hf  hP hD hS (lv_sub hl [1, 2, 3, 0] rfl)

set_option maxHeartbeats 4000000 in
set_option maxRecDepth 100000 in
theorem c_X2_least {l : Launch} {D : va_G} {cs : Nat → ClassId} {ad adK adV : Nat → Nat} {N : List Nat} {Z : State → Prop} (hZ : ha_Zok (ha_A ad N) Z) (hN : ∀ x, xo_kd x < 999 → x ∈ N) (hX : ∀ U, Z U → xo_Z adK adV (ha_A ad N) U) {p0 : Nat} {p1 : Int32} {S : ha_St} {out : Int32 × ha_St} (h0 : xo_kd p0 = 2) (hf : f_X2_least p0 p1 S = some out) : ha_Ci l D cs ad xo_kd xo_ln N Z yX2_least wsX2_least ({ frames := 0, cells := 0, slots := 0, locals := 0 } : Room) [.ref (ad p0), .int p1] S out.1 out.2 := by
  refine Met.ofW (cc := cX2_least) (maxL := 2) (ret := (some .int)) (by decide +kernel) rfl ?_
  intro p e s m args below meth c s₁ B hml hv
  obtain ⟨rfl, hP, hD, hK, hz⟩ := hv
  have hx := B.exec
  have hb := B.bytes
  have hr := B.returns
  have hts := atoms_spec (ws := wsX2_least) B.pre
  have hown : s.vm.findClass RX2 = some m.cls := findClass_of_methodNamed B.named
  have hlocks := B.notSynchronized
  have hS : va_S (ha_A ad N) s.heap s.heap [] := va_S.rf
  have hi2 : ∀ w ∈ wsX20, w ∈ wsX2_least := fun w h => List.mem_cons_of_mem _ (List.mem_append_right _ h)
  have q26 : ha_Fk s ([.ref (ad p0), .int p1] : List Value).toArray RX2 26 2 4 1 := ⟨RX2, TX2, 9, wsX2_least, rfl, by decide, by decide, rfl, rfl, hts, hi2, hts (.fieldLink RX2 26 "HillArms$Delays" "most" "[[I") (by decide +kernel)⟩
  have hl := lv_entry ([.ref (ad p0), .int p1]) (n := 2) (Nat.le_of_ble_eq_true rfl)
  rw [lg_entry_eq]
  generalize (lg_sl ([.ref (ad p0), .int p1]) ++ List.replicate (2 - (lg_sl ([.ref (ad p0), .int p1])).length) Slot.unset).toArray = ls at hl ⊢
  have hl : lv_has ls 2 [(0, .ref (ad p0)), (1, .int p1)] := hl
  refine (fun (K0 : ∀ (H : Heap) (locs : List Loc), va_P D vwCl (ha_wl cs ad xo_kd xo_ln N S) H → va_S (ha_A ad N) s.heap H locs → W p l e (headSpec wsX2_least ({ frames := 0, cells := 0, slots := 0, locals := 0 } : Room)).room s m ([.ref (ad p0), .int p1] : List Value).toArray below meth c H locs 0 0 (MQ below (va_Qi (fun (r : Int32) (_ : Unit) => r = out.1) (fun _ => ha_H D cs ad xo_kd xo_ln N out.2) (ha_A ad N)) ([.ref (ad p0), .int p1] : List Value).toArray s 0 0 (ha_A ad N)) (F0 m 0 ls [])) => K0 _ _ hP hS) ?_
  intro H locs hP hS
  have hf := ha_rt hf
  unfold f_X2_least at hf
  refine lv_aload_n hx hb dX2_least_0 rfl (lv_at hl 0 rfl) ?_
  obtain ⟨r1, wr1, hf⟩ := ha_bds hf
  obtain ⟨wr1, hr1⟩ := ha_rf_some wr1
  refine ha_getr hx hb hown hK hP q26 hN h0 wr1 dX2_least_1 ?_
  refine lv_iload_n hx hb dX2_least_4 rfl (lv_at hl 1 rfl) ?_
  refine lv_iconst (v := 1) hx hb dX2_least_5 (by decide) ?_
  refine lv_iadd hx hb dX2_least_6 ?_
  obtain ⟨g2, hf⟩ := ha_gds hf
  obtain ⟨r3, wr3, hf⟩ := ha_bds hf
  obtain ⟨wr3, hr3⟩ := ha_rb_some wr3
  refine ha_aalr hx hb hK hP hN hr1 g2 wr3 dX2_least_7 ?_
  refine lv_iload_n hx hb dX2_least_8 rfl (lv_at hl 1 rfl) ?_
  obtain ⟨g4, hf⟩ := ha_gds hf
  refine ha_iald hx hb hK hP hN hr3 g4 dX2_least_9 ?_
  refine lv_ineg hx hb dX2_least_10 ?_
  have he := Option.some.inj hf
  exact ha_reti hx hb hr hlocks hP hD hS dX2_least_11 (ha_e1 he) (ha_e2 he)

set_option maxHeartbeats 4000000 in
set_option maxRecDepth 100000 in
theorem c_X2_greatest {l : Launch} {D : va_G} {cs : Nat → ClassId} {ad adK adV : Nat → Nat} {N : List Nat} {Z : State → Prop} (hZ : ha_Zok (ha_A ad N) Z) (hN : ∀ x, xo_kd x < 999 → x ∈ N) (hX : ∀ U, Z U → xo_Z adK adV (ha_A ad N) U) {p0 : Nat} {p1 : Int32} {S : ha_St} {out : Int32 × ha_St} (h0 : xo_kd p0 = 2) (hf : f_X2_greatest p0 p1 S = some out) : ha_Ci l D cs ad xo_kd xo_ln N Z yX2_greatest wsX2_greatest ({ frames := 0, cells := 0, slots := 0, locals := 0 } : Room) [.ref (ad p0), .int p1] S out.1 out.2 := by
  refine Met.ofW (cc := cX2_greatest) (maxL := 2) (ret := (some .int)) (by decide +kernel) rfl ?_
  intro p e s m args below meth c s₁ B hml hv
  obtain ⟨rfl, hP, hD, hK, hz⟩ := hv
  have hx := B.exec
  have hb := B.bytes
  have hr := B.returns
  have hts := atoms_spec (ws := wsX2_greatest) B.pre
  have hown : s.vm.findClass RX2 = some m.cls := findClass_of_methodNamed B.named
  have hlocks := B.notSynchronized
  have hS : va_S (ha_A ad N) s.heap s.heap [] := va_S.rf
  have hi2 : ∀ w ∈ wsX20, w ∈ wsX2_greatest := fun w h => List.mem_cons_of_mem _ (List.mem_append_right _ h)
  have q26 : ha_Fk s ([.ref (ad p0), .int p1] : List Value).toArray RX2 26 2 4 1 := ⟨RX2, TX2, 9, wsX2_greatest, rfl, by decide, by decide, rfl, rfl, hts, hi2, hts (.fieldLink RX2 26 "HillArms$Delays" "most" "[[I") (by decide +kernel)⟩
  have hl := lv_entry ([.ref (ad p0), .int p1]) (n := 2) (Nat.le_of_ble_eq_true rfl)
  rw [lg_entry_eq]
  generalize (lg_sl ([.ref (ad p0), .int p1]) ++ List.replicate (2 - (lg_sl ([.ref (ad p0), .int p1])).length) Slot.unset).toArray = ls at hl ⊢
  have hl : lv_has ls 2 [(0, .ref (ad p0)), (1, .int p1)] := hl
  refine (fun (K0 : ∀ (H : Heap) (locs : List Loc), va_P D vwCl (ha_wl cs ad xo_kd xo_ln N S) H → va_S (ha_A ad N) s.heap H locs → W p l e (headSpec wsX2_greatest ({ frames := 0, cells := 0, slots := 0, locals := 0 } : Room)).room s m ([.ref (ad p0), .int p1] : List Value).toArray below meth c H locs 0 0 (MQ below (va_Qi (fun (r : Int32) (_ : Unit) => r = out.1) (fun _ => ha_H D cs ad xo_kd xo_ln N out.2) (ha_A ad N)) ([.ref (ad p0), .int p1] : List Value).toArray s 0 0 (ha_A ad N)) (F0 m 0 ls [])) => K0 _ _ hP hS) ?_
  intro H locs hP hS
  have hf := ha_rt hf
  unfold f_X2_greatest at hf
  refine lv_aload_n hx hb dX2_greatest_0 rfl (lv_at hl 0 rfl) ?_
  obtain ⟨r1, wr1, hf⟩ := ha_bds hf
  obtain ⟨wr1, hr1⟩ := ha_rf_some wr1
  refine ha_getr hx hb hown hK hP q26 hN h0 wr1 dX2_greatest_1 ?_
  refine lv_iload_n hx hb dX2_greatest_4 rfl (lv_at hl 1 rfl) ?_
  obtain ⟨g2, hf⟩ := ha_gds hf
  obtain ⟨r3, wr3, hf⟩ := ha_bds hf
  obtain ⟨wr3, hr3⟩ := ha_rb_some wr3
  refine ha_aalr hx hb hK hP hN hr1 g2 wr3 dX2_greatest_5 ?_
  refine lv_iload_n hx hb dX2_greatest_6 rfl (lv_at hl 1 rfl) ?_
  refine lv_iconst (v := 1) hx hb dX2_greatest_7 (by decide) ?_
  refine lv_iadd hx hb dX2_greatest_8 ?_
  obtain ⟨g4, hf⟩ := ha_gds hf
  refine ha_iald hx hb hK hP hN hr3 g4 dX2_greatest_9 ?_
  have he := Option.some.inj hf
  exact ha_reti hx hb hr hlocks hP hD hS dX2_greatest_10 (ha_e1 he) (ha_e2 he)

set_option maxHeartbeats 4000000 in
set_option maxRecDepth 100000 in
theorem c_X2_spread {l : Launch} {D : va_G} {cs : Nat → ClassId} {ad adK adV : Nat → Nat} {N : List Nat} {Z : State → Prop} (hZ : ha_Zok (ha_A ad N) Z) (hN : ∀ x, xo_kd x < 999 → x ∈ N) (hX : ∀ U, Z U → xo_Z adK adV (ha_A ad N) U) {p0 : Nat} {p1 : Int32} {S : ha_St} {out : Int32 × ha_St} (h0 : xo_kd p0 = 2) (hf : f_X2_spread p0 p1 S = some out) : ha_Ci l D cs ad xo_kd xo_ln N Z yX2_spread wsX2_spread ({ frames := 1, cells := 0, slots := 0, locals := 21 } : Room) [.ref (ad p0), .int p1] S out.1 out.2 := by
  refine Met.ofW (cc := cX2_spread) (maxL := 2) (ret := (some .int)) (by decide +kernel) rfl ?_
  intro p e s m args below meth c s₁ B hml hv
  obtain ⟨rfl, hP, hD, hK, hz⟩ := hv
  have hx := B.exec
  have hb := B.bytes
  have hr := B.returns
  have hts := atoms_spec (ws := wsX2_spread) B.pre
  have hown : s.vm.findClass RX2 = some m.cls := findClass_of_methodNamed B.named
  have hlocks := B.notSynchronized
  have hS : va_S (ha_A ad N) s.heap s.heap [] := va_S.rf
  have cw0 := cwV (R := (headSpec wsX2_spread ({ frames := 1, cells := 0, slots := 0, locals := 21 } : Room)).room) 1 hts gX2_spread_X2_greatest (rm := ({ frames := 0, cells := 0, slots := 0, locals := 0 } : Room)) (mc := 0) (ms := 0) rfl rfl rfl (by decide +kernel) ⟨Nat.le_of_ble_eq_true rfl, Nat.le_of_ble_eq_true rfl⟩
  have cw1 := cwV (R := (headSpec wsX2_spread ({ frames := 1, cells := 0, slots := 0, locals := 21 } : Room)).room) 1 hts gX2_spread_X2_least (rm := ({ frames := 0, cells := 0, slots := 0, locals := 0 } : Room)) (mc := 0) (ms := 0) rfl rfl rfl (by decide +kernel) ⟨Nat.le_of_ble_eq_true rfl, Nat.le_of_ble_eq_true rfl⟩
  have hl := lv_entry ([.ref (ad p0), .int p1]) (n := 2) (Nat.le_of_ble_eq_true rfl)
  rw [lg_entry_eq]
  generalize (lg_sl ([.ref (ad p0), .int p1]) ++ List.replicate (2 - (lg_sl ([.ref (ad p0), .int p1])).length) Slot.unset).toArray = ls at hl ⊢
  have hl : lv_has ls 2 [(0, .ref (ad p0)), (1, .int p1)] := hl
  refine (fun (K0 : ∀ (H : Heap) (locs : List Loc), va_P D vwCl (ha_wl cs ad xo_kd xo_ln N S) H → va_S (ha_A ad N) s.heap H locs → W p l e (headSpec wsX2_spread ({ frames := 1, cells := 0, slots := 0, locals := 21 } : Room)).room s m ([.ref (ad p0), .int p1] : List Value).toArray below meth c H locs 0 0 (MQ below (va_Qi (fun (r : Int32) (_ : Unit) => r = out.1) (fun _ => ha_H D cs ad xo_kd xo_ln N out.2) (ha_A ad N)) ([.ref (ad p0), .int p1] : List Value).toArray s 0 0 (ha_A ad N)) (F0 m 0 ls [])) => K0 _ _ hP hS) ?_
  intro H locs hP hS
  have hf := ha_rt hf
  unfold f_X2_spread at hf
  refine lv_aload_n hx hb dX2_spread_0 rfl (lv_at hl 0 rfl) ?_
  refine lv_iload_n hx hb dX2_spread_1 rfl (lv_at hl 1 rfl) ?_
  obtain ⟨z1, wz1, hf⟩ := ha_bds hf
  refine ha_callVi (As := [.int p1]) (rest := []) hZ ⟨hx, hb, hml, hown, hts⟩ hK hz hP hD hS (c_X2_greatest hZ hN hX h0 wz1) cw0 hN h0 (by decide) rfl rfl hl.1 rfl (Nat.le_of_ble_eq_true rfl) dX2_spread_2 ⟨Nat.le_of_ble_eq_true rfl, Nat.le_of_ble_eq_true rfl⟩ (fun H locs hP hD hS => ?_)
  refine lv_aload_n hx hb dX2_spread_5 rfl (lv_at hl 0 rfl) ?_
  refine lv_iload_n hx hb dX2_spread_6 rfl (lv_at hl 1 rfl) ?_
  obtain ⟨z2, wz2, hf⟩ := ha_bds hf
  refine ha_callVi (As := [.int p1]) (rest := [.int z1.1]) hZ ⟨hx, hb, hml, hown, hts⟩ hK hz hP hD hS (c_X2_least hZ hN hX h0 wz2) cw1 hN h0 (by decide) rfl rfl hl.1 rfl (Nat.le_of_ble_eq_true rfl) dX2_spread_7 ⟨Nat.le_of_ble_eq_true rfl, Nat.le_of_ble_eq_true rfl⟩ (fun H locs hP hD hS => ?_)
  refine lv_isub hx hb dX2_spread_10 ?_
  have he := Option.some.inj hf
  exact ha_reti hx hb hr hlocks hP hD hS dX2_spread_11 (ha_e1 he) (ha_e2 he)

set_option maxHeartbeats 4000000 in
set_option maxRecDepth 100000 in
theorem c_X4_take {l : Launch} {D : va_G} {cs : Nat → ClassId} {ad adK adV : Nat → Nat} {N : List Nat} {Z : State → Prop} (hZ : ha_Zok (ha_A ad N) Z) (hN : ∀ x, xo_kd x < 999 → x ∈ N) (hX : ∀ U, Z U → xo_Z adK adV (ha_A ad N) U) {p0 : Nat} {p1 : Nat} {p2 : Int32} {S : ha_St} {out : Int32 × ha_St} (h0 : xo_kd p0 = 4) (h1 : xo_kd p1 = 10) (hf : f_X4_take p0 p1 p2 S = some out) : ha_Ci l D cs ad xo_kd xo_ln N Z yX4_take wsX4_take ({ frames := 0, cells := 0, slots := 0, locals := 0 } : Room) [.ref (ad p0), .ref (ad p1), .int p2] S out.1 out.2 := by
  refine Met.ofW (cc := cX4_take) (maxL := 6) (ret := (some .boolean)) (by decide +kernel) rfl ?_
  intro p e s m args below meth c s₁ B hml hv
  obtain ⟨rfl, hP, hD, hK, hz⟩ := hv
  have hx := B.exec
  have hb := B.bytes
  have hr := B.returns
  have hts := atoms_spec (ws := wsX4_take) B.pre
  have hown : s.vm.findClass RX4 = some m.cls := findClass_of_methodNamed B.named
  have hlocks := B.notSynchronized
  have hS : va_S (ha_A ad N) s.heap s.heap [] := va_S.rf
  have hi4 : ∀ w ∈ wsX40, w ∈ wsX4_take := fun w h => List.mem_cons_of_mem _ (List.mem_append_right _ h)
  have hi10 : ∀ w ∈ wsX100, w ∈ wsX4_take := fun w h => List.mem_cons_of_mem _ (List.mem_append_left _ (List.mem_append_right _ h))
  have q15 : ha_Fk s ([.ref (ad p0), .ref (ad p1), .int p2] : List Value).toArray RX4 15 10 1 0 := ⟨RX10, TX10, 2, wsX4_take, rfl, by decide, by decide, rfl, rfl, hts, hi10, hts (.fieldLink RX4 15 "HillArms$Tape" "size" "I") (by decide +kernel)⟩
  have q24 : ha_Fk s ([.ref (ad p0), .ref (ad p1), .int p2] : List Value).toArray RX4 24 4 2 0 := ⟨RX4, TX4, 3, wsX4_take, rfl, by decide, by decide, rfl, rfl, hts, hi4, hts (.fieldLink RX4 24 "HillArms$HillDays" "days" "I") (by decide +kernel)⟩
  have q9 : ha_Fk s ([.ref (ad p0), .ref (ad p1), .int p2] : List Value).toArray RX4 9 4 0 1 := ⟨RX4, TX4, 3, wsX4_take, rfl, by decide, by decide, rfl, rfl, hts, hi4, hts (.fieldLink RX4 9 "HillArms$HillDays" "seen" "[I") (by decide +kernel)⟩
  have q27 : ha_Fk s ([.ref (ad p0), .ref (ad p1), .int p2] : List Value).toArray RX4 27 10 0 1 := ⟨RX10, TX10, 2, wsX4_take, rfl, by decide, by decide, rfl, rfl, hts, hi10, hts (.fieldLink RX4 27 "HillArms$Tape" "bytes" "[I") (by decide +kernel)⟩
  have r21 : ha_Fp s ([.ref (ad p0), .ref (ad p1), .int p2] : List Value).toArray RX4 21 4 1 0 .int := ⟨RX4, TX4, 3, wsX4_take, tyX4, rfl, by decide, by decide, rfl, rfl, hts, hi4, hts (.fieldLink RX4 21 "HillArms$HillDays" "count" "I") (by decide +kernel), tyX4_ok, nmX4, rfl, by decide +kernel⟩
  have r24 : ha_Fp s ([.ref (ad p0), .ref (ad p1), .int p2] : List Value).toArray RX4 24 4 2 0 .int := ⟨RX4, TX4, 3, wsX4_take, tyX4, rfl, by decide, by decide, rfl, rfl, hts, hi4, hts (.fieldLink RX4 24 "HillArms$HillDays" "days" "I") (by decide +kernel), tyX4_ok, nmX4, rfl, by decide +kernel⟩
  have hl := lv_entry ([.ref (ad p0), .ref (ad p1), .int p2]) (n := 6) (Nat.le_of_ble_eq_true rfl)
  rw [lg_entry_eq]
  generalize (lg_sl ([.ref (ad p0), .ref (ad p1), .int p2]) ++ List.replicate (6 - (lg_sl ([.ref (ad p0), .ref (ad p1), .int p2])).length) Slot.unset).toArray = ls at hl ⊢
  have hl : lv_has ls 6 [(0, .ref (ad p0)), (1, .ref (ad p1)), (2, .int p2)] := hl
  refine (fun (K0 : ∀ (H : Heap) (locs : List Loc), va_P D vwCl (ha_wl cs ad xo_kd xo_ln N S) H → va_S (ha_A ad N) s.heap H locs → W p l e (headSpec wsX4_take ({ frames := 0, cells := 0, slots := 0, locals := 0 } : Room)).room s m ([.ref (ad p0), .ref (ad p1), .int p2] : List Value).toArray below meth c H locs 0 0 (MQ below (va_Qi (fun (r : Int32) (_ : Unit) => r = out.1) (fun _ => ha_H D cs ad xo_kd xo_ln N out.2) (ha_A ad N)) ([.ref (ad p0), .ref (ad p1), .int p2] : List Value).toArray s 0 0 (ha_A ad N)) (F0 m 0 ls [])) => K0 _ _ hP hS) ?_
  intro H locs hP hS
  have hf := ha_rt hf
  have J113 : ∀  (S : ha_St) (H : Heap) (locs : List Loc) (ls : Array Slot), (f_X4_take_J113 p0 p1 p2  S).bind some = some out → va_P D vwCl (ha_wl cs ad xo_kd xo_ln N S) H → va_D (ha_A ad N) (ha_wl cs ad xo_kd xo_ln N S) → va_S (ha_A ad N) s.heap H locs → lv_has ls 6 [(0, .ref (ad p0)), (1, .ref (ad p1)), (2, .int p2)] → W p l e (headSpec wsX4_take ({ frames := 0, cells := 0, slots := 0, locals := 0 } : Room)).room s m ([.ref (ad p0), .ref (ad p1), .int p2] : List Value).toArray below meth c H locs 0 0 (MQ below (va_Qi (fun (r : Int32) (_ : Unit) => r = out.1) (fun _ => ha_H D cs ad xo_kd xo_ln N out.2) (ha_A ad N)) ([.ref (ad p0), .ref (ad p1), .int p2] : List Value).toArray s 0 0 (ha_A ad N)) (F0 m 113 ls []) := by
    intro  S H locs ls hf  hP hD hS hl
    unfold f_X4_take_J113 at hf
    refine lv_iconst (v := 1) hx hb dX4_take_113 (by decide) ?_
    have he := Option.some.inj hf
    exact ha_retz hx hb hr hlocks hP hD hS dX4_take_114 (by decide) (ha_e1 he) (ha_e2 he)
  have J49 : ∀  (S : ha_St) (H : Heap) (locs : List Loc) (ls : Array Slot), (f_X4_take_J49 p0 p1 p2  S).bind some = some out → va_P D vwCl (ha_wl cs ad xo_kd xo_ln N S) H → va_D (ha_A ad N) (ha_wl cs ad xo_kd xo_ln N S) → va_S (ha_A ad N) s.heap H locs → lv_has ls 6 [(0, .ref (ad p0)), (1, .ref (ad p1)), (2, .int p2)] → W p l e (headSpec wsX4_take ({ frames := 0, cells := 0, slots := 0, locals := 0 } : Room)).room s m ([.ref (ad p0), .ref (ad p1), .int p2] : List Value).toArray below meth c H locs 0 0 (MQ below (va_Qi (fun (r : Int32) (_ : Unit) => r = out.1) (fun _ => ha_H D cs ad xo_kd xo_ln N out.2) (ha_A ad N)) ([.ref (ad p0), .ref (ad p1), .int p2] : List Value).toArray s 0 0 (ha_A ad N)) (F0 m 49 ls []) := by
    intro  S H locs ls hf  hP hD hS hl
    unfold f_X4_take_J49 at hf
    refine lv_iconst (v := 0) hx hb dX4_take_49 (by decide) ?_
    have he := Option.some.inj hf
    exact ha_retz hx hb hr hlocks hP hD hS dX4_take_50 (by decide) (ha_e1 he) (ha_e2 he)
  have J11 : ∀  (S : ha_St) (H : Heap) (locs : List Loc) (ls : Array Slot), (f_X4_take_J11 p0 p1 p2  S).bind some = some out → va_P D vwCl (ha_wl cs ad xo_kd xo_ln N S) H → va_D (ha_A ad N) (ha_wl cs ad xo_kd xo_ln N S) → va_S (ha_A ad N) s.heap H locs → lv_has ls 6 [(0, .ref (ad p0)), (1, .ref (ad p1)), (2, .int p2)] → W p l e (headSpec wsX4_take ({ frames := 0, cells := 0, slots := 0, locals := 0 } : Room)).room s m ([.ref (ad p0), .ref (ad p1), .int p2] : List Value).toArray below meth c H locs 0 0 (MQ below (va_Qi (fun (r : Int32) (_ : Unit) => r = out.1) (fun _ => ha_H D cs ad xo_kd xo_ln N out.2) (ha_A ad N)) ([.ref (ad p0), .ref (ad p1), .int p2] : List Value).toArray s 0 0 (ha_A ad N)) (F0 m 11 ls []) := by
    intro  S H locs ls hf  hP hD hS hl
    unfold f_X4_take_J11 at hf
    refine lv_iconst (v := 0) hx hb dX4_take_11 (by decide) ?_
    have he := Option.some.inj hf
    exact ha_retz hx hb hr hlocks hP hD hS dX4_take_12 (by decide) (ha_e1 he) (ha_e2 he)
  unfold f_X4_take at hf
  refine lv_iload_n hx hb dX4_take_0 rfl (lv_at hl 2 rfl) ?_
  refine lv_iconst (v := 3) hx hb dX4_take_1 (by decide) ?_
  refine lv_icmp_lt (tgt := 11) hx hb dX4_take_2 (by decide) (fun c1 => ?_) (fun c1 => ?_)
  · have hf := ha_it hf c1
    exact J11  S H locs ls hf  hP hD hS (lv_sub hl [0, 1, 2] rfl)
  · have hf := ha_if hf c1
    refine lv_iload_n hx hb dX4_take_5 rfl (lv_at hl 2 rfl) ?_
    refine lv_bipush (v := 14) hx hb dX4_take_6 (by decide) ?_
    refine lv_icmp_le (tgt := 13) hx hb dX4_take_8 (by decide) (fun c2 => ?_) (fun c2 => ?_)
    · have hf := ha_it hf c2
      refine lv_iconst (v := 2) hx hb dX4_take_13 (by decide) ?_
      refine lv_iload_n hx hb dX4_take_14 rfl (lv_at hl 2 rfl) ?_
      refine lv_imul hx hb dX4_take_15 ?_
      refine lv_topi (fun x3 ex3 => ?_)
      have hf := ha_nms hf ex3
      refine lv_istore_n (lv' := [(3, .int x3), (0, .ref (ad p0)), (1, .ref (ad p1)), (2, .int p2)]) hx hb dX4_take_16 rfl hl (by decide) rfl (fun ls hl => ?_)
      refine lv_aload_n hx hb dX4_take_17 rfl (lv_at hl 2 rfl) ?_
      refine ha_geti hx hb hown hK hP q15 hN h1 dX4_take_18 ?_
      refine lv_iload_n hx hb dX4_take_21 rfl (lv_at hl 0 rfl) ?_
      obtain ⟨g4, hf⟩ := ha_gds hf
      refine lv_idiv hx hb dX4_take_22 g4 ?_
      refine lv_topi (fun x5 ex5 => ?_)
      have hf := ha_nms hf ex5
      refine lv_istore (lv' := [(4, .int x5), (3, .int x3), (0, .ref (ad p0)), (1, .ref (ad p1)), (2, .int p2)]) hx hb dX4_take_23 hl (by decide) rfl (fun ls hl => ?_)
      refine lv_iload hx hb dX4_take_25 (lv_at hl 0 rfl) ?_
      refine lv_iconst (v := 1) hx hb dX4_take_27 (by decide) ?_
      refine lv_icmp_lt (tgt := 49) hx hb dX4_take_28 (by decide) (fun c6 => ?_) (fun c6 => ?_)
      · have hf := ha_it hf c6
        exact J49  S H locs ls hf  hP hD hS (lv_sub hl [2, 3, 4] rfl)
      · have hf := ha_if hf c6
        refine lv_iload hx hb dX4_take_31 (lv_at hl 0 rfl) ?_
        refine lv_bipush (v := 8) hx hb dX4_take_33 (by decide) ?_
        refine lv_icmp_gt (tgt := 49) hx hb dX4_take_35 (by decide) (fun c7 => ?_) (fun c7 => ?_)
        · have hf := ha_it hf c7
          exact J49  S H locs ls hf  hP hD hS (lv_sub hl [2, 3, 4] rfl)
        · have hf := ha_if hf c7
          refine lv_iload hx hb dX4_take_38 (lv_at hl 0 rfl) ?_
          refine lv_iload_n hx hb dX4_take_40 rfl (lv_at hl 1 rfl) ?_
          refine lv_imul hx hb dX4_take_41 ?_
          refine lv_aload_n hx hb dX4_take_42 rfl (lv_at hl 3 rfl) ?_
          refine ha_geti hx hb hown hK hP q15 hN h1 dX4_take_43 ?_
          refine lv_icmp_eq (tgt := 51) hx hb dX4_take_46 (by decide) (fun c8 => ?_) (fun c8 => ?_)
          · have hf := ha_it hf c8
            refine lv_aload_n hx hb dX4_take_51 rfl (lv_at hl 2 rfl) ?_
            refine lv_iload_n hx hb dX4_take_52 rfl (lv_at hl 4 rfl) ?_
            refine ha_puti hx hb hown hK hP hD hS r21 hN h0 dX4_take_53 (fun S9 H locs eS9 hP hD hS => ?_)
            have hf := ha_nms hf eS9
            refine lv_aload_n hx hb dX4_take_56 rfl (lv_at hl 2 rfl) ?_
            refine lv_iload hx hb dX4_take_57 (lv_at hl 0 rfl) ?_
            refine ha_puti hx hb hown hK hP hD hS r24 hN h0 dX4_take_59 (fun S10 H locs eS10 hP hD hS => ?_)
            have hf := ha_nms hf eS10
            refine lv_iconst (v := 0) hx hb dX4_take_62 (by decide) ?_
            refine lv_istore (lv' := [(5, .int 0), (4, .int x5), (3, .int x3), (0, .ref (ad p0)), (1, .ref (ad p1)), (2, .int p2)]) hx hb dX4_take_63 hl (by decide) rfl (fun ls hl => ?_)
            have key20 : ∀ (K : (ha_St) → Option (Int32 × ha_St)), (∀  (S : ha_St) (H : Heap) (locs : List Loc) (ls : Array Slot), K S = some out → va_P D vwCl (ha_wl cs ad xo_kd xo_ln N S) H → va_D (ha_A ad N) (ha_wl cs ad xo_kd xo_ln N S) → va_S (ha_A ad N) s.heap H locs → lv_has ls 6 [(0, .ref (ad p0)), (1, .ref (ad p1)), (2, .int p2)] → W p l e (headSpec wsX4_take ({ frames := 0, cells := 0, slots := 0, locals := 0 } : Room)).room s m ([.ref (ad p0), .ref (ad p1), .int p2] : List Value).toArray below meth c H locs 0 0 (MQ below (va_Qi (fun (r : Int32) (_ : Unit) => r = out.1) (fun _ => ha_H D cs ad xo_kd xo_ln N out.2) (ha_A ad N)) ([.ref (ad p0), .ref (ad p1), .int p2] : List Value).toArray s 0 0 (ha_A ad N)) (F0 m 113 ls [])) → ∀ (n : Nat) (v5 : Int32) (S : ha_St) (H : Heap) (locs : List Loc) (ls : Array Slot), (f_X4_take_L65i p0 p1 p2 n (v5, S)).bind K = some out → va_P D vwCl (ha_wl cs ad xo_kd xo_ln N S) H → va_D (ha_A ad N) (ha_wl cs ad xo_kd xo_ln N S) → va_S (ha_A ad N) s.heap H locs → lv_has ls 6 [(0, .ref (ad p0)), (1, .ref (ad p1)), (2, .int p2), (5, .int v5)] → W p l e (headSpec wsX4_take ({ frames := 0, cells := 0, slots := 0, locals := 0 } : Room)).room s m ([.ref (ad p0), .ref (ad p1), .int p2] : List Value).toArray below meth c H locs 0 0 (MQ below (va_Qi (fun (r : Int32) (_ : Unit) => r = out.1) (fun _ => ha_H D cs ad xo_kd xo_ln N out.2) (ha_A ad N)) ([.ref (ad p0), .ref (ad p1), .int p2] : List Value).toArray s 0 0 (ha_A ad N)) (F0 m 65 ls []) := by
              intro K hk n
              induction n with
              | zero =>
                intro v5 S H locs ls hf
                exact absurd (show (none : Option (Int32 × ha_St)) = some out from hf) (fun h => by cases h)
              | succ n ih =>
                intro v5 S H locs ls hf  hP hD hS hl
                have hf : (f_X4_take_L65 p0 p1 p2 (f_X4_take_L65i p0 p1 p2 n) v5 S).bind K = some out := hf
                unfold f_X4_take_L65 at hf
                refine lv_iload hx hb dX4_take_65 (lv_at hl 3 rfl) ?_
                refine lv_aload_n hx hb dX4_take_67 rfl (lv_at hl 0 rfl) ?_
                refine ha_geti hx hb hown hK hP q24 hN h0 dX4_take_68 ?_
                refine lv_iload_n hx hb dX4_take_71 rfl (lv_at hl 2 rfl) ?_
                refine lv_imul hx hb dX4_take_72 ?_
                refine lv_icmp_ge (tgt := 113) hx hb dX4_take_73 (by decide) (fun c11 => ?_) (fun c11 => ?_)
                · have hf := ha_it hf c11
                  exact hk  S H locs ls hf  hP hD hS (lv_sub hl [0, 1, 2] rfl)
                · have hf := ha_if hf c11
                  refine lv_aload_n hx hb dX4_take_76 rfl (lv_at hl 0 rfl) ?_
                  obtain ⟨r12, wr12, hf⟩ := ha_bds hf
                  obtain ⟨wr12, hr12⟩ := ha_rf_some wr12
                  refine ha_getr hx hb hown hK hP q9 hN h0 wr12 dX4_take_77 ?_
                  refine lv_iload hx hb dX4_take_80 (lv_at hl 3 rfl) ?_
                  refine lv_aload_n hx hb dX4_take_82 rfl (lv_at hl 1 rfl) ?_
                  obtain ⟨r13, wr13, hf⟩ := ha_bds hf
                  obtain ⟨wr13, hr13⟩ := ha_rf_some wr13
                  refine ha_getr hx hb hown hK hP q27 hN h1 wr13 dX4_take_83 ?_
                  refine lv_iconst (v := 2) hx hb dX4_take_86 (by decide) ?_
                  refine lv_iload hx hb dX4_take_87 (lv_at hl 3 rfl) ?_
                  refine lv_imul hx hb dX4_take_89 ?_
                  obtain ⟨g14, hf⟩ := ha_gds hf
                  refine ha_iald hx hb hK hP hN hr13 g14 dX4_take_90 ?_
                  refine lv_bipush (v := 8) hx hb dX4_take_91 (by decide) ?_
                  refine lv_ishl hx hb dX4_take_93 ?_
                  refine lv_aload_n hx hb dX4_take_94 rfl (lv_at hl 1 rfl) ?_
                  obtain ⟨r15, wr15, hf⟩ := ha_bds hf
                  obtain ⟨wr15, hr15⟩ := ha_rf_some wr15
                  refine ha_getr hx hb hown hK hP q27 hN h1 wr15 dX4_take_95 ?_
                  refine lv_iconst (v := 2) hx hb dX4_take_98 (by decide) ?_
                  refine lv_iload hx hb dX4_take_99 (lv_at hl 3 rfl) ?_
                  refine lv_imul hx hb dX4_take_101 ?_
                  refine lv_iconst (v := 1) hx hb dX4_take_102 (by decide) ?_
                  refine lv_iadd hx hb dX4_take_103 ?_
                  obtain ⟨g16, hf⟩ := ha_gds hf
                  refine ha_iald hx hb hK hP hN hr15 g16 dX4_take_104 ?_
                  refine lv_ior hx hb dX4_take_105 ?_
                  obtain ⟨g17, hf⟩ := ha_gds hf
                  refine ha_iast hx hb hK hP hD hS hN hr12 g17 dX4_take_106 (fun S18 H locs eS18 hP hD hS => ?_)
                  have hf := ha_nms hf eS18
                  obtain ⟨x19, ex19⟩ : ∃ y : Int32, y = (v5 : Int32) + 1 := ⟨_, rfl⟩
                  have hf := ha_nms hf ex19
                  refine lv_iinc (v := x19) (lv' := [(5, .int x19), (0, .ref (ad p0)), (1, .ref (ad p1)), (2, .int p2)]) hx hb dX4_take_107 hl (k := 3) rfl (by rw [ex19]; rfl) (by decide) rfl (fun ls hl => ?_)
                  refine lv_goto (tgt := 65) hx hb dX4_take_110 (by decide) ?_
                  exact ih x19 S18 H locs ls hf  hP hD hS (lv_sub hl [1, 2, 3, 0] rfl)
            refine key20 _ (fun  S H locs ls hf  hP hD hS hl => ?_) ha_fu 0 S10 H locs ls (ha_as hf)  hP hD hS (lv_sub hl [3, 4, 5, 0] rfl)
            have hf : (f_X4_take_J113 p0 p1 p2  S).bind some = some out := hf
            exact J113  S H locs ls hf  hP hD hS (lv_sub hl [0, 1, 2] rfl)
          · have hf := ha_if hf c8
            exact J49  S H locs ls hf  hP hD hS (lv_sub hl [2, 3, 4] rfl)
    · have hf := ha_if hf c2
      exact J11  S H locs ls hf  hP hD hS (lv_sub hl [0, 1, 2] rfl)

set_option maxHeartbeats 4000000 in
set_option maxRecDepth 100000 in
theorem c_X4_comesThrough {l : Launch} {D : va_G} {cs : Nat → ClassId} {ad adK adV : Nat → Nat} {N : List Nat} {Z : State → Prop} (hZ : ha_Zok (ha_A ad N) Z) (hN : ∀ x, xo_kd x < 999 → x ∈ N) (hX : ∀ U, Z U → xo_Z adK adV (ha_A ad N) U) {p0 : Nat} {p1 : Int32} {p2 : Int32} {S : ha_St} {out : Int32 × ha_St} (h0 : xo_kd p0 = 4) (hf : f_X4_comesThrough p0 p1 p2 S = some out) : ha_Ci l D cs ad xo_kd xo_ln N Z yX4_comesThrough wsX4_comesThrough ({ frames := 0, cells := 0, slots := 0, locals := 0 } : Room) [.ref (ad p0), .int p1, .int p2] S out.1 out.2 := by
  refine Met.ofW (cc := cX4_comesThrough) (maxL := 5) (ret := (some .boolean)) (by decide +kernel) rfl ?_
  intro p e s m args below meth c s₁ B hml hv
  obtain ⟨rfl, hP, hD, hK, hz⟩ := hv
  have hx := B.exec
  have hb := B.bytes
  have hr := B.returns
  have hts := atoms_spec (ws := wsX4_comesThrough) B.pre
  have hown : s.vm.findClass RX4 = some m.cls := findClass_of_methodNamed B.named
  have hlocks := B.notSynchronized
  have hS : va_S (ha_A ad N) s.heap s.heap [] := va_S.rf
  have hi4 : ∀ w ∈ wsX40, w ∈ wsX4_comesThrough := fun w h => List.mem_cons_of_mem _ (List.mem_append_right _ h)
  have q21 : ha_Fk s ([.ref (ad p0), .int p1, .int p2] : List Value).toArray RX4 21 4 1 0 := ⟨RX4, TX4, 3, wsX4_comesThrough, rfl, by decide, by decide, rfl, rfl, hts, hi4, hts (.fieldLink RX4 21 "HillArms$HillDays" "count" "I") (by decide +kernel)⟩
  have q9 : ha_Fk s ([.ref (ad p0), .int p1, .int p2] : List Value).toArray RX4 9 4 0 1 := ⟨RX4, TX4, 3, wsX4_comesThrough, rfl, by decide, by decide, rfl, rfl, hts, hi4, hts (.fieldLink RX4 9 "HillArms$HillDays" "seen" "[I") (by decide +kernel)⟩
  have hl := lv_entry ([.ref (ad p0), .int p1, .int p2]) (n := 5) (Nat.le_of_ble_eq_true rfl)
  rw [lg_entry_eq]
  generalize (lg_sl ([.ref (ad p0), .int p1, .int p2]) ++ List.replicate (5 - (lg_sl ([.ref (ad p0), .int p1, .int p2])).length) Slot.unset).toArray = ls at hl ⊢
  have hl : lv_has ls 5 [(0, .ref (ad p0)), (1, .int p1), (2, .int p2)] := hl
  refine (fun (K0 : ∀ (H : Heap) (locs : List Loc), va_P D vwCl (ha_wl cs ad xo_kd xo_ln N S) H → va_S (ha_A ad N) s.heap H locs → W p l e (headSpec wsX4_comesThrough ({ frames := 0, cells := 0, slots := 0, locals := 0 } : Room)).room s m ([.ref (ad p0), .int p1, .int p2] : List Value).toArray below meth c H locs 0 0 (MQ below (va_Qi (fun (r : Int32) (_ : Unit) => r = out.1) (fun _ => ha_H D cs ad xo_kd xo_ln N out.2) (ha_A ad N)) ([.ref (ad p0), .int p1, .int p2] : List Value).toArray s 0 0 (ha_A ad N)) (F0 m 0 ls [])) => K0 _ _ hP hS) ?_
  intro H locs hP hS
  have hf := ha_rt hf
  have J68 : ∀ (k0 : Int32) (S : ha_St) (H : Heap) (locs : List Loc) (ls : Array Slot), (f_X4_comesThrough_J68 p0 p1 p2 k0 S).bind some = some out → va_P D vwCl (ha_wl cs ad xo_kd xo_ln N S) H → va_D (ha_A ad N) (ha_wl cs ad xo_kd xo_ln N S) → va_S (ha_A ad N) s.heap H locs → lv_has ls 5 [(0, .ref (ad p0)), (1, .int p1), (2, .int p2)] → W p l e (headSpec wsX4_comesThrough ({ frames := 0, cells := 0, slots := 0, locals := 0 } : Room)).room s m ([.ref (ad p0), .int p1, .int p2] : List Value).toArray below meth c H locs 0 0 (MQ below (va_Qi (fun (r : Int32) (_ : Unit) => r = out.1) (fun _ => ha_H D cs ad xo_kd xo_ln N out.2) (ha_A ad N)) ([.ref (ad p0), .int p1, .int p2] : List Value).toArray s 0 0 (ha_A ad N)) (F0 m 68 ls [.int k0]) := by
    intro k0 S H locs ls hf  hP hD hS hl
    unfold f_X4_comesThrough_J68 at hf
    obtain ⟨g1, hf⟩ := ha_gds hf
    have he := Option.some.inj hf
    exact ha_retz hx hb hr hlocks hP hD hS dX4_comesThrough_68 g1 (ha_e1 he) (ha_e2 he)
  have J50 : ∀ (v3 : Int32) (S : ha_St) (H : Heap) (locs : List Loc) (ls : Array Slot), (f_X4_comesThrough_J50 p0 p1 p2 v3 S).bind some = some out → va_P D vwCl (ha_wl cs ad xo_kd xo_ln N S) H → va_D (ha_A ad N) (ha_wl cs ad xo_kd xo_ln N S) → va_S (ha_A ad N) s.heap H locs → lv_has ls 5 [(0, .ref (ad p0)), (1, .int p1), (2, .int p2), (3, .int v3)] → W p l e (headSpec wsX4_comesThrough ({ frames := 0, cells := 0, slots := 0, locals := 0 } : Room)).room s m ([.ref (ad p0), .int p1, .int p2] : List Value).toArray below meth c H locs 0 0 (MQ below (va_Qi (fun (r : Int32) (_ : Unit) => r = out.1) (fun _ => ha_H D cs ad xo_kd xo_ln N out.2) (ha_A ad N)) ([.ref (ad p0), .int p1, .int p2] : List Value).toArray s 0 0 (ha_A ad N)) (F0 m 50 ls []) := by
    intro v3 S H locs ls hf  hP hD hS hl
    unfold f_X4_comesThrough_J50 at hf
    refine lv_iload_n hx hb dX4_comesThrough_50 rfl (lv_at hl 3 rfl) ?_
    refine lv_aload_n hx hb dX4_comesThrough_51 rfl (lv_at hl 0 rfl) ?_
    refine ha_geti hx hb hown hK hP q21 hN h0 dX4_comesThrough_52 ?_
    refine lv_iconst (v := 1) hx hb dX4_comesThrough_55 (by decide) ?_
    refine lv_isub hx hb dX4_comesThrough_56 ?_
    refine lv_ishr hx hb dX4_comesThrough_57 ?_
    refine lv_iconst (v := 1) hx hb dX4_comesThrough_58 (by decide) ?_
    refine lv_iand hx hb dX4_comesThrough_59 ?_
    refine lv_if_eq (tgt := 67) hx hb dX4_comesThrough_60 (by decide) (fun c2 => ?_) (fun c2 => ?_)
    · have hf := ha_it hf c2
      refine lv_iconst (v := 0) hx hb dX4_comesThrough_67 (by decide) ?_
      exact J68 0 S H locs ls hf  hP hD hS (lv_sub hl [0, 1, 2] rfl)
    · have hf := ha_if hf c2
      refine lv_iconst (v := 1) hx hb dX4_comesThrough_63 (by decide) ?_
      refine lv_goto (tgt := 68) hx hb dX4_comesThrough_64 (by decide) ?_
      exact J68 1 S H locs ls hf  hP hD hS (lv_sub hl [0, 1, 2] rfl)
  unfold f_X4_comesThrough at hf
  refine lv_iconst (v := 1) hx hb dX4_comesThrough_0 (by decide) ?_
  refine lv_istore_n (lv' := [(3, .int 1), (0, .ref (ad p0)), (1, .int p1), (2, .int p2)]) hx hb dX4_comesThrough_1 rfl hl (by decide) rfl (fun ls hl => ?_)
  refine lv_iconst (v := 0) hx hb dX4_comesThrough_2 (by decide) ?_
  refine lv_istore (lv' := [(4, .int 0), (3, .int 1), (0, .ref (ad p0)), (1, .int p1), (2, .int p2)]) hx hb dX4_comesThrough_3 hl (by decide) rfl (fun ls hl => ?_)
  have key9 : ∀ (K : (Int32 × ha_St) → Option (Int32 × ha_St)), (∀ (v3 : Int32) (S : ha_St) (H : Heap) (locs : List Loc) (ls : Array Slot), K (v3, S) = some out → va_P D vwCl (ha_wl cs ad xo_kd xo_ln N S) H → va_D (ha_A ad N) (ha_wl cs ad xo_kd xo_ln N S) → va_S (ha_A ad N) s.heap H locs → lv_has ls 5 [(0, .ref (ad p0)), (1, .int p1), (2, .int p2), (3, .int v3)] → W p l e (headSpec wsX4_comesThrough ({ frames := 0, cells := 0, slots := 0, locals := 0 } : Room)).room s m ([.ref (ad p0), .int p1, .int p2] : List Value).toArray below meth c H locs 0 0 (MQ below (va_Qi (fun (r : Int32) (_ : Unit) => r = out.1) (fun _ => ha_H D cs ad xo_kd xo_ln N out.2) (ha_A ad N)) ([.ref (ad p0), .int p1, .int p2] : List Value).toArray s 0 0 (ha_A ad N)) (F0 m 50 ls [])) → ∀ (n : Nat) (v3 : Int32) (v4 : Int32) (S : ha_St) (H : Heap) (locs : List Loc) (ls : Array Slot), (f_X4_comesThrough_L5i p0 p1 p2 n (v3, v4, S)).bind K = some out → va_P D vwCl (ha_wl cs ad xo_kd xo_ln N S) H → va_D (ha_A ad N) (ha_wl cs ad xo_kd xo_ln N S) → va_S (ha_A ad N) s.heap H locs → lv_has ls 5 [(0, .ref (ad p0)), (1, .int p1), (2, .int p2), (3, .int v3), (4, .int v4)] → W p l e (headSpec wsX4_comesThrough ({ frames := 0, cells := 0, slots := 0, locals := 0 } : Room)).room s m ([.ref (ad p0), .int p1, .int p2] : List Value).toArray below meth c H locs 0 0 (MQ below (va_Qi (fun (r : Int32) (_ : Unit) => r = out.1) (fun _ => ha_H D cs ad xo_kd xo_ln N out.2) (ha_A ad N)) ([.ref (ad p0), .int p1, .int p2] : List Value).toArray s 0 0 (ha_A ad N)) (F0 m 5 ls []) := by
    intro K hk n
    induction n with
    | zero =>
      intro v3 v4 S H locs ls hf
      exact absurd (show (none : Option (Int32 × ha_St)) = some out from hf) (fun h => by cases h)
    | succ n ih =>
      intro v3 v4 S H locs ls hf  hP hD hS hl
      have J44 : ∀ (v3 : Int32) (v4 : Int32) (S : ha_St) (H : Heap) (locs : List Loc) (ls : Array Slot), (f_X4_comesThrough_L5_J44 p0 p1 p2 (f_X4_comesThrough_L5i p0 p1 p2 n) v3 v4 S).bind K = some out → va_P D vwCl (ha_wl cs ad xo_kd xo_ln N S) H → va_D (ha_A ad N) (ha_wl cs ad xo_kd xo_ln N S) → va_S (ha_A ad N) s.heap H locs → lv_has ls 5 [(0, .ref (ad p0)), (1, .int p1), (2, .int p2), (3, .int v3), (4, .int v4)] → W p l e (headSpec wsX4_comesThrough ({ frames := 0, cells := 0, slots := 0, locals := 0 } : Room)).room s m ([.ref (ad p0), .int p1, .int p2] : List Value).toArray below meth c H locs 0 0 (MQ below (va_Qi (fun (r : Int32) (_ : Unit) => r = out.1) (fun _ => ha_H D cs ad xo_kd xo_ln N out.2) (ha_A ad N)) ([.ref (ad p0), .int p1, .int p2] : List Value).toArray s 0 0 (ha_A ad N)) (F0 m 44 ls []) := by
        intro v3 v4 S H locs ls hf  hP hD hS hl
        unfold f_X4_comesThrough_L5_J44 at hf
        obtain ⟨x3, ex3⟩ : ∃ y : Int32, y = (v4 : Int32) + 1 := ⟨_, rfl⟩
        have hf := ha_nms hf ex3
        refine lv_iinc (v := x3) (lv' := [(4, .int x3), (0, .ref (ad p0)), (1, .int p1), (2, .int p2), (3, .int v3)]) hx hb dX4_comesThrough_44 hl (k := 4) rfl (by rw [ex3]; rfl) (by decide) rfl (fun ls hl => ?_)
        refine lv_goto (tgt := 5) hx hb dX4_comesThrough_47 (by decide) ?_
        exact ih v3 x3 S H locs ls hf  hP hD hS (lv_sub hl [1, 2, 3, 4, 0] rfl)
      have hf : (f_X4_comesThrough_L5 p0 p1 p2 (f_X4_comesThrough_L5i p0 p1 p2 n) v3 v4 S).bind K = some out := hf
      unfold f_X4_comesThrough_L5 at hf
      refine lv_iload hx hb dX4_comesThrough_5 (lv_at hl 4 rfl) ?_
      refine lv_aload_n hx hb dX4_comesThrough_7 rfl (lv_at hl 0 rfl) ?_
      refine ha_geti hx hb hown hK hP q21 hN h0 dX4_comesThrough_8 ?_
      refine lv_iconst (v := 1) hx hb dX4_comesThrough_11 (by decide) ?_
      refine lv_isub hx hb dX4_comesThrough_12 ?_
      refine lv_icmp_ge (tgt := 50) hx hb dX4_comesThrough_13 (by decide) (fun c4 => ?_) (fun c4 => ?_)
      · have hf := ha_it hf c4
        exact hk v3 S H locs ls hf  hP hD hS (lv_sub hl [0, 1, 2, 3] rfl)
      · have hf := ha_if hf c4
        refine lv_iload_n hx hb dX4_comesThrough_16 rfl (lv_at hl 3 rfl) ?_
        refine lv_iload hx hb dX4_comesThrough_17 (lv_at hl 4 rfl) ?_
        refine lv_ishr hx hb dX4_comesThrough_19 ?_
        refine lv_iconst (v := 1) hx hb dX4_comesThrough_20 (by decide) ?_
        refine lv_iand hx hb dX4_comesThrough_21 ?_
        refine lv_if_eq (tgt := 44) hx hb dX4_comesThrough_22 (by decide) (fun c5 => ?_) (fun c5 => ?_)
        · have hf := ha_it hf c5
          exact J44 v3 v4 S H locs ls hf  hP hD hS (lv_sub hl [0, 1, 2, 3, 4] rfl)
        · have hf := ha_if hf c5
          refine lv_iload_n hx hb dX4_comesThrough_25 rfl (lv_at hl 3 rfl) ?_
          refine lv_aload_n hx hb dX4_comesThrough_26 rfl (lv_at hl 0 rfl) ?_
          obtain ⟨r6, wr6, hf⟩ := ha_bds hf
          obtain ⟨wr6, hr6⟩ := ha_rf_some wr6
          refine ha_getr hx hb hown hK hP q9 hN h0 wr6 dX4_comesThrough_27 ?_
          refine lv_iload_n hx hb dX4_comesThrough_30 rfl (lv_at hl 2 rfl) ?_
          refine lv_aload_n hx hb dX4_comesThrough_31 rfl (lv_at hl 0 rfl) ?_
          refine ha_geti hx hb hown hK hP q21 hN h0 dX4_comesThrough_32 ?_
          refine lv_imul hx hb dX4_comesThrough_35 ?_
          refine lv_iload hx hb dX4_comesThrough_36 (lv_at hl 4 rfl) ?_
          refine lv_iadd hx hb dX4_comesThrough_38 ?_
          obtain ⟨g7, hf⟩ := ha_gds hf
          refine ha_iald hx hb hK hP hN hr6 g7 dX4_comesThrough_39 ?_
          refine lv_iload_n hx hb dX4_comesThrough_40 rfl (lv_at hl 1 rfl) ?_
          refine lv_iand hx hb dX4_comesThrough_41 ?_
          refine lv_ior hx hb dX4_comesThrough_42 ?_
          refine lv_topi (fun x8 ex8 => ?_)
          have hf := ha_nms hf ex8
          refine lv_istore_n (lv' := [(3, .int x8), (0, .ref (ad p0)), (1, .int p1), (2, .int p2), (4, .int v4)]) hx hb dX4_comesThrough_43 rfl hl (by decide) rfl (fun ls hl => ?_)
          exact J44 x8 v4 S H locs ls hf  hP hD hS (lv_sub hl [1, 2, 3, 0, 4] rfl)
  refine key9 _ (fun v3 S H locs ls hf  hP hD hS hl => ?_) ha_fu 1 0 S H locs ls (ha_as hf)  hP hD hS (lv_sub hl [2, 3, 4, 1, 0] rfl)
  have hf : (f_X4_comesThrough_J50 p0 p1 p2 v3 S).bind some = some out := hf
  exact J50 v3 S H locs ls hf  hP hD hS (lv_sub hl [0, 1, 2, 3] rfl)

set_option maxHeartbeats 4000000 in
set_option maxRecDepth 100000 in
theorem c_X4_doesEachDay {l : Launch} {D : va_G} {cs : Nat → ClassId} {ad adK adV : Nat → Nat} {N : List Nat} {Z : State → Prop} (hZ : ha_Zok (ha_A ad N) Z) (hN : ∀ x, xo_kd x < 999 → x ∈ N) (hX : ∀ U, Z U → xo_Z adK adV (ha_A ad N) U) {p0 : Nat} {p1 : Int32} {S : ha_St} {out : Int32 × ha_St} (h0 : xo_kd p0 = 4) (hf : f_X4_doesEachDay p0 p1 S = some out) : ha_Ci l D cs ad xo_kd xo_ln N Z yX4_doesEachDay wsX4_doesEachDay ({ frames := 1, cells := 0, slots := 0, locals := 24 } : Room) [.ref (ad p0), .int p1] S out.1 out.2 := by
  refine Met.ofW (cc := cX4_doesEachDay) (maxL := 3) (ret := (some .boolean)) (by decide +kernel) rfl ?_
  intro p e s m args below meth c s₁ B hml hv
  obtain ⟨rfl, hP, hD, hK, hz⟩ := hv
  have hx := B.exec
  have hb := B.bytes
  have hr := B.returns
  have hts := atoms_spec (ws := wsX4_doesEachDay) B.pre
  have hown : s.vm.findClass RX4 = some m.cls := findClass_of_methodNamed B.named
  have hlocks := B.notSynchronized
  have hS : va_S (ha_A ad N) s.heap s.heap [] := va_S.rf
  have hi4 : ∀ w ∈ wsX40, w ∈ wsX4_doesEachDay := fun w h => List.mem_cons_of_mem _ (List.mem_append_right _ h)
  have q24 : ha_Fk s ([.ref (ad p0), .int p1] : List Value).toArray RX4 24 4 2 0 := ⟨RX4, TX4, 3, wsX4_doesEachDay, rfl, by decide, by decide, rfl, rfl, hts, hi4, hts (.fieldLink RX4 24 "HillArms$HillDays" "days" "I") (by decide +kernel)⟩
  have cw0 := cwV (R := (headSpec wsX4_doesEachDay ({ frames := 1, cells := 0, slots := 0, locals := 24 } : Room)).room) 2 hts gX4_doesEachDay_X4_comesThrough (rm := ({ frames := 0, cells := 0, slots := 0, locals := 0 } : Room)) (mc := 0) (ms := 0) rfl rfl rfl (by decide +kernel) ⟨Nat.le_of_ble_eq_true rfl, Nat.le_of_ble_eq_true rfl⟩
  have hl := lv_entry ([.ref (ad p0), .int p1]) (n := 3) (Nat.le_of_ble_eq_true rfl)
  rw [lg_entry_eq]
  generalize (lg_sl ([.ref (ad p0), .int p1]) ++ List.replicate (3 - (lg_sl ([.ref (ad p0), .int p1])).length) Slot.unset).toArray = ls at hl ⊢
  have hl : lv_has ls 3 [(0, .ref (ad p0)), (1, .int p1)] := hl
  refine (fun (K0 : ∀ (H : Heap) (locs : List Loc), va_P D vwCl (ha_wl cs ad xo_kd xo_ln N S) H → va_S (ha_A ad N) s.heap H locs → W p l e (headSpec wsX4_doesEachDay ({ frames := 1, cells := 0, slots := 0, locals := 24 } : Room)).room s m ([.ref (ad p0), .int p1] : List Value).toArray below meth c H locs 0 0 (MQ below (va_Qi (fun (r : Int32) (_ : Unit) => r = out.1) (fun _ => ha_H D cs ad xo_kd xo_ln N out.2) (ha_A ad N)) ([.ref (ad p0), .int p1] : List Value).toArray s 0 0 (ha_A ad N)) (F0 m 0 ls [])) => K0 _ _ hP hS) ?_
  intro H locs hP hS
  have hf := ha_rt hf
  have J27 : ∀  (S : ha_St) (H : Heap) (locs : List Loc) (ls : Array Slot), (f_X4_doesEachDay_J27 p0 p1  S).bind some = some out → va_P D vwCl (ha_wl cs ad xo_kd xo_ln N S) H → va_D (ha_A ad N) (ha_wl cs ad xo_kd xo_ln N S) → va_S (ha_A ad N) s.heap H locs → lv_has ls 3 [(0, .ref (ad p0)), (1, .int p1)] → W p l e (headSpec wsX4_doesEachDay ({ frames := 1, cells := 0, slots := 0, locals := 24 } : Room)).room s m ([.ref (ad p0), .int p1] : List Value).toArray below meth c H locs 0 0 (MQ below (va_Qi (fun (r : Int32) (_ : Unit) => r = out.1) (fun _ => ha_H D cs ad xo_kd xo_ln N out.2) (ha_A ad N)) ([.ref (ad p0), .int p1] : List Value).toArray s 0 0 (ha_A ad N)) (F0 m 27 ls []) := by
    intro  S H locs ls hf  hP hD hS hl
    unfold f_X4_doesEachDay_J27 at hf
    refine lv_iconst (v := 1) hx hb dX4_doesEachDay_27 (by decide) ?_
    have he := Option.some.inj hf
    exact ha_retz hx hb hr hlocks hP hD hS dX4_doesEachDay_28 (by decide) (ha_e1 he) (ha_e2 he)
  unfold f_X4_doesEachDay at hf
  refine lv_iconst (v := 0) hx hb dX4_doesEachDay_0 (by decide) ?_
  refine lv_istore_n (lv' := [(2, .int 0), (0, .ref (ad p0)), (1, .int p1)]) hx hb dX4_doesEachDay_1 rfl hl (by decide) rfl (fun ls hl => ?_)
  have key5 : ∀ (K : ((ha_St) ⊕ (Int32 × ha_St)) → Option (Int32 × ha_St)), (∀  (S : ha_St) (H : Heap) (locs : List Loc) (ls : Array Slot), K (.inl S) = some out → va_P D vwCl (ha_wl cs ad xo_kd xo_ln N S) H → va_D (ha_A ad N) (ha_wl cs ad xo_kd xo_ln N S) → va_S (ha_A ad N) s.heap H locs → lv_has ls 3 [(0, .ref (ad p0)), (1, .int p1)] → W p l e (headSpec wsX4_doesEachDay ({ frames := 1, cells := 0, slots := 0, locals := 24 } : Room)).room s m ([.ref (ad p0), .int p1] : List Value).toArray below meth c H locs 0 0 (MQ below (va_Qi (fun (r : Int32) (_ : Unit) => r = out.1) (fun _ => ha_H D cs ad xo_kd xo_ln N out.2) (ha_A ad N)) ([.ref (ad p0), .int p1] : List Value).toArray s 0 0 (ha_A ad N)) (F0 m 27 ls [])) → (∀ r, K (.inr r) = some out → r = out) → ∀ (n : Nat) (v2 : Int32) (S : ha_St) (H : Heap) (locs : List Loc) (ls : Array Slot), (f_X4_doesEachDay_L2i p0 p1 n (v2, S)).bind K = some out → va_P D vwCl (ha_wl cs ad xo_kd xo_ln N S) H → va_D (ha_A ad N) (ha_wl cs ad xo_kd xo_ln N S) → va_S (ha_A ad N) s.heap H locs → lv_has ls 3 [(0, .ref (ad p0)), (1, .int p1), (2, .int v2)] → W p l e (headSpec wsX4_doesEachDay ({ frames := 1, cells := 0, slots := 0, locals := 24 } : Room)).room s m ([.ref (ad p0), .int p1] : List Value).toArray below meth c H locs 0 0 (MQ below (va_Qi (fun (r : Int32) (_ : Unit) => r = out.1) (fun _ => ha_H D cs ad xo_kd xo_ln N out.2) (ha_A ad N)) ([.ref (ad p0), .int p1] : List Value).toArray s 0 0 (ha_A ad N)) (F0 m 2 ls []) := by
    intro K hk hke n
    induction n with
    | zero =>
      intro v2 S H locs ls hf
      exact absurd (show (none : Option (Int32 × ha_St)) = some out from hf) (fun h => by cases h)
    | succ n ih =>
      intro v2 S H locs ls hf  hP hD hS hl
      have hf : (f_X4_doesEachDay_L2 p0 p1 (f_X4_doesEachDay_L2i p0 p1 n) v2 S).bind K = some out := hf
      unfold f_X4_doesEachDay_L2 at hf
      refine lv_iload_n hx hb dX4_doesEachDay_2 rfl (lv_at hl 2 rfl) ?_
      refine lv_aload_n hx hb dX4_doesEachDay_3 rfl (lv_at hl 0 rfl) ?_
      refine ha_geti hx hb hown hK hP q24 hN h0 dX4_doesEachDay_4 ?_
      refine lv_icmp_ge (tgt := 27) hx hb dX4_doesEachDay_7 (by decide) (fun c1 => ?_) (fun c1 => ?_)
      · have hf := ha_it hf c1
        exact hk  S H locs ls hf  hP hD hS (lv_sub hl [0, 1] rfl)
      · have hf := ha_if hf c1
        refine lv_aload_n hx hb dX4_doesEachDay_10 rfl (lv_at hl 0 rfl) ?_
        refine lv_iload_n hx hb dX4_doesEachDay_11 rfl (lv_at hl 1 rfl) ?_
        refine lv_iload_n hx hb dX4_doesEachDay_12 rfl (lv_at hl 2 rfl) ?_
        obtain ⟨z2, wz2, hf⟩ := ha_bds hf
        refine ha_callVi (As := [.int p1, .int v2]) (rest := []) hZ ⟨hx, hb, hml, hown, hts⟩ hK hz hP hD hS (c_X4_comesThrough hZ hN hX h0 wz2) cw0 hN h0 (by decide) rfl rfl hl.1 rfl (Nat.le_of_ble_eq_true rfl) dX4_doesEachDay_13 ⟨Nat.le_of_ble_eq_true rfl, Nat.le_of_ble_eq_true rfl⟩ (fun H locs hP hD hS => ?_)
        refine lv_if_ne (tgt := 21) hx hb dX4_doesEachDay_16 (by decide) (fun c3 => ?_) (fun c3 => ?_)
        · have hf := ha_it hf c3
          obtain ⟨x4, ex4⟩ : ∃ y : Int32, y = (v2 : Int32) + 1 := ⟨_, rfl⟩
          have hf := ha_nms hf ex4
          refine lv_iinc (v := x4) (lv' := [(2, .int x4), (0, .ref (ad p0)), (1, .int p1)]) hx hb dX4_doesEachDay_21 hl (k := 2) rfl (by rw [ex4]; rfl) (by decide) rfl (fun ls hl => ?_)
          refine lv_goto (tgt := 2) hx hb dX4_doesEachDay_24 (by decide) ?_
          exact ih x4 z2.2 H locs ls hf  hP hD hS (lv_sub hl [1, 2, 0] rfl)
        · have hf := ha_if hf (fun q => q c3)
          refine lv_iconst (v := 0) hx hb dX4_doesEachDay_19 (by decide) ?_
          have he := hke _ hf
          exact ha_retz hx hb hr hlocks hP hD hS dX4_doesEachDay_20 (by decide) (ha_e1 he) (ha_e2 he)
  refine key5 _ (fun  S H locs ls hf  hP hD hS hl => ?_) (fun r h => Option.some.inj h) ha_fu 0 S H locs ls (ha_as hf)  hP hD hS (lv_sub hl [1, 2, 0] rfl)
  have hf : (f_X4_doesEachDay_J27 p0 p1  S).bind some = some out := hf
  exact J27  S H locs ls hf  hP hD hS (lv_sub hl [0, 1] rfl)

set_option maxHeartbeats 4000000 in
set_option maxRecDepth 100000 in
theorem c_X4_fewest {l : Launch} {D : va_G} {cs : Nat → ClassId} {ad adK adV : Nat → Nat} {N : List Nat} {Z : State → Prop} (hZ : ha_Zok (ha_A ad N) Z) (hN : ∀ x, xo_kd x < 999 → x ∈ N) (hX : ∀ U, Z U → xo_Z adK adV (ha_A ad N) U) {p0 : Nat} {S : ha_St} {out : Int32 × ha_St} (h0 : xo_kd p0 = 4) (hf : f_X4_fewest p0 S = some out) : ha_Ci l D cs ad xo_kd xo_ln N Z yX4_fewest wsX4_fewest ({ frames := 2, cells := 0, slots := 0, locals := 46 } : Room) [.ref (ad p0)] S out.1 out.2 := by
  refine Met.ofW (cc := cX4_fewest) (maxL := 5) (ret := (some .int)) (by decide +kernel) rfl ?_
  intro p e s m args below meth c s₁ B hml hv
  obtain ⟨rfl, hP, hD, hK, hz⟩ := hv
  have hx := B.exec
  have hb := B.bytes
  have hr := B.returns
  have hts := atoms_spec (ws := wsX4_fewest) B.pre
  have hown : s.vm.findClass RX4 = some m.cls := findClass_of_methodNamed B.named
  have hlocks := B.notSynchronized
  have hS : va_S (ha_A ad N) s.heap s.heap [] := va_S.rf
  have hi4 : ∀ w ∈ wsX40, w ∈ wsX4_fewest := fun w h => List.mem_cons_of_mem _ (List.mem_append_right _ h)
  have q21 : ha_Fk s ([.ref (ad p0)] : List Value).toArray RX4 21 4 1 0 := ⟨RX4, TX4, 3, wsX4_fewest, rfl, by decide, by decide, rfl, rfl, hts, hi4, hts (.fieldLink RX4 21 "HillArms$HillDays" "count" "I") (by decide +kernel)⟩
  have cw0 := va_cwS (R := (headSpec wsX4_fewest ({ frames := 2, cells := 0, slots := 0, locals := 46 } : Room)).room) 1 hts gX4_fewest_J6_bitCount_0f7a4 (rm := ({ frames := 0, cells := 0, slots := 0, locals := 0 } : Room)) (mc := 0) (ms := 0) rfl rfl rfl (by decide +kernel) ⟨Nat.le_of_ble_eq_true rfl, Nat.le_of_ble_eq_true rfl⟩
  have cw1 := cwV (R := (headSpec wsX4_fewest ({ frames := 2, cells := 0, slots := 0, locals := 46 } : Room)).room) 1 hts gX4_fewest_X4_doesEachDay (rm := ({ frames := 1, cells := 0, slots := 0, locals := 24 } : Room)) (mc := 0) (ms := 0) rfl rfl rfl (by decide +kernel) ⟨Nat.le_of_ble_eq_true rfl, Nat.le_of_ble_eq_true rfl⟩
  have hl := lv_entry ([.ref (ad p0)]) (n := 5) (Nat.le_of_ble_eq_true rfl)
  rw [lg_entry_eq]
  generalize (lg_sl ([.ref (ad p0)]) ++ List.replicate (5 - (lg_sl ([.ref (ad p0)])).length) Slot.unset).toArray = ls at hl ⊢
  have hl : lv_has ls 5 [(0, .ref (ad p0))] := hl
  refine (fun (K0 : ∀ (H : Heap) (locs : List Loc), va_P D vwCl (ha_wl cs ad xo_kd xo_ln N S) H → va_S (ha_A ad N) s.heap H locs → W p l e (headSpec wsX4_fewest ({ frames := 2, cells := 0, slots := 0, locals := 46 } : Room)).room s m ([.ref (ad p0)] : List Value).toArray below meth c H locs 0 0 (MQ below (va_Qi (fun (r : Int32) (_ : Unit) => r = out.1) (fun _ => ha_H D cs ad xo_kd xo_ln N out.2) (ha_A ad N)) ([.ref (ad p0)] : List Value).toArray s 0 0 (ha_A ad N)) (F0 m 0 ls [])) => K0 _ _ hP hS) ?_
  intro H locs hP hS
  have hf := ha_rt hf
  have J67 : ∀ (v2 : Int32) (S : ha_St) (H : Heap) (locs : List Loc) (ls : Array Slot), (f_X4_fewest_J67 p0 v2 S).bind some = some out → va_P D vwCl (ha_wl cs ad xo_kd xo_ln N S) H → va_D (ha_A ad N) (ha_wl cs ad xo_kd xo_ln N S) → va_S (ha_A ad N) s.heap H locs → lv_has ls 5 [(0, .ref (ad p0)), (2, .int v2)] → W p l e (headSpec wsX4_fewest ({ frames := 2, cells := 0, slots := 0, locals := 46 } : Room)).room s m ([.ref (ad p0)] : List Value).toArray below meth c H locs 0 0 (MQ below (va_Qi (fun (r : Int32) (_ : Unit) => r = out.1) (fun _ => ha_H D cs ad xo_kd xo_ln N out.2) (ha_A ad N)) ([.ref (ad p0)] : List Value).toArray s 0 0 (ha_A ad N)) (F0 m 67 ls []) := by
    intro v2 S H locs ls hf  hP hD hS hl
    unfold f_X4_fewest_J67 at hf
    refine lv_iload_n hx hb dX4_fewest_67 rfl (lv_at hl 1 rfl) ?_
    have he := Option.some.inj hf
    exact ha_reti hx hb hr hlocks hP hD hS dX4_fewest_68 (ha_e1 he) (ha_e2 he)
  unfold f_X4_fewest at hf
  refine lv_iconst (v := 1) hx hb dX4_fewest_0 (by decide) ?_
  refine lv_iconst (v := 1) hx hb dX4_fewest_1 (by decide) ?_
  refine lv_aload_n hx hb dX4_fewest_2 rfl (lv_at hl 0 rfl) ?_
  refine ha_geti hx hb hown hK hP q21 hN h0 dX4_fewest_3 ?_
  refine lv_iconst (v := 1) hx hb dX4_fewest_6 (by decide) ?_
  refine lv_isub hx hb dX4_fewest_7 ?_
  refine lv_ishl hx hb dX4_fewest_8 ?_
  refine lv_ior hx hb dX4_fewest_9 ?_
  refine lv_topi (fun x1 ex1 => ?_)
  have hf := ha_nms hf ex1
  refine lv_istore_n (lv' := [(1, .int x1), (0, .ref (ad p0))]) hx hb dX4_fewest_10 rfl hl (by decide) rfl (fun ls hl => ?_)
  refine lv_iconst (v := 0) hx hb dX4_fewest_11 (by decide) ?_
  refine lv_istore_n (lv' := [(2, .int 0), (1, .int x1), (0, .ref (ad p0))]) hx hb dX4_fewest_12 rfl hl (by decide) rfl (fun ls hl => ?_)
  refine lv_aload_n hx hb dX4_fewest_13 rfl (lv_at hl 2 rfl) ?_
  refine ha_geti hx hb hown hK hP q21 hN h0 dX4_fewest_14 ?_
  refine lv_iconst (v := 1) hx hb dX4_fewest_17 (by decide) ?_
  refine lv_iadd hx hb dX4_fewest_18 ?_
  refine lv_topi (fun x2 ex2 => ?_)
  have hf := ha_nms hf ex2
  refine lv_istore_n (lv' := [(3, .int x2), (2, .int 0), (1, .int x1), (0, .ref (ad p0))]) hx hb dX4_fewest_19 rfl hl (by decide) rfl (fun ls hl => ?_)
  refine lv_iload_n hx hb dX4_fewest_20 rfl (lv_at hl 2 rfl) ?_
  refine lv_istore (lv' := [(4, .int x1), (3, .int x2), (2, .int 0), (1, .int x1), (0, .ref (ad p0))]) hx hb dX4_fewest_21 hl (by decide) rfl (fun ls hl => ?_)
  have key10 : ∀ (K : (Int32 × ha_St) → Option (Int32 × ha_St)), (∀ (v2 : Int32) (S : ha_St) (H : Heap) (locs : List Loc) (ls : Array Slot), K (v2, S) = some out → va_P D vwCl (ha_wl cs ad xo_kd xo_ln N S) H → va_D (ha_A ad N) (ha_wl cs ad xo_kd xo_ln N S) → va_S (ha_A ad N) s.heap H locs → lv_has ls 5 [(0, .ref (ad p0)), (2, .int v2)] → W p l e (headSpec wsX4_fewest ({ frames := 2, cells := 0, slots := 0, locals := 46 } : Room)).room s m ([.ref (ad p0)] : List Value).toArray below meth c H locs 0 0 (MQ below (va_Qi (fun (r : Int32) (_ : Unit) => r = out.1) (fun _ => ha_H D cs ad xo_kd xo_ln N out.2) (ha_A ad N)) ([.ref (ad p0)] : List Value).toArray s 0 0 (ha_A ad N)) (F0 m 67 ls [])) → ∀ (n : Nat) (v2 : Int32) (v3 : Int32) (v4 : Int32) (S : ha_St) (H : Heap) (locs : List Loc) (ls : Array Slot), (f_X4_fewest_L23i p0 n (v2, v3, v4, S)).bind K = some out → va_P D vwCl (ha_wl cs ad xo_kd xo_ln N S) H → va_D (ha_A ad N) (ha_wl cs ad xo_kd xo_ln N S) → va_S (ha_A ad N) s.heap H locs → lv_has ls 5 [(0, .ref (ad p0)), (2, .int v2), (3, .int v3), (4, .int v4)] → W p l e (headSpec wsX4_fewest ({ frames := 2, cells := 0, slots := 0, locals := 46 } : Room)).room s m ([.ref (ad p0)] : List Value).toArray below meth c H locs 0 0 (MQ below (va_Qi (fun (r : Int32) (_ : Unit) => r = out.1) (fun _ => ha_H D cs ad xo_kd xo_ln N out.2) (ha_A ad N)) ([.ref (ad p0)] : List Value).toArray s 0 0 (ha_A ad N)) (F0 m 23 ls []) := by
    intro K hk n
    induction n with
    | zero =>
      intro v2 v3 v4 S H locs ls hf
      exact absurd (show (none : Option (Int32 × ha_St)) = some out from hf) (fun h => by cases h)
    | succ n ih =>
      intro v2 v3 v4 S H locs ls hf  hP hD hS hl
      have J61 : ∀ (v2 : Int32) (v3 : Int32) (v4 : Int32) (S : ha_St) (H : Heap) (locs : List Loc) (ls : Array Slot), (f_X4_fewest_L23_J61 p0 (f_X4_fewest_L23i p0 n) v2 v3 v4 S).bind K = some out → va_P D vwCl (ha_wl cs ad xo_kd xo_ln N S) H → va_D (ha_A ad N) (ha_wl cs ad xo_kd xo_ln N S) → va_S (ha_A ad N) s.heap H locs → lv_has ls 5 [(0, .ref (ad p0)), (2, .int v2), (3, .int v3), (4, .int v4)] → W p l e (headSpec wsX4_fewest ({ frames := 2, cells := 0, slots := 0, locals := 46 } : Room)).room s m ([.ref (ad p0)] : List Value).toArray below meth c H locs 0 0 (MQ below (va_Qi (fun (r : Int32) (_ : Unit) => r = out.1) (fun _ => ha_H D cs ad xo_kd xo_ln N out.2) (ha_A ad N)) ([.ref (ad p0)] : List Value).toArray s 0 0 (ha_A ad N)) (F0 m 61 ls []) := by
        intro v2 v3 v4 S H locs ls hf  hP hD hS hl
        unfold f_X4_fewest_L23_J61 at hf
        obtain ⟨x3, ex3⟩ : ∃ y : Int32, y = (v4 : Int32) + 2 := ⟨_, rfl⟩
        have hf := ha_nms hf ex3
        refine lv_iinc (v := x3) (lv' := [(4, .int x3), (0, .ref (ad p0)), (2, .int v2), (3, .int v3)]) hx hb dX4_fewest_61 hl (k := 3) rfl (by rw [ex3]; rfl) (by decide) rfl (fun ls hl => ?_)
        refine lv_goto (tgt := 23) hx hb dX4_fewest_64 (by decide) ?_
        exact ih v2 v3 x3 S H locs ls hf  hP hD hS (lv_sub hl [1, 2, 3, 0] rfl)
      have hf : (f_X4_fewest_L23 p0 (f_X4_fewest_L23i p0 n) v2 v3 v4 S).bind K = some out := hf
      unfold f_X4_fewest_L23 at hf
      refine lv_iload hx hb dX4_fewest_23 (lv_at hl 3 rfl) ?_
      refine lv_iconst (v := 1) hx hb dX4_fewest_25 (by decide) ?_
      refine lv_aload_n hx hb dX4_fewest_26 rfl (lv_at hl 0 rfl) ?_
      refine ha_geti hx hb hown hK hP q21 hN h0 dX4_fewest_27 ?_
      refine lv_ishl hx hb dX4_fewest_30 ?_
      refine lv_icmp_ge (tgt := 67) hx hb dX4_fewest_31 (by decide) (fun c4 => ?_) (fun c4 => ?_)
      · have hf := ha_it hf c4
        exact hk v2 S H locs ls hf  hP hD hS (lv_sub hl [0, 1] rfl)
      · have hf := ha_if hf c4
        refine lv_iload hx hb dX4_fewest_34 (lv_at hl 3 rfl) ?_
        obtain ⟨z5, wz5, hf⟩ := ha_bds hf
        refine ha_callSi (As := [.int v4]) (rest := []) hZ ⟨hx, hb, hml, hown, hts⟩ hK hz hP hD hS (c_J6_bitCount_0f7a4   wz5) cw0 rfl hl.1 rfl (Nat.le_of_ble_eq_true rfl) dX4_fewest_36 ⟨Nat.le_of_ble_eq_true rfl, Nat.le_of_ble_eq_true rfl⟩ (fun H locs hP hD hS => ?_)
        refine lv_iload_n hx hb dX4_fewest_39 rfl (lv_at hl 2 rfl) ?_
        refine lv_icmp_ge (tgt := 61) hx hb dX4_fewest_40 (by decide) (fun c6 => ?_) (fun c6 => ?_)
        · have hf := ha_it hf c6
          exact J61 v2 v3 v4 S H locs ls hf  hP hD hS (lv_sub hl [0, 1, 2, 3] rfl)
        · have hf := ha_if hf c6
          refine lv_aload_n hx hb dX4_fewest_43 rfl (lv_at hl 0 rfl) ?_
          refine lv_iload hx hb dX4_fewest_44 (lv_at hl 3 rfl) ?_
          obtain ⟨z7, wz7, hf⟩ := ha_bds hf
          refine ha_callVi (As := [.int v4]) (rest := []) hZ ⟨hx, hb, hml, hown, hts⟩ hK hz hP hD hS (c_X4_doesEachDay hZ hN hX h0 wz7) cw1 hN h0 (by decide) rfl rfl hl.1 rfl (Nat.le_of_ble_eq_true rfl) dX4_fewest_46 ⟨Nat.le_of_ble_eq_true rfl, Nat.le_of_ble_eq_true rfl⟩ (fun H locs hP hD hS => ?_)
          refine lv_if_eq (tgt := 61) hx hb dX4_fewest_49 (by decide) (fun c8 => ?_) (fun c8 => ?_)
          · have hf := ha_it hf c8
            exact J61 v2 v3 v4 z7.2 H locs ls hf  hP hD hS (lv_sub hl [0, 1, 2, 3] rfl)
          · have hf := ha_if hf c8
            refine lv_iload hx hb dX4_fewest_52 (lv_at hl 3 rfl) ?_
            refine lv_istore_n (lv' := [(2, .int v4), (0, .ref (ad p0)), (3, .int v3), (4, .int v4)]) hx hb dX4_fewest_54 rfl hl (by decide) rfl (fun ls hl => ?_)
            refine lv_iload hx hb dX4_fewest_55 (lv_at hl 3 rfl) ?_
            obtain ⟨z9, wz9, hf⟩ := ha_bds hf
            refine ha_callSi (As := [.int v4]) (rest := []) hZ ⟨hx, hb, hml, hown, hts⟩ hK hz hP hD hS (c_J6_bitCount_0f7a4   wz9) cw0 rfl hl.1 rfl (Nat.le_of_ble_eq_true rfl) dX4_fewest_57 ⟨Nat.le_of_ble_eq_true rfl, Nat.le_of_ble_eq_true rfl⟩ (fun H locs hP hD hS => ?_)
            refine lv_istore_n (lv' := [(3, .int z9), (2, .int v4), (0, .ref (ad p0)), (4, .int v4)]) hx hb dX4_fewest_60 rfl hl (by decide) rfl (fun ls hl => ?_)
            exact J61 v4 z9 v4 z7.2 H locs ls hf  hP hD hS (lv_sub hl [2, 1, 0, 3] rfl)
  refine key10 _ (fun v2 S H locs ls hf  hP hD hS hl => ?_) ha_fu 0 x2 x1 S H locs ls (ha_as hf)  hP hD hS (lv_sub hl [4, 2, 1, 0] rfl)
  have hf : (f_X4_fewest_J67 p0 v2 S).bind some = some out := hf
  exact J67 v2 S H locs ls hf  hP hD hS (lv_sub hl [0, 1] rfl)

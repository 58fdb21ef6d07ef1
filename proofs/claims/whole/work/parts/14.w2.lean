set_option maxHeartbeats 4000000 in
set_option maxRecDepth 100000 in
theorem c_X12_thrown {l : Launch} {D : va_G} {cs : Nat → ClassId} {ad : Nat → Nat} {N : List Nat} {Z : State → Prop} (hZ : ha_Zok (ha_A ad N) Z) (hN : ∀ x, mo_kd x < 999 → x ∈ N) {p0 : Nat} {S : ha_St} {out : Int32 × ha_St} (h0 : mo_kd p0 = 12) (hf : f_X12_thrown p0 S = some out) : ha_Ci l D cs ad mo_kd mo_ln N Z yX12_thrown wsX12_thrown ({ frames := 0, cells := 0, slots := 0, locals := 0 } : Room) [.ref (ad p0)] S out.1 out.2 := by
  refine Met.ofW (cc := cX12_thrown) (maxL := 1) (ret := (some .int)) (by decide +kernel) rfl ?_
  intro p e s m args below meth c s₁ B hml hv
  obtain ⟨rfl, hP, hD, hK, hz⟩ := hv
  have hx := B.exec
  have hb := B.bytes
  have hr := B.returns
  have hts := atoms_spec (ws := wsX12_thrown) B.pre
  have hown : s.vm.findClass RX12 = some m.cls := findClass_of_methodNamed B.named
  have hlocks := B.notSynchronized
  have hS : va_S (ha_A ad N) s.heap s.heap [] := va_S.rf
  have hi12 : ∀ w ∈ wsX120, w ∈ wsX12_thrown := fun w h => List.mem_cons_of_mem _ (List.mem_append_right _ h)
  have q138 : ha_Fk s ([.ref (ad p0)] : List Value).toArray RX12 138 12 0 0 := ⟨RX12, TX12, 83, wsX12_thrown, rfl, by decide, by decide, rfl, rfl, hts, hi12, hts (.fieldLink RX12 138 "HillArmsModel" "thrown" "I") (by decide +kernel)⟩
  have hl := lv_entry ([.ref (ad p0)]) (n := 1) (Nat.le_of_ble_eq_true rfl)
  rw [lg_entry_eq]
  generalize (lg_sl ([.ref (ad p0)]) ++ List.replicate (1 - (lg_sl ([.ref (ad p0)])).length) Slot.unset).toArray = ls at hl ⊢
  have hl : lv_has ls 1 [(0, .ref (ad p0))] := hl
  refine (fun (K0 : ∀ (H : Heap) (locs : List Loc), va_P D vwCl (ha_wl cs ad mo_kd mo_ln N S) H → va_S (ha_A ad N) s.heap H locs → W p l e (headSpec wsX12_thrown ({ frames := 0, cells := 0, slots := 0, locals := 0 } : Room)).room s m ([.ref (ad p0)] : List Value).toArray below meth c H locs 0 0 (MQ below (va_Qi (fun (r : Int32) (_ : Unit) => r = out.1) (fun _ => ha_H D cs ad mo_kd mo_ln N out.2) (ha_A ad N)) ([.ref (ad p0)] : List Value).toArray s 0 0 (ha_A ad N)) (F0 m 0 ls [])) => K0 _ _ hP hS) ?_
  intro H locs hP hS
  have hf := ha_rt hf
  unfold f_X12_thrown at hf
  refine lv_aload_n hx hb dX12_thrown_0 rfl (lv_at hl 0 rfl) ?_
  refine ha_geti hx hb hown hK hP q138 hN h0 dX12_thrown_1 ?_
  have he := Option.some.inj hf
  exact ha_reti hx hb hr hlocks hP hD hS dX12_thrown_4 (ha_e1 he) (ha_e2 he)

set_option maxHeartbeats 4000000 in
set_option maxRecDepth 100000 in
theorem c_X12_come {l : Launch} {D : va_G} {cs : Nat → ClassId} {ad : Nat → Nat} {N : List Nat} {Z : State → Prop} (hZ : ha_Zok (ha_A ad N) Z) (hN : ∀ x, mo_kd x < 999 → x ∈ N) {p0 : Nat} {p1 : Int32} {S : ha_St} {out : ha_St} (h0 : mo_kd p0 = 12) (hf : f_X12_come p0 p1 S = some out) : ha_Cv l D cs ad mo_kd mo_ln N Z yX12_come wsX12_come ({ frames := 0, cells := 0, slots := 0, locals := 0 } : Room) [.ref (ad p0), .int p1] S out := by
  refine Met.ofW (cc := cX12_come) (maxL := 3) (ret := none) (by decide +kernel) rfl ?_
  intro p e s m args below meth c s₁ B hml hv
  obtain ⟨rfl, hP, hD, hK, hz⟩ := hv
  have hx := B.exec
  have hb := B.bytes
  have hr := B.returns
  have hts := atoms_spec (ws := wsX12_come) B.pre
  have hown : s.vm.findClass RX12 = some m.cls := findClass_of_methodNamed B.named
  have hlocks := B.notSynchronized
  have hS : va_S (ha_A ad N) s.heap s.heap [] := va_S.rf
  have hi12 : ∀ w ∈ wsX120, w ∈ wsX12_come := fun w h => List.mem_cons_of_mem _ (List.mem_append_right _ h)
  have q7 : ha_Fk s ([.ref (ad p0), .int p1] : List Value).toArray RX12 7 12 1 1 := ⟨RX12, TX12, 83, wsX12_come, rfl, by decide, by decide, rfl, rfl, hts, hi12, hts (.fieldLink RX12 7 "HillArmsModel" "tape" "[I") (by decide +kernel)⟩
  have q141 : ha_Fk s ([.ref (ad p0), .int p1] : List Value).toArray RX12 141 12 2 0 := ⟨RX12, TX12, 83, wsX12_come, rfl, by decide, by decide, rfl, rfl, hts, hi12, hts (.fieldLink RX12 141 "HillArmsModel" "taped" "I") (by decide +kernel)⟩
  have r141 : ha_Fp s ([.ref (ad p0), .int p1] : List Value).toArray RX12 141 12 2 0 .int := ⟨RX12, TX12, 83, wsX12_come, tyX12, rfl, by decide, by decide, rfl, rfl, hts, hi12, hts (.fieldLink RX12 141 "HillArmsModel" "taped" "I") (by decide +kernel), tyX12_ok, nmX12, rfl, by decide +kernel⟩
  have hl := lv_entry ([.ref (ad p0), .int p1]) (n := 3) (Nat.le_of_ble_eq_true rfl)
  rw [lg_entry_eq]
  generalize (lg_sl ([.ref (ad p0), .int p1]) ++ List.replicate (3 - (lg_sl ([.ref (ad p0), .int p1])).length) Slot.unset).toArray = ls at hl ⊢
  have hl : lv_has ls 3 [(0, .ref (ad p0)), (1, .int p1)] := hl
  refine (fun (K0 : ∀ (H : Heap) (locs : List Loc), va_P D vwCl (ha_wl cs ad mo_kd mo_ln N S) H → va_S (ha_A ad N) s.heap H locs → W p l e (headSpec wsX12_come ({ frames := 0, cells := 0, slots := 0, locals := 0 } : Room)).room s m ([.ref (ad p0), .int p1] : List Value).toArray below meth c H locs 0 0 (MQ below (va_Qv (fun (_ : Unit) => True) (fun _ => ha_H D cs ad mo_kd mo_ln N out) (ha_A ad N)) ([.ref (ad p0), .int p1] : List Value).toArray s 0 0 (ha_A ad N)) (F0 m 0 ls [])) => K0 _ _ hP hS) ?_
  intro H locs hP hS
  have hf := ha_rt hf
  have J39 : ∀  (S : ha_St) (H : Heap) (locs : List Loc) (ls : Array Slot), (f_X12_come_J39 p0 p1  S).bind some = some out → va_P D vwCl (ha_wl cs ad mo_kd mo_ln N S) H → va_D (ha_A ad N) (ha_wl cs ad mo_kd mo_ln N S) → va_S (ha_A ad N) s.heap H locs → lv_has ls 3 [(0, .ref (ad p0)), (1, .int p1)] → W p l e (headSpec wsX12_come ({ frames := 0, cells := 0, slots := 0, locals := 0 } : Room)).room s m ([.ref (ad p0), .int p1] : List Value).toArray below meth c H locs 0 0 (MQ below (va_Qv (fun (_ : Unit) => True) (fun _ => ha_H D cs ad mo_kd mo_ln N out) (ha_A ad N)) ([.ref (ad p0), .int p1] : List Value).toArray s 0 0 (ha_A ad N)) (F0 m 39 ls []) := by
    intro  S H locs ls hf  hP hD hS hl
    unfold f_X12_come_J39 at hf
    have he := Option.some.inj hf
    exact ha_retv hx hb hr hlocks hP hD hS dX12_come_39 he
  unfold f_X12_come at hf
  refine lv_bipush (v := 24) hx hb dX12_come_0 (by decide) ?_
  refine lv_istore_n (lv' := [(2, .int 24), (0, .ref (ad p0)), (1, .int p1)]) hx hb dX12_come_2 rfl hl (by decide) rfl (fun ls hl => ?_)
  have key7 : ∀ (K : (ha_St) → Option (ha_St)), (∀  (S : ha_St) (H : Heap) (locs : List Loc) (ls : Array Slot), K S = some out → va_P D vwCl (ha_wl cs ad mo_kd mo_ln N S) H → va_D (ha_A ad N) (ha_wl cs ad mo_kd mo_ln N S) → va_S (ha_A ad N) s.heap H locs → lv_has ls 3 [(0, .ref (ad p0)), (1, .int p1)] → W p l e (headSpec wsX12_come ({ frames := 0, cells := 0, slots := 0, locals := 0 } : Room)).room s m ([.ref (ad p0), .int p1] : List Value).toArray below meth c H locs 0 0 (MQ below (va_Qv (fun (_ : Unit) => True) (fun _ => ha_H D cs ad mo_kd mo_ln N out) (ha_A ad N)) ([.ref (ad p0), .int p1] : List Value).toArray s 0 0 (ha_A ad N)) (F0 m 39 ls [])) → ∀ (n : Nat) (v2 : Int32) (S : ha_St) (H : Heap) (locs : List Loc) (ls : Array Slot), (f_X12_come_L3i p0 p1 n (v2, S)).bind K = some out → va_P D vwCl (ha_wl cs ad mo_kd mo_ln N S) H → va_D (ha_A ad N) (ha_wl cs ad mo_kd mo_ln N S) → va_S (ha_A ad N) s.heap H locs → lv_has ls 3 [(0, .ref (ad p0)), (1, .int p1), (2, .int v2)] → W p l e (headSpec wsX12_come ({ frames := 0, cells := 0, slots := 0, locals := 0 } : Room)).room s m ([.ref (ad p0), .int p1] : List Value).toArray below meth c H locs 0 0 (MQ below (va_Qv (fun (_ : Unit) => True) (fun _ => ha_H D cs ad mo_kd mo_ln N out) (ha_A ad N)) ([.ref (ad p0), .int p1] : List Value).toArray s 0 0 (ha_A ad N)) (F0 m 3 ls []) := by
    intro K hk n
    induction n with
    | zero =>
      intro v2 S H locs ls hf
      exact absurd (show (none : Option (ha_St)) = some out from hf) (fun h => by cases h)
    | succ n ih =>
      intro v2 S H locs ls hf  hP hD hS hl
      have hf : (f_X12_come_L3 p0 p1 (f_X12_come_L3i p0 p1 n) v2 S).bind K = some out := hf
      unfold f_X12_come_L3 at hf
      refine lv_iload_n hx hb dX12_come_3 rfl (lv_at hl 2 rfl) ?_
      refine lv_if_lt (tgt := 39) hx hb dX12_come_4 (by decide) (fun c1 => ?_) (fun c1 => ?_)
      · have hf := ha_it hf c1
        exact hk  S H locs ls hf  hP hD hS (lv_sub hl [0, 1] rfl)
      · have hf := ha_if hf c1
        refine lv_aload_n hx hb dX12_come_7 rfl (lv_at hl 0 rfl) ?_
        obtain ⟨r2, wr2, hf⟩ := ha_bds hf
        obtain ⟨wr2, hr2⟩ := ha_rf_some wr2
        refine ha_getr hx hb hown hK hP q7 hN h0 wr2 dX12_come_8 ?_
        refine lv_aload_n hx hb dX12_come_11 rfl (lv_at hl 0 rfl) ?_
        refine ha_geti hx hb hown hK hP q141 hN h0 dX12_come_12 ?_
        refine lv_iload_n hx hb dX12_come_15 rfl (lv_at hl 1 rfl) ?_
        refine lv_iload_n hx hb dX12_come_16 rfl (lv_at hl 2 rfl) ?_
        refine lv_iushr (v := (ha_ush p1 v2)) hx hb dX12_come_17 rfl ?_
        refine lv_sipush (v := 255) hx hb dX12_come_18 (by decide) ?_
        refine lv_iand hx hb dX12_come_21 ?_
        obtain ⟨g3, hf⟩ := ha_gds hf
        refine ha_iast hx hb hK hP hD hS hN hr2 g3 dX12_come_22 (fun S4 H locs eS4 hP hD hS => ?_)
        have hf := ha_nms hf eS4
        refine lv_aload_n hx hb dX12_come_23 rfl (lv_at hl 0 rfl) ?_
        refine lv_dup hx hb dX12_come_24 rfl ?_
        refine ha_geti hx hb hown hK hP q141 hN h0 dX12_come_25 ?_
        refine lv_iconst (v := 1) hx hb dX12_come_28 (by decide) ?_
        refine lv_iadd hx hb dX12_come_29 ?_
        refine ha_puti hx hb hown hK hP hD hS r141 hN h0 dX12_come_30 (fun S5 H locs eS5 hP hD hS => ?_)
        have hf := ha_nms hf eS5
        obtain ⟨x6, ex6⟩ : ∃ y : Int32, y = (v2 : Int32) + (-8) := ⟨_, rfl⟩
        have hf := ha_nms hf ex6
        refine lv_iinc (v := x6) (lv' := [(2, .int x6), (0, .ref (ad p0)), (1, .int p1)]) hx hb dX12_come_33 hl (k := 2) rfl (by rw [ex6]; rfl) (by decide) rfl (fun ls hl => ?_)
        refine lv_goto (tgt := 3) hx hb dX12_come_36 (by decide) ?_
        exact ih x6 S5 H locs ls hf  hP hD hS (lv_sub hl [1, 2, 0] rfl)
  refine key7 _ (fun  S H locs ls hf  hP hD hS hl => ?_) ha_fu 24 S H locs ls (ha_as hf)  hP hD hS (lv_sub hl [1, 2, 0] rfl)
  have hf : (f_X12_come_J39 p0 p1  S).bind some = some out := hf
  exact J39  S H locs ls hf  hP hD hS (lv_sub hl [0, 1] rfl)

set_option maxHeartbeats 4000000 in
set_option maxRecDepth 100000 in
theorem c_X12_feed {l : Launch} {D : va_G} {cs : Nat → ClassId} {ad : Nat → Nat} {N : List Nat} {Z : State → Prop} (hZ : ha_Zok (ha_A ad N) Z) (hN : ∀ x, mo_kd x < 999 → x ∈ N) {p0 : Nat} {p1 : Int32} {p2 : Int32} {p3 : Int32} {p4 : Int32} {p5 : Int32} {S : ha_St} {out : Int32 × ha_St} (h0 : mo_kd p0 = 12) (hf : f_X12_feed p0 p1 p2 p3 p4 p5 S = some out) : ha_Ci l D cs ad mo_kd mo_ln N Z yX12_feed wsX12_feed ({ frames := 1, cells := 0, slots := 0, locals := 22 } : Room) [.ref (ad p0), .int p1, .int p2, .int p3, .int p4, .int p5] S out.1 out.2 := by
  refine Met.ofW (cc := cX12_feed) (maxL := 6) (ret := (some .int)) (by decide +kernel) rfl ?_
  intro p e s m args below meth c s₁ B hml hv
  obtain ⟨rfl, hP, hD, hK, hz⟩ := hv
  have hx := B.exec
  have hb := B.bytes
  have hr := B.returns
  have hts := atoms_spec (ws := wsX12_feed) B.pre
  have hown : s.vm.findClass RX12 = some m.cls := findClass_of_methodNamed B.named
  have hlocks := B.notSynchronized
  have hS : va_S (ha_A ad N) s.heap s.heap [] := va_S.rf
  have hi12 : ∀ w ∈ wsX120, w ∈ wsX12_feed := fun w h => List.mem_cons_of_mem _ (List.mem_append_right _ h)
  have q141 : ha_Fk s ([.ref (ad p0), .int p1, .int p2, .int p3, .int p4, .int p5] : List Value).toArray RX12 141 12 2 0 := ⟨RX12, TX12, 83, wsX12_feed, rfl, by decide, by decide, rfl, rfl, hts, hi12, hts (.fieldLink RX12 141 "HillArmsModel" "taped" "I") (by decide +kernel)⟩
  have r138 : ha_Fp s ([.ref (ad p0), .int p1, .int p2, .int p3, .int p4, .int p5] : List Value).toArray RX12 138 12 0 0 .int := ⟨RX12, TX12, 83, wsX12_feed, tyX12, rfl, by decide, by decide, rfl, rfl, hts, hi12, hts (.fieldLink RX12 138 "HillArmsModel" "thrown" "I") (by decide +kernel), tyX12_ok, nmX12, rfl, by decide +kernel⟩
  have cw0 := cwV (R := (headSpec wsX12_feed ({ frames := 1, cells := 0, slots := 0, locals := 22 } : Room)).room) 1 hts gX12_feed_X12_come (rm := ({ frames := 0, cells := 0, slots := 0, locals := 0 } : Room)) (mc := 0) (ms := 0) rfl rfl rfl (by decide +kernel) ⟨Nat.le_of_ble_eq_true rfl, Nat.le_of_ble_eq_true rfl⟩
  have hl := lv_entry ([.ref (ad p0), .int p1, .int p2, .int p3, .int p4, .int p5]) (n := 6) (Nat.le_of_ble_eq_true rfl)
  rw [lg_entry_eq]
  generalize (lg_sl ([.ref (ad p0), .int p1, .int p2, .int p3, .int p4, .int p5]) ++ List.replicate (6 - (lg_sl ([.ref (ad p0), .int p1, .int p2, .int p3, .int p4, .int p5])).length) Slot.unset).toArray = ls at hl ⊢
  have hl : lv_has ls 6 [(0, .ref (ad p0)), (1, .int p1), (2, .int p2), (3, .int p3), (4, .int p4), (5, .int p5)] := hl
  refine (fun (K0 : ∀ (H : Heap) (locs : List Loc), va_P D vwCl (ha_wl cs ad mo_kd mo_ln N S) H → va_S (ha_A ad N) s.heap H locs → W p l e (headSpec wsX12_feed ({ frames := 1, cells := 0, slots := 0, locals := 22 } : Room)).room s m ([.ref (ad p0), .int p1, .int p2, .int p3, .int p4, .int p5] : List Value).toArray below meth c H locs 0 0 (MQ below (va_Qi (fun (r : Int32) (_ : Unit) => r = out.1) (fun _ => ha_H D cs ad mo_kd mo_ln N out.2) (ha_A ad N)) ([.ref (ad p0), .int p1, .int p2, .int p3, .int p4, .int p5] : List Value).toArray s 0 0 (ha_A ad N)) (F0 m 0 ls [])) => K0 _ _ hP hS) ?_
  intro H locs hP hS
  have hf := ha_rt hf
  unfold f_X12_feed at hf
  refine lv_aload_n hx hb dX12_feed_0 rfl (lv_at hl 0 rfl) ?_
  refine lv_iconst (v := 0) hx hb dX12_feed_1 (by decide) ?_
  refine ha_puti hx hb hown hK hP hD hS r138 hN h0 dX12_feed_2 (fun S1 H locs eS1 hP hD hS => ?_)
  have hf := ha_nms hf eS1
  refine lv_aload_n hx hb dX12_feed_5 rfl (lv_at hl 0 rfl) ?_
  refine ha_geti hx hb hown hK hP q141 hN h0 dX12_feed_6 ?_
  refine lv_bipush (v := 20) hx hb dX12_feed_9 (by decide) ?_
  refine lv_iadd hx hb dX12_feed_11 ?_
  refine lv_sipush (v := 440) hx hb dX12_feed_12 (by decide) ?_
  refine lv_icmp_le (tgt := 20) hx hb dX12_feed_15 (by decide) (fun c2 => ?_) (fun c2 => ?_)
  · have hf := ha_it hf c2
    refine lv_aload_n hx hb dX12_feed_20 rfl (lv_at hl 0 rfl) ?_
    refine lv_iload_n hx hb dX12_feed_21 rfl (lv_at hl 1 rfl) ?_
    obtain ⟨z3, wz3, hf⟩ := ha_bds hf
    refine ha_callVv (As := [.int p1]) (rest := []) hZ ⟨hx, hb, hml, hown, hts⟩ hK hz hP hD hS (c_X12_come hZ hN h0 wz3) cw0 hN h0 (by decide) rfl rfl hl.1 rfl (Nat.le_of_ble_eq_true rfl) dX12_feed_22 ⟨Nat.le_of_ble_eq_true rfl, Nat.le_of_ble_eq_true rfl⟩ (fun H locs hP hD hS => ?_)
    refine lv_aload_n hx hb dX12_feed_25 rfl (lv_at hl 0 rfl) ?_
    refine lv_iload_n hx hb dX12_feed_26 rfl (lv_at hl 2 rfl) ?_
    obtain ⟨z4, wz4, hf⟩ := ha_bds hf
    refine ha_callVv (As := [.int p2]) (rest := []) hZ ⟨hx, hb, hml, hown, hts⟩ hK hz hP hD hS (c_X12_come hZ hN h0 wz4) cw0 hN h0 (by decide) rfl rfl hl.1 rfl (Nat.le_of_ble_eq_true rfl) dX12_feed_27 ⟨Nat.le_of_ble_eq_true rfl, Nat.le_of_ble_eq_true rfl⟩ (fun H locs hP hD hS => ?_)
    refine lv_aload_n hx hb dX12_feed_30 rfl (lv_at hl 0 rfl) ?_
    refine lv_iload_n hx hb dX12_feed_31 rfl (lv_at hl 3 rfl) ?_
    obtain ⟨z5, wz5, hf⟩ := ha_bds hf
    refine ha_callVv (As := [.int p3]) (rest := []) hZ ⟨hx, hb, hml, hown, hts⟩ hK hz hP hD hS (c_X12_come hZ hN h0 wz5) cw0 hN h0 (by decide) rfl rfl hl.1 rfl (Nat.le_of_ble_eq_true rfl) dX12_feed_32 ⟨Nat.le_of_ble_eq_true rfl, Nat.le_of_ble_eq_true rfl⟩ (fun H locs hP hD hS => ?_)
    refine lv_aload_n hx hb dX12_feed_35 rfl (lv_at hl 0 rfl) ?_
    refine lv_iload hx hb dX12_feed_36 (lv_at hl 4 rfl) ?_
    obtain ⟨z6, wz6, hf⟩ := ha_bds hf
    refine ha_callVv (As := [.int p4]) (rest := []) hZ ⟨hx, hb, hml, hown, hts⟩ hK hz hP hD hS (c_X12_come hZ hN h0 wz6) cw0 hN h0 (by decide) rfl rfl hl.1 rfl (Nat.le_of_ble_eq_true rfl) dX12_feed_38 ⟨Nat.le_of_ble_eq_true rfl, Nat.le_of_ble_eq_true rfl⟩ (fun H locs hP hD hS => ?_)
    refine lv_aload_n hx hb dX12_feed_41 rfl (lv_at hl 0 rfl) ?_
    refine lv_iload hx hb dX12_feed_42 (lv_at hl 5 rfl) ?_
    obtain ⟨z7, wz7, hf⟩ := ha_bds hf
    refine ha_callVv (As := [.int p5]) (rest := []) hZ ⟨hx, hb, hml, hown, hts⟩ hK hz hP hD hS (c_X12_come hZ hN h0 wz7) cw0 hN h0 (by decide) rfl rfl hl.1 rfl (Nat.le_of_ble_eq_true rfl) dX12_feed_44 ⟨Nat.le_of_ble_eq_true rfl, Nat.le_of_ble_eq_true rfl⟩ (fun H locs hP hD hS => ?_)
    refine lv_aload_n hx hb dX12_feed_47 rfl (lv_at hl 0 rfl) ?_
    refine ha_geti hx hb hown hK hP q141 hN h0 dX12_feed_48 ?_
    have he := Option.some.inj hf
    exact ha_reti hx hb hr hlocks hP hD hS dX12_feed_51 (ha_e1 he) (ha_e2 he)
  · have hf := ha_if hf c2
    refine lv_iconst (v := (-1)) hx hb dX12_feed_18 (by decide) ?_
    have he := Option.some.inj hf
    exact ha_reti hx hb hr hlocks hP hD hS dX12_feed_19 (ha_e1 he) (ha_e2 he)

set_option maxHeartbeats 4000000 in
set_option maxRecDepth 100000 in
theorem c_X12_end {l : Launch} {D : va_G} {cs : Nat → ClassId} {ad : Nat → Nat} {N : List Nat} {Z : State → Prop} (hZ : ha_Zok (ha_A ad N) Z) (hN : ∀ x, mo_kd x < 999 → x ∈ N) {p0 : Nat} {p1 : Int32} {S : ha_St} {out : Int32 × ha_St} (h0 : mo_kd p0 = 12) (hf : f_X12_end p0 p1 S = some out) : ha_Ci l D cs ad mo_kd mo_ln N Z yX12_end wsX12_end ({ frames := 0, cells := 0, slots := 0, locals := 0 } : Room) [.ref (ad p0), .int p1] S out.1 out.2 := by
  refine Met.ofW (cc := cX12_end) (maxL := 2) (ret := (some .boolean)) (by decide +kernel) rfl ?_
  intro p e s m args below meth c s₁ B hml hv
  obtain ⟨rfl, hP, hD, hK, hz⟩ := hv
  have hx := B.exec
  have hb := B.bytes
  have hr := B.returns
  have hts := atoms_spec (ws := wsX12_end) B.pre
  have hown : s.vm.findClass RX12 = some m.cls := findClass_of_methodNamed B.named
  have hlocks := B.notSynchronized
  have hS : va_S (ha_A ad N) s.heap s.heap [] := va_S.rf
  have hi12 : ∀ w ∈ wsX120, w ∈ wsX12_end := fun w h => List.mem_cons_of_mem _ (List.mem_append_right _ h)
  have q141 : ha_Fk s ([.ref (ad p0), .int p1] : List Value).toArray RX12 141 12 2 0 := ⟨RX12, TX12, 83, wsX12_end, rfl, by decide, by decide, rfl, rfl, hts, hi12, hts (.fieldLink RX12 141 "HillArmsModel" "taped" "I") (by decide +kernel)⟩
  have r138 : ha_Fp s ([.ref (ad p0), .int p1] : List Value).toArray RX12 138 12 0 0 .int := ⟨RX12, TX12, 83, wsX12_end, tyX12, rfl, by decide, by decide, rfl, rfl, hts, hi12, hts (.fieldLink RX12 138 "HillArmsModel" "thrown" "I") (by decide +kernel), tyX12_ok, nmX12, rfl, by decide +kernel⟩
  have r141 : ha_Fp s ([.ref (ad p0), .int p1] : List Value).toArray RX12 141 12 2 0 .int := ⟨RX12, TX12, 83, wsX12_end, tyX12, rfl, by decide, by decide, rfl, rfl, hts, hi12, hts (.fieldLink RX12 141 "HillArmsModel" "taped" "I") (by decide +kernel), tyX12_ok, nmX12, rfl, by decide +kernel⟩
  have hl := lv_entry ([.ref (ad p0), .int p1]) (n := 2) (Nat.le_of_ble_eq_true rfl)
  rw [lg_entry_eq]
  generalize (lg_sl ([.ref (ad p0), .int p1]) ++ List.replicate (2 - (lg_sl ([.ref (ad p0), .int p1])).length) Slot.unset).toArray = ls at hl ⊢
  have hl : lv_has ls 2 [(0, .ref (ad p0)), (1, .int p1)] := hl
  refine (fun (K0 : ∀ (H : Heap) (locs : List Loc), va_P D vwCl (ha_wl cs ad mo_kd mo_ln N S) H → va_S (ha_A ad N) s.heap H locs → W p l e (headSpec wsX12_end ({ frames := 0, cells := 0, slots := 0, locals := 0 } : Room)).room s m ([.ref (ad p0), .int p1] : List Value).toArray below meth c H locs 0 0 (MQ below (va_Qi (fun (r : Int32) (_ : Unit) => r = out.1) (fun _ => ha_H D cs ad mo_kd mo_ln N out.2) (ha_A ad N)) ([.ref (ad p0), .int p1] : List Value).toArray s 0 0 (ha_A ad N)) (F0 m 0 ls [])) => K0 _ _ hP hS) ?_
  intro H locs hP hS
  have hf := ha_rt hf
  have J17 : ∀  (S : ha_St) (H : Heap) (locs : List Loc) (ls : Array Slot), (f_X12_end_J17 p0 p1  S).bind some = some out → va_P D vwCl (ha_wl cs ad mo_kd mo_ln N S) H → va_D (ha_A ad N) (ha_wl cs ad mo_kd mo_ln N S) → va_S (ha_A ad N) s.heap H locs → lv_has ls 2 [(0, .ref (ad p0)), (1, .int p1)] → W p l e (headSpec wsX12_end ({ frames := 0, cells := 0, slots := 0, locals := 0 } : Room)).room s m ([.ref (ad p0), .int p1] : List Value).toArray below meth c H locs 0 0 (MQ below (va_Qi (fun (r : Int32) (_ : Unit) => r = out.1) (fun _ => ha_H D cs ad mo_kd mo_ln N out.2) (ha_A ad N)) ([.ref (ad p0), .int p1] : List Value).toArray s 0 0 (ha_A ad N)) (F0 m 17 ls []) := by
    intro  S H locs ls hf  hP hD hS hl
    unfold f_X12_end_J17 at hf
    refine lv_iconst (v := 0) hx hb dX12_end_17 (by decide) ?_
    have he := Option.some.inj hf
    exact ha_retz hx hb hr hlocks hP hD hS dX12_end_18 (by decide) (ha_e1 he) (ha_e2 he)
  unfold f_X12_end at hf
  refine lv_aload_n hx hb dX12_end_0 rfl (lv_at hl 0 rfl) ?_
  refine lv_iconst (v := 0) hx hb dX12_end_1 (by decide) ?_
  refine ha_puti hx hb hown hK hP hD hS r138 hN h0 dX12_end_2 (fun S1 H locs eS1 hP hD hS => ?_)
  have hf := ha_nms hf eS1
  refine lv_iload_n hx hb dX12_end_5 rfl (lv_at hl 1 rfl) ?_
  refine lv_if_lt (tgt := 17) hx hb dX12_end_6 (by decide) (fun c2 => ?_) (fun c2 => ?_)
  · have hf := ha_it hf c2
    exact J17  S1 H locs ls hf  hP hD hS (lv_sub hl [0, 1] rfl)
  · have hf := ha_if hf c2
    refine lv_iload_n hx hb dX12_end_9 rfl (lv_at hl 1 rfl) ?_
    refine lv_aload_n hx hb dX12_end_10 rfl (lv_at hl 0 rfl) ?_
    refine ha_geti hx hb hown hK hP q141 hN h0 dX12_end_11 ?_
    refine lv_icmp_le (tgt := 19) hx hb dX12_end_14 (by decide) (fun c3 => ?_) (fun c3 => ?_)
    · have hf := ha_it hf c3
      refine lv_aload_n hx hb dX12_end_19 rfl (lv_at hl 0 rfl) ?_
      refine lv_iload_n hx hb dX12_end_20 rfl (lv_at hl 1 rfl) ?_
      refine ha_puti hx hb hown hK hP hD hS r141 hN h0 dX12_end_21 (fun S4 H locs eS4 hP hD hS => ?_)
      have hf := ha_nms hf eS4
      refine lv_iconst (v := 1) hx hb dX12_end_24 (by decide) ?_
      have he := Option.some.inj hf
      exact ha_retz hx hb hr hlocks hP hD hS dX12_end_25 (by decide) (ha_e1 he) (ha_e2 he)
    · have hf := ha_if hf c3
      exact J17  S1 H locs ls hf  hP hD hS (lv_sub hl [0, 1] rfl)

set_option maxHeartbeats 4000000 in
set_option maxRecDepth 100000 in
theorem c_X12_take {l : Launch} {D : va_G} {cs : Nat → ClassId} {ad : Nat → Nat} {N : List Nat} {Z : State → Prop} (hZ : ha_Zok (ha_A ad N) Z) (hN : ∀ x, mo_kd x < 999 → x ∈ N) {p0 : Nat} {S : ha_St} {out : Int32 × ha_St} (h0 : mo_kd p0 = 12) (hf : f_X12_take p0 S = some out) : ha_Ci l D cs ad mo_kd mo_ln N Z yX12_take wsX12_take ({ frames := 0, cells := 0, slots := 0, locals := 0 } : Room) [.ref (ad p0)] S out.1 out.2 := by
  refine Met.ofW (cc := cX12_take) (maxL := 2) (ret := (some .int)) (by decide +kernel) rfl ?_
  intro p e s m args below meth c s₁ B hml hv
  obtain ⟨rfl, hP, hD, hK, hz⟩ := hv
  have hx := B.exec
  have hb := B.bytes
  have hr := B.returns
  have hts := atoms_spec (ws := wsX12_take) B.pre
  have hown : s.vm.findClass RX12 = some m.cls := findClass_of_methodNamed B.named
  have hlocks := B.notSynchronized
  have hS : va_S (ha_A ad N) s.heap s.heap [] := va_S.rf
  have hi12 : ∀ w ∈ wsX120, w ∈ wsX12_take := fun w h => List.mem_cons_of_mem _ (List.mem_append_right _ h)
  have q141 : ha_Fk s ([.ref (ad p0)] : List Value).toArray RX12 141 12 2 0 := ⟨RX12, TX12, 83, wsX12_take, rfl, by decide, by decide, rfl, rfl, hts, hi12, hts (.fieldLink RX12 141 "HillArmsModel" "taped" "I") (by decide +kernel)⟩
  have r141 : ha_Fp s ([.ref (ad p0)] : List Value).toArray RX12 141 12 2 0 .int := ⟨RX12, TX12, 83, wsX12_take, tyX12, rfl, by decide, by decide, rfl, rfl, hts, hi12, hts (.fieldLink RX12 141 "HillArmsModel" "taped" "I") (by decide +kernel), tyX12_ok, nmX12, rfl, by decide +kernel⟩
  have hl := lv_entry ([.ref (ad p0)]) (n := 2) (Nat.le_of_ble_eq_true rfl)
  rw [lg_entry_eq]
  generalize (lg_sl ([.ref (ad p0)]) ++ List.replicate (2 - (lg_sl ([.ref (ad p0)])).length) Slot.unset).toArray = ls at hl ⊢
  have hl : lv_has ls 2 [(0, .ref (ad p0))] := hl
  refine (fun (K0 : ∀ (H : Heap) (locs : List Loc), va_P D vwCl (ha_wl cs ad mo_kd mo_ln N S) H → va_S (ha_A ad N) s.heap H locs → W p l e (headSpec wsX12_take ({ frames := 0, cells := 0, slots := 0, locals := 0 } : Room)).room s m ([.ref (ad p0)] : List Value).toArray below meth c H locs 0 0 (MQ below (va_Qi (fun (r : Int32) (_ : Unit) => r = out.1) (fun _ => ha_H D cs ad mo_kd mo_ln N out.2) (ha_A ad N)) ([.ref (ad p0)] : List Value).toArray s 0 0 (ha_A ad N)) (F0 m 0 ls [])) => K0 _ _ hP hS) ?_
  intro H locs hP hS
  have hf := ha_rt hf
  unfold f_X12_take at hf
  refine lv_aload_n hx hb dX12_take_0 rfl (lv_at hl 0 rfl) ?_
  refine ha_geti hx hb hown hK hP q141 hN h0 dX12_take_1 ?_
  refine lv_topi (fun x1 ex1 => ?_)
  have hf := ha_nms hf ex1
  refine lv_istore_n (lv' := [(1, .int x1), (0, .ref (ad p0))]) hx hb dX12_take_4 rfl hl (by decide) rfl (fun ls hl => ?_)
  refine lv_aload_n hx hb dX12_take_5 rfl (lv_at hl 1 rfl) ?_
  refine lv_iconst (v := 0) hx hb dX12_take_6 (by decide) ?_
  refine ha_puti hx hb hown hK hP hD hS r141 hN h0 dX12_take_7 (fun S2 H locs eS2 hP hD hS => ?_)
  have hf := ha_nms hf eS2
  refine lv_iload_n hx hb dX12_take_10 rfl (lv_at hl 0 rfl) ?_
  have he := Option.some.inj hf
  exact ha_reti hx hb hr hlocks hP hD hS dX12_take_11 (ha_e1 he) (ha_e2 he)

set_option maxHeartbeats 4000000 in
set_option maxRecDepth 100000 in
theorem c_X12_isIn {l : Launch} {D : va_G} {cs : Nat → ClassId} {ad kd ln : Nat → Nat} {N : List Nat} {Z : State → Prop}  {p0 : Int32} {p1 : Int32} {p2 : Int32} {S : ha_St} {out : Int32}  (hf : f_X12_isIn p0 p1 p2 = some out) : ha_Ci l D cs ad kd ln N Z yX12_isIn wsX12_isIn ({ frames := 0, cells := 0, slots := 0, locals := 0 } : Room) [.int p0, .int p1, .int p2] S out S := by
  refine Met.ofW (cc := cX12_isIn) (maxL := 3) (ret := (some .boolean)) (by decide +kernel) rfl ?_
  intro p e s m args below meth c s₁ B hml hv
  obtain ⟨rfl, hP, hD, hK, hz⟩ := hv
  have hx := B.exec
  have hb := B.bytes
  have hr := B.returns
  have hts := atoms_spec (ws := wsX12_isIn) B.pre
  have hown : s.vm.findClass RX12 = some m.cls := findClass_of_methodNamed B.named
  have hlocks := B.notSynchronized
  have hS : va_S (ha_A ad N) s.heap s.heap [] := va_S.rf
  have hl := lv_entry ([.int p0, .int p1, .int p2]) (n := 3) (Nat.le_of_ble_eq_true rfl)
  rw [lg_entry_eq]
  generalize (lg_sl ([.int p0, .int p1, .int p2]) ++ List.replicate (3 - (lg_sl ([.int p0, .int p1, .int p2])).length) Slot.unset).toArray = ls at hl ⊢
  have hl : lv_has ls 3 [(0, .int p0), (1, .int p1), (2, .int p2)] := hl
  refine (fun (K0 : ∀ (H : Heap) (locs : List Loc), va_P D vwCl (ha_wl cs ad kd ln N S) H → va_S (ha_A ad N) s.heap H locs → W p l e (headSpec wsX12_isIn ({ frames := 0, cells := 0, slots := 0, locals := 0 } : Room)).room s m ([.int p0, .int p1, .int p2] : List Value).toArray below meth c H locs 0 0 (MQ below (va_Qi (fun (r : Int32) (_ : Unit) => r = out) (fun _ => ha_H D cs ad kd ln N S) (ha_A ad N)) ([.int p0, .int p1, .int p2] : List Value).toArray s 0 0 (ha_A ad N)) (F0 m 0 ls [])) => K0 _ _ hP hS) ?_
  intro H locs hP hS
  have hf := ha_rt hf
  have J15 : ∀ (k0 : Int32) (H : Heap) (locs : List Loc) (ls : Array Slot), (f_X12_isIn_J15 p0 p1 p2 k0).bind some = some out → va_P D vwCl (ha_wl cs ad kd ln N S) H → va_D (ha_A ad N) (ha_wl cs ad kd ln N S) → va_S (ha_A ad N) s.heap H locs → lv_has ls 3 [(0, .int p0), (1, .int p1), (2, .int p2)] → W p l e (headSpec wsX12_isIn ({ frames := 0, cells := 0, slots := 0, locals := 0 } : Room)).room s m ([.int p0, .int p1, .int p2] : List Value).toArray below meth c H locs 0 0 (MQ below (va_Qi (fun (r : Int32) (_ : Unit) => r = out) (fun _ => ha_H D cs ad kd ln N S) (ha_A ad N)) ([.int p0, .int p1, .int p2] : List Value).toArray s 0 0 (ha_A ad N)) (F0 m 15 ls [.int k0]) := by
    intro k0 H locs ls hf  hP hD hS hl
    unfold f_X12_isIn_J15 at hf
    obtain ⟨g1, hf⟩ := ha_gds hf
    have he := Option.some.inj hf
    exact ha_retz hx hb hr hlocks hP hD hS dX12_isIn_15 g1 he rfl
  have J14 : ∀  (H : Heap) (locs : List Loc) (ls : Array Slot), (f_X12_isIn_J14 p0 p1 p2 ).bind some = some out → va_P D vwCl (ha_wl cs ad kd ln N S) H → va_D (ha_A ad N) (ha_wl cs ad kd ln N S) → va_S (ha_A ad N) s.heap H locs → lv_has ls 3 [(0, .int p0), (1, .int p1), (2, .int p2)] → W p l e (headSpec wsX12_isIn ({ frames := 0, cells := 0, slots := 0, locals := 0 } : Room)).room s m ([.int p0, .int p1, .int p2] : List Value).toArray below meth c H locs 0 0 (MQ below (va_Qi (fun (r : Int32) (_ : Unit) => r = out) (fun _ => ha_H D cs ad kd ln N S) (ha_A ad N)) ([.int p0, .int p1, .int p2] : List Value).toArray s 0 0 (ha_A ad N)) (F0 m 14 ls []) := by
    intro  H locs ls hf  hP hD hS hl
    unfold f_X12_isIn_J14 at hf
    refine lv_iconst (v := 0) hx hb dX12_isIn_14 (by decide) ?_
    exact J15 0 H locs ls hf  hP hD hS (lv_sub hl [0, 1, 2] rfl)
  unfold f_X12_isIn at hf
  refine lv_iload_n hx hb dX12_isIn_0 rfl (lv_at hl 0 rfl) ?_
  refine lv_iload_n hx hb dX12_isIn_1 rfl (lv_at hl 1 rfl) ?_
  refine lv_icmp_lt (tgt := 14) hx hb dX12_isIn_2 (by decide) (fun c2 => ?_) (fun c2 => ?_)
  · have hf := ha_it hf c2
    exact J14  H locs ls hf  hP hD hS (lv_sub hl [0, 1, 2] rfl)
  · have hf := ha_if hf c2
    refine lv_iload_n hx hb dX12_isIn_5 rfl (lv_at hl 0 rfl) ?_
    refine lv_iload_n hx hb dX12_isIn_6 rfl (lv_at hl 2 rfl) ?_
    refine lv_icmp_gt (tgt := 14) hx hb dX12_isIn_7 (by decide) (fun c3 => ?_) (fun c3 => ?_)
    · have hf := ha_it hf c3
      exact J14  H locs ls hf  hP hD hS (lv_sub hl [0, 1, 2] rfl)
    · have hf := ha_if hf c3
      refine lv_iconst (v := 1) hx hb dX12_isIn_10 (by decide) ?_
      refine lv_goto (tgt := 15) hx hb dX12_isIn_11 (by decide) ?_
      exact J15 1 H locs ls hf  hP hD hS (lv_sub hl [0, 1, 2] rfl)

set_option maxHeartbeats 4000000 in
set_option maxRecDepth 100000 in
theorem c_X12_next {l : Launch} {D : va_G} {cs : Nat → ClassId} {ad : Nat → Nat} {N : List Nat} {Z : State → Prop} (hZ : ha_Zok (ha_A ad N) Z) (hN : ∀ x, mo_kd x < 999 → x ∈ N) {p0 : Nat} {p1 : Int32} {S : ha_St} {out : Int32 × ha_St} (h0 : mo_kd p0 = 12) (hf : f_X12_next p0 p1 S = some out) : ha_Ci l D cs ad mo_kd mo_ln N Z yX12_next wsX12_next ({ frames := 1, cells := 0, slots := 0, locals := 22 } : Room) [.ref (ad p0), .int p1] S out.1 out.2 := by
  refine Met.ofW (cc := cX12_next) (maxL := 2) (ret := (some .int)) (by decide +kernel) rfl ?_
  intro p e s m args below meth c s₁ B hml hv
  obtain ⟨rfl, hP, hD, hK, hz⟩ := hv
  have hx := B.exec
  have hb := B.bytes
  have hr := B.returns
  have hts := atoms_spec (ws := wsX12_next) B.pre
  have hown : s.vm.findClass RX12 = some m.cls := findClass_of_methodNamed B.named
  have hlocks := B.notSynchronized
  have hS : va_S (ha_A ad N) s.heap s.heap [] := va_S.rf
  have hi12 : ∀ w ∈ wsX120, w ∈ wsX12_next := fun w h => List.mem_cons_of_mem _ (List.mem_append_right _ h)
  have q152 : ha_Fk s ([.ref (ad p0), .int p1] : List Value).toArray RX12 152 12 3 0 := ⟨RX12, TX12, 83, wsX12_next, rfl, by decide, by decide, rfl, rfl, hts, hi12, hts (.fieldLink RX12 152 "HillArmsModel" "today" "I") (by decide +kernel)⟩
  have r138 : ha_Fp s ([.ref (ad p0), .int p1] : List Value).toArray RX12 138 12 0 0 .int := ⟨RX12, TX12, 83, wsX12_next, tyX12, rfl, by decide, by decide, rfl, rfl, hts, hi12, hts (.fieldLink RX12 138 "HillArmsModel" "thrown" "I") (by decide +kernel), tyX12_ok, nmX12, rfl, by decide +kernel⟩
  have r152 : ha_Fp s ([.ref (ad p0), .int p1] : List Value).toArray RX12 152 12 3 0 .int := ⟨RX12, TX12, 83, wsX12_next, tyX12, rfl, by decide, by decide, rfl, rfl, hts, hi12, hts (.fieldLink RX12 152 "HillArmsModel" "today" "I") (by decide +kernel), tyX12_ok, nmX12, rfl, by decide +kernel⟩
  have cw0 := va_cwS (R := (headSpec wsX12_next ({ frames := 1, cells := 0, slots := 0, locals := 22 } : Room)).room) 3 hts gX12_next_X12_isIn (rm := ({ frames := 0, cells := 0, slots := 0, locals := 0 } : Room)) (mc := 0) (ms := 0) rfl rfl rfl (by decide +kernel) ⟨Nat.le_of_ble_eq_true rfl, Nat.le_of_ble_eq_true rfl⟩
  have hl := lv_entry ([.ref (ad p0), .int p1]) (n := 2) (Nat.le_of_ble_eq_true rfl)
  rw [lg_entry_eq]
  generalize (lg_sl ([.ref (ad p0), .int p1]) ++ List.replicate (2 - (lg_sl ([.ref (ad p0), .int p1])).length) Slot.unset).toArray = ls at hl ⊢
  have hl : lv_has ls 2 [(0, .ref (ad p0)), (1, .int p1)] := hl
  refine (fun (K0 : ∀ (H : Heap) (locs : List Loc), va_P D vwCl (ha_wl cs ad mo_kd mo_ln N S) H → va_S (ha_A ad N) s.heap H locs → W p l e (headSpec wsX12_next ({ frames := 1, cells := 0, slots := 0, locals := 22 } : Room)).room s m ([.ref (ad p0), .int p1] : List Value).toArray below meth c H locs 0 0 (MQ below (va_Qi (fun (r : Int32) (_ : Unit) => r = out.1) (fun _ => ha_H D cs ad mo_kd mo_ln N out.2) (ha_A ad N)) ([.ref (ad p0), .int p1] : List Value).toArray s 0 0 (ha_A ad N)) (F0 m 0 ls [])) => K0 _ _ hP hS) ?_
  intro H locs hP hS
  have hf := ha_rt hf
  have J28 : ∀  (S : ha_St) (H : Heap) (locs : List Loc) (ls : Array Slot), (f_X12_next_J28 p0 p1  S).bind some = some out → va_P D vwCl (ha_wl cs ad mo_kd mo_ln N S) H → va_D (ha_A ad N) (ha_wl cs ad mo_kd mo_ln N S) → va_S (ha_A ad N) s.heap H locs → lv_has ls 2 [(0, .ref (ad p0)), (1, .int p1)] → W p l e (headSpec wsX12_next ({ frames := 1, cells := 0, slots := 0, locals := 22 } : Room)).room s m ([.ref (ad p0), .int p1] : List Value).toArray below meth c H locs 0 0 (MQ below (va_Qi (fun (r : Int32) (_ : Unit) => r = out.1) (fun _ => ha_H D cs ad mo_kd mo_ln N out.2) (ha_A ad N)) ([.ref (ad p0), .int p1] : List Value).toArray s 0 0 (ha_A ad N)) (F0 m 28 ls []) := by
    intro  S H locs ls hf  hP hD hS hl
    unfold f_X12_next_J28 at hf
    refine lv_iconst (v := (-1)) hx hb dX12_next_28 (by decide) ?_
    have he := Option.some.inj hf
    exact ha_reti hx hb hr hlocks hP hD hS dX12_next_29 (ha_e1 he) (ha_e2 he)
  unfold f_X12_next at hf
  refine lv_aload_n hx hb dX12_next_0 rfl (lv_at hl 0 rfl) ?_
  refine lv_iconst (v := 0) hx hb dX12_next_1 (by decide) ?_
  refine ha_puti hx hb hown hK hP hD hS r138 hN h0 dX12_next_2 (fun S1 H locs eS1 hP hD hS => ?_)
  have hf := ha_nms hf eS1
  refine lv_iload_n hx hb dX12_next_5 rfl (lv_at hl 1 rfl) ?_
  refine lv_iconst (v := 0) hx hb dX12_next_6 (by decide) ?_
  refine lv_sipush (v := 999) hx hb dX12_next_7 (by decide) ?_
  obtain ⟨z2, wz2, hf⟩ := ha_bds hf
  refine ha_callSi (As := [.int p1, .int 0, .int 999]) (rest := []) hZ ⟨hx, hb, hml, hown, hts⟩ hK hz hP hD hS (c_X12_isIn   wz2) cw0 rfl hl.1 rfl (Nat.le_of_ble_eq_true rfl) dX12_next_10 ⟨Nat.le_of_ble_eq_true rfl, Nat.le_of_ble_eq_true rfl⟩ (fun H locs hP hD hS => ?_)
  refine lv_if_eq (tgt := 28) hx hb dX12_next_13 (by decide) (fun c3 => ?_) (fun c3 => ?_)
  · have hf := ha_it hf c3
    exact J28  S1 H locs ls hf  hP hD hS (lv_sub hl [0, 1] rfl)
  · have hf := ha_if hf c3
    refine lv_aload_n hx hb dX12_next_16 rfl (lv_at hl 0 rfl) ?_
    refine ha_geti hx hb hown hK hP q152 hN h0 dX12_next_17 ?_
    refine lv_iload_n hx hb dX12_next_20 rfl (lv_at hl 1 rfl) ?_
    refine lv_iadd hx hb dX12_next_21 ?_
    refine lv_sipush (v := 999) hx hb dX12_next_22 (by decide) ?_
    refine lv_icmp_le (tgt := 30) hx hb dX12_next_25 (by decide) (fun c4 => ?_) (fun c4 => ?_)
    · have hf := ha_it hf c4
      refine lv_aload_n hx hb dX12_next_30 rfl (lv_at hl 0 rfl) ?_
      refine lv_dup hx hb dX12_next_31 rfl ?_
      refine ha_geti hx hb hown hK hP q152 hN h0 dX12_next_32 ?_
      refine lv_iload_n hx hb dX12_next_35 rfl (lv_at hl 1 rfl) ?_
      refine lv_iadd hx hb dX12_next_36 ?_
      refine ha_puti hx hb hown hK hP hD hS r152 hN h0 dX12_next_37 (fun S5 H locs eS5 hP hD hS => ?_)
      have hf := ha_nms hf eS5
      refine lv_aload_n hx hb dX12_next_40 rfl (lv_at hl 0 rfl) ?_
      refine ha_geti hx hb hown hK hP q152 hN h0 dX12_next_41 ?_
      have he := Option.some.inj hf
      exact ha_reti hx hb hr hlocks hP hD hS dX12_next_44 (ha_e1 he) (ha_e2 he)
    · have hf := ha_if hf c4
      exact J28  S1 H locs ls hf  hP hD hS (lv_sub hl [0, 1] rfl)

set_option maxHeartbeats 4000000 in
set_option maxRecDepth 100000 in
theorem c_X12_towers {l : Launch} {D : va_G} {cs : Nat → ClassId} {ad : Nat → Nat} {N : List Nat} {Z : State → Prop} (hZ : ha_Zok (ha_A ad N) Z) (hN : ∀ x, mo_kd x < 999 → x ∈ N) {p0 : Nat} {p1 : Int32} {S : ha_St} {out : Int32 × ha_St} (h0 : mo_kd p0 = 12) (hf : f_X12_towers p0 p1 S = some out) : ha_Ci l D cs ad mo_kd mo_ln N Z yX12_towers wsX12_towers ({ frames := 1, cells := 0, slots := 0, locals := 22 } : Room) [.ref (ad p0), .int p1] S out.1 out.2 := by
  refine Met.ofW (cc := cX12_towers) (maxL := 2) (ret := (some .boolean)) (by decide +kernel) rfl ?_
  intro p e s m args below meth c s₁ B hml hv
  obtain ⟨rfl, hP, hD, hK, hz⟩ := hv
  have hx := B.exec
  have hb := B.bytes
  have hr := B.returns
  have hts := atoms_spec (ws := wsX12_towers) B.pre
  have hown : s.vm.findClass RX12 = some m.cls := findClass_of_methodNamed B.named
  have hlocks := B.notSynchronized
  have hS : va_S (ha_A ad N) s.heap s.heap [] := va_S.rf
  have hi12 : ∀ w ∈ wsX120, w ∈ wsX12_towers := fun w h => List.mem_cons_of_mem _ (List.mem_append_right _ h)
  have q155 : ha_Fk s ([.ref (ad p0), .int p1] : List Value).toArray RX12 155 12 31 0 := ⟨RX12, TX12, 83, wsX12_towers, rfl, by decide, by decide, rfl, rfl, hts, hi12, hts (.fieldLink RX12 155 "HillArmsModel" "fogs" "I") (by decide +kernel)⟩
  have q158 : ha_Fk s ([.ref (ad p0), .int p1] : List Value).toArray RX12 158 12 80 0 := ⟨RX12, TX12, 83, wsX12_towers, rfl, by decide, by decide, rfl, rfl, hts, hi12, hts (.fieldLink RX12 158 "HillArmsModel" "notes" "I") (by decide +kernel)⟩
  have r138 : ha_Fp s ([.ref (ad p0), .int p1] : List Value).toArray RX12 138 12 0 0 .int := ⟨RX12, TX12, 83, wsX12_towers, tyX12, rfl, by decide, by decide, rfl, rfl, hts, hi12, hts (.fieldLink RX12 138 "HillArmsModel" "thrown" "I") (by decide +kernel), tyX12_ok, nmX12, rfl, by decide +kernel⟩
  have r13 : ha_Fp s ([.ref (ad p0), .int p1] : List Value).toArray RX12 13 12 4 0 .int := ⟨RX12, TX12, 83, wsX12_towers, tyX12, rfl, by decide, by decide, rfl, rfl, hts, hi12, hts (.fieldLink RX12 13 "HillArmsModel" "n" "I") (by decide +kernel), tyX12_ok, nmX12, rfl, by decide +kernel⟩
  have cw0 := va_cwS (R := (headSpec wsX12_towers ({ frames := 1, cells := 0, slots := 0, locals := 22 } : Room)).room) 3 hts gX12_towers_X12_isIn (rm := ({ frames := 0, cells := 0, slots := 0, locals := 0 } : Room)) (mc := 0) (ms := 0) rfl rfl rfl (by decide +kernel) ⟨Nat.le_of_ble_eq_true rfl, Nat.le_of_ble_eq_true rfl⟩
  have hl := lv_entry ([.ref (ad p0), .int p1]) (n := 2) (Nat.le_of_ble_eq_true rfl)
  rw [lg_entry_eq]
  generalize (lg_sl ([.ref (ad p0), .int p1]) ++ List.replicate (2 - (lg_sl ([.ref (ad p0), .int p1])).length) Slot.unset).toArray = ls at hl ⊢
  have hl : lv_has ls 2 [(0, .ref (ad p0)), (1, .int p1)] := hl
  refine (fun (K0 : ∀ (H : Heap) (locs : List Loc), va_P D vwCl (ha_wl cs ad mo_kd mo_ln N S) H → va_S (ha_A ad N) s.heap H locs → W p l e (headSpec wsX12_towers ({ frames := 1, cells := 0, slots := 0, locals := 22 } : Room)).room s m ([.ref (ad p0), .int p1] : List Value).toArray below meth c H locs 0 0 (MQ below (va_Qi (fun (r : Int32) (_ : Unit) => r = out.1) (fun _ => ha_H D cs ad mo_kd mo_ln N out.2) (ha_A ad N)) ([.ref (ad p0), .int p1] : List Value).toArray s 0 0 (ha_A ad N)) (F0 m 0 ls [])) => K0 _ _ hP hS) ?_
  intro H locs hP hS
  have hf := ha_rt hf
  have J29 : ∀  (S : ha_St) (H : Heap) (locs : List Loc) (ls : Array Slot), (f_X12_towers_J29 p0 p1  S).bind some = some out → va_P D vwCl (ha_wl cs ad mo_kd mo_ln N S) H → va_D (ha_A ad N) (ha_wl cs ad mo_kd mo_ln N S) → va_S (ha_A ad N) s.heap H locs → lv_has ls 2 [(0, .ref (ad p0)), (1, .int p1)] → W p l e (headSpec wsX12_towers ({ frames := 1, cells := 0, slots := 0, locals := 22 } : Room)).room s m ([.ref (ad p0), .int p1] : List Value).toArray below meth c H locs 0 0 (MQ below (va_Qi (fun (r : Int32) (_ : Unit) => r = out.1) (fun _ => ha_H D cs ad mo_kd mo_ln N out.2) (ha_A ad N)) ([.ref (ad p0), .int p1] : List Value).toArray s 0 0 (ha_A ad N)) (F0 m 29 ls []) := by
    intro  S H locs ls hf  hP hD hS hl
    unfold f_X12_towers_J29 at hf
    refine lv_iconst (v := 0) hx hb dX12_towers_29 (by decide) ?_
    have he := Option.some.inj hf
    exact ha_retz hx hb hr hlocks hP hD hS dX12_towers_30 (by decide) (ha_e1 he) (ha_e2 he)
  unfold f_X12_towers at hf
  refine lv_aload_n hx hb dX12_towers_0 rfl (lv_at hl 0 rfl) ?_
  refine lv_iconst (v := 0) hx hb dX12_towers_1 (by decide) ?_
  refine ha_puti hx hb hown hK hP hD hS r138 hN h0 dX12_towers_2 (fun S1 H locs eS1 hP hD hS => ?_)
  have hf := ha_nms hf eS1
  refine lv_iload_n hx hb dX12_towers_5 rfl (lv_at hl 1 rfl) ?_
  refine lv_iconst (v := 3) hx hb dX12_towers_6 (by decide) ?_
  refine lv_bipush (v := 16) hx hb dX12_towers_7 (by decide) ?_
  obtain ⟨z2, wz2, hf⟩ := ha_bds hf
  refine ha_callSi (As := [.int p1, .int 3, .int 16]) (rest := []) hZ ⟨hx, hb, hml, hown, hts⟩ hK hz hP hD hS (c_X12_isIn   wz2) cw0 rfl hl.1 rfl (Nat.le_of_ble_eq_true rfl) dX12_towers_9 ⟨Nat.le_of_ble_eq_true rfl, Nat.le_of_ble_eq_true rfl⟩ (fun H locs hP hD hS => ?_)
  refine lv_if_eq (tgt := 29) hx hb dX12_towers_12 (by decide) (fun c3 => ?_) (fun c3 => ?_)
  · have hf := ha_it hf c3
    exact J29  S1 H locs ls hf  hP hD hS (lv_sub hl [0, 1] rfl)
  · have hf := ha_if hf c3
    refine lv_aload_n hx hb dX12_towers_15 rfl (lv_at hl 0 rfl) ?_
    refine ha_geti hx hb hown hK hP q155 hN h0 dX12_towers_16 ?_
    refine lv_if_gt (tgt := 29) hx hb dX12_towers_19 (by decide) (fun c4 => ?_) (fun c4 => ?_)
    · have hf := ha_it hf c4
      exact J29  S1 H locs ls hf  hP hD hS (lv_sub hl [0, 1] rfl)
    · have hf := ha_if hf c4
      refine lv_aload_n hx hb dX12_towers_22 rfl (lv_at hl 0 rfl) ?_
      refine ha_geti hx hb hown hK hP q158 hN h0 dX12_towers_23 ?_
      refine lv_if_le (tgt := 31) hx hb dX12_towers_26 (by decide) (fun c5 => ?_) (fun c5 => ?_)
      · have hf := ha_it hf c5
        refine lv_aload_n hx hb dX12_towers_31 rfl (lv_at hl 0 rfl) ?_
        refine lv_iload_n hx hb dX12_towers_32 rfl (lv_at hl 1 rfl) ?_
        refine ha_puti hx hb hown hK hP hD hS r13 hN h0 dX12_towers_33 (fun S6 H locs eS6 hP hD hS => ?_)
        have hf := ha_nms hf eS6
        refine lv_iconst (v := 1) hx hb dX12_towers_36 (by decide) ?_
        have he := Option.some.inj hf
        exact ha_retz hx hb hr hlocks hP hD hS dX12_towers_37 (by decide) (ha_e1 he) (ha_e2 he)
      · have hf := ha_if hf c5
        exact J29  S1 H locs ls hf  hP hD hS (lv_sub hl [0, 1] rfl)

set_option maxHeartbeats 4000000 in
set_option maxRecDepth 100000 in
theorem c_X12_byteAt {l : Launch} {D : va_G} {cs : Nat → ClassId} {ad : Nat → Nat} {N : List Nat} {Z : State → Prop} (hZ : ha_Zok (ha_A ad N) Z) (hN : ∀ x, mo_kd x < 999 → x ∈ N) {p0 : Nat} {p1 : Int32} {S : ha_St} {out : Int32 × ha_St} (h0 : mo_kd p0 = 12) (hf : f_X12_byteAt p0 p1 S = some out) : ha_Ci l D cs ad mo_kd mo_ln N Z yX12_byteAt wsX12_byteAt ({ frames := 0, cells := 0, slots := 0, locals := 0 } : Room) [.ref (ad p0), .int p1] S out.1 out.2 := by
  refine Met.ofW (cc := cX12_byteAt) (maxL := 2) (ret := (some .int)) (by decide +kernel) rfl ?_
  intro p e s m args below meth c s₁ B hml hv
  obtain ⟨rfl, hP, hD, hK, hz⟩ := hv
  have hx := B.exec
  have hb := B.bytes
  have hr := B.returns
  have hts := atoms_spec (ws := wsX12_byteAt) B.pre
  have hown : s.vm.findClass RX12 = some m.cls := findClass_of_methodNamed B.named
  have hlocks := B.notSynchronized
  have hS : va_S (ha_A ad N) s.heap s.heap [] := va_S.rf
  have hi12 : ∀ w ∈ wsX120, w ∈ wsX12_byteAt := fun w h => List.mem_cons_of_mem _ (List.mem_append_right _ h)
  have q161 : ha_Fk s ([.ref (ad p0), .int p1] : List Value).toArray RX12 161 12 5 0 := ⟨RX12, TX12, 83, wsX12_byteAt, rfl, by decide, by decide, rfl, rfl, hts, hi12, hts (.fieldLink RX12 161 "HillArmsModel" "size" "I") (by decide +kernel)⟩
  have q7 : ha_Fk s ([.ref (ad p0), .int p1] : List Value).toArray RX12 7 12 1 1 := ⟨RX12, TX12, 83, wsX12_byteAt, rfl, by decide, by decide, rfl, rfl, hts, hi12, hts (.fieldLink RX12 7 "HillArmsModel" "tape" "[I") (by decide +kernel)⟩
  have hl := lv_entry ([.ref (ad p0), .int p1]) (n := 2) (Nat.le_of_ble_eq_true rfl)
  rw [lg_entry_eq]
  generalize (lg_sl ([.ref (ad p0), .int p1]) ++ List.replicate (2 - (lg_sl ([.ref (ad p0), .int p1])).length) Slot.unset).toArray = ls at hl ⊢
  have hl : lv_has ls 2 [(0, .ref (ad p0)), (1, .int p1)] := hl
  refine (fun (K0 : ∀ (H : Heap) (locs : List Loc), va_P D vwCl (ha_wl cs ad mo_kd mo_ln N S) H → va_S (ha_A ad N) s.heap H locs → W p l e (headSpec wsX12_byteAt ({ frames := 0, cells := 0, slots := 0, locals := 0 } : Room)).room s m ([.ref (ad p0), .int p1] : List Value).toArray below meth c H locs 0 0 (MQ below (va_Qi (fun (r : Int32) (_ : Unit) => r = out.1) (fun _ => ha_H D cs ad mo_kd mo_ln N out.2) (ha_A ad N)) ([.ref (ad p0), .int p1] : List Value).toArray s 0 0 (ha_A ad N)) (F0 m 0 ls [])) => K0 _ _ hP hS) ?_
  intro H locs hP hS
  have hf := ha_rt hf
  have J18 : ∀ (k0 : Int32) (S : ha_St) (H : Heap) (locs : List Loc) (ls : Array Slot), (f_X12_byteAt_J18 p0 p1 k0 S).bind some = some out → va_P D vwCl (ha_wl cs ad mo_kd mo_ln N S) H → va_D (ha_A ad N) (ha_wl cs ad mo_kd mo_ln N S) → va_S (ha_A ad N) s.heap H locs → lv_has ls 2 [(0, .ref (ad p0)), (1, .int p1)] → W p l e (headSpec wsX12_byteAt ({ frames := 0, cells := 0, slots := 0, locals := 0 } : Room)).room s m ([.ref (ad p0), .int p1] : List Value).toArray below meth c H locs 0 0 (MQ below (va_Qi (fun (r : Int32) (_ : Unit) => r = out.1) (fun _ => ha_H D cs ad mo_kd mo_ln N out.2) (ha_A ad N)) ([.ref (ad p0), .int p1] : List Value).toArray s 0 0 (ha_A ad N)) (F0 m 18 ls [.int k0]) := by
    intro k0 S H locs ls hf  hP hD hS hl
    unfold f_X12_byteAt_J18 at hf
    have he := Option.some.inj hf
    exact ha_reti hx hb hr hlocks hP hD hS dX12_byteAt_18 (ha_e1 he) (ha_e2 he)
  unfold f_X12_byteAt at hf
  refine lv_iload_n hx hb dX12_byteAt_0 rfl (lv_at hl 1 rfl) ?_
  refine lv_aload_n hx hb dX12_byteAt_1 rfl (lv_at hl 0 rfl) ?_
  refine ha_geti hx hb hown hK hP q161 hN h0 dX12_byteAt_2 ?_
  refine lv_icmp_ge (tgt := 17) hx hb dX12_byteAt_5 (by decide) (fun c1 => ?_) (fun c1 => ?_)
  · have hf := ha_it hf c1
    refine lv_iconst (v := 0) hx hb dX12_byteAt_17 (by decide) ?_
    exact J18 0 S H locs ls hf  hP hD hS (lv_sub hl [0, 1] rfl)
  · have hf := ha_if hf c1
    refine lv_aload_n hx hb dX12_byteAt_8 rfl (lv_at hl 0 rfl) ?_
    obtain ⟨r2, wr2, hf⟩ := ha_bds hf
    obtain ⟨wr2, hr2⟩ := ha_rf_some wr2
    refine ha_getr hx hb hown hK hP q7 hN h0 wr2 dX12_byteAt_9 ?_
    refine lv_iload_n hx hb dX12_byteAt_12 rfl (lv_at hl 1 rfl) ?_
    obtain ⟨g3, hf⟩ := ha_gds hf
    refine ha_iald hx hb hK hP hN hr2 g3 dX12_byteAt_13 ?_
    refine lv_goto (tgt := 18) hx hb dX12_byteAt_14 (by decide) ?_
    exact J18 ((ha_gA S r2 (p1 : Int32).toNatClampNeg)) S H locs ls hf  hP hD hS (lv_sub hl [0, 1] rfl)

set_option maxHeartbeats 4000000 in
set_option maxRecDepth 100000 in
theorem c_X12_isDigit {l : Launch} {D : va_G} {cs : Nat → ClassId} {ad kd ln : Nat → Nat} {N : List Nat} {Z : State → Prop}  {p0 : Int32} {S : ha_St} {out : Int32}  (hf : f_X12_isDigit p0 = some out) : ha_Ci l D cs ad kd ln N Z yX12_isDigit wsX12_isDigit ({ frames := 0, cells := 0, slots := 0, locals := 0 } : Room) [.int p0] S out S := by
  refine Met.ofW (cc := cX12_isDigit) (maxL := 1) (ret := (some .boolean)) (by decide +kernel) rfl ?_
  intro p e s m args below meth c s₁ B hml hv
  obtain ⟨rfl, hP, hD, hK, hz⟩ := hv
  have hx := B.exec
  have hb := B.bytes
  have hr := B.returns
  have hts := atoms_spec (ws := wsX12_isDigit) B.pre
  have hown : s.vm.findClass RX12 = some m.cls := findClass_of_methodNamed B.named
  have hlocks := B.notSynchronized
  have hS : va_S (ha_A ad N) s.heap s.heap [] := va_S.rf
  have hl := lv_entry ([.int p0]) (n := 1) (Nat.le_of_ble_eq_true rfl)
  rw [lg_entry_eq]
  generalize (lg_sl ([.int p0]) ++ List.replicate (1 - (lg_sl ([.int p0])).length) Slot.unset).toArray = ls at hl ⊢
  have hl : lv_has ls 1 [(0, .int p0)] := hl
  refine (fun (K0 : ∀ (H : Heap) (locs : List Loc), va_P D vwCl (ha_wl cs ad kd ln N S) H → va_S (ha_A ad N) s.heap H locs → W p l e (headSpec wsX12_isDigit ({ frames := 0, cells := 0, slots := 0, locals := 0 } : Room)).room s m ([.int p0] : List Value).toArray below meth c H locs 0 0 (MQ below (va_Qi (fun (r : Int32) (_ : Unit) => r = out) (fun _ => ha_H D cs ad kd ln N S) (ha_A ad N)) ([.int p0] : List Value).toArray s 0 0 (ha_A ad N)) (F0 m 0 ls [])) => K0 _ _ hP hS) ?_
  intro H locs hP hS
  have hf := ha_rt hf
  have J17 : ∀ (k0 : Int32) (H : Heap) (locs : List Loc) (ls : Array Slot), (f_X12_isDigit_J17 p0 k0).bind some = some out → va_P D vwCl (ha_wl cs ad kd ln N S) H → va_D (ha_A ad N) (ha_wl cs ad kd ln N S) → va_S (ha_A ad N) s.heap H locs → lv_has ls 1 [(0, .int p0)] → W p l e (headSpec wsX12_isDigit ({ frames := 0, cells := 0, slots := 0, locals := 0 } : Room)).room s m ([.int p0] : List Value).toArray below meth c H locs 0 0 (MQ below (va_Qi (fun (r : Int32) (_ : Unit) => r = out) (fun _ => ha_H D cs ad kd ln N S) (ha_A ad N)) ([.int p0] : List Value).toArray s 0 0 (ha_A ad N)) (F0 m 17 ls [.int k0]) := by
    intro k0 H locs ls hf  hP hD hS hl
    unfold f_X12_isDigit_J17 at hf
    obtain ⟨g1, hf⟩ := ha_gds hf
    have he := Option.some.inj hf
    exact ha_retz hx hb hr hlocks hP hD hS dX12_isDigit_17 g1 he rfl
  have J16 : ∀  (H : Heap) (locs : List Loc) (ls : Array Slot), (f_X12_isDigit_J16 p0 ).bind some = some out → va_P D vwCl (ha_wl cs ad kd ln N S) H → va_D (ha_A ad N) (ha_wl cs ad kd ln N S) → va_S (ha_A ad N) s.heap H locs → lv_has ls 1 [(0, .int p0)] → W p l e (headSpec wsX12_isDigit ({ frames := 0, cells := 0, slots := 0, locals := 0 } : Room)).room s m ([.int p0] : List Value).toArray below meth c H locs 0 0 (MQ below (va_Qi (fun (r : Int32) (_ : Unit) => r = out) (fun _ => ha_H D cs ad kd ln N S) (ha_A ad N)) ([.int p0] : List Value).toArray s 0 0 (ha_A ad N)) (F0 m 16 ls []) := by
    intro  H locs ls hf  hP hD hS hl
    unfold f_X12_isDigit_J16 at hf
    refine lv_iconst (v := 0) hx hb dX12_isDigit_16 (by decide) ?_
    exact J17 0 H locs ls hf  hP hD hS (lv_sub hl [0] rfl)
  unfold f_X12_isDigit at hf
  refine lv_iload_n hx hb dX12_isDigit_0 rfl (lv_at hl 0 rfl) ?_
  refine lv_bipush (v := 48) hx hb dX12_isDigit_1 (by decide) ?_
  refine lv_icmp_lt (tgt := 16) hx hb dX12_isDigit_3 (by decide) (fun c2 => ?_) (fun c2 => ?_)
  · have hf := ha_it hf c2
    exact J16  H locs ls hf  hP hD hS (lv_sub hl [0] rfl)
  · have hf := ha_if hf c2
    refine lv_iload_n hx hb dX12_isDigit_6 rfl (lv_at hl 0 rfl) ?_
    refine lv_bipush (v := 57) hx hb dX12_isDigit_7 (by decide) ?_
    refine lv_icmp_gt (tgt := 16) hx hb dX12_isDigit_9 (by decide) (fun c3 => ?_) (fun c3 => ?_)
    · have hf := ha_it hf c3
      exact J16  H locs ls hf  hP hD hS (lv_sub hl [0] rfl)
    · have hf := ha_if hf c3
      refine lv_iconst (v := 1) hx hb dX12_isDigit_12 (by decide) ?_
      refine lv_goto (tgt := 17) hx hb dX12_isDigit_13 (by decide) ?_
      exact J17 1 H locs ls hf  hP hD hS (lv_sub hl [0] rfl)

set_option maxHeartbeats 4000000 in
set_option maxRecDepth 100000 in
theorem c_X12_isLetter {l : Launch} {D : va_G} {cs : Nat → ClassId} {ad kd ln : Nat → Nat} {N : List Nat} {Z : State → Prop}  {p0 : Int32} {S : ha_St} {out : Int32}  (hf : f_X12_isLetter p0 = some out) : ha_Ci l D cs ad kd ln N Z yX12_isLetter wsX12_isLetter ({ frames := 0, cells := 0, slots := 0, locals := 0 } : Room) [.int p0] S out S := by
  refine Met.ofW (cc := cX12_isLetter) (maxL := 1) (ret := (some .boolean)) (by decide +kernel) rfl ?_
  intro p e s m args below meth c s₁ B hml hv
  obtain ⟨rfl, hP, hD, hK, hz⟩ := hv
  have hx := B.exec
  have hb := B.bytes
  have hr := B.returns
  have hts := atoms_spec (ws := wsX12_isLetter) B.pre
  have hown : s.vm.findClass RX12 = some m.cls := findClass_of_methodNamed B.named
  have hlocks := B.notSynchronized
  have hS : va_S (ha_A ad N) s.heap s.heap [] := va_S.rf
  have hl := lv_entry ([.int p0]) (n := 1) (Nat.le_of_ble_eq_true rfl)
  rw [lg_entry_eq]
  generalize (lg_sl ([.int p0]) ++ List.replicate (1 - (lg_sl ([.int p0])).length) Slot.unset).toArray = ls at hl ⊢
  have hl : lv_has ls 1 [(0, .int p0)] := hl
  refine (fun (K0 : ∀ (H : Heap) (locs : List Loc), va_P D vwCl (ha_wl cs ad kd ln N S) H → va_S (ha_A ad N) s.heap H locs → W p l e (headSpec wsX12_isLetter ({ frames := 0, cells := 0, slots := 0, locals := 0 } : Room)).room s m ([.int p0] : List Value).toArray below meth c H locs 0 0 (MQ below (va_Qi (fun (r : Int32) (_ : Unit) => r = out) (fun _ => ha_H D cs ad kd ln N S) (ha_A ad N)) ([.int p0] : List Value).toArray s 0 0 (ha_A ad N)) (F0 m 0 ls [])) => K0 _ _ hP hS) ?_
  intro H locs hP hS
  have hf := ha_rt hf
  have J17 : ∀ (k0 : Int32) (H : Heap) (locs : List Loc) (ls : Array Slot), (f_X12_isLetter_J17 p0 k0).bind some = some out → va_P D vwCl (ha_wl cs ad kd ln N S) H → va_D (ha_A ad N) (ha_wl cs ad kd ln N S) → va_S (ha_A ad N) s.heap H locs → lv_has ls 1 [(0, .int p0)] → W p l e (headSpec wsX12_isLetter ({ frames := 0, cells := 0, slots := 0, locals := 0 } : Room)).room s m ([.int p0] : List Value).toArray below meth c H locs 0 0 (MQ below (va_Qi (fun (r : Int32) (_ : Unit) => r = out) (fun _ => ha_H D cs ad kd ln N S) (ha_A ad N)) ([.int p0] : List Value).toArray s 0 0 (ha_A ad N)) (F0 m 17 ls [.int k0]) := by
    intro k0 H locs ls hf  hP hD hS hl
    unfold f_X12_isLetter_J17 at hf
    obtain ⟨g1, hf⟩ := ha_gds hf
    have he := Option.some.inj hf
    exact ha_retz hx hb hr hlocks hP hD hS dX12_isLetter_17 g1 he rfl
  have J16 : ∀  (H : Heap) (locs : List Loc) (ls : Array Slot), (f_X12_isLetter_J16 p0 ).bind some = some out → va_P D vwCl (ha_wl cs ad kd ln N S) H → va_D (ha_A ad N) (ha_wl cs ad kd ln N S) → va_S (ha_A ad N) s.heap H locs → lv_has ls 1 [(0, .int p0)] → W p l e (headSpec wsX12_isLetter ({ frames := 0, cells := 0, slots := 0, locals := 0 } : Room)).room s m ([.int p0] : List Value).toArray below meth c H locs 0 0 (MQ below (va_Qi (fun (r : Int32) (_ : Unit) => r = out) (fun _ => ha_H D cs ad kd ln N S) (ha_A ad N)) ([.int p0] : List Value).toArray s 0 0 (ha_A ad N)) (F0 m 16 ls []) := by
    intro  H locs ls hf  hP hD hS hl
    unfold f_X12_isLetter_J16 at hf
    refine lv_iconst (v := 0) hx hb dX12_isLetter_16 (by decide) ?_
    exact J17 0 H locs ls hf  hP hD hS (lv_sub hl [0] rfl)
  unfold f_X12_isLetter at hf
  refine lv_iload_n hx hb dX12_isLetter_0 rfl (lv_at hl 0 rfl) ?_
  refine lv_bipush (v := 97) hx hb dX12_isLetter_1 (by decide) ?_
  refine lv_icmp_lt (tgt := 16) hx hb dX12_isLetter_3 (by decide) (fun c2 => ?_) (fun c2 => ?_)
  · have hf := ha_it hf c2
    exact J16  H locs ls hf  hP hD hS (lv_sub hl [0] rfl)
  · have hf := ha_if hf c2
    refine lv_iload_n hx hb dX12_isLetter_6 rfl (lv_at hl 0 rfl) ?_
    refine lv_bipush (v := 122) hx hb dX12_isLetter_7 (by decide) ?_
    refine lv_icmp_gt (tgt := 16) hx hb dX12_isLetter_9 (by decide) (fun c3 => ?_) (fun c3 => ?_)
    · have hf := ha_it hf c3
      exact J16  H locs ls hf  hP hD hS (lv_sub hl [0] rfl)
    · have hf := ha_if hf c3
      refine lv_iconst (v := 1) hx hb dX12_isLetter_12 (by decide) ?_
      refine lv_goto (tgt := 17) hx hb dX12_isLetter_13 (by decide) ?_
      exact J17 1 H locs ls hf  hP hD hS (lv_sub hl [0] rfl)

set_option maxHeartbeats 4000000 in
set_option maxRecDepth 100000 in
theorem c_X12_isMark {l : Launch} {D : va_G} {cs : Nat → ClassId} {ad kd ln : Nat → Nat} {N : List Nat} {Z : State → Prop}  {p0 : Int32} {S : ha_St} {out : Int32}  (hf : f_X12_isMark p0 = some out) : ha_Ci l D cs ad kd ln N Z yX12_isMark wsX12_isMark ({ frames := 0, cells := 0, slots := 0, locals := 0 } : Room) [.int p0] S out S := by
  refine Met.ofW (cc := cX12_isMark) (maxL := 1) (ret := (some .boolean)) (by decide +kernel) rfl ?_
  intro p e s m args below meth c s₁ B hml hv
  obtain ⟨rfl, hP, hD, hK, hz⟩ := hv
  have hx := B.exec
  have hb := B.bytes
  have hr := B.returns
  have hts := atoms_spec (ws := wsX12_isMark) B.pre
  have hown : s.vm.findClass RX12 = some m.cls := findClass_of_methodNamed B.named
  have hlocks := B.notSynchronized
  have hS : va_S (ha_A ad N) s.heap s.heap [] := va_S.rf
  have hl := lv_entry ([.int p0]) (n := 1) (Nat.le_of_ble_eq_true rfl)
  rw [lg_entry_eq]
  generalize (lg_sl ([.int p0]) ++ List.replicate (1 - (lg_sl ([.int p0])).length) Slot.unset).toArray = ls at hl ⊢
  have hl : lv_has ls 1 [(0, .int p0)] := hl
  refine (fun (K0 : ∀ (H : Heap) (locs : List Loc), va_P D vwCl (ha_wl cs ad kd ln N S) H → va_S (ha_A ad N) s.heap H locs → W p l e (headSpec wsX12_isMark ({ frames := 0, cells := 0, slots := 0, locals := 0 } : Room)).room s m ([.int p0] : List Value).toArray below meth c H locs 0 0 (MQ below (va_Qi (fun (r : Int32) (_ : Unit) => r = out) (fun _ => ha_H D cs ad kd ln N S) (ha_A ad N)) ([.int p0] : List Value).toArray s 0 0 (ha_A ad N)) (F0 m 0 ls [])) => K0 _ _ hP hS) ?_
  intro H locs hP hS
  have hf := ha_rt hf
  have J47 : ∀ (k0 : Int32) (H : Heap) (locs : List Loc) (ls : Array Slot), (f_X12_isMark_J47 p0 k0).bind some = some out → va_P D vwCl (ha_wl cs ad kd ln N S) H → va_D (ha_A ad N) (ha_wl cs ad kd ln N S) → va_S (ha_A ad N) s.heap H locs → lv_has ls 1 [(0, .int p0)] → W p l e (headSpec wsX12_isMark ({ frames := 0, cells := 0, slots := 0, locals := 0 } : Room)).room s m ([.int p0] : List Value).toArray below meth c H locs 0 0 (MQ below (va_Qi (fun (r : Int32) (_ : Unit) => r = out) (fun _ => ha_H D cs ad kd ln N S) (ha_A ad N)) ([.int p0] : List Value).toArray s 0 0 (ha_A ad N)) (F0 m 47 ls [.int k0]) := by
    intro k0 H locs ls hf  hP hD hS hl
    unfold f_X12_isMark_J47 at hf
    obtain ⟨g1, hf⟩ := ha_gds hf
    have he := Option.some.inj hf
    exact ha_retz hx hb hr hlocks hP hD hS dX12_isMark_47 g1 he rfl
  have J42 : ∀  (H : Heap) (locs : List Loc) (ls : Array Slot), (f_X12_isMark_J42 p0 ).bind some = some out → va_P D vwCl (ha_wl cs ad kd ln N S) H → va_D (ha_A ad N) (ha_wl cs ad kd ln N S) → va_S (ha_A ad N) s.heap H locs → lv_has ls 1 [(0, .int p0)] → W p l e (headSpec wsX12_isMark ({ frames := 0, cells := 0, slots := 0, locals := 0 } : Room)).room s m ([.int p0] : List Value).toArray below meth c H locs 0 0 (MQ below (va_Qi (fun (r : Int32) (_ : Unit) => r = out) (fun _ => ha_H D cs ad kd ln N S) (ha_A ad N)) ([.int p0] : List Value).toArray s 0 0 (ha_A ad N)) (F0 m 42 ls []) := by
    intro  H locs ls hf  hP hD hS hl
    unfold f_X12_isMark_J42 at hf
    refine lv_iconst (v := 1) hx hb dX12_isMark_42 (by decide) ?_
    refine lv_goto (tgt := 47) hx hb dX12_isMark_43 (by decide) ?_
    exact J47 1 H locs ls hf  hP hD hS (lv_sub hl [0] rfl)
  unfold f_X12_isMark at hf
  refine lv_iload_n hx hb dX12_isMark_0 rfl (lv_at hl 0 rfl) ?_
  refine lv_bipush (v := 59) hx hb dX12_isMark_1 (by decide) ?_
  refine lv_icmp_eq (tgt := 42) hx hb dX12_isMark_3 (by decide) (fun c2 => ?_) (fun c2 => ?_)
  · have hf := ha_it hf c2
    exact J42  H locs ls hf  hP hD hS (lv_sub hl [0] rfl)
  · have hf := ha_if hf c2
    refine lv_iload_n hx hb dX12_isMark_6 rfl (lv_at hl 0 rfl) ?_
    refine lv_bipush (v := 44) hx hb dX12_isMark_7 (by decide) ?_
    refine lv_icmp_eq (tgt := 42) hx hb dX12_isMark_9 (by decide) (fun c3 => ?_) (fun c3 => ?_)
    · have hf := ha_it hf c3
      exact J42  H locs ls hf  hP hD hS (lv_sub hl [0] rfl)
    · have hf := ha_if hf c3
      refine lv_iload_n hx hb dX12_isMark_12 rfl (lv_at hl 0 rfl) ?_
      refine lv_bipush (v := 43) hx hb dX12_isMark_13 (by decide) ?_
      refine lv_icmp_eq (tgt := 42) hx hb dX12_isMark_15 (by decide) (fun c4 => ?_) (fun c4 => ?_)
      · have hf := ha_it hf c4
        exact J42  H locs ls hf  hP hD hS (lv_sub hl [0] rfl)
      · have hf := ha_if hf c4
        refine lv_iload_n hx hb dX12_isMark_18 rfl (lv_at hl 0 rfl) ?_
        refine lv_bipush (v := 60) hx hb dX12_isMark_19 (by decide) ?_
        refine lv_icmp_eq (tgt := 42) hx hb dX12_isMark_21 (by decide) (fun c5 => ?_) (fun c5 => ?_)
        · have hf := ha_it hf c5
          exact J42  H locs ls hf  hP hD hS (lv_sub hl [0] rfl)
        · have hf := ha_if hf c5
          refine lv_iload_n hx hb dX12_isMark_24 rfl (lv_at hl 0 rfl) ?_
          refine lv_bipush (v := 61) hx hb dX12_isMark_25 (by decide) ?_
          refine lv_icmp_eq (tgt := 42) hx hb dX12_isMark_27 (by decide) (fun c6 => ?_) (fun c6 => ?_)
          · have hf := ha_it hf c6
            exact J42  H locs ls hf  hP hD hS (lv_sub hl [0] rfl)
          · have hf := ha_if hf c6
            refine lv_iload_n hx hb dX12_isMark_30 rfl (lv_at hl 0 rfl) ?_
            refine lv_bipush (v := 62) hx hb dX12_isMark_31 (by decide) ?_
            refine lv_icmp_eq (tgt := 42) hx hb dX12_isMark_33 (by decide) (fun c7 => ?_) (fun c7 => ?_)
            · have hf := ha_it hf c7
              exact J42  H locs ls hf  hP hD hS (lv_sub hl [0] rfl)
            · have hf := ha_if hf c7
              refine lv_iload_n hx hb dX12_isMark_36 rfl (lv_at hl 0 rfl) ?_
              refine lv_bipush (v := 35) hx hb dX12_isMark_37 (by decide) ?_
              refine lv_icmp_ne (tgt := 46) hx hb dX12_isMark_39 (by decide) (fun c8 => ?_) (fun c8 => ?_)
              · have hf := ha_it hf c8
                refine lv_iconst (v := 0) hx hb dX12_isMark_46 (by decide) ?_
                exact J47 0 H locs ls hf  hP hD hS (lv_sub hl [0] rfl)
              · have hf := ha_if hf (fun q => q c8)
                exact J42  H locs ls hf  hP hD hS (lv_sub hl [0] rfl)

set_option maxHeartbeats 4000000 in
set_option maxRecDepth 100000 in
theorem c_X12_go {l : Launch} {D : va_G} {cs : Nat → ClassId} {ad : Nat → Nat} {N : List Nat} {Z : State → Prop} (hZ : ha_Zok (ha_A ad N) Z) (hN : ∀ x, mo_kd x < 999 → x ∈ N) {p0 : Nat} {S : ha_St} {out : ha_St} (h0 : mo_kd p0 = 12) (hf : f_X12_go p0 S = some out) : ha_Cv l D cs ad mo_kd mo_ln N Z yX12_go wsX12_go ({ frames := 1, cells := 0, slots := 0, locals := 21 } : Room) [.ref (ad p0)] S out := by
  refine Met.ofW (cc := cX12_go) (maxL := 5) (ret := none) (by decide +kernel) rfl ?_
  intro p e s m args below meth c s₁ B hml hv
  obtain ⟨rfl, hP, hD, hK, hz⟩ := hv
  have hx := B.exec
  have hb := B.bytes
  have hr := B.returns
  have hts := atoms_spec (ws := wsX12_go) B.pre
  have hown : s.vm.findClass RX12 = some m.cls := findClass_of_methodNamed B.named
  have hlocks := B.notSynchronized
  have hS : va_S (ha_A ad N) s.heap s.heap [] := va_S.rf
  have hi12 : ∀ w ∈ wsX120, w ∈ wsX12_go := fun w h => List.mem_cons_of_mem _ (List.mem_append_right _ h)
  have q164 : ha_Fk s ([.ref (ad p0)] : List Value).toArray RX12 164 12 6 0 := ⟨RX12, TX12, 83, wsX12_go, rfl, by decide, by decide, rfl, rfl, hts, hi12, hts (.fieldLink RX12 164 "HillArmsModel" "to" "I") (by decide +kernel)⟩
  have q167 : ha_Fk s ([.ref (ad p0)] : List Value).toArray RX12 167 12 7 0 := ⟨RX12, TX12, 83, wsX12_go, rfl, by decide, by decide, rfl, rfl, hts, hi12, hts (.fieldLink RX12 167 "HillArmsModel" "from" "I") (by decide +kernel)⟩
  have q190 : ha_Fk s ([.ref (ad p0)] : List Value).toArray RX12 190 12 9 0 := ⟨RX12, TX12, 83, wsX12_go, rfl, by decide, by decide, rfl, rfl, hts, hi12, hts (.fieldLink RX12 190 "HillArmsModel" "number" "I") (by decide +kernel)⟩
  have q186 : ha_Fk s ([.ref (ad p0)] : List Value).toArray RX12 186 12 13 2 := ⟨RX12, TX12, 83, wsX12_go, rfl, by decide, by decide, rfl, rfl, hts, hi12, hts (.fieldLink RX12 186 "HillArmsModel" "word" "J") (by decide +kernel)⟩
  have q7 : ha_Fk s ([.ref (ad p0)] : List Value).toArray RX12 7 12 1 1 := ⟨RX12, TX12, 83, wsX12_go, rfl, by decide, by decide, rfl, rfl, hts, hi12, hts (.fieldLink RX12 7 "HillArmsModel" "tape" "[I") (by decide +kernel)⟩
  have q161 : ha_Fk s ([.ref (ad p0)] : List Value).toArray RX12 161 12 5 0 := ⟨RX12, TX12, 83, wsX12_go, rfl, by decide, by decide, rfl, rfl, hts, hi12, hts (.fieldLink RX12 161 "HillArmsModel" "size" "I") (by decide +kernel)⟩
  have r170 : ha_Fp s ([.ref (ad p0)] : List Value).toArray RX12 170 12 8 0 .int := ⟨RX12, TX12, 83, wsX12_go, tyX12, rfl, by decide, by decide, rfl, rfl, hts, hi12, hts (.fieldLink RX12 170 "HillArmsModel" "kind" "I") (by decide +kernel), tyX12_ok, nmX12, rfl, by decide +kernel⟩
  have r186 : ha_Fp s ([.ref (ad p0)] : List Value).toArray RX12 186 12 13 2 .long := ⟨RX12, TX12, 83, wsX12_go, tyX12, rfl, by decide, by decide, rfl, rfl, hts, hi12, hts (.fieldLink RX12 186 "HillArmsModel" "word" "J") (by decide +kernel), tyX12_ok, nmX12, rfl, by decide +kernel⟩
  have r190 : ha_Fp s ([.ref (ad p0)] : List Value).toArray RX12 190 12 9 0 .int := ⟨RX12, TX12, 83, wsX12_go, tyX12, rfl, by decide, by decide, rfl, rfl, hts, hi12, hts (.fieldLink RX12 190 "HillArmsModel" "number" "I") (by decide +kernel), tyX12_ok, nmX12, rfl, by decide +kernel⟩
  have r164 : ha_Fp s ([.ref (ad p0)] : List Value).toArray RX12 164 12 6 0 .int := ⟨RX12, TX12, 83, wsX12_go, tyX12, rfl, by decide, by decide, rfl, rfl, hts, hi12, hts (.fieldLink RX12 164 "HillArmsModel" "to" "I") (by decide +kernel), tyX12_ok, nmX12, rfl, by decide +kernel⟩
  have r183 : ha_Fp s ([.ref (ad p0)] : List Value).toArray RX12 183 12 10 0 .int := ⟨RX12, TX12, 83, wsX12_go, tyX12, rfl, by decide, by decide, rfl, rfl, hts, hi12, hts (.fieldLink RX12 183 "HillArmsModel" "sign" "I") (by decide +kernel), tyX12_ok, nmX12, rfl, by decide +kernel⟩
  have r167 : ha_Fp s ([.ref (ad p0)] : List Value).toArray RX12 167 12 7 0 .int := ⟨RX12, TX12, 83, wsX12_go, tyX12, rfl, by decide, by decide, rfl, rfl, hts, hi12, hts (.fieldLink RX12 167 "HillArmsModel" "from" "I") (by decide +kernel), tyX12_ok, nmX12, rfl, by decide +kernel⟩
  have cw0 := va_cwS (R := (headSpec wsX12_go ({ frames := 1, cells := 0, slots := 0, locals := 21 } : Room)).room) 1 hts gX12_go_X12_isLetter (rm := ({ frames := 0, cells := 0, slots := 0, locals := 0 } : Room)) (mc := 0) (ms := 0) rfl rfl rfl (by decide +kernel) ⟨Nat.le_of_ble_eq_true rfl, Nat.le_of_ble_eq_true rfl⟩
  have cn197 := hts (.constantLong RX12 197 (27)) (by decide +kernel)
  have cn199 := hts (.constantLong RX12 199 (96)) (by decide +kernel)
  have cw3 := cwV (R := (headSpec wsX12_go ({ frames := 1, cells := 0, slots := 0, locals := 21 } : Room)).room) 1 hts gX12_go_X12_byteAt (rm := ({ frames := 0, cells := 0, slots := 0, locals := 0 } : Room)) (mc := 0) (ms := 0) rfl rfl rfl (by decide +kernel) ⟨Nat.le_of_ble_eq_true rfl, Nat.le_of_ble_eq_true rfl⟩
  have cw4 := va_cwS (R := (headSpec wsX12_go ({ frames := 1, cells := 0, slots := 0, locals := 21 } : Room)).room) 1 hts gX12_go_X12_isDigit (rm := ({ frames := 0, cells := 0, slots := 0, locals := 0 } : Room)) (mc := 0) (ms := 0) rfl rfl rfl (by decide +kernel) ⟨Nat.le_of_ble_eq_true rfl, Nat.le_of_ble_eq_true rfl⟩
  have cw5 := va_cwS (R := (headSpec wsX12_go ({ frames := 1, cells := 0, slots := 0, locals := 21 } : Room)).room) 1 hts gX12_go_X12_isMark (rm := ({ frames := 0, cells := 0, slots := 0, locals := 0 } : Room)) (mc := 0) (ms := 0) rfl rfl rfl (by decide +kernel) ⟨Nat.le_of_ble_eq_true rfl, Nat.le_of_ble_eq_true rfl⟩
  have hl := lv_entry ([.ref (ad p0)]) (n := 5) (Nat.le_of_ble_eq_true rfl)
  rw [lg_entry_eq]
  generalize (lg_sl ([.ref (ad p0)]) ++ List.replicate (5 - (lg_sl ([.ref (ad p0)])).length) Slot.unset).toArray = ls at hl ⊢
  have hl : lv_has ls 5 [(0, .ref (ad p0))] := hl
  refine (fun (K0 : ∀ (H : Heap) (locs : List Loc), va_P D vwCl (ha_wl cs ad mo_kd mo_ln N S) H → va_S (ha_A ad N) s.heap H locs → W p l e (headSpec wsX12_go ({ frames := 1, cells := 0, slots := 0, locals := 21 } : Room)).room s m ([.ref (ad p0)] : List Value).toArray below meth c H locs 0 0 (MQ below (va_Qv (fun (_ : Unit) => True) (fun _ => ha_H D cs ad mo_kd mo_ln N out) (ha_A ad N)) ([.ref (ad p0)] : List Value).toArray s 0 0 (ha_A ad N)) (F0 m 0 ls [])) => K0 _ _ hP hS) ?_
  intro H locs hP hS
  have hf := ha_rt hf
  have J356 : ∀ (k0 : Nat) (k1 : Int32) (S : ha_St) (H : Heap) (locs : List Loc) (ls : Array Slot), (f_X12_go_J356 p0 k0 k1 S).bind some = some out → mo_kd k0 = 12 → va_P D vwCl (ha_wl cs ad mo_kd mo_ln N S) H → va_D (ha_A ad N) (ha_wl cs ad mo_kd mo_ln N S) → va_S (ha_A ad N) s.heap H locs → lv_has ls 5 [(0, .ref (ad p0))] → W p l e (headSpec wsX12_go ({ frames := 1, cells := 0, slots := 0, locals := 21 } : Room)).room s m ([.ref (ad p0)] : List Value).toArray below meth c H locs 0 0 (MQ below (va_Qv (fun (_ : Unit) => True) (fun _ => ha_H D cs ad mo_kd mo_ln N out) (ha_A ad N)) ([.ref (ad p0)] : List Value).toArray s 0 0 (ha_A ad N)) (F0 m 356 ls [.int k1, .ref (ad k0)]) := by
    intro k0 k1 S H locs ls hf hk0 hP hD hS hl
    unfold f_X12_go_J356 at hf
    refine ha_puti hx hb hown hK hP hD hS r170 hN hk0 dX12_go_356 (fun S1 H locs eS1 hP hD hS => ?_)
    have hf := ha_nms hf eS1
    have he := Option.some.inj hf
    exact ha_retv hx hb hr hlocks hP hD hS dX12_go_359 he
  have J343 : ∀ (k0 : Nat) (S : ha_St) (H : Heap) (locs : List Loc) (ls : Array Slot), (f_X12_go_J343 p0 k0 S).bind some = some out → mo_kd k0 = 12 → va_P D vwCl (ha_wl cs ad mo_kd mo_ln N S) H → va_D (ha_A ad N) (ha_wl cs ad mo_kd mo_ln N S) → va_S (ha_A ad N) s.heap H locs → lv_has ls 5 [(0, .ref (ad p0))] → W p l e (headSpec wsX12_go ({ frames := 1, cells := 0, slots := 0, locals := 21 } : Room)).room s m ([.ref (ad p0)] : List Value).toArray below meth c H locs 0 0 (MQ below (va_Qv (fun (_ : Unit) => True) (fun _ => ha_H D cs ad mo_kd mo_ln N out) (ha_A ad N)) ([.ref (ad p0)] : List Value).toArray s 0 0 (ha_A ad N)) (F0 m 343 ls [.ref (ad k0)]) := by
    intro k0 S H locs ls hf hk0 hP hD hS hl
    unfold f_X12_go_J343 at hf
    refine lv_iconst (v := 1) hx hb dX12_go_343 (by decide) ?_
    refine lv_goto (tgt := 356) hx hb dX12_go_344 (by decide) ?_
    exact J356 k0 1 S H locs ls hf hk0 hP hD hS (lv_sub hl [0] rfl)
  have J340 : ∀ (v2 : Int32) (k0 : Nat) (k1 : Int32) (k2 : Int32) (S : ha_St) (H : Heap) (locs : List Loc) (ls : Array Slot), (f_X12_go_J340 p0 v2 k0 k1 k2 S).bind some = some out → mo_kd k0 = 12 → va_P D vwCl (ha_wl cs ad mo_kd mo_ln N S) H → va_D (ha_A ad N) (ha_wl cs ad mo_kd mo_ln N S) → va_S (ha_A ad N) s.heap H locs → lv_has ls 5 [(0, .ref (ad p0)), (2, .int v2)] → W p l e (headSpec wsX12_go ({ frames := 1, cells := 0, slots := 0, locals := 21 } : Room)).room s m ([.ref (ad p0)] : List Value).toArray below meth c H locs 0 0 (MQ below (va_Qv (fun (_ : Unit) => True) (fun _ => ha_H D cs ad mo_kd mo_ln N out) (ha_A ad N)) ([.ref (ad p0)] : List Value).toArray s 0 0 (ha_A ad N)) (F0 m 340 ls [.int k2, .int k1, .ref (ad k0)]) := by
    intro v2 k0 k1 k2 S H locs ls hf hk0 hP hD hS hl
    unfold f_X12_go_J340 at hf
    refine lv_icmp_le (tgt := 347) hx hb dX12_go_340 (by decide) (fun c2 => ?_) (fun c2 => ?_)
    · have hf := ha_it hf c2
      refine lv_iload_n hx hb dX12_go_347 rfl (lv_at hl 1 rfl) ?_
      refine lv_if_eq (tgt := 355) hx hb dX12_go_348 (by decide) (fun c3 => ?_) (fun c3 => ?_)
      · have hf := ha_it hf c3
        refine lv_iconst (v := 3) hx hb dX12_go_355 (by decide) ?_
        exact J356 k0 3 S H locs ls hf hk0 hP hD hS (lv_sub hl [0] rfl)
      · have hf := ha_if hf c3
        refine lv_iconst (v := 2) hx hb dX12_go_351 (by decide) ?_
        refine lv_goto (tgt := 356) hx hb dX12_go_352 (by decide) ?_
        exact J356 k0 2 S H locs ls hf hk0 hP hD hS (lv_sub hl [0] rfl)
    · have hf := ha_if hf c2
      exact J343 k0 S H locs ls hf hk0 hP hD hS (lv_sub hl [0] rfl)
  have J317 : ∀ (v2 : Int32) (v3 : Int32) (S : ha_St) (H : Heap) (locs : List Loc) (ls : Array Slot), (f_X12_go_J317 p0 v2 v3 S).bind some = some out → va_P D vwCl (ha_wl cs ad mo_kd mo_ln N S) H → va_D (ha_A ad N) (ha_wl cs ad mo_kd mo_ln N S) → va_S (ha_A ad N) s.heap H locs → lv_has ls 5 [(0, .ref (ad p0)), (2, .int v2), (3, .int v3)] → W p l e (headSpec wsX12_go ({ frames := 1, cells := 0, slots := 0, locals := 21 } : Room)).room s m ([.ref (ad p0)] : List Value).toArray below meth c H locs 0 0 (MQ below (va_Qv (fun (_ : Unit) => True) (fun _ => ha_H D cs ad mo_kd mo_ln N out) (ha_A ad N)) ([.ref (ad p0)] : List Value).toArray s 0 0 (ha_A ad N)) (F0 m 317 ls []) := by
    intro v2 v3 S H locs ls hf  hP hD hS hl
    unfold f_X12_go_J317 at hf
    refine lv_aload_n hx hb dX12_go_317 rfl (lv_at hl 0 rfl) ?_
    refine lv_iload_n hx hb dX12_go_318 rfl (lv_at hl 2 rfl) ?_
    refine lv_if_eq (tgt := 343) hx hb dX12_go_319 (by decide) (fun c4 => ?_) (fun c4 => ?_)
    · have hf := ha_it hf c4
      exact J343 p0 S H locs ls hf h0 hP hD hS (lv_sub hl [0] rfl)
    · have hf := ha_if hf c4
      refine lv_aload_n hx hb dX12_go_322 rfl (lv_at hl 0 rfl) ?_
      refine ha_geti hx hb hown hK hP q164 hN h0 dX12_go_323 ?_
      refine lv_aload_n hx hb dX12_go_326 rfl (lv_at hl 0 rfl) ?_
      refine ha_geti hx hb hown hK hP q167 hN h0 dX12_go_327 ?_
      refine lv_isub hx hb dX12_go_330 ?_
      refine lv_iload_n hx hb dX12_go_331 rfl (lv_at hl 1 rfl) ?_
      refine lv_if_eq (tgt := 339) hx hb dX12_go_332 (by decide) (fun c5 => ?_) (fun c5 => ?_)
      · have hf := ha_it hf c5
        refine lv_iconst (v := 2) hx hb dX12_go_339 (by decide) ?_
        exact J340 v2 p0 ((((ha_gI S p0 6) : Int32) - (ha_gI S p0 7))) 2 S H locs ls hf h0 hP hD hS (lv_sub hl [0, 1] rfl)
      · have hf := ha_if hf c5
        refine lv_iconst (v := 5) hx hb dX12_go_335 (by decide) ?_
        refine lv_goto (tgt := 340) hx hb dX12_go_336 (by decide) ?_
        exact J340 v2 p0 ((((ha_gI S p0 6) : Int32) - (ha_gI S p0 7))) 5 S H locs ls hf h0 hP hD hS (lv_sub hl [0, 1] rfl)
  have J166 : ∀ (v1 : Int32) (S : ha_St) (H : Heap) (locs : List Loc) (ls : Array Slot), (f_X12_go_J166 p0 v1 S).bind some = some out → va_P D vwCl (ha_wl cs ad mo_kd mo_ln N S) H → va_D (ha_A ad N) (ha_wl cs ad mo_kd mo_ln N S) → va_S (ha_A ad N) s.heap H locs → lv_has ls 5 [(0, .ref (ad p0)), (1, .int v1)] → W p l e (headSpec wsX12_go ({ frames := 1, cells := 0, slots := 0, locals := 21 } : Room)).room s m ([.ref (ad p0)] : List Value).toArray below meth c H locs 0 0 (MQ below (va_Qv (fun (_ : Unit) => True) (fun _ => ha_H D cs ad mo_kd mo_ln N out) (ha_A ad N)) ([.ref (ad p0)] : List Value).toArray s 0 0 (ha_A ad N)) (F0 m 166 ls []) := by
    intro v1 S H locs ls hf  hP hD hS hl
    unfold f_X12_go_J166 at hf
    refine lv_iload_n hx hb dX12_go_166 rfl (lv_at hl 1 rfl) ?_
    obtain ⟨z6, wz6, hf⟩ := ha_bds hf
    refine ha_callSi (As := [.int v1]) (rest := []) hZ ⟨hx, hb, hml, hown, hts⟩ hK hz hP hD hS (c_X12_isLetter   wz6) cw0 rfl hl.1 rfl (Nat.le_of_ble_eq_true rfl) dX12_go_167 ⟨Nat.le_of_ble_eq_true rfl, Nat.le_of_ble_eq_true rfl⟩ (fun H locs hP hD hS => ?_)
    refine lv_istore_n (lv' := [(2, .int z6), (0, .ref (ad p0)), (1, .int v1)]) hx hb dX12_go_170 rfl hl (by decide) rfl (fun ls hl => ?_)
    refine lv_iconst (v := 1) hx hb dX12_go_171 (by decide) ?_
    refine lv_istore_n (lv' := [(3, .int 1), (2, .int z6), (0, .ref (ad p0)), (1, .int v1)]) hx hb dX12_go_172 rfl hl (by decide) rfl (fun ls hl => ?_)
    refine lv_aload_n hx hb dX12_go_173 rfl (lv_at hl 2 rfl) ?_
    refine lv_lconst (v := 0) hx hb dX12_go_174 (by decide) ?_
    refine ha_putj hx hb hown hK hP hD hS r186 hN h0 dX12_go_175 (fun S7 H locs eS7 hP hD hS => ?_)
    have hf := ha_nms hf eS7
    refine lv_aload_n hx hb dX12_go_178 rfl (lv_at hl 2 rfl) ?_
    refine lv_iconst (v := 0) hx hb dX12_go_179 (by decide) ?_
    refine ha_puti hx hb hown hK hP hD hS r190 hN h0 dX12_go_180 (fun S8 H locs eS8 hP hD hS => ?_)
    have hf := ha_nms hf eS8
    have key26 : ∀ (K : (Int32 × Int32 × ha_St) → Option (ha_St)), (∀ (v2 : Int32) (v3 : Int32) (S : ha_St) (H : Heap) (locs : List Loc) (ls : Array Slot), K (v2, v3, S) = some out → va_P D vwCl (ha_wl cs ad mo_kd mo_ln N S) H → va_D (ha_A ad N) (ha_wl cs ad mo_kd mo_ln N S) → va_S (ha_A ad N) s.heap H locs → lv_has ls 5 [(0, .ref (ad p0)), (2, .int v2), (3, .int v3)] → W p l e (headSpec wsX12_go ({ frames := 1, cells := 0, slots := 0, locals := 21 } : Room)).room s m ([.ref (ad p0)] : List Value).toArray below meth c H locs 0 0 (MQ below (va_Qv (fun (_ : Unit) => True) (fun _ => ha_H D cs ad mo_kd mo_ln N out) (ha_A ad N)) ([.ref (ad p0)] : List Value).toArray s 0 0 (ha_A ad N)) (F0 m 317 ls [])) → ∀ (n : Nat) (v2 : Int32) (v3 : Int32) (S : ha_St) (H : Heap) (locs : List Loc) (ls : Array Slot), (f_X12_go_L183i p0 n (v2, v3, S)).bind K = some out → va_P D vwCl (ha_wl cs ad mo_kd mo_ln N S) H → va_D (ha_A ad N) (ha_wl cs ad mo_kd mo_ln N S) → va_S (ha_A ad N) s.heap H locs → lv_has ls 5 [(0, .ref (ad p0)), (2, .int v2), (3, .int v3)] → W p l e (headSpec wsX12_go ({ frames := 1, cells := 0, slots := 0, locals := 21 } : Room)).room s m ([.ref (ad p0)] : List Value).toArray below meth c H locs 0 0 (MQ below (va_Qv (fun (_ : Unit) => True) (fun _ => ha_H D cs ad mo_kd mo_ln N out) (ha_A ad N)) ([.ref (ad p0)] : List Value).toArray s 0 0 (ha_A ad N)) (F0 m 183 ls []) := by
      intro K hk n
      induction n with
      | zero =>
        intro v2 v3 S H locs ls hf
        exact absurd (show (none : Option (ha_St)) = some out from hf) (fun h => by cases h)
      | succ n ih =>
        intro v2 v3 S H locs ls hf  hP hD hS hl
        have J304 : ∀ (v2 : Int32) (v3 : Int32) (S : ha_St) (H : Heap) (locs : List Loc) (ls : Array Slot), (f_X12_go_L183_J304 p0 (f_X12_go_L183i p0 n) v2 v3 S).bind K = some out → va_P D vwCl (ha_wl cs ad mo_kd mo_ln N S) H → va_D (ha_A ad N) (ha_wl cs ad mo_kd mo_ln N S) → va_S (ha_A ad N) s.heap H locs → lv_has ls 5 [(0, .ref (ad p0)), (2, .int v2), (3, .int v3)] → W p l e (headSpec wsX12_go ({ frames := 1, cells := 0, slots := 0, locals := 21 } : Room)).room s m ([.ref (ad p0)] : List Value).toArray below meth c H locs 0 0 (MQ below (va_Qv (fun (_ : Unit) => True) (fun _ => ha_H D cs ad mo_kd mo_ln N out) (ha_A ad N)) ([.ref (ad p0)] : List Value).toArray s 0 0 (ha_A ad N)) (F0 m 304 ls []) := by
          intro v2 v3 S H locs ls hf  hP hD hS hl
          unfold f_X12_go_L183_J304 at hf
          refine lv_aload_n hx hb dX12_go_304 rfl (lv_at hl 0 rfl) ?_
          refine lv_dup hx hb dX12_go_305 rfl ?_
          refine ha_geti hx hb hown hK hP q164 hN h0 dX12_go_306 ?_
          refine lv_iconst (v := 1) hx hb dX12_go_309 (by decide) ?_
          refine lv_iadd hx hb dX12_go_310 ?_
          refine ha_puti hx hb hown hK hP hD hS r164 hN h0 dX12_go_311 (fun S9 H locs eS9 hP hD hS => ?_)
          have hf := ha_nms hf eS9
          refine lv_goto (tgt := 183) hx hb dX12_go_314 (by decide) ?_
          exact ih v2 v3 S9 H locs ls hf  hP hD hS (lv_sub hl [0, 1, 2] rfl)
        have J274 : ∀ (v2 : Int32) (v3 : Int32) (v4 : Int32) (S : ha_St) (H : Heap) (locs : List Loc) (ls : Array Slot), (f_X12_go_L183_J274 p0 (f_X12_go_L183i p0 n) v2 v3 v4 S).bind K = some out → va_P D vwCl (ha_wl cs ad mo_kd mo_ln N S) H → va_D (ha_A ad N) (ha_wl cs ad mo_kd mo_ln N S) → va_S (ha_A ad N) s.heap H locs → lv_has ls 5 [(0, .ref (ad p0)), (2, .int v2), (3, .int v3), (4, .int v4)] → W p l e (headSpec wsX12_go ({ frames := 1, cells := 0, slots := 0, locals := 21 } : Room)).room s m ([.ref (ad p0)] : List Value).toArray below meth c H locs 0 0 (MQ below (va_Qv (fun (_ : Unit) => True) (fun _ => ha_H D cs ad mo_kd mo_ln N out) (ha_A ad N)) ([.ref (ad p0)] : List Value).toArray s 0 0 (ha_A ad N)) (F0 m 274 ls []) := by
          intro v2 v3 v4 S H locs ls hf  hP hD hS hl
          unfold f_X12_go_L183_J274 at hf
          refine lv_aload_n hx hb dX12_go_274 rfl (lv_at hl 0 rfl) ?_
          refine ha_geti hx hb hown hK hP q164 hN h0 dX12_go_275 ?_
          refine lv_aload_n hx hb dX12_go_278 rfl (lv_at hl 0 rfl) ?_
          refine ha_geti hx hb hown hK hP q167 hN h0 dX12_go_279 ?_
          refine lv_isub hx hb dX12_go_282 ?_
          refine lv_iconst (v := 2) hx hb dX12_go_283 (by decide) ?_
          refine lv_icmp_ge (tgt := 304) hx hb dX12_go_284 (by decide) (fun c10 => ?_) (fun c10 => ?_)
          · have hf := ha_it hf c10
            exact J304 v2 v3 S H locs ls hf  hP hD hS (lv_sub hl [0, 1, 2] rfl)
          · have hf := ha_if hf c10
            refine lv_aload_n hx hb dX12_go_287 rfl (lv_at hl 0 rfl) ?_
            refine lv_bipush (v := 10) hx hb dX12_go_288 (by decide) ?_
            refine lv_aload_n hx hb dX12_go_290 rfl (lv_at hl 0 rfl) ?_
            refine ha_geti hx hb hown hK hP q190 hN h0 dX12_go_291 ?_
            refine lv_imul hx hb dX12_go_294 ?_
            refine lv_iload hx hb dX12_go_295 (lv_at hl 3 rfl) ?_
            refine lv_iadd hx hb dX12_go_297 ?_
            refine lv_bipush (v := 48) hx hb dX12_go_298 (by decide) ?_
            refine lv_isub hx hb dX12_go_300 ?_
            refine ha_puti hx hb hown hK hP hD hS r190 hN h0 dX12_go_301 (fun S11 H locs eS11 hP hD hS => ?_)
            have hf := ha_nms hf eS11
            exact J304 v2 v3 S11 H locs ls hf  hP hD hS (lv_sub hl [0, 1, 2] rfl)
        have J240 : ∀ (v2 : Int32) (v4 : Int32) (k0 : Int32) (S : ha_St) (H : Heap) (locs : List Loc) (ls : Array Slot), (f_X12_go_L183_J240 p0 (f_X12_go_L183i p0 n) v2 v4 k0 S).bind K = some out → va_P D vwCl (ha_wl cs ad mo_kd mo_ln N S) H → va_D (ha_A ad N) (ha_wl cs ad mo_kd mo_ln N S) → va_S (ha_A ad N) s.heap H locs → lv_has ls 5 [(0, .ref (ad p0)), (2, .int v2), (4, .int v4)] → W p l e (headSpec wsX12_go ({ frames := 1, cells := 0, slots := 0, locals := 21 } : Room)).room s m ([.ref (ad p0)] : List Value).toArray below meth c H locs 0 0 (MQ below (va_Qv (fun (_ : Unit) => True) (fun _ => ha_H D cs ad mo_kd mo_ln N out) (ha_A ad N)) ([.ref (ad p0)] : List Value).toArray s 0 0 (ha_A ad N)) (F0 m 240 ls [.int k0]) := by
          intro v2 v4 k0 S H locs ls hf  hP hD hS hl
          unfold f_X12_go_L183_J240 at hf
          refine lv_istore_n (lv' := [(3, .int k0), (0, .ref (ad p0)), (2, .int v2), (4, .int v4)]) hx hb dX12_go_240 rfl hl (by decide) rfl (fun ls hl => ?_)
          refine lv_aload_n hx hb dX12_go_241 rfl (lv_at hl 1 rfl) ?_
          refine ha_geti hx hb hown hK hP q164 hN h0 dX12_go_242 ?_
          refine lv_aload_n hx hb dX12_go_245 rfl (lv_at hl 1 rfl) ?_
          refine ha_geti hx hb hown hK hP q167 hN h0 dX12_go_246 ?_
          refine lv_isub hx hb dX12_go_249 ?_
          refine lv_iconst (v := 5) hx hb dX12_go_250 (by decide) ?_
          refine lv_icmp_ge (tgt := 274) hx hb dX12_go_251 (by decide) (fun c12 => ?_) (fun c12 => ?_)
          · have hf := ha_it hf c12
            exact J274 v2 k0 v4 S H locs ls hf  hP hD hS (lv_sub hl [1, 2, 0, 3] rfl)
          · have hf := ha_if hf c12
            refine lv_aload_n hx hb dX12_go_254 rfl (lv_at hl 1 rfl) ?_
            refine lv_ldc2 hx hb hown cn197 dX12_go_255 ?_
            refine lv_aload_n hx hb dX12_go_258 rfl (lv_at hl 1 rfl) ?_
            refine ha_getj hx hb hown hK hP q186 hN h0 dX12_go_259 ?_
            refine lv_lmul hx hb dX12_go_262 ?_
            refine lv_iload hx hb dX12_go_263 (lv_at hl 3 rfl) ?_
            refine lv_i2l (v := ((v4 : Int32).toInt64)) hx hb dX12_go_265 rfl ?_
            refine lv_ladd hx hb dX12_go_266 ?_
            refine lv_ldc2 hx hb hown cn199 dX12_go_267 ?_
            refine lv_lsub hx hb dX12_go_270 ?_
            refine ha_putj hx hb hown hK hP hD hS r186 hN h0 dX12_go_271 (fun S13 H locs eS13 hP hD hS => ?_)
            have hf := ha_nms hf eS13
            exact J274 v2 k0 v4 S13 H locs ls hf  hP hD hS (lv_sub hl [1, 2, 0, 3] rfl)
        have J239 : ∀ (v2 : Int32) (v4 : Int32) (S : ha_St) (H : Heap) (locs : List Loc) (ls : Array Slot), (f_X12_go_L183_J239 p0 (f_X12_go_L183i p0 n) v2 v4 S).bind K = some out → va_P D vwCl (ha_wl cs ad mo_kd mo_ln N S) H → va_D (ha_A ad N) (ha_wl cs ad mo_kd mo_ln N S) → va_S (ha_A ad N) s.heap H locs → lv_has ls 5 [(0, .ref (ad p0)), (2, .int v2), (4, .int v4)] → W p l e (headSpec wsX12_go ({ frames := 1, cells := 0, slots := 0, locals := 21 } : Room)).room s m ([.ref (ad p0)] : List Value).toArray below meth c H locs 0 0 (MQ below (va_Qv (fun (_ : Unit) => True) (fun _ => ha_H D cs ad mo_kd mo_ln N out) (ha_A ad N)) ([.ref (ad p0)] : List Value).toArray s 0 0 (ha_A ad N)) (F0 m 239 ls []) := by
          intro v2 v4 S H locs ls hf  hP hD hS hl
          unfold f_X12_go_L183_J239 at hf
          refine lv_iconst (v := 0) hx hb dX12_go_239 (by decide) ?_
          exact J240 v2 v4 0 S H locs ls hf  hP hD hS (lv_sub hl [0, 1, 2] rfl)
        have J211 : ∀ (v2 : Int32) (v3 : Int32) (S : ha_St) (H : Heap) (locs : List Loc) (ls : Array Slot), (f_X12_go_L183_J211 p0 (f_X12_go_L183i p0 n) v2 v3 S).bind K = some out → va_P D vwCl (ha_wl cs ad mo_kd mo_ln N S) H → va_D (ha_A ad N) (ha_wl cs ad mo_kd mo_ln N S) → va_S (ha_A ad N) s.heap H locs → lv_has ls 5 [(0, .ref (ad p0)), (2, .int v2), (3, .int v3)] → W p l e (headSpec wsX12_go ({ frames := 1, cells := 0, slots := 0, locals := 21 } : Room)).room s m ([.ref (ad p0)] : List Value).toArray below meth c H locs 0 0 (MQ below (va_Qv (fun (_ : Unit) => True) (fun _ => ha_H D cs ad mo_kd mo_ln N out) (ha_A ad N)) ([.ref (ad p0)] : List Value).toArray s 0 0 (ha_A ad N)) (F0 m 211 ls []) := by
          intro v2 v3 S H locs ls hf  hP hD hS hl
          unfold f_X12_go_L183_J211 at hf
          refine lv_aload_n hx hb dX12_go_211 rfl (lv_at hl 0 rfl) ?_
          obtain ⟨r14, wr14, hf⟩ := ha_bds hf
          obtain ⟨wr14, hr14⟩ := ha_rf_some wr14
          refine ha_getr hx hb hown hK hP q7 hN h0 wr14 dX12_go_212 ?_
          refine lv_aload_n hx hb dX12_go_215 rfl (lv_at hl 0 rfl) ?_
          refine ha_geti hx hb hown hK hP q164 hN h0 dX12_go_216 ?_
          obtain ⟨g15, hf⟩ := ha_gds hf
          refine ha_iald hx hb hK hP hN hr14 g15 dX12_go_219 ?_
          refine lv_topi (fun x16 ex16 => ?_)
          have hf := ha_nms hf ex16
          refine lv_istore (lv' := [(4, .int x16), (0, .ref (ad p0)), (2, .int v2), (3, .int v3)]) hx hb dX12_go_220 hl (by decide) rfl (fun ls hl => ?_)
          refine lv_iload_n hx hb dX12_go_222 rfl (lv_at hl 3 rfl) ?_
          refine lv_if_eq (tgt := 239) hx hb dX12_go_223 (by decide) (fun c17 => ?_) (fun c17 => ?_)
          · have hf := ha_it hf c17
            exact J239 v2 x16 S H locs ls hf  hP hD hS (lv_sub hl [1, 2, 0] rfl)
          · have hf := ha_if hf c17
            refine lv_iload hx hb dX12_go_226 (lv_at hl 0 rfl) ?_
            obtain ⟨z18, wz18, hf⟩ := ha_bds hf
            refine ha_callSi (As := [.int x16]) (rest := []) hZ ⟨hx, hb, hml, hown, hts⟩ hK hz hP hD hS (c_X12_isLetter   wz18) cw0 rfl hl.1 rfl (Nat.le_of_ble_eq_true rfl) dX12_go_228 ⟨Nat.le_of_ble_eq_true rfl, Nat.le_of_ble_eq_true rfl⟩ (fun H locs hP hD hS => ?_)
            refine lv_iload_n hx hb dX12_go_231 rfl (lv_at hl 2 rfl) ?_
            refine lv_icmp_ne (tgt := 239) hx hb dX12_go_232 (by decide) (fun c19 => ?_) (fun c19 => ?_)
            · have hf := ha_it hf c19
              exact J239 v2 x16 S H locs ls hf  hP hD hS (lv_sub hl [1, 2, 0] rfl)
            · have hf := ha_if hf (fun q => q c19)
              refine lv_iconst (v := 1) hx hb dX12_go_235 (by decide) ?_
              refine lv_goto (tgt := 240) hx hb dX12_go_236 (by decide) ?_
              exact J240 v2 x16 1 S H locs ls hf  hP hD hS (lv_sub hl [1, 2, 0] rfl)
        have hf : (f_X12_go_L183 p0 (f_X12_go_L183i p0 n) v2 v3 S).bind K = some out := hf
        unfold f_X12_go_L183 at hf
        refine lv_aload_n hx hb dX12_go_183 rfl (lv_at hl 0 rfl) ?_
        refine lv_aload_n hx hb dX12_go_184 rfl (lv_at hl 0 rfl) ?_
        refine ha_geti hx hb hown hK hP q164 hN h0 dX12_go_185 ?_
        obtain ⟨z20, wz20, hf⟩ := ha_bds hf
        refine ha_callVi (As := [.int ((ha_gI S p0 6))]) (rest := []) hZ ⟨hx, hb, hml, hown, hts⟩ hK hz hP hD hS (c_X12_byteAt hZ hN h0 wz20) cw3 hN h0 (by decide) rfl rfl hl.1 rfl (Nat.le_of_ble_eq_true rfl) dX12_go_188 ⟨Nat.le_of_ble_eq_true rfl, Nat.le_of_ble_eq_true rfl⟩ (fun H locs hP hD hS => ?_)
        obtain ⟨z21, wz21, hf⟩ := ha_bds hf
        refine ha_callSi (As := [.int z20.1]) (rest := []) hZ ⟨hx, hb, hml, hown, hts⟩ hK hz hP hD hS (c_X12_isLetter   wz21) cw0 rfl hl.1 rfl (Nat.le_of_ble_eq_true rfl) dX12_go_191 ⟨Nat.le_of_ble_eq_true rfl, Nat.le_of_ble_eq_true rfl⟩ (fun H locs hP hD hS => ?_)
        refine lv_if_ne (tgt := 211) hx hb dX12_go_194 (by decide) (fun c22 => ?_) (fun c22 => ?_)
        · have hf := ha_it hf c22
          exact J211 v2 v3 z20.2 H locs ls hf  hP hD hS (lv_sub hl [0, 1, 2] rfl)
        · have hf := ha_if hf (fun q => q c22)
          refine lv_aload_n hx hb dX12_go_197 rfl (lv_at hl 0 rfl) ?_
          refine lv_aload_n hx hb dX12_go_198 rfl (lv_at hl 0 rfl) ?_
          refine ha_geti hx hb hown hK hP q164 hN h0 dX12_go_199 ?_
          obtain ⟨z23, wz23, hf⟩ := ha_bds hf
          refine ha_callVi (As := [.int ((ha_gI z20.2 p0 6))]) (rest := []) hZ ⟨hx, hb, hml, hown, hts⟩ hK hz hP hD hS (c_X12_byteAt hZ hN h0 wz23) cw3 hN h0 (by decide) rfl rfl hl.1 rfl (Nat.le_of_ble_eq_true rfl) dX12_go_202 ⟨Nat.le_of_ble_eq_true rfl, Nat.le_of_ble_eq_true rfl⟩ (fun H locs hP hD hS => ?_)
          obtain ⟨z24, wz24, hf⟩ := ha_bds hf
          refine ha_callSi (As := [.int z23.1]) (rest := []) hZ ⟨hx, hb, hml, hown, hts⟩ hK hz hP hD hS (c_X12_isDigit   wz24) cw4 rfl hl.1 rfl (Nat.le_of_ble_eq_true rfl) dX12_go_205 ⟨Nat.le_of_ble_eq_true rfl, Nat.le_of_ble_eq_true rfl⟩ (fun H locs hP hD hS => ?_)
          refine lv_if_eq (tgt := 317) hx hb dX12_go_208 (by decide) (fun c25 => ?_) (fun c25 => ?_)
          · have hf := ha_it hf c25
            exact hk v2 v3 z23.2 H locs ls hf  hP hD hS (lv_sub hl [0, 1, 2] rfl)
          · have hf := ha_if hf c25
            exact J211 v2 v3 z23.2 H locs ls hf  hP hD hS (lv_sub hl [0, 1, 2] rfl)
    refine key26 _ (fun v2 v3 S H locs ls hf  hP hD hS hl => ?_) ha_fu z6 1 S8 H locs ls (ha_as hf)  hP hD hS (lv_sub hl [2, 1, 0] rfl)
    have hf : (f_X12_go_J317 p0 v2 v3 S).bind some = some out := hf
    exact J317 v2 v3 S H locs ls hf  hP hD hS (lv_sub hl [0, 1, 2] rfl)
  have J147 : ∀ (v1 : Int32) (k0 : Nat) (k1 : Int32) (S : ha_St) (H : Heap) (locs : List Loc) (ls : Array Slot), (f_X12_go_J147 p0 v1 k0 k1 S).bind some = some out → mo_kd k0 = 12 → va_P D vwCl (ha_wl cs ad mo_kd mo_ln N S) H → va_D (ha_A ad N) (ha_wl cs ad mo_kd mo_ln N S) → va_S (ha_A ad N) s.heap H locs → lv_has ls 5 [(0, .ref (ad p0)), (1, .int v1)] → W p l e (headSpec wsX12_go ({ frames := 1, cells := 0, slots := 0, locals := 21 } : Room)).room s m ([.ref (ad p0)] : List Value).toArray below meth c H locs 0 0 (MQ below (va_Qv (fun (_ : Unit) => True) (fun _ => ha_H D cs ad mo_kd mo_ln N out) (ha_A ad N)) ([.ref (ad p0)] : List Value).toArray s 0 0 (ha_A ad N)) (F0 m 147 ls [.int k1, .ref (ad k0)]) := by
    intro v1 k0 k1 S H locs ls hf hk0 hP hD hS hl
    unfold f_X12_go_J147 at hf
    refine ha_puti hx hb hown hK hP hD hS r170 hN hk0 dX12_go_147 (fun S28 H locs eS28 hP hD hS => ?_)
    have hf := ha_nms hf eS28
    refine lv_aload_n hx hb dX12_go_150 rfl (lv_at hl 0 rfl) ?_
    refine lv_iload_n hx hb dX12_go_151 rfl (lv_at hl 1 rfl) ?_
    refine ha_puti hx hb hown hK hP hD hS r183 hN h0 dX12_go_152 (fun S29 H locs eS29 hP hD hS => ?_)
    have hf := ha_nms hf eS29
    refine lv_aload_n hx hb dX12_go_155 rfl (lv_at hl 0 rfl) ?_
    refine lv_dup hx hb dX12_go_156 rfl ?_
    refine ha_geti hx hb hown hK hP q164 hN h0 dX12_go_157 ?_
    refine lv_iconst (v := 1) hx hb dX12_go_160 (by decide) ?_
    refine lv_iadd hx hb dX12_go_161 ?_
    refine ha_puti hx hb hown hK hP hD hS r164 hN h0 dX12_go_162 (fun S30 H locs eS30 hP hD hS => ?_)
    have hf := ha_nms hf eS30
    have he := Option.some.inj hf
    exact ha_retv hx hb hr hlocks hP hD hS dX12_go_165 he
  have J93 : ∀  (S : ha_St) (H : Heap) (locs : List Loc) (ls : Array Slot), (f_X12_go_J93 p0  S).bind some = some out → va_P D vwCl (ha_wl cs ad mo_kd mo_ln N S) H → va_D (ha_A ad N) (ha_wl cs ad mo_kd mo_ln N S) → va_S (ha_A ad N) s.heap H locs → lv_has ls 5 [(0, .ref (ad p0))] → W p l e (headSpec wsX12_go ({ frames := 1, cells := 0, slots := 0, locals := 21 } : Room)).room s m ([.ref (ad p0)] : List Value).toArray below meth c H locs 0 0 (MQ below (va_Qv (fun (_ : Unit) => True) (fun _ => ha_H D cs ad mo_kd mo_ln N out) (ha_A ad N)) ([.ref (ad p0)] : List Value).toArray s 0 0 (ha_A ad N)) (F0 m 93 ls []) := by
    intro  S H locs ls hf  hP hD hS hl
    unfold f_X12_go_J93 at hf
    refine lv_aload_n hx hb dX12_go_93 rfl (lv_at hl 0 rfl) ?_
    refine ha_geti hx hb hown hK hP q164 hN h0 dX12_go_94 ?_
    refine lv_aload_n hx hb dX12_go_97 rfl (lv_at hl 0 rfl) ?_
    refine ha_geti hx hb hown hK hP q161 hN h0 dX12_go_98 ?_
    refine lv_icmp_lt (tgt := 110) hx hb dX12_go_101 (by decide) (fun c31 => ?_) (fun c31 => ?_)
    · have hf := ha_it hf c31
      refine lv_aload_n hx hb dX12_go_110 rfl (lv_at hl 0 rfl) ?_
      obtain ⟨r32, wr32, hf⟩ := ha_bds hf
      obtain ⟨wr32, hr32⟩ := ha_rf_some wr32
      refine ha_getr hx hb hown hK hP q7 hN h0 wr32 dX12_go_111 ?_
      refine lv_aload_n hx hb dX12_go_114 rfl (lv_at hl 0 rfl) ?_
      refine ha_geti hx hb hown hK hP q164 hN h0 dX12_go_115 ?_
      obtain ⟨g33, hf⟩ := ha_gds hf
      refine ha_iald hx hb hK hP hN hr32 g33 dX12_go_118 ?_
      refine lv_topi (fun x34 ex34 => ?_)
      have hf := ha_nms hf ex34
      refine lv_istore_n (lv' := [(1, .int x34), (0, .ref (ad p0))]) hx hb dX12_go_119 rfl hl (by decide) rfl (fun ls hl => ?_)
      refine lv_iload_n hx hb dX12_go_120 rfl (lv_at hl 0 rfl) ?_
      obtain ⟨z35, wz35, hf⟩ := ha_bds hf
      refine ha_callSi (As := [.int x34]) (rest := []) hZ ⟨hx, hb, hml, hown, hts⟩ hK hz hP hD hS (c_X12_isLetter   wz35) cw0 rfl hl.1 rfl (Nat.le_of_ble_eq_true rfl) dX12_go_121 ⟨Nat.le_of_ble_eq_true rfl, Nat.le_of_ble_eq_true rfl⟩ (fun H locs hP hD hS => ?_)
      refine lv_if_ne (tgt := 166) hx hb dX12_go_124 (by decide) (fun c36 => ?_) (fun c36 => ?_)
      · have hf := ha_it hf c36
        exact J166 x34 S H locs ls hf  hP hD hS (lv_sub hl [1, 0] rfl)
      · have hf := ha_if hf (fun q => q c36)
        refine lv_iload_n hx hb dX12_go_127 rfl (lv_at hl 0 rfl) ?_
        obtain ⟨z37, wz37, hf⟩ := ha_bds hf
        refine ha_callSi (As := [.int x34]) (rest := []) hZ ⟨hx, hb, hml, hown, hts⟩ hK hz hP hD hS (c_X12_isDigit   wz37) cw4 rfl hl.1 rfl (Nat.le_of_ble_eq_true rfl) dX12_go_128 ⟨Nat.le_of_ble_eq_true rfl, Nat.le_of_ble_eq_true rfl⟩ (fun H locs hP hD hS => ?_)
        refine lv_if_ne (tgt := 166) hx hb dX12_go_131 (by decide) (fun c38 => ?_) (fun c38 => ?_)
        · have hf := ha_it hf c38
          exact J166 x34 S H locs ls hf  hP hD hS (lv_sub hl [1, 0] rfl)
        · have hf := ha_if hf (fun q => q c38)
          refine lv_aload_n hx hb dX12_go_134 rfl (lv_at hl 1 rfl) ?_
          refine lv_iload_n hx hb dX12_go_135 rfl (lv_at hl 0 rfl) ?_
          obtain ⟨z39, wz39, hf⟩ := ha_bds hf
          refine ha_callSi (As := [.int x34]) (rest := [.ref (ad p0)]) hZ ⟨hx, hb, hml, hown, hts⟩ hK hz hP hD hS (c_X12_isMark   wz39) cw5 rfl hl.1 rfl (Nat.le_of_ble_eq_true rfl) dX12_go_136 ⟨Nat.le_of_ble_eq_true rfl, Nat.le_of_ble_eq_true rfl⟩ (fun H locs hP hD hS => ?_)
          refine lv_if_eq (tgt := 146) hx hb dX12_go_139 (by decide) (fun c40 => ?_) (fun c40 => ?_)
          · have hf := ha_it hf c40
            refine lv_iconst (v := 1) hx hb dX12_go_146 (by decide) ?_
            exact J147 x34 p0 1 S H locs ls hf h0 hP hD hS (lv_sub hl [1, 0] rfl)
          · have hf := ha_if hf c40
            refine lv_iconst (v := 4) hx hb dX12_go_142 (by decide) ?_
            refine lv_goto (tgt := 147) hx hb dX12_go_143 (by decide) ?_
            exact J147 x34 p0 4 S H locs ls hf h0 hP hD hS (lv_sub hl [1, 0] rfl)
    · have hf := ha_if hf c31
      refine lv_aload_n hx hb dX12_go_104 rfl (lv_at hl 0 rfl) ?_
      refine lv_iconst (v := 0) hx hb dX12_go_105 (by decide) ?_
      refine ha_puti hx hb hown hK hP hD hS r170 hN h0 dX12_go_106 (fun S41 H locs eS41 hP hD hS => ?_)
      have hf := ha_nms hf eS41
      have he := Option.some.inj hf
      exact ha_retv hx hb hr hlocks hP hD hS dX12_go_109 he
  have J52 : ∀  (S : ha_St) (H : Heap) (locs : List Loc) (ls : Array Slot), (f_X12_go_J52 p0  S).bind some = some out → va_P D vwCl (ha_wl cs ad mo_kd mo_ln N S) H → va_D (ha_A ad N) (ha_wl cs ad mo_kd mo_ln N S) → va_S (ha_A ad N) s.heap H locs → lv_has ls 5 [(0, .ref (ad p0))] → W p l e (headSpec wsX12_go ({ frames := 1, cells := 0, slots := 0, locals := 21 } : Room)).room s m ([.ref (ad p0)] : List Value).toArray below meth c H locs 0 0 (MQ below (va_Qv (fun (_ : Unit) => True) (fun _ => ha_H D cs ad mo_kd mo_ln N out) (ha_A ad N)) ([.ref (ad p0)] : List Value).toArray s 0 0 (ha_A ad N)) (F0 m 52 ls []) := by
    intro  S H locs ls hf  hP hD hS hl
    unfold f_X12_go_J52 at hf
    refine lv_aload_n hx hb dX12_go_52 rfl (lv_at hl 0 rfl) ?_
    refine lv_aload_n hx hb dX12_go_53 rfl (lv_at hl 0 rfl) ?_
    refine ha_geti hx hb hown hK hP q164 hN h0 dX12_go_54 ?_
    refine ha_puti hx hb hown hK hP hD hS r167 hN h0 dX12_go_57 (fun S42 H locs eS42 hP hD hS => ?_)
    have hf := ha_nms hf eS42
    refine lv_aload_n hx hb dX12_go_60 rfl (lv_at hl 0 rfl) ?_
    refine ha_geti hx hb hown hK hP q161 hN h0 dX12_go_61 ?_
    refine lv_sipush (v := 400) hx hb dX12_go_64 (by decide) ?_
    refine lv_icmp_le (tgt := 93) hx hb dX12_go_67 (by decide) (fun c43 => ?_) (fun c43 => ?_)
    · have hf := ha_it hf c43
      exact J93  S42 H locs ls hf  hP hD hS (lv_sub hl [0] rfl)
    · have hf := ha_if hf c43
      refine lv_aload_n hx hb dX12_go_70 rfl (lv_at hl 0 rfl) ?_
      refine ha_geti hx hb hown hK hP q167 hN h0 dX12_go_71 ?_
      refine lv_sipush (v := 400) hx hb dX12_go_74 (by decide) ?_
      refine lv_icmp_lt (tgt := 93) hx hb dX12_go_77 (by decide) (fun c44 => ?_) (fun c44 => ?_)
      · have hf := ha_it hf c44
        exact J93  S42 H locs ls hf  hP hD hS (lv_sub hl [0] rfl)
      · have hf := ha_if hf c44
        refine lv_aload_n hx hb dX12_go_80 rfl (lv_at hl 0 rfl) ?_
        refine lv_sipush (v := 400) hx hb dX12_go_81 (by decide) ?_
        refine ha_puti hx hb hown hK hP hD hS r167 hN h0 dX12_go_84 (fun S45 H locs eS45 hP hD hS => ?_)
        have hf := ha_nms hf eS45
        refine lv_aload_n hx hb dX12_go_87 rfl (lv_at hl 0 rfl) ?_
        refine lv_iconst (v := 1) hx hb dX12_go_88 (by decide) ?_
        refine ha_puti hx hb hown hK hP hD hS r170 hN h0 dX12_go_89 (fun S46 H locs eS46 hP hD hS => ?_)
        have hf := ha_nms hf eS46
        have he := Option.some.inj hf
        exact ha_retv hx hb hr hlocks hP hD hS dX12_go_92 he
  unfold f_X12_go at hf
  have key55 : ∀ (K : (ha_St) → Option (ha_St)), (∀  (S : ha_St) (H : Heap) (locs : List Loc) (ls : Array Slot), K S = some out → va_P D vwCl (ha_wl cs ad mo_kd mo_ln N S) H → va_D (ha_A ad N) (ha_wl cs ad mo_kd mo_ln N S) → va_S (ha_A ad N) s.heap H locs → lv_has ls 5 [(0, .ref (ad p0))] → W p l e (headSpec wsX12_go ({ frames := 1, cells := 0, slots := 0, locals := 21 } : Room)).room s m ([.ref (ad p0)] : List Value).toArray below meth c H locs 0 0 (MQ below (va_Qv (fun (_ : Unit) => True) (fun _ => ha_H D cs ad mo_kd mo_ln N out) (ha_A ad N)) ([.ref (ad p0)] : List Value).toArray s 0 0 (ha_A ad N)) (F0 m 52 ls [])) → ∀ (n : Nat)  (S : ha_St) (H : Heap) (locs : List Loc) (ls : Array Slot), (f_X12_go_L0i p0 n S).bind K = some out → va_P D vwCl (ha_wl cs ad mo_kd mo_ln N S) H → va_D (ha_A ad N) (ha_wl cs ad mo_kd mo_ln N S) → va_S (ha_A ad N) s.heap H locs → lv_has ls 5 [(0, .ref (ad p0))] → W p l e (headSpec wsX12_go ({ frames := 1, cells := 0, slots := 0, locals := 21 } : Room)).room s m ([.ref (ad p0)] : List Value).toArray below meth c H locs 0 0 (MQ below (va_Qv (fun (_ : Unit) => True) (fun _ => ha_H D cs ad mo_kd mo_ln N out) (ha_A ad N)) ([.ref (ad p0)] : List Value).toArray s 0 0 (ha_A ad N)) (F0 m 0 ls []) := by
    intro K hk n
    induction n with
    | zero =>
      intro  S H locs ls hf
      exact absurd (show (none : Option (ha_St)) = some out from hf) (fun h => by cases h)
    | succ n ih =>
      intro  S H locs ls hf  hP hD hS hl
      have J39 : ∀  (S : ha_St) (H : Heap) (locs : List Loc) (ls : Array Slot), (f_X12_go_L0_J39 p0 (f_X12_go_L0i p0 n)  S).bind K = some out → va_P D vwCl (ha_wl cs ad mo_kd mo_ln N S) H → va_D (ha_A ad N) (ha_wl cs ad mo_kd mo_ln N S) → va_S (ha_A ad N) s.heap H locs → lv_has ls 5 [(0, .ref (ad p0))] → W p l e (headSpec wsX12_go ({ frames := 1, cells := 0, slots := 0, locals := 21 } : Room)).room s m ([.ref (ad p0)] : List Value).toArray below meth c H locs 0 0 (MQ below (va_Qv (fun (_ : Unit) => True) (fun _ => ha_H D cs ad mo_kd mo_ln N out) (ha_A ad N)) ([.ref (ad p0)] : List Value).toArray s 0 0 (ha_A ad N)) (F0 m 39 ls []) := by
        intro  S H locs ls hf  hP hD hS hl
        unfold f_X12_go_L0_J39 at hf
        refine lv_aload_n hx hb dX12_go_39 rfl (lv_at hl 0 rfl) ?_
        refine lv_dup hx hb dX12_go_40 rfl ?_
        refine ha_geti hx hb hown hK hP q164 hN h0 dX12_go_41 ?_
        refine lv_iconst (v := 1) hx hb dX12_go_44 (by decide) ?_
        refine lv_iadd hx hb dX12_go_45 ?_
        refine ha_puti hx hb hown hK hP hD hS r164 hN h0 dX12_go_46 (fun S47 H locs eS47 hP hD hS => ?_)
        have hf := ha_nms hf eS47
        refine lv_goto (tgt := 0) hx hb dX12_go_49 (by decide) ?_
        exact ih  S47 H locs ls hf  hP hD hS (lv_sub hl [0] rfl)
      have hf : (f_X12_go_L0 p0 (f_X12_go_L0i p0 n)  S).bind K = some out := hf
      unfold f_X12_go_L0 at hf
      refine lv_aload_n hx hb dX12_go_0 rfl (lv_at hl 0 rfl) ?_
      refine ha_geti hx hb hown hK hP q164 hN h0 dX12_go_1 ?_
      refine lv_aload_n hx hb dX12_go_4 rfl (lv_at hl 0 rfl) ?_
      refine ha_geti hx hb hown hK hP q161 hN h0 dX12_go_5 ?_
      refine lv_icmp_ge (tgt := 52) hx hb dX12_go_8 (by decide) (fun c48 => ?_) (fun c48 => ?_)
      · have hf := ha_it hf c48
        exact hk  S H locs ls hf  hP hD hS (lv_sub hl [0] rfl)
      · have hf := ha_if hf c48
        refine lv_aload_n hx hb dX12_go_11 rfl (lv_at hl 0 rfl) ?_
        obtain ⟨r49, wr49, hf⟩ := ha_bds hf
        obtain ⟨wr49, hr49⟩ := ha_rf_some wr49
        refine ha_getr hx hb hown hK hP q7 hN h0 wr49 dX12_go_12 ?_
        refine lv_aload_n hx hb dX12_go_15 rfl (lv_at hl 0 rfl) ?_
        refine ha_geti hx hb hown hK hP q164 hN h0 dX12_go_16 ?_
        obtain ⟨g50, hf⟩ := ha_gds hf
        refine ha_iald hx hb hK hP hN hr49 g50 dX12_go_19 ?_
        refine lv_bipush (v := 32) hx hb dX12_go_20 (by decide) ?_
        refine lv_icmp_eq (tgt := 39) hx hb dX12_go_22 (by decide) (fun c51 => ?_) (fun c51 => ?_)
        · have hf := ha_it hf c51
          exact J39  S H locs ls hf  hP hD hS (lv_sub hl [0] rfl)
        · have hf := ha_if hf c51
          refine lv_aload_n hx hb dX12_go_25 rfl (lv_at hl 0 rfl) ?_
          obtain ⟨r52, wr52, hf⟩ := ha_bds hf
          obtain ⟨wr52, hr52⟩ := ha_rf_some wr52
          refine ha_getr hx hb hown hK hP q7 hN h0 wr52 dX12_go_26 ?_
          refine lv_aload_n hx hb dX12_go_29 rfl (lv_at hl 0 rfl) ?_
          refine ha_geti hx hb hown hK hP q164 hN h0 dX12_go_30 ?_
          obtain ⟨g53, hf⟩ := ha_gds hf
          refine ha_iald hx hb hK hP hN hr52 g53 dX12_go_33 ?_
          refine lv_bipush (v := 10) hx hb dX12_go_34 (by decide) ?_
          refine lv_icmp_ne (tgt := 52) hx hb dX12_go_36 (by decide) (fun c54 => ?_) (fun c54 => ?_)
          · have hf := ha_it hf c54
            exact hk  S H locs ls hf  hP hD hS (lv_sub hl [0] rfl)
          · have hf := ha_if hf (fun q => q c54)
            exact J39  S H locs ls hf  hP hD hS (lv_sub hl [0] rfl)
  refine key55 _ (fun  S H locs ls hf  hP hD hS hl => ?_) ha_fu  S H locs ls (ha_as hf)  hP hD hS (lv_sub hl [0] rfl)
  have hf : (f_X12_go_J52 p0  S).bind some = some out := hf
  exact J52  S H locs ls hf  hP hD hS (lv_sub hl [0] rfl)

set_option maxHeartbeats 4000000 in
set_option maxRecDepth 100000 in
theorem c_X12_spelt {l : Launch} {D : va_G} {cs : Nat → ClassId} {ad kd ln : Nat → Nat} {N : List Nat} {Z : State → Prop}  {p0 : Int32} {p1 : Int32} {p2 : Int32} {p3 : Int32} {p4 : Int32} {S : ha_St} {out : Int64}  (hf : f_X12_spelt p0 p1 p2 p3 p4 = some out) : ha_Cl l D cs ad kd ln N Z yX12_spelt wsX12_spelt ({ frames := 0, cells := 0, slots := 0, locals := 0 } : Room) [.int p0, .int p1, .int p2, .int p3, .int p4] S out S := by
  refine Met.ofW (cc := cX12_spelt) (maxL := 7) (ret := (some .long)) (by decide +kernel) rfl ?_
  intro p e s m args below meth c s₁ B hml hv
  obtain ⟨rfl, hP, hD, hK, hz⟩ := hv
  have hx := B.exec
  have hb := B.bytes
  have hr := B.returns
  have hts := atoms_spec (ws := wsX12_spelt) B.pre
  have hown : s.vm.findClass RX12 = some m.cls := findClass_of_methodNamed B.named
  have hlocks := B.notSynchronized
  have hS : va_S (ha_A ad N) s.heap s.heap [] := va_S.rf
  have cn197 := hts (.constantLong RX12 197 (27)) (by decide +kernel)
  have cn199 := hts (.constantLong RX12 199 (96)) (by decide +kernel)
  have hl := lv_entry ([.int p0, .int p1, .int p2, .int p3, .int p4]) (n := 7) (Nat.le_of_ble_eq_true rfl)
  rw [lg_entry_eq]
  generalize (lg_sl ([.int p0, .int p1, .int p2, .int p3, .int p4]) ++ List.replicate (7 - (lg_sl ([.int p0, .int p1, .int p2, .int p3, .int p4])).length) Slot.unset).toArray = ls at hl ⊢
  have hl : lv_has ls 7 [(0, .int p0), (1, .int p1), (2, .int p2), (3, .int p3), (4, .int p4)] := hl
  refine (fun (K0 : ∀ (H : Heap) (locs : List Loc), va_P D vwCl (ha_wl cs ad kd ln N S) H → va_S (ha_A ad N) s.heap H locs → W p l e (headSpec wsX12_spelt ({ frames := 0, cells := 0, slots := 0, locals := 0 } : Room)).room s m ([.int p0, .int p1, .int p2, .int p3, .int p4] : List Value).toArray below meth c H locs 0 0 (MQ below (va_Ql (fun (r : Int64) (_ : Unit) => r = out) (fun _ => ha_H D cs ad kd ln N S) (ha_A ad N)) ([.int p0, .int p1, .int p2, .int p3, .int p4] : List Value).toArray s 0 0 (ha_A ad N)) (F0 m 0 ls [])) => K0 _ _ hP hS) ?_
  intro H locs hP hS
  have hf := ha_rt hf
  have J81 : ∀ (k0 : Int64) (H : Heap) (locs : List Loc) (ls : Array Slot), (f_X12_spelt_J81 p0 p1 p2 p3 p4 k0).bind some = some out → va_P D vwCl (ha_wl cs ad kd ln N S) H → va_D (ha_A ad N) (ha_wl cs ad kd ln N S) → va_S (ha_A ad N) s.heap H locs → lv_has ls 7 [(0, .int p0), (1, .int p1), (2, .int p2), (3, .int p3), (4, .int p4)] → W p l e (headSpec wsX12_spelt ({ frames := 0, cells := 0, slots := 0, locals := 0 } : Room)).room s m ([.int p0, .int p1, .int p2, .int p3, .int p4] : List Value).toArray below meth c H locs 0 0 (MQ below (va_Ql (fun (r : Int64) (_ : Unit) => r = out) (fun _ => ha_H D cs ad kd ln N S) (ha_A ad N)) ([.int p0, .int p1, .int p2, .int p3, .int p4] : List Value).toArray s 0 0 (ha_A ad N)) (F0 m 81 ls [.long k0]) := by
    intro k0 H locs ls hf  hP hD hS hl
    unfold f_X12_spelt_J81 at hf
    have he := Option.some.inj hf
    exact ha_retl hx hb hr hlocks hP hD hS dX12_spelt_81 he rfl
  have J57 : ∀ (v5 : Int64) (H : Heap) (locs : List Loc) (ls : Array Slot), (f_X12_spelt_J57 p0 p1 p2 p3 p4 v5).bind some = some out → va_P D vwCl (ha_wl cs ad kd ln N S) H → va_D (ha_A ad N) (ha_wl cs ad kd ln N S) → va_S (ha_A ad N) s.heap H locs → lv_has ls 7 [(0, .int p0), (1, .int p1), (2, .int p2), (3, .int p3), (4, .int p4), (5, .long v5)] → W p l e (headSpec wsX12_spelt ({ frames := 0, cells := 0, slots := 0, locals := 0 } : Room)).room s m ([.int p0, .int p1, .int p2, .int p3, .int p4] : List Value).toArray below meth c H locs 0 0 (MQ below (va_Ql (fun (r : Int64) (_ : Unit) => r = out) (fun _ => ha_H D cs ad kd ln N S) (ha_A ad N)) ([.int p0, .int p1, .int p2, .int p3, .int p4] : List Value).toArray s 0 0 (ha_A ad N)) (F0 m 57 ls []) := by
    intro v5 H locs ls hf  hP hD hS hl
    unfold f_X12_spelt_J57 at hf
    refine lv_iload hx hb dX12_spelt_57 (lv_at hl 4 rfl) ?_
    refine lv_if_le (tgt := 79) hx hb dX12_spelt_59 (by decide) (fun c1 => ?_) (fun c1 => ?_)
    · have hf := ha_it hf c1
      refine lv_lload hx hb dX12_spelt_79 (lv_at hl 5 rfl) ?_
      exact J81 v5 H locs ls hf  hP hD hS (lv_sub hl [0, 1, 2, 3, 4] rfl)
    · have hf := ha_if hf c1
      refine lv_ldc2 hx hb hown cn197 dX12_spelt_62 ?_
      refine lv_lload hx hb dX12_spelt_65 (lv_at hl 5 rfl) ?_
      refine lv_lmul hx hb dX12_spelt_67 ?_
      refine lv_iload hx hb dX12_spelt_68 (lv_at hl 4 rfl) ?_
      refine lv_i2l (v := ((p4 : Int32).toInt64)) hx hb dX12_spelt_70 rfl ?_
      refine lv_ladd hx hb dX12_spelt_71 ?_
      refine lv_ldc2 hx hb hown cn199 dX12_spelt_72 ?_
      refine lv_lsub hx hb dX12_spelt_75 ?_
      refine lv_goto (tgt := 81) hx hb dX12_spelt_76 (by decide) ?_
      exact J81 (((((((27 : Int64) * v5) : Int64) + ((p4 : Int32).toInt64)) : Int64) - 96)) H locs ls hf  hP hD hS (lv_sub hl [0, 1, 2, 3, 4] rfl)
  have J38 : ∀ (v5 : Int64) (H : Heap) (locs : List Loc) (ls : Array Slot), (f_X12_spelt_J38 p0 p1 p2 p3 p4 v5).bind some = some out → va_P D vwCl (ha_wl cs ad kd ln N S) H → va_D (ha_A ad N) (ha_wl cs ad kd ln N S) → va_S (ha_A ad N) s.heap H locs → lv_has ls 7 [(0, .int p0), (1, .int p1), (2, .int p2), (3, .int p3), (4, .int p4), (5, .long v5)] → W p l e (headSpec wsX12_spelt ({ frames := 0, cells := 0, slots := 0, locals := 0 } : Room)).room s m ([.int p0, .int p1, .int p2, .int p3, .int p4] : List Value).toArray below meth c H locs 0 0 (MQ below (va_Ql (fun (r : Int64) (_ : Unit) => r = out) (fun _ => ha_H D cs ad kd ln N S) (ha_A ad N)) ([.int p0, .int p1, .int p2, .int p3, .int p4] : List Value).toArray s 0 0 (ha_A ad N)) (F0 m 38 ls []) := by
    intro v5 H locs ls hf  hP hD hS hl
    unfold f_X12_spelt_J38 at hf
    refine lv_iload_n hx hb dX12_spelt_38 rfl (lv_at hl 3 rfl) ?_
    refine lv_if_le (tgt := 57) hx hb dX12_spelt_39 (by decide) (fun c2 => ?_) (fun c2 => ?_)
    · have hf := ha_it hf c2
      exact J57 v5 H locs ls hf  hP hD hS (lv_sub hl [0, 1, 2, 3, 4, 5] rfl)
    · have hf := ha_if hf c2
      refine lv_ldc2 hx hb hown cn197 dX12_spelt_42 ?_
      refine lv_lload hx hb dX12_spelt_45 (lv_at hl 5 rfl) ?_
      refine lv_lmul hx hb dX12_spelt_47 ?_
      refine lv_iload_n hx hb dX12_spelt_48 rfl (lv_at hl 3 rfl) ?_
      refine lv_i2l (v := ((p3 : Int32).toInt64)) hx hb dX12_spelt_49 rfl ?_
      refine lv_ladd hx hb dX12_spelt_50 ?_
      refine lv_ldc2 hx hb hown cn199 dX12_spelt_51 ?_
      refine lv_lsub hx hb dX12_spelt_54 ?_
      refine lv_topl (fun x3 ex3 => ?_)
      have hf := ha_nms hf ex3
      refine lv_lstore (lv' := [(5, .long x3), (0, .int p0), (1, .int p1), (2, .int p2), (3, .int p3), (4, .int p4)]) hx hb dX12_spelt_55 hl (by decide) rfl (fun ls hl => ?_)
      exact J57 x3 H locs ls hf  hP hD hS (lv_sub hl [1, 2, 3, 4, 5, 0] rfl)
  unfold f_X12_spelt at hf
  refine lv_ldc2 hx hb hown cn197 dX12_spelt_0 ?_
  refine lv_iload_n hx hb dX12_spelt_3 rfl (lv_at hl 0 rfl) ?_
  refine lv_i2l (v := ((p0 : Int32).toInt64)) hx hb dX12_spelt_4 rfl ?_
  refine lv_ldc2 hx hb hown cn199 dX12_spelt_5 ?_
  refine lv_lsub hx hb dX12_spelt_8 ?_
  refine lv_lmul hx hb dX12_spelt_9 ?_
  refine lv_iload_n hx hb dX12_spelt_10 rfl (lv_at hl 1 rfl) ?_
  refine lv_i2l (v := ((p1 : Int32).toInt64)) hx hb dX12_spelt_11 rfl ?_
  refine lv_ladd hx hb dX12_spelt_12 ?_
  refine lv_ldc2 hx hb hown cn199 dX12_spelt_13 ?_
  refine lv_lsub hx hb dX12_spelt_16 ?_
  refine lv_topl (fun x4 ex4 => ?_)
  have hf := ha_nms hf ex4
  refine lv_lstore (lv' := [(5, .long x4), (0, .int p0), (1, .int p1), (2, .int p2), (3, .int p3), (4, .int p4)]) hx hb dX12_spelt_17 hl (by decide) rfl (fun ls hl => ?_)
  refine lv_iload_n hx hb dX12_spelt_19 rfl (lv_at hl 3 rfl) ?_
  refine lv_if_le (tgt := 38) hx hb dX12_spelt_20 (by decide) (fun c5 => ?_) (fun c5 => ?_)
  · have hf := ha_it hf c5
    exact J38 x4 H locs ls hf  hP hD hS (lv_sub hl [1, 2, 3, 4, 5, 0] rfl)
  · have hf := ha_if hf c5
    refine lv_ldc2 hx hb hown cn197 dX12_spelt_23 ?_
    refine lv_lload hx hb dX12_spelt_26 (lv_at hl 0 rfl) ?_
    refine lv_lmul hx hb dX12_spelt_28 ?_
    refine lv_iload_n hx hb dX12_spelt_29 rfl (lv_at hl 3 rfl) ?_
    refine lv_i2l (v := ((p2 : Int32).toInt64)) hx hb dX12_spelt_30 rfl ?_
    refine lv_ladd hx hb dX12_spelt_31 ?_
    refine lv_ldc2 hx hb hown cn199 dX12_spelt_32 ?_
    refine lv_lsub hx hb dX12_spelt_35 ?_
    refine lv_topl (fun x6 ex6 => ?_)
    have hf := ha_nms hf ex6
    refine lv_lstore (lv' := [(5, .long x6), (0, .int p0), (1, .int p1), (2, .int p2), (3, .int p3), (4, .int p4)]) hx hb dX12_spelt_36 hl (by decide) rfl (fun ls hl => ?_)
    exact J38 x6 H locs ls hf  hP hD hS (lv_sub hl [1, 2, 3, 4, 5, 0] rfl)

set_option maxHeartbeats 4000000 in
set_option maxRecDepth 100000 in
theorem c_X12_isKey {l : Launch} {D : va_G} {cs : Nat → ClassId} {ad : Nat → Nat} {N : List Nat} {Z : State → Prop} (hZ : ha_Zok (ha_A ad N) Z) (hN : ∀ x, mo_kd x < 999 → x ∈ N) {p0 : Nat} {p1 : Int64} {S : ha_St} {out : Int32 × ha_St} (h0 : mo_kd p0 = 12) (hf : f_X12_isKey p0 p1 S = some out) : ha_Ci l D cs ad mo_kd mo_ln N Z yX12_isKey wsX12_isKey ({ frames := 0, cells := 0, slots := 0, locals := 0 } : Room) [.ref (ad p0), .long p1] S out.1 out.2 := by
  refine Met.ofW (cc := cX12_isKey) (maxL := 3) (ret := (some .boolean)) (by decide +kernel) rfl ?_
  intro p e s m args below meth c s₁ B hml hv
  obtain ⟨rfl, hP, hD, hK, hz⟩ := hv
  have hx := B.exec
  have hb := B.bytes
  have hr := B.returns
  have hts := atoms_spec (ws := wsX12_isKey) B.pre
  have hown : s.vm.findClass RX12 = some m.cls := findClass_of_methodNamed B.named
  have hlocks := B.notSynchronized
  have hS : va_S (ha_A ad N) s.heap s.heap [] := va_S.rf
  have hi12 : ∀ w ∈ wsX120, w ∈ wsX12_isKey := fun w h => List.mem_cons_of_mem _ (List.mem_append_right _ h)
  have q170 : ha_Fk s ([.ref (ad p0), .long p1] : List Value).toArray RX12 170 12 8 0 := ⟨RX12, TX12, 83, wsX12_isKey, rfl, by decide, by decide, rfl, rfl, hts, hi12, hts (.fieldLink RX12 170 "HillArmsModel" "kind" "I") (by decide +kernel)⟩
  have q186 : ha_Fk s ([.ref (ad p0), .long p1] : List Value).toArray RX12 186 12 13 2 := ⟨RX12, TX12, 83, wsX12_isKey, rfl, by decide, by decide, rfl, rfl, hts, hi12, hts (.fieldLink RX12 186 "HillArmsModel" "word" "J") (by decide +kernel)⟩
  have hl := lv_entry ([.ref (ad p0), .long p1]) (n := 3) (Nat.le_of_ble_eq_true rfl)
  rw [lg_entry_eq]
  generalize (lg_sl ([.ref (ad p0), .long p1]) ++ List.replicate (3 - (lg_sl ([.ref (ad p0), .long p1])).length) Slot.unset).toArray = ls at hl ⊢
  have hl : lv_has ls 3 [(0, .ref (ad p0)), (1, .long p1)] := hl
  refine (fun (K0 : ∀ (H : Heap) (locs : List Loc), va_P D vwCl (ha_wl cs ad mo_kd mo_ln N S) H → va_S (ha_A ad N) s.heap H locs → W p l e (headSpec wsX12_isKey ({ frames := 0, cells := 0, slots := 0, locals := 0 } : Room)).room s m ([.ref (ad p0), .long p1] : List Value).toArray below meth c H locs 0 0 (MQ below (va_Qi (fun (r : Int32) (_ : Unit) => r = out.1) (fun _ => ha_H D cs ad mo_kd mo_ln N out.2) (ha_A ad N)) ([.ref (ad p0), .long p1] : List Value).toArray s 0 0 (ha_A ad N)) (F0 m 0 ls [])) => K0 _ _ hP hS) ?_
  intro H locs hP hS
  have hf := ha_rt hf
  have J22 : ∀ (k0 : Int32) (S : ha_St) (H : Heap) (locs : List Loc) (ls : Array Slot), (f_X12_isKey_J22 p0 p1 k0 S).bind some = some out → va_P D vwCl (ha_wl cs ad mo_kd mo_ln N S) H → va_D (ha_A ad N) (ha_wl cs ad mo_kd mo_ln N S) → va_S (ha_A ad N) s.heap H locs → lv_has ls 3 [(0, .ref (ad p0)), (1, .long p1)] → W p l e (headSpec wsX12_isKey ({ frames := 0, cells := 0, slots := 0, locals := 0 } : Room)).room s m ([.ref (ad p0), .long p1] : List Value).toArray below meth c H locs 0 0 (MQ below (va_Qi (fun (r : Int32) (_ : Unit) => r = out.1) (fun _ => ha_H D cs ad mo_kd mo_ln N out.2) (ha_A ad N)) ([.ref (ad p0), .long p1] : List Value).toArray s 0 0 (ha_A ad N)) (F0 m 22 ls [.int k0]) := by
    intro k0 S H locs ls hf  hP hD hS hl
    unfold f_X12_isKey_J22 at hf
    obtain ⟨g1, hf⟩ := ha_gds hf
    have he := Option.some.inj hf
    exact ha_retz hx hb hr hlocks hP hD hS dX12_isKey_22 g1 (ha_e1 he) (ha_e2 he)
  have J21 : ∀  (S : ha_St) (H : Heap) (locs : List Loc) (ls : Array Slot), (f_X12_isKey_J21 p0 p1  S).bind some = some out → va_P D vwCl (ha_wl cs ad mo_kd mo_ln N S) H → va_D (ha_A ad N) (ha_wl cs ad mo_kd mo_ln N S) → va_S (ha_A ad N) s.heap H locs → lv_has ls 3 [(0, .ref (ad p0)), (1, .long p1)] → W p l e (headSpec wsX12_isKey ({ frames := 0, cells := 0, slots := 0, locals := 0 } : Room)).room s m ([.ref (ad p0), .long p1] : List Value).toArray below meth c H locs 0 0 (MQ below (va_Qi (fun (r : Int32) (_ : Unit) => r = out.1) (fun _ => ha_H D cs ad mo_kd mo_ln N out.2) (ha_A ad N)) ([.ref (ad p0), .long p1] : List Value).toArray s 0 0 (ha_A ad N)) (F0 m 21 ls []) := by
    intro  S H locs ls hf  hP hD hS hl
    unfold f_X12_isKey_J21 at hf
    refine lv_iconst (v := 0) hx hb dX12_isKey_21 (by decide) ?_
    exact J22 0 S H locs ls hf  hP hD hS (lv_sub hl [0, 1] rfl)
  unfold f_X12_isKey at hf
  refine lv_aload_n hx hb dX12_isKey_0 rfl (lv_at hl 0 rfl) ?_
  refine ha_geti hx hb hown hK hP q170 hN h0 dX12_isKey_1 ?_
  refine lv_iconst (v := 2) hx hb dX12_isKey_4 (by decide) ?_
  refine lv_icmp_ne (tgt := 21) hx hb dX12_isKey_5 (by decide) (fun c2 => ?_) (fun c2 => ?_)
  · have hf := ha_it hf c2
    exact J21  S H locs ls hf  hP hD hS (lv_sub hl [0, 1] rfl)
  · have hf := ha_if hf (fun q => q c2)
    refine lv_aload_n hx hb dX12_isKey_8 rfl (lv_at hl 0 rfl) ?_
    refine ha_getj hx hb hown hK hP q186 hN h0 dX12_isKey_9 ?_
    refine lv_lload_n hx hb dX12_isKey_12 rfl (lv_at hl 1 rfl) ?_
    refine W.lcmp hx hb dX12_isKey_13 ?_
    refine lv_if_ne (tgt := 21) hx hb dX12_isKey_14 (by decide) (fun c3 => ?_) (fun c3 => ?_)
    · have hf := ha_it hf c3
      exact J21  S H locs ls hf  hP hD hS (lv_sub hl [0, 1] rfl)
    · have hf := ha_if hf (fun q => q c3)
      refine lv_iconst (v := 1) hx hb dX12_isKey_17 (by decide) ?_
      refine lv_goto (tgt := 22) hx hb dX12_isKey_18 (by decide) ?_
      exact J22 1 S H locs ls hf  hP hD hS (lv_sub hl [0, 1] rfl)

set_option maxHeartbeats 4000000 in
set_option maxRecDepth 100000 in
theorem c_X12_bad {l : Launch} {D : va_G} {cs : Nat → ClassId} {ad : Nat → Nat} {N : List Nat} {Z : State → Prop} (hZ : ha_Zok (ha_A ad N) Z) (hN : ∀ x, mo_kd x < 999 → x ∈ N) {p0 : Nat} {p1 : Int32} {S : ha_St} {out : Int32 × ha_St} (h0 : mo_kd p0 = 12) (hf : f_X12_bad p0 p1 S = some out) : ha_Ci l D cs ad mo_kd mo_ln N Z yX12_bad wsX12_bad ({ frames := 0, cells := 0, slots := 0, locals := 0 } : Room) [.ref (ad p0), .int p1] S out.1 out.2 := by
  refine Met.ofW (cc := cX12_bad) (maxL := 2) (ret := (some .boolean)) (by decide +kernel) rfl ?_
  intro p e s m args below meth c s₁ B hml hv
  obtain ⟨rfl, hP, hD, hK, hz⟩ := hv
  have hx := B.exec
  have hb := B.bytes
  have hr := B.returns
  have hts := atoms_spec (ws := wsX12_bad) B.pre
  have hown : s.vm.findClass RX12 = some m.cls := findClass_of_methodNamed B.named
  have hlocks := B.notSynchronized
  have hS : va_S (ha_A ad N) s.heap s.heap [] := va_S.rf
  have hi12 : ∀ w ∈ wsX120, w ∈ wsX12_bad := fun w h => List.mem_cons_of_mem _ (List.mem_append_right _ h)
  have q167 : ha_Fk s ([.ref (ad p0), .int p1] : List Value).toArray RX12 167 12 7 0 := ⟨RX12, TX12, 83, wsX12_bad, rfl, by decide, by decide, rfl, rfl, hts, hi12, hts (.fieldLink RX12 167 "HillArmsModel" "from" "I") (by decide +kernel)⟩
  have q170 : ha_Fk s ([.ref (ad p0), .int p1] : List Value).toArray RX12 170 12 8 0 := ⟨RX12, TX12, 83, wsX12_bad, rfl, by decide, by decide, rfl, rfl, hts, hi12, hts (.fieldLink RX12 170 "HillArmsModel" "kind" "I") (by decide +kernel)⟩
  have r201 : ha_Fp s ([.ref (ad p0), .int p1] : List Value).toArray RX12 201 12 11 0 .int := ⟨RX12, TX12, 83, wsX12_bad, tyX12, rfl, by decide, by decide, rfl, rfl, hts, hi12, hts (.fieldLink RX12 201 "HillArmsModel" "fault" "I") (by decide +kernel), tyX12_ok, nmX12, rfl, by decide +kernel⟩
  have r204 : ha_Fp s ([.ref (ad p0), .int p1] : List Value).toArray RX12 204 12 12 0 .int := ⟨RX12, TX12, 83, wsX12_bad, tyX12, rfl, by decide, by decide, rfl, rfl, hts, hi12, hts (.fieldLink RX12 204 "HillArmsModel" "place" "I") (by decide +kernel), tyX12_ok, nmX12, rfl, by decide +kernel⟩
  have hl := lv_entry ([.ref (ad p0), .int p1]) (n := 2) (Nat.le_of_ble_eq_true rfl)
  rw [lg_entry_eq]
  generalize (lg_sl ([.ref (ad p0), .int p1]) ++ List.replicate (2 - (lg_sl ([.ref (ad p0), .int p1])).length) Slot.unset).toArray = ls at hl ⊢
  have hl : lv_has ls 2 [(0, .ref (ad p0)), (1, .int p1)] := hl
  refine (fun (K0 : ∀ (H : Heap) (locs : List Loc), va_P D vwCl (ha_wl cs ad mo_kd mo_ln N S) H → va_S (ha_A ad N) s.heap H locs → W p l e (headSpec wsX12_bad ({ frames := 0, cells := 0, slots := 0, locals := 0 } : Room)).room s m ([.ref (ad p0), .int p1] : List Value).toArray below meth c H locs 0 0 (MQ below (va_Qi (fun (r : Int32) (_ : Unit) => r = out.1) (fun _ => ha_H D cs ad mo_kd mo_ln N out.2) (ha_A ad N)) ([.ref (ad p0), .int p1] : List Value).toArray s 0 0 (ha_A ad N)) (F0 m 0 ls [])) => K0 _ _ hP hS) ?_
  intro H locs hP hS
  have hf := ha_rt hf
  have J14 : ∀ (k0 : Nat) (k1 : Int32) (S : ha_St) (H : Heap) (locs : List Loc) (ls : Array Slot), (f_X12_bad_J14 p0 p1 k0 k1 S).bind some = some out → mo_kd k0 = 12 → va_P D vwCl (ha_wl cs ad mo_kd mo_ln N S) H → va_D (ha_A ad N) (ha_wl cs ad mo_kd mo_ln N S) → va_S (ha_A ad N) s.heap H locs → lv_has ls 2 [(0, .ref (ad p0)), (1, .int p1)] → W p l e (headSpec wsX12_bad ({ frames := 0, cells := 0, slots := 0, locals := 0 } : Room)).room s m ([.ref (ad p0), .int p1] : List Value).toArray below meth c H locs 0 0 (MQ below (va_Qi (fun (r : Int32) (_ : Unit) => r = out.1) (fun _ => ha_H D cs ad mo_kd mo_ln N out.2) (ha_A ad N)) ([.ref (ad p0), .int p1] : List Value).toArray s 0 0 (ha_A ad N)) (F0 m 14 ls [.int k1, .ref (ad k0)]) := by
    intro k0 k1 S H locs ls hf hk0 hP hD hS hl
    unfold f_X12_bad_J14 at hf
    refine ha_puti hx hb hown hK hP hD hS r201 hN hk0 dX12_bad_14 (fun S1 H locs eS1 hP hD hS => ?_)
    have hf := ha_nms hf eS1
    refine lv_aload_n hx hb dX12_bad_17 rfl (lv_at hl 0 rfl) ?_
    refine lv_aload_n hx hb dX12_bad_18 rfl (lv_at hl 0 rfl) ?_
    refine ha_geti hx hb hown hK hP q167 hN h0 dX12_bad_19 ?_
    refine ha_puti hx hb hown hK hP hD hS r204 hN h0 dX12_bad_22 (fun S2 H locs eS2 hP hD hS => ?_)
    have hf := ha_nms hf eS2
    refine lv_iconst (v := 0) hx hb dX12_bad_25 (by decide) ?_
    have he := Option.some.inj hf
    exact ha_retz hx hb hr hlocks hP hD hS dX12_bad_26 (by decide) (ha_e1 he) (ha_e2 he)
  unfold f_X12_bad at hf
  refine lv_aload_n hx hb dX12_bad_0 rfl (lv_at hl 0 rfl) ?_
  refine lv_aload_n hx hb dX12_bad_1 rfl (lv_at hl 0 rfl) ?_
  refine ha_geti hx hb hown hK hP q170 hN h0 dX12_bad_2 ?_
  refine lv_iconst (v := 1) hx hb dX12_bad_5 (by decide) ?_
  refine lv_icmp_ne (tgt := 13) hx hb dX12_bad_6 (by decide) (fun c3 => ?_) (fun c3 => ?_)
  · have hf := ha_it hf c3
    refine lv_iload_n hx hb dX12_bad_13 rfl (lv_at hl 1 rfl) ?_
    exact J14 p0 p1 S H locs ls hf h0 hP hD hS (lv_sub hl [0, 1] rfl)
  · have hf := ha_if hf (fun q => q c3)
    refine lv_iconst (v := 1) hx hb dX12_bad_9 (by decide) ?_
    refine lv_goto (tgt := 14) hx hb dX12_bad_10 (by decide) ?_
    exact J14 p0 1 S H locs ls hf h0 hP hD hS (lv_sub hl [0, 1] rfl)

set_option maxHeartbeats 4000000 in
set_option maxRecDepth 100000 in
theorem c_X12_isSign {l : Launch} {D : va_G} {cs : Nat → ClassId} {ad : Nat → Nat} {N : List Nat} {Z : State → Prop} (hZ : ha_Zok (ha_A ad N) Z) (hN : ∀ x, mo_kd x < 999 → x ∈ N) {p0 : Nat} {p1 : Int32} {S : ha_St} {out : Int32 × ha_St} (h0 : mo_kd p0 = 12) (hf : f_X12_isSign p0 p1 S = some out) : ha_Ci l D cs ad mo_kd mo_ln N Z yX12_isSign wsX12_isSign ({ frames := 0, cells := 0, slots := 0, locals := 0 } : Room) [.ref (ad p0), .int p1] S out.1 out.2 := by
  refine Met.ofW (cc := cX12_isSign) (maxL := 2) (ret := (some .boolean)) (by decide +kernel) rfl ?_
  intro p e s m args below meth c s₁ B hml hv
  obtain ⟨rfl, hP, hD, hK, hz⟩ := hv
  have hx := B.exec
  have hb := B.bytes
  have hr := B.returns
  have hts := atoms_spec (ws := wsX12_isSign) B.pre
  have hown : s.vm.findClass RX12 = some m.cls := findClass_of_methodNamed B.named
  have hlocks := B.notSynchronized
  have hS : va_S (ha_A ad N) s.heap s.heap [] := va_S.rf
  have hi12 : ∀ w ∈ wsX120, w ∈ wsX12_isSign := fun w h => List.mem_cons_of_mem _ (List.mem_append_right _ h)
  have q170 : ha_Fk s ([.ref (ad p0), .int p1] : List Value).toArray RX12 170 12 8 0 := ⟨RX12, TX12, 83, wsX12_isSign, rfl, by decide, by decide, rfl, rfl, hts, hi12, hts (.fieldLink RX12 170 "HillArmsModel" "kind" "I") (by decide +kernel)⟩
  have q183 : ha_Fk s ([.ref (ad p0), .int p1] : List Value).toArray RX12 183 12 10 0 := ⟨RX12, TX12, 83, wsX12_isSign, rfl, by decide, by decide, rfl, rfl, hts, hi12, hts (.fieldLink RX12 183 "HillArmsModel" "sign" "I") (by decide +kernel)⟩
  have hl := lv_entry ([.ref (ad p0), .int p1]) (n := 2) (Nat.le_of_ble_eq_true rfl)
  rw [lg_entry_eq]
  generalize (lg_sl ([.ref (ad p0), .int p1]) ++ List.replicate (2 - (lg_sl ([.ref (ad p0), .int p1])).length) Slot.unset).toArray = ls at hl ⊢
  have hl : lv_has ls 2 [(0, .ref (ad p0)), (1, .int p1)] := hl
  refine (fun (K0 : ∀ (H : Heap) (locs : List Loc), va_P D vwCl (ha_wl cs ad mo_kd mo_ln N S) H → va_S (ha_A ad N) s.heap H locs → W p l e (headSpec wsX12_isSign ({ frames := 0, cells := 0, slots := 0, locals := 0 } : Room)).room s m ([.ref (ad p0), .int p1] : List Value).toArray below meth c H locs 0 0 (MQ below (va_Qi (fun (r : Int32) (_ : Unit) => r = out.1) (fun _ => ha_H D cs ad mo_kd mo_ln N out.2) (ha_A ad N)) ([.ref (ad p0), .int p1] : List Value).toArray s 0 0 (ha_A ad N)) (F0 m 0 ls [])) => K0 _ _ hP hS) ?_
  intro H locs hP hS
  have hf := ha_rt hf
  have J21 : ∀ (k0 : Int32) (S : ha_St) (H : Heap) (locs : List Loc) (ls : Array Slot), (f_X12_isSign_J21 p0 p1 k0 S).bind some = some out → va_P D vwCl (ha_wl cs ad mo_kd mo_ln N S) H → va_D (ha_A ad N) (ha_wl cs ad mo_kd mo_ln N S) → va_S (ha_A ad N) s.heap H locs → lv_has ls 2 [(0, .ref (ad p0)), (1, .int p1)] → W p l e (headSpec wsX12_isSign ({ frames := 0, cells := 0, slots := 0, locals := 0 } : Room)).room s m ([.ref (ad p0), .int p1] : List Value).toArray below meth c H locs 0 0 (MQ below (va_Qi (fun (r : Int32) (_ : Unit) => r = out.1) (fun _ => ha_H D cs ad mo_kd mo_ln N out.2) (ha_A ad N)) ([.ref (ad p0), .int p1] : List Value).toArray s 0 0 (ha_A ad N)) (F0 m 21 ls [.int k0]) := by
    intro k0 S H locs ls hf  hP hD hS hl
    unfold f_X12_isSign_J21 at hf
    obtain ⟨g1, hf⟩ := ha_gds hf
    have he := Option.some.inj hf
    exact ha_retz hx hb hr hlocks hP hD hS dX12_isSign_21 g1 (ha_e1 he) (ha_e2 he)
  have J20 : ∀  (S : ha_St) (H : Heap) (locs : List Loc) (ls : Array Slot), (f_X12_isSign_J20 p0 p1  S).bind some = some out → va_P D vwCl (ha_wl cs ad mo_kd mo_ln N S) H → va_D (ha_A ad N) (ha_wl cs ad mo_kd mo_ln N S) → va_S (ha_A ad N) s.heap H locs → lv_has ls 2 [(0, .ref (ad p0)), (1, .int p1)] → W p l e (headSpec wsX12_isSign ({ frames := 0, cells := 0, slots := 0, locals := 0 } : Room)).room s m ([.ref (ad p0), .int p1] : List Value).toArray below meth c H locs 0 0 (MQ below (va_Qi (fun (r : Int32) (_ : Unit) => r = out.1) (fun _ => ha_H D cs ad mo_kd mo_ln N out.2) (ha_A ad N)) ([.ref (ad p0), .int p1] : List Value).toArray s 0 0 (ha_A ad N)) (F0 m 20 ls []) := by
    intro  S H locs ls hf  hP hD hS hl
    unfold f_X12_isSign_J20 at hf
    refine lv_iconst (v := 0) hx hb dX12_isSign_20 (by decide) ?_
    exact J21 0 S H locs ls hf  hP hD hS (lv_sub hl [0, 1] rfl)
  unfold f_X12_isSign at hf
  refine lv_aload_n hx hb dX12_isSign_0 rfl (lv_at hl 0 rfl) ?_
  refine ha_geti hx hb hown hK hP q170 hN h0 dX12_isSign_1 ?_
  refine lv_iconst (v := 4) hx hb dX12_isSign_4 (by decide) ?_
  refine lv_icmp_ne (tgt := 20) hx hb dX12_isSign_5 (by decide) (fun c2 => ?_) (fun c2 => ?_)
  · have hf := ha_it hf c2
    exact J20  S H locs ls hf  hP hD hS (lv_sub hl [0, 1] rfl)
  · have hf := ha_if hf (fun q => q c2)
    refine lv_aload_n hx hb dX12_isSign_8 rfl (lv_at hl 0 rfl) ?_
    refine ha_geti hx hb hown hK hP q183 hN h0 dX12_isSign_9 ?_
    refine lv_iload_n hx hb dX12_isSign_12 rfl (lv_at hl 1 rfl) ?_
    refine lv_icmp_ne (tgt := 20) hx hb dX12_isSign_13 (by decide) (fun c3 => ?_) (fun c3 => ?_)
    · have hf := ha_it hf c3
      exact J20  S H locs ls hf  hP hD hS (lv_sub hl [0, 1] rfl)
    · have hf := ha_if hf (fun q => q c3)
      refine lv_iconst (v := 1) hx hb dX12_isSign_16 (by decide) ?_
      refine lv_goto (tgt := 21) hx hb dX12_isSign_17 (by decide) ?_
      exact J21 1 S H locs ls hf  hP hD hS (lv_sub hl [0, 1] rfl)

set_option maxHeartbeats 4000000 in
set_option maxRecDepth 100000 in
theorem c_X12_readKey {l : Launch} {D : va_G} {cs : Nat → ClassId} {ad : Nat → Nat} {N : List Nat} {Z : State → Prop} (hZ : ha_Zok (ha_A ad N) Z) (hN : ∀ x, mo_kd x < 999 → x ∈ N) {p0 : Nat} {p1 : Int64} {S : ha_St} {out : Int32 × ha_St} (h0 : mo_kd p0 = 12) (hf : f_X12_readKey p0 p1 S = some out) : ha_Ci l D cs ad mo_kd mo_ln N Z yX12_readKey wsX12_readKey ({ frames := 2, cells := 0, slots := 0, locals := 45 } : Room) [.ref (ad p0), .long p1] S out.1 out.2 := by
  refine Met.ofW (cc := cX12_readKey) (maxL := 3) (ret := (some .boolean)) (by decide +kernel) rfl ?_
  intro p e s m args below meth c s₁ B hml hv
  obtain ⟨rfl, hP, hD, hK, hz⟩ := hv
  have hx := B.exec
  have hb := B.bytes
  have hr := B.returns
  have hts := atoms_spec (ws := wsX12_readKey) B.pre
  have hown : s.vm.findClass RX12 = some m.cls := findClass_of_methodNamed B.named
  have hlocks := B.notSynchronized
  have hS : va_S (ha_A ad N) s.heap s.heap [] := va_S.rf
  have cw0 := cwV (R := (headSpec wsX12_readKey ({ frames := 2, cells := 0, slots := 0, locals := 45 } : Room)).room) 1 hts gX12_readKey_X12_isKey (rm := ({ frames := 0, cells := 0, slots := 0, locals := 0 } : Room)) (mc := 0) (ms := 0) rfl rfl rfl (by decide +kernel) ⟨Nat.le_of_ble_eq_true rfl, Nat.le_of_ble_eq_true rfl⟩
  have cw1 := cwV (R := (headSpec wsX12_readKey ({ frames := 2, cells := 0, slots := 0, locals := 45 } : Room)).room) 0 hts gX12_readKey_X12_go (rm := ({ frames := 1, cells := 0, slots := 0, locals := 21 } : Room)) (mc := 0) (ms := 0) rfl rfl rfl (by decide +kernel) ⟨Nat.le_of_ble_eq_true rfl, Nat.le_of_ble_eq_true rfl⟩
  have cw2 := cwV (R := (headSpec wsX12_readKey ({ frames := 2, cells := 0, slots := 0, locals := 45 } : Room)).room) 1 hts gX12_readKey_X12_bad (rm := ({ frames := 0, cells := 0, slots := 0, locals := 0 } : Room)) (mc := 0) (ms := 0) rfl rfl rfl (by decide +kernel) ⟨Nat.le_of_ble_eq_true rfl, Nat.le_of_ble_eq_true rfl⟩
  have hl := lv_entry ([.ref (ad p0), .long p1]) (n := 3) (Nat.le_of_ble_eq_true rfl)
  rw [lg_entry_eq]
  generalize (lg_sl ([.ref (ad p0), .long p1]) ++ List.replicate (3 - (lg_sl ([.ref (ad p0), .long p1])).length) Slot.unset).toArray = ls at hl ⊢
  have hl : lv_has ls 3 [(0, .ref (ad p0)), (1, .long p1)] := hl
  refine (fun (K0 : ∀ (H : Heap) (locs : List Loc), va_P D vwCl (ha_wl cs ad mo_kd mo_ln N S) H → va_S (ha_A ad N) s.heap H locs → W p l e (headSpec wsX12_readKey ({ frames := 2, cells := 0, slots := 0, locals := 45 } : Room)).room s m ([.ref (ad p0), .long p1] : List Value).toArray below meth c H locs 0 0 (MQ below (va_Qi (fun (r : Int32) (_ : Unit) => r = out.1) (fun _ => ha_H D cs ad mo_kd mo_ln N out.2) (ha_A ad N)) ([.ref (ad p0), .long p1] : List Value).toArray s 0 0 (ha_A ad N)) (F0 m 0 ls [])) => K0 _ _ hP hS) ?_
  intro H locs hP hS
  have hf := ha_rt hf
  unfold f_X12_readKey at hf
  refine lv_aload_n hx hb dX12_readKey_0 rfl (lv_at hl 0 rfl) ?_
  refine lv_lload_n hx hb dX12_readKey_1 rfl (lv_at hl 1 rfl) ?_
  obtain ⟨z1, wz1, hf⟩ := ha_bds hf
  refine ha_callVi (As := [.long p1]) (rest := []) hZ ⟨hx, hb, hml, hown, hts⟩ hK hz hP hD hS (c_X12_isKey hZ hN h0 wz1) cw0 hN h0 (by decide) rfl rfl hl.1 rfl (Nat.le_of_ble_eq_true rfl) dX12_readKey_2 ⟨Nat.le_of_ble_eq_true rfl, Nat.le_of_ble_eq_true rfl⟩ (fun H locs hP hD hS => ?_)
  refine lv_if_ne (tgt := 14) hx hb dX12_readKey_5 (by decide) (fun c2 => ?_) (fun c2 => ?_)
  · have hf := ha_it hf c2
    refine lv_aload_n hx hb dX12_readKey_14 rfl (lv_at hl 0 rfl) ?_
    obtain ⟨z3, wz3, hf⟩ := ha_bds hf
    refine ha_callVv (As := []) (rest := []) hZ ⟨hx, hb, hml, hown, hts⟩ hK hz hP hD hS (c_X12_go hZ hN h0 wz3) cw1 hN h0 (by decide) rfl rfl hl.1 rfl (Nat.le_of_ble_eq_true rfl) dX12_readKey_15 ⟨Nat.le_of_ble_eq_true rfl, Nat.le_of_ble_eq_true rfl⟩ (fun H locs hP hD hS => ?_)
    refine lv_iconst (v := 1) hx hb dX12_readKey_18 (by decide) ?_
    have he := Option.some.inj hf
    exact ha_retz hx hb hr hlocks hP hD hS dX12_readKey_19 (by decide) (ha_e1 he) (ha_e2 he)
  · have hf := ha_if hf (fun q => q c2)
    refine lv_aload_n hx hb dX12_readKey_8 rfl (lv_at hl 0 rfl) ?_
    refine lv_iconst (v := 1) hx hb dX12_readKey_9 (by decide) ?_
    obtain ⟨z4, wz4, hf⟩ := ha_bds hf
    refine ha_callVi (As := [.int 1]) (rest := []) hZ ⟨hx, hb, hml, hown, hts⟩ hK hz hP hD hS (c_X12_bad hZ hN h0 wz4) cw2 hN h0 (by decide) rfl rfl hl.1 rfl (Nat.le_of_ble_eq_true rfl) dX12_readKey_10 ⟨Nat.le_of_ble_eq_true rfl, Nat.le_of_ble_eq_true rfl⟩ (fun H locs hP hD hS => ?_)
    obtain ⟨g5, hf⟩ := ha_gds hf
    have he := Option.some.inj hf
    exact ha_retz hx hb hr hlocks hP hD hS dX12_readKey_13 g5 (ha_e1 he) (ha_e2 he)

set_option maxHeartbeats 4000000 in
set_option maxRecDepth 100000 in
theorem c_X12_isCell {l : Launch} {D : va_G} {cs : Nat → ClassId} {ad : Nat → Nat} {N : List Nat} {Z : State → Prop} (hZ : ha_Zok (ha_A ad N) Z) (hN : ∀ x, mo_kd x < 999 → x ∈ N) {p0 : Nat} {S : ha_St} {out : Int32 × ha_St} (h0 : mo_kd p0 = 12) (hf : f_X12_isCell p0 S = some out) : ha_Ci l D cs ad mo_kd mo_ln N Z yX12_isCell wsX12_isCell ({ frames := 0, cells := 0, slots := 0, locals := 0 } : Room) [.ref (ad p0)] S out.1 out.2 := by
  refine Met.ofW (cc := cX12_isCell) (maxL := 1) (ret := (some .boolean)) (by decide +kernel) rfl ?_
  intro p e s m args below meth c s₁ B hml hv
  obtain ⟨rfl, hP, hD, hK, hz⟩ := hv
  have hx := B.exec
  have hb := B.bytes
  have hr := B.returns
  have hts := atoms_spec (ws := wsX12_isCell) B.pre
  have hown : s.vm.findClass RX12 = some m.cls := findClass_of_methodNamed B.named
  have hlocks := B.notSynchronized
  have hS : va_S (ha_A ad N) s.heap s.heap [] := va_S.rf
  have hi12 : ∀ w ∈ wsX120, w ∈ wsX12_isCell := fun w h => List.mem_cons_of_mem _ (List.mem_append_right _ h)
  have q170 : ha_Fk s ([.ref (ad p0)] : List Value).toArray RX12 170 12 8 0 := ⟨RX12, TX12, 83, wsX12_isCell, rfl, by decide, by decide, rfl, rfl, hts, hi12, hts (.fieldLink RX12 170 "HillArmsModel" "kind" "I") (by decide +kernel)⟩
  have q186 : ha_Fk s ([.ref (ad p0)] : List Value).toArray RX12 186 12 13 2 := ⟨RX12, TX12, 83, wsX12_isCell, rfl, by decide, by decide, rfl, rfl, hts, hi12, hts (.fieldLink RX12 186 "HillArmsModel" "word" "J") (by decide +kernel)⟩
  have cn217 := hts (.constantLong RX12 217 (4)) (by decide +kernel)
  have hl := lv_entry ([.ref (ad p0)]) (n := 1) (Nat.le_of_ble_eq_true rfl)
  rw [lg_entry_eq]
  generalize (lg_sl ([.ref (ad p0)]) ++ List.replicate (1 - (lg_sl ([.ref (ad p0)])).length) Slot.unset).toArray = ls at hl ⊢
  have hl : lv_has ls 1 [(0, .ref (ad p0))] := hl
  refine (fun (K0 : ∀ (H : Heap) (locs : List Loc), va_P D vwCl (ha_wl cs ad mo_kd mo_ln N S) H → va_S (ha_A ad N) s.heap H locs → W p l e (headSpec wsX12_isCell ({ frames := 0, cells := 0, slots := 0, locals := 0 } : Room)).room s m ([.ref (ad p0)] : List Value).toArray below meth c H locs 0 0 (MQ below (va_Qi (fun (r : Int32) (_ : Unit) => r = out.1) (fun _ => ha_H D cs ad mo_kd mo_ln N out.2) (ha_A ad N)) ([.ref (ad p0)] : List Value).toArray s 0 0 (ha_A ad N)) (F0 m 0 ls [])) => K0 _ _ hP hS) ?_
  intro H locs hP hS
  have hf := ha_rt hf
  have J33 : ∀ (k0 : Int32) (S : ha_St) (H : Heap) (locs : List Loc) (ls : Array Slot), (f_X12_isCell_J33 p0 k0 S).bind some = some out → va_P D vwCl (ha_wl cs ad mo_kd mo_ln N S) H → va_D (ha_A ad N) (ha_wl cs ad mo_kd mo_ln N S) → va_S (ha_A ad N) s.heap H locs → lv_has ls 1 [(0, .ref (ad p0))] → W p l e (headSpec wsX12_isCell ({ frames := 0, cells := 0, slots := 0, locals := 0 } : Room)).room s m ([.ref (ad p0)] : List Value).toArray below meth c H locs 0 0 (MQ below (va_Qi (fun (r : Int32) (_ : Unit) => r = out.1) (fun _ => ha_H D cs ad mo_kd mo_ln N out.2) (ha_A ad N)) ([.ref (ad p0)] : List Value).toArray s 0 0 (ha_A ad N)) (F0 m 33 ls [.int k0]) := by
    intro k0 S H locs ls hf  hP hD hS hl
    unfold f_X12_isCell_J33 at hf
    obtain ⟨g1, hf⟩ := ha_gds hf
    have he := Option.some.inj hf
    exact ha_retz hx hb hr hlocks hP hD hS dX12_isCell_33 g1 (ha_e1 he) (ha_e2 he)
  have J32 : ∀  (S : ha_St) (H : Heap) (locs : List Loc) (ls : Array Slot), (f_X12_isCell_J32 p0  S).bind some = some out → va_P D vwCl (ha_wl cs ad mo_kd mo_ln N S) H → va_D (ha_A ad N) (ha_wl cs ad mo_kd mo_ln N S) → va_S (ha_A ad N) s.heap H locs → lv_has ls 1 [(0, .ref (ad p0))] → W p l e (headSpec wsX12_isCell ({ frames := 0, cells := 0, slots := 0, locals := 0 } : Room)).room s m ([.ref (ad p0)] : List Value).toArray below meth c H locs 0 0 (MQ below (va_Qi (fun (r : Int32) (_ : Unit) => r = out.1) (fun _ => ha_H D cs ad mo_kd mo_ln N out.2) (ha_A ad N)) ([.ref (ad p0)] : List Value).toArray s 0 0 (ha_A ad N)) (F0 m 32 ls []) := by
    intro  S H locs ls hf  hP hD hS hl
    unfold f_X12_isCell_J32 at hf
    refine lv_iconst (v := 0) hx hb dX12_isCell_32 (by decide) ?_
    exact J33 0 S H locs ls hf  hP hD hS (lv_sub hl [0] rfl)
  unfold f_X12_isCell at hf
  refine lv_aload_n hx hb dX12_isCell_0 rfl (lv_at hl 0 rfl) ?_
  refine ha_geti hx hb hown hK hP q170 hN h0 dX12_isCell_1 ?_
  refine lv_iconst (v := 2) hx hb dX12_isCell_4 (by decide) ?_
  refine lv_icmp_ne (tgt := 32) hx hb dX12_isCell_5 (by decide) (fun c2 => ?_) (fun c2 => ?_)
  · have hf := ha_it hf c2
    exact J32  S H locs ls hf  hP hD hS (lv_sub hl [0] rfl)
  · have hf := ha_if hf (fun q => q c2)
    refine lv_aload_n hx hb dX12_isCell_8 rfl (lv_at hl 0 rfl) ?_
    refine ha_getj hx hb hown hK hP q186 hN h0 dX12_isCell_9 ?_
    refine lv_lconst (v := 1) hx hb dX12_isCell_12 (by decide) ?_
    refine W.lcmp hx hb dX12_isCell_13 ?_
    refine lv_if_lt (tgt := 32) hx hb dX12_isCell_14 (by decide) (fun c3 => ?_) (fun c3 => ?_)
    · have hf := ha_it hf c3
      exact J32  S H locs ls hf  hP hD hS (lv_sub hl [0] rfl)
    · have hf := ha_if hf c3
      refine lv_aload_n hx hb dX12_isCell_17 rfl (lv_at hl 0 rfl) ?_
      refine ha_getj hx hb hown hK hP q186 hN h0 dX12_isCell_18 ?_
      refine lv_ldc2 hx hb hown cn217 dX12_isCell_21 ?_
      refine W.lcmp hx hb dX12_isCell_24 ?_
      refine lv_if_gt (tgt := 32) hx hb dX12_isCell_25 (by decide) (fun c4 => ?_) (fun c4 => ?_)
      · have hf := ha_it hf c4
        exact J32  S H locs ls hf  hP hD hS (lv_sub hl [0] rfl)
      · have hf := ha_if hf c4
        refine lv_iconst (v := 1) hx hb dX12_isCell_28 (by decide) ?_
        refine lv_goto (tgt := 33) hx hb dX12_isCell_29 (by decide) ?_
        exact J33 1 S H locs ls hf  hP hD hS (lv_sub hl [0] rfl)

set_option maxHeartbeats 4000000 in
set_option maxRecDepth 100000 in
theorem c_X12_readValue {l : Launch} {D : va_G} {cs : Nat → ClassId} {ad : Nat → Nat} {N : List Nat} {Z : State → Prop} (hZ : ha_Zok (ha_A ad N) Z) (hN : ∀ x, mo_kd x < 999 → x ∈ N) {p0 : Nat} {S : ha_St} {out : Int32 × ha_St} (h0 : mo_kd p0 = 12) (hf : f_X12_readValue p0 S = some out) : ha_Ci l D cs ad mo_kd mo_ln N Z yX12_readValue wsX12_readValue ({ frames := 2, cells := 0, slots := 0, locals := 45 } : Room) [.ref (ad p0)] S out.1 out.2 := by
  refine Met.ofW (cc := cX12_readValue) (maxL := 1) (ret := (some .boolean)) (by decide +kernel) rfl ?_
  intro p e s m args below meth c s₁ B hml hv
  obtain ⟨rfl, hP, hD, hK, hz⟩ := hv
  have hx := B.exec
  have hb := B.bytes
  have hr := B.returns
  have hts := atoms_spec (ws := wsX12_readValue) B.pre
  have hown : s.vm.findClass RX12 = some m.cls := findClass_of_methodNamed B.named
  have hlocks := B.notSynchronized
  have hS : va_S (ha_A ad N) s.heap s.heap [] := va_S.rf
  have hi12 : ∀ w ∈ wsX120, w ∈ wsX12_readValue := fun w h => List.mem_cons_of_mem _ (List.mem_append_right _ h)
  have q170 : ha_Fk s ([.ref (ad p0)] : List Value).toArray RX12 170 12 8 0 := ⟨RX12, TX12, 83, wsX12_readValue, rfl, by decide, by decide, rfl, rfl, hts, hi12, hts (.fieldLink RX12 170 "HillArmsModel" "kind" "I") (by decide +kernel)⟩
  have q186 : ha_Fk s ([.ref (ad p0)] : List Value).toArray RX12 186 12 13 2 := ⟨RX12, TX12, 83, wsX12_readValue, rfl, by decide, by decide, rfl, rfl, hts, hi12, hts (.fieldLink RX12 186 "HillArmsModel" "word" "J") (by decide +kernel)⟩
  have q190 : ha_Fk s ([.ref (ad p0)] : List Value).toArray RX12 190 12 9 0 := ⟨RX12, TX12, 83, wsX12_readValue, rfl, by decide, by decide, rfl, rfl, hts, hi12, hts (.fieldLink RX12 190 "HillArmsModel" "number" "I") (by decide +kernel)⟩
  have r219 : ha_Fp s ([.ref (ad p0)] : List Value).toArray RX12 219 12 25 0 .int := ⟨RX12, TX12, 83, wsX12_readValue, tyX12, rfl, by decide, by decide, rfl, rfl, hts, hi12, hts (.fieldLink RX12 219 "HillArmsModel" "value" "I") (by decide +kernel), tyX12_ok, nmX12, rfl, by decide +kernel⟩
  have cw0 := cwV (R := (headSpec wsX12_readValue ({ frames := 2, cells := 0, slots := 0, locals := 45 } : Room)).room) 0 hts gX12_readValue_X12_go (rm := ({ frames := 1, cells := 0, slots := 0, locals := 21 } : Room)) (mc := 0) (ms := 0) rfl rfl rfl (by decide +kernel) ⟨Nat.le_of_ble_eq_true rfl, Nat.le_of_ble_eq_true rfl⟩
  have cw1 := cwV (R := (headSpec wsX12_readValue ({ frames := 2, cells := 0, slots := 0, locals := 45 } : Room)).room) 0 hts gX12_readValue_X12_isCell (rm := ({ frames := 0, cells := 0, slots := 0, locals := 0 } : Room)) (mc := 0) (ms := 0) rfl rfl rfl (by decide +kernel) ⟨Nat.le_of_ble_eq_true rfl, Nat.le_of_ble_eq_true rfl⟩
  have cw2 := va_cwS (R := (headSpec wsX12_readValue ({ frames := 2, cells := 0, slots := 0, locals := 45 } : Room)).room) 5 hts gX12_readValue_X12_spelt (rm := ({ frames := 0, cells := 0, slots := 0, locals := 0 } : Room)) (mc := 0) (ms := 0) rfl rfl rfl (by decide +kernel) ⟨Nat.le_of_ble_eq_true rfl, Nat.le_of_ble_eq_true rfl⟩
  have cw3 := cwV (R := (headSpec wsX12_readValue ({ frames := 2, cells := 0, slots := 0, locals := 45 } : Room)).room) 1 hts gX12_readValue_X12_isKey (rm := ({ frames := 0, cells := 0, slots := 0, locals := 0 } : Room)) (mc := 0) (ms := 0) rfl rfl rfl (by decide +kernel) ⟨Nat.le_of_ble_eq_true rfl, Nat.le_of_ble_eq_true rfl⟩
  have cw4 := cwV (R := (headSpec wsX12_readValue ({ frames := 2, cells := 0, slots := 0, locals := 45 } : Room)).room) 1 hts gX12_readValue_X12_bad (rm := ({ frames := 0, cells := 0, slots := 0, locals := 0 } : Room)) (mc := 0) (ms := 0) rfl rfl rfl (by decide +kernel) ⟨Nat.le_of_ble_eq_true rfl, Nat.le_of_ble_eq_true rfl⟩
  have hl := lv_entry ([.ref (ad p0)]) (n := 1) (Nat.le_of_ble_eq_true rfl)
  rw [lg_entry_eq]
  generalize (lg_sl ([.ref (ad p0)]) ++ List.replicate (1 - (lg_sl ([.ref (ad p0)])).length) Slot.unset).toArray = ls at hl ⊢
  have hl : lv_has ls 1 [(0, .ref (ad p0))] := hl
  refine (fun (K0 : ∀ (H : Heap) (locs : List Loc), va_P D vwCl (ha_wl cs ad mo_kd mo_ln N S) H → va_S (ha_A ad N) s.heap H locs → W p l e (headSpec wsX12_readValue ({ frames := 2, cells := 0, slots := 0, locals := 45 } : Room)).room s m ([.ref (ad p0)] : List Value).toArray below meth c H locs 0 0 (MQ below (va_Qi (fun (r : Int32) (_ : Unit) => r = out.1) (fun _ => ha_H D cs ad mo_kd mo_ln N out.2) (ha_A ad N)) ([.ref (ad p0)] : List Value).toArray s 0 0 (ha_A ad N)) (F0 m 0 ls [])) => K0 _ _ hP hS) ?_
  intro H locs hP hS
  have hf := ha_rt hf
  have J218 : ∀  (S : ha_St) (H : Heap) (locs : List Loc) (ls : Array Slot), (f_X12_readValue_J218 p0  S).bind some = some out → va_P D vwCl (ha_wl cs ad mo_kd mo_ln N S) H → va_D (ha_A ad N) (ha_wl cs ad mo_kd mo_ln N S) → va_S (ha_A ad N) s.heap H locs → lv_has ls 1 [(0, .ref (ad p0))] → W p l e (headSpec wsX12_readValue ({ frames := 2, cells := 0, slots := 0, locals := 45 } : Room)).room s m ([.ref (ad p0)] : List Value).toArray below meth c H locs 0 0 (MQ below (va_Qi (fun (r : Int32) (_ : Unit) => r = out.1) (fun _ => ha_H D cs ad mo_kd mo_ln N out.2) (ha_A ad N)) ([.ref (ad p0)] : List Value).toArray s 0 0 (ha_A ad N)) (F0 m 218 ls []) := by
    intro  S H locs ls hf  hP hD hS hl
    unfold f_X12_readValue_J218 at hf
    refine lv_aload_n hx hb dX12_readValue_218 rfl (lv_at hl 0 rfl) ?_
    obtain ⟨z1, wz1, hf⟩ := ha_bds hf
    refine ha_callVv (As := []) (rest := []) hZ ⟨hx, hb, hml, hown, hts⟩ hK hz hP hD hS (c_X12_go hZ hN h0 wz1) cw0 hN h0 (by decide) rfl rfl hl.1 rfl (Nat.le_of_ble_eq_true rfl) dX12_readValue_219 ⟨Nat.le_of_ble_eq_true rfl, Nat.le_of_ble_eq_true rfl⟩ (fun H locs hP hD hS => ?_)
    refine lv_iconst (v := 1) hx hb dX12_readValue_222 (by decide) ?_
    have he := Option.some.inj hf
    exact ha_retz hx hb hr hlocks hP hD hS dX12_readValue_223 (by decide) (ha_e1 he) (ha_e2 he)
  unfold f_X12_readValue at hf
  refine lv_aload_n hx hb dX12_readValue_0 rfl (lv_at hl 0 rfl) ?_
  refine ha_geti hx hb hown hK hP q170 hN h0 dX12_readValue_1 ?_
  refine lv_iconst (v := 3) hx hb dX12_readValue_4 (by decide) ?_
  refine lv_icmp_ne (tgt := 19) hx hb dX12_readValue_5 (by decide) (fun c2 => ?_) (fun c2 => ?_)
  · have hf := ha_it hf c2
    refine lv_aload_n hx hb dX12_readValue_19 rfl (lv_at hl 0 rfl) ?_
    obtain ⟨z3, wz3, hf⟩ := ha_bds hf
    refine ha_callVi (As := []) (rest := []) hZ ⟨hx, hb, hml, hown, hts⟩ hK hz hP hD hS (c_X12_isCell hZ hN h0 wz3) cw1 hN h0 (by decide) rfl rfl hl.1 rfl (Nat.le_of_ble_eq_true rfl) dX12_readValue_20 ⟨Nat.le_of_ble_eq_true rfl, Nat.le_of_ble_eq_true rfl⟩ (fun H locs hP hD hS => ?_)
    refine lv_if_eq (tgt := 43) hx hb dX12_readValue_23 (by decide) (fun c4 => ?_) (fun c4 => ?_)
    · have hf := ha_it hf c4
      refine lv_aload_n hx hb dX12_readValue_43 rfl (lv_at hl 0 rfl) ?_
      refine lv_bipush (v := 108) hx hb dX12_readValue_44 (by decide) ?_
      refine lv_bipush (v := 101) hx hb dX12_readValue_46 (by decide) ?_
      refine lv_bipush (v := 102) hx hb dX12_readValue_48 (by decide) ?_
      refine lv_bipush (v := 116) hx hb dX12_readValue_50 (by decide) ?_
      refine lv_iconst (v := 0) hx hb dX12_readValue_52 (by decide) ?_
      obtain ⟨z5, wz5, hf⟩ := ha_bds hf
      refine ha_callSl (As := [.int 108, .int 101, .int 102, .int 116, .int 0]) (rest := [.ref (ad p0)]) hZ ⟨hx, hb, hml, hown, hts⟩ hK hz hP hD hS (c_X12_spelt   wz5) cw2 rfl hl.1 rfl (Nat.le_of_ble_eq_true rfl) dX12_readValue_53 ⟨Nat.le_of_ble_eq_true rfl, Nat.le_of_ble_eq_true rfl⟩ (fun H locs hP hD hS => ?_)
      obtain ⟨z6, wz6, hf⟩ := ha_bds hf
      refine ha_callVi (As := [.long z5]) (rest := []) hZ ⟨hx, hb, hml, hown, hts⟩ hK hz hP hD hS (c_X12_isKey hZ hN h0 wz6) cw3 hN h0 (by decide) rfl rfl hl.1 rfl (Nat.le_of_ble_eq_true rfl) dX12_readValue_56 ⟨Nat.le_of_ble_eq_true rfl, Nat.le_of_ble_eq_true rfl⟩ (fun H locs hP hD hS => ?_)
      refine lv_if_eq (tgt := 71) hx hb dX12_readValue_59 (by decide) (fun c7 => ?_) (fun c7 => ?_)
      · have hf := ha_it hf c7
        refine lv_aload_n hx hb dX12_readValue_71 rfl (lv_at hl 0 rfl) ?_
        refine lv_bipush (v := 114) hx hb dX12_readValue_72 (by decide) ?_
        refine lv_bipush (v := 105) hx hb dX12_readValue_74 (by decide) ?_
        refine lv_bipush (v := 103) hx hb dX12_readValue_76 (by decide) ?_
        refine lv_bipush (v := 104) hx hb dX12_readValue_78 (by decide) ?_
        refine lv_bipush (v := 116) hx hb dX12_readValue_80 (by decide) ?_
        obtain ⟨z8, wz8, hf⟩ := ha_bds hf
        refine ha_callSl (As := [.int 114, .int 105, .int 103, .int 104, .int 116]) (rest := [.ref (ad p0)]) hZ ⟨hx, hb, hml, hown, hts⟩ hK hz hP hD hS (c_X12_spelt   wz8) cw2 rfl hl.1 rfl (Nat.le_of_ble_eq_true rfl) dX12_readValue_82 ⟨Nat.le_of_ble_eq_true rfl, Nat.le_of_ble_eq_true rfl⟩ (fun H locs hP hD hS => ?_)
        obtain ⟨z9, wz9, hf⟩ := ha_bds hf
        refine ha_callVi (As := [.long z8]) (rest := []) hZ ⟨hx, hb, hml, hown, hts⟩ hK hz hP hD hS (c_X12_isKey hZ hN h0 wz9) cw3 hN h0 (by decide) rfl rfl hl.1 rfl (Nat.le_of_ble_eq_true rfl) dX12_readValue_85 ⟨Nat.le_of_ble_eq_true rfl, Nat.le_of_ble_eq_true rfl⟩ (fun H locs hP hD hS => ?_)
        refine lv_if_eq (tgt := 100) hx hb dX12_readValue_88 (by decide) (fun c10 => ?_) (fun c10 => ?_)
        · have hf := ha_it hf c10
          refine lv_aload_n hx hb dX12_readValue_100 rfl (lv_at hl 0 rfl) ?_
          refine lv_bipush (v := 111) hx hb dX12_readValue_101 (by decide) ?_
          refine lv_bipush (v := 119) hx hb dX12_readValue_103 (by decide) ?_
          refine lv_bipush (v := 110) hx hb dX12_readValue_105 (by decide) ?_
          refine lv_iconst (v := 0) hx hb dX12_readValue_107 (by decide) ?_
          refine lv_iconst (v := 0) hx hb dX12_readValue_108 (by decide) ?_
          obtain ⟨z11, wz11, hf⟩ := ha_bds hf
          refine ha_callSl (As := [.int 111, .int 119, .int 110, .int 0, .int 0]) (rest := [.ref (ad p0)]) hZ ⟨hx, hb, hml, hown, hts⟩ hK hz hP hD hS (c_X12_spelt   wz11) cw2 rfl hl.1 rfl (Nat.le_of_ble_eq_true rfl) dX12_readValue_109 ⟨Nat.le_of_ble_eq_true rfl, Nat.le_of_ble_eq_true rfl⟩ (fun H locs hP hD hS => ?_)
          obtain ⟨z12, wz12, hf⟩ := ha_bds hf
          refine ha_callVi (As := [.long z11]) (rest := []) hZ ⟨hx, hb, hml, hown, hts⟩ hK hz hP hD hS (c_X12_isKey hZ hN h0 wz12) cw3 hN h0 (by decide) rfl rfl hl.1 rfl (Nat.le_of_ble_eq_true rfl) dX12_readValue_112 ⟨Nat.le_of_ble_eq_true rfl, Nat.le_of_ble_eq_true rfl⟩ (fun H locs hP hD hS => ?_)
          refine lv_if_eq (tgt := 127) hx hb dX12_readValue_115 (by decide) (fun c13 => ?_) (fun c13 => ?_)
          · have hf := ha_it hf c13
            refine lv_aload_n hx hb dX12_readValue_127 rfl (lv_at hl 0 rfl) ?_
            refine lv_bipush (v := 116) hx hb dX12_readValue_128 (by decide) ?_
            refine lv_bipush (v := 105) hx hb dX12_readValue_130 (by decide) ?_
            refine lv_bipush (v := 109) hx hb dX12_readValue_132 (by decide) ?_
            refine lv_bipush (v := 101) hx hb dX12_readValue_134 (by decide) ?_
            refine lv_iconst (v := 0) hx hb dX12_readValue_136 (by decide) ?_
            obtain ⟨z14, wz14, hf⟩ := ha_bds hf
            refine ha_callSl (As := [.int 116, .int 105, .int 109, .int 101, .int 0]) (rest := [.ref (ad p0)]) hZ ⟨hx, hb, hml, hown, hts⟩ hK hz hP hD hS (c_X12_spelt   wz14) cw2 rfl hl.1 rfl (Nat.le_of_ble_eq_true rfl) dX12_readValue_137 ⟨Nat.le_of_ble_eq_true rfl, Nat.le_of_ble_eq_true rfl⟩ (fun H locs hP hD hS => ?_)
            obtain ⟨z15, wz15, hf⟩ := ha_bds hf
            refine ha_callVi (As := [.long z14]) (rest := []) hZ ⟨hx, hb, hml, hown, hts⟩ hK hz hP hD hS (c_X12_isKey hZ hN h0 wz15) cw3 hN h0 (by decide) rfl rfl hl.1 rfl (Nat.le_of_ble_eq_true rfl) dX12_readValue_140 ⟨Nat.le_of_ble_eq_true rfl, Nat.le_of_ble_eq_true rfl⟩ (fun H locs hP hD hS => ?_)
            refine lv_if_eq (tgt := 155) hx hb dX12_readValue_143 (by decide) (fun c16 => ?_) (fun c16 => ?_)
            · have hf := ha_it hf c16
              refine lv_aload_n hx hb dX12_readValue_155 rfl (lv_at hl 0 rfl) ?_
              refine lv_bipush (v := 119) hx hb dX12_readValue_156 (by decide) ?_
              refine lv_bipush (v := 111) hx hb dX12_readValue_158 (by decide) ?_
              refine lv_bipush (v := 114) hx hb dX12_readValue_160 (by decide) ?_
              refine lv_bipush (v := 100) hx hb dX12_readValue_162 (by decide) ?_
              refine lv_iconst (v := 0) hx hb dX12_readValue_164 (by decide) ?_
              obtain ⟨z17, wz17, hf⟩ := ha_bds hf
              refine ha_callSl (As := [.int 119, .int 111, .int 114, .int 100, .int 0]) (rest := [.ref (ad p0)]) hZ ⟨hx, hb, hml, hown, hts⟩ hK hz hP hD hS (c_X12_spelt   wz17) cw2 rfl hl.1 rfl (Nat.le_of_ble_eq_true rfl) dX12_readValue_165 ⟨Nat.le_of_ble_eq_true rfl, Nat.le_of_ble_eq_true rfl⟩ (fun H locs hP hD hS => ?_)
              obtain ⟨z18, wz18, hf⟩ := ha_bds hf
              refine ha_callVi (As := [.long z17]) (rest := []) hZ ⟨hx, hb, hml, hown, hts⟩ hK hz hP hD hS (c_X12_isKey hZ hN h0 wz18) cw3 hN h0 (by decide) rfl rfl hl.1 rfl (Nat.le_of_ble_eq_true rfl) dX12_readValue_168 ⟨Nat.le_of_ble_eq_true rfl, Nat.le_of_ble_eq_true rfl⟩ (fun H locs hP hD hS => ?_)
              refine lv_if_eq (tgt := 183) hx hb dX12_readValue_171 (by decide) (fun c19 => ?_) (fun c19 => ?_)
              · have hf := ha_it hf c19
                refine lv_aload_n hx hb dX12_readValue_183 rfl (lv_at hl 0 rfl) ?_
                refine lv_bipush (v := 98) hx hb dX12_readValue_184 (by decide) ?_
                refine lv_bipush (v := 108) hx hb dX12_readValue_186 (by decide) ?_
                refine lv_bipush (v := 105) hx hb dX12_readValue_188 (by decide) ?_
                refine lv_bipush (v := 110) hx hb dX12_readValue_190 (by decide) ?_
                refine lv_bipush (v := 100) hx hb dX12_readValue_192 (by decide) ?_
                obtain ⟨z20, wz20, hf⟩ := ha_bds hf
                refine ha_callSl (As := [.int 98, .int 108, .int 105, .int 110, .int 100]) (rest := [.ref (ad p0)]) hZ ⟨hx, hb, hml, hown, hts⟩ hK hz hP hD hS (c_X12_spelt   wz20) cw2 rfl hl.1 rfl (Nat.le_of_ble_eq_true rfl) dX12_readValue_194 ⟨Nat.le_of_ble_eq_true rfl, Nat.le_of_ble_eq_true rfl⟩ (fun H locs hP hD hS => ?_)
                obtain ⟨z21, wz21, hf⟩ := ha_bds hf
                refine ha_callVi (As := [.long z20]) (rest := []) hZ ⟨hx, hb, hml, hown, hts⟩ hK hz hP hD hS (c_X12_isKey hZ hN h0 wz21) cw3 hN h0 (by decide) rfl rfl hl.1 rfl (Nat.le_of_ble_eq_true rfl) dX12_readValue_197 ⟨Nat.le_of_ble_eq_true rfl, Nat.le_of_ble_eq_true rfl⟩ (fun H locs hP hD hS => ?_)
                refine lv_if_eq (tgt := 212) hx hb dX12_readValue_200 (by decide) (fun c22 => ?_) (fun c22 => ?_)
                · have hf := ha_it hf c22
                  refine lv_aload_n hx hb dX12_readValue_212 rfl (lv_at hl 0 rfl) ?_
                  refine lv_iconst (v := 1) hx hb dX12_readValue_213 (by decide) ?_
                  obtain ⟨z23, wz23, hf⟩ := ha_bds hf
                  refine ha_callVi (As := [.int 1]) (rest := []) hZ ⟨hx, hb, hml, hown, hts⟩ hK hz hP hD hS (c_X12_bad hZ hN h0 wz23) cw4 hN h0 (by decide) rfl rfl hl.1 rfl (Nat.le_of_ble_eq_true rfl) dX12_readValue_214 ⟨Nat.le_of_ble_eq_true rfl, Nat.le_of_ble_eq_true rfl⟩ (fun H locs hP hD hS => ?_)
                  obtain ⟨g24, hf⟩ := ha_gds hf
                  have he := Option.some.inj hf
                  exact ha_retz hx hb hr hlocks hP hD hS dX12_readValue_217 g24 (ha_e1 he) (ha_e2 he)
                · have hf := ha_if hf c22
                  refine lv_aload_n hx hb dX12_readValue_203 rfl (lv_at hl 0 rfl) ?_
                  refine lv_bipush (v := 105) hx hb dX12_readValue_204 (by decide) ?_
                  refine ha_puti hx hb hown hK hP hD hS r219 hN h0 dX12_readValue_206 (fun S25 H locs eS25 hP hD hS => ?_)
                  have hf := ha_nms hf eS25
                  refine lv_goto (tgt := 218) hx hb dX12_readValue_209 (by decide) ?_
                  exact J218  S25 H locs ls hf  hP hD hS (lv_sub hl [0] rfl)
              · have hf := ha_if hf c19
                refine lv_aload_n hx hb dX12_readValue_174 rfl (lv_at hl 0 rfl) ?_
                refine lv_bipush (v := 104) hx hb dX12_readValue_175 (by decide) ?_
                refine ha_puti hx hb hown hK hP hD hS r219 hN h0 dX12_readValue_177 (fun S26 H locs eS26 hP hD hS => ?_)
                have hf := ha_nms hf eS26
                refine lv_goto (tgt := 218) hx hb dX12_readValue_180 (by decide) ?_
                exact J218  S26 H locs ls hf  hP hD hS (lv_sub hl [0] rfl)
            · have hf := ha_if hf c16
              refine lv_aload_n hx hb dX12_readValue_146 rfl (lv_at hl 0 rfl) ?_
              refine lv_bipush (v := 103) hx hb dX12_readValue_147 (by decide) ?_
              refine ha_puti hx hb hown hK hP hD hS r219 hN h0 dX12_readValue_149 (fun S27 H locs eS27 hP hD hS => ?_)
              have hf := ha_nms hf eS27
              refine lv_goto (tgt := 218) hx hb dX12_readValue_152 (by decide) ?_
              exact J218  S27 H locs ls hf  hP hD hS (lv_sub hl [0] rfl)
          · have hf := ha_if hf c13
            refine lv_aload_n hx hb dX12_readValue_118 rfl (lv_at hl 0 rfl) ?_
            refine lv_bipush (v := 102) hx hb dX12_readValue_119 (by decide) ?_
            refine ha_puti hx hb hown hK hP hD hS r219 hN h0 dX12_readValue_121 (fun S28 H locs eS28 hP hD hS => ?_)
            have hf := ha_nms hf eS28
            refine lv_goto (tgt := 218) hx hb dX12_readValue_124 (by decide) ?_
            exact J218  S28 H locs ls hf  hP hD hS (lv_sub hl [0] rfl)
        · have hf := ha_if hf c10
          refine lv_aload_n hx hb dX12_readValue_91 rfl (lv_at hl 0 rfl) ?_
          refine lv_bipush (v := 101) hx hb dX12_readValue_92 (by decide) ?_
          refine ha_puti hx hb hown hK hP hD hS r219 hN h0 dX12_readValue_94 (fun S29 H locs eS29 hP hD hS => ?_)
          have hf := ha_nms hf eS29
          refine lv_goto (tgt := 218) hx hb dX12_readValue_97 (by decide) ?_
          exact J218  S29 H locs ls hf  hP hD hS (lv_sub hl [0] rfl)
      · have hf := ha_if hf c7
        refine lv_aload_n hx hb dX12_readValue_62 rfl (lv_at hl 0 rfl) ?_
        refine lv_bipush (v := 100) hx hb dX12_readValue_63 (by decide) ?_
        refine ha_puti hx hb hown hK hP hD hS r219 hN h0 dX12_readValue_65 (fun S30 H locs eS30 hP hD hS => ?_)
        have hf := ha_nms hf eS30
        refine lv_goto (tgt := 218) hx hb dX12_readValue_68 (by decide) ?_
        exact J218  S30 H locs ls hf  hP hD hS (lv_sub hl [0] rfl)
    · have hf := ha_if hf c4
      refine lv_aload_n hx hb dX12_readValue_26 rfl (lv_at hl 0 rfl) ?_
      refine lv_bipush (v := 106) hx hb dX12_readValue_27 (by decide) ?_
      refine lv_aload_n hx hb dX12_readValue_29 rfl (lv_at hl 0 rfl) ?_
      refine ha_getj hx hb hown hK hP q186 hN h0 dX12_readValue_30 ?_
      refine lv_l2i (v := (((ha_gJ z3.2 p0 13) : Int64).toInt32)) hx hb dX12_readValue_33 rfl ?_
      refine lv_iadd hx hb dX12_readValue_34 ?_
      refine lv_iconst (v := 1) hx hb dX12_readValue_35 (by decide) ?_
      refine lv_isub hx hb dX12_readValue_36 ?_
      refine ha_puti hx hb hown hK hP hD hS r219 hN h0 dX12_readValue_37 (fun S31 H locs eS31 hP hD hS => ?_)
      have hf := ha_nms hf eS31
      refine lv_goto (tgt := 218) hx hb dX12_readValue_40 (by decide) ?_
      exact J218  S31 H locs ls hf  hP hD hS (lv_sub hl [0] rfl)
  · have hf := ha_if hf (fun q => q c2)
    refine lv_aload_n hx hb dX12_readValue_8 rfl (lv_at hl 0 rfl) ?_
    refine lv_aload_n hx hb dX12_readValue_9 rfl (lv_at hl 0 rfl) ?_
    refine ha_geti hx hb hown hK hP q190 hN h0 dX12_readValue_10 ?_
    refine ha_puti hx hb hown hK hP hD hS r219 hN h0 dX12_readValue_13 (fun S32 H locs eS32 hP hD hS => ?_)
    have hf := ha_nms hf eS32
    refine lv_goto (tgt := 218) hx hb dX12_readValue_16 (by decide) ?_
    exact J218  S32 H locs ls hf  hP hD hS (lv_sub hl [0] rfl)

set_option maxHeartbeats 4000000 in
set_option maxRecDepth 100000 in
theorem c_X12_isValue {l : Launch} {D : va_G} {cs : Nat → ClassId} {ad : Nat → Nat} {N : List Nat} {Z : State → Prop} (hZ : ha_Zok (ha_A ad N) Z) (hN : ∀ x, mo_kd x < 999 → x ∈ N) {p0 : Nat} {S : ha_St} {out : Int32 × ha_St} (h0 : mo_kd p0 = 12) (hf : f_X12_isValue p0 S = some out) : ha_Ci l D cs ad mo_kd mo_ln N Z yX12_isValue wsX12_isValue ({ frames := 1, cells := 0, slots := 0, locals := 26 } : Room) [.ref (ad p0)] S out.1 out.2 := by
  refine Met.ofW (cc := cX12_isValue) (maxL := 2) (ret := (some .boolean)) (by decide +kernel) rfl ?_
  intro p e s m args below meth c s₁ B hml hv
  obtain ⟨rfl, hP, hD, hK, hz⟩ := hv
  have hx := B.exec
  have hb := B.bytes
  have hr := B.returns
  have hts := atoms_spec (ws := wsX12_isValue) B.pre
  have hown : s.vm.findClass RX12 = some m.cls := findClass_of_methodNamed B.named
  have hlocks := B.notSynchronized
  have hS : va_S (ha_A ad N) s.heap s.heap [] := va_S.rf
  have hi12 : ∀ w ∈ wsX120, w ∈ wsX12_isValue := fun w h => List.mem_cons_of_mem _ (List.mem_append_right _ h)
  have q170 : ha_Fk s ([.ref (ad p0)] : List Value).toArray RX12 170 12 8 0 := ⟨RX12, TX12, 83, wsX12_isValue, rfl, by decide, by decide, rfl, rfl, hts, hi12, hts (.fieldLink RX12 170 "HillArmsModel" "kind" "I") (by decide +kernel)⟩
  have cw0 := cwV (R := (headSpec wsX12_isValue ({ frames := 1, cells := 0, slots := 0, locals := 26 } : Room)).room) 0 hts gX12_isValue_X12_isCell (rm := ({ frames := 0, cells := 0, slots := 0, locals := 0 } : Room)) (mc := 0) (ms := 0) rfl rfl rfl (by decide +kernel) ⟨Nat.le_of_ble_eq_true rfl, Nat.le_of_ble_eq_true rfl⟩
  have cw1 := va_cwS (R := (headSpec wsX12_isValue ({ frames := 1, cells := 0, slots := 0, locals := 26 } : Room)).room) 5 hts gX12_isValue_X12_spelt (rm := ({ frames := 0, cells := 0, slots := 0, locals := 0 } : Room)) (mc := 0) (ms := 0) rfl rfl rfl (by decide +kernel) ⟨Nat.le_of_ble_eq_true rfl, Nat.le_of_ble_eq_true rfl⟩
  have cw2 := cwV (R := (headSpec wsX12_isValue ({ frames := 1, cells := 0, slots := 0, locals := 26 } : Room)).room) 1 hts gX12_isValue_X12_isKey (rm := ({ frames := 0, cells := 0, slots := 0, locals := 0 } : Room)) (mc := 0) (ms := 0) rfl rfl rfl (by decide +kernel) ⟨Nat.le_of_ble_eq_true rfl, Nat.le_of_ble_eq_true rfl⟩
  have hl := lv_entry ([.ref (ad p0)]) (n := 2) (Nat.le_of_ble_eq_true rfl)
  rw [lg_entry_eq]
  generalize (lg_sl ([.ref (ad p0)]) ++ List.replicate (2 - (lg_sl ([.ref (ad p0)])).length) Slot.unset).toArray = ls at hl ⊢
  have hl : lv_has ls 2 [(0, .ref (ad p0))] := hl
  refine (fun (K0 : ∀ (H : Heap) (locs : List Loc), va_P D vwCl (ha_wl cs ad mo_kd mo_ln N S) H → va_S (ha_A ad N) s.heap H locs → W p l e (headSpec wsX12_isValue ({ frames := 1, cells := 0, slots := 0, locals := 26 } : Room)).room s m ([.ref (ad p0)] : List Value).toArray below meth c H locs 0 0 (MQ below (va_Qi (fun (r : Int32) (_ : Unit) => r = out.1) (fun _ => ha_H D cs ad mo_kd mo_ln N out.2) (ha_A ad N)) ([.ref (ad p0)] : List Value).toArray s 0 0 (ha_A ad N)) (F0 m 0 ls [])) => K0 _ _ hP hS) ?_
  intro H locs hP hS
  have hf := ha_rt hf
  have J145 : ∀ (k0 : Int32) (S : ha_St) (H : Heap) (locs : List Loc) (ls : Array Slot), (f_X12_isValue_J145 p0 k0 S).bind some = some out → va_P D vwCl (ha_wl cs ad mo_kd mo_ln N S) H → va_D (ha_A ad N) (ha_wl cs ad mo_kd mo_ln N S) → va_S (ha_A ad N) s.heap H locs → lv_has ls 2 [(0, .ref (ad p0))] → W p l e (headSpec wsX12_isValue ({ frames := 1, cells := 0, slots := 0, locals := 26 } : Room)).room s m ([.ref (ad p0)] : List Value).toArray below meth c H locs 0 0 (MQ below (va_Qi (fun (r : Int32) (_ : Unit) => r = out.1) (fun _ => ha_H D cs ad mo_kd mo_ln N out.2) (ha_A ad N)) ([.ref (ad p0)] : List Value).toArray s 0 0 (ha_A ad N)) (F0 m 145 ls [.int k0]) := by
    intro k0 S H locs ls hf  hP hD hS hl
    unfold f_X12_isValue_J145 at hf
    obtain ⟨g1, hf⟩ := ha_gds hf
    have he := Option.some.inj hf
    exact ha_retz hx hb hr hlocks hP hD hS dX12_isValue_145 g1 (ha_e1 he) (ha_e2 he)
  have J140 : ∀  (S : ha_St) (H : Heap) (locs : List Loc) (ls : Array Slot), (f_X12_isValue_J140 p0  S).bind some = some out → va_P D vwCl (ha_wl cs ad mo_kd mo_ln N S) H → va_D (ha_A ad N) (ha_wl cs ad mo_kd mo_ln N S) → va_S (ha_A ad N) s.heap H locs → lv_has ls 2 [(0, .ref (ad p0))] → W p l e (headSpec wsX12_isValue ({ frames := 1, cells := 0, slots := 0, locals := 26 } : Room)).room s m ([.ref (ad p0)] : List Value).toArray below meth c H locs 0 0 (MQ below (va_Qi (fun (r : Int32) (_ : Unit) => r = out.1) (fun _ => ha_H D cs ad mo_kd mo_ln N out.2) (ha_A ad N)) ([.ref (ad p0)] : List Value).toArray s 0 0 (ha_A ad N)) (F0 m 140 ls []) := by
    intro  S H locs ls hf  hP hD hS hl
    unfold f_X12_isValue_J140 at hf
    refine lv_iconst (v := 1) hx hb dX12_isValue_140 (by decide) ?_
    refine lv_goto (tgt := 145) hx hb dX12_isValue_141 (by decide) ?_
    exact J145 1 S H locs ls hf  hP hD hS (lv_sub hl [0] rfl)
  have J120 : ∀ (k0 : Int32) (S : ha_St) (H : Heap) (locs : List Loc) (ls : Array Slot), (f_X12_isValue_J120 p0 k0 S).bind some = some out → va_P D vwCl (ha_wl cs ad mo_kd mo_ln N S) H → va_D (ha_A ad N) (ha_wl cs ad mo_kd mo_ln N S) → va_S (ha_A ad N) s.heap H locs → lv_has ls 2 [(0, .ref (ad p0))] → W p l e (headSpec wsX12_isValue ({ frames := 1, cells := 0, slots := 0, locals := 26 } : Room)).room s m ([.ref (ad p0)] : List Value).toArray below meth c H locs 0 0 (MQ below (va_Qi (fun (r : Int32) (_ : Unit) => r = out.1) (fun _ => ha_H D cs ad mo_kd mo_ln N out.2) (ha_A ad N)) ([.ref (ad p0)] : List Value).toArray s 0 0 (ha_A ad N)) (F0 m 120 ls [.int k0]) := by
    intro k0 S H locs ls hf  hP hD hS hl
    unfold f_X12_isValue_J120 at hf
    refine lv_istore_n (lv' := [(1, .int k0), (0, .ref (ad p0))]) hx hb dX12_isValue_120 rfl hl (by decide) rfl (fun ls hl => ?_)
    refine lv_aload_n hx hb dX12_isValue_121 rfl (lv_at hl 1 rfl) ?_
    refine ha_geti hx hb hown hK hP q170 hN h0 dX12_isValue_122 ?_
    refine lv_iconst (v := 3) hx hb dX12_isValue_125 (by decide) ?_
    refine lv_icmp_eq (tgt := 140) hx hb dX12_isValue_126 (by decide) (fun c2 => ?_) (fun c2 => ?_)
    · have hf := ha_it hf c2
      exact J140  S H locs ls hf  hP hD hS (lv_sub hl [1] rfl)
    · have hf := ha_if hf c2
      refine lv_aload_n hx hb dX12_isValue_129 rfl (lv_at hl 1 rfl) ?_
      obtain ⟨z3, wz3, hf⟩ := ha_bds hf
      refine ha_callVi (As := []) (rest := []) hZ ⟨hx, hb, hml, hown, hts⟩ hK hz hP hD hS (c_X12_isCell hZ hN h0 wz3) cw0 hN h0 (by decide) rfl rfl hl.1 rfl (Nat.le_of_ble_eq_true rfl) dX12_isValue_130 ⟨Nat.le_of_ble_eq_true rfl, Nat.le_of_ble_eq_true rfl⟩ (fun H locs hP hD hS => ?_)
      refine lv_if_ne (tgt := 140) hx hb dX12_isValue_133 (by decide) (fun c4 => ?_) (fun c4 => ?_)
      · have hf := ha_it hf c4
        exact J140  z3.2 H locs ls hf  hP hD hS (lv_sub hl [1] rfl)
      · have hf := ha_if hf (fun q => q c4)
        refine lv_iload_n hx hb dX12_isValue_136 rfl (lv_at hl 0 rfl) ?_
        refine lv_if_eq (tgt := 144) hx hb dX12_isValue_137 (by decide) (fun c5 => ?_) (fun c5 => ?_)
        · have hf := ha_it hf c5
          refine lv_iconst (v := 0) hx hb dX12_isValue_144 (by decide) ?_
          exact J145 0 z3.2 H locs ls hf  hP hD hS (lv_sub hl [1] rfl)
        · have hf := ha_if hf c5
          exact J140  z3.2 H locs ls hf  hP hD hS (lv_sub hl [1] rfl)
  have J115 : ∀  (S : ha_St) (H : Heap) (locs : List Loc) (ls : Array Slot), (f_X12_isValue_J115 p0  S).bind some = some out → va_P D vwCl (ha_wl cs ad mo_kd mo_ln N S) H → va_D (ha_A ad N) (ha_wl cs ad mo_kd mo_ln N S) → va_S (ha_A ad N) s.heap H locs → lv_has ls 2 [(0, .ref (ad p0))] → W p l e (headSpec wsX12_isValue ({ frames := 1, cells := 0, slots := 0, locals := 26 } : Room)).room s m ([.ref (ad p0)] : List Value).toArray below meth c H locs 0 0 (MQ below (va_Qi (fun (r : Int32) (_ : Unit) => r = out.1) (fun _ => ha_H D cs ad mo_kd mo_ln N out.2) (ha_A ad N)) ([.ref (ad p0)] : List Value).toArray s 0 0 (ha_A ad N)) (F0 m 115 ls []) := by
    intro  S H locs ls hf  hP hD hS hl
    unfold f_X12_isValue_J115 at hf
    refine lv_iconst (v := 1) hx hb dX12_isValue_115 (by decide) ?_
    refine lv_goto (tgt := 120) hx hb dX12_isValue_116 (by decide) ?_
    exact J120 1 S H locs ls hf  hP hD hS (lv_sub hl [0] rfl)
  unfold f_X12_isValue at hf
  refine lv_aload_n hx hb dX12_isValue_0 rfl (lv_at hl 0 rfl) ?_
  refine lv_bipush (v := 108) hx hb dX12_isValue_1 (by decide) ?_
  refine lv_bipush (v := 101) hx hb dX12_isValue_3 (by decide) ?_
  refine lv_bipush (v := 102) hx hb dX12_isValue_5 (by decide) ?_
  refine lv_bipush (v := 116) hx hb dX12_isValue_7 (by decide) ?_
  refine lv_iconst (v := 0) hx hb dX12_isValue_9 (by decide) ?_
  obtain ⟨z6, wz6, hf⟩ := ha_bds hf
  refine ha_callSl (As := [.int 108, .int 101, .int 102, .int 116, .int 0]) (rest := [.ref (ad p0)]) hZ ⟨hx, hb, hml, hown, hts⟩ hK hz hP hD hS (c_X12_spelt   wz6) cw1 rfl hl.1 rfl (Nat.le_of_ble_eq_true rfl) dX12_isValue_10 ⟨Nat.le_of_ble_eq_true rfl, Nat.le_of_ble_eq_true rfl⟩ (fun H locs hP hD hS => ?_)
  obtain ⟨z7, wz7, hf⟩ := ha_bds hf
  refine ha_callVi (As := [.long z6]) (rest := []) hZ ⟨hx, hb, hml, hown, hts⟩ hK hz hP hD hS (c_X12_isKey hZ hN h0 wz7) cw2 hN h0 (by decide) rfl rfl hl.1 rfl (Nat.le_of_ble_eq_true rfl) dX12_isValue_13 ⟨Nat.le_of_ble_eq_true rfl, Nat.le_of_ble_eq_true rfl⟩ (fun H locs hP hD hS => ?_)
  refine lv_if_ne (tgt := 115) hx hb dX12_isValue_16 (by decide) (fun c8 => ?_) (fun c8 => ?_)
  · have hf := ha_it hf c8
    exact J115  z7.2 H locs ls hf  hP hD hS (lv_sub hl [0] rfl)
  · have hf := ha_if hf (fun q => q c8)
    refine lv_aload_n hx hb dX12_isValue_19 rfl (lv_at hl 0 rfl) ?_
    refine lv_bipush (v := 114) hx hb dX12_isValue_20 (by decide) ?_
    refine lv_bipush (v := 105) hx hb dX12_isValue_22 (by decide) ?_
    refine lv_bipush (v := 103) hx hb dX12_isValue_24 (by decide) ?_
    refine lv_bipush (v := 104) hx hb dX12_isValue_26 (by decide) ?_
    refine lv_bipush (v := 116) hx hb dX12_isValue_28 (by decide) ?_
    obtain ⟨z9, wz9, hf⟩ := ha_bds hf
    refine ha_callSl (As := [.int 114, .int 105, .int 103, .int 104, .int 116]) (rest := [.ref (ad p0)]) hZ ⟨hx, hb, hml, hown, hts⟩ hK hz hP hD hS (c_X12_spelt   wz9) cw1 rfl hl.1 rfl (Nat.le_of_ble_eq_true rfl) dX12_isValue_30 ⟨Nat.le_of_ble_eq_true rfl, Nat.le_of_ble_eq_true rfl⟩ (fun H locs hP hD hS => ?_)
    obtain ⟨z10, wz10, hf⟩ := ha_bds hf
    refine ha_callVi (As := [.long z9]) (rest := []) hZ ⟨hx, hb, hml, hown, hts⟩ hK hz hP hD hS (c_X12_isKey hZ hN h0 wz10) cw2 hN h0 (by decide) rfl rfl hl.1 rfl (Nat.le_of_ble_eq_true rfl) dX12_isValue_33 ⟨Nat.le_of_ble_eq_true rfl, Nat.le_of_ble_eq_true rfl⟩ (fun H locs hP hD hS => ?_)
    refine lv_if_ne (tgt := 115) hx hb dX12_isValue_36 (by decide) (fun c11 => ?_) (fun c11 => ?_)
    · have hf := ha_it hf c11
      exact J115  z10.2 H locs ls hf  hP hD hS (lv_sub hl [0] rfl)
    · have hf := ha_if hf (fun q => q c11)
      refine lv_aload_n hx hb dX12_isValue_39 rfl (lv_at hl 0 rfl) ?_
      refine lv_bipush (v := 111) hx hb dX12_isValue_40 (by decide) ?_
      refine lv_bipush (v := 119) hx hb dX12_isValue_42 (by decide) ?_
      refine lv_bipush (v := 110) hx hb dX12_isValue_44 (by decide) ?_
      refine lv_iconst (v := 0) hx hb dX12_isValue_46 (by decide) ?_
      refine lv_iconst (v := 0) hx hb dX12_isValue_47 (by decide) ?_
      obtain ⟨z12, wz12, hf⟩ := ha_bds hf
      refine ha_callSl (As := [.int 111, .int 119, .int 110, .int 0, .int 0]) (rest := [.ref (ad p0)]) hZ ⟨hx, hb, hml, hown, hts⟩ hK hz hP hD hS (c_X12_spelt   wz12) cw1 rfl hl.1 rfl (Nat.le_of_ble_eq_true rfl) dX12_isValue_48 ⟨Nat.le_of_ble_eq_true rfl, Nat.le_of_ble_eq_true rfl⟩ (fun H locs hP hD hS => ?_)
      obtain ⟨z13, wz13, hf⟩ := ha_bds hf
      refine ha_callVi (As := [.long z12]) (rest := []) hZ ⟨hx, hb, hml, hown, hts⟩ hK hz hP hD hS (c_X12_isKey hZ hN h0 wz13) cw2 hN h0 (by decide) rfl rfl hl.1 rfl (Nat.le_of_ble_eq_true rfl) dX12_isValue_51 ⟨Nat.le_of_ble_eq_true rfl, Nat.le_of_ble_eq_true rfl⟩ (fun H locs hP hD hS => ?_)
      refine lv_if_ne (tgt := 115) hx hb dX12_isValue_54 (by decide) (fun c14 => ?_) (fun c14 => ?_)
      · have hf := ha_it hf c14
        exact J115  z13.2 H locs ls hf  hP hD hS (lv_sub hl [0] rfl)
      · have hf := ha_if hf (fun q => q c14)
        refine lv_aload_n hx hb dX12_isValue_57 rfl (lv_at hl 0 rfl) ?_
        refine lv_bipush (v := 116) hx hb dX12_isValue_58 (by decide) ?_
        refine lv_bipush (v := 105) hx hb dX12_isValue_60 (by decide) ?_
        refine lv_bipush (v := 109) hx hb dX12_isValue_62 (by decide) ?_
        refine lv_bipush (v := 101) hx hb dX12_isValue_64 (by decide) ?_
        refine lv_iconst (v := 0) hx hb dX12_isValue_66 (by decide) ?_
        obtain ⟨z15, wz15, hf⟩ := ha_bds hf
        refine ha_callSl (As := [.int 116, .int 105, .int 109, .int 101, .int 0]) (rest := [.ref (ad p0)]) hZ ⟨hx, hb, hml, hown, hts⟩ hK hz hP hD hS (c_X12_spelt   wz15) cw1 rfl hl.1 rfl (Nat.le_of_ble_eq_true rfl) dX12_isValue_67 ⟨Nat.le_of_ble_eq_true rfl, Nat.le_of_ble_eq_true rfl⟩ (fun H locs hP hD hS => ?_)
        obtain ⟨z16, wz16, hf⟩ := ha_bds hf
        refine ha_callVi (As := [.long z15]) (rest := []) hZ ⟨hx, hb, hml, hown, hts⟩ hK hz hP hD hS (c_X12_isKey hZ hN h0 wz16) cw2 hN h0 (by decide) rfl rfl hl.1 rfl (Nat.le_of_ble_eq_true rfl) dX12_isValue_70 ⟨Nat.le_of_ble_eq_true rfl, Nat.le_of_ble_eq_true rfl⟩ (fun H locs hP hD hS => ?_)
        refine lv_if_ne (tgt := 115) hx hb dX12_isValue_73 (by decide) (fun c17 => ?_) (fun c17 => ?_)
        · have hf := ha_it hf c17
          exact J115  z16.2 H locs ls hf  hP hD hS (lv_sub hl [0] rfl)
        · have hf := ha_if hf (fun q => q c17)
          refine lv_aload_n hx hb dX12_isValue_76 rfl (lv_at hl 0 rfl) ?_
          refine lv_bipush (v := 119) hx hb dX12_isValue_77 (by decide) ?_
          refine lv_bipush (v := 111) hx hb dX12_isValue_79 (by decide) ?_
          refine lv_bipush (v := 114) hx hb dX12_isValue_81 (by decide) ?_
          refine lv_bipush (v := 100) hx hb dX12_isValue_83 (by decide) ?_
          refine lv_iconst (v := 0) hx hb dX12_isValue_85 (by decide) ?_
          obtain ⟨z18, wz18, hf⟩ := ha_bds hf
          refine ha_callSl (As := [.int 119, .int 111, .int 114, .int 100, .int 0]) (rest := [.ref (ad p0)]) hZ ⟨hx, hb, hml, hown, hts⟩ hK hz hP hD hS (c_X12_spelt   wz18) cw1 rfl hl.1 rfl (Nat.le_of_ble_eq_true rfl) dX12_isValue_86 ⟨Nat.le_of_ble_eq_true rfl, Nat.le_of_ble_eq_true rfl⟩ (fun H locs hP hD hS => ?_)
          obtain ⟨z19, wz19, hf⟩ := ha_bds hf
          refine ha_callVi (As := [.long z18]) (rest := []) hZ ⟨hx, hb, hml, hown, hts⟩ hK hz hP hD hS (c_X12_isKey hZ hN h0 wz19) cw2 hN h0 (by decide) rfl rfl hl.1 rfl (Nat.le_of_ble_eq_true rfl) dX12_isValue_89 ⟨Nat.le_of_ble_eq_true rfl, Nat.le_of_ble_eq_true rfl⟩ (fun H locs hP hD hS => ?_)
          refine lv_if_ne (tgt := 115) hx hb dX12_isValue_92 (by decide) (fun c20 => ?_) (fun c20 => ?_)
          · have hf := ha_it hf c20
            exact J115  z19.2 H locs ls hf  hP hD hS (lv_sub hl [0] rfl)
          · have hf := ha_if hf (fun q => q c20)
            refine lv_aload_n hx hb dX12_isValue_95 rfl (lv_at hl 0 rfl) ?_
            refine lv_bipush (v := 98) hx hb dX12_isValue_96 (by decide) ?_
            refine lv_bipush (v := 108) hx hb dX12_isValue_98 (by decide) ?_
            refine lv_bipush (v := 105) hx hb dX12_isValue_100 (by decide) ?_
            refine lv_bipush (v := 110) hx hb dX12_isValue_102 (by decide) ?_
            refine lv_bipush (v := 100) hx hb dX12_isValue_104 (by decide) ?_
            obtain ⟨z21, wz21, hf⟩ := ha_bds hf
            refine ha_callSl (As := [.int 98, .int 108, .int 105, .int 110, .int 100]) (rest := [.ref (ad p0)]) hZ ⟨hx, hb, hml, hown, hts⟩ hK hz hP hD hS (c_X12_spelt   wz21) cw1 rfl hl.1 rfl (Nat.le_of_ble_eq_true rfl) dX12_isValue_106 ⟨Nat.le_of_ble_eq_true rfl, Nat.le_of_ble_eq_true rfl⟩ (fun H locs hP hD hS => ?_)
            obtain ⟨z22, wz22, hf⟩ := ha_bds hf
            refine ha_callVi (As := [.long z21]) (rest := []) hZ ⟨hx, hb, hml, hown, hts⟩ hK hz hP hD hS (c_X12_isKey hZ hN h0 wz22) cw2 hN h0 (by decide) rfl rfl hl.1 rfl (Nat.le_of_ble_eq_true rfl) dX12_isValue_109 ⟨Nat.le_of_ble_eq_true rfl, Nat.le_of_ble_eq_true rfl⟩ (fun H locs hP hD hS => ?_)
            refine lv_if_eq (tgt := 119) hx hb dX12_isValue_112 (by decide) (fun c23 => ?_) (fun c23 => ?_)
            · have hf := ha_it hf c23
              refine lv_iconst (v := 0) hx hb dX12_isValue_119 (by decide) ?_
              exact J120 0 z22.2 H locs ls hf  hP hD hS (lv_sub hl [0] rfl)
            · have hf := ha_if hf c23
              exact J115  z22.2 H locs ls hf  hP hD hS (lv_sub hl [0] rfl)

set_option maxHeartbeats 4000000 in
set_option maxRecDepth 100000 in
theorem c_X12_readOne {l : Launch} {D : va_G} {cs : Nat → ClassId} {ad : Nat → Nat} {N : List Nat} {Z : State → Prop} (hZ : ha_Zok (ha_A ad N) Z) (hN : ∀ x, mo_kd x < 999 → x ∈ N) {p0 : Nat} {S : ha_St} {out : Int32 × ha_St} (h0 : mo_kd p0 = 12) (hf : f_X12_readOne p0 S = some out) : ha_Ci l D cs ad mo_kd mo_ln N Z yX12_readOne wsX12_readOne ({ frames := 3, cells := 0, slots := 0, locals := 65 } : Room) [.ref (ad p0)] S out.1 out.2 := by
  refine Met.ofW (cc := cX12_readOne) (maxL := 2) (ret := (some .boolean)) (by decide +kernel) rfl ?_
  intro p e s m args below meth c s₁ B hml hv
  obtain ⟨rfl, hP, hD, hK, hz⟩ := hv
  have hx := B.exec
  have hb := B.bytes
  have hr := B.returns
  have hts := atoms_spec (ws := wsX12_readOne) B.pre
  have hown : s.vm.findClass RX12 = some m.cls := findClass_of_methodNamed B.named
  have hlocks := B.notSynchronized
  have hS : va_S (ha_A ad N) s.heap s.heap [] := va_S.rf
  have hi12 : ∀ w ∈ wsX120, w ∈ wsX12_readOne := fun w h => List.mem_cons_of_mem _ (List.mem_append_right _ h)
  have q29 : ha_Fk s ([.ref (ad p0)] : List Value).toArray RX12 29 12 18 1 := ⟨RX12, TX12, 83, wsX12_readOne, rfl, by decide, by decide, rfl, rfl, hts, hi12, hts (.fieldLink RX12 29 "HillArmsModel" "oneSign" "[I") (by decide +kernel)⟩
  have q183 : ha_Fk s ([.ref (ad p0)] : List Value).toArray RX12 183 12 10 0 := ⟨RX12, TX12, 83, wsX12_readOne, rfl, by decide, by decide, rfl, rfl, hts, hi12, hts (.fieldLink RX12 183 "HillArmsModel" "sign" "I") (by decide +kernel)⟩
  have q32 : ha_Fk s ([.ref (ad p0)] : List Value).toArray RX12 32 12 19 1 := ⟨RX12, TX12, 83, wsX12_readOne, rfl, by decide, by decide, rfl, rfl, hts, hi12, hts (.fieldLink RX12 32 "HillArmsModel" "oneRight" "[I") (by decide +kernel)⟩
  have q219 : ha_Fk s ([.ref (ad p0)] : List Value).toArray RX12 219 12 25 0 := ⟨RX12, TX12, 83, wsX12_readOne, rfl, by decide, by decide, rfl, rfl, hts, hi12, hts (.fieldLink RX12 219 "HillArmsModel" "value" "I") (by decide +kernel)⟩
  have q233 : ha_Fk s ([.ref (ad p0)] : List Value).toArray RX12 233 12 23 0 := ⟨RX12, TX12, 83, wsX12_readOne, rfl, by decide, by decide, rfl, rfl, hts, hi12, hts (.fieldLink RX12 233 "HillArmsModel" "ones" "I") (by decide +kernel)⟩
  have q26 : ha_Fk s ([.ref (ad p0)] : List Value).toArray RX12 26 12 17 1 := ⟨RX12, TX12, 83, wsX12_readOne, rfl, by decide, by decide, rfl, rfl, hts, hi12, hts (.fieldLink RX12 26 "HillArmsModel" "oneLeft" "[I") (by decide +kernel)⟩
  have r233 : ha_Fp s ([.ref (ad p0)] : List Value).toArray RX12 233 12 23 0 .int := ⟨RX12, TX12, 83, wsX12_readOne, tyX12, rfl, by decide, by decide, rfl, rfl, hts, hi12, hts (.fieldLink RX12 233 "HillArmsModel" "ones" "I") (by decide +kernel), tyX12_ok, nmX12, rfl, by decide +kernel⟩
  have cw0 := cwV (R := (headSpec wsX12_readOne ({ frames := 3, cells := 0, slots := 0, locals := 65 } : Room)).room) 0 hts gX12_readOne_X12_go (rm := ({ frames := 1, cells := 0, slots := 0, locals := 21 } : Room)) (mc := 0) (ms := 0) rfl rfl rfl (by decide +kernel) ⟨Nat.le_of_ble_eq_true rfl, Nat.le_of_ble_eq_true rfl⟩
  have cw1 := cwV (R := (headSpec wsX12_readOne ({ frames := 3, cells := 0, slots := 0, locals := 65 } : Room)).room) 0 hts gX12_readOne_X12_readValue (rm := ({ frames := 2, cells := 0, slots := 0, locals := 45 } : Room)) (mc := 0) (ms := 0) rfl rfl rfl (by decide +kernel) ⟨Nat.le_of_ble_eq_true rfl, Nat.le_of_ble_eq_true rfl⟩
  have cw2 := cwV (R := (headSpec wsX12_readOne ({ frames := 3, cells := 0, slots := 0, locals := 65 } : Room)).room) 0 hts gX12_readOne_X12_isValue (rm := ({ frames := 1, cells := 0, slots := 0, locals := 26 } : Room)) (mc := 0) (ms := 0) rfl rfl rfl (by decide +kernel) ⟨Nat.le_of_ble_eq_true rfl, Nat.le_of_ble_eq_true rfl⟩
  have cw3 := cwV (R := (headSpec wsX12_readOne ({ frames := 3, cells := 0, slots := 0, locals := 65 } : Room)).room) 1 hts gX12_readOne_X12_isSign (rm := ({ frames := 0, cells := 0, slots := 0, locals := 0 } : Room)) (mc := 0) (ms := 0) rfl rfl rfl (by decide +kernel) ⟨Nat.le_of_ble_eq_true rfl, Nat.le_of_ble_eq_true rfl⟩
  have cw4 := cwV (R := (headSpec wsX12_readOne ({ frames := 3, cells := 0, slots := 0, locals := 65 } : Room)).room) 1 hts gX12_readOne_X12_bad (rm := ({ frames := 0, cells := 0, slots := 0, locals := 0 } : Room)) (mc := 0) (ms := 0) rfl rfl rfl (by decide +kernel) ⟨Nat.le_of_ble_eq_true rfl, Nat.le_of_ble_eq_true rfl⟩
  have hl := lv_entry ([.ref (ad p0)]) (n := 2) (Nat.le_of_ble_eq_true rfl)
  rw [lg_entry_eq]
  generalize (lg_sl ([.ref (ad p0)]) ++ List.replicate (2 - (lg_sl ([.ref (ad p0)])).length) Slot.unset).toArray = ls at hl ⊢
  have hl : lv_has ls 2 [(0, .ref (ad p0))] := hl
  refine (fun (K0 : ∀ (H : Heap) (locs : List Loc), va_P D vwCl (ha_wl cs ad mo_kd mo_ln N S) H → va_S (ha_A ad N) s.heap H locs → W p l e (headSpec wsX12_readOne ({ frames := 3, cells := 0, slots := 0, locals := 65 } : Room)).room s m ([.ref (ad p0)] : List Value).toArray below meth c H locs 0 0 (MQ below (va_Qi (fun (r : Int32) (_ : Unit) => r = out.1) (fun _ => ha_H D cs ad mo_kd mo_ln N out.2) (ha_A ad N)) ([.ref (ad p0)] : List Value).toArray s 0 0 (ha_A ad N)) (F0 m 0 ls [])) => K0 _ _ hP hS) ?_
  intro H locs hP hS
  have hf := ha_rt hf
  have J93 : ∀ (v1 : Int32) (S : ha_St) (H : Heap) (locs : List Loc) (ls : Array Slot), (f_X12_readOne_J93 p0 v1 S).bind some = some out → va_P D vwCl (ha_wl cs ad mo_kd mo_ln N S) H → va_D (ha_A ad N) (ha_wl cs ad mo_kd mo_ln N S) → va_S (ha_A ad N) s.heap H locs → lv_has ls 2 [(0, .ref (ad p0)), (1, .int v1)] → W p l e (headSpec wsX12_readOne ({ frames := 3, cells := 0, slots := 0, locals := 65 } : Room)).room s m ([.ref (ad p0)] : List Value).toArray below meth c H locs 0 0 (MQ below (va_Qi (fun (r : Int32) (_ : Unit) => r = out.1) (fun _ => ha_H D cs ad mo_kd mo_ln N out.2) (ha_A ad N)) ([.ref (ad p0)] : List Value).toArray s 0 0 (ha_A ad N)) (F0 m 93 ls []) := by
    intro v1 S H locs ls hf  hP hD hS hl
    unfold f_X12_readOne_J93 at hf
    refine lv_aload_n hx hb dX12_readOne_93 rfl (lv_at hl 0 rfl) ?_
    obtain ⟨r1, wr1, hf⟩ := ha_bds hf
    obtain ⟨wr1, hr1⟩ := ha_rf_some wr1
    refine ha_getr hx hb hown hK hP q29 hN h0 wr1 dX12_readOne_94 ?_
    refine lv_iload_n hx hb dX12_readOne_97 rfl (lv_at hl 1 rfl) ?_
    refine lv_aload_n hx hb dX12_readOne_98 rfl (lv_at hl 0 rfl) ?_
    refine ha_geti hx hb hown hK hP q183 hN h0 dX12_readOne_99 ?_
    obtain ⟨g2, hf⟩ := ha_gds hf
    refine ha_iast hx hb hK hP hD hS hN hr1 g2 dX12_readOne_102 (fun S3 H locs eS3 hP hD hS => ?_)
    have hf := ha_nms hf eS3
    refine lv_aload_n hx hb dX12_readOne_103 rfl (lv_at hl 0 rfl) ?_
    obtain ⟨z4, wz4, hf⟩ := ha_bds hf
    refine ha_callVv (As := []) (rest := []) hZ ⟨hx, hb, hml, hown, hts⟩ hK hz hP hD hS (c_X12_go hZ hN h0 wz4) cw0 hN h0 (by decide) rfl rfl hl.1 rfl (Nat.le_of_ble_eq_true rfl) dX12_readOne_104 ⟨Nat.le_of_ble_eq_true rfl, Nat.le_of_ble_eq_true rfl⟩ (fun H locs hP hD hS => ?_)
    refine lv_aload_n hx hb dX12_readOne_107 rfl (lv_at hl 0 rfl) ?_
    obtain ⟨z5, wz5, hf⟩ := ha_bds hf
    refine ha_callVi (As := []) (rest := []) hZ ⟨hx, hb, hml, hown, hts⟩ hK hz hP hD hS (c_X12_readValue hZ hN h0 wz5) cw1 hN h0 (by decide) rfl rfl hl.1 rfl (Nat.le_of_ble_eq_true rfl) dX12_readOne_108 ⟨Nat.le_of_ble_eq_true rfl, Nat.le_of_ble_eq_true rfl⟩ (fun H locs hP hD hS => ?_)
    refine lv_if_ne (tgt := 116) hx hb dX12_readOne_111 (by decide) (fun c6 => ?_) (fun c6 => ?_)
    · have hf := ha_it hf c6
      refine lv_aload_n hx hb dX12_readOne_116 rfl (lv_at hl 0 rfl) ?_
      obtain ⟨r7, wr7, hf⟩ := ha_bds hf
      obtain ⟨wr7, hr7⟩ := ha_rf_some wr7
      refine ha_getr hx hb hown hK hP q32 hN h0 wr7 dX12_readOne_117 ?_
      refine lv_iload_n hx hb dX12_readOne_120 rfl (lv_at hl 1 rfl) ?_
      refine lv_aload_n hx hb dX12_readOne_121 rfl (lv_at hl 0 rfl) ?_
      refine ha_geti hx hb hown hK hP q219 hN h0 dX12_readOne_122 ?_
      obtain ⟨g8, hf⟩ := ha_gds hf
      refine ha_iast hx hb hK hP hD hS hN hr7 g8 dX12_readOne_125 (fun S9 H locs eS9 hP hD hS => ?_)
      have hf := ha_nms hf eS9
      refine lv_aload_n hx hb dX12_readOne_126 rfl (lv_at hl 0 rfl) ?_
      refine lv_dup hx hb dX12_readOne_127 rfl ?_
      refine ha_geti hx hb hown hK hP q233 hN h0 dX12_readOne_128 ?_
      refine lv_iconst (v := 1) hx hb dX12_readOne_131 (by decide) ?_
      refine lv_iadd hx hb dX12_readOne_132 ?_
      refine ha_puti hx hb hown hK hP hD hS r233 hN h0 dX12_readOne_133 (fun S10 H locs eS10 hP hD hS => ?_)
      have hf := ha_nms hf eS10
      refine lv_iconst (v := 1) hx hb dX12_readOne_136 (by decide) ?_
      have he := Option.some.inj hf
      exact ha_retz hx hb hr hlocks hP hD hS dX12_readOne_137 (by decide) (ha_e1 he) (ha_e2 he)
    · have hf := ha_if hf (fun q => q c6)
      refine lv_iconst (v := 0) hx hb dX12_readOne_114 (by decide) ?_
      have he := Option.some.inj hf
      exact ha_retz hx hb hr hlocks hP hD hS dX12_readOne_115 (by decide) (ha_e1 he) (ha_e2 he)
  unfold f_X12_readOne at hf
  refine lv_aload_n hx hb dX12_readOne_0 rfl (lv_at hl 0 rfl) ?_
  obtain ⟨z11, wz11, hf⟩ := ha_bds hf
  refine ha_callVi (As := []) (rest := []) hZ ⟨hx, hb, hml, hown, hts⟩ hK hz hP hD hS (c_X12_isValue hZ hN h0 wz11) cw2 hN h0 (by decide) rfl rfl hl.1 rfl (Nat.le_of_ble_eq_true rfl) dX12_readOne_1 ⟨Nat.le_of_ble_eq_true rfl, Nat.le_of_ble_eq_true rfl⟩ (fun H locs hP hD hS => ?_)
  refine lv_if_ne (tgt := 13) hx hb dX12_readOne_4 (by decide) (fun c12 => ?_) (fun c12 => ?_)
  · have hf := ha_it hf c12
    refine lv_aload_n hx hb dX12_readOne_13 rfl (lv_at hl 0 rfl) ?_
    refine ha_geti hx hb hown hK hP q233 hN h0 dX12_readOne_14 ?_
    refine lv_bipush (v := 40) hx hb dX12_readOne_17 (by decide) ?_
    refine lv_icmp_ne (tgt := 28) hx hb dX12_readOne_19 (by decide) (fun c13 => ?_) (fun c13 => ?_)
    · have hf := ha_it hf c13
      refine lv_bipush (v := 120) hx hb dX12_readOne_28 (by decide) ?_
      refine lv_aload_n hx hb dX12_readOne_30 rfl (lv_at hl 0 rfl) ?_
      refine ha_geti hx hb hown hK hP q233 hN h0 dX12_readOne_31 ?_
      refine lv_iadd hx hb dX12_readOne_34 ?_
      refine lv_topi (fun x14 ex14 => ?_)
      have hf := ha_nms hf ex14
      refine lv_istore_n (lv' := [(1, .int x14), (0, .ref (ad p0))]) hx hb dX12_readOne_35 rfl hl (by decide) rfl (fun ls hl => ?_)
      refine lv_aload_n hx hb dX12_readOne_36 rfl (lv_at hl 1 rfl) ?_
      obtain ⟨z15, wz15, hf⟩ := ha_bds hf
      refine ha_callVi (As := []) (rest := []) hZ ⟨hx, hb, hml, hown, hts⟩ hK hz hP hD hS (c_X12_readValue hZ hN h0 wz15) cw1 hN h0 (by decide) rfl rfl hl.1 rfl (Nat.le_of_ble_eq_true rfl) dX12_readOne_37 ⟨Nat.le_of_ble_eq_true rfl, Nat.le_of_ble_eq_true rfl⟩ (fun H locs hP hD hS => ?_)
      refine lv_pop hx hb dX12_readOne_40 rfl ?_
      refine lv_aload_n hx hb dX12_readOne_41 rfl (lv_at hl 1 rfl) ?_
      obtain ⟨r16, wr16, hf⟩ := ha_bds hf
      obtain ⟨wr16, hr16⟩ := ha_rf_some wr16
      refine ha_getr hx hb hown hK hP q26 hN h0 wr16 dX12_readOne_42 ?_
      refine lv_iload_n hx hb dX12_readOne_45 rfl (lv_at hl 0 rfl) ?_
      refine lv_aload_n hx hb dX12_readOne_46 rfl (lv_at hl 1 rfl) ?_
      refine ha_geti hx hb hown hK hP q219 hN h0 dX12_readOne_47 ?_
      obtain ⟨g17, hf⟩ := ha_gds hf
      refine ha_iast hx hb hK hP hD hS hN hr16 g17 dX12_readOne_50 (fun S18 H locs eS18 hP hD hS => ?_)
      have hf := ha_nms hf eS18
      refine lv_aload_n hx hb dX12_readOne_51 rfl (lv_at hl 1 rfl) ?_
      refine lv_bipush (v := 60) hx hb dX12_readOne_52 (by decide) ?_
      obtain ⟨z19, wz19, hf⟩ := ha_bds hf
      refine ha_callVi (As := [.int 60]) (rest := []) hZ ⟨hx, hb, hml, hown, hts⟩ hK hz hP hD hS (c_X12_isSign hZ hN h0 wz19) cw3 hN h0 (by decide) rfl rfl hl.1 rfl (Nat.le_of_ble_eq_true rfl) dX12_readOne_54 ⟨Nat.le_of_ble_eq_true rfl, Nat.le_of_ble_eq_true rfl⟩ (fun H locs hP hD hS => ?_)
      refine lv_if_ne (tgt := 93) hx hb dX12_readOne_57 (by decide) (fun c20 => ?_) (fun c20 => ?_)
      · have hf := ha_it hf c20
        exact J93 x14 z19.2 H locs ls hf  hP hD hS (lv_sub hl [1, 0] rfl)
      · have hf := ha_if hf (fun q => q c20)
        refine lv_aload_n hx hb dX12_readOne_60 rfl (lv_at hl 1 rfl) ?_
        refine lv_bipush (v := 61) hx hb dX12_readOne_61 (by decide) ?_
        obtain ⟨z21, wz21, hf⟩ := ha_bds hf
        refine ha_callVi (As := [.int 61]) (rest := []) hZ ⟨hx, hb, hml, hown, hts⟩ hK hz hP hD hS (c_X12_isSign hZ hN h0 wz21) cw3 hN h0 (by decide) rfl rfl hl.1 rfl (Nat.le_of_ble_eq_true rfl) dX12_readOne_63 ⟨Nat.le_of_ble_eq_true rfl, Nat.le_of_ble_eq_true rfl⟩ (fun H locs hP hD hS => ?_)
        refine lv_if_ne (tgt := 93) hx hb dX12_readOne_66 (by decide) (fun c22 => ?_) (fun c22 => ?_)
        · have hf := ha_it hf c22
          exact J93 x14 z21.2 H locs ls hf  hP hD hS (lv_sub hl [1, 0] rfl)
        · have hf := ha_if hf (fun q => q c22)
          refine lv_aload_n hx hb dX12_readOne_69 rfl (lv_at hl 1 rfl) ?_
          refine lv_bipush (v := 62) hx hb dX12_readOne_70 (by decide) ?_
          obtain ⟨z23, wz23, hf⟩ := ha_bds hf
          refine ha_callVi (As := [.int 62]) (rest := []) hZ ⟨hx, hb, hml, hown, hts⟩ hK hz hP hD hS (c_X12_isSign hZ hN h0 wz23) cw3 hN h0 (by decide) rfl rfl hl.1 rfl (Nat.le_of_ble_eq_true rfl) dX12_readOne_72 ⟨Nat.le_of_ble_eq_true rfl, Nat.le_of_ble_eq_true rfl⟩ (fun H locs hP hD hS => ?_)
          refine lv_if_ne (tgt := 93) hx hb dX12_readOne_75 (by decide) (fun c24 => ?_) (fun c24 => ?_)
          · have hf := ha_it hf c24
            exact J93 x14 z23.2 H locs ls hf  hP hD hS (lv_sub hl [1, 0] rfl)
          · have hf := ha_if hf (fun q => q c24)
            refine lv_aload_n hx hb dX12_readOne_78 rfl (lv_at hl 1 rfl) ?_
            refine lv_bipush (v := 35) hx hb dX12_readOne_79 (by decide) ?_
            obtain ⟨z25, wz25, hf⟩ := ha_bds hf
            refine ha_callVi (As := [.int 35]) (rest := []) hZ ⟨hx, hb, hml, hown, hts⟩ hK hz hP hD hS (c_X12_isSign hZ hN h0 wz25) cw3 hN h0 (by decide) rfl rfl hl.1 rfl (Nat.le_of_ble_eq_true rfl) dX12_readOne_81 ⟨Nat.le_of_ble_eq_true rfl, Nat.le_of_ble_eq_true rfl⟩ (fun H locs hP hD hS => ?_)
            refine lv_if_ne (tgt := 93) hx hb dX12_readOne_84 (by decide) (fun c26 => ?_) (fun c26 => ?_)
            · have hf := ha_it hf c26
              exact J93 x14 z25.2 H locs ls hf  hP hD hS (lv_sub hl [1, 0] rfl)
            · have hf := ha_if hf (fun q => q c26)
              refine lv_aload_n hx hb dX12_readOne_87 rfl (lv_at hl 1 rfl) ?_
              refine lv_iconst (v := 1) hx hb dX12_readOne_88 (by decide) ?_
              obtain ⟨z27, wz27, hf⟩ := ha_bds hf
              refine ha_callVi (As := [.int 1]) (rest := []) hZ ⟨hx, hb, hml, hown, hts⟩ hK hz hP hD hS (c_X12_bad hZ hN h0 wz27) cw4 hN h0 (by decide) rfl rfl hl.1 rfl (Nat.le_of_ble_eq_true rfl) dX12_readOne_89 ⟨Nat.le_of_ble_eq_true rfl, Nat.le_of_ble_eq_true rfl⟩ (fun H locs hP hD hS => ?_)
              obtain ⟨g28, hf⟩ := ha_gds hf
              have he := Option.some.inj hf
              exact ha_retz hx hb hr hlocks hP hD hS dX12_readOne_92 g28 (ha_e1 he) (ha_e2 he)
    · have hf := ha_if hf (fun q => q c13)
      refine lv_aload_n hx hb dX12_readOne_22 rfl (lv_at hl 0 rfl) ?_
      refine lv_iconst (v := 2) hx hb dX12_readOne_23 (by decide) ?_
      obtain ⟨z29, wz29, hf⟩ := ha_bds hf
      refine ha_callVi (As := [.int 2]) (rest := []) hZ ⟨hx, hb, hml, hown, hts⟩ hK hz hP hD hS (c_X12_bad hZ hN h0 wz29) cw4 hN h0 (by decide) rfl rfl hl.1 rfl (Nat.le_of_ble_eq_true rfl) dX12_readOne_24 ⟨Nat.le_of_ble_eq_true rfl, Nat.le_of_ble_eq_true rfl⟩ (fun H locs hP hD hS => ?_)
      obtain ⟨g30, hf⟩ := ha_gds hf
      have he := Option.some.inj hf
      exact ha_retz hx hb hr hlocks hP hD hS dX12_readOne_27 g30 (ha_e1 he) (ha_e2 he)
  · have hf := ha_if hf (fun q => q c12)
    refine lv_aload_n hx hb dX12_readOne_7 rfl (lv_at hl 0 rfl) ?_
    refine lv_iconst (v := 1) hx hb dX12_readOne_8 (by decide) ?_
    obtain ⟨z31, wz31, hf⟩ := ha_bds hf
    refine ha_callVi (As := [.int 1]) (rest := []) hZ ⟨hx, hb, hml, hown, hts⟩ hK hz hP hD hS (c_X12_bad hZ hN h0 wz31) cw4 hN h0 (by decide) rfl rfl hl.1 rfl (Nat.le_of_ble_eq_true rfl) dX12_readOne_9 ⟨Nat.le_of_ble_eq_true rfl, Nat.le_of_ble_eq_true rfl⟩ (fun H locs hP hD hS => ?_)
    obtain ⟨g32, hf⟩ := ha_gds hf
    have he := Option.some.inj hf
    exact ha_retz hx hb hr hlocks hP hD hS dX12_readOne_12 g32 (ha_e1 he) (ha_e2 he)

set_option maxHeartbeats 4000000 in
set_option maxRecDepth 100000 in
theorem c_X12_readSum {l : Launch} {D : va_G} {cs : Nat → ClassId} {ad : Nat → Nat} {N : List Nat} {Z : State → Prop} (hZ : ha_Zok (ha_A ad N) Z) (hN : ∀ x, mo_kd x < 999 → x ∈ N) {p0 : Nat} {p1 : Int32} {S : ha_St} {out : Int32 × ha_St} (h0 : mo_kd p0 = 12) (hf : f_X12_readSum p0 p1 S = some out) : ha_Ci l D cs ad mo_kd mo_ln N Z yX12_readSum wsX12_readSum ({ frames := 3, cells := 0, slots := 0, locals := 65 } : Room) [.ref (ad p0), .int p1] S out.1 out.2 := by
  refine Met.ofW (cc := cX12_readSum) (maxL := 2) (ret := (some .boolean)) (by decide +kernel) rfl ?_
  intro p e s m args below meth c s₁ B hml hv
  obtain ⟨rfl, hP, hD, hK, hz⟩ := hv
  have hx := B.exec
  have hb := B.bytes
  have hr := B.returns
  have hts := atoms_spec (ws := wsX12_readSum) B.pre
  have hown : s.vm.findClass RX12 = some m.cls := findClass_of_methodNamed B.named
  have hlocks := B.notSynchronized
  have hS : va_S (ha_A ad N) s.heap s.heap [] := va_S.rf
  have hi12 : ∀ w ∈ wsX120, w ∈ wsX12_readSum := fun w h => List.mem_cons_of_mem _ (List.mem_append_right _ h)
  have q38 : ha_Fk s ([.ref (ad p0), .int p1] : List Value).toArray RX12 38 12 21 1 := ⟨RX12, TX12, 83, wsX12_readSum, rfl, by decide, by decide, rfl, rfl, hts, hi12, hts (.fieldLink RX12 38 "HillArmsModel" "actFirst" "[I") (by decide +kernel)⟩
  have q219 : ha_Fk s ([.ref (ad p0), .int p1] : List Value).toArray RX12 219 12 25 0 := ⟨RX12, TX12, 83, wsX12_readSum, rfl, by decide, by decide, rfl, rfl, hts, hi12, hts (.fieldLink RX12 219 "HillArmsModel" "value" "I") (by decide +kernel)⟩
  have q41 : ha_Fk s ([.ref (ad p0), .int p1] : List Value).toArray RX12 41 12 22 1 := ⟨RX12, TX12, 83, wsX12_readSum, rfl, by decide, by decide, rfl, rfl, hts, hi12, hts (.fieldLink RX12 41 "HillArmsModel" "actSecond" "[I") (by decide +kernel)⟩
  have cw0 := cwV (R := (headSpec wsX12_readSum ({ frames := 3, cells := 0, slots := 0, locals := 65 } : Room)).room) 0 hts gX12_readSum_X12_readValue (rm := ({ frames := 2, cells := 0, slots := 0, locals := 45 } : Room)) (mc := 0) (ms := 0) rfl rfl rfl (by decide +kernel) ⟨Nat.le_of_ble_eq_true rfl, Nat.le_of_ble_eq_true rfl⟩
  have cw1 := cwV (R := (headSpec wsX12_readSum ({ frames := 3, cells := 0, slots := 0, locals := 65 } : Room)).room) 1 hts gX12_readSum_X12_isSign (rm := ({ frames := 0, cells := 0, slots := 0, locals := 0 } : Room)) (mc := 0) (ms := 0) rfl rfl rfl (by decide +kernel) ⟨Nat.le_of_ble_eq_true rfl, Nat.le_of_ble_eq_true rfl⟩
  have cw2 := cwV (R := (headSpec wsX12_readSum ({ frames := 3, cells := 0, slots := 0, locals := 65 } : Room)).room) 0 hts gX12_readSum_X12_go (rm := ({ frames := 1, cells := 0, slots := 0, locals := 21 } : Room)) (mc := 0) (ms := 0) rfl rfl rfl (by decide +kernel) ⟨Nat.le_of_ble_eq_true rfl, Nat.le_of_ble_eq_true rfl⟩
  have hl := lv_entry ([.ref (ad p0), .int p1]) (n := 2) (Nat.le_of_ble_eq_true rfl)
  rw [lg_entry_eq]
  generalize (lg_sl ([.ref (ad p0), .int p1]) ++ List.replicate (2 - (lg_sl ([.ref (ad p0), .int p1])).length) Slot.unset).toArray = ls at hl ⊢
  have hl : lv_has ls 2 [(0, .ref (ad p0)), (1, .int p1)] := hl
  refine (fun (K0 : ∀ (H : Heap) (locs : List Loc), va_P D vwCl (ha_wl cs ad mo_kd mo_ln N S) H → va_S (ha_A ad N) s.heap H locs → W p l e (headSpec wsX12_readSum ({ frames := 3, cells := 0, slots := 0, locals := 65 } : Room)).room s m ([.ref (ad p0), .int p1] : List Value).toArray below meth c H locs 0 0 (MQ below (va_Qi (fun (r : Int32) (_ : Unit) => r = out.1) (fun _ => ha_H D cs ad mo_kd mo_ln N out.2) (ha_A ad N)) ([.ref (ad p0), .int p1] : List Value).toArray s 0 0 (ha_A ad N)) (F0 m 0 ls [])) => K0 _ _ hP hS) ?_
  intro H locs hP hS
  have hf := ha_rt hf
  unfold f_X12_readSum at hf
  refine lv_aload_n hx hb dX12_readSum_0 rfl (lv_at hl 0 rfl) ?_
  obtain ⟨z1, wz1, hf⟩ := ha_bds hf
  refine ha_callVi (As := []) (rest := []) hZ ⟨hx, hb, hml, hown, hts⟩ hK hz hP hD hS (c_X12_readValue hZ hN h0 wz1) cw0 hN h0 (by decide) rfl rfl hl.1 rfl (Nat.le_of_ble_eq_true rfl) dX12_readSum_1 ⟨Nat.le_of_ble_eq_true rfl, Nat.le_of_ble_eq_true rfl⟩ (fun H locs hP hD hS => ?_)
  refine lv_if_ne (tgt := 9) hx hb dX12_readSum_4 (by decide) (fun c2 => ?_) (fun c2 => ?_)
  · have hf := ha_it hf c2
    refine lv_aload_n hx hb dX12_readSum_9 rfl (lv_at hl 0 rfl) ?_
    obtain ⟨r3, wr3, hf⟩ := ha_bds hf
    obtain ⟨wr3, hr3⟩ := ha_rf_some wr3
    refine ha_getr hx hb hown hK hP q38 hN h0 wr3 dX12_readSum_10 ?_
    refine lv_iload_n hx hb dX12_readSum_13 rfl (lv_at hl 1 rfl) ?_
    refine lv_aload_n hx hb dX12_readSum_14 rfl (lv_at hl 0 rfl) ?_
    refine ha_geti hx hb hown hK hP q219 hN h0 dX12_readSum_15 ?_
    obtain ⟨g4, hf⟩ := ha_gds hf
    refine ha_iast hx hb hK hP hD hS hN hr3 g4 dX12_readSum_18 (fun S5 H locs eS5 hP hD hS => ?_)
    have hf := ha_nms hf eS5
    refine lv_aload_n hx hb dX12_readSum_19 rfl (lv_at hl 0 rfl) ?_
    obtain ⟨r6, wr6, hf⟩ := ha_bds hf
    obtain ⟨wr6, hr6⟩ := ha_rf_some wr6
    refine ha_getr hx hb hown hK hP q41 hN h0 wr6 dX12_readSum_20 ?_
    refine lv_iload_n hx hb dX12_readSum_23 rfl (lv_at hl 1 rfl) ?_
    refine lv_iconst (v := (-1)) hx hb dX12_readSum_24 (by decide) ?_
    obtain ⟨g7, hf⟩ := ha_gds hf
    refine ha_iast hx hb hK hP hD hS hN hr6 g7 dX12_readSum_25 (fun S8 H locs eS8 hP hD hS => ?_)
    have hf := ha_nms hf eS8
    refine lv_aload_n hx hb dX12_readSum_26 rfl (lv_at hl 0 rfl) ?_
    refine lv_bipush (v := 43) hx hb dX12_readSum_27 (by decide) ?_
    obtain ⟨z9, wz9, hf⟩ := ha_bds hf
    refine ha_callVi (As := [.int 43]) (rest := []) hZ ⟨hx, hb, hml, hown, hts⟩ hK hz hP hD hS (c_X12_isSign hZ hN h0 wz9) cw1 hN h0 (by decide) rfl rfl hl.1 rfl (Nat.le_of_ble_eq_true rfl) dX12_readSum_29 ⟨Nat.le_of_ble_eq_true rfl, Nat.le_of_ble_eq_true rfl⟩ (fun H locs hP hD hS => ?_)
    refine lv_if_ne (tgt := 37) hx hb dX12_readSum_32 (by decide) (fun c10 => ?_) (fun c10 => ?_)
    · have hf := ha_it hf c10
      refine lv_aload_n hx hb dX12_readSum_37 rfl (lv_at hl 0 rfl) ?_
      obtain ⟨z11, wz11, hf⟩ := ha_bds hf
      refine ha_callVv (As := []) (rest := []) hZ ⟨hx, hb, hml, hown, hts⟩ hK hz hP hD hS (c_X12_go hZ hN h0 wz11) cw2 hN h0 (by decide) rfl rfl hl.1 rfl (Nat.le_of_ble_eq_true rfl) dX12_readSum_38 ⟨Nat.le_of_ble_eq_true rfl, Nat.le_of_ble_eq_true rfl⟩ (fun H locs hP hD hS => ?_)
      refine lv_aload_n hx hb dX12_readSum_41 rfl (lv_at hl 0 rfl) ?_
      obtain ⟨z12, wz12, hf⟩ := ha_bds hf
      refine ha_callVi (As := []) (rest := []) hZ ⟨hx, hb, hml, hown, hts⟩ hK hz hP hD hS (c_X12_readValue hZ hN h0 wz12) cw0 hN h0 (by decide) rfl rfl hl.1 rfl (Nat.le_of_ble_eq_true rfl) dX12_readSum_42 ⟨Nat.le_of_ble_eq_true rfl, Nat.le_of_ble_eq_true rfl⟩ (fun H locs hP hD hS => ?_)
      refine lv_if_ne (tgt := 50) hx hb dX12_readSum_45 (by decide) (fun c13 => ?_) (fun c13 => ?_)
      · have hf := ha_it hf c13
        refine lv_aload_n hx hb dX12_readSum_50 rfl (lv_at hl 0 rfl) ?_
        obtain ⟨r14, wr14, hf⟩ := ha_bds hf
        obtain ⟨wr14, hr14⟩ := ha_rf_some wr14
        refine ha_getr hx hb hown hK hP q41 hN h0 wr14 dX12_readSum_51 ?_
        refine lv_iload_n hx hb dX12_readSum_54 rfl (lv_at hl 1 rfl) ?_
        refine lv_aload_n hx hb dX12_readSum_55 rfl (lv_at hl 0 rfl) ?_
        refine ha_geti hx hb hown hK hP q219 hN h0 dX12_readSum_56 ?_
        obtain ⟨g15, hf⟩ := ha_gds hf
        refine ha_iast hx hb hK hP hD hS hN hr14 g15 dX12_readSum_59 (fun S16 H locs eS16 hP hD hS => ?_)
        have hf := ha_nms hf eS16
        refine lv_iconst (v := 1) hx hb dX12_readSum_60 (by decide) ?_
        have he := Option.some.inj hf
        exact ha_retz hx hb hr hlocks hP hD hS dX12_readSum_61 (by decide) (ha_e1 he) (ha_e2 he)
      · have hf := ha_if hf (fun q => q c13)
        refine lv_iconst (v := 0) hx hb dX12_readSum_48 (by decide) ?_
        have he := Option.some.inj hf
        exact ha_retz hx hb hr hlocks hP hD hS dX12_readSum_49 (by decide) (ha_e1 he) (ha_e2 he)
    · have hf := ha_if hf (fun q => q c10)
      refine lv_iconst (v := 1) hx hb dX12_readSum_35 (by decide) ?_
      have he := Option.some.inj hf
      exact ha_retz hx hb hr hlocks hP hD hS dX12_readSum_36 (by decide) (ha_e1 he) (ha_e2 he)
  · have hf := ha_if hf (fun q => q c2)
    refine lv_iconst (v := 0) hx hb dX12_readSum_7 (by decide) ?_
    have he := Option.some.inj hf
    exact ha_retz hx hb hr hlocks hP hD hS dX12_readSum_8 (by decide) (ha_e1 he) (ha_e2 he)

set_option maxHeartbeats 4000000 in
set_option maxRecDepth 100000 in
theorem c_X12_readAct {l : Launch} {D : va_G} {cs : Nat → ClassId} {ad : Nat → Nat} {N : List Nat} {Z : State → Prop} (hZ : ha_Zok (ha_A ad N) Z) (hN : ∀ x, mo_kd x < 999 → x ∈ N) {p0 : Nat} {S : ha_St} {out : Int32 × ha_St} (h0 : mo_kd p0 = 12) (hf : f_X12_readAct p0 S = some out) : ha_Ci l D cs ad mo_kd mo_ln N Z yX12_readAct wsX12_readAct ({ frames := 4, cells := 0, slots := 0, locals := 86 } : Room) [.ref (ad p0)] S out.1 out.2 := by
  refine Met.ofW (cc := cX12_readAct) (maxL := 6) (ret := (some .boolean)) (by decide +kernel) rfl ?_
  intro p e s m args below meth c s₁ B hml hv
  obtain ⟨rfl, hP, hD, hK, hz⟩ := hv
  have hx := B.exec
  have hb := B.bytes
  have hr := B.returns
  have hts := atoms_spec (ws := wsX12_readAct) B.pre
  have hown : s.vm.findClass RX12 = some m.cls := findClass_of_methodNamed B.named
  have hlocks := B.notSynchronized
  have hS : va_S (ha_A ad N) s.heap s.heap [] := va_S.rf
  have hi12 : ∀ w ∈ wsX120, w ∈ wsX12_readAct := fun w h => List.mem_cons_of_mem _ (List.mem_append_right _ h)
  have q242 : ha_Fk s ([.ref (ad p0)] : List Value).toArray RX12 242 12 24 0 := ⟨RX12, TX12, 83, wsX12_readAct, rfl, by decide, by decide, rfl, rfl, hts, hi12, hts (.fieldLink RX12 242 "HillArmsModel" "acts" "I") (by decide +kernel)⟩
  have q35 : ha_Fk s ([.ref (ad p0)] : List Value).toArray RX12 35 12 20 1 := ⟨RX12, TX12, 83, wsX12_readAct, rfl, by decide, by decide, rfl, rfl, hts, hi12, hts (.fieldLink RX12 35 "HillArmsModel" "actWhat" "[I") (by decide +kernel)⟩
  have q186 : ha_Fk s ([.ref (ad p0)] : List Value).toArray RX12 186 12 13 2 := ⟨RX12, TX12, 83, wsX12_readAct, rfl, by decide, by decide, rfl, rfl, hts, hi12, hts (.fieldLink RX12 186 "HillArmsModel" "word" "J") (by decide +kernel)⟩
  have r242 : ha_Fp s ([.ref (ad p0)] : List Value).toArray RX12 242 12 24 0 .int := ⟨RX12, TX12, 83, wsX12_readAct, tyX12, rfl, by decide, by decide, rfl, rfl, hts, hi12, hts (.fieldLink RX12 242 "HillArmsModel" "acts" "I") (by decide +kernel), tyX12_ok, nmX12, rfl, by decide +kernel⟩
  have cw0 := cwV (R := (headSpec wsX12_readAct ({ frames := 4, cells := 0, slots := 0, locals := 86 } : Room)).room) 1 hts gX12_readAct_X12_readSum (rm := ({ frames := 3, cells := 0, slots := 0, locals := 65 } : Room)) (mc := 0) (ms := 0) rfl rfl rfl (by decide +kernel) ⟨Nat.le_of_ble_eq_true rfl, Nat.le_of_ble_eq_true rfl⟩
  have cw1 := cwV (R := (headSpec wsX12_readAct ({ frames := 4, cells := 0, slots := 0, locals := 86 } : Room)).room) 0 hts gX12_readAct_X12_go (rm := ({ frames := 1, cells := 0, slots := 0, locals := 21 } : Room)) (mc := 0) (ms := 0) rfl rfl rfl (by decide +kernel) ⟨Nat.le_of_ble_eq_true rfl, Nat.le_of_ble_eq_true rfl⟩
  have cw2 := va_cwS (R := (headSpec wsX12_readAct ({ frames := 4, cells := 0, slots := 0, locals := 86 } : Room)).room) 5 hts gX12_readAct_X12_spelt (rm := ({ frames := 0, cells := 0, slots := 0, locals := 0 } : Room)) (mc := 0) (ms := 0) rfl rfl rfl (by decide +kernel) ⟨Nat.le_of_ble_eq_true rfl, Nat.le_of_ble_eq_true rfl⟩
  have cw3 := cwV (R := (headSpec wsX12_readAct ({ frames := 4, cells := 0, slots := 0, locals := 86 } : Room)).room) 1 hts gX12_readAct_X12_readKey (rm := ({ frames := 2, cells := 0, slots := 0, locals := 45 } : Room)) (mc := 0) (ms := 0) rfl rfl rfl (by decide +kernel) ⟨Nat.le_of_ble_eq_true rfl, Nat.le_of_ble_eq_true rfl⟩
  have cw4 := cwV (R := (headSpec wsX12_readAct ({ frames := 4, cells := 0, slots := 0, locals := 86 } : Room)).room) 1 hts gX12_readAct_X12_bad (rm := ({ frames := 0, cells := 0, slots := 0, locals := 0 } : Room)) (mc := 0) (ms := 0) rfl rfl rfl (by decide +kernel) ⟨Nat.le_of_ble_eq_true rfl, Nat.le_of_ble_eq_true rfl⟩
  have cw5 := cwV (R := (headSpec wsX12_readAct ({ frames := 4, cells := 0, slots := 0, locals := 86 } : Room)).room) 1 hts gX12_readAct_X12_isKey (rm := ({ frames := 0, cells := 0, slots := 0, locals := 0 } : Room)) (mc := 0) (ms := 0) rfl rfl rfl (by decide +kernel) ⟨Nat.le_of_ble_eq_true rfl, Nat.le_of_ble_eq_true rfl⟩
  have cw6 := cwV (R := (headSpec wsX12_readAct ({ frames := 4, cells := 0, slots := 0, locals := 86 } : Room)).room) 0 hts gX12_readAct_X12_isCell (rm := ({ frames := 0, cells := 0, slots := 0, locals := 0 } : Room)) (mc := 0) (ms := 0) rfl rfl rfl (by decide +kernel) ⟨Nat.le_of_ble_eq_true rfl, Nat.le_of_ble_eq_true rfl⟩
  have hl := lv_entry ([.ref (ad p0)]) (n := 6) (Nat.le_of_ble_eq_true rfl)
  rw [lg_entry_eq]
  generalize (lg_sl ([.ref (ad p0)]) ++ List.replicate (6 - (lg_sl ([.ref (ad p0)])).length) Slot.unset).toArray = ls at hl ⊢
  have hl : lv_has ls 6 [(0, .ref (ad p0))] := hl
  refine (fun (K0 : ∀ (H : Heap) (locs : List Loc), va_P D vwCl (ha_wl cs ad mo_kd mo_ln N S) H → va_S (ha_A ad N) s.heap H locs → W p l e (headSpec wsX12_readAct ({ frames := 4, cells := 0, slots := 0, locals := 86 } : Room)).room s m ([.ref (ad p0)] : List Value).toArray below meth c H locs 0 0 (MQ below (va_Qi (fun (r : Int32) (_ : Unit) => r = out.1) (fun _ => ha_H D cs ad mo_kd mo_ln N out.2) (ha_A ad N)) ([.ref (ad p0)] : List Value).toArray s 0 0 (ha_A ad N)) (F0 m 0 ls [])) => K0 _ _ hP hS) ?_
  intro H locs hP hS
  have hf := ha_rt hf
  have J187 : ∀  (S : ha_St) (H : Heap) (locs : List Loc) (ls : Array Slot), (f_X12_readAct_J187 p0  S).bind some = some out → va_P D vwCl (ha_wl cs ad mo_kd mo_ln N S) H → va_D (ha_A ad N) (ha_wl cs ad mo_kd mo_ln N S) → va_S (ha_A ad N) s.heap H locs → lv_has ls 6 [(0, .ref (ad p0))] → W p l e (headSpec wsX12_readAct ({ frames := 4, cells := 0, slots := 0, locals := 86 } : Room)).room s m ([.ref (ad p0)] : List Value).toArray below meth c H locs 0 0 (MQ below (va_Qi (fun (r : Int32) (_ : Unit) => r = out.1) (fun _ => ha_H D cs ad mo_kd mo_ln N out.2) (ha_A ad N)) ([.ref (ad p0)] : List Value).toArray s 0 0 (ha_A ad N)) (F0 m 187 ls []) := by
    intro  S H locs ls hf  hP hD hS hl
    unfold f_X12_readAct_J187 at hf
    refine lv_aload_n hx hb dX12_readAct_187 rfl (lv_at hl 0 rfl) ?_
    refine lv_dup hx hb dX12_readAct_188 rfl ?_
    refine ha_geti hx hb hown hK hP q242 hN h0 dX12_readAct_189 ?_
    refine lv_iconst (v := 1) hx hb dX12_readAct_192 (by decide) ?_
    refine lv_iadd hx hb dX12_readAct_193 ?_
    refine ha_puti hx hb hown hK hP hD hS r242 hN h0 dX12_readAct_194 (fun S1 H locs eS1 hP hD hS => ?_)
    have hf := ha_nms hf eS1
    refine lv_iconst (v := 1) hx hb dX12_readAct_197 (by decide) ?_
    have he := Option.some.inj hf
    exact ha_retz hx hb hr hlocks hP hD hS dX12_readAct_198 (by decide) (ha_e1 he) (ha_e2 he)
  have J172 : ∀ (v3 : Int32) (v5 : Int32) (S : ha_St) (H : Heap) (locs : List Loc) (ls : Array Slot), (f_X12_readAct_J172 p0 v3 v5 S).bind some = some out → va_P D vwCl (ha_wl cs ad mo_kd mo_ln N S) H → va_D (ha_A ad N) (ha_wl cs ad mo_kd mo_ln N S) → va_S (ha_A ad N) s.heap H locs → lv_has ls 6 [(0, .ref (ad p0)), (3, .int v3), (5, .int v5)] → W p l e (headSpec wsX12_readAct ({ frames := 4, cells := 0, slots := 0, locals := 86 } : Room)).room s m ([.ref (ad p0)] : List Value).toArray below meth c H locs 0 0 (MQ below (va_Qi (fun (r : Int32) (_ : Unit) => r = out.1) (fun _ => ha_H D cs ad mo_kd mo_ln N out.2) (ha_A ad N)) ([.ref (ad p0)] : List Value).toArray s 0 0 (ha_A ad N)) (F0 m 172 ls []) := by
    intro v3 v5 S H locs ls hf  hP hD hS hl
    unfold f_X12_readAct_J172 at hf
    refine lv_iload_n hx hb dX12_readAct_172 rfl (lv_at hl 1 rfl) ?_
    refine lv_if_ne (tgt := 187) hx hb dX12_readAct_173 (by decide) (fun c2 => ?_) (fun c2 => ?_)
    · have hf := ha_it hf c2
      exact J187  S H locs ls hf  hP hD hS (lv_sub hl [0] rfl)
    · have hf := ha_if hf (fun q => q c2)
      refine lv_aload_n hx hb dX12_readAct_176 rfl (lv_at hl 0 rfl) ?_
      refine lv_iload hx hb dX12_readAct_177 (lv_at hl 2 rfl) ?_
      obtain ⟨z3, wz3, hf⟩ := ha_bds hf
      refine ha_callVi (As := [.int v5]) (rest := []) hZ ⟨hx, hb, hml, hown, hts⟩ hK hz hP hD hS (c_X12_readSum hZ hN h0 wz3) cw0 hN h0 (by decide) rfl rfl hl.1 rfl (Nat.le_of_ble_eq_true rfl) dX12_readAct_179 ⟨Nat.le_of_ble_eq_true rfl, Nat.le_of_ble_eq_true rfl⟩ (fun H locs hP hD hS => ?_)
      refine lv_if_ne (tgt := 187) hx hb dX12_readAct_182 (by decide) (fun c4 => ?_) (fun c4 => ?_)
      · have hf := ha_it hf c4
        exact J187  z3.2 H locs ls hf  hP hD hS (lv_sub hl [0] rfl)
      · have hf := ha_if hf (fun q => q c4)
        refine lv_iconst (v := 0) hx hb dX12_readAct_185 (by decide) ?_
        have he := Option.some.inj hf
        exact ha_retz hx hb hr hlocks hP hD hS dX12_readAct_186 (by decide) (ha_e1 he) (ha_e2 he)
  have J143 : ∀ (v3 : Int32) (v4 : Int32) (v5 : Int32) (k0 : Nat) (k1 : Int32) (k2 : Int32) (S : ha_St) (H : Heap) (locs : List Loc) (ls : Array Slot), (f_X12_readAct_J143 p0 v3 v4 v5 k0 k1 k2 S).bind some = some out → mo_kd k0 = 100 → va_P D vwCl (ha_wl cs ad mo_kd mo_ln N S) H → va_D (ha_A ad N) (ha_wl cs ad mo_kd mo_ln N S) → va_S (ha_A ad N) s.heap H locs → lv_has ls 6 [(0, .ref (ad p0)), (3, .int v3), (4, .int v4), (5, .int v5)] → W p l e (headSpec wsX12_readAct ({ frames := 4, cells := 0, slots := 0, locals := 86 } : Room)).room s m ([.ref (ad p0)] : List Value).toArray below meth c H locs 0 0 (MQ below (va_Qi (fun (r : Int32) (_ : Unit) => r = out.1) (fun _ => ha_H D cs ad mo_kd mo_ln N out.2) (ha_A ad N)) ([.ref (ad p0)] : List Value).toArray s 0 0 (ha_A ad N)) (F0 m 143 ls [.int k2, .int k1, .ref (ad k0)]) := by
    intro v3 v4 v5 k0 k1 k2 S H locs ls hf hk0 hP hD hS hl
    unfold f_X12_readAct_J143 at hf
    obtain ⟨g5, hf⟩ := ha_gds hf
    refine ha_iast hx hb hK hP hD hS hN hk0 g5 dX12_readAct_143 (fun S6 H locs eS6 hP hD hS => ?_)
    have hf := ha_nms hf eS6
    refine lv_aload_n hx hb dX12_readAct_144 rfl (lv_at hl 0 rfl) ?_
    obtain ⟨z7, wz7, hf⟩ := ha_bds hf
    refine ha_callVv (As := []) (rest := []) hZ ⟨hx, hb, hml, hown, hts⟩ hK hz hP hD hS (c_X12_go hZ hN h0 wz7) cw1 hN h0 (by decide) rfl rfl hl.1 rfl (Nat.le_of_ble_eq_true rfl) dX12_readAct_145 ⟨Nat.le_of_ble_eq_true rfl, Nat.le_of_ble_eq_true rfl⟩ (fun H locs hP hD hS => ?_)
    refine lv_iload hx hb dX12_readAct_148 (lv_at hl 2 rfl) ?_
    refine lv_if_eq (tgt := 172) hx hb dX12_readAct_150 (by decide) (fun c8 => ?_) (fun c8 => ?_)
    · have hf := ha_it hf c8
      exact J172 v3 v5 z7 H locs ls hf  hP hD hS (lv_sub hl [0, 1, 3] rfl)
    · have hf := ha_if hf c8
      refine lv_aload_n hx hb dX12_readAct_153 rfl (lv_at hl 0 rfl) ?_
      refine lv_bipush (v := 105) hx hb dX12_readAct_154 (by decide) ?_
      refine lv_bipush (v := 115) hx hb dX12_readAct_156 (by decide) ?_
      refine lv_iconst (v := 0) hx hb dX12_readAct_158 (by decide) ?_
      refine lv_iconst (v := 0) hx hb dX12_readAct_159 (by decide) ?_
      refine lv_iconst (v := 0) hx hb dX12_readAct_160 (by decide) ?_
      obtain ⟨z9, wz9, hf⟩ := ha_bds hf
      refine ha_callSl (As := [.int 105, .int 115, .int 0, .int 0, .int 0]) (rest := [.ref (ad p0)]) hZ ⟨hx, hb, hml, hown, hts⟩ hK hz hP hD hS (c_X12_spelt   wz9) cw2 rfl hl.1 rfl (Nat.le_of_ble_eq_true rfl) dX12_readAct_161 ⟨Nat.le_of_ble_eq_true rfl, Nat.le_of_ble_eq_true rfl⟩ (fun H locs hP hD hS => ?_)
      obtain ⟨z10, wz10, hf⟩ := ha_bds hf
      refine ha_callVi (As := [.long z9]) (rest := []) hZ ⟨hx, hb, hml, hown, hts⟩ hK hz hP hD hS (c_X12_readKey hZ hN h0 wz10) cw3 hN h0 (by decide) rfl rfl hl.1 rfl (Nat.le_of_ble_eq_true rfl) dX12_readAct_164 ⟨Nat.le_of_ble_eq_true rfl, Nat.le_of_ble_eq_true rfl⟩ (fun H locs hP hD hS => ?_)
      refine lv_if_ne (tgt := 172) hx hb dX12_readAct_167 (by decide) (fun c11 => ?_) (fun c11 => ?_)
      · have hf := ha_it hf c11
        exact J172 v3 v5 z10.2 H locs ls hf  hP hD hS (lv_sub hl [0, 1, 3] rfl)
      · have hf := ha_if hf (fun q => q c11)
        refine lv_iconst (v := 0) hx hb dX12_readAct_170 (by decide) ?_
        have he := Option.some.inj hf
        exact ha_retz hx hb hr hlocks hP hD hS dX12_readAct_171 (by decide) (ha_e1 he) (ha_e2 he)
  have J81 : ∀ (v1 : Int32) (v2 : Int32) (v3 : Int32) (v4 : Int32) (S : ha_St) (H : Heap) (locs : List Loc) (ls : Array Slot), (f_X12_readAct_J81 p0 v1 v2 v3 v4 S).bind some = some out → va_P D vwCl (ha_wl cs ad mo_kd mo_ln N S) H → va_D (ha_A ad N) (ha_wl cs ad mo_kd mo_ln N S) → va_S (ha_A ad N) s.heap H locs → lv_has ls 6 [(0, .ref (ad p0)), (1, .int v1), (2, .int v2), (3, .int v3), (4, .int v4)] → W p l e (headSpec wsX12_readAct ({ frames := 4, cells := 0, slots := 0, locals := 86 } : Room)).room s m ([.ref (ad p0)] : List Value).toArray below meth c H locs 0 0 (MQ below (va_Qi (fun (r : Int32) (_ : Unit) => r = out.1) (fun _ => ha_H D cs ad mo_kd mo_ln N out.2) (ha_A ad N)) ([.ref (ad p0)] : List Value).toArray s 0 0 (ha_A ad N)) (F0 m 81 ls []) := by
    intro v1 v2 v3 v4 S H locs ls hf  hP hD hS hl
    unfold f_X12_readAct_J81 at hf
    refine lv_aload_n hx hb dX12_readAct_81 rfl (lv_at hl 0 rfl) ?_
    refine ha_geti hx hb hown hK hP q242 hN h0 dX12_readAct_82 ?_
    refine lv_bipush (v := 40) hx hb dX12_readAct_85 (by decide) ?_
    refine lv_icmp_ne (tgt := 96) hx hb dX12_readAct_87 (by decide) (fun c12 => ?_) (fun c12 => ?_)
    · have hf := ha_it hf c12
      refine lv_bipush (v := 120) hx hb dX12_readAct_96 (by decide) ?_
      refine lv_aload_n hx hb dX12_readAct_98 rfl (lv_at hl 0 rfl) ?_
      refine ha_geti hx hb hown hK hP q242 hN h0 dX12_readAct_99 ?_
      refine lv_iadd hx hb dX12_readAct_102 ?_
      refine lv_topi (fun x13 ex13 => ?_)
      have hf := ha_nms hf ex13
      refine lv_istore (lv' := [(5, .int x13), (0, .ref (ad p0)), (1, .int v1), (2, .int v2), (3, .int v3), (4, .int v4)]) hx hb dX12_readAct_103 hl (by decide) rfl (fun ls hl => ?_)
      refine lv_aload_n hx hb dX12_readAct_105 rfl (lv_at hl 1 rfl) ?_
      obtain ⟨r14, wr14, hf⟩ := ha_bds hf
      obtain ⟨wr14, hr14⟩ := ha_rf_some wr14
      refine ha_getr hx hb hown hK hP q35 hN h0 wr14 dX12_readAct_106 ?_
      refine lv_iload hx hb dX12_readAct_109 (lv_at hl 0 rfl) ?_
      refine lv_iload_n hx hb dX12_readAct_111 rfl (lv_at hl 2 rfl) ?_
      refine lv_if_eq (tgt := 119) hx hb dX12_readAct_112 (by decide) (fun c15 => ?_) (fun c15 => ?_)
      · have hf := ha_it hf c15
        refine lv_iload_n hx hb dX12_readAct_119 rfl (lv_at hl 3 rfl) ?_
        refine lv_if_eq (tgt := 127) hx hb dX12_readAct_120 (by decide) (fun c16 => ?_) (fun c16 => ?_)
        · have hf := ha_it hf c16
          refine lv_iload_n hx hb dX12_readAct_127 rfl (lv_at hl 4 rfl) ?_
          refine lv_if_eq (tgt := 136) hx hb dX12_readAct_128 (by decide) (fun c17 => ?_) (fun c17 => ?_)
          · have hf := ha_it hf c17
            refine lv_aload_n hx hb dX12_readAct_136 rfl (lv_at hl 1 rfl) ?_
            refine ha_getj hx hb hown hK hP q186 hN h0 dX12_readAct_137 ?_
            refine lv_l2i (v := (((ha_gJ S p0 13) : Int64).toInt32)) hx hb dX12_readAct_140 rfl ?_
            refine lv_iconst (v := 1) hx hb dX12_readAct_141 (by decide) ?_
            refine lv_isub hx hb dX12_readAct_142 ?_
            exact J143 v3 v4 x13 r14 x13 ((((((ha_gJ S p0 13) : Int64).toInt32) : Int32) - 1)) S H locs ls hf hr14 hP hD hS (lv_sub hl [1, 4, 5, 0] rfl)
          · have hf := ha_if hf c17
            refine lv_bipush (v := 6) hx hb dX12_readAct_131 (by decide) ?_
            refine lv_goto (tgt := 143) hx hb dX12_readAct_133 (by decide) ?_
            exact J143 v3 v4 x13 r14 x13 6 S H locs ls hf hr14 hP hD hS (lv_sub hl [1, 4, 5, 0] rfl)
        · have hf := ha_if hf c16
          refine lv_iconst (v := 5) hx hb dX12_readAct_123 (by decide) ?_
          refine lv_goto (tgt := 143) hx hb dX12_readAct_124 (by decide) ?_
          exact J143 v3 v4 x13 r14 x13 5 S H locs ls hf hr14 hP hD hS (lv_sub hl [1, 4, 5, 0] rfl)
      · have hf := ha_if hf c15
        refine lv_iconst (v := 4) hx hb dX12_readAct_115 (by decide) ?_
        refine lv_goto (tgt := 143) hx hb dX12_readAct_116 (by decide) ?_
        exact J143 v3 v4 x13 r14 x13 4 S H locs ls hf hr14 hP hD hS (lv_sub hl [1, 4, 5, 0] rfl)
    · have hf := ha_if hf (fun q => q c12)
      refine lv_aload_n hx hb dX12_readAct_90 rfl (lv_at hl 0 rfl) ?_
      refine lv_iconst (v := 2) hx hb dX12_readAct_91 (by decide) ?_
      obtain ⟨z18, wz18, hf⟩ := ha_bds hf
      refine ha_callVi (As := [.int 2]) (rest := []) hZ ⟨hx, hb, hml, hown, hts⟩ hK hz hP hD hS (c_X12_bad hZ hN h0 wz18) cw4 hN h0 (by decide) rfl rfl hl.1 rfl (Nat.le_of_ble_eq_true rfl) dX12_readAct_92 ⟨Nat.le_of_ble_eq_true rfl, Nat.le_of_ble_eq_true rfl⟩ (fun H locs hP hD hS => ?_)
      obtain ⟨g19, hf⟩ := ha_gds hf
      have he := Option.some.inj hf
      exact ha_retz hx hb hr hlocks hP hD hS dX12_readAct_95 g19 (ha_e1 he) (ha_e2 he)
  unfold f_X12_readAct at hf
  refine lv_aload_n hx hb dX12_readAct_0 rfl (lv_at hl 0 rfl) ?_
  refine lv_bipush (v := 115) hx hb dX12_readAct_1 (by decide) ?_
  refine lv_bipush (v := 104) hx hb dX12_readAct_3 (by decide) ?_
  refine lv_bipush (v := 111) hx hb dX12_readAct_5 (by decide) ?_
  refine lv_bipush (v := 119) hx hb dX12_readAct_7 (by decide) ?_
  refine lv_iconst (v := 0) hx hb dX12_readAct_9 (by decide) ?_
  obtain ⟨z20, wz20, hf⟩ := ha_bds hf
  refine ha_callSl (As := [.int 115, .int 104, .int 111, .int 119, .int 0]) (rest := [.ref (ad p0)]) hZ ⟨hx, hb, hml, hown, hts⟩ hK hz hP hD hS (c_X12_spelt   wz20) cw2 rfl hl.1 rfl (Nat.le_of_ble_eq_true rfl) dX12_readAct_10 ⟨Nat.le_of_ble_eq_true rfl, Nat.le_of_ble_eq_true rfl⟩ (fun H locs hP hD hS => ?_)
  obtain ⟨z21, wz21, hf⟩ := ha_bds hf
  refine ha_callVi (As := [.long z20]) (rest := []) hZ ⟨hx, hb, hml, hown, hts⟩ hK hz hP hD hS (c_X12_isKey hZ hN h0 wz21) cw5 hN h0 (by decide) rfl rfl hl.1 rfl (Nat.le_of_ble_eq_true rfl) dX12_readAct_13 ⟨Nat.le_of_ble_eq_true rfl, Nat.le_of_ble_eq_true rfl⟩ (fun H locs hP hD hS => ?_)
  refine lv_istore_n (lv' := [(1, .int z21.1), (0, .ref (ad p0))]) hx hb dX12_readAct_16 rfl hl (by decide) rfl (fun ls hl => ?_)
  refine lv_aload_n hx hb dX12_readAct_17 rfl (lv_at hl 1 rfl) ?_
  refine lv_bipush (v := 119) hx hb dX12_readAct_18 (by decide) ?_
  refine lv_bipush (v := 114) hx hb dX12_readAct_20 (by decide) ?_
  refine lv_bipush (v := 105) hx hb dX12_readAct_22 (by decide) ?_
  refine lv_bipush (v := 116) hx hb dX12_readAct_24 (by decide) ?_
  refine lv_bipush (v := 101) hx hb dX12_readAct_26 (by decide) ?_
  obtain ⟨z22, wz22, hf⟩ := ha_bds hf
  refine ha_callSl (As := [.int 119, .int 114, .int 105, .int 116, .int 101]) (rest := [.ref (ad p0)]) hZ ⟨hx, hb, hml, hown, hts⟩ hK hz hP hD hS (c_X12_spelt   wz22) cw2 rfl hl.1 rfl (Nat.le_of_ble_eq_true rfl) dX12_readAct_28 ⟨Nat.le_of_ble_eq_true rfl, Nat.le_of_ble_eq_true rfl⟩ (fun H locs hP hD hS => ?_)
  obtain ⟨z23, wz23, hf⟩ := ha_bds hf
  refine ha_callVi (As := [.long z22]) (rest := []) hZ ⟨hx, hb, hml, hown, hts⟩ hK hz hP hD hS (c_X12_isKey hZ hN h0 wz23) cw5 hN h0 (by decide) rfl rfl hl.1 rfl (Nat.le_of_ble_eq_true rfl) dX12_readAct_31 ⟨Nat.le_of_ble_eq_true rfl, Nat.le_of_ble_eq_true rfl⟩ (fun H locs hP hD hS => ?_)
  refine lv_istore_n (lv' := [(2, .int z23.1), (1, .int z21.1), (0, .ref (ad p0))]) hx hb dX12_readAct_34 rfl hl (by decide) rfl (fun ls hl => ?_)
  refine lv_aload_n hx hb dX12_readAct_35 rfl (lv_at hl 2 rfl) ?_
  refine lv_bipush (v := 115) hx hb dX12_readAct_36 (by decide) ?_
  refine lv_bipush (v := 101) hx hb dX12_readAct_38 (by decide) ?_
  refine lv_bipush (v := 110) hx hb dX12_readAct_40 (by decide) ?_
  refine lv_bipush (v := 116) hx hb dX12_readAct_42 (by decide) ?_
  refine lv_iconst (v := 0) hx hb dX12_readAct_44 (by decide) ?_
  obtain ⟨z24, wz24, hf⟩ := ha_bds hf
  refine ha_callSl (As := [.int 115, .int 101, .int 110, .int 116, .int 0]) (rest := [.ref (ad p0)]) hZ ⟨hx, hb, hml, hown, hts⟩ hK hz hP hD hS (c_X12_spelt   wz24) cw2 rfl hl.1 rfl (Nat.le_of_ble_eq_true rfl) dX12_readAct_45 ⟨Nat.le_of_ble_eq_true rfl, Nat.le_of_ble_eq_true rfl⟩ (fun H locs hP hD hS => ?_)
  obtain ⟨z25, wz25, hf⟩ := ha_bds hf
  refine ha_callVi (As := [.long z24]) (rest := []) hZ ⟨hx, hb, hml, hown, hts⟩ hK hz hP hD hS (c_X12_isKey hZ hN h0 wz25) cw5 hN h0 (by decide) rfl rfl hl.1 rfl (Nat.le_of_ble_eq_true rfl) dX12_readAct_48 ⟨Nat.le_of_ble_eq_true rfl, Nat.le_of_ble_eq_true rfl⟩ (fun H locs hP hD hS => ?_)
  refine lv_istore_n (lv' := [(3, .int z25.1), (2, .int z23.1), (1, .int z21.1), (0, .ref (ad p0))]) hx hb dX12_readAct_51 rfl hl (by decide) rfl (fun ls hl => ?_)
  refine lv_aload_n hx hb dX12_readAct_52 rfl (lv_at hl 3 rfl) ?_
  obtain ⟨z26, wz26, hf⟩ := ha_bds hf
  refine ha_callVi (As := []) (rest := []) hZ ⟨hx, hb, hml, hown, hts⟩ hK hz hP hD hS (c_X12_isCell hZ hN h0 wz26) cw6 hN h0 (by decide) rfl rfl hl.1 rfl (Nat.le_of_ble_eq_true rfl) dX12_readAct_53 ⟨Nat.le_of_ble_eq_true rfl, Nat.le_of_ble_eq_true rfl⟩ (fun H locs hP hD hS => ?_)
  refine lv_istore (lv' := [(4, .int z26.1), (3, .int z25.1), (2, .int z23.1), (1, .int z21.1), (0, .ref (ad p0))]) hx hb dX12_readAct_56 hl (by decide) rfl (fun ls hl => ?_)
  refine lv_iload_n hx hb dX12_readAct_58 rfl (lv_at hl 3 rfl) ?_
  refine lv_if_ne (tgt := 81) hx hb dX12_readAct_59 (by decide) (fun c27 => ?_) (fun c27 => ?_)
  · have hf := ha_it hf c27
    exact J81 z21.1 z23.1 z25.1 z26.1 z26.2 H locs ls hf  hP hD hS (lv_sub hl [4, 3, 2, 1, 0] rfl)
  · have hf := ha_if hf (fun q => q c27)
    refine lv_iload_n hx hb dX12_readAct_62 rfl (lv_at hl 2 rfl) ?_
    refine lv_if_ne (tgt := 81) hx hb dX12_readAct_63 (by decide) (fun c28 => ?_) (fun c28 => ?_)
    · have hf := ha_it hf c28
      exact J81 z21.1 z23.1 z25.1 z26.1 z26.2 H locs ls hf  hP hD hS (lv_sub hl [4, 3, 2, 1, 0] rfl)
    · have hf := ha_if hf (fun q => q c28)
      refine lv_iload_n hx hb dX12_readAct_66 rfl (lv_at hl 1 rfl) ?_
      refine lv_if_ne (tgt := 81) hx hb dX12_readAct_67 (by decide) (fun c29 => ?_) (fun c29 => ?_)
      · have hf := ha_it hf c29
        exact J81 z21.1 z23.1 z25.1 z26.1 z26.2 H locs ls hf  hP hD hS (lv_sub hl [4, 3, 2, 1, 0] rfl)
      · have hf := ha_if hf (fun q => q c29)
        refine lv_iload hx hb dX12_readAct_70 (lv_at hl 0 rfl) ?_
        refine lv_if_ne (tgt := 81) hx hb dX12_readAct_72 (by decide) (fun c30 => ?_) (fun c30 => ?_)
        · have hf := ha_it hf c30
          exact J81 z21.1 z23.1 z25.1 z26.1 z26.2 H locs ls hf  hP hD hS (lv_sub hl [4, 3, 2, 1, 0] rfl)
        · have hf := ha_if hf (fun q => q c30)
          refine lv_aload_n hx hb dX12_readAct_75 rfl (lv_at hl 4 rfl) ?_
          refine lv_iconst (v := 1) hx hb dX12_readAct_76 (by decide) ?_
          obtain ⟨z31, wz31, hf⟩ := ha_bds hf
          refine ha_callVi (As := [.int 1]) (rest := []) hZ ⟨hx, hb, hml, hown, hts⟩ hK hz hP hD hS (c_X12_bad hZ hN h0 wz31) cw4 hN h0 (by decide) rfl rfl hl.1 rfl (Nat.le_of_ble_eq_true rfl) dX12_readAct_77 ⟨Nat.le_of_ble_eq_true rfl, Nat.le_of_ble_eq_true rfl⟩ (fun H locs hP hD hS => ?_)
          obtain ⟨g32, hf⟩ := ha_gds hf
          have he := Option.some.inj hf
          exact ha_retz hx hb hr hlocks hP hD hS dX12_readAct_80 g32 (ha_e1 he) (ha_e2 he)

set_option maxHeartbeats 4000000 in
set_option maxRecDepth 100000 in
theorem c_X12_readRule {l : Launch} {D : va_G} {cs : Nat → ClassId} {ad : Nat → Nat} {N : List Nat} {Z : State → Prop} (hZ : ha_Zok (ha_A ad N) Z) (hN : ∀ x, mo_kd x < 999 → x ∈ N) {p0 : Nat} {S : ha_St} {out : Int32 × ha_St} (h0 : mo_kd p0 = 12) (hf : f_X12_readRule p0 S = some out) : ha_Ci l D cs ad mo_kd mo_ln N Z yX12_readRule wsX12_readRule ({ frames := 5, cells := 0, slots := 0, locals := 111 } : Room) [.ref (ad p0)] S out.1 out.2 := by
  refine Met.ofW (cc := cX12_readRule) (maxL := 2) (ret := (some .boolean)) (by decide +kernel) rfl ?_
  intro p e s m args below meth c s₁ B hml hv
  obtain ⟨rfl, hP, hD, hK, hz⟩ := hv
  have hx := B.exec
  have hb := B.bytes
  have hr := B.returns
  have hts := atoms_spec (ws := wsX12_readRule) B.pre
  have hown : s.vm.findClass RX12 = some m.cls := findClass_of_methodNamed B.named
  have hlocks := B.notSynchronized
  have hS : va_S (ha_A ad N) s.heap s.heap [] := va_S.rf
  have hi12 : ∀ w ∈ wsX120, w ∈ wsX12_readRule := fun w h => List.mem_cons_of_mem _ (List.mem_append_right _ h)
  have q20 : ha_Fk s ([.ref (ad p0)] : List Value).toArray RX12 20 12 15 1 := ⟨RX12, TX12, 83, wsX12_readRule, rfl, by decide, by decide, rfl, rfl, hts, hi12, hts (.fieldLink RX12 20 "HillArmsModel" "oneTo" "[I") (by decide +kernel)⟩
  have q233 : ha_Fk s ([.ref (ad p0)] : List Value).toArray RX12 233 12 23 0 := ⟨RX12, TX12, 83, wsX12_readRule, rfl, by decide, by decide, rfl, rfl, hts, hi12, hts (.fieldLink RX12 233 "HillArmsModel" "ones" "I") (by decide +kernel)⟩
  have q23 : ha_Fk s ([.ref (ad p0)] : List Value).toArray RX12 23 12 16 1 := ⟨RX12, TX12, 83, wsX12_readRule, rfl, by decide, by decide, rfl, rfl, hts, hi12, hts (.fieldLink RX12 23 "HillArmsModel" "actTo" "[I") (by decide +kernel)⟩
  have q242 : ha_Fk s ([.ref (ad p0)] : List Value).toArray RX12 242 12 24 0 := ⟨RX12, TX12, 83, wsX12_readRule, rfl, by decide, by decide, rfl, rfl, hts, hi12, hts (.fieldLink RX12 242 "HillArmsModel" "acts" "I") (by decide +kernel)⟩
  have q17 : ha_Fk s ([.ref (ad p0)] : List Value).toArray RX12 17 12 14 1 := ⟨RX12, TX12, 83, wsX12_readRule, rfl, by decide, by decide, rfl, rfl, hts, hi12, hts (.fieldLink RX12 17 "HillArmsModel" "ruleMany" "[I") (by decide +kernel)⟩
  have cw0 := cwV (R := (headSpec wsX12_readRule ({ frames := 5, cells := 0, slots := 0, locals := 111 } : Room)).room) 1 hts gX12_readRule_X12_isSign (rm := ({ frames := 0, cells := 0, slots := 0, locals := 0 } : Room)) (mc := 0) (ms := 0) rfl rfl rfl (by decide +kernel) ⟨Nat.le_of_ble_eq_true rfl, Nat.le_of_ble_eq_true rfl⟩
  have cw1 := cwV (R := (headSpec wsX12_readRule ({ frames := 5, cells := 0, slots := 0, locals := 111 } : Room)).room) 0 hts gX12_readRule_X12_go (rm := ({ frames := 1, cells := 0, slots := 0, locals := 21 } : Room)) (mc := 0) (ms := 0) rfl rfl rfl (by decide +kernel) ⟨Nat.le_of_ble_eq_true rfl, Nat.le_of_ble_eq_true rfl⟩
  have cw2 := cwV (R := (headSpec wsX12_readRule ({ frames := 5, cells := 0, slots := 0, locals := 111 } : Room)).room) 1 hts gX12_readRule_X12_bad (rm := ({ frames := 0, cells := 0, slots := 0, locals := 0 } : Room)) (mc := 0) (ms := 0) rfl rfl rfl (by decide +kernel) ⟨Nat.le_of_ble_eq_true rfl, Nat.le_of_ble_eq_true rfl⟩
  have cw3 := va_cwS (R := (headSpec wsX12_readRule ({ frames := 5, cells := 0, slots := 0, locals := 111 } : Room)).room) 5 hts gX12_readRule_X12_spelt (rm := ({ frames := 0, cells := 0, slots := 0, locals := 0 } : Room)) (mc := 0) (ms := 0) rfl rfl rfl (by decide +kernel) ⟨Nat.le_of_ble_eq_true rfl, Nat.le_of_ble_eq_true rfl⟩
  have cw4 := cwV (R := (headSpec wsX12_readRule ({ frames := 5, cells := 0, slots := 0, locals := 111 } : Room)).room) 1 hts gX12_readRule_X12_isKey (rm := ({ frames := 0, cells := 0, slots := 0, locals := 0 } : Room)) (mc := 0) (ms := 0) rfl rfl rfl (by decide +kernel) ⟨Nat.le_of_ble_eq_true rfl, Nat.le_of_ble_eq_true rfl⟩
  have cw5 := cwV (R := (headSpec wsX12_readRule ({ frames := 5, cells := 0, slots := 0, locals := 111 } : Room)).room) 0 hts gX12_readRule_X12_readAct (rm := ({ frames := 4, cells := 0, slots := 0, locals := 86 } : Room)) (mc := 0) (ms := 0) rfl rfl rfl (by decide +kernel) ⟨Nat.le_of_ble_eq_true rfl, Nat.le_of_ble_eq_true rfl⟩
  have cw6 := cwV (R := (headSpec wsX12_readRule ({ frames := 5, cells := 0, slots := 0, locals := 111 } : Room)).room) 0 hts gX12_readRule_X12_readOne (rm := ({ frames := 3, cells := 0, slots := 0, locals := 65 } : Room)) (mc := 0) (ms := 0) rfl rfl rfl (by decide +kernel) ⟨Nat.le_of_ble_eq_true rfl, Nat.le_of_ble_eq_true rfl⟩
  have hl := lv_entry ([.ref (ad p0)]) (n := 2) (Nat.le_of_ble_eq_true rfl)
  rw [lg_entry_eq]
  generalize (lg_sl ([.ref (ad p0)]) ++ List.replicate (2 - (lg_sl ([.ref (ad p0)])).length) Slot.unset).toArray = ls at hl ⊢
  have hl : lv_has ls 2 [(0, .ref (ad p0))] := hl
  refine (fun (K0 : ∀ (H : Heap) (locs : List Loc), va_P D vwCl (ha_wl cs ad mo_kd mo_ln N S) H → va_S (ha_A ad N) s.heap H locs → W p l e (headSpec wsX12_readRule ({ frames := 5, cells := 0, slots := 0, locals := 111 } : Room)).room s m ([.ref (ad p0)] : List Value).toArray below meth c H locs 0 0 (MQ below (va_Qi (fun (r : Int32) (_ : Unit) => r = out.1) (fun _ => ha_H D cs ad mo_kd mo_ln N out.2) (ha_A ad N)) ([.ref (ad p0)] : List Value).toArray s 0 0 (ha_A ad N)) (F0 m 0 ls [])) => K0 _ _ hP hS) ?_
  intro H locs hP hS
  have hf := ha_rt hf
  have J120 : ∀ (v1 : Int32) (S : ha_St) (H : Heap) (locs : List Loc) (ls : Array Slot), (f_X12_readRule_J120 p0 v1 S).bind some = some out → va_P D vwCl (ha_wl cs ad mo_kd mo_ln N S) H → va_D (ha_A ad N) (ha_wl cs ad mo_kd mo_ln N S) → va_S (ha_A ad N) s.heap H locs → lv_has ls 2 [(0, .ref (ad p0)), (1, .int v1)] → W p l e (headSpec wsX12_readRule ({ frames := 5, cells := 0, slots := 0, locals := 111 } : Room)).room s m ([.ref (ad p0)] : List Value).toArray below meth c H locs 0 0 (MQ below (va_Qi (fun (r : Int32) (_ : Unit) => r = out.1) (fun _ => ha_H D cs ad mo_kd mo_ln N out.2) (ha_A ad N)) ([.ref (ad p0)] : List Value).toArray s 0 0 (ha_A ad N)) (F0 m 120 ls []) := by
    intro v1 S H locs ls hf  hP hD hS hl
    unfold f_X12_readRule_J120 at hf
    refine lv_aload_n hx hb dX12_readRule_120 rfl (lv_at hl 0 rfl) ?_
    refine lv_bipush (v := 59) hx hb dX12_readRule_121 (by decide) ?_
    obtain ⟨z1, wz1, hf⟩ := ha_bds hf
    refine ha_callVi (As := [.int 59]) (rest := []) hZ ⟨hx, hb, hml, hown, hts⟩ hK hz hP hD hS (c_X12_isSign hZ hN h0 wz1) cw0 hN h0 (by decide) rfl rfl hl.1 rfl (Nat.le_of_ble_eq_true rfl) dX12_readRule_123 ⟨Nat.le_of_ble_eq_true rfl, Nat.le_of_ble_eq_true rfl⟩ (fun H locs hP hD hS => ?_)
    refine lv_if_ne (tgt := 135) hx hb dX12_readRule_126 (by decide) (fun c2 => ?_) (fun c2 => ?_)
    · have hf := ha_it hf c2
      refine lv_aload_n hx hb dX12_readRule_135 rfl (lv_at hl 0 rfl) ?_
      obtain ⟨z3, wz3, hf⟩ := ha_bds hf
      refine ha_callVv (As := []) (rest := []) hZ ⟨hx, hb, hml, hown, hts⟩ hK hz hP hD hS (c_X12_go hZ hN h0 wz3) cw1 hN h0 (by decide) rfl rfl hl.1 rfl (Nat.le_of_ble_eq_true rfl) dX12_readRule_136 ⟨Nat.le_of_ble_eq_true rfl, Nat.le_of_ble_eq_true rfl⟩ (fun H locs hP hD hS => ?_)
      refine lv_aload_n hx hb dX12_readRule_139 rfl (lv_at hl 0 rfl) ?_
      obtain ⟨r4, wr4, hf⟩ := ha_bds hf
      obtain ⟨wr4, hr4⟩ := ha_rf_some wr4
      refine ha_getr hx hb hown hK hP q20 hN h0 wr4 dX12_readRule_140 ?_
      refine lv_bipush (v := 60) hx hb dX12_readRule_143 (by decide) ?_
      refine lv_iload_n hx hb dX12_readRule_145 rfl (lv_at hl 1 rfl) ?_
      refine lv_iadd hx hb dX12_readRule_146 ?_
      refine lv_aload_n hx hb dX12_readRule_147 rfl (lv_at hl 0 rfl) ?_
      refine ha_geti hx hb hown hK hP q233 hN h0 dX12_readRule_148 ?_
      obtain ⟨g5, hf⟩ := ha_gds hf
      refine ha_iast hx hb hK hP hD hS hN hr4 g5 dX12_readRule_151 (fun S6 H locs eS6 hP hD hS => ?_)
      have hf := ha_nms hf eS6
      refine lv_aload_n hx hb dX12_readRule_152 rfl (lv_at hl 0 rfl) ?_
      obtain ⟨r7, wr7, hf⟩ := ha_bds hf
      obtain ⟨wr7, hr7⟩ := ha_rf_some wr7
      refine ha_getr hx hb hown hK hP q23 hN h0 wr7 dX12_readRule_153 ?_
      refine lv_bipush (v := 60) hx hb dX12_readRule_156 (by decide) ?_
      refine lv_iload_n hx hb dX12_readRule_158 rfl (lv_at hl 1 rfl) ?_
      refine lv_iadd hx hb dX12_readRule_159 ?_
      refine lv_aload_n hx hb dX12_readRule_160 rfl (lv_at hl 0 rfl) ?_
      refine ha_geti hx hb hown hK hP q242 hN h0 dX12_readRule_161 ?_
      obtain ⟨g8, hf⟩ := ha_gds hf
      refine ha_iast hx hb hK hP hD hS hN hr7 g8 dX12_readRule_164 (fun S9 H locs eS9 hP hD hS => ?_)
      have hf := ha_nms hf eS9
      refine lv_aload_n hx hb dX12_readRule_165 rfl (lv_at hl 0 rfl) ?_
      obtain ⟨r10, wr10, hf⟩ := ha_bds hf
      obtain ⟨wr10, hr10⟩ := ha_rf_some wr10
      refine ha_getr hx hb hown hK hP q17 hN h0 wr10 dX12_readRule_166 ?_
      refine lv_iconst (v := 3) hx hb dX12_readRule_169 (by decide) ?_
      refine lv_dup2_11 hx hb dX12_readRule_170 rfl rfl ?_
      obtain ⟨g11, hf⟩ := ha_gds hf
      refine ha_iald hx hb hK hP hN hr10 g11 dX12_readRule_171 ?_
      refine lv_iconst (v := 1) hx hb dX12_readRule_172 (by decide) ?_
      refine lv_iadd hx hb dX12_readRule_173 ?_
      obtain ⟨g12, hf⟩ := ha_gds hf
      refine ha_iast hx hb hK hP hD hS hN hr10 g12 dX12_readRule_174 (fun S13 H locs eS13 hP hD hS => ?_)
      have hf := ha_nms hf eS13
      refine lv_iconst (v := 1) hx hb dX12_readRule_175 (by decide) ?_
      have he := Option.some.inj hf
      exact ha_retz hx hb hr hlocks hP hD hS dX12_readRule_176 (by decide) (ha_e1 he) (ha_e2 he)
    · have hf := ha_if hf (fun q => q c2)
      refine lv_aload_n hx hb dX12_readRule_129 rfl (lv_at hl 0 rfl) ?_
      refine lv_iconst (v := 1) hx hb dX12_readRule_130 (by decide) ?_
      obtain ⟨z14, wz14, hf⟩ := ha_bds hf
      refine ha_callVi (As := [.int 1]) (rest := []) hZ ⟨hx, hb, hml, hown, hts⟩ hK hz hP hD hS (c_X12_bad hZ hN h0 wz14) cw2 hN h0 (by decide) rfl rfl hl.1 rfl (Nat.le_of_ble_eq_true rfl) dX12_readRule_131 ⟨Nat.le_of_ble_eq_true rfl, Nat.le_of_ble_eq_true rfl⟩ (fun H locs hP hD hS => ?_)
      obtain ⟨g15, hf⟩ := ha_gds hf
      have he := Option.some.inj hf
      exact ha_retz hx hb hr hlocks hP hD hS dX12_readRule_134 g15 (ha_e1 he) (ha_e2 he)
  have J75 : ∀ (v1 : Int32) (S : ha_St) (H : Heap) (locs : List Loc) (ls : Array Slot), (f_X12_readRule_J75 p0 v1 S).bind some = some out → va_P D vwCl (ha_wl cs ad mo_kd mo_ln N S) H → va_D (ha_A ad N) (ha_wl cs ad mo_kd mo_ln N S) → va_S (ha_A ad N) s.heap H locs → lv_has ls 2 [(0, .ref (ad p0)), (1, .int v1)] → W p l e (headSpec wsX12_readRule ({ frames := 5, cells := 0, slots := 0, locals := 111 } : Room)).room s m ([.ref (ad p0)] : List Value).toArray below meth c H locs 0 0 (MQ below (va_Qi (fun (r : Int32) (_ : Unit) => r = out.1) (fun _ => ha_H D cs ad mo_kd mo_ln N out.2) (ha_A ad N)) ([.ref (ad p0)] : List Value).toArray s 0 0 (ha_A ad N)) (F0 m 75 ls []) := by
    intro v1 S H locs ls hf  hP hD hS hl
    unfold f_X12_readRule_J75 at hf
    refine lv_aload_n hx hb dX12_readRule_75 rfl (lv_at hl 0 rfl) ?_
    refine lv_bipush (v := 100) hx hb dX12_readRule_76 (by decide) ?_
    refine lv_bipush (v := 111) hx hb dX12_readRule_78 (by decide) ?_
    refine lv_iconst (v := 0) hx hb dX12_readRule_80 (by decide) ?_
    refine lv_iconst (v := 0) hx hb dX12_readRule_81 (by decide) ?_
    refine lv_iconst (v := 0) hx hb dX12_readRule_82 (by decide) ?_
    obtain ⟨z16, wz16, hf⟩ := ha_bds hf
    refine ha_callSl (As := [.int 100, .int 111, .int 0, .int 0, .int 0]) (rest := [.ref (ad p0)]) hZ ⟨hx, hb, hml, hown, hts⟩ hK hz hP hD hS (c_X12_spelt   wz16) cw3 rfl hl.1 rfl (Nat.le_of_ble_eq_true rfl) dX12_readRule_83 ⟨Nat.le_of_ble_eq_true rfl, Nat.le_of_ble_eq_true rfl⟩ (fun H locs hP hD hS => ?_)
    obtain ⟨z17, wz17, hf⟩ := ha_bds hf
    refine ha_callVi (As := [.long z16]) (rest := []) hZ ⟨hx, hb, hml, hown, hts⟩ hK hz hP hD hS (c_X12_isKey hZ hN h0 wz17) cw4 hN h0 (by decide) rfl rfl hl.1 rfl (Nat.le_of_ble_eq_true rfl) dX12_readRule_86 ⟨Nat.le_of_ble_eq_true rfl, Nat.le_of_ble_eq_true rfl⟩ (fun H locs hP hD hS => ?_)
    refine lv_if_ne (tgt := 98) hx hb dX12_readRule_89 (by decide) (fun c18 => ?_) (fun c18 => ?_)
    · have hf := ha_it hf c18
      have key24 : ∀ (K : ((Int32 × ha_St) ⊕ (Int32 × ha_St)) → Option (Int32 × ha_St)), (∀ (v1 : Int32) (S : ha_St) (H : Heap) (locs : List Loc) (ls : Array Slot), K (.inl (v1, S)) = some out → va_P D vwCl (ha_wl cs ad mo_kd mo_ln N S) H → va_D (ha_A ad N) (ha_wl cs ad mo_kd mo_ln N S) → va_S (ha_A ad N) s.heap H locs → lv_has ls 2 [(0, .ref (ad p0)), (1, .int v1)] → W p l e (headSpec wsX12_readRule ({ frames := 5, cells := 0, slots := 0, locals := 111 } : Room)).room s m ([.ref (ad p0)] : List Value).toArray below meth c H locs 0 0 (MQ below (va_Qi (fun (r : Int32) (_ : Unit) => r = out.1) (fun _ => ha_H D cs ad mo_kd mo_ln N out.2) (ha_A ad N)) ([.ref (ad p0)] : List Value).toArray s 0 0 (ha_A ad N)) (F0 m 120 ls [])) → (∀ r, K (.inr r) = some out → r = out) → ∀ (n : Nat) (v1 : Int32) (S : ha_St) (H : Heap) (locs : List Loc) (ls : Array Slot), (f_X12_readRule_L98i p0 n (v1, S)).bind K = some out → va_P D vwCl (ha_wl cs ad mo_kd mo_ln N S) H → va_D (ha_A ad N) (ha_wl cs ad mo_kd mo_ln N S) → va_S (ha_A ad N) s.heap H locs → lv_has ls 2 [(0, .ref (ad p0)), (1, .int v1)] → W p l e (headSpec wsX12_readRule ({ frames := 5, cells := 0, slots := 0, locals := 111 } : Room)).room s m ([.ref (ad p0)] : List Value).toArray below meth c H locs 0 0 (MQ below (va_Qi (fun (r : Int32) (_ : Unit) => r = out.1) (fun _ => ha_H D cs ad mo_kd mo_ln N out.2) (ha_A ad N)) ([.ref (ad p0)] : List Value).toArray s 0 0 (ha_A ad N)) (F0 m 98 ls []) := by
        intro K hk hke n
        induction n with
        | zero =>
          intro v1 S H locs ls hf
          exact absurd (show (none : Option (Int32 × ha_St)) = some out from hf) (fun h => by cases h)
        | succ n ih =>
          intro v1 S H locs ls hf  hP hD hS hl
          have hf : (f_X12_readRule_L98 p0 (f_X12_readRule_L98i p0 n) v1 S).bind K = some out := hf
          unfold f_X12_readRule_L98 at hf
          refine lv_aload_n hx hb dX12_readRule_98 rfl (lv_at hl 0 rfl) ?_
          obtain ⟨z19, wz19, hf⟩ := ha_bds hf
          refine ha_callVv (As := []) (rest := []) hZ ⟨hx, hb, hml, hown, hts⟩ hK hz hP hD hS (c_X12_go hZ hN h0 wz19) cw1 hN h0 (by decide) rfl rfl hl.1 rfl (Nat.le_of_ble_eq_true rfl) dX12_readRule_99 ⟨Nat.le_of_ble_eq_true rfl, Nat.le_of_ble_eq_true rfl⟩ (fun H locs hP hD hS => ?_)
          refine lv_aload_n hx hb dX12_readRule_102 rfl (lv_at hl 0 rfl) ?_
          obtain ⟨z20, wz20, hf⟩ := ha_bds hf
          refine ha_callVi (As := []) (rest := []) hZ ⟨hx, hb, hml, hown, hts⟩ hK hz hP hD hS (c_X12_readAct hZ hN h0 wz20) cw5 hN h0 (by decide) rfl rfl hl.1 rfl (Nat.le_of_ble_eq_true rfl) dX12_readRule_103 ⟨Nat.le_of_ble_eq_true rfl, Nat.le_of_ble_eq_true rfl⟩ (fun H locs hP hD hS => ?_)
          refine lv_if_ne (tgt := 111) hx hb dX12_readRule_106 (by decide) (fun c21 => ?_) (fun c21 => ?_)
          · have hf := ha_it hf c21
            refine lv_aload_n hx hb dX12_readRule_111 rfl (lv_at hl 0 rfl) ?_
            refine lv_bipush (v := 44) hx hb dX12_readRule_112 (by decide) ?_
            obtain ⟨z22, wz22, hf⟩ := ha_bds hf
            refine ha_callVi (As := [.int 44]) (rest := []) hZ ⟨hx, hb, hml, hown, hts⟩ hK hz hP hD hS (c_X12_isSign hZ hN h0 wz22) cw0 hN h0 (by decide) rfl rfl hl.1 rfl (Nat.le_of_ble_eq_true rfl) dX12_readRule_114 ⟨Nat.le_of_ble_eq_true rfl, Nat.le_of_ble_eq_true rfl⟩ (fun H locs hP hD hS => ?_)
            refine lv_if_ne (tgt := 98) hx hb dX12_readRule_117 (by decide) (fun c23 => ?_) (fun c23 => ?_)
            · have hf := ha_it hf c23
              exact ih v1 z22.2 H locs ls hf  hP hD hS (lv_sub hl [0, 1] rfl)
            · have hf := ha_if hf (fun q => q c23)
              exact hk v1 z22.2 H locs ls hf  hP hD hS (lv_sub hl [0, 1] rfl)
          · have hf := ha_if hf (fun q => q c21)
            refine lv_iconst (v := 0) hx hb dX12_readRule_109 (by decide) ?_
            have he := hke _ hf
            exact ha_retz hx hb hr hlocks hP hD hS dX12_readRule_110 (by decide) (ha_e1 he) (ha_e2 he)
      refine key24 _ (fun v1 S H locs ls hf  hP hD hS hl => ?_) (fun r h => Option.some.inj h) ha_fu v1 z17.2 H locs ls (ha_as hf)  hP hD hS (lv_sub hl [0, 1] rfl)
      have hf : (f_X12_readRule_J120 p0 v1 S).bind some = some out := hf
      exact J120 v1 S H locs ls hf  hP hD hS (lv_sub hl [0, 1] rfl)
    · have hf := ha_if hf (fun q => q c18)
      refine lv_aload_n hx hb dX12_readRule_92 rfl (lv_at hl 0 rfl) ?_
      refine lv_iconst (v := 1) hx hb dX12_readRule_93 (by decide) ?_
      obtain ⟨z26, wz26, hf⟩ := ha_bds hf
      refine ha_callVi (As := [.int 1]) (rest := []) hZ ⟨hx, hb, hml, hown, hts⟩ hK hz hP hD hS (c_X12_bad hZ hN h0 wz26) cw2 hN h0 (by decide) rfl rfl hl.1 rfl (Nat.le_of_ble_eq_true rfl) dX12_readRule_94 ⟨Nat.le_of_ble_eq_true rfl, Nat.le_of_ble_eq_true rfl⟩ (fun H locs hP hD hS => ?_)
      obtain ⟨g27, hf⟩ := ha_gds hf
      have he := Option.some.inj hf
      exact ha_retz hx hb hr hlocks hP hD hS dX12_readRule_97 g27 (ha_e1 he) (ha_e2 he)
  unfold f_X12_readRule at hf
  refine lv_aload_n hx hb dX12_readRule_0 rfl (lv_at hl 0 rfl) ?_
  refine lv_bipush (v := 119) hx hb dX12_readRule_1 (by decide) ?_
  refine lv_bipush (v := 104) hx hb dX12_readRule_3 (by decide) ?_
  refine lv_bipush (v := 101) hx hb dX12_readRule_5 (by decide) ?_
  refine lv_bipush (v := 110) hx hb dX12_readRule_7 (by decide) ?_
  refine lv_iconst (v := 0) hx hb dX12_readRule_9 (by decide) ?_
  obtain ⟨z28, wz28, hf⟩ := ha_bds hf
  refine ha_callSl (As := [.int 119, .int 104, .int 101, .int 110, .int 0]) (rest := [.ref (ad p0)]) hZ ⟨hx, hb, hml, hown, hts⟩ hK hz hP hD hS (c_X12_spelt   wz28) cw3 rfl hl.1 rfl (Nat.le_of_ble_eq_true rfl) dX12_readRule_10 ⟨Nat.le_of_ble_eq_true rfl, Nat.le_of_ble_eq_true rfl⟩ (fun H locs hP hD hS => ?_)
  obtain ⟨z29, wz29, hf⟩ := ha_bds hf
  refine ha_callVi (As := [.long z28]) (rest := []) hZ ⟨hx, hb, hml, hown, hts⟩ hK hz hP hD hS (c_X12_isKey hZ hN h0 wz29) cw4 hN h0 (by decide) rfl rfl hl.1 rfl (Nat.le_of_ble_eq_true rfl) dX12_readRule_13 ⟨Nat.le_of_ble_eq_true rfl, Nat.le_of_ble_eq_true rfl⟩ (fun H locs hP hD hS => ?_)
  refine lv_if_ne (tgt := 25) hx hb dX12_readRule_16 (by decide) (fun c30 => ?_) (fun c30 => ?_)
  · have hf := ha_it hf c30
    refine lv_aload_n hx hb dX12_readRule_25 rfl (lv_at hl 0 rfl) ?_
    obtain ⟨r31, wr31, hf⟩ := ha_bds hf
    obtain ⟨wr31, hr31⟩ := ha_rf_some wr31
    refine ha_getr hx hb hown hK hP q17 hN h0 wr31 dX12_readRule_26 ?_
    refine lv_iconst (v := 3) hx hb dX12_readRule_29 (by decide) ?_
    obtain ⟨g32, hf⟩ := ha_gds hf
    refine ha_iald hx hb hK hP hN hr31 g32 dX12_readRule_30 ?_
    refine lv_topi (fun x33 ex33 => ?_)
    have hf := ha_nms hf ex33
    refine lv_istore_n (lv' := [(1, .int x33), (0, .ref (ad p0))]) hx hb dX12_readRule_31 rfl hl (by decide) rfl (fun ls hl => ?_)
    refine lv_iload_n hx hb dX12_readRule_32 rfl (lv_at hl 0 rfl) ?_
    refine lv_bipush (v := 20) hx hb dX12_readRule_33 (by decide) ?_
    refine lv_icmp_ne (tgt := 44) hx hb dX12_readRule_35 (by decide) (fun c34 => ?_) (fun c34 => ?_)
    · have hf := ha_it hf c34
      have key41 : ∀ (K : ((Int32 × ha_St) ⊕ (Int32 × ha_St)) → Option (Int32 × ha_St)), (∀ (v1 : Int32) (S : ha_St) (H : Heap) (locs : List Loc) (ls : Array Slot), K (.inl (v1, S)) = some out → va_P D vwCl (ha_wl cs ad mo_kd mo_ln N S) H → va_D (ha_A ad N) (ha_wl cs ad mo_kd mo_ln N S) → va_S (ha_A ad N) s.heap H locs → lv_has ls 2 [(0, .ref (ad p0)), (1, .int v1)] → W p l e (headSpec wsX12_readRule ({ frames := 5, cells := 0, slots := 0, locals := 111 } : Room)).room s m ([.ref (ad p0)] : List Value).toArray below meth c H locs 0 0 (MQ below (va_Qi (fun (r : Int32) (_ : Unit) => r = out.1) (fun _ => ha_H D cs ad mo_kd mo_ln N out.2) (ha_A ad N)) ([.ref (ad p0)] : List Value).toArray s 0 0 (ha_A ad N)) (F0 m 75 ls [])) → (∀ r, K (.inr r) = some out → r = out) → ∀ (n : Nat) (v1 : Int32) (S : ha_St) (H : Heap) (locs : List Loc) (ls : Array Slot), (f_X12_readRule_L44i p0 n (v1, S)).bind K = some out → va_P D vwCl (ha_wl cs ad mo_kd mo_ln N S) H → va_D (ha_A ad N) (ha_wl cs ad mo_kd mo_ln N S) → va_S (ha_A ad N) s.heap H locs → lv_has ls 2 [(0, .ref (ad p0)), (1, .int v1)] → W p l e (headSpec wsX12_readRule ({ frames := 5, cells := 0, slots := 0, locals := 111 } : Room)).room s m ([.ref (ad p0)] : List Value).toArray below meth c H locs 0 0 (MQ below (va_Qi (fun (r : Int32) (_ : Unit) => r = out.1) (fun _ => ha_H D cs ad mo_kd mo_ln N out.2) (ha_A ad N)) ([.ref (ad p0)] : List Value).toArray s 0 0 (ha_A ad N)) (F0 m 44 ls []) := by
        intro K hk hke n
        induction n with
        | zero =>
          intro v1 S H locs ls hf
          exact absurd (show (none : Option (Int32 × ha_St)) = some out from hf) (fun h => by cases h)
        | succ n ih =>
          intro v1 S H locs ls hf  hP hD hS hl
          have hf : (f_X12_readRule_L44 p0 (f_X12_readRule_L44i p0 n) v1 S).bind K = some out := hf
          unfold f_X12_readRule_L44 at hf
          refine lv_aload_n hx hb dX12_readRule_44 rfl (lv_at hl 0 rfl) ?_
          obtain ⟨z35, wz35, hf⟩ := ha_bds hf
          refine ha_callVv (As := []) (rest := []) hZ ⟨hx, hb, hml, hown, hts⟩ hK hz hP hD hS (c_X12_go hZ hN h0 wz35) cw1 hN h0 (by decide) rfl rfl hl.1 rfl (Nat.le_of_ble_eq_true rfl) dX12_readRule_45 ⟨Nat.le_of_ble_eq_true rfl, Nat.le_of_ble_eq_true rfl⟩ (fun H locs hP hD hS => ?_)
          refine lv_aload_n hx hb dX12_readRule_48 rfl (lv_at hl 0 rfl) ?_
          obtain ⟨z36, wz36, hf⟩ := ha_bds hf
          refine ha_callVi (As := []) (rest := []) hZ ⟨hx, hb, hml, hown, hts⟩ hK hz hP hD hS (c_X12_readOne hZ hN h0 wz36) cw6 hN h0 (by decide) rfl rfl hl.1 rfl (Nat.le_of_ble_eq_true rfl) dX12_readRule_49 ⟨Nat.le_of_ble_eq_true rfl, Nat.le_of_ble_eq_true rfl⟩ (fun H locs hP hD hS => ?_)
          refine lv_if_ne (tgt := 57) hx hb dX12_readRule_52 (by decide) (fun c37 => ?_) (fun c37 => ?_)
          · have hf := ha_it hf c37
            refine lv_aload_n hx hb dX12_readRule_57 rfl (lv_at hl 0 rfl) ?_
            refine lv_bipush (v := 97) hx hb dX12_readRule_58 (by decide) ?_
            refine lv_bipush (v := 110) hx hb dX12_readRule_60 (by decide) ?_
            refine lv_bipush (v := 100) hx hb dX12_readRule_62 (by decide) ?_
            refine lv_iconst (v := 0) hx hb dX12_readRule_64 (by decide) ?_
            refine lv_iconst (v := 0) hx hb dX12_readRule_65 (by decide) ?_
            obtain ⟨z38, wz38, hf⟩ := ha_bds hf
            refine ha_callSl (As := [.int 97, .int 110, .int 100, .int 0, .int 0]) (rest := [.ref (ad p0)]) hZ ⟨hx, hb, hml, hown, hts⟩ hK hz hP hD hS (c_X12_spelt   wz38) cw3 rfl hl.1 rfl (Nat.le_of_ble_eq_true rfl) dX12_readRule_66 ⟨Nat.le_of_ble_eq_true rfl, Nat.le_of_ble_eq_true rfl⟩ (fun H locs hP hD hS => ?_)
            obtain ⟨z39, wz39, hf⟩ := ha_bds hf
            refine ha_callVi (As := [.long z38]) (rest := []) hZ ⟨hx, hb, hml, hown, hts⟩ hK hz hP hD hS (c_X12_isKey hZ hN h0 wz39) cw4 hN h0 (by decide) rfl rfl hl.1 rfl (Nat.le_of_ble_eq_true rfl) dX12_readRule_69 ⟨Nat.le_of_ble_eq_true rfl, Nat.le_of_ble_eq_true rfl⟩ (fun H locs hP hD hS => ?_)
            refine lv_if_ne (tgt := 44) hx hb dX12_readRule_72 (by decide) (fun c40 => ?_) (fun c40 => ?_)
            · have hf := ha_it hf c40
              exact ih v1 z39.2 H locs ls hf  hP hD hS (lv_sub hl [0, 1] rfl)
            · have hf := ha_if hf (fun q => q c40)
              exact hk v1 z39.2 H locs ls hf  hP hD hS (lv_sub hl [0, 1] rfl)
          · have hf := ha_if hf (fun q => q c37)
            refine lv_iconst (v := 0) hx hb dX12_readRule_55 (by decide) ?_
            have he := hke _ hf
            exact ha_retz hx hb hr hlocks hP hD hS dX12_readRule_56 (by decide) (ha_e1 he) (ha_e2 he)
      refine key41 _ (fun v1 S H locs ls hf  hP hD hS hl => ?_) (fun r h => Option.some.inj h) ha_fu x33 z29.2 H locs ls (ha_as hf)  hP hD hS (lv_sub hl [1, 0] rfl)
      have hf : (f_X12_readRule_J75 p0 v1 S).bind some = some out := hf
      exact J75 v1 S H locs ls hf  hP hD hS (lv_sub hl [0, 1] rfl)
    · have hf := ha_if hf (fun q => q c34)
      refine lv_aload_n hx hb dX12_readRule_38 rfl (lv_at hl 1 rfl) ?_
      refine lv_iconst (v := 2) hx hb dX12_readRule_39 (by decide) ?_
      obtain ⟨z43, wz43, hf⟩ := ha_bds hf
      refine ha_callVi (As := [.int 2]) (rest := []) hZ ⟨hx, hb, hml, hown, hts⟩ hK hz hP hD hS (c_X12_bad hZ hN h0 wz43) cw2 hN h0 (by decide) rfl rfl hl.1 rfl (Nat.le_of_ble_eq_true rfl) dX12_readRule_40 ⟨Nat.le_of_ble_eq_true rfl, Nat.le_of_ble_eq_true rfl⟩ (fun H locs hP hD hS => ?_)
      obtain ⟨g44, hf⟩ := ha_gds hf
      have he := Option.some.inj hf
      exact ha_retz hx hb hr hlocks hP hD hS dX12_readRule_43 g44 (ha_e1 he) (ha_e2 he)
  · have hf := ha_if hf (fun q => q c30)
    refine lv_aload_n hx hb dX12_readRule_19 rfl (lv_at hl 0 rfl) ?_
    refine lv_iconst (v := 1) hx hb dX12_readRule_20 (by decide) ?_
    obtain ⟨z45, wz45, hf⟩ := ha_bds hf
    refine ha_callVi (As := [.int 1]) (rest := []) hZ ⟨hx, hb, hml, hown, hts⟩ hK hz hP hD hS (c_X12_bad hZ hN h0 wz45) cw2 hN h0 (by decide) rfl rfl hl.1 rfl (Nat.le_of_ble_eq_true rfl) dX12_readRule_21 ⟨Nat.le_of_ble_eq_true rfl, Nat.le_of_ble_eq_true rfl⟩ (fun H locs hP hD hS => ?_)
    obtain ⟨g46, hf⟩ := ha_gds hf
    have he := Option.some.inj hf
    exact ha_retz hx hb hr hlocks hP hD hS dX12_readRule_24 g46 (ha_e1 he) (ha_e2 he)

set_option maxHeartbeats 4000000 in
set_option maxRecDepth 100000 in
theorem c_X12_program {l : Launch} {D : va_G} {cs : Nat → ClassId} {ad : Nat → Nat} {N : List Nat} {Z : State → Prop} (hZ : ha_Zok (ha_A ad N) Z) (hN : ∀ x, mo_kd x < 999 → x ∈ N) {p0 : Nat} {p1 : Int32} {S : ha_St} {out : Int32 × ha_St} (h0 : mo_kd p0 = 12) (hf : f_X12_program p0 p1 S = some out) : ha_Ci l D cs ad mo_kd mo_ln N Z yX12_program wsX12_program ({ frames := 6, cells := 0, slots := 0, locals := 132 } : Room) [.ref (ad p0), .int p1] S out.1 out.2 := by
  refine Met.ofW (cc := cX12_program) (maxL := 3) (ret := (some .int)) (by decide +kernel) rfl ?_
  intro p e s m args below meth c s₁ B hml hv
  obtain ⟨rfl, hP, hD, hK, hz⟩ := hv
  have hx := B.exec
  have hb := B.bytes
  have hr := B.returns
  have hts := atoms_spec (ws := wsX12_program) B.pre
  have hown : s.vm.findClass RX12 = some m.cls := findClass_of_methodNamed B.named
  have hlocks := B.notSynchronized
  have hS : va_S (ha_A ad N) s.heap s.heap [] := va_S.rf
  have hi12 : ∀ w ∈ wsX120, w ∈ wsX12_program := fun w h => List.mem_cons_of_mem _ (List.mem_append_right _ h)
  have q17 : ha_Fk s ([.ref (ad p0), .int p1] : List Value).toArray RX12 17 12 14 1 := ⟨RX12, TX12, 83, wsX12_program, rfl, by decide, by decide, rfl, rfl, hts, hi12, hts (.fieldLink RX12 17 "HillArmsModel" "ruleMany" "[I") (by decide +kernel)⟩
  have q26 : ha_Fk s ([.ref (ad p0), .int p1] : List Value).toArray RX12 26 12 17 1 := ⟨RX12, TX12, 83, wsX12_program, rfl, by decide, by decide, rfl, rfl, hts, hi12, hts (.fieldLink RX12 26 "HillArmsModel" "oneLeft" "[I") (by decide +kernel)⟩
  have q29 : ha_Fk s ([.ref (ad p0), .int p1] : List Value).toArray RX12 29 12 18 1 := ⟨RX12, TX12, 83, wsX12_program, rfl, by decide, by decide, rfl, rfl, hts, hi12, hts (.fieldLink RX12 29 "HillArmsModel" "oneSign" "[I") (by decide +kernel)⟩
  have q32 : ha_Fk s ([.ref (ad p0), .int p1] : List Value).toArray RX12 32 12 19 1 := ⟨RX12, TX12, 83, wsX12_program, rfl, by decide, by decide, rfl, rfl, hts, hi12, hts (.fieldLink RX12 32 "HillArmsModel" "oneRight" "[I") (by decide +kernel)⟩
  have q35 : ha_Fk s ([.ref (ad p0), .int p1] : List Value).toArray RX12 35 12 20 1 := ⟨RX12, TX12, 83, wsX12_program, rfl, by decide, by decide, rfl, rfl, hts, hi12, hts (.fieldLink RX12 35 "HillArmsModel" "actWhat" "[I") (by decide +kernel)⟩
  have q38 : ha_Fk s ([.ref (ad p0), .int p1] : List Value).toArray RX12 38 12 21 1 := ⟨RX12, TX12, 83, wsX12_program, rfl, by decide, by decide, rfl, rfl, hts, hi12, hts (.fieldLink RX12 38 "HillArmsModel" "actFirst" "[I") (by decide +kernel)⟩
  have q41 : ha_Fk s ([.ref (ad p0), .int p1] : List Value).toArray RX12 41 12 22 1 := ⟨RX12, TX12, 83, wsX12_program, rfl, by decide, by decide, rfl, rfl, hts, hi12, hts (.fieldLink RX12 41 "HillArmsModel" "actSecond" "[I") (by decide +kernel)⟩
  have q20 : ha_Fk s ([.ref (ad p0), .int p1] : List Value).toArray RX12 20 12 15 1 := ⟨RX12, TX12, 83, wsX12_program, rfl, by decide, by decide, rfl, rfl, hts, hi12, hts (.fieldLink RX12 20 "HillArmsModel" "oneTo" "[I") (by decide +kernel)⟩
  have q23 : ha_Fk s ([.ref (ad p0), .int p1] : List Value).toArray RX12 23 12 16 1 := ⟨RX12, TX12, 83, wsX12_program, rfl, by decide, by decide, rfl, rfl, hts, hi12, hts (.fieldLink RX12 23 "HillArmsModel" "actTo" "[I") (by decide +kernel)⟩
  have q170 : ha_Fk s ([.ref (ad p0), .int p1] : List Value).toArray RX12 170 12 8 0 := ⟨RX12, TX12, 83, wsX12_program, rfl, by decide, by decide, rfl, rfl, hts, hi12, hts (.fieldLink RX12 170 "HillArmsModel" "kind" "I") (by decide +kernel)⟩
  have q204 : ha_Fk s ([.ref (ad p0), .int p1] : List Value).toArray RX12 204 12 12 0 := ⟨RX12, TX12, 83, wsX12_program, rfl, by decide, by decide, rfl, rfl, hts, hi12, hts (.fieldLink RX12 204 "HillArmsModel" "place" "I") (by decide +kernel)⟩
  have r138 : ha_Fp s ([.ref (ad p0), .int p1] : List Value).toArray RX12 138 12 0 0 .int := ⟨RX12, TX12, 83, wsX12_program, tyX12, rfl, by decide, by decide, rfl, rfl, hts, hi12, hts (.fieldLink RX12 138 "HillArmsModel" "thrown" "I") (by decide +kernel), tyX12_ok, nmX12, rfl, by decide +kernel⟩
  have r161 : ha_Fp s ([.ref (ad p0), .int p1] : List Value).toArray RX12 161 12 5 0 .int := ⟨RX12, TX12, 83, wsX12_program, tyX12, rfl, by decide, by decide, rfl, rfl, hts, hi12, hts (.fieldLink RX12 161 "HillArmsModel" "size" "I") (by decide +kernel), tyX12_ok, nmX12, rfl, by decide +kernel⟩
  have r201 : ha_Fp s ([.ref (ad p0), .int p1] : List Value).toArray RX12 201 12 11 0 .int := ⟨RX12, TX12, 83, wsX12_program, tyX12, rfl, by decide, by decide, rfl, rfl, hts, hi12, hts (.fieldLink RX12 201 "HillArmsModel" "fault" "I") (by decide +kernel), tyX12_ok, nmX12, rfl, by decide +kernel⟩
  have r233 : ha_Fp s ([.ref (ad p0), .int p1] : List Value).toArray RX12 233 12 23 0 .int := ⟨RX12, TX12, 83, wsX12_program, tyX12, rfl, by decide, by decide, rfl, rfl, hts, hi12, hts (.fieldLink RX12 233 "HillArmsModel" "ones" "I") (by decide +kernel), tyX12_ok, nmX12, rfl, by decide +kernel⟩
  have r242 : ha_Fp s ([.ref (ad p0), .int p1] : List Value).toArray RX12 242 12 24 0 .int := ⟨RX12, TX12, 83, wsX12_program, tyX12, rfl, by decide, by decide, rfl, rfl, hts, hi12, hts (.fieldLink RX12 242 "HillArmsModel" "acts" "I") (by decide +kernel), tyX12_ok, nmX12, rfl, by decide +kernel⟩
  have r164 : ha_Fp s ([.ref (ad p0), .int p1] : List Value).toArray RX12 164 12 6 0 .int := ⟨RX12, TX12, 83, wsX12_program, tyX12, rfl, by decide, by decide, rfl, rfl, hts, hi12, hts (.fieldLink RX12 164 "HillArmsModel" "to" "I") (by decide +kernel), tyX12_ok, nmX12, rfl, by decide +kernel⟩
  have cw0 := cwV (R := (headSpec wsX12_program ({ frames := 6, cells := 0, slots := 0, locals := 132 } : Room)).room) 0 hts gX12_program_X12_take (rm := ({ frames := 0, cells := 0, slots := 0, locals := 0 } : Room)) (mc := 0) (ms := 0) rfl rfl rfl (by decide +kernel) ⟨Nat.le_of_ble_eq_true rfl, Nat.le_of_ble_eq_true rfl⟩
  have cw1 := va_cwS (R := (headSpec wsX12_program ({ frames := 6, cells := 0, slots := 0, locals := 132 } : Room)).room) 3 hts gX12_program_X12_isIn (rm := ({ frames := 0, cells := 0, slots := 0, locals := 0 } : Room)) (mc := 0) (ms := 0) rfl rfl rfl (by decide +kernel) ⟨Nat.le_of_ble_eq_true rfl, Nat.le_of_ble_eq_true rfl⟩
  have cw2 := cwV (R := (headSpec wsX12_program ({ frames := 6, cells := 0, slots := 0, locals := 132 } : Room)).room) 0 hts gX12_program_X12_go (rm := ({ frames := 1, cells := 0, slots := 0, locals := 21 } : Room)) (mc := 0) (ms := 0) rfl rfl rfl (by decide +kernel) ⟨Nat.le_of_ble_eq_true rfl, Nat.le_of_ble_eq_true rfl⟩
  have cw3 := cwV (R := (headSpec wsX12_program ({ frames := 6, cells := 0, slots := 0, locals := 132 } : Room)).room) 0 hts gX12_program_X12_readRule (rm := ({ frames := 5, cells := 0, slots := 0, locals := 111 } : Room)) (mc := 0) (ms := 0) rfl rfl rfl (by decide +kernel) ⟨Nat.le_of_ble_eq_true rfl, Nat.le_of_ble_eq_true rfl⟩
  have hl := lv_entry ([.ref (ad p0), .int p1]) (n := 3) (Nat.le_of_ble_eq_true rfl)
  rw [lg_entry_eq]
  generalize (lg_sl ([.ref (ad p0), .int p1]) ++ List.replicate (3 - (lg_sl ([.ref (ad p0), .int p1])).length) Slot.unset).toArray = ls at hl ⊢
  have hl : lv_has ls 3 [(0, .ref (ad p0)), (1, .int p1)] := hl
  refine (fun (K0 : ∀ (H : Heap) (locs : List Loc), va_P D vwCl (ha_wl cs ad mo_kd mo_ln N S) H → va_S (ha_A ad N) s.heap H locs → W p l e (headSpec wsX12_program ({ frames := 6, cells := 0, slots := 0, locals := 132 } : Room)).room s m ([.ref (ad p0), .int p1] : List Value).toArray below meth c H locs 0 0 (MQ below (va_Qi (fun (r : Int32) (_ : Unit) => r = out.1) (fun _ => ha_H D cs ad mo_kd mo_ln N out.2) (ha_A ad N)) ([.ref (ad p0), .int p1] : List Value).toArray s 0 0 (ha_A ad N)) (F0 m 0 ls [])) => K0 _ _ hP hS) ?_
  intro H locs hP hS
  have hf := ha_rt hf
  have J278 : ∀  (S : ha_St) (H : Heap) (locs : List Loc) (ls : Array Slot), (f_X12_program_J278 p0 p1  S).bind some = some out → va_P D vwCl (ha_wl cs ad mo_kd mo_ln N S) H → va_D (ha_A ad N) (ha_wl cs ad mo_kd mo_ln N S) → va_S (ha_A ad N) s.heap H locs → lv_has ls 3 [(0, .ref (ad p0)), (1, .int p1)] → W p l e (headSpec wsX12_program ({ frames := 6, cells := 0, slots := 0, locals := 132 } : Room)).room s m ([.ref (ad p0), .int p1] : List Value).toArray below meth c H locs 0 0 (MQ below (va_Qi (fun (r : Int32) (_ : Unit) => r = out.1) (fun _ => ha_H D cs ad mo_kd mo_ln N out.2) (ha_A ad N)) ([.ref (ad p0), .int p1] : List Value).toArray s 0 0 (ha_A ad N)) (F0 m 278 ls []) := by
    intro  S H locs ls hf  hP hD hS hl
    unfold f_X12_program_J278 at hf
    refine lv_aload_n hx hb dX12_program_278 rfl (lv_at hl 0 rfl) ?_
    obtain ⟨r1, wr1, hf⟩ := ha_bds hf
    obtain ⟨wr1, hr1⟩ := ha_rf_some wr1
    refine ha_getr hx hb hown hK hP q17 hN h0 wr1 dX12_program_279 ?_
    refine lv_iload_n hx hb dX12_program_282 rfl (lv_at hl 1 rfl) ?_
    obtain ⟨g2, hf⟩ := ha_gds hf
    refine ha_iald hx hb hK hP hN hr1 g2 dX12_program_283 ?_
    have he := Option.some.inj hf
    exact ha_reti hx hb hr hlocks hP hD hS dX12_program_284 (ha_e1 he) (ha_e2 he)
  have J144 : ∀  (S : ha_St) (H : Heap) (locs : List Loc) (ls : Array Slot), (f_X12_program_J144 p0 p1  S).bind some = some out → va_P D vwCl (ha_wl cs ad mo_kd mo_ln N S) H → va_D (ha_A ad N) (ha_wl cs ad mo_kd mo_ln N S) → va_S (ha_A ad N) s.heap H locs → lv_has ls 3 [(0, .ref (ad p0)), (1, .int p1)] → W p l e (headSpec wsX12_program ({ frames := 6, cells := 0, slots := 0, locals := 132 } : Room)).room s m ([.ref (ad p0), .int p1] : List Value).toArray below meth c H locs 0 0 (MQ below (va_Qi (fun (r : Int32) (_ : Unit) => r = out.1) (fun _ => ha_H D cs ad mo_kd mo_ln N out.2) (ha_A ad N)) ([.ref (ad p0), .int p1] : List Value).toArray s 0 0 (ha_A ad N)) (F0 m 144 ls []) := by
    intro  S H locs ls hf  hP hD hS hl
    unfold f_X12_program_J144 at hf
    refine lv_iconst (v := 0) hx hb dX12_program_144 (by decide) ?_
    refine lv_istore_n (lv' := [(2, .int 0), (0, .ref (ad p0)), (1, .int p1)]) hx hb dX12_program_145 rfl hl (by decide) rfl (fun ls hl => ?_)
    have key35 : ∀ (K : (ha_St) → Option (Int32 × ha_St)), (∀  (S : ha_St) (H : Heap) (locs : List Loc) (ls : Array Slot), K S = some out → va_P D vwCl (ha_wl cs ad mo_kd mo_ln N S) H → va_D (ha_A ad N) (ha_wl cs ad mo_kd mo_ln N S) → va_S (ha_A ad N) s.heap H locs → lv_has ls 3 [(0, .ref (ad p0)), (1, .int p1)] → W p l e (headSpec wsX12_program ({ frames := 6, cells := 0, slots := 0, locals := 132 } : Room)).room s m ([.ref (ad p0), .int p1] : List Value).toArray below meth c H locs 0 0 (MQ below (va_Qi (fun (r : Int32) (_ : Unit) => r = out.1) (fun _ => ha_H D cs ad mo_kd mo_ln N out.2) (ha_A ad N)) ([.ref (ad p0), .int p1] : List Value).toArray s 0 0 (ha_A ad N)) (F0 m 278 ls [])) → ∀ (n : Nat) (v2 : Int32) (S : ha_St) (H : Heap) (locs : List Loc) (ls : Array Slot), (f_X12_program_L146i p0 p1 n (v2, S)).bind K = some out → va_P D vwCl (ha_wl cs ad mo_kd mo_ln N S) H → va_D (ha_A ad N) (ha_wl cs ad mo_kd mo_ln N S) → va_S (ha_A ad N) s.heap H locs → lv_has ls 3 [(0, .ref (ad p0)), (1, .int p1), (2, .int v2)] → W p l e (headSpec wsX12_program ({ frames := 6, cells := 0, slots := 0, locals := 132 } : Room)).room s m ([.ref (ad p0), .int p1] : List Value).toArray below meth c H locs 0 0 (MQ below (va_Qi (fun (r : Int32) (_ : Unit) => r = out.1) (fun _ => ha_H D cs ad mo_kd mo_ln N out.2) (ha_A ad N)) ([.ref (ad p0), .int p1] : List Value).toArray s 0 0 (ha_A ad N)) (F0 m 146 ls []) := by
      intro K hk n
      induction n with
      | zero =>
        intro v2 S H locs ls hf
        exact absurd (show (none : Option (Int32 × ha_St)) = some out from hf) (fun h => by cases h)
      | succ n ih =>
        intro v2 S H locs ls hf  hP hD hS hl
        have hf : (f_X12_program_L146 p0 p1 (f_X12_program_L146i p0 p1 n) v2 S).bind K = some out := hf
        unfold f_X12_program_L146 at hf
        refine lv_iload_n hx hb dX12_program_146 rfl (lv_at hl 2 rfl) ?_
        refine lv_bipush (v := 40) hx hb dX12_program_147 (by decide) ?_
        refine lv_icmp_ge (tgt := 278) hx hb dX12_program_149 (by decide) (fun c3 => ?_) (fun c3 => ?_)
        · have hf := ha_it hf c3
          exact hk  S H locs ls hf  hP hD hS (lv_sub hl [0, 1] rfl)
        · have hf := ha_if hf c3
          refine lv_aload_n hx hb dX12_program_152 rfl (lv_at hl 0 rfl) ?_
          obtain ⟨r4, wr4, hf⟩ := ha_bds hf
          obtain ⟨wr4, hr4⟩ := ha_rf_some wr4
          refine ha_getr hx hb hown hK hP q26 hN h0 wr4 dX12_program_153 ?_
          refine lv_bipush (v := 40) hx hb dX12_program_156 (by decide) ?_
          refine lv_iload_n hx hb dX12_program_158 rfl (lv_at hl 1 rfl) ?_
          refine lv_imul hx hb dX12_program_159 ?_
          refine lv_iload_n hx hb dX12_program_160 rfl (lv_at hl 2 rfl) ?_
          refine lv_iadd hx hb dX12_program_161 ?_
          refine lv_aload_n hx hb dX12_program_162 rfl (lv_at hl 0 rfl) ?_
          obtain ⟨r5, wr5, hf⟩ := ha_bds hf
          obtain ⟨wr5, hr5⟩ := ha_rf_some wr5
          refine ha_getr hx hb hown hK hP q26 hN h0 wr5 dX12_program_163 ?_
          refine lv_bipush (v := 120) hx hb dX12_program_166 (by decide) ?_
          refine lv_iload_n hx hb dX12_program_168 rfl (lv_at hl 2 rfl) ?_
          refine lv_iadd hx hb dX12_program_169 ?_
          obtain ⟨g6, hf⟩ := ha_gds hf
          refine ha_iald hx hb hK hP hN hr5 g6 dX12_program_170 ?_
          obtain ⟨g7, hf⟩ := ha_gds hf
          refine ha_iast hx hb hK hP hD hS hN hr4 g7 dX12_program_171 (fun S8 H locs eS8 hP hD hS => ?_)
          have hf := ha_nms hf eS8
          refine lv_aload_n hx hb dX12_program_172 rfl (lv_at hl 0 rfl) ?_
          obtain ⟨r9, wr9, hf⟩ := ha_bds hf
          obtain ⟨wr9, hr9⟩ := ha_rf_some wr9
          refine ha_getr hx hb hown hK hP q29 hN h0 wr9 dX12_program_173 ?_
          refine lv_bipush (v := 40) hx hb dX12_program_176 (by decide) ?_
          refine lv_iload_n hx hb dX12_program_178 rfl (lv_at hl 1 rfl) ?_
          refine lv_imul hx hb dX12_program_179 ?_
          refine lv_iload_n hx hb dX12_program_180 rfl (lv_at hl 2 rfl) ?_
          refine lv_iadd hx hb dX12_program_181 ?_
          refine lv_aload_n hx hb dX12_program_182 rfl (lv_at hl 0 rfl) ?_
          obtain ⟨r10, wr10, hf⟩ := ha_bds hf
          obtain ⟨wr10, hr10⟩ := ha_rf_some wr10
          refine ha_getr hx hb hown hK hP q29 hN h0 wr10 dX12_program_183 ?_
          refine lv_bipush (v := 120) hx hb dX12_program_186 (by decide) ?_
          refine lv_iload_n hx hb dX12_program_188 rfl (lv_at hl 2 rfl) ?_
          refine lv_iadd hx hb dX12_program_189 ?_
          obtain ⟨g11, hf⟩ := ha_gds hf
          refine ha_iald hx hb hK hP hN hr10 g11 dX12_program_190 ?_
          obtain ⟨g12, hf⟩ := ha_gds hf
          refine ha_iast hx hb hK hP hD hS hN hr9 g12 dX12_program_191 (fun S13 H locs eS13 hP hD hS => ?_)
          have hf := ha_nms hf eS13
          refine lv_aload_n hx hb dX12_program_192 rfl (lv_at hl 0 rfl) ?_
          obtain ⟨r14, wr14, hf⟩ := ha_bds hf
          obtain ⟨wr14, hr14⟩ := ha_rf_some wr14
          refine ha_getr hx hb hown hK hP q32 hN h0 wr14 dX12_program_193 ?_
          refine lv_bipush (v := 40) hx hb dX12_program_196 (by decide) ?_
          refine lv_iload_n hx hb dX12_program_198 rfl (lv_at hl 1 rfl) ?_
          refine lv_imul hx hb dX12_program_199 ?_
          refine lv_iload_n hx hb dX12_program_200 rfl (lv_at hl 2 rfl) ?_
          refine lv_iadd hx hb dX12_program_201 ?_
          refine lv_aload_n hx hb dX12_program_202 rfl (lv_at hl 0 rfl) ?_
          obtain ⟨r15, wr15, hf⟩ := ha_bds hf
          obtain ⟨wr15, hr15⟩ := ha_rf_some wr15
          refine ha_getr hx hb hown hK hP q32 hN h0 wr15 dX12_program_203 ?_
          refine lv_bipush (v := 120) hx hb dX12_program_206 (by decide) ?_
          refine lv_iload_n hx hb dX12_program_208 rfl (lv_at hl 2 rfl) ?_
          refine lv_iadd hx hb dX12_program_209 ?_
          obtain ⟨g16, hf⟩ := ha_gds hf
          refine ha_iald hx hb hK hP hN hr15 g16 dX12_program_210 ?_
          obtain ⟨g17, hf⟩ := ha_gds hf
          refine ha_iast hx hb hK hP hD hS hN hr14 g17 dX12_program_211 (fun S18 H locs eS18 hP hD hS => ?_)
          have hf := ha_nms hf eS18
          refine lv_aload_n hx hb dX12_program_212 rfl (lv_at hl 0 rfl) ?_
          obtain ⟨r19, wr19, hf⟩ := ha_bds hf
          obtain ⟨wr19, hr19⟩ := ha_rf_some wr19
          refine ha_getr hx hb hown hK hP q35 hN h0 wr19 dX12_program_213 ?_
          refine lv_bipush (v := 40) hx hb dX12_program_216 (by decide) ?_
          refine lv_iload_n hx hb dX12_program_218 rfl (lv_at hl 1 rfl) ?_
          refine lv_imul hx hb dX12_program_219 ?_
          refine lv_iload_n hx hb dX12_program_220 rfl (lv_at hl 2 rfl) ?_
          refine lv_iadd hx hb dX12_program_221 ?_
          refine lv_aload_n hx hb dX12_program_222 rfl (lv_at hl 0 rfl) ?_
          obtain ⟨r20, wr20, hf⟩ := ha_bds hf
          obtain ⟨wr20, hr20⟩ := ha_rf_some wr20
          refine ha_getr hx hb hown hK hP q35 hN h0 wr20 dX12_program_223 ?_
          refine lv_bipush (v := 120) hx hb dX12_program_226 (by decide) ?_
          refine lv_iload_n hx hb dX12_program_228 rfl (lv_at hl 2 rfl) ?_
          refine lv_iadd hx hb dX12_program_229 ?_
          obtain ⟨g21, hf⟩ := ha_gds hf
          refine ha_iald hx hb hK hP hN hr20 g21 dX12_program_230 ?_
          obtain ⟨g22, hf⟩ := ha_gds hf
          refine ha_iast hx hb hK hP hD hS hN hr19 g22 dX12_program_231 (fun S23 H locs eS23 hP hD hS => ?_)
          have hf := ha_nms hf eS23
          refine lv_aload_n hx hb dX12_program_232 rfl (lv_at hl 0 rfl) ?_
          obtain ⟨r24, wr24, hf⟩ := ha_bds hf
          obtain ⟨wr24, hr24⟩ := ha_rf_some wr24
          refine ha_getr hx hb hown hK hP q38 hN h0 wr24 dX12_program_233 ?_
          refine lv_bipush (v := 40) hx hb dX12_program_236 (by decide) ?_
          refine lv_iload_n hx hb dX12_program_238 rfl (lv_at hl 1 rfl) ?_
          refine lv_imul hx hb dX12_program_239 ?_
          refine lv_iload_n hx hb dX12_program_240 rfl (lv_at hl 2 rfl) ?_
          refine lv_iadd hx hb dX12_program_241 ?_
          refine lv_aload_n hx hb dX12_program_242 rfl (lv_at hl 0 rfl) ?_
          obtain ⟨r25, wr25, hf⟩ := ha_bds hf
          obtain ⟨wr25, hr25⟩ := ha_rf_some wr25
          refine ha_getr hx hb hown hK hP q38 hN h0 wr25 dX12_program_243 ?_
          refine lv_bipush (v := 120) hx hb dX12_program_246 (by decide) ?_
          refine lv_iload_n hx hb dX12_program_248 rfl (lv_at hl 2 rfl) ?_
          refine lv_iadd hx hb dX12_program_249 ?_
          obtain ⟨g26, hf⟩ := ha_gds hf
          refine ha_iald hx hb hK hP hN hr25 g26 dX12_program_250 ?_
          obtain ⟨g27, hf⟩ := ha_gds hf
          refine ha_iast hx hb hK hP hD hS hN hr24 g27 dX12_program_251 (fun S28 H locs eS28 hP hD hS => ?_)
          have hf := ha_nms hf eS28
          refine lv_aload_n hx hb dX12_program_252 rfl (lv_at hl 0 rfl) ?_
          obtain ⟨r29, wr29, hf⟩ := ha_bds hf
          obtain ⟨wr29, hr29⟩ := ha_rf_some wr29
          refine ha_getr hx hb hown hK hP q41 hN h0 wr29 dX12_program_253 ?_
          refine lv_bipush (v := 40) hx hb dX12_program_256 (by decide) ?_
          refine lv_iload_n hx hb dX12_program_258 rfl (lv_at hl 1 rfl) ?_
          refine lv_imul hx hb dX12_program_259 ?_
          refine lv_iload_n hx hb dX12_program_260 rfl (lv_at hl 2 rfl) ?_
          refine lv_iadd hx hb dX12_program_261 ?_
          refine lv_aload_n hx hb dX12_program_262 rfl (lv_at hl 0 rfl) ?_
          obtain ⟨r30, wr30, hf⟩ := ha_bds hf
          obtain ⟨wr30, hr30⟩ := ha_rf_some wr30
          refine ha_getr hx hb hown hK hP q41 hN h0 wr30 dX12_program_263 ?_
          refine lv_bipush (v := 120) hx hb dX12_program_266 (by decide) ?_
          refine lv_iload_n hx hb dX12_program_268 rfl (lv_at hl 2 rfl) ?_
          refine lv_iadd hx hb dX12_program_269 ?_
          obtain ⟨g31, hf⟩ := ha_gds hf
          refine ha_iald hx hb hK hP hN hr30 g31 dX12_program_270 ?_
          obtain ⟨g32, hf⟩ := ha_gds hf
          refine ha_iast hx hb hK hP hD hS hN hr29 g32 dX12_program_271 (fun S33 H locs eS33 hP hD hS => ?_)
          have hf := ha_nms hf eS33
          obtain ⟨x34, ex34⟩ : ∃ y : Int32, y = (v2 : Int32) + 1 := ⟨_, rfl⟩
          have hf := ha_nms hf ex34
          refine lv_iinc (v := x34) (lv' := [(2, .int x34), (0, .ref (ad p0)), (1, .int p1)]) hx hb dX12_program_272 hl (k := 2) rfl (by rw [ex34]; rfl) (by decide) rfl (fun ls hl => ?_)
          refine lv_goto (tgt := 146) hx hb dX12_program_275 (by decide) ?_
          exact ih x34 S33 H locs ls hf  hP hD hS (lv_sub hl [1, 2, 0] rfl)
    refine key35 _ (fun  S H locs ls hf  hP hD hS hl => ?_) ha_fu 0 S H locs ls (ha_as hf)  hP hD hS (lv_sub hl [1, 2, 0] rfl)
    have hf : (f_X12_program_J278 p0 p1  S).bind some = some out := hf
    exact J278  S H locs ls hf  hP hD hS (lv_sub hl [0, 1] rfl)
  have J78 : ∀  (S : ha_St) (H : Heap) (locs : List Loc) (ls : Array Slot), (f_X12_program_J78 p0 p1  S).bind some = some out → va_P D vwCl (ha_wl cs ad mo_kd mo_ln N S) H → va_D (ha_A ad N) (ha_wl cs ad mo_kd mo_ln N S) → va_S (ha_A ad N) s.heap H locs → lv_has ls 3 [(0, .ref (ad p0)), (1, .int p1)] → W p l e (headSpec wsX12_program ({ frames := 6, cells := 0, slots := 0, locals := 132 } : Room)).room s m ([.ref (ad p0), .int p1] : List Value).toArray below meth c H locs 0 0 (MQ below (va_Qi (fun (r : Int32) (_ : Unit) => r = out.1) (fun _ => ha_H D cs ad mo_kd mo_ln N out.2) (ha_A ad N)) ([.ref (ad p0), .int p1] : List Value).toArray s 0 0 (ha_A ad N)) (F0 m 78 ls []) := by
    intro  S H locs ls hf  hP hD hS hl
    unfold f_X12_program_J78 at hf
    refine lv_aload_n hx hb dX12_program_78 rfl (lv_at hl 0 rfl) ?_
    obtain ⟨r37, wr37, hf⟩ := ha_bds hf
    obtain ⟨wr37, hr37⟩ := ha_rf_some wr37
    refine ha_getr hx hb hown hK hP q17 hN h0 wr37 dX12_program_79 ?_
    refine lv_iload_n hx hb dX12_program_82 rfl (lv_at hl 1 rfl) ?_
    refine lv_aload_n hx hb dX12_program_83 rfl (lv_at hl 0 rfl) ?_
    obtain ⟨r38, wr38, hf⟩ := ha_bds hf
    obtain ⟨wr38, hr38⟩ := ha_rf_some wr38
    refine ha_getr hx hb hown hK hP q17 hN h0 wr38 dX12_program_84 ?_
    refine lv_iconst (v := 3) hx hb dX12_program_87 (by decide) ?_
    obtain ⟨g39, hf⟩ := ha_gds hf
    refine ha_iald hx hb hK hP hN hr38 g39 dX12_program_88 ?_
    obtain ⟨g40, hf⟩ := ha_gds hf
    refine ha_iast hx hb hK hP hD hS hN hr37 g40 dX12_program_89 (fun S41 H locs eS41 hP hD hS => ?_)
    have hf := ha_nms hf eS41
    refine lv_iconst (v := 0) hx hb dX12_program_90 (by decide) ?_
    refine lv_istore_n (lv' := [(2, .int 0), (0, .ref (ad p0)), (1, .int p1)]) hx hb dX12_program_91 rfl hl (by decide) rfl (fun ls hl => ?_)
    have key54 : ∀ (K : (ha_St) → Option (Int32 × ha_St)), (∀  (S : ha_St) (H : Heap) (locs : List Loc) (ls : Array Slot), K S = some out → va_P D vwCl (ha_wl cs ad mo_kd mo_ln N S) H → va_D (ha_A ad N) (ha_wl cs ad mo_kd mo_ln N S) → va_S (ha_A ad N) s.heap H locs → lv_has ls 3 [(0, .ref (ad p0)), (1, .int p1)] → W p l e (headSpec wsX12_program ({ frames := 6, cells := 0, slots := 0, locals := 132 } : Room)).room s m ([.ref (ad p0), .int p1] : List Value).toArray below meth c H locs 0 0 (MQ below (va_Qi (fun (r : Int32) (_ : Unit) => r = out.1) (fun _ => ha_H D cs ad mo_kd mo_ln N out.2) (ha_A ad N)) ([.ref (ad p0), .int p1] : List Value).toArray s 0 0 (ha_A ad N)) (F0 m 144 ls [])) → ∀ (n : Nat) (v2 : Int32) (S : ha_St) (H : Heap) (locs : List Loc) (ls : Array Slot), (f_X12_program_L92i p0 p1 n (v2, S)).bind K = some out → va_P D vwCl (ha_wl cs ad mo_kd mo_ln N S) H → va_D (ha_A ad N) (ha_wl cs ad mo_kd mo_ln N S) → va_S (ha_A ad N) s.heap H locs → lv_has ls 3 [(0, .ref (ad p0)), (1, .int p1), (2, .int v2)] → W p l e (headSpec wsX12_program ({ frames := 6, cells := 0, slots := 0, locals := 132 } : Room)).room s m ([.ref (ad p0), .int p1] : List Value).toArray below meth c H locs 0 0 (MQ below (va_Qi (fun (r : Int32) (_ : Unit) => r = out.1) (fun _ => ha_H D cs ad mo_kd mo_ln N out.2) (ha_A ad N)) ([.ref (ad p0), .int p1] : List Value).toArray s 0 0 (ha_A ad N)) (F0 m 92 ls []) := by
      intro K hk n
      induction n with
      | zero =>
        intro v2 S H locs ls hf
        exact absurd (show (none : Option (Int32 × ha_St)) = some out from hf) (fun h => by cases h)
      | succ n ih =>
        intro v2 S H locs ls hf  hP hD hS hl
        have hf : (f_X12_program_L92 p0 p1 (f_X12_program_L92i p0 p1 n) v2 S).bind K = some out := hf
        unfold f_X12_program_L92 at hf
        refine lv_iload_n hx hb dX12_program_92 rfl (lv_at hl 2 rfl) ?_
        refine lv_bipush (v := 20) hx hb dX12_program_93 (by decide) ?_
        refine lv_icmp_ge (tgt := 144) hx hb dX12_program_95 (by decide) (fun c42 => ?_) (fun c42 => ?_)
        · have hf := ha_it hf c42
          exact hk  S H locs ls hf  hP hD hS (lv_sub hl [0, 1] rfl)
        · have hf := ha_if hf c42
          refine lv_aload_n hx hb dX12_program_98 rfl (lv_at hl 0 rfl) ?_
          obtain ⟨r43, wr43, hf⟩ := ha_bds hf
          obtain ⟨wr43, hr43⟩ := ha_rf_some wr43
          refine ha_getr hx hb hown hK hP q20 hN h0 wr43 dX12_program_99 ?_
          refine lv_bipush (v := 20) hx hb dX12_program_102 (by decide) ?_
          refine lv_iload_n hx hb dX12_program_104 rfl (lv_at hl 1 rfl) ?_
          refine lv_imul hx hb dX12_program_105 ?_
          refine lv_iload_n hx hb dX12_program_106 rfl (lv_at hl 2 rfl) ?_
          refine lv_iadd hx hb dX12_program_107 ?_
          refine lv_aload_n hx hb dX12_program_108 rfl (lv_at hl 0 rfl) ?_
          obtain ⟨r44, wr44, hf⟩ := ha_bds hf
          obtain ⟨wr44, hr44⟩ := ha_rf_some wr44
          refine ha_getr hx hb hown hK hP q20 hN h0 wr44 dX12_program_109 ?_
          refine lv_bipush (v := 60) hx hb dX12_program_112 (by decide) ?_
          refine lv_iload_n hx hb dX12_program_114 rfl (lv_at hl 2 rfl) ?_
          refine lv_iadd hx hb dX12_program_115 ?_
          obtain ⟨g45, hf⟩ := ha_gds hf
          refine ha_iald hx hb hK hP hN hr44 g45 dX12_program_116 ?_
          obtain ⟨g46, hf⟩ := ha_gds hf
          refine ha_iast hx hb hK hP hD hS hN hr43 g46 dX12_program_117 (fun S47 H locs eS47 hP hD hS => ?_)
          have hf := ha_nms hf eS47
          refine lv_aload_n hx hb dX12_program_118 rfl (lv_at hl 0 rfl) ?_
          obtain ⟨r48, wr48, hf⟩ := ha_bds hf
          obtain ⟨wr48, hr48⟩ := ha_rf_some wr48
          refine ha_getr hx hb hown hK hP q23 hN h0 wr48 dX12_program_119 ?_
          refine lv_bipush (v := 20) hx hb dX12_program_122 (by decide) ?_
          refine lv_iload_n hx hb dX12_program_124 rfl (lv_at hl 1 rfl) ?_
          refine lv_imul hx hb dX12_program_125 ?_
          refine lv_iload_n hx hb dX12_program_126 rfl (lv_at hl 2 rfl) ?_
          refine lv_iadd hx hb dX12_program_127 ?_
          refine lv_aload_n hx hb dX12_program_128 rfl (lv_at hl 0 rfl) ?_
          obtain ⟨r49, wr49, hf⟩ := ha_bds hf
          obtain ⟨wr49, hr49⟩ := ha_rf_some wr49
          refine ha_getr hx hb hown hK hP q23 hN h0 wr49 dX12_program_129 ?_
          refine lv_bipush (v := 60) hx hb dX12_program_132 (by decide) ?_
          refine lv_iload_n hx hb dX12_program_134 rfl (lv_at hl 2 rfl) ?_
          refine lv_iadd hx hb dX12_program_135 ?_
          obtain ⟨g50, hf⟩ := ha_gds hf
          refine ha_iald hx hb hK hP hN hr49 g50 dX12_program_136 ?_
          obtain ⟨g51, hf⟩ := ha_gds hf
          refine ha_iast hx hb hK hP hD hS hN hr48 g51 dX12_program_137 (fun S52 H locs eS52 hP hD hS => ?_)
          have hf := ha_nms hf eS52
          obtain ⟨x53, ex53⟩ : ∃ y : Int32, y = (v2 : Int32) + 1 := ⟨_, rfl⟩
          have hf := ha_nms hf ex53
          refine lv_iinc (v := x53) (lv' := [(2, .int x53), (0, .ref (ad p0)), (1, .int p1)]) hx hb dX12_program_138 hl (k := 2) rfl (by rw [ex53]; rfl) (by decide) rfl (fun ls hl => ?_)
          refine lv_goto (tgt := 92) hx hb dX12_program_141 (by decide) ?_
          exact ih x53 S52 H locs ls hf  hP hD hS (lv_sub hl [1, 2, 0] rfl)
    refine key54 _ (fun  S H locs ls hf  hP hD hS hl => ?_) ha_fu 0 S41 H locs ls (ha_as hf)  hP hD hS (lv_sub hl [1, 2, 0] rfl)
    have hf : (f_X12_program_J144 p0 p1  S).bind some = some out := hf
    exact J144  S H locs ls hf  hP hD hS (lv_sub hl [0, 1] rfl)
  unfold f_X12_program at hf
  refine lv_aload_n hx hb dX12_program_0 rfl (lv_at hl 0 rfl) ?_
  refine lv_iconst (v := 0) hx hb dX12_program_1 (by decide) ?_
  refine ha_puti hx hb hown hK hP hD hS r138 hN h0 dX12_program_2 (fun S56 H locs eS56 hP hD hS => ?_)
  have hf := ha_nms hf eS56
  refine lv_aload_n hx hb dX12_program_5 rfl (lv_at hl 0 rfl) ?_
  refine lv_aload_n hx hb dX12_program_6 rfl (lv_at hl 0 rfl) ?_
  obtain ⟨z57, wz57, hf⟩ := ha_bds hf
  refine ha_callVi (As := []) (rest := [.ref (ad p0)]) hZ ⟨hx, hb, hml, hown, hts⟩ hK hz hP hD hS (c_X12_take hZ hN h0 wz57) cw0 hN h0 (by decide) rfl rfl hl.1 rfl (Nat.le_of_ble_eq_true rfl) dX12_program_7 ⟨Nat.le_of_ble_eq_true rfl, Nat.le_of_ble_eq_true rfl⟩ (fun H locs hP hD hS => ?_)
  refine ha_puti hx hb hown hK hP hD hS r161 hN h0 dX12_program_10 (fun S58 H locs eS58 hP hD hS => ?_)
  have hf := ha_nms hf eS58
  refine lv_iload_n hx hb dX12_program_13 rfl (lv_at hl 1 rfl) ?_
  refine lv_iconst (v := 0) hx hb dX12_program_14 (by decide) ?_
  refine lv_iconst (v := 2) hx hb dX12_program_15 (by decide) ?_
  obtain ⟨z59, wz59, hf⟩ := ha_bds hf
  refine ha_callSi (As := [.int p1, .int 0, .int 2]) (rest := []) hZ ⟨hx, hb, hml, hown, hts⟩ hK hz hP hD hS (c_X12_isIn   wz59) cw1 rfl hl.1 rfl (Nat.le_of_ble_eq_true rfl) dX12_program_16 ⟨Nat.le_of_ble_eq_true rfl, Nat.le_of_ble_eq_true rfl⟩ (fun H locs hP hD hS => ?_)
  refine lv_if_ne (tgt := 26) hx hb dX12_program_19 (by decide) (fun c60 => ?_) (fun c60 => ?_)
  · have hf := ha_it hf c60
    refine lv_aload_n hx hb dX12_program_26 rfl (lv_at hl 0 rfl) ?_
    refine lv_iconst (v := 0) hx hb dX12_program_27 (by decide) ?_
    refine ha_puti hx hb hown hK hP hD hS r201 hN h0 dX12_program_28 (fun S61 H locs eS61 hP hD hS => ?_)
    have hf := ha_nms hf eS61
    refine lv_aload_n hx hb dX12_program_31 rfl (lv_at hl 0 rfl) ?_
    obtain ⟨r62, wr62, hf⟩ := ha_bds hf
    obtain ⟨wr62, hr62⟩ := ha_rf_some wr62
    refine ha_getr hx hb hown hK hP q17 hN h0 wr62 dX12_program_32 ?_
    refine lv_iconst (v := 3) hx hb dX12_program_35 (by decide) ?_
    refine lv_iconst (v := 0) hx hb dX12_program_36 (by decide) ?_
    obtain ⟨g63, hf⟩ := ha_gds hf
    refine ha_iast hx hb hK hP hD hS hN hr62 g63 dX12_program_37 (fun S64 H locs eS64 hP hD hS => ?_)
    have hf := ha_nms hf eS64
    refine lv_aload_n hx hb dX12_program_38 rfl (lv_at hl 0 rfl) ?_
    refine lv_iconst (v := 0) hx hb dX12_program_39 (by decide) ?_
    refine ha_puti hx hb hown hK hP hD hS r233 hN h0 dX12_program_40 (fun S65 H locs eS65 hP hD hS => ?_)
    have hf := ha_nms hf eS65
    refine lv_aload_n hx hb dX12_program_43 rfl (lv_at hl 0 rfl) ?_
    refine lv_iconst (v := 0) hx hb dX12_program_44 (by decide) ?_
    refine ha_puti hx hb hown hK hP hD hS r242 hN h0 dX12_program_45 (fun S66 H locs eS66 hP hD hS => ?_)
    have hf := ha_nms hf eS66
    refine lv_aload_n hx hb dX12_program_48 rfl (lv_at hl 0 rfl) ?_
    refine lv_iconst (v := 0) hx hb dX12_program_49 (by decide) ?_
    refine ha_puti hx hb hown hK hP hD hS r164 hN h0 dX12_program_50 (fun S67 H locs eS67 hP hD hS => ?_)
    have hf := ha_nms hf eS67
    refine lv_aload_n hx hb dX12_program_53 rfl (lv_at hl 0 rfl) ?_
    obtain ⟨z68, wz68, hf⟩ := ha_bds hf
    refine ha_callVv (As := []) (rest := []) hZ ⟨hx, hb, hml, hown, hts⟩ hK hz hP hD hS (c_X12_go hZ hN h0 wz68) cw2 hN h0 (by decide) rfl rfl hl.1 rfl (Nat.le_of_ble_eq_true rfl) dX12_program_54 ⟨Nat.le_of_ble_eq_true rfl, Nat.le_of_ble_eq_true rfl⟩ (fun H locs hP hD hS => ?_)
    have key72 : ∀ (K : ((ha_St) ⊕ (Int32 × ha_St)) → Option (Int32 × ha_St)), (∀  (S : ha_St) (H : Heap) (locs : List Loc) (ls : Array Slot), K (.inl S) = some out → va_P D vwCl (ha_wl cs ad mo_kd mo_ln N S) H → va_D (ha_A ad N) (ha_wl cs ad mo_kd mo_ln N S) → va_S (ha_A ad N) s.heap H locs → lv_has ls 3 [(0, .ref (ad p0)), (1, .int p1)] → W p l e (headSpec wsX12_program ({ frames := 6, cells := 0, slots := 0, locals := 132 } : Room)).room s m ([.ref (ad p0), .int p1] : List Value).toArray below meth c H locs 0 0 (MQ below (va_Qi (fun (r : Int32) (_ : Unit) => r = out.1) (fun _ => ha_H D cs ad mo_kd mo_ln N out.2) (ha_A ad N)) ([.ref (ad p0), .int p1] : List Value).toArray s 0 0 (ha_A ad N)) (F0 m 78 ls [])) → (∀ r, K (.inr r) = some out → r = out) → ∀ (n : Nat)  (S : ha_St) (H : Heap) (locs : List Loc) (ls : Array Slot), (f_X12_program_L57i p0 p1 n S).bind K = some out → va_P D vwCl (ha_wl cs ad mo_kd mo_ln N S) H → va_D (ha_A ad N) (ha_wl cs ad mo_kd mo_ln N S) → va_S (ha_A ad N) s.heap H locs → lv_has ls 3 [(0, .ref (ad p0)), (1, .int p1)] → W p l e (headSpec wsX12_program ({ frames := 6, cells := 0, slots := 0, locals := 132 } : Room)).room s m ([.ref (ad p0), .int p1] : List Value).toArray below meth c H locs 0 0 (MQ below (va_Qi (fun (r : Int32) (_ : Unit) => r = out.1) (fun _ => ha_H D cs ad mo_kd mo_ln N out.2) (ha_A ad N)) ([.ref (ad p0), .int p1] : List Value).toArray s 0 0 (ha_A ad N)) (F0 m 57 ls []) := by
      intro K hk hke n
      induction n with
      | zero =>
        intro  S H locs ls hf
        exact absurd (show (none : Option (Int32 × ha_St)) = some out from hf) (fun h => by cases h)
      | succ n ih =>
        intro  S H locs ls hf  hP hD hS hl
        have hf : (f_X12_program_L57 p0 p1 (f_X12_program_L57i p0 p1 n)  S).bind K = some out := hf
        unfold f_X12_program_L57 at hf
        refine lv_aload_n hx hb dX12_program_57 rfl (lv_at hl 0 rfl) ?_
        refine ha_geti hx hb hown hK hP q170 hN h0 dX12_program_58 ?_
        refine lv_if_eq (tgt := 78) hx hb dX12_program_61 (by decide) (fun c69 => ?_) (fun c69 => ?_)
        · have hf := ha_it hf c69
          exact hk  S H locs ls hf  hP hD hS (lv_sub hl [0, 1] rfl)
        · have hf := ha_if hf c69
          refine lv_aload_n hx hb dX12_program_64 rfl (lv_at hl 0 rfl) ?_
          obtain ⟨z70, wz70, hf⟩ := ha_bds hf
          refine ha_callVi (As := []) (rest := []) hZ ⟨hx, hb, hml, hown, hts⟩ hK hz hP hD hS (c_X12_readRule hZ hN h0 wz70) cw3 hN h0 (by decide) rfl rfl hl.1 rfl (Nat.le_of_ble_eq_true rfl) dX12_program_65 ⟨Nat.le_of_ble_eq_true rfl, Nat.le_of_ble_eq_true rfl⟩ (fun H locs hP hD hS => ?_)
          refine lv_if_ne (tgt := 57) hx hb dX12_program_68 (by decide) (fun c71 => ?_) (fun c71 => ?_)
          · have hf := ha_it hf c71
            exact ih  z70.2 H locs ls hf  hP hD hS (lv_sub hl [0, 1] rfl)
          · have hf := ha_if hf (fun q => q c71)
            refine lv_iconst (v := (-1)) hx hb dX12_program_71 (by decide) ?_
            refine lv_aload_n hx hb dX12_program_72 rfl (lv_at hl 0 rfl) ?_
            refine ha_geti hx hb hown hK hP q204 hN h0 dX12_program_73 ?_
            refine lv_isub hx hb dX12_program_76 ?_
            have he := hke _ hf
            exact ha_reti hx hb hr hlocks hP hD hS dX12_program_77 (ha_e1 he) (ha_e2 he)
    refine key72 _ (fun  S H locs ls hf  hP hD hS hl => ?_) (fun r h => Option.some.inj h) ha_fu  z68 H locs ls (ha_as hf)  hP hD hS (lv_sub hl [0, 1] rfl)
    have hf : (f_X12_program_J78 p0 p1  S).bind some = some out := hf
    exact J78  S H locs ls hf  hP hD hS (lv_sub hl [0, 1] rfl)
  · have hf := ha_if hf (fun q => q c60)
    refine lv_sipush (v := (-1000)) hx hb dX12_program_22 (by decide) ?_
    have he := Option.some.inj hf
    exact ha_reti hx hb hr hlocks hP hD hS dX12_program_25 (ha_e1 he) (ha_e2 he)

set_option maxHeartbeats 4000000 in
set_option maxRecDepth 100000 in
theorem c_X12_fault {l : Launch} {D : va_G} {cs : Nat → ClassId} {ad : Nat → Nat} {N : List Nat} {Z : State → Prop} (hZ : ha_Zok (ha_A ad N) Z) (hN : ∀ x, mo_kd x < 999 → x ∈ N) {p0 : Nat} {S : ha_St} {out : Int32 × ha_St} (h0 : mo_kd p0 = 12) (hf : f_X12_fault p0 S = some out) : ha_Ci l D cs ad mo_kd mo_ln N Z yX12_fault wsX12_fault ({ frames := 0, cells := 0, slots := 0, locals := 0 } : Room) [.ref (ad p0)] S out.1 out.2 := by
  refine Met.ofW (cc := cX12_fault) (maxL := 1) (ret := (some .int)) (by decide +kernel) rfl ?_
  intro p e s m args below meth c s₁ B hml hv
  obtain ⟨rfl, hP, hD, hK, hz⟩ := hv
  have hx := B.exec
  have hb := B.bytes
  have hr := B.returns
  have hts := atoms_spec (ws := wsX12_fault) B.pre
  have hown : s.vm.findClass RX12 = some m.cls := findClass_of_methodNamed B.named
  have hlocks := B.notSynchronized
  have hS : va_S (ha_A ad N) s.heap s.heap [] := va_S.rf
  have hi12 : ∀ w ∈ wsX120, w ∈ wsX12_fault := fun w h => List.mem_cons_of_mem _ (List.mem_append_right _ h)
  have q201 : ha_Fk s ([.ref (ad p0)] : List Value).toArray RX12 201 12 11 0 := ⟨RX12, TX12, 83, wsX12_fault, rfl, by decide, by decide, rfl, rfl, hts, hi12, hts (.fieldLink RX12 201 "HillArmsModel" "fault" "I") (by decide +kernel)⟩
  have r138 : ha_Fp s ([.ref (ad p0)] : List Value).toArray RX12 138 12 0 0 .int := ⟨RX12, TX12, 83, wsX12_fault, tyX12, rfl, by decide, by decide, rfl, rfl, hts, hi12, hts (.fieldLink RX12 138 "HillArmsModel" "thrown" "I") (by decide +kernel), tyX12_ok, nmX12, rfl, by decide +kernel⟩
  have hl := lv_entry ([.ref (ad p0)]) (n := 1) (Nat.le_of_ble_eq_true rfl)
  rw [lg_entry_eq]
  generalize (lg_sl ([.ref (ad p0)]) ++ List.replicate (1 - (lg_sl ([.ref (ad p0)])).length) Slot.unset).toArray = ls at hl ⊢
  have hl : lv_has ls 1 [(0, .ref (ad p0))] := hl
  refine (fun (K0 : ∀ (H : Heap) (locs : List Loc), va_P D vwCl (ha_wl cs ad mo_kd mo_ln N S) H → va_S (ha_A ad N) s.heap H locs → W p l e (headSpec wsX12_fault ({ frames := 0, cells := 0, slots := 0, locals := 0 } : Room)).room s m ([.ref (ad p0)] : List Value).toArray below meth c H locs 0 0 (MQ below (va_Qi (fun (r : Int32) (_ : Unit) => r = out.1) (fun _ => ha_H D cs ad mo_kd mo_ln N out.2) (ha_A ad N)) ([.ref (ad p0)] : List Value).toArray s 0 0 (ha_A ad N)) (F0 m 0 ls [])) => K0 _ _ hP hS) ?_
  intro H locs hP hS
  have hf := ha_rt hf
  unfold f_X12_fault at hf
  refine lv_aload_n hx hb dX12_fault_0 rfl (lv_at hl 0 rfl) ?_
  refine lv_iconst (v := 0) hx hb dX12_fault_1 (by decide) ?_
  refine ha_puti hx hb hown hK hP hD hS r138 hN h0 dX12_fault_2 (fun S1 H locs eS1 hP hD hS => ?_)
  have hf := ha_nms hf eS1
  refine lv_aload_n hx hb dX12_fault_5 rfl (lv_at hl 0 rfl) ?_
  refine ha_geti hx hb hown hK hP q201 hN h0 dX12_fault_6 ?_
  have he := Option.some.inj hf
  exact ha_reti hx hb hr hlocks hP hD hS dX12_fault_9 (ha_e1 he) (ha_e2 he)

set_option maxHeartbeats 4000000 in
set_option maxRecDepth 100000 in
theorem c_X12_message {l : Launch} {D : va_G} {cs : Nat → ClassId} {ad : Nat → Nat} {N : List Nat} {Z : State → Prop} (hZ : ha_Zok (ha_A ad N) Z) (hN : ∀ x, mo_kd x < 999 → x ∈ N) {p0 : Nat} {S : ha_St} {out : Int32 × ha_St} (h0 : mo_kd p0 = 12) (hf : f_X12_message p0 S = some out) : ha_Ci l D cs ad mo_kd mo_ln N Z yX12_message wsX12_message ({ frames := 1, cells := 0, slots := 0, locals := 22 } : Room) [.ref (ad p0)] S out.1 out.2 := by
  refine Met.ofW (cc := cX12_message) (maxL := 3) (ret := (some .boolean)) (by decide +kernel) rfl ?_
  intro p e s m args below meth c s₁ B hml hv
  obtain ⟨rfl, hP, hD, hK, hz⟩ := hv
  have hx := B.exec
  have hb := B.bytes
  have hr := B.returns
  have hts := atoms_spec (ws := wsX12_message) B.pre
  have hown : s.vm.findClass RX12 = some m.cls := findClass_of_methodNamed B.named
  have hlocks := B.notSynchronized
  have hS : va_S (ha_A ad N) s.heap s.heap [] := va_S.rf
  have hi12 : ∀ w ∈ wsX120, w ∈ wsX12_message := fun w h => List.mem_cons_of_mem _ (List.mem_append_right _ h)
  have q44 : ha_Fk s ([.ref (ad p0)] : List Value).toArray RX12 44 12 26 1 := ⟨RX12, TX12, 83, wsX12_message, rfl, by decide, by decide, rfl, rfl, hts, hi12, hts (.fieldLink RX12 44 "HillArmsModel" "message" "[I") (by decide +kernel)⟩
  have q7 : ha_Fk s ([.ref (ad p0)] : List Value).toArray RX12 7 12 1 1 := ⟨RX12, TX12, 83, wsX12_message, rfl, by decide, by decide, rfl, rfl, hts, hi12, hts (.fieldLink RX12 7 "HillArmsModel" "tape" "[I") (by decide +kernel)⟩
  have r264 : ha_Fp s ([.ref (ad p0)] : List Value).toArray RX12 264 12 30 0 .int := ⟨RX12, TX12, 83, wsX12_message, tyX12, rfl, by decide, by decide, rfl, rfl, hts, hi12, hts (.fieldLink RX12 264 "HillArmsModel" "signs" "I") (by decide +kernel), tyX12_ok, nmX12, rfl, by decide +kernel⟩
  have r138 : ha_Fp s ([.ref (ad p0)] : List Value).toArray RX12 138 12 0 0 .int := ⟨RX12, TX12, 83, wsX12_message, tyX12, rfl, by decide, by decide, rfl, rfl, hts, hi12, hts (.fieldLink RX12 138 "HillArmsModel" "thrown" "I") (by decide +kernel), tyX12_ok, nmX12, rfl, by decide +kernel⟩
  have cw0 := cwV (R := (headSpec wsX12_message ({ frames := 1, cells := 0, slots := 0, locals := 22 } : Room)).room) 0 hts gX12_message_X12_take (rm := ({ frames := 0, cells := 0, slots := 0, locals := 0 } : Room)) (mc := 0) (ms := 0) rfl rfl rfl (by decide +kernel) ⟨Nat.le_of_ble_eq_true rfl, Nat.le_of_ble_eq_true rfl⟩
  have cw1 := va_cwS (R := (headSpec wsX12_message ({ frames := 1, cells := 0, slots := 0, locals := 22 } : Room)).room) 3 hts gX12_message_X12_isIn (rm := ({ frames := 0, cells := 0, slots := 0, locals := 0 } : Room)) (mc := 0) (ms := 0) rfl rfl rfl (by decide +kernel) ⟨Nat.le_of_ble_eq_true rfl, Nat.le_of_ble_eq_true rfl⟩
  have hl := lv_entry ([.ref (ad p0)]) (n := 3) (Nat.le_of_ble_eq_true rfl)
  rw [lg_entry_eq]
  generalize (lg_sl ([.ref (ad p0)]) ++ List.replicate (3 - (lg_sl ([.ref (ad p0)])).length) Slot.unset).toArray = ls at hl ⊢
  have hl : lv_has ls 3 [(0, .ref (ad p0))] := hl
  refine (fun (K0 : ∀ (H : Heap) (locs : List Loc), va_P D vwCl (ha_wl cs ad mo_kd mo_ln N S) H → va_S (ha_A ad N) s.heap H locs → W p l e (headSpec wsX12_message ({ frames := 1, cells := 0, slots := 0, locals := 22 } : Room)).room s m ([.ref (ad p0)] : List Value).toArray below meth c H locs 0 0 (MQ below (va_Qi (fun (r : Int32) (_ : Unit) => r = out.1) (fun _ => ha_H D cs ad mo_kd mo_ln N out.2) (ha_A ad N)) ([.ref (ad p0)] : List Value).toArray s 0 0 (ha_A ad N)) (F0 m 0 ls [])) => K0 _ _ hP hS) ?_
  intro H locs hP hS
  have hf := ha_rt hf
  have J73 : ∀ (v1 : Int32) (S : ha_St) (H : Heap) (locs : List Loc) (ls : Array Slot), (f_X12_message_J73 p0 v1 S).bind some = some out → va_P D vwCl (ha_wl cs ad mo_kd mo_ln N S) H → va_D (ha_A ad N) (ha_wl cs ad mo_kd mo_ln N S) → va_S (ha_A ad N) s.heap H locs → lv_has ls 3 [(0, .ref (ad p0)), (1, .int v1)] → W p l e (headSpec wsX12_message ({ frames := 1, cells := 0, slots := 0, locals := 22 } : Room)).room s m ([.ref (ad p0)] : List Value).toArray below meth c H locs 0 0 (MQ below (va_Qi (fun (r : Int32) (_ : Unit) => r = out.1) (fun _ => ha_H D cs ad mo_kd mo_ln N out.2) (ha_A ad N)) ([.ref (ad p0)] : List Value).toArray s 0 0 (ha_A ad N)) (F0 m 73 ls []) := by
    intro v1 S H locs ls hf  hP hD hS hl
    unfold f_X12_message_J73 at hf
    refine lv_aload_n hx hb dX12_message_73 rfl (lv_at hl 0 rfl) ?_
    refine lv_iload_n hx hb dX12_message_74 rfl (lv_at hl 1 rfl) ?_
    refine ha_puti hx hb hown hK hP hD hS r264 hN h0 dX12_message_75 (fun S1 H locs eS1 hP hD hS => ?_)
    have hf := ha_nms hf eS1
    refine lv_iconst (v := 1) hx hb dX12_message_78 (by decide) ?_
    have he := Option.some.inj hf
    exact ha_retz hx hb hr hlocks hP hD hS dX12_message_79 (by decide) (ha_e1 he) (ha_e2 he)
  have J48 : ∀ (v1 : Int32) (S : ha_St) (H : Heap) (locs : List Loc) (ls : Array Slot), (f_X12_message_J48 p0 v1 S).bind some = some out → va_P D vwCl (ha_wl cs ad mo_kd mo_ln N S) H → va_D (ha_A ad N) (ha_wl cs ad mo_kd mo_ln N S) → va_S (ha_A ad N) s.heap H locs → lv_has ls 3 [(0, .ref (ad p0)), (1, .int v1)] → W p l e (headSpec wsX12_message ({ frames := 1, cells := 0, slots := 0, locals := 22 } : Room)).room s m ([.ref (ad p0)] : List Value).toArray below meth c H locs 0 0 (MQ below (va_Qi (fun (r : Int32) (_ : Unit) => r = out.1) (fun _ => ha_H D cs ad mo_kd mo_ln N out.2) (ha_A ad N)) ([.ref (ad p0)] : List Value).toArray s 0 0 (ha_A ad N)) (F0 m 48 ls []) := by
    intro v1 S H locs ls hf  hP hD hS hl
    unfold f_X12_message_J48 at hf
    refine lv_iconst (v := 0) hx hb dX12_message_48 (by decide) ?_
    refine lv_istore_n (lv' := [(2, .int 0), (0, .ref (ad p0)), (1, .int v1)]) hx hb dX12_message_49 rfl hl (by decide) rfl (fun ls hl => ?_)
    have key9 : ∀ (K : (Int32 × ha_St) → Option (Int32 × ha_St)), (∀ (v1 : Int32) (S : ha_St) (H : Heap) (locs : List Loc) (ls : Array Slot), K (v1, S) = some out → va_P D vwCl (ha_wl cs ad mo_kd mo_ln N S) H → va_D (ha_A ad N) (ha_wl cs ad mo_kd mo_ln N S) → va_S (ha_A ad N) s.heap H locs → lv_has ls 3 [(0, .ref (ad p0)), (1, .int v1)] → W p l e (headSpec wsX12_message ({ frames := 1, cells := 0, slots := 0, locals := 22 } : Room)).room s m ([.ref (ad p0)] : List Value).toArray below meth c H locs 0 0 (MQ below (va_Qi (fun (r : Int32) (_ : Unit) => r = out.1) (fun _ => ha_H D cs ad mo_kd mo_ln N out.2) (ha_A ad N)) ([.ref (ad p0)] : List Value).toArray s 0 0 (ha_A ad N)) (F0 m 73 ls [])) → ∀ (n : Nat) (v1 : Int32) (v2 : Int32) (S : ha_St) (H : Heap) (locs : List Loc) (ls : Array Slot), (f_X12_message_L50i p0 n (v1, v2, S)).bind K = some out → va_P D vwCl (ha_wl cs ad mo_kd mo_ln N S) H → va_D (ha_A ad N) (ha_wl cs ad mo_kd mo_ln N S) → va_S (ha_A ad N) s.heap H locs → lv_has ls 3 [(0, .ref (ad p0)), (1, .int v1), (2, .int v2)] → W p l e (headSpec wsX12_message ({ frames := 1, cells := 0, slots := 0, locals := 22 } : Room)).room s m ([.ref (ad p0)] : List Value).toArray below meth c H locs 0 0 (MQ below (va_Qi (fun (r : Int32) (_ : Unit) => r = out.1) (fun _ => ha_H D cs ad mo_kd mo_ln N out.2) (ha_A ad N)) ([.ref (ad p0)] : List Value).toArray s 0 0 (ha_A ad N)) (F0 m 50 ls []) := by
      intro K hk n
      induction n with
      | zero =>
        intro v1 v2 S H locs ls hf
        exact absurd (show (none : Option (Int32 × ha_St)) = some out from hf) (fun h => by cases h)
      | succ n ih =>
        intro v1 v2 S H locs ls hf  hP hD hS hl
        have hf : (f_X12_message_L50 p0 (f_X12_message_L50i p0 n) v1 v2 S).bind K = some out := hf
        unfold f_X12_message_L50 at hf
        refine lv_iload_n hx hb dX12_message_50 rfl (lv_at hl 2 rfl) ?_
        refine lv_iload_n hx hb dX12_message_51 rfl (lv_at hl 1 rfl) ?_
        refine lv_icmp_ge (tgt := 73) hx hb dX12_message_52 (by decide) (fun c2 => ?_) (fun c2 => ?_)
        · have hf := ha_it hf c2
          exact hk v1 S H locs ls hf  hP hD hS (lv_sub hl [0, 1] rfl)
        · have hf := ha_if hf c2
          refine lv_aload_n hx hb dX12_message_55 rfl (lv_at hl 0 rfl) ?_
          obtain ⟨r3, wr3, hf⟩ := ha_bds hf
          obtain ⟨wr3, hr3⟩ := ha_rf_some wr3
          refine ha_getr hx hb hown hK hP q44 hN h0 wr3 dX12_message_56 ?_
          refine lv_iload_n hx hb dX12_message_59 rfl (lv_at hl 2 rfl) ?_
          refine lv_aload_n hx hb dX12_message_60 rfl (lv_at hl 0 rfl) ?_
          obtain ⟨r4, wr4, hf⟩ := ha_bds hf
          obtain ⟨wr4, hr4⟩ := ha_rf_some wr4
          refine ha_getr hx hb hown hK hP q7 hN h0 wr4 dX12_message_61 ?_
          refine lv_iload_n hx hb dX12_message_64 rfl (lv_at hl 2 rfl) ?_
          obtain ⟨g5, hf⟩ := ha_gds hf
          refine ha_iald hx hb hK hP hN hr4 g5 dX12_message_65 ?_
          obtain ⟨g6, hf⟩ := ha_gds hf
          refine ha_iast hx hb hK hP hD hS hN hr3 g6 dX12_message_66 (fun S7 H locs eS7 hP hD hS => ?_)
          have hf := ha_nms hf eS7
          obtain ⟨x8, ex8⟩ : ∃ y : Int32, y = (v2 : Int32) + 1 := ⟨_, rfl⟩
          have hf := ha_nms hf ex8
          refine lv_iinc (v := x8) (lv' := [(2, .int x8), (0, .ref (ad p0)), (1, .int v1)]) hx hb dX12_message_67 hl (k := 2) rfl (by rw [ex8]; rfl) (by decide) rfl (fun ls hl => ?_)
          refine lv_goto (tgt := 50) hx hb dX12_message_70 (by decide) ?_
          exact ih v1 x8 S7 H locs ls hf  hP hD hS (lv_sub hl [1, 2, 0] rfl)
    refine key9 _ (fun v1 S H locs ls hf  hP hD hS hl => ?_) ha_fu v1 0 S H locs ls (ha_as hf)  hP hD hS (lv_sub hl [1, 2, 0] rfl)
    have hf : (f_X12_message_J73 p0 v1 S).bind some = some out := hf
    exact J73 v1 S H locs ls hf  hP hD hS (lv_sub hl [0, 1] rfl)
  unfold f_X12_message at hf
  refine lv_aload_n hx hb dX12_message_0 rfl (lv_at hl 0 rfl) ?_
  refine lv_iconst (v := 0) hx hb dX12_message_1 (by decide) ?_
  refine ha_puti hx hb hown hK hP hD hS r138 hN h0 dX12_message_2 (fun S11 H locs eS11 hP hD hS => ?_)
  have hf := ha_nms hf eS11
  refine lv_aload_n hx hb dX12_message_5 rfl (lv_at hl 0 rfl) ?_
  obtain ⟨z12, wz12, hf⟩ := ha_bds hf
  refine ha_callVi (As := []) (rest := []) hZ ⟨hx, hb, hml, hown, hts⟩ hK hz hP hD hS (c_X12_take hZ hN h0 wz12) cw0 hN h0 (by decide) rfl rfl hl.1 rfl (Nat.le_of_ble_eq_true rfl) dX12_message_6 ⟨Nat.le_of_ble_eq_true rfl, Nat.le_of_ble_eq_true rfl⟩ (fun H locs hP hD hS => ?_)
  refine lv_istore_n (lv' := [(1, .int z12.1), (0, .ref (ad p0))]) hx hb dX12_message_9 rfl hl (by decide) rfl (fun ls hl => ?_)
  refine lv_iload_n hx hb dX12_message_10 rfl (lv_at hl 0 rfl) ?_
  refine lv_bipush (v := 60) hx hb dX12_message_11 (by decide) ?_
  refine lv_icmp_le (tgt := 18) hx hb dX12_message_13 (by decide) (fun c13 => ?_) (fun c13 => ?_)
  · have hf := ha_it hf c13
    refine lv_iconst (v := 0) hx hb dX12_message_18 (by decide) ?_
    refine lv_istore_n (lv' := [(2, .int 0), (1, .int z12.1), (0, .ref (ad p0))]) hx hb dX12_message_19 rfl hl (by decide) rfl (fun ls hl => ?_)
    have key20 : ∀ (K : ((Int32 × ha_St) ⊕ (Int32 × ha_St)) → Option (Int32 × ha_St)), (∀ (v1 : Int32) (S : ha_St) (H : Heap) (locs : List Loc) (ls : Array Slot), K (.inl (v1, S)) = some out → va_P D vwCl (ha_wl cs ad mo_kd mo_ln N S) H → va_D (ha_A ad N) (ha_wl cs ad mo_kd mo_ln N S) → va_S (ha_A ad N) s.heap H locs → lv_has ls 3 [(0, .ref (ad p0)), (1, .int v1)] → W p l e (headSpec wsX12_message ({ frames := 1, cells := 0, slots := 0, locals := 22 } : Room)).room s m ([.ref (ad p0)] : List Value).toArray below meth c H locs 0 0 (MQ below (va_Qi (fun (r : Int32) (_ : Unit) => r = out.1) (fun _ => ha_H D cs ad mo_kd mo_ln N out.2) (ha_A ad N)) ([.ref (ad p0)] : List Value).toArray s 0 0 (ha_A ad N)) (F0 m 48 ls [])) → (∀ r, K (.inr r) = some out → r = out) → ∀ (n : Nat) (v1 : Int32) (v2 : Int32) (S : ha_St) (H : Heap) (locs : List Loc) (ls : Array Slot), (f_X12_message_L20i p0 n (v1, v2, S)).bind K = some out → va_P D vwCl (ha_wl cs ad mo_kd mo_ln N S) H → va_D (ha_A ad N) (ha_wl cs ad mo_kd mo_ln N S) → va_S (ha_A ad N) s.heap H locs → lv_has ls 3 [(0, .ref (ad p0)), (1, .int v1), (2, .int v2)] → W p l e (headSpec wsX12_message ({ frames := 1, cells := 0, slots := 0, locals := 22 } : Room)).room s m ([.ref (ad p0)] : List Value).toArray below meth c H locs 0 0 (MQ below (va_Qi (fun (r : Int32) (_ : Unit) => r = out.1) (fun _ => ha_H D cs ad mo_kd mo_ln N out.2) (ha_A ad N)) ([.ref (ad p0)] : List Value).toArray s 0 0 (ha_A ad N)) (F0 m 20 ls []) := by
      intro K hk hke n
      induction n with
      | zero =>
        intro v1 v2 S H locs ls hf
        exact absurd (show (none : Option (Int32 × ha_St)) = some out from hf) (fun h => by cases h)
      | succ n ih =>
        intro v1 v2 S H locs ls hf  hP hD hS hl
        have hf : (f_X12_message_L20 p0 (f_X12_message_L20i p0 n) v1 v2 S).bind K = some out := hf
        unfold f_X12_message_L20 at hf
        refine lv_iload_n hx hb dX12_message_20 rfl (lv_at hl 2 rfl) ?_
        refine lv_iload_n hx hb dX12_message_21 rfl (lv_at hl 1 rfl) ?_
        refine lv_icmp_ge (tgt := 48) hx hb dX12_message_22 (by decide) (fun c14 => ?_) (fun c14 => ?_)
        · have hf := ha_it hf c14
          exact hk v1 S H locs ls hf  hP hD hS (lv_sub hl [0, 1] rfl)
        · have hf := ha_if hf c14
          refine lv_aload_n hx hb dX12_message_25 rfl (lv_at hl 0 rfl) ?_
          obtain ⟨r15, wr15, hf⟩ := ha_bds hf
          obtain ⟨wr15, hr15⟩ := ha_rf_some wr15
          refine ha_getr hx hb hown hK hP q7 hN h0 wr15 dX12_message_26 ?_
          refine lv_iload_n hx hb dX12_message_29 rfl (lv_at hl 2 rfl) ?_
          obtain ⟨g16, hf⟩ := ha_gds hf
          refine ha_iald hx hb hK hP hN hr15 g16 dX12_message_30 ?_
          refine lv_iconst (v := 1) hx hb dX12_message_31 (by decide) ?_
          refine lv_bipush (v := 63) hx hb dX12_message_32 (by decide) ?_
          obtain ⟨z17, wz17, hf⟩ := ha_bds hf
          refine ha_callSi (As := [.int ((ha_gA S r15 (v2 : Int32).toNatClampNeg)), .int 1, .int 63]) (rest := []) hZ ⟨hx, hb, hml, hown, hts⟩ hK hz hP hD hS (c_X12_isIn   wz17) cw1 rfl hl.1 rfl (Nat.le_of_ble_eq_true rfl) dX12_message_34 ⟨Nat.le_of_ble_eq_true rfl, Nat.le_of_ble_eq_true rfl⟩ (fun H locs hP hD hS => ?_)
          refine lv_if_ne (tgt := 42) hx hb dX12_message_37 (by decide) (fun c18 => ?_) (fun c18 => ?_)
          · have hf := ha_it hf c18
            obtain ⟨x19, ex19⟩ : ∃ y : Int32, y = (v2 : Int32) + 1 := ⟨_, rfl⟩
            have hf := ha_nms hf ex19
            refine lv_iinc (v := x19) (lv' := [(2, .int x19), (0, .ref (ad p0)), (1, .int v1)]) hx hb dX12_message_42 hl (k := 2) rfl (by rw [ex19]; rfl) (by decide) rfl (fun ls hl => ?_)
            refine lv_goto (tgt := 20) hx hb dX12_message_45 (by decide) ?_
            exact ih v1 x19 S H locs ls hf  hP hD hS (lv_sub hl [1, 2, 0] rfl)
          · have hf := ha_if hf (fun q => q c18)
            refine lv_iconst (v := 0) hx hb dX12_message_40 (by decide) ?_
            have he := hke _ hf
            exact ha_retz hx hb hr hlocks hP hD hS dX12_message_41 (by decide) (ha_e1 he) (ha_e2 he)
    refine key20 _ (fun v1 S H locs ls hf  hP hD hS hl => ?_) (fun r h => Option.some.inj h) ha_fu z12.1 0 z12.2 H locs ls (ha_as hf)  hP hD hS (lv_sub hl [2, 1, 0] rfl)
    have hf : (f_X12_message_J48 p0 v1 S).bind some = some out := hf
    exact J48 v1 S H locs ls hf  hP hD hS (lv_sub hl [0, 1] rfl)
  · have hf := ha_if hf c13
    refine lv_iconst (v := 0) hx hb dX12_message_16 (by decide) ?_
    have he := Option.some.inj hf
    exact ha_retz hx hb hr hlocks hP hD hS dX12_message_17 (by decide) (ha_e1 he) (ha_e2 he)

set_option maxHeartbeats 4000000 in
set_option maxRecDepth 100000 in
theorem c_X12_fog {l : Launch} {D : va_G} {cs : Nat → ClassId} {ad : Nat → Nat} {N : List Nat} {Z : State → Prop} (hZ : ha_Zok (ha_A ad N) Z) (hN : ∀ x, mo_kd x < 999 → x ∈ N) {p0 : Nat} {p1 : Int32} {p2 : Int32} {p3 : Int32} {S : ha_St} {out : Int32 × ha_St} (h0 : mo_kd p0 = 12) (hf : f_X12_fog p0 p1 p2 p3 S = some out) : ha_Ci l D cs ad mo_kd mo_ln N Z yX12_fog wsX12_fog ({ frames := 1, cells := 0, slots := 0, locals := 22 } : Room) [.ref (ad p0), .int p1, .int p2, .int p3] S out.1 out.2 := by
  refine Met.ofW (cc := cX12_fog) (maxL := 4) (ret := (some .int)) (by decide +kernel) rfl ?_
  intro p e s m args below meth c s₁ B hml hv
  obtain ⟨rfl, hP, hD, hK, hz⟩ := hv
  have hx := B.exec
  have hb := B.bytes
  have hr := B.returns
  have hts := atoms_spec (ws := wsX12_fog) B.pre
  have hown : s.vm.findClass RX12 = some m.cls := findClass_of_methodNamed B.named
  have hlocks := B.notSynchronized
  have hS : va_S (ha_A ad N) s.heap s.heap [] := va_S.rf
  have hi12 : ∀ w ∈ wsX120, w ∈ wsX12_fog := fun w h => List.mem_cons_of_mem _ (List.mem_append_right _ h)
  have q155 : ha_Fk s ([.ref (ad p0), .int p1, .int p2, .int p3] : List Value).toArray RX12 155 12 31 0 := ⟨RX12, TX12, 83, wsX12_fog, rfl, by decide, by decide, rfl, rfl, hts, hi12, hts (.fieldLink RX12 155 "HillArmsModel" "fogs" "I") (by decide +kernel)⟩
  have q13 : ha_Fk s ([.ref (ad p0), .int p1, .int p2, .int p3] : List Value).toArray RX12 13 12 4 0 := ⟨RX12, TX12, 83, wsX12_fog, rfl, by decide, by decide, rfl, rfl, hts, hi12, hts (.fieldLink RX12 13 "HillArmsModel" "n" "I") (by decide +kernel)⟩
  have q47 : ha_Fk s ([.ref (ad p0), .int p1, .int p2, .int p3] : List Value).toArray RX12 47 12 27 1 := ⟨RX12, TX12, 83, wsX12_fog, rfl, by decide, by decide, rfl, rfl, hts, hi12, hts (.fieldLink RX12 47 "HillArmsModel" "fogAhead" "[I") (by decide +kernel)⟩
  have q50 : ha_Fk s ([.ref (ad p0), .int p1, .int p2, .int p3] : List Value).toArray RX12 50 12 28 1 := ⟨RX12, TX12, 83, wsX12_fog, rfl, by decide, by decide, rfl, rfl, hts, hi12, hts (.fieldLink RX12 50 "HillArmsModel" "fogFrom" "[I") (by decide +kernel)⟩
  have q53 : ha_Fk s ([.ref (ad p0), .int p1, .int p2, .int p3] : List Value).toArray RX12 53 12 29 1 := ⟨RX12, TX12, 83, wsX12_fog, rfl, by decide, by decide, rfl, rfl, hts, hi12, hts (.fieldLink RX12 53 "HillArmsModel" "fogTo" "[I") (by decide +kernel)⟩
  have r138 : ha_Fp s ([.ref (ad p0), .int p1, .int p2, .int p3] : List Value).toArray RX12 138 12 0 0 .int := ⟨RX12, TX12, 83, wsX12_fog, tyX12, rfl, by decide, by decide, rfl, rfl, hts, hi12, hts (.fieldLink RX12 138 "HillArmsModel" "thrown" "I") (by decide +kernel), tyX12_ok, nmX12, rfl, by decide +kernel⟩
  have r155 : ha_Fp s ([.ref (ad p0), .int p1, .int p2, .int p3] : List Value).toArray RX12 155 12 31 0 .int := ⟨RX12, TX12, 83, wsX12_fog, tyX12, rfl, by decide, by decide, rfl, rfl, hts, hi12, hts (.fieldLink RX12 155 "HillArmsModel" "fogs" "I") (by decide +kernel), tyX12_ok, nmX12, rfl, by decide +kernel⟩
  have cw0 := va_cwS (R := (headSpec wsX12_fog ({ frames := 1, cells := 0, slots := 0, locals := 22 } : Room)).room) 3 hts gX12_fog_X12_isIn (rm := ({ frames := 0, cells := 0, slots := 0, locals := 0 } : Room)) (mc := 0) (ms := 0) rfl rfl rfl (by decide +kernel) ⟨Nat.le_of_ble_eq_true rfl, Nat.le_of_ble_eq_true rfl⟩
  have hl := lv_entry ([.ref (ad p0), .int p1, .int p2, .int p3]) (n := 4) (Nat.le_of_ble_eq_true rfl)
  rw [lg_entry_eq]
  generalize (lg_sl ([.ref (ad p0), .int p1, .int p2, .int p3]) ++ List.replicate (4 - (lg_sl ([.ref (ad p0), .int p1, .int p2, .int p3])).length) Slot.unset).toArray = ls at hl ⊢
  have hl : lv_has ls 4 [(0, .ref (ad p0)), (1, .int p1), (2, .int p2), (3, .int p3)] := hl
  refine (fun (K0 : ∀ (H : Heap) (locs : List Loc), va_P D vwCl (ha_wl cs ad mo_kd mo_ln N S) H → va_S (ha_A ad N) s.heap H locs → W p l e (headSpec wsX12_fog ({ frames := 1, cells := 0, slots := 0, locals := 22 } : Room)).room s m ([.ref (ad p0), .int p1, .int p2, .int p3] : List Value).toArray below meth c H locs 0 0 (MQ below (va_Qi (fun (r : Int32) (_ : Unit) => r = out.1) (fun _ => ha_H D cs ad mo_kd mo_ln N out.2) (ha_A ad N)) ([.ref (ad p0), .int p1, .int p2, .int p3] : List Value).toArray s 0 0 (ha_A ad N)) (F0 m 0 ls [])) => K0 _ _ hP hS) ?_
  intro H locs hP hS
  have hf := ha_rt hf
  have J50 : ∀  (S : ha_St) (H : Heap) (locs : List Loc) (ls : Array Slot), (f_X12_fog_J50 p0 p1 p2 p3  S).bind some = some out → va_P D vwCl (ha_wl cs ad mo_kd mo_ln N S) H → va_D (ha_A ad N) (ha_wl cs ad mo_kd mo_ln N S) → va_S (ha_A ad N) s.heap H locs → lv_has ls 4 [(0, .ref (ad p0)), (1, .int p1), (2, .int p2), (3, .int p3)] → W p l e (headSpec wsX12_fog ({ frames := 1, cells := 0, slots := 0, locals := 22 } : Room)).room s m ([.ref (ad p0), .int p1, .int p2, .int p3] : List Value).toArray below meth c H locs 0 0 (MQ below (va_Qi (fun (r : Int32) (_ : Unit) => r = out.1) (fun _ => ha_H D cs ad mo_kd mo_ln N out.2) (ha_A ad N)) ([.ref (ad p0), .int p1, .int p2, .int p3] : List Value).toArray s 0 0 (ha_A ad N)) (F0 m 50 ls []) := by
    intro  S H locs ls hf  hP hD hS hl
    unfold f_X12_fog_J50 at hf
    refine lv_iconst (v := (-1)) hx hb dX12_fog_50 (by decide) ?_
    have he := Option.some.inj hf
    exact ha_reti hx hb hr hlocks hP hD hS dX12_fog_51 (ha_e1 he) (ha_e2 he)
  unfold f_X12_fog at hf
  refine lv_aload_n hx hb dX12_fog_0 rfl (lv_at hl 0 rfl) ?_
  refine lv_iconst (v := 0) hx hb dX12_fog_1 (by decide) ?_
  refine ha_puti hx hb hown hK hP hD hS r138 hN h0 dX12_fog_2 (fun S1 H locs eS1 hP hD hS => ?_)
  have hf := ha_nms hf eS1
  refine lv_aload_n hx hb dX12_fog_5 rfl (lv_at hl 0 rfl) ?_
  refine ha_geti hx hb hown hK hP q155 hN h0 dX12_fog_6 ?_
  refine lv_bipush (v := 60) hx hb dX12_fog_9 (by decide) ?_
  refine lv_icmp_eq (tgt := 50) hx hb dX12_fog_11 (by decide) (fun c2 => ?_) (fun c2 => ?_)
  · have hf := ha_it hf c2
    exact J50  S1 H locs ls hf  hP hD hS (lv_sub hl [0, 1, 2, 3] rfl)
  · have hf := ha_if hf c2
    refine lv_iload_n hx hb dX12_fog_14 rfl (lv_at hl 1 rfl) ?_
    refine lv_iconst (v := 0) hx hb dX12_fog_15 (by decide) ?_
    refine lv_aload_n hx hb dX12_fog_16 rfl (lv_at hl 0 rfl) ?_
    refine ha_geti hx hb hown hK hP q13 hN h0 dX12_fog_17 ?_
    refine lv_iconst (v := 2) hx hb dX12_fog_20 (by decide) ?_
    refine lv_isub hx hb dX12_fog_21 ?_
    obtain ⟨z3, wz3, hf⟩ := ha_bds hf
    refine ha_callSi (As := [.int p1, .int 0, .int ((((ha_gI S1 p0 4) : Int32) - 2))]) (rest := []) hZ ⟨hx, hb, hml, hown, hts⟩ hK hz hP hD hS (c_X12_isIn   wz3) cw0 rfl hl.1 rfl (Nat.le_of_ble_eq_true rfl) dX12_fog_22 ⟨Nat.le_of_ble_eq_true rfl, Nat.le_of_ble_eq_true rfl⟩ (fun H locs hP hD hS => ?_)
    refine lv_if_eq (tgt := 50) hx hb dX12_fog_25 (by decide) (fun c4 => ?_) (fun c4 => ?_)
    · have hf := ha_it hf c4
      exact J50  S1 H locs ls hf  hP hD hS (lv_sub hl [0, 1, 2, 3] rfl)
    · have hf := ha_if hf c4
      refine lv_iload_n hx hb dX12_fog_28 rfl (lv_at hl 2 rfl) ?_
      refine lv_iconst (v := 1) hx hb dX12_fog_29 (by decide) ?_
      refine lv_sipush (v := 500) hx hb dX12_fog_30 (by decide) ?_
      obtain ⟨z5, wz5, hf⟩ := ha_bds hf
      refine ha_callSi (As := [.int p2, .int 1, .int 500]) (rest := []) hZ ⟨hx, hb, hml, hown, hts⟩ hK hz hP hD hS (c_X12_isIn   wz5) cw0 rfl hl.1 rfl (Nat.le_of_ble_eq_true rfl) dX12_fog_33 ⟨Nat.le_of_ble_eq_true rfl, Nat.le_of_ble_eq_true rfl⟩ (fun H locs hP hD hS => ?_)
      refine lv_if_eq (tgt := 50) hx hb dX12_fog_36 (by decide) (fun c6 => ?_) (fun c6 => ?_)
      · have hf := ha_it hf c6
        exact J50  S1 H locs ls hf  hP hD hS (lv_sub hl [0, 1, 2, 3] rfl)
      · have hf := ha_if hf c6
        refine lv_iload_n hx hb dX12_fog_39 rfl (lv_at hl 3 rfl) ?_
        refine lv_iload_n hx hb dX12_fog_40 rfl (lv_at hl 2 rfl) ?_
        refine lv_sipush (v := 500) hx hb dX12_fog_41 (by decide) ?_
        obtain ⟨z7, wz7, hf⟩ := ha_bds hf
        refine ha_callSi (As := [.int p3, .int p2, .int 500]) (rest := []) hZ ⟨hx, hb, hml, hown, hts⟩ hK hz hP hD hS (c_X12_isIn   wz7) cw0 rfl hl.1 rfl (Nat.le_of_ble_eq_true rfl) dX12_fog_44 ⟨Nat.le_of_ble_eq_true rfl, Nat.le_of_ble_eq_true rfl⟩ (fun H locs hP hD hS => ?_)
        refine lv_if_ne (tgt := 52) hx hb dX12_fog_47 (by decide) (fun c8 => ?_) (fun c8 => ?_)
        · have hf := ha_it hf c8
          refine lv_aload_n hx hb dX12_fog_52 rfl (lv_at hl 0 rfl) ?_
          obtain ⟨r9, wr9, hf⟩ := ha_bds hf
          obtain ⟨wr9, hr9⟩ := ha_rf_some wr9
          refine ha_getr hx hb hown hK hP q47 hN h0 wr9 dX12_fog_53 ?_
          refine lv_aload_n hx hb dX12_fog_56 rfl (lv_at hl 0 rfl) ?_
          refine ha_geti hx hb hown hK hP q155 hN h0 dX12_fog_57 ?_
          refine lv_iload_n hx hb dX12_fog_60 rfl (lv_at hl 1 rfl) ?_
          obtain ⟨g10, hf⟩ := ha_gds hf
          refine ha_iast hx hb hK hP hD hS hN hr9 g10 dX12_fog_61 (fun S11 H locs eS11 hP hD hS => ?_)
          have hf := ha_nms hf eS11
          refine lv_aload_n hx hb dX12_fog_62 rfl (lv_at hl 0 rfl) ?_
          obtain ⟨r12, wr12, hf⟩ := ha_bds hf
          obtain ⟨wr12, hr12⟩ := ha_rf_some wr12
          refine ha_getr hx hb hown hK hP q50 hN h0 wr12 dX12_fog_63 ?_
          refine lv_aload_n hx hb dX12_fog_66 rfl (lv_at hl 0 rfl) ?_
          refine ha_geti hx hb hown hK hP q155 hN h0 dX12_fog_67 ?_
          refine lv_iload_n hx hb dX12_fog_70 rfl (lv_at hl 2 rfl) ?_
          obtain ⟨g13, hf⟩ := ha_gds hf
          refine ha_iast hx hb hK hP hD hS hN hr12 g13 dX12_fog_71 (fun S14 H locs eS14 hP hD hS => ?_)
          have hf := ha_nms hf eS14
          refine lv_aload_n hx hb dX12_fog_72 rfl (lv_at hl 0 rfl) ?_
          obtain ⟨r15, wr15, hf⟩ := ha_bds hf
          obtain ⟨wr15, hr15⟩ := ha_rf_some wr15
          refine ha_getr hx hb hown hK hP q53 hN h0 wr15 dX12_fog_73 ?_
          refine lv_aload_n hx hb dX12_fog_76 rfl (lv_at hl 0 rfl) ?_
          refine ha_geti hx hb hown hK hP q155 hN h0 dX12_fog_77 ?_
          refine lv_iload_n hx hb dX12_fog_80 rfl (lv_at hl 3 rfl) ?_
          obtain ⟨g16, hf⟩ := ha_gds hf
          refine ha_iast hx hb hK hP hD hS hN hr15 g16 dX12_fog_81 (fun S17 H locs eS17 hP hD hS => ?_)
          have hf := ha_nms hf eS17
          refine lv_aload_n hx hb dX12_fog_82 rfl (lv_at hl 0 rfl) ?_
          refine lv_dup hx hb dX12_fog_83 rfl ?_
          refine ha_geti hx hb hown hK hP q155 hN h0 dX12_fog_84 ?_
          refine lv_iconst (v := 1) hx hb dX12_fog_87 (by decide) ?_
          refine lv_iadd hx hb dX12_fog_88 ?_
          refine ha_puti hx hb hown hK hP hD hS r155 hN h0 dX12_fog_89 (fun S18 H locs eS18 hP hD hS => ?_)
          have hf := ha_nms hf eS18
          refine lv_aload_n hx hb dX12_fog_92 rfl (lv_at hl 0 rfl) ?_
          refine ha_geti hx hb hown hK hP q155 hN h0 dX12_fog_93 ?_
          refine lv_iconst (v := 1) hx hb dX12_fog_96 (by decide) ?_
          refine lv_isub hx hb dX12_fog_97 ?_
          have he := Option.some.inj hf
          exact ha_reti hx hb hr hlocks hP hD hS dX12_fog_98 (ha_e1 he) (ha_e2 he)
        · have hf := ha_if hf (fun q => q c8)
          exact J50  S1 H locs ls hf  hP hD hS (lv_sub hl [0, 1, 2, 3] rfl)

set_option maxHeartbeats 4000000 in
set_option maxRecDepth 100000 in
theorem c_X12_isFoggy {l : Launch} {D : va_G} {cs : Nat → ClassId} {ad : Nat → Nat} {N : List Nat} {Z : State → Prop} (hZ : ha_Zok (ha_A ad N) Z) (hN : ∀ x, mo_kd x < 999 → x ∈ N) {p0 : Nat} {p1 : Int32} {p2 : Int32} {S : ha_St} {out : Int32 × ha_St} (h0 : mo_kd p0 = 12) (hf : f_X12_isFoggy p0 p1 p2 S = some out) : ha_Ci l D cs ad mo_kd mo_ln N Z yX12_isFoggy wsX12_isFoggy ({ frames := 1, cells := 0, slots := 0, locals := 22 } : Room) [.ref (ad p0), .int p1, .int p2] S out.1 out.2 := by
  refine Met.ofW (cc := cX12_isFoggy) (maxL := 4) (ret := (some .boolean)) (by decide +kernel) rfl ?_
  intro p e s m args below meth c s₁ B hml hv
  obtain ⟨rfl, hP, hD, hK, hz⟩ := hv
  have hx := B.exec
  have hb := B.bytes
  have hr := B.returns
  have hts := atoms_spec (ws := wsX12_isFoggy) B.pre
  have hown : s.vm.findClass RX12 = some m.cls := findClass_of_methodNamed B.named
  have hlocks := B.notSynchronized
  have hS : va_S (ha_A ad N) s.heap s.heap [] := va_S.rf
  have hi12 : ∀ w ∈ wsX120, w ∈ wsX12_isFoggy := fun w h => List.mem_cons_of_mem _ (List.mem_append_right _ h)
  have q155 : ha_Fk s ([.ref (ad p0), .int p1, .int p2] : List Value).toArray RX12 155 12 31 0 := ⟨RX12, TX12, 83, wsX12_isFoggy, rfl, by decide, by decide, rfl, rfl, hts, hi12, hts (.fieldLink RX12 155 "HillArmsModel" "fogs" "I") (by decide +kernel)⟩
  have q47 : ha_Fk s ([.ref (ad p0), .int p1, .int p2] : List Value).toArray RX12 47 12 27 1 := ⟨RX12, TX12, 83, wsX12_isFoggy, rfl, by decide, by decide, rfl, rfl, hts, hi12, hts (.fieldLink RX12 47 "HillArmsModel" "fogAhead" "[I") (by decide +kernel)⟩
  have q50 : ha_Fk s ([.ref (ad p0), .int p1, .int p2] : List Value).toArray RX12 50 12 28 1 := ⟨RX12, TX12, 83, wsX12_isFoggy, rfl, by decide, by decide, rfl, rfl, hts, hi12, hts (.fieldLink RX12 50 "HillArmsModel" "fogFrom" "[I") (by decide +kernel)⟩
  have q53 : ha_Fk s ([.ref (ad p0), .int p1, .int p2] : List Value).toArray RX12 53 12 29 1 := ⟨RX12, TX12, 83, wsX12_isFoggy, rfl, by decide, by decide, rfl, rfl, hts, hi12, hts (.fieldLink RX12 53 "HillArmsModel" "fogTo" "[I") (by decide +kernel)⟩
  have q273 : ha_Fk s ([.ref (ad p0), .int p1, .int p2] : List Value).toArray RX12 273 12 43 0 := ⟨RX12, TX12, 83, wsX12_isFoggy, rfl, by decide, by decide, rfl, rfl, hts, hi12, hts (.fieldLink RX12 273 "HillArmsModel" "otherTick" "I") (by decide +kernel)⟩
  have q276 : ha_Fk s ([.ref (ad p0), .int p1, .int p2] : List Value).toArray RX12 276 12 44 0 := ⟨RX12, TX12, 83, wsX12_isFoggy, rfl, by decide, by decide, rfl, rfl, hts, hi12, hts (.fieldLink RX12 276 "HillArmsModel" "otherAhead" "I") (by decide +kernel)⟩
  have q267 : ha_Fk s ([.ref (ad p0), .int p1, .int p2] : List Value).toArray RX12 267 12 41 0 := ⟨RX12, TX12, 83, wsX12_isFoggy, rfl, by decide, by decide, rfl, rfl, hts, hi12, hts (.fieldLink RX12 267 "HillArmsModel" "moreTick" "I") (by decide +kernel)⟩
  have q270 : ha_Fk s ([.ref (ad p0), .int p1, .int p2] : List Value).toArray RX12 270 12 42 0 := ⟨RX12, TX12, 83, wsX12_isFoggy, rfl, by decide, by decide, rfl, rfl, hts, hi12, hts (.fieldLink RX12 270 "HillArmsModel" "moreAhead" "I") (by decide +kernel)⟩
  have cw0 := va_cwS (R := (headSpec wsX12_isFoggy ({ frames := 1, cells := 0, slots := 0, locals := 22 } : Room)).room) 3 hts gX12_isFoggy_X12_isIn (rm := ({ frames := 0, cells := 0, slots := 0, locals := 0 } : Room)) (mc := 0) (ms := 0) rfl rfl rfl (by decide +kernel) ⟨Nat.le_of_ble_eq_true rfl, Nat.le_of_ble_eq_true rfl⟩
  have hl := lv_entry ([.ref (ad p0), .int p1, .int p2]) (n := 4) (Nat.le_of_ble_eq_true rfl)
  rw [lg_entry_eq]
  generalize (lg_sl ([.ref (ad p0), .int p1, .int p2]) ++ List.replicate (4 - (lg_sl ([.ref (ad p0), .int p1, .int p2])).length) Slot.unset).toArray = ls at hl ⊢
  have hl : lv_has ls 4 [(0, .ref (ad p0)), (1, .int p1), (2, .int p2)] := hl
  refine (fun (K0 : ∀ (H : Heap) (locs : List Loc), va_P D vwCl (ha_wl cs ad mo_kd mo_ln N S) H → va_S (ha_A ad N) s.heap H locs → W p l e (headSpec wsX12_isFoggy ({ frames := 1, cells := 0, slots := 0, locals := 22 } : Room)).room s m ([.ref (ad p0), .int p1, .int p2] : List Value).toArray below meth c H locs 0 0 (MQ below (va_Qi (fun (r : Int32) (_ : Unit) => r = out.1) (fun _ => ha_H D cs ad mo_kd mo_ln N out.2) (ha_A ad N)) ([.ref (ad p0), .int p1, .int p2] : List Value).toArray s 0 0 (ha_A ad N)) (F0 m 0 ls [])) => K0 _ _ hP hS) ?_
  intro H locs hP hS
  have hf := ha_rt hf
  have J81 : ∀  (S : ha_St) (H : Heap) (locs : List Loc) (ls : Array Slot), (f_X12_isFoggy_J81 p0 p1 p2  S).bind some = some out → va_P D vwCl (ha_wl cs ad mo_kd mo_ln N S) H → va_D (ha_A ad N) (ha_wl cs ad mo_kd mo_ln N S) → va_S (ha_A ad N) s.heap H locs → lv_has ls 4 [(0, .ref (ad p0)), (1, .int p1), (2, .int p2)] → W p l e (headSpec wsX12_isFoggy ({ frames := 1, cells := 0, slots := 0, locals := 22 } : Room)).room s m ([.ref (ad p0), .int p1, .int p2] : List Value).toArray below meth c H locs 0 0 (MQ below (va_Qi (fun (r : Int32) (_ : Unit) => r = out.1) (fun _ => ha_H D cs ad mo_kd mo_ln N out.2) (ha_A ad N)) ([.ref (ad p0), .int p1, .int p2] : List Value).toArray s 0 0 (ha_A ad N)) (F0 m 81 ls []) := by
    intro  S H locs ls hf  hP hD hS hl
    unfold f_X12_isFoggy_J81 at hf
    refine lv_iconst (v := 0) hx hb dX12_isFoggy_81 (by decide) ?_
    have he := Option.some.inj hf
    exact ha_retz hx hb hr hlocks hP hD hS dX12_isFoggy_82 (by decide) (ha_e1 he) (ha_e2 he)
  have J34 : ∀  (S : ha_St) (H : Heap) (locs : List Loc) (ls : Array Slot), (f_X12_isFoggy_J34 p0 p1 p2  S).bind some = some out → va_P D vwCl (ha_wl cs ad mo_kd mo_ln N S) H → va_D (ha_A ad N) (ha_wl cs ad mo_kd mo_ln N S) → va_S (ha_A ad N) s.heap H locs → lv_has ls 4 [(0, .ref (ad p0)), (1, .int p1), (2, .int p2)] → W p l e (headSpec wsX12_isFoggy ({ frames := 1, cells := 0, slots := 0, locals := 22 } : Room)).room s m ([.ref (ad p0), .int p1, .int p2] : List Value).toArray below meth c H locs 0 0 (MQ below (va_Qi (fun (r : Int32) (_ : Unit) => r = out.1) (fun _ => ha_H D cs ad mo_kd mo_ln N out.2) (ha_A ad N)) ([.ref (ad p0), .int p1, .int p2] : List Value).toArray s 0 0 (ha_A ad N)) (F0 m 34 ls []) := by
    intro  S H locs ls hf  hP hD hS hl
    unfold f_X12_isFoggy_J34 at hf
    refine lv_iconst (v := 0) hx hb dX12_isFoggy_34 (by decide) ?_
    refine lv_istore_n (lv' := [(3, .int 0), (0, .ref (ad p0)), (1, .int p1), (2, .int p2)]) hx hb dX12_isFoggy_35 rfl hl (by decide) rfl (fun ls hl => ?_)
    have key12 : ∀ (K : ((ha_St) ⊕ (Int32 × ha_St)) → Option (Int32 × ha_St)), (∀  (S : ha_St) (H : Heap) (locs : List Loc) (ls : Array Slot), K (.inl S) = some out → va_P D vwCl (ha_wl cs ad mo_kd mo_ln N S) H → va_D (ha_A ad N) (ha_wl cs ad mo_kd mo_ln N S) → va_S (ha_A ad N) s.heap H locs → lv_has ls 4 [(0, .ref (ad p0)), (1, .int p1), (2, .int p2)] → W p l e (headSpec wsX12_isFoggy ({ frames := 1, cells := 0, slots := 0, locals := 22 } : Room)).room s m ([.ref (ad p0), .int p1, .int p2] : List Value).toArray below meth c H locs 0 0 (MQ below (va_Qi (fun (r : Int32) (_ : Unit) => r = out.1) (fun _ => ha_H D cs ad mo_kd mo_ln N out.2) (ha_A ad N)) ([.ref (ad p0), .int p1, .int p2] : List Value).toArray s 0 0 (ha_A ad N)) (F0 m 81 ls [])) → (∀ r, K (.inr r) = some out → r = out) → ∀ (n : Nat) (v3 : Int32) (S : ha_St) (H : Heap) (locs : List Loc) (ls : Array Slot), (f_X12_isFoggy_L36i p0 p1 p2 n (v3, S)).bind K = some out → va_P D vwCl (ha_wl cs ad mo_kd mo_ln N S) H → va_D (ha_A ad N) (ha_wl cs ad mo_kd mo_ln N S) → va_S (ha_A ad N) s.heap H locs → lv_has ls 4 [(0, .ref (ad p0)), (1, .int p1), (2, .int p2), (3, .int v3)] → W p l e (headSpec wsX12_isFoggy ({ frames := 1, cells := 0, slots := 0, locals := 22 } : Room)).room s m ([.ref (ad p0), .int p1, .int p2] : List Value).toArray below meth c H locs 0 0 (MQ below (va_Qi (fun (r : Int32) (_ : Unit) => r = out.1) (fun _ => ha_H D cs ad mo_kd mo_ln N out.2) (ha_A ad N)) ([.ref (ad p0), .int p1, .int p2] : List Value).toArray s 0 0 (ha_A ad N)) (F0 m 36 ls []) := by
      intro K hk hke n
      induction n with
      | zero =>
        intro v3 S H locs ls hf
        exact absurd (show (none : Option (Int32 × ha_St)) = some out from hf) (fun h => by cases h)
      | succ n ih =>
        intro v3 S H locs ls hf  hP hD hS hl
        have J75 : ∀ (v3 : Int32) (S : ha_St) (H : Heap) (locs : List Loc) (ls : Array Slot), (f_X12_isFoggy_L36_J75 p0 p1 p2 (f_X12_isFoggy_L36i p0 p1 p2 n) v3 S).bind K = some out → va_P D vwCl (ha_wl cs ad mo_kd mo_ln N S) H → va_D (ha_A ad N) (ha_wl cs ad mo_kd mo_ln N S) → va_S (ha_A ad N) s.heap H locs → lv_has ls 4 [(0, .ref (ad p0)), (1, .int p1), (2, .int p2), (3, .int v3)] → W p l e (headSpec wsX12_isFoggy ({ frames := 1, cells := 0, slots := 0, locals := 22 } : Room)).room s m ([.ref (ad p0), .int p1, .int p2] : List Value).toArray below meth c H locs 0 0 (MQ below (va_Qi (fun (r : Int32) (_ : Unit) => r = out.1) (fun _ => ha_H D cs ad mo_kd mo_ln N out.2) (ha_A ad N)) ([.ref (ad p0), .int p1, .int p2] : List Value).toArray s 0 0 (ha_A ad N)) (F0 m 75 ls []) := by
          intro v3 S H locs ls hf  hP hD hS hl
          unfold f_X12_isFoggy_L36_J75 at hf
          obtain ⟨x1, ex1⟩ : ∃ y : Int32, y = (v3 : Int32) + 1 := ⟨_, rfl⟩
          have hf := ha_nms hf ex1
          refine lv_iinc (v := x1) (lv' := [(3, .int x1), (0, .ref (ad p0)), (1, .int p1), (2, .int p2)]) hx hb dX12_isFoggy_75 hl (k := 3) rfl (by rw [ex1]; rfl) (by decide) rfl (fun ls hl => ?_)
          refine lv_goto (tgt := 36) hx hb dX12_isFoggy_78 (by decide) ?_
          exact ih x1 S H locs ls hf  hP hD hS (lv_sub hl [1, 2, 3, 0] rfl)
        have hf : (f_X12_isFoggy_L36 p0 p1 p2 (f_X12_isFoggy_L36i p0 p1 p2 n) v3 S).bind K = some out := hf
        unfold f_X12_isFoggy_L36 at hf
        refine lv_iload_n hx hb dX12_isFoggy_36 rfl (lv_at hl 3 rfl) ?_
        refine lv_aload_n hx hb dX12_isFoggy_37 rfl (lv_at hl 0 rfl) ?_
        refine ha_geti hx hb hown hK hP q155 hN h0 dX12_isFoggy_38 ?_
        refine lv_icmp_ge (tgt := 81) hx hb dX12_isFoggy_41 (by decide) (fun c2 => ?_) (fun c2 => ?_)
        · have hf := ha_it hf c2
          exact hk  S H locs ls hf  hP hD hS (lv_sub hl [0, 1, 2] rfl)
        · have hf := ha_if hf c2
          refine lv_aload_n hx hb dX12_isFoggy_44 rfl (lv_at hl 0 rfl) ?_
          obtain ⟨r3, wr3, hf⟩ := ha_bds hf
          obtain ⟨wr3, hr3⟩ := ha_rf_some wr3
          refine ha_getr hx hb hown hK hP q47 hN h0 wr3 dX12_isFoggy_45 ?_
          refine lv_iload_n hx hb dX12_isFoggy_48 rfl (lv_at hl 3 rfl) ?_
          obtain ⟨g4, hf⟩ := ha_gds hf
          refine ha_iald hx hb hK hP hN hr3 g4 dX12_isFoggy_49 ?_
          refine lv_iload_n hx hb dX12_isFoggy_50 rfl (lv_at hl 1 rfl) ?_
          refine lv_icmp_ne (tgt := 75) hx hb dX12_isFoggy_51 (by decide) (fun c5 => ?_) (fun c5 => ?_)
          · have hf := ha_it hf c5
            exact J75 v3 S H locs ls hf  hP hD hS (lv_sub hl [0, 1, 2, 3] rfl)
          · have hf := ha_if hf (fun q => q c5)
            refine lv_iload_n hx hb dX12_isFoggy_54 rfl (lv_at hl 2 rfl) ?_
            refine lv_aload_n hx hb dX12_isFoggy_55 rfl (lv_at hl 0 rfl) ?_
            obtain ⟨r6, wr6, hf⟩ := ha_bds hf
            obtain ⟨wr6, hr6⟩ := ha_rf_some wr6
            refine ha_getr hx hb hown hK hP q50 hN h0 wr6 dX12_isFoggy_56 ?_
            refine lv_iload_n hx hb dX12_isFoggy_59 rfl (lv_at hl 3 rfl) ?_
            obtain ⟨g7, hf⟩ := ha_gds hf
            refine ha_iald hx hb hK hP hN hr6 g7 dX12_isFoggy_60 ?_
            refine lv_aload_n hx hb dX12_isFoggy_61 rfl (lv_at hl 0 rfl) ?_
            obtain ⟨r8, wr8, hf⟩ := ha_bds hf
            obtain ⟨wr8, hr8⟩ := ha_rf_some wr8
            refine ha_getr hx hb hown hK hP q53 hN h0 wr8 dX12_isFoggy_62 ?_
            refine lv_iload_n hx hb dX12_isFoggy_65 rfl (lv_at hl 3 rfl) ?_
            obtain ⟨g9, hf⟩ := ha_gds hf
            refine ha_iald hx hb hK hP hN hr8 g9 dX12_isFoggy_66 ?_
            obtain ⟨z10, wz10, hf⟩ := ha_bds hf
            refine ha_callSi (As := [.int p2, .int ((ha_gA S r6 (v3 : Int32).toNatClampNeg)), .int ((ha_gA S r8 (v3 : Int32).toNatClampNeg))]) (rest := []) hZ ⟨hx, hb, hml, hown, hts⟩ hK hz hP hD hS (c_X12_isIn   wz10) cw0 rfl hl.1 rfl (Nat.le_of_ble_eq_true rfl) dX12_isFoggy_67 ⟨Nat.le_of_ble_eq_true rfl, Nat.le_of_ble_eq_true rfl⟩ (fun H locs hP hD hS => ?_)
            refine lv_if_eq (tgt := 75) hx hb dX12_isFoggy_70 (by decide) (fun c11 => ?_) (fun c11 => ?_)
            · have hf := ha_it hf c11
              exact J75 v3 S H locs ls hf  hP hD hS (lv_sub hl [0, 1, 2, 3] rfl)
            · have hf := ha_if hf c11
              refine lv_iconst (v := 1) hx hb dX12_isFoggy_73 (by decide) ?_
              have he := hke _ hf
              exact ha_retz hx hb hr hlocks hP hD hS dX12_isFoggy_74 (by decide) (ha_e1 he) (ha_e2 he)
    refine key12 _ (fun  S H locs ls hf  hP hD hS hl => ?_) (fun r h => Option.some.inj h) ha_fu 0 S H locs ls (ha_as hf)  hP hD hS (lv_sub hl [1, 2, 3, 0] rfl)
    have hf : (f_X12_isFoggy_J81 p0 p1 p2  S).bind some = some out := hf
    exact J81  S H locs ls hf  hP hD hS (lv_sub hl [0, 1, 2] rfl)
  have J32 : ∀  (S : ha_St) (H : Heap) (locs : List Loc) (ls : Array Slot), (f_X12_isFoggy_J32 p0 p1 p2  S).bind some = some out → va_P D vwCl (ha_wl cs ad mo_kd mo_ln N S) H → va_D (ha_A ad N) (ha_wl cs ad mo_kd mo_ln N S) → va_S (ha_A ad N) s.heap H locs → lv_has ls 4 [(0, .ref (ad p0)), (1, .int p1), (2, .int p2)] → W p l e (headSpec wsX12_isFoggy ({ frames := 1, cells := 0, slots := 0, locals := 22 } : Room)).room s m ([.ref (ad p0), .int p1, .int p2] : List Value).toArray below meth c H locs 0 0 (MQ below (va_Qi (fun (r : Int32) (_ : Unit) => r = out.1) (fun _ => ha_H D cs ad mo_kd mo_ln N out.2) (ha_A ad N)) ([.ref (ad p0), .int p1, .int p2] : List Value).toArray s 0 0 (ha_A ad N)) (F0 m 32 ls []) := by
    intro  S H locs ls hf  hP hD hS hl
    unfold f_X12_isFoggy_J32 at hf
    refine lv_iconst (v := 1) hx hb dX12_isFoggy_32 (by decide) ?_
    have he := Option.some.inj hf
    exact ha_retz hx hb hr hlocks hP hD hS dX12_isFoggy_33 (by decide) (ha_e1 he) (ha_e2 he)
  have J16 : ∀  (S : ha_St) (H : Heap) (locs : List Loc) (ls : Array Slot), (f_X12_isFoggy_J16 p0 p1 p2  S).bind some = some out → va_P D vwCl (ha_wl cs ad mo_kd mo_ln N S) H → va_D (ha_A ad N) (ha_wl cs ad mo_kd mo_ln N S) → va_S (ha_A ad N) s.heap H locs → lv_has ls 4 [(0, .ref (ad p0)), (1, .int p1), (2, .int p2)] → W p l e (headSpec wsX12_isFoggy ({ frames := 1, cells := 0, slots := 0, locals := 22 } : Room)).room s m ([.ref (ad p0), .int p1, .int p2] : List Value).toArray below meth c H locs 0 0 (MQ below (va_Qi (fun (r : Int32) (_ : Unit) => r = out.1) (fun _ => ha_H D cs ad mo_kd mo_ln N out.2) (ha_A ad N)) ([.ref (ad p0), .int p1, .int p2] : List Value).toArray s 0 0 (ha_A ad N)) (F0 m 16 ls []) := by
    intro  S H locs ls hf  hP hD hS hl
    unfold f_X12_isFoggy_J16 at hf
    refine lv_aload_n hx hb dX12_isFoggy_16 rfl (lv_at hl 0 rfl) ?_
    refine ha_geti hx hb hown hK hP q273 hN h0 dX12_isFoggy_17 ?_
    refine lv_iload_n hx hb dX12_isFoggy_20 rfl (lv_at hl 2 rfl) ?_
    refine lv_icmp_ne (tgt := 34) hx hb dX12_isFoggy_21 (by decide) (fun c14 => ?_) (fun c14 => ?_)
    · have hf := ha_it hf c14
      exact J34  S H locs ls hf  hP hD hS (lv_sub hl [0, 1, 2] rfl)
    · have hf := ha_if hf (fun q => q c14)
      refine lv_aload_n hx hb dX12_isFoggy_24 rfl (lv_at hl 0 rfl) ?_
      refine ha_geti hx hb hown hK hP q276 hN h0 dX12_isFoggy_25 ?_
      refine lv_iload_n hx hb dX12_isFoggy_28 rfl (lv_at hl 1 rfl) ?_
      refine lv_icmp_ne (tgt := 34) hx hb dX12_isFoggy_29 (by decide) (fun c15 => ?_) (fun c15 => ?_)
      · have hf := ha_it hf c15
        exact J34  S H locs ls hf  hP hD hS (lv_sub hl [0, 1, 2] rfl)
      · have hf := ha_if hf (fun q => q c15)
        exact J32  S H locs ls hf  hP hD hS (lv_sub hl [0, 1, 2] rfl)
  unfold f_X12_isFoggy at hf
  refine lv_aload_n hx hb dX12_isFoggy_0 rfl (lv_at hl 0 rfl) ?_
  refine ha_geti hx hb hown hK hP q267 hN h0 dX12_isFoggy_1 ?_
  refine lv_iload_n hx hb dX12_isFoggy_4 rfl (lv_at hl 2 rfl) ?_
  refine lv_icmp_ne (tgt := 16) hx hb dX12_isFoggy_5 (by decide) (fun c16 => ?_) (fun c16 => ?_)
  · have hf := ha_it hf c16
    exact J16  S H locs ls hf  hP hD hS (lv_sub hl [0, 1, 2] rfl)
  · have hf := ha_if hf (fun q => q c16)
    refine lv_aload_n hx hb dX12_isFoggy_8 rfl (lv_at hl 0 rfl) ?_
    refine ha_geti hx hb hown hK hP q270 hN h0 dX12_isFoggy_9 ?_
    refine lv_iload_n hx hb dX12_isFoggy_12 rfl (lv_at hl 1 rfl) ?_
    refine lv_icmp_eq (tgt := 32) hx hb dX12_isFoggy_13 (by decide) (fun c17 => ?_) (fun c17 => ?_)
    · have hf := ha_it hf c17
      exact J32  S H locs ls hf  hP hD hS (lv_sub hl [0, 1, 2] rfl)
    · have hf := ha_if hf c17
      exact J16  S H locs ls hf  hP hD hS (lv_sub hl [0, 1, 2] rfl)

set_option maxHeartbeats 4000000 in
set_option maxRecDepth 100000 in
theorem c_X12_valueOf {l : Launch} {D : va_G} {cs : Nat → ClassId} {ad : Nat → Nat} {N : List Nat} {Z : State → Prop} (hZ : ha_Zok (ha_A ad N) Z) (hN : ∀ x, mo_kd x < 999 → x ∈ N) {p0 : Nat} {p1 : Int32} {p2 : Int32} {S : ha_St} {out : Int32 × ha_St} (h0 : mo_kd p0 = 12) (hf : f_X12_valueOf p0 p1 p2 S = some out) : ha_Ci l D cs ad mo_kd mo_ln N Z yX12_valueOf wsX12_valueOf ({ frames := 0, cells := 0, slots := 0, locals := 0 } : Room) [.ref (ad p0), .int p1, .int p2] S out.1 out.2 := by
  refine Met.ofW (cc := cX12_valueOf) (maxL := 3) (ret := (some .int)) (by decide +kernel) rfl ?_
  intro p e s m args below meth c s₁ B hml hv
  obtain ⟨rfl, hP, hD, hK, hz⟩ := hv
  have hx := B.exec
  have hb := B.bytes
  have hr := B.returns
  have hts := atoms_spec (ws := wsX12_valueOf) B.pre
  have hown : s.vm.findClass RX12 = some m.cls := findClass_of_methodNamed B.named
  have hlocks := B.notSynchronized
  have hS : va_S (ha_A ad N) s.heap s.heap [] := va_S.rf
  have hi12 : ∀ w ∈ wsX120, w ∈ wsX12_valueOf := fun w h => List.mem_cons_of_mem _ (List.mem_append_right _ h)
  have q279 : ha_Fk s ([.ref (ad p0), .int p1, .int p2] : List Value).toArray RX12 279 12 45 0 := ⟨RX12, TX12, 83, wsX12_valueOf, rfl, by decide, by decide, rfl, rfl, hts, hi12, hts (.fieldLink RX12 279 "HillArmsModel" "left" "I") (by decide +kernel)⟩
  have q282 : ha_Fk s ([.ref (ad p0), .int p1, .int p2] : List Value).toArray RX12 282 12 46 0 := ⟨RX12, TX12, 83, wsX12_valueOf, rfl, by decide, by decide, rfl, rfl, hts, hi12, hts (.fieldLink RX12 282 "HillArmsModel" "right" "I") (by decide +kernel)⟩
  have q56 : ha_Fk s ([.ref (ad p0), .int p1, .int p2] : List Value).toArray RX12 56 12 32 1 := ⟨RX12, TX12, 83, wsX12_valueOf, rfl, by decide, by decide, rfl, rfl, hts, hi12, hts (.fieldLink RX12 56 "HillArmsModel" "now" "[I") (by decide +kernel)⟩
  have q65 : ha_Fk s ([.ref (ad p0), .int p1, .int p2] : List Value).toArray RX12 65 12 35 1 := ⟨RX12, TX12, 83, wsX12_valueOf, rfl, by decide, by decide, rfl, rfl, hts, hi12, hts (.fieldLink RX12 65 "HillArmsModel" "times" "[I") (by decide +kernel)⟩
  have q285 : ha_Fk s ([.ref (ad p0), .int p1, .int p2] : List Value).toArray RX12 285 12 38 0 := ⟨RX12, TX12, 83, wsX12_valueOf, rfl, by decide, by decide, rfl, rfl, hts, hi12, hts (.fieldLink RX12 285 "HillArmsModel" "sent" "I") (by decide +kernel)⟩
  have q264 : ha_Fk s ([.ref (ad p0), .int p1, .int p2] : List Value).toArray RX12 264 12 30 0 := ⟨RX12, TX12, 83, wsX12_valueOf, rfl, by decide, by decide, rfl, rfl, hts, hi12, hts (.fieldLink RX12 264 "HillArmsModel" "signs" "I") (by decide +kernel)⟩
  have q44 : ha_Fk s ([.ref (ad p0), .int p1, .int p2] : List Value).toArray RX12 44 12 26 1 := ⟨RX12, TX12, 83, wsX12_valueOf, rfl, by decide, by decide, rfl, rfl, hts, hi12, hts (.fieldLink RX12 44 "HillArmsModel" "message" "[I") (by decide +kernel)⟩
  have q62 : ha_Fk s ([.ref (ad p0), .int p1, .int p2] : List Value).toArray RX12 62 12 34 1 := ⟨RX12, TX12, 83, wsX12_valueOf, rfl, by decide, by decide, rfl, rfl, hts, hi12, hts (.fieldLink RX12 62 "HillArmsModel" "cells" "[I") (by decide +kernel)⟩
  have hl := lv_entry ([.ref (ad p0), .int p1, .int p2]) (n := 3) (Nat.le_of_ble_eq_true rfl)
  rw [lg_entry_eq]
  generalize (lg_sl ([.ref (ad p0), .int p1, .int p2]) ++ List.replicate (3 - (lg_sl ([.ref (ad p0), .int p1, .int p2])).length) Slot.unset).toArray = ls at hl ⊢
  have hl : lv_has ls 3 [(0, .ref (ad p0)), (1, .int p1), (2, .int p2)] := hl
  refine (fun (K0 : ∀ (H : Heap) (locs : List Loc), va_P D vwCl (ha_wl cs ad mo_kd mo_ln N S) H → va_S (ha_A ad N) s.heap H locs → W p l e (headSpec wsX12_valueOf ({ frames := 0, cells := 0, slots := 0, locals := 0 } : Room)).room s m ([.ref (ad p0), .int p1, .int p2] : List Value).toArray below meth c H locs 0 0 (MQ below (va_Qi (fun (r : Int32) (_ : Unit) => r = out.1) (fun _ => ha_H D cs ad mo_kd mo_ln N out.2) (ha_A ad N)) ([.ref (ad p0), .int p1, .int p2] : List Value).toArray s 0 0 (ha_A ad N)) (F0 m 0 ls [])) => K0 _ _ hP hS) ?_
  intro H locs hP hS
  have hf := ha_rt hf
  have J116 : ∀ (k0 : Int32) (S : ha_St) (H : Heap) (locs : List Loc) (ls : Array Slot), (f_X12_valueOf_J116 p0 p1 p2 k0 S).bind some = some out → va_P D vwCl (ha_wl cs ad mo_kd mo_ln N S) H → va_D (ha_A ad N) (ha_wl cs ad mo_kd mo_ln N S) → va_S (ha_A ad N) s.heap H locs → lv_has ls 3 [(0, .ref (ad p0)), (1, .int p1), (2, .int p2)] → W p l e (headSpec wsX12_valueOf ({ frames := 0, cells := 0, slots := 0, locals := 0 } : Room)).room s m ([.ref (ad p0), .int p1, .int p2] : List Value).toArray below meth c H locs 0 0 (MQ below (va_Qi (fun (r : Int32) (_ : Unit) => r = out.1) (fun _ => ha_H D cs ad mo_kd mo_ln N out.2) (ha_A ad N)) ([.ref (ad p0), .int p1, .int p2] : List Value).toArray s 0 0 (ha_A ad N)) (F0 m 116 ls [.int k0]) := by
    intro k0 S H locs ls hf  hP hD hS hl
    unfold f_X12_valueOf_J116 at hf
    have he := Option.some.inj hf
    exact ha_reti hx hb hr hlocks hP hD hS dX12_valueOf_116 (ha_e1 he) (ha_e2 he)
  have J115 : ∀  (S : ha_St) (H : Heap) (locs : List Loc) (ls : Array Slot), (f_X12_valueOf_J115 p0 p1 p2  S).bind some = some out → va_P D vwCl (ha_wl cs ad mo_kd mo_ln N S) H → va_D (ha_A ad N) (ha_wl cs ad mo_kd mo_ln N S) → va_S (ha_A ad N) s.heap H locs → lv_has ls 3 [(0, .ref (ad p0)), (1, .int p1), (2, .int p2)] → W p l e (headSpec wsX12_valueOf ({ frames := 0, cells := 0, slots := 0, locals := 0 } : Room)).room s m ([.ref (ad p0), .int p1, .int p2] : List Value).toArray below meth c H locs 0 0 (MQ below (va_Qi (fun (r : Int32) (_ : Unit) => r = out.1) (fun _ => ha_H D cs ad mo_kd mo_ln N out.2) (ha_A ad N)) ([.ref (ad p0), .int p1, .int p2] : List Value).toArray s 0 0 (ha_A ad N)) (F0 m 115 ls []) := by
    intro  S H locs ls hf  hP hD hS hl
    unfold f_X12_valueOf_J115 at hf
    refine lv_iconst (v := (-1)) hx hb dX12_valueOf_115 (by decide) ?_
    exact J116 (-1) S H locs ls hf  hP hD hS (lv_sub hl [0, 1, 2] rfl)
  unfold f_X12_valueOf at hf
  refine lv_iload_n hx hb dX12_valueOf_0 rfl (lv_at hl 1 rfl) ?_
  refine lv_bipush (v := 100) hx hb dX12_valueOf_1 (by decide) ?_
  refine lv_icmp_ge (tgt := 8) hx hb dX12_valueOf_3 (by decide) (fun c1 => ?_) (fun c1 => ?_)
  · have hf := ha_it hf c1
    refine lv_iload_n hx hb dX12_valueOf_8 rfl (lv_at hl 1 rfl) ?_
    refine lv_bipush (v := 106) hx hb dX12_valueOf_9 (by decide) ?_
    refine lv_icmp_lt (tgt := 28) hx hb dX12_valueOf_11 (by decide) (fun c2 => ?_) (fun c2 => ?_)
    · have hf := ha_it hf c2
      refine lv_iload_n hx hb dX12_valueOf_28 rfl (lv_at hl 1 rfl) ?_
      refine lv_topi (fun xs exs => ?_)
      have hf := ha_nms hf exs
      by_cases cs100 : xs = 100
      · have hf := ha_it hf cs100
        refine ha_tsin (tgt := 64) hx hb dX12_valueOf_29 100 cs100 (by decide) rfl (by decide) ?_
        refine lv_aload_n hx hb dX12_valueOf_64 rfl (lv_at hl 0 rfl) ?_
        refine ha_geti hx hb hown hK hP q279 hN h0 dX12_valueOf_65 ?_
        have he := Option.some.inj hf
        exact ha_reti hx hb hr hlocks hP hD hS dX12_valueOf_68 (ha_e1 he) (ha_e2 he)
      · have hf := ha_if hf cs100
        by_cases cs101 : xs = 101
        · have hf := ha_it hf cs101
          refine ha_tsin (tgt := 69) hx hb dX12_valueOf_29 101 cs101 (by decide) rfl (by decide) ?_
          refine lv_aload_n hx hb dX12_valueOf_69 rfl (lv_at hl 0 rfl) ?_
          refine ha_geti hx hb hown hK hP q282 hN h0 dX12_valueOf_70 ?_
          have he := Option.some.inj hf
          exact ha_reti hx hb hr hlocks hP hD hS dX12_valueOf_73 (ha_e1 he) (ha_e2 he)
        · have hf := ha_if hf cs101
          by_cases cs102 : xs = 102
          · have hf := ha_it hf cs102
            refine ha_tsin (tgt := 74) hx hb dX12_valueOf_29 102 cs102 (by decide) rfl (by decide) ?_
            refine lv_aload_n hx hb dX12_valueOf_74 rfl (lv_at hl 0 rfl) ?_
            obtain ⟨r3, wr3, hf⟩ := ha_bds hf
            obtain ⟨wr3, hr3⟩ := ha_rf_some wr3
            refine ha_getr hx hb hown hK hP q56 hN h0 wr3 dX12_valueOf_75 ?_
            refine lv_iload_n hx hb dX12_valueOf_78 rfl (lv_at hl 2 rfl) ?_
            obtain ⟨g4, hf⟩ := ha_gds hf
            refine ha_iald hx hb hK hP hN hr3 g4 dX12_valueOf_79 ?_
            have he := Option.some.inj hf
            exact ha_reti hx hb hr hlocks hP hD hS dX12_valueOf_80 (ha_e1 he) (ha_e2 he)
          · have hf := ha_if hf cs102
            by_cases cs103 : xs = 103
            · have hf := ha_it hf cs103
              refine ha_tsin (tgt := 81) hx hb dX12_valueOf_29 103 cs103 (by decide) rfl (by decide) ?_
              refine lv_aload_n hx hb dX12_valueOf_81 rfl (lv_at hl 0 rfl) ?_
              obtain ⟨r5, wr5, hf⟩ := ha_bds hf
              obtain ⟨wr5, hr5⟩ := ha_rf_some wr5
              refine ha_getr hx hb hown hK hP q65 hN h0 wr5 dX12_valueOf_82 ?_
              refine lv_iload_n hx hb dX12_valueOf_85 rfl (lv_at hl 2 rfl) ?_
              obtain ⟨g6, hf⟩ := ha_gds hf
              refine ha_iald hx hb hK hP hN hr5 g6 dX12_valueOf_86 ?_
              have he := Option.some.inj hf
              exact ha_reti hx hb hr hlocks hP hD hS dX12_valueOf_87 (ha_e1 he) (ha_e2 he)
            · have hf := ha_if hf cs103
              by_cases cs104 : xs = 104
              · have hf := ha_it hf cs104
                refine ha_tsin (tgt := 88) hx hb dX12_valueOf_29 104 cs104 (by decide) rfl (by decide) ?_
                refine lv_iload_n hx hb dX12_valueOf_88 rfl (lv_at hl 2 rfl) ?_
                refine lv_if_ne (tgt := 115) hx hb dX12_valueOf_89 (by decide) (fun c7 => ?_) (fun c7 => ?_)
                · have hf := ha_it hf c7
                  exact J115  S H locs ls hf  hP hD hS (lv_sub hl [0, 1, 2] rfl)
                · have hf := ha_if hf (fun q => q c7)
                  refine lv_aload_n hx hb dX12_valueOf_92 rfl (lv_at hl 0 rfl) ?_
                  refine ha_geti hx hb hown hK hP q285 hN h0 dX12_valueOf_93 ?_
                  refine lv_aload_n hx hb dX12_valueOf_96 rfl (lv_at hl 0 rfl) ?_
                  refine ha_geti hx hb hown hK hP q264 hN h0 dX12_valueOf_97 ?_
                  refine lv_icmp_ge (tgt := 115) hx hb dX12_valueOf_100 (by decide) (fun c8 => ?_) (fun c8 => ?_)
                  · have hf := ha_it hf c8
                    exact J115  S H locs ls hf  hP hD hS (lv_sub hl [0, 1, 2] rfl)
                  · have hf := ha_if hf c8
                    refine lv_aload_n hx hb dX12_valueOf_103 rfl (lv_at hl 0 rfl) ?_
                    obtain ⟨r9, wr9, hf⟩ := ha_bds hf
                    obtain ⟨wr9, hr9⟩ := ha_rf_some wr9
                    refine ha_getr hx hb hown hK hP q44 hN h0 wr9 dX12_valueOf_104 ?_
                    refine lv_aload_n hx hb dX12_valueOf_107 rfl (lv_at hl 0 rfl) ?_
                    refine ha_geti hx hb hown hK hP q285 hN h0 dX12_valueOf_108 ?_
                    obtain ⟨g10, hf⟩ := ha_gds hf
                    refine ha_iald hx hb hK hP hN hr9 g10 dX12_valueOf_111 ?_
                    refine lv_goto (tgt := 116) hx hb dX12_valueOf_112 (by decide) ?_
                    exact J116 ((ha_gA S r9 ((ha_gI S p0 38) : Int32).toNatClampNeg)) S H locs ls hf  hP hD hS (lv_sub hl [0, 1, 2] rfl)
              · have hf := ha_if hf cs104
                have ncs100 := lv_neT cs100 (show (100 : Int32).toInt = 100 by decide)
                have ncs101 := lv_neT cs101 (show (101 : Int32).toInt = 101 by decide)
                have ncs102 := lv_neT cs102 (show (102 : Int32).toInt = 102 by decide)
                have ncs103 := lv_neT cs103 (show (103 : Int32).toInt = 103 by decide)
                have ncs104 := lv_neT cs104 (show (104 : Int32).toInt = 104 by decide)
                refine lv_tableOut (tgt := 117) hx hb dX12_valueOf_29 (by omega) (by decide) ?_
                refine lv_iconst (v := (-1)) hx hb dX12_valueOf_117 (by decide) ?_
                have he := Option.some.inj hf
                exact ha_reti hx hb hr hlocks hP hD hS dX12_valueOf_118 (ha_e1 he) (ha_e2 he)
    · have hf := ha_if hf c2
      refine lv_aload_n hx hb dX12_valueOf_14 rfl (lv_at hl 0 rfl) ?_
      obtain ⟨r11, wr11, hf⟩ := ha_bds hf
      obtain ⟨wr11, hr11⟩ := ha_rf_some wr11
      refine ha_getr hx hb hown hK hP q62 hN h0 wr11 dX12_valueOf_15 ?_
      refine lv_iconst (v := 4) hx hb dX12_valueOf_18 (by decide) ?_
      refine lv_iload_n hx hb dX12_valueOf_19 rfl (lv_at hl 2 rfl) ?_
      refine lv_imul hx hb dX12_valueOf_20 ?_
      refine lv_iload_n hx hb dX12_valueOf_21 rfl (lv_at hl 1 rfl) ?_
      refine lv_iadd hx hb dX12_valueOf_22 ?_
      refine lv_bipush (v := 106) hx hb dX12_valueOf_23 (by decide) ?_
      refine lv_isub hx hb dX12_valueOf_25 ?_
      obtain ⟨g12, hf⟩ := ha_gds hf
      refine ha_iald hx hb hK hP hN hr11 g12 dX12_valueOf_26 ?_
      have he := Option.some.inj hf
      exact ha_reti hx hb hr hlocks hP hD hS dX12_valueOf_27 (ha_e1 he) (ha_e2 he)
  · have hf := ha_if hf c1
    refine lv_iload_n hx hb dX12_valueOf_6 rfl (lv_at hl 1 rfl) ?_
    have he := Option.some.inj hf
    exact ha_reti hx hb hr hlocks hP hD hS dX12_valueOf_7 (ha_e1 he) (ha_e2 he)

set_option maxHeartbeats 4000000 in
set_option maxRecDepth 100000 in
theorem c_X12_holds {l : Launch} {D : va_G} {cs : Nat → ClassId} {ad : Nat → Nat} {N : List Nat} {Z : State → Prop} (hZ : ha_Zok (ha_A ad N) Z) (hN : ∀ x, mo_kd x < 999 → x ∈ N) {p0 : Nat} {p1 : Int32} {p2 : Int32} {S : ha_St} {out : Int32 × ha_St} (h0 : mo_kd p0 = 12) (hf : f_X12_holds p0 p1 p2 S = some out) : ha_Ci l D cs ad mo_kd mo_ln N Z yX12_holds wsX12_holds ({ frames := 1, cells := 0, slots := 0, locals := 22 } : Room) [.ref (ad p0), .int p1, .int p2] S out.1 out.2 := by
  refine Met.ofW (cc := cX12_holds) (maxL := 5) (ret := (some .boolean)) (by decide +kernel) rfl ?_
  intro p e s m args below meth c s₁ B hml hv
  obtain ⟨rfl, hP, hD, hK, hz⟩ := hv
  have hx := B.exec
  have hb := B.bytes
  have hr := B.returns
  have hts := atoms_spec (ws := wsX12_holds) B.pre
  have hown : s.vm.findClass RX12 = some m.cls := findClass_of_methodNamed B.named
  have hlocks := B.notSynchronized
  have hS : va_S (ha_A ad N) s.heap s.heap [] := va_S.rf
  have hi12 : ∀ w ∈ wsX120, w ∈ wsX12_holds := fun w h => List.mem_cons_of_mem _ (List.mem_append_right _ h)
  have q26 : ha_Fk s ([.ref (ad p0), .int p1, .int p2] : List Value).toArray RX12 26 12 17 1 := ⟨RX12, TX12, 83, wsX12_holds, rfl, by decide, by decide, rfl, rfl, hts, hi12, hts (.fieldLink RX12 26 "HillArmsModel" "oneLeft" "[I") (by decide +kernel)⟩
  have q32 : ha_Fk s ([.ref (ad p0), .int p1, .int p2] : List Value).toArray RX12 32 12 19 1 := ⟨RX12, TX12, 83, wsX12_holds, rfl, by decide, by decide, rfl, rfl, hts, hi12, hts (.fieldLink RX12 32 "HillArmsModel" "oneRight" "[I") (by decide +kernel)⟩
  have q29 : ha_Fk s ([.ref (ad p0), .int p1, .int p2] : List Value).toArray RX12 29 12 18 1 := ⟨RX12, TX12, 83, wsX12_holds, rfl, by decide, by decide, rfl, rfl, hts, hi12, hts (.fieldLink RX12 29 "HillArmsModel" "oneSign" "[I") (by decide +kernel)⟩
  have cw0 := cwV (R := (headSpec wsX12_holds ({ frames := 1, cells := 0, slots := 0, locals := 22 } : Room)).room) 2 hts gX12_holds_X12_valueOf (rm := ({ frames := 0, cells := 0, slots := 0, locals := 0 } : Room)) (mc := 0) (ms := 0) rfl rfl rfl (by decide +kernel) ⟨Nat.le_of_ble_eq_true rfl, Nat.le_of_ble_eq_true rfl⟩
  have hl := lv_entry ([.ref (ad p0), .int p1, .int p2]) (n := 5) (Nat.le_of_ble_eq_true rfl)
  rw [lg_entry_eq]
  generalize (lg_sl ([.ref (ad p0), .int p1, .int p2]) ++ List.replicate (5 - (lg_sl ([.ref (ad p0), .int p1, .int p2])).length) Slot.unset).toArray = ls at hl ⊢
  have hl : lv_has ls 5 [(0, .ref (ad p0)), (1, .int p1), (2, .int p2)] := hl
  refine (fun (K0 : ∀ (H : Heap) (locs : List Loc), va_P D vwCl (ha_wl cs ad mo_kd mo_ln N S) H → va_S (ha_A ad N) s.heap H locs → W p l e (headSpec wsX12_holds ({ frames := 1, cells := 0, slots := 0, locals := 22 } : Room)).room s m ([.ref (ad p0), .int p1, .int p2] : List Value).toArray below meth c H locs 0 0 (MQ below (va_Qi (fun (r : Int32) (_ : Unit) => r = out.1) (fun _ => ha_H D cs ad mo_kd mo_ln N out.2) (ha_A ad N)) ([.ref (ad p0), .int p1, .int p2] : List Value).toArray s 0 0 (ha_A ad N)) (F0 m 0 ls [])) => K0 _ _ hP hS) ?_
  intro H locs hP hS
  have hf := ha_rt hf
  have J103 : ∀ (k0 : Int32) (S : ha_St) (H : Heap) (locs : List Loc) (ls : Array Slot), (f_X12_holds_J103 p0 p1 p2 k0 S).bind some = some out → va_P D vwCl (ha_wl cs ad mo_kd mo_ln N S) H → va_D (ha_A ad N) (ha_wl cs ad mo_kd mo_ln N S) → va_S (ha_A ad N) s.heap H locs → lv_has ls 5 [(0, .ref (ad p0)), (1, .int p1), (2, .int p2)] → W p l e (headSpec wsX12_holds ({ frames := 1, cells := 0, slots := 0, locals := 22 } : Room)).room s m ([.ref (ad p0), .int p1, .int p2] : List Value).toArray below meth c H locs 0 0 (MQ below (va_Qi (fun (r : Int32) (_ : Unit) => r = out.1) (fun _ => ha_H D cs ad mo_kd mo_ln N out.2) (ha_A ad N)) ([.ref (ad p0), .int p1, .int p2] : List Value).toArray s 0 0 (ha_A ad N)) (F0 m 103 ls [.int k0]) := by
    intro k0 S H locs ls hf  hP hD hS hl
    unfold f_X12_holds_J103 at hf
    obtain ⟨g1, hf⟩ := ha_gds hf
    have he := Option.some.inj hf
    exact ha_retz hx hb hr hlocks hP hD hS dX12_holds_103 g1 (ha_e1 he) (ha_e2 he)
  have J91 : ∀ (k0 : Int32) (S : ha_St) (H : Heap) (locs : List Loc) (ls : Array Slot), (f_X12_holds_J91 p0 p1 p2 k0 S).bind some = some out → va_P D vwCl (ha_wl cs ad mo_kd mo_ln N S) H → va_D (ha_A ad N) (ha_wl cs ad mo_kd mo_ln N S) → va_S (ha_A ad N) s.heap H locs → lv_has ls 5 [(0, .ref (ad p0)), (1, .int p1), (2, .int p2)] → W p l e (headSpec wsX12_holds ({ frames := 1, cells := 0, slots := 0, locals := 22 } : Room)).room s m ([.ref (ad p0), .int p1, .int p2] : List Value).toArray below meth c H locs 0 0 (MQ below (va_Qi (fun (r : Int32) (_ : Unit) => r = out.1) (fun _ => ha_H D cs ad mo_kd mo_ln N out.2) (ha_A ad N)) ([.ref (ad p0), .int p1, .int p2] : List Value).toArray s 0 0 (ha_A ad N)) (F0 m 91 ls [.int k0]) := by
    intro k0 S H locs ls hf  hP hD hS hl
    unfold f_X12_holds_J91 at hf
    obtain ⟨g2, hf⟩ := ha_gds hf
    have he := Option.some.inj hf
    exact ha_retz hx hb hr hlocks hP hD hS dX12_holds_91 g2 (ha_e1 he) (ha_e2 he)
  have J79 : ∀ (k0 : Int32) (S : ha_St) (H : Heap) (locs : List Loc) (ls : Array Slot), (f_X12_holds_J79 p0 p1 p2 k0 S).bind some = some out → va_P D vwCl (ha_wl cs ad mo_kd mo_ln N S) H → va_D (ha_A ad N) (ha_wl cs ad mo_kd mo_ln N S) → va_S (ha_A ad N) s.heap H locs → lv_has ls 5 [(0, .ref (ad p0)), (1, .int p1), (2, .int p2)] → W p l e (headSpec wsX12_holds ({ frames := 1, cells := 0, slots := 0, locals := 22 } : Room)).room s m ([.ref (ad p0), .int p1, .int p2] : List Value).toArray below meth c H locs 0 0 (MQ below (va_Qi (fun (r : Int32) (_ : Unit) => r = out.1) (fun _ => ha_H D cs ad mo_kd mo_ln N out.2) (ha_A ad N)) ([.ref (ad p0), .int p1, .int p2] : List Value).toArray s 0 0 (ha_A ad N)) (F0 m 79 ls [.int k0]) := by
    intro k0 S H locs ls hf  hP hD hS hl
    unfold f_X12_holds_J79 at hf
    obtain ⟨g3, hf⟩ := ha_gds hf
    have he := Option.some.inj hf
    exact ha_retz hx hb hr hlocks hP hD hS dX12_holds_79 g3 (ha_e1 he) (ha_e2 he)
  have J67 : ∀ (k0 : Int32) (S : ha_St) (H : Heap) (locs : List Loc) (ls : Array Slot), (f_X12_holds_J67 p0 p1 p2 k0 S).bind some = some out → va_P D vwCl (ha_wl cs ad mo_kd mo_ln N S) H → va_D (ha_A ad N) (ha_wl cs ad mo_kd mo_ln N S) → va_S (ha_A ad N) s.heap H locs → lv_has ls 5 [(0, .ref (ad p0)), (1, .int p1), (2, .int p2)] → W p l e (headSpec wsX12_holds ({ frames := 1, cells := 0, slots := 0, locals := 22 } : Room)).room s m ([.ref (ad p0), .int p1, .int p2] : List Value).toArray below meth c H locs 0 0 (MQ below (va_Qi (fun (r : Int32) (_ : Unit) => r = out.1) (fun _ => ha_H D cs ad mo_kd mo_ln N out.2) (ha_A ad N)) ([.ref (ad p0), .int p1, .int p2] : List Value).toArray s 0 0 (ha_A ad N)) (F0 m 67 ls [.int k0]) := by
    intro k0 S H locs ls hf  hP hD hS hl
    unfold f_X12_holds_J67 at hf
    obtain ⟨g4, hf⟩ := ha_gds hf
    have he := Option.some.inj hf
    exact ha_retz hx hb hr hlocks hP hD hS dX12_holds_67 g4 (ha_e1 he) (ha_e2 he)
  unfold f_X12_holds at hf
  refine lv_aload_n hx hb dX12_holds_0 rfl (lv_at hl 0 rfl) ?_
  refine lv_aload_n hx hb dX12_holds_1 rfl (lv_at hl 0 rfl) ?_
  obtain ⟨r5, wr5, hf⟩ := ha_bds hf
  obtain ⟨wr5, hr5⟩ := ha_rf_some wr5
  refine ha_getr hx hb hown hK hP q26 hN h0 wr5 dX12_holds_2 ?_
  refine lv_iload_n hx hb dX12_holds_5 rfl (lv_at hl 1 rfl) ?_
  obtain ⟨g6, hf⟩ := ha_gds hf
  refine ha_iald hx hb hK hP hN hr5 g6 dX12_holds_6 ?_
  refine lv_iload_n hx hb dX12_holds_7 rfl (lv_at hl 2 rfl) ?_
  obtain ⟨z7, wz7, hf⟩ := ha_bds hf
  refine ha_callVi (As := [.int ((ha_gA S r5 (p1 : Int32).toNatClampNeg)), .int p2]) (rest := []) hZ ⟨hx, hb, hml, hown, hts⟩ hK hz hP hD hS (c_X12_valueOf hZ hN h0 wz7) cw0 hN h0 (by decide) rfl rfl hl.1 rfl (Nat.le_of_ble_eq_true rfl) dX12_holds_8 ⟨Nat.le_of_ble_eq_true rfl, Nat.le_of_ble_eq_true rfl⟩ (fun H locs hP hD hS => ?_)
  refine lv_istore_n (lv' := [(3, .int z7.1), (0, .ref (ad p0)), (1, .int p1), (2, .int p2)]) hx hb dX12_holds_11 rfl hl (by decide) rfl (fun ls hl => ?_)
  refine lv_aload_n hx hb dX12_holds_12 rfl (lv_at hl 1 rfl) ?_
  refine lv_aload_n hx hb dX12_holds_13 rfl (lv_at hl 1 rfl) ?_
  obtain ⟨r8, wr8, hf⟩ := ha_bds hf
  obtain ⟨wr8, hr8⟩ := ha_rf_some wr8
  refine ha_getr hx hb hown hK hP q32 hN h0 wr8 dX12_holds_14 ?_
  refine lv_iload_n hx hb dX12_holds_17 rfl (lv_at hl 2 rfl) ?_
  obtain ⟨g9, hf⟩ := ha_gds hf
  refine ha_iald hx hb hK hP hN hr8 g9 dX12_holds_18 ?_
  refine lv_iload_n hx hb dX12_holds_19 rfl (lv_at hl 3 rfl) ?_
  obtain ⟨z10, wz10, hf⟩ := ha_bds hf
  refine ha_callVi (As := [.int ((ha_gA z7.2 r8 (p1 : Int32).toNatClampNeg)), .int p2]) (rest := []) hZ ⟨hx, hb, hml, hown, hts⟩ hK hz hP hD hS (c_X12_valueOf hZ hN h0 wz10) cw0 hN h0 (by decide) rfl rfl hl.1 rfl (Nat.le_of_ble_eq_true rfl) dX12_holds_20 ⟨Nat.le_of_ble_eq_true rfl, Nat.le_of_ble_eq_true rfl⟩ (fun H locs hP hD hS => ?_)
  refine lv_istore (lv' := [(4, .int z10.1), (3, .int z7.1), (0, .ref (ad p0)), (1, .int p1), (2, .int p2)]) hx hb dX12_holds_23 hl (by decide) rfl (fun ls hl => ?_)
  refine lv_aload_n hx hb dX12_holds_25 rfl (lv_at hl 2 rfl) ?_
  obtain ⟨r11, wr11, hf⟩ := ha_bds hf
  obtain ⟨wr11, hr11⟩ := ha_rf_some wr11
  refine ha_getr hx hb hown hK hP q29 hN h0 wr11 dX12_holds_26 ?_
  refine lv_iload_n hx hb dX12_holds_29 rfl (lv_at hl 3 rfl) ?_
  obtain ⟨g12, hf⟩ := ha_gds hf
  refine ha_iald hx hb hK hP hN hr11 g12 dX12_holds_30 ?_
  refine lv_topi (fun xs exs => ?_)
  have hf := ha_nms hf exs
  by_cases cs60 : xs = 60
  · have hf := ha_it hf cs60
    refine ha_tsin (tgt := 56) hx hb dX12_holds_31 60 cs60 (by decide) rfl (by decide) ?_
    refine lv_iload_n hx hb dX12_holds_56 rfl (lv_at hl 1 rfl) ?_
    refine lv_iload hx hb dX12_holds_57 (lv_at hl 0 rfl) ?_
    refine lv_icmp_ge (tgt := 66) hx hb dX12_holds_59 (by decide) (fun c13 => ?_) (fun c13 => ?_)
    · have hf := ha_it hf c13
      refine lv_iconst (v := 0) hx hb dX12_holds_66 (by decide) ?_
      exact J67 0 z10.2 H locs ls hf  hP hD hS (lv_sub hl [2, 3, 4] rfl)
    · have hf := ha_if hf c13
      refine lv_iconst (v := 1) hx hb dX12_holds_62 (by decide) ?_
      refine lv_goto (tgt := 67) hx hb dX12_holds_63 (by decide) ?_
      exact J67 1 z10.2 H locs ls hf  hP hD hS (lv_sub hl [2, 3, 4] rfl)
  · have hf := ha_if hf cs60
    by_cases cs61 : xs = 61
    · have hf := ha_it hf cs61
      refine ha_tsin (tgt := 68) hx hb dX12_holds_31 61 cs61 (by decide) rfl (by decide) ?_
      refine lv_iload_n hx hb dX12_holds_68 rfl (lv_at hl 1 rfl) ?_
      refine lv_iload hx hb dX12_holds_69 (lv_at hl 0 rfl) ?_
      refine lv_icmp_ne (tgt := 78) hx hb dX12_holds_71 (by decide) (fun c14 => ?_) (fun c14 => ?_)
      · have hf := ha_it hf c14
        refine lv_iconst (v := 0) hx hb dX12_holds_78 (by decide) ?_
        exact J79 0 z10.2 H locs ls hf  hP hD hS (lv_sub hl [2, 3, 4] rfl)
      · have hf := ha_if hf (fun q => q c14)
        refine lv_iconst (v := 1) hx hb dX12_holds_74 (by decide) ?_
        refine lv_goto (tgt := 79) hx hb dX12_holds_75 (by decide) ?_
        exact J79 1 z10.2 H locs ls hf  hP hD hS (lv_sub hl [2, 3, 4] rfl)
    · have hf := ha_if hf cs61
      by_cases cs62 : xs = 62
      · have hf := ha_it hf cs62
        refine ha_tsin (tgt := 80) hx hb dX12_holds_31 62 cs62 (by decide) rfl (by decide) ?_
        refine lv_iload_n hx hb dX12_holds_80 rfl (lv_at hl 1 rfl) ?_
        refine lv_iload hx hb dX12_holds_81 (lv_at hl 0 rfl) ?_
        refine lv_icmp_le (tgt := 90) hx hb dX12_holds_83 (by decide) (fun c15 => ?_) (fun c15 => ?_)
        · have hf := ha_it hf c15
          refine lv_iconst (v := 0) hx hb dX12_holds_90 (by decide) ?_
          exact J91 0 z10.2 H locs ls hf  hP hD hS (lv_sub hl [2, 3, 4] rfl)
        · have hf := ha_if hf c15
          refine lv_iconst (v := 1) hx hb dX12_holds_86 (by decide) ?_
          refine lv_goto (tgt := 91) hx hb dX12_holds_87 (by decide) ?_
          exact J91 1 z10.2 H locs ls hf  hP hD hS (lv_sub hl [2, 3, 4] rfl)
      · have hf := ha_if hf cs62
        have ncs60 := lv_neT cs60 (show (60 : Int32).toInt = 60 by decide)
        have ncs61 := lv_neT cs61 (show (61 : Int32).toInt = 61 by decide)
        have ncs62 := lv_neT cs62 (show (62 : Int32).toInt = 62 by decide)
        refine lv_tableOut (tgt := 92) hx hb dX12_holds_31 (by omega) (by decide) ?_
        refine lv_iload_n hx hb dX12_holds_92 rfl (lv_at hl 1 rfl) ?_
        refine lv_iload hx hb dX12_holds_93 (lv_at hl 0 rfl) ?_
        refine lv_icmp_eq (tgt := 102) hx hb dX12_holds_95 (by decide) (fun c16 => ?_) (fun c16 => ?_)
        · have hf := ha_it hf c16
          refine lv_iconst (v := 0) hx hb dX12_holds_102 (by decide) ?_
          exact J103 0 z10.2 H locs ls hf  hP hD hS (lv_sub hl [2, 3, 4] rfl)
        · have hf := ha_if hf c16
          refine lv_iconst (v := 1) hx hb dX12_holds_98 (by decide) ?_
          refine lv_goto (tgt := 103) hx hb dX12_holds_99 (by decide) ?_
          exact J103 1 z10.2 H locs ls hf  hP hD hS (lv_sub hl [2, 3, 4] rfl)

set_option maxHeartbeats 4000000 in
set_option maxRecDepth 100000 in
theorem c_X12_act {l : Launch} {D : va_G} {cs : Nat → ClassId} {ad : Nat → Nat} {N : List Nat} {Z : State → Prop} (hZ : ha_Zok (ha_A ad N) Z) (hN : ∀ x, mo_kd x < 999 → x ∈ N) {p0 : Nat} {p1 : Int32} {p2 : Int32} {S : ha_St} {out : ha_St} (h0 : mo_kd p0 = 12) (hf : f_X12_act p0 p1 p2 S = some out) : ha_Cv l D cs ad mo_kd mo_ln N Z yX12_act wsX12_act ({ frames := 1, cells := 0, slots := 0, locals := 22 } : Room) [.ref (ad p0), .int p1, .int p2] S out := by
  refine Met.ofW (cc := cX12_act) (maxL := 5) (ret := none) (by decide +kernel) rfl ?_
  intro p e s m args below meth c s₁ B hml hv
  obtain ⟨rfl, hP, hD, hK, hz⟩ := hv
  have hx := B.exec
  have hb := B.bytes
  have hr := B.returns
  have hts := atoms_spec (ws := wsX12_act) B.pre
  have hown : s.vm.findClass RX12 = some m.cls := findClass_of_methodNamed B.named
  have hlocks := B.notSynchronized
  have hS : va_S (ha_A ad N) s.heap s.heap [] := va_S.rf
  have hi12 : ∀ w ∈ wsX120, w ∈ wsX12_act := fun w h => List.mem_cons_of_mem _ (List.mem_append_right _ h)
  have q13 : ha_Fk s ([.ref (ad p0), .int p1, .int p2] : List Value).toArray RX12 13 12 4 0 := ⟨RX12, TX12, 83, wsX12_act, rfl, by decide, by decide, rfl, rfl, hts, hi12, hts (.fieldLink RX12 13 "HillArmsModel" "n" "I") (by decide +kernel)⟩
  have q296 : ha_Fk s ([.ref (ad p0), .int p1, .int p2] : List Value).toArray RX12 296 12 37 0 := ⟨RX12, TX12, 83, wsX12_act, rfl, by decide, by decide, rfl, rfl, hts, hi12, hts (.fieldLink RX12 296 "HillArmsModel" "wroteMany" "I") (by decide +kernel)⟩
  have q68 : ha_Fk s ([.ref (ad p0), .int p1, .int p2] : List Value).toArray RX12 68 12 36 1 := ⟨RX12, TX12, 83, wsX12_act, rfl, by decide, by decide, rfl, rfl, hts, hi12, hts (.fieldLink RX12 68 "HillArmsModel" "wrote" "[I") (by decide +kernel)⟩
  have q62 : ha_Fk s ([.ref (ad p0), .int p1, .int p2] : List Value).toArray RX12 62 12 34 1 := ⟨RX12, TX12, 83, wsX12_act, rfl, by decide, by decide, rfl, rfl, hts, hi12, hts (.fieldLink RX12 62 "HillArmsModel" "cells" "[I") (by decide +kernel)⟩
  have q56 : ha_Fk s ([.ref (ad p0), .int p1, .int p2] : List Value).toArray RX12 56 12 32 1 := ⟨RX12, TX12, 83, wsX12_act, rfl, by decide, by decide, rfl, rfl, hts, hi12, hts (.fieldLink RX12 56 "HillArmsModel" "now" "[I") (by decide +kernel)⟩
  have q35 : ha_Fk s ([.ref (ad p0), .int p1, .int p2] : List Value).toArray RX12 35 12 20 1 := ⟨RX12, TX12, 83, wsX12_act, rfl, by decide, by decide, rfl, rfl, hts, hi12, hts (.fieldLink RX12 35 "HillArmsModel" "actWhat" "[I") (by decide +kernel)⟩
  have q38 : ha_Fk s ([.ref (ad p0), .int p1, .int p2] : List Value).toArray RX12 38 12 21 1 := ⟨RX12, TX12, 83, wsX12_act, rfl, by decide, by decide, rfl, rfl, hts, hi12, hts (.fieldLink RX12 38 "HillArmsModel" "actFirst" "[I") (by decide +kernel)⟩
  have q41 : ha_Fk s ([.ref (ad p0), .int p1, .int p2] : List Value).toArray RX12 41 12 22 1 := ⟨RX12, TX12, 83, wsX12_act, rfl, by decide, by decide, rfl, rfl, hts, hi12, hts (.fieldLink RX12 41 "HillArmsModel" "actSecond" "[I") (by decide +kernel)⟩
  have q285 : ha_Fk s ([.ref (ad p0), .int p1, .int p2] : List Value).toArray RX12 285 12 38 0 := ⟨RX12, TX12, 83, wsX12_act, rfl, by decide, by decide, rfl, rfl, hts, hi12, hts (.fieldLink RX12 285 "HillArmsModel" "sent" "I") (by decide +kernel)⟩
  have q264 : ha_Fk s ([.ref (ad p0), .int p1, .int p2] : List Value).toArray RX12 264 12 30 0 := ⟨RX12, TX12, 83, wsX12_act, rfl, by decide, by decide, rfl, rfl, hts, hi12, hts (.fieldLink RX12 264 "HillArmsModel" "signs" "I") (by decide +kernel)⟩
  have r296 : ha_Fp s ([.ref (ad p0), .int p1, .int p2] : List Value).toArray RX12 296 12 37 0 .int := ⟨RX12, TX12, 83, wsX12_act, tyX12, rfl, by decide, by decide, rfl, rfl, hts, hi12, hts (.fieldLink RX12 296 "HillArmsModel" "wroteMany" "I") (by decide +kernel), tyX12_ok, nmX12, rfl, by decide +kernel⟩
  have r292 : ha_Fp s ([.ref (ad p0), .int p1, .int p2] : List Value).toArray RX12 292 12 40 0 .boolean := ⟨RX12, TX12, 83, wsX12_act, tyX12, rfl, by decide, by decide, rfl, rfl, hts, hi12, hts (.fieldLink RX12 292 "HillArmsModel" "hasChanged" "Z") (by decide +kernel), tyX12_ok, nmX12, rfl, by decide +kernel⟩
  have r285 : ha_Fp s ([.ref (ad p0), .int p1, .int p2] : List Value).toArray RX12 285 12 38 0 .int := ⟨RX12, TX12, 83, wsX12_act, tyX12, rfl, by decide, by decide, rfl, rfl, hts, hi12, hts (.fieldLink RX12 285 "HillArmsModel" "sent" "I") (by decide +kernel), tyX12_ok, nmX12, rfl, by decide +kernel⟩
  have cw0 := cwV (R := (headSpec wsX12_act ({ frames := 1, cells := 0, slots := 0, locals := 22 } : Room)).room) 2 hts gX12_act_X12_valueOf (rm := ({ frames := 0, cells := 0, slots := 0, locals := 0 } : Room)) (mc := 0) (ms := 0) rfl rfl rfl (by decide +kernel) ⟨Nat.le_of_ble_eq_true rfl, Nat.le_of_ble_eq_true rfl⟩
  have hl := lv_entry ([.ref (ad p0), .int p1, .int p2]) (n := 5) (Nat.le_of_ble_eq_true rfl)
  rw [lg_entry_eq]
  generalize (lg_sl ([.ref (ad p0), .int p1, .int p2]) ++ List.replicate (5 - (lg_sl ([.ref (ad p0), .int p1, .int p2])).length) Slot.unset).toArray = ls at hl ⊢
  have hl : lv_has ls 5 [(0, .ref (ad p0)), (1, .int p1), (2, .int p2)] := hl
  refine (fun (K0 : ∀ (H : Heap) (locs : List Loc), va_P D vwCl (ha_wl cs ad mo_kd mo_ln N S) H → va_S (ha_A ad N) s.heap H locs → W p l e (headSpec wsX12_act ({ frames := 1, cells := 0, slots := 0, locals := 22 } : Room)).room s m ([.ref (ad p0), .int p1, .int p2] : List Value).toArray below meth c H locs 0 0 (MQ below (va_Qv (fun (_ : Unit) => True) (fun _ => ha_H D cs ad mo_kd mo_ln N out) (ha_A ad N)) ([.ref (ad p0), .int p1, .int p2] : List Value).toArray s 0 0 (ha_A ad N)) (F0 m 0 ls [])) => K0 _ _ hP hS) ?_
  intro H locs hP hS
  have hf := ha_rt hf
  have J168 : ∀  (S : ha_St) (H : Heap) (locs : List Loc) (ls : Array Slot), (f_X12_act_J168 p0 p1 p2  S).bind some = some out → va_P D vwCl (ha_wl cs ad mo_kd mo_ln N S) H → va_D (ha_A ad N) (ha_wl cs ad mo_kd mo_ln N S) → va_S (ha_A ad N) s.heap H locs → lv_has ls 5 [(0, .ref (ad p0)), (1, .int p1), (2, .int p2)] → W p l e (headSpec wsX12_act ({ frames := 1, cells := 0, slots := 0, locals := 22 } : Room)).room s m ([.ref (ad p0), .int p1, .int p2] : List Value).toArray below meth c H locs 0 0 (MQ below (va_Qv (fun (_ : Unit) => True) (fun _ => ha_H D cs ad mo_kd mo_ln N out) (ha_A ad N)) ([.ref (ad p0), .int p1, .int p2] : List Value).toArray s 0 0 (ha_A ad N)) (F0 m 168 ls []) := by
    intro  S H locs ls hf  hP hD hS hl
    unfold f_X12_act_J168 at hf
    have he := Option.some.inj hf
    exact ha_retv hx hb hr hlocks hP hD hS dX12_act_168 he
  have J81 : ∀ (v3 : Int32) (k0 : Int32) (k1 : Int32) (S : ha_St) (H : Heap) (locs : List Loc) (ls : Array Slot), (f_X12_act_J81 p0 p1 p2 v3 k0 k1 S).bind some = some out → va_P D vwCl (ha_wl cs ad mo_kd mo_ln N S) H → va_D (ha_A ad N) (ha_wl cs ad mo_kd mo_ln N S) → va_S (ha_A ad N) s.heap H locs → lv_has ls 5 [(0, .ref (ad p0)), (1, .int p1), (2, .int p2), (3, .int v3)] → W p l e (headSpec wsX12_act ({ frames := 1, cells := 0, slots := 0, locals := 22 } : Room)).room s m ([.ref (ad p0), .int p1, .int p2] : List Value).toArray below meth c H locs 0 0 (MQ below (va_Qv (fun (_ : Unit) => True) (fun _ => ha_H D cs ad mo_kd mo_ln N out) (ha_A ad N)) ([.ref (ad p0), .int p1, .int p2] : List Value).toArray s 0 0 (ha_A ad N)) (F0 m 81 ls [.int k1, .int k0]) := by
    intro v3 k0 k1 S H locs ls hf  hP hD hS hl
    unfold f_X12_act_J81 at hf
    refine lv_iadd hx hb dX12_act_81 ?_
    refine lv_bipush (v := 63) hx hb dX12_act_82 (by decide) ?_
    refine lv_iand hx hb dX12_act_84 ?_
    refine lv_topi (fun x1 ex1 => ?_)
    have hf := ha_nms hf ex1
    refine lv_istore (lv' := [(4, .int x1), (0, .ref (ad p0)), (1, .int p1), (2, .int p2), (3, .int v3)]) hx hb dX12_act_85 hl (by decide) rfl (fun ls hl => ?_)
    refine lv_iload_n hx hb dX12_act_87 rfl (lv_at hl 4 rfl) ?_
    refine lv_iconst (v := 4) hx hb dX12_act_88 (by decide) ?_
    refine lv_icmp_ne (tgt := 103) hx hb dX12_act_89 (by decide) (fun c2 => ?_) (fun c2 => ?_)
    · have hf := ha_it hf c2
      refine lv_iload_n hx hb dX12_act_103 rfl (lv_at hl 4 rfl) ?_
      refine lv_iconst (v := 4) hx hb dX12_act_104 (by decide) ?_
      refine lv_icmp_ge (tgt := 123) hx hb dX12_act_105 (by decide) (fun c3 => ?_) (fun c3 => ?_)
      · have hf := ha_it hf c3
        refine lv_iload_n hx hb dX12_act_123 rfl (lv_at hl 3 rfl) ?_
        refine lv_aload_n hx hb dX12_act_124 rfl (lv_at hl 1 rfl) ?_
        refine ha_geti hx hb hown hK hP q13 hN h0 dX12_act_125 ?_
        refine lv_iconst (v := 1) hx hb dX12_act_128 (by decide) ?_
        refine lv_isub hx hb dX12_act_129 ?_
        refine lv_icmp_ne (tgt := 168) hx hb dX12_act_130 (by decide) (fun c4 => ?_) (fun c4 => ?_)
        · have hf := ha_it hf c4
          exact J168  S H locs ls hf  hP hD hS (lv_sub hl [1, 2, 3] rfl)
        · have hf := ha_if hf (fun q => q c4)
          refine lv_aload_n hx hb dX12_act_133 rfl (lv_at hl 1 rfl) ?_
          refine ha_geti hx hb hown hK hP q296 hN h0 dX12_act_134 ?_
          refine lv_bipush (v := 100) hx hb dX12_act_137 (by decide) ?_
          refine lv_icmp_ge (tgt := 168) hx hb dX12_act_139 (by decide) (fun c5 => ?_) (fun c5 => ?_)
          · have hf := ha_it hf c5
            exact J168  S H locs ls hf  hP hD hS (lv_sub hl [1, 2, 3] rfl)
          · have hf := ha_if hf c5
            refine lv_aload_n hx hb dX12_act_142 rfl (lv_at hl 1 rfl) ?_
            obtain ⟨r6, wr6, hf⟩ := ha_bds hf
            obtain ⟨wr6, hr6⟩ := ha_rf_some wr6
            refine ha_getr hx hb hown hK hP q68 hN h0 wr6 dX12_act_143 ?_
            refine lv_aload_n hx hb dX12_act_146 rfl (lv_at hl 1 rfl) ?_
            refine ha_geti hx hb hown hK hP q296 hN h0 dX12_act_147 ?_
            refine lv_iload hx hb dX12_act_150 (lv_at hl 0 rfl) ?_
            obtain ⟨g7, hf⟩ := ha_gds hf
            refine ha_iast hx hb hK hP hD hS hN hr6 g7 dX12_act_152 (fun S8 H locs eS8 hP hD hS => ?_)
            have hf := ha_nms hf eS8
            refine lv_aload_n hx hb dX12_act_153 rfl (lv_at hl 1 rfl) ?_
            refine lv_dup hx hb dX12_act_154 rfl ?_
            refine ha_geti hx hb hown hK hP q296 hN h0 dX12_act_155 ?_
            refine lv_iconst (v := 1) hx hb dX12_act_158 (by decide) ?_
            refine lv_iadd hx hb dX12_act_159 ?_
            refine ha_puti hx hb hown hK hP hD hS r296 hN h0 dX12_act_160 (fun S9 H locs eS9 hP hD hS => ?_)
            have hf := ha_nms hf eS9
            refine lv_aload_n hx hb dX12_act_163 rfl (lv_at hl 1 rfl) ?_
            refine lv_iconst (v := 1) hx hb dX12_act_164 (by decide) ?_
            obtain ⟨g11, hf⟩ := ha_gds hf
            refine ha_putz hx hb hown hK hP hD hS r292 hN h0 g11 dX12_act_165 (fun S10 H locs eS10 hP hD hS => ?_)
            have hf := ha_nms hf eS10
            exact J168  S10 H locs ls hf  hP hD hS (lv_sub hl [1, 2, 3] rfl)
      · have hf := ha_if hf c3
        refine lv_aload_n hx hb dX12_act_108 rfl (lv_at hl 1 rfl) ?_
        obtain ⟨r12, wr12, hf⟩ := ha_bds hf
        obtain ⟨wr12, hr12⟩ := ha_rf_some wr12
        refine ha_getr hx hb hown hK hP q62 hN h0 wr12 dX12_act_109 ?_
        refine lv_iconst (v := 4) hx hb dX12_act_112 (by decide) ?_
        refine lv_iload_n hx hb dX12_act_113 rfl (lv_at hl 3 rfl) ?_
        refine lv_imul hx hb dX12_act_114 ?_
        refine lv_iload_n hx hb dX12_act_115 rfl (lv_at hl 4 rfl) ?_
        refine lv_iadd hx hb dX12_act_116 ?_
        refine lv_iload hx hb dX12_act_117 (lv_at hl 0 rfl) ?_
        obtain ⟨g13, hf⟩ := ha_gds hf
        refine ha_iast hx hb hK hP hD hS hN hr12 g13 dX12_act_119 (fun S14 H locs eS14 hP hD hS => ?_)
        have hf := ha_nms hf eS14
        refine lv_goto (tgt := 168) hx hb dX12_act_120 (by decide) ?_
        exact J168  S14 H locs ls hf  hP hD hS (lv_sub hl [1, 2, 3] rfl)
    · have hf := ha_if hf (fun q => q c2)
      refine lv_aload_n hx hb dX12_act_92 rfl (lv_at hl 1 rfl) ?_
      obtain ⟨r15, wr15, hf⟩ := ha_bds hf
      obtain ⟨wr15, hr15⟩ := ha_rf_some wr15
      refine ha_getr hx hb hown hK hP q56 hN h0 wr15 dX12_act_93 ?_
      refine lv_iload_n hx hb dX12_act_96 rfl (lv_at hl 3 rfl) ?_
      refine lv_iload hx hb dX12_act_97 (lv_at hl 0 rfl) ?_
      obtain ⟨g16, hf⟩ := ha_gds hf
      refine ha_iast hx hb hK hP hD hS hN hr15 g16 dX12_act_99 (fun S17 H locs eS17 hP hD hS => ?_)
      have hf := ha_nms hf eS17
      refine lv_goto (tgt := 168) hx hb dX12_act_100 (by decide) ?_
      exact J168  S17 H locs ls hf  hP hD hS (lv_sub hl [1, 2, 3] rfl)
  have J28 : ∀  (S : ha_St) (H : Heap) (locs : List Loc) (ls : Array Slot), (f_X12_act_J28 p0 p1 p2  S).bind some = some out → va_P D vwCl (ha_wl cs ad mo_kd mo_ln N S) H → va_D (ha_A ad N) (ha_wl cs ad mo_kd mo_ln N S) → va_S (ha_A ad N) s.heap H locs → lv_has ls 5 [(0, .ref (ad p0)), (1, .int p1), (2, .int p2)] → W p l e (headSpec wsX12_act ({ frames := 1, cells := 0, slots := 0, locals := 22 } : Room)).room s m ([.ref (ad p0), .int p1, .int p2] : List Value).toArray below meth c H locs 0 0 (MQ below (va_Qv (fun (_ : Unit) => True) (fun _ => ha_H D cs ad mo_kd mo_ln N out) (ha_A ad N)) ([.ref (ad p0), .int p1, .int p2] : List Value).toArray s 0 0 (ha_A ad N)) (F0 m 28 ls []) := by
    intro  S H locs ls hf  hP hD hS hl
    unfold f_X12_act_J28 at hf
    have he := Option.some.inj hf
    exact ha_retv hx hb hr hlocks hP hD hS dX12_act_28 he
  unfold f_X12_act at hf
  refine lv_aload_n hx hb dX12_act_0 rfl (lv_at hl 0 rfl) ?_
  obtain ⟨r18, wr18, hf⟩ := ha_bds hf
  obtain ⟨wr18, hr18⟩ := ha_rf_some wr18
  refine ha_getr hx hb hown hK hP q35 hN h0 wr18 dX12_act_1 ?_
  refine lv_iload_n hx hb dX12_act_4 rfl (lv_at hl 1 rfl) ?_
  obtain ⟨g19, hf⟩ := ha_gds hf
  refine ha_iald hx hb hK hP hN hr18 g19 dX12_act_5 ?_
  refine lv_topi (fun x20 ex20 => ?_)
  have hf := ha_nms hf ex20
  refine lv_istore_n (lv' := [(3, .int x20), (0, .ref (ad p0)), (1, .int p1), (2, .int p2)]) hx hb dX12_act_6 rfl hl (by decide) rfl (fun ls hl => ?_)
  refine lv_iload_n hx hb dX12_act_7 rfl (lv_at hl 0 rfl) ?_
  refine lv_bipush (v := 6) hx hb dX12_act_8 (by decide) ?_
  refine lv_icmp_ne (tgt := 45) hx hb dX12_act_10 (by decide) (fun c21 => ?_) (fun c21 => ?_)
  · have hf := ha_it hf c21
    refine lv_aload_n hx hb dX12_act_45 rfl (lv_at hl 1 rfl) ?_
    refine lv_aload_n hx hb dX12_act_46 rfl (lv_at hl 1 rfl) ?_
    obtain ⟨r22, wr22, hf⟩ := ha_bds hf
    obtain ⟨wr22, hr22⟩ := ha_rf_some wr22
    refine ha_getr hx hb hown hK hP q38 hN h0 wr22 dX12_act_47 ?_
    refine lv_iload_n hx hb dX12_act_50 rfl (lv_at hl 2 rfl) ?_
    obtain ⟨g23, hf⟩ := ha_gds hf
    refine ha_iald hx hb hK hP hN hr22 g23 dX12_act_51 ?_
    refine lv_iload_n hx hb dX12_act_52 rfl (lv_at hl 3 rfl) ?_
    obtain ⟨z24, wz24, hf⟩ := ha_bds hf
    refine ha_callVi (As := [.int ((ha_gA S r22 (p1 : Int32).toNatClampNeg)), .int p2]) (rest := []) hZ ⟨hx, hb, hml, hown, hts⟩ hK hz hP hD hS (c_X12_valueOf hZ hN h0 wz24) cw0 hN h0 (by decide) rfl rfl hl.1 rfl (Nat.le_of_ble_eq_true rfl) dX12_act_53 ⟨Nat.le_of_ble_eq_true rfl, Nat.le_of_ble_eq_true rfl⟩ (fun H locs hP hD hS => ?_)
    refine lv_aload_n hx hb dX12_act_56 rfl (lv_at hl 1 rfl) ?_
    obtain ⟨r25, wr25, hf⟩ := ha_bds hf
    obtain ⟨wr25, hr25⟩ := ha_rf_some wr25
    refine ha_getr hx hb hown hK hP q41 hN h0 wr25 dX12_act_57 ?_
    refine lv_iload_n hx hb dX12_act_60 rfl (lv_at hl 2 rfl) ?_
    obtain ⟨g26, hf⟩ := ha_gds hf
    refine ha_iald hx hb hK hP hN hr25 g26 dX12_act_61 ?_
    refine lv_iconst (v := (-1)) hx hb dX12_act_62 (by decide) ?_
    refine lv_icmp_ne (tgt := 70) hx hb dX12_act_63 (by decide) (fun c27 => ?_) (fun c27 => ?_)
    · have hf := ha_it hf c27
      refine lv_aload_n hx hb dX12_act_70 rfl (lv_at hl 1 rfl) ?_
      refine lv_aload_n hx hb dX12_act_71 rfl (lv_at hl 1 rfl) ?_
      obtain ⟨r28, wr28, hf⟩ := ha_bds hf
      obtain ⟨wr28, hr28⟩ := ha_rf_some wr28
      refine ha_getr hx hb hown hK hP q41 hN h0 wr28 dX12_act_72 ?_
      refine lv_iload_n hx hb dX12_act_75 rfl (lv_at hl 2 rfl) ?_
      obtain ⟨g29, hf⟩ := ha_gds hf
      refine ha_iald hx hb hK hP hN hr28 g29 dX12_act_76 ?_
      refine lv_iload_n hx hb dX12_act_77 rfl (lv_at hl 3 rfl) ?_
      obtain ⟨z30, wz30, hf⟩ := ha_bds hf
      refine ha_callVi (As := [.int ((ha_gA z24.2 r28 (p1 : Int32).toNatClampNeg)), .int p2]) (rest := [.int z24.1]) hZ ⟨hx, hb, hml, hown, hts⟩ hK hz hP hD hS (c_X12_valueOf hZ hN h0 wz30) cw0 hN h0 (by decide) rfl rfl hl.1 rfl (Nat.le_of_ble_eq_true rfl) dX12_act_78 ⟨Nat.le_of_ble_eq_true rfl, Nat.le_of_ble_eq_true rfl⟩ (fun H locs hP hD hS => ?_)
      exact J81 x20 z24.1 z30.1 z30.2 H locs ls hf  hP hD hS (lv_sub hl [1, 2, 3, 0] rfl)
    · have hf := ha_if hf (fun q => q c27)
      refine lv_iconst (v := 0) hx hb dX12_act_66 (by decide) ?_
      refine lv_goto (tgt := 81) hx hb dX12_act_67 (by decide) ?_
      exact J81 x20 z24.1 0 z24.2 H locs ls hf  hP hD hS (lv_sub hl [1, 2, 3, 0] rfl)
  · have hf := ha_if hf (fun q => q c21)
    refine lv_iload_n hx hb dX12_act_13 rfl (lv_at hl 3 rfl) ?_
    refine lv_if_gt (tgt := 28) hx hb dX12_act_14 (by decide) (fun c31 => ?_) (fun c31 => ?_)
    · have hf := ha_it hf c31
      exact J28  S H locs ls hf  hP hD hS (lv_sub hl [1, 2, 3] rfl)
    · have hf := ha_if hf c31
      refine lv_aload_n hx hb dX12_act_17 rfl (lv_at hl 1 rfl) ?_
      refine ha_geti hx hb hown hK hP q285 hN h0 dX12_act_18 ?_
      refine lv_aload_n hx hb dX12_act_21 rfl (lv_at hl 1 rfl) ?_
      refine ha_geti hx hb hown hK hP q264 hN h0 dX12_act_22 ?_
      refine lv_icmp_ne (tgt := 29) hx hb dX12_act_25 (by decide) (fun c32 => ?_) (fun c32 => ?_)
      · have hf := ha_it hf c32
        refine lv_aload_n hx hb dX12_act_29 rfl (lv_at hl 1 rfl) ?_
        refine lv_dup hx hb dX12_act_30 rfl ?_
        refine ha_geti hx hb hown hK hP q285 hN h0 dX12_act_31 ?_
        refine lv_iconst (v := 1) hx hb dX12_act_34 (by decide) ?_
        refine lv_iadd hx hb dX12_act_35 ?_
        refine ha_puti hx hb hown hK hP hD hS r285 hN h0 dX12_act_36 (fun S33 H locs eS33 hP hD hS => ?_)
        have hf := ha_nms hf eS33
        refine lv_aload_n hx hb dX12_act_39 rfl (lv_at hl 1 rfl) ?_
        refine lv_iconst (v := 1) hx hb dX12_act_40 (by decide) ?_
        obtain ⟨g35, hf⟩ := ha_gds hf
        refine ha_putz hx hb hown hK hP hD hS r292 hN h0 g35 dX12_act_41 (fun S34 H locs eS34 hP hD hS => ?_)
        have hf := ha_nms hf eS34
        have he := Option.some.inj hf
        exact ha_retv hx hb hr hlocks hP hD hS dX12_act_44 he
      · have hf := ha_if hf (fun q => q c32)
        exact J28  S H locs ls hf  hP hD hS (lv_sub hl [1, 2, 3] rfl)

set_option maxHeartbeats 4000000 in
set_option maxRecDepth 100000 in
theorem c_X12_doRule {l : Launch} {D : va_G} {cs : Nat → ClassId} {ad : Nat → Nat} {N : List Nat} {Z : State → Prop} (hZ : ha_Zok (ha_A ad N) Z) (hN : ∀ x, mo_kd x < 999 → x ∈ N) {p0 : Nat} {p1 : Int32} {p2 : Int32} {p3 : Int32} {S : ha_St} {out : ha_St} (h0 : mo_kd p0 = 12) (hf : f_X12_doRule p0 p1 p2 p3 S = some out) : ha_Cv l D cs ad mo_kd mo_ln N Z yX12_doRule wsX12_doRule ({ frames := 2, cells := 0, slots := 0, locals := 46 } : Room) [.ref (ad p0), .int p1, .int p2, .int p3] S out := by
  refine Met.ofW (cc := cX12_doRule) (maxL := 8) (ret := none) (by decide +kernel) rfl ?_
  intro p e s m args below meth c s₁ B hml hv
  obtain ⟨rfl, hP, hD, hK, hz⟩ := hv
  have hx := B.exec
  have hb := B.bytes
  have hr := B.returns
  have hts := atoms_spec (ws := wsX12_doRule) B.pre
  have hown : s.vm.findClass RX12 = some m.cls := findClass_of_methodNamed B.named
  have hlocks := B.notSynchronized
  have hS : va_S (ha_A ad N) s.heap s.heap [] := va_S.rf
  have hi12 : ∀ w ∈ wsX120, w ∈ wsX12_doRule := fun w h => List.mem_cons_of_mem _ (List.mem_append_right _ h)
  have q23 : ha_Fk s ([.ref (ad p0), .int p1, .int p2, .int p3] : List Value).toArray RX12 23 12 16 1 := ⟨RX12, TX12, 83, wsX12_doRule, rfl, by decide, by decide, rfl, rfl, hts, hi12, hts (.fieldLink RX12 23 "HillArmsModel" "actTo" "[I") (by decide +kernel)⟩
  have q20 : ha_Fk s ([.ref (ad p0), .int p1, .int p2, .int p3] : List Value).toArray RX12 20 12 15 1 := ⟨RX12, TX12, 83, wsX12_doRule, rfl, by decide, by decide, rfl, rfl, hts, hi12, hts (.fieldLink RX12 20 "HillArmsModel" "oneTo" "[I") (by decide +kernel)⟩
  have q17 : ha_Fk s ([.ref (ad p0), .int p1, .int p2, .int p3] : List Value).toArray RX12 17 12 14 1 := ⟨RX12, TX12, 83, wsX12_doRule, rfl, by decide, by decide, rfl, rfl, hts, hi12, hts (.fieldLink RX12 17 "HillArmsModel" "ruleMany" "[I") (by decide +kernel)⟩
  have q13 : ha_Fk s ([.ref (ad p0), .int p1, .int p2, .int p3] : List Value).toArray RX12 13 12 4 0 := ⟨RX12, TX12, 83, wsX12_doRule, rfl, by decide, by decide, rfl, rfl, hts, hi12, hts (.fieldLink RX12 13 "HillArmsModel" "n" "I") (by decide +kernel)⟩
  have q59 : ha_Fk s ([.ref (ad p0), .int p1, .int p2, .int p3] : List Value).toArray RX12 59 12 33 1 := ⟨RX12, TX12, 83, wsX12_doRule, rfl, by decide, by decide, rfl, rfl, hts, hi12, hts (.fieldLink RX12 59 "HillArmsModel" "ahead" "[I") (by decide +kernel)⟩
  have r282 : ha_Fp s ([.ref (ad p0), .int p1, .int p2, .int p3] : List Value).toArray RX12 282 12 46 0 .int := ⟨RX12, TX12, 83, wsX12_doRule, tyX12, rfl, by decide, by decide, rfl, rfl, hts, hi12, hts (.fieldLink RX12 282 "HillArmsModel" "right" "I") (by decide +kernel), tyX12_ok, nmX12, rfl, by decide +kernel⟩
  have r279 : ha_Fp s ([.ref (ad p0), .int p1, .int p2, .int p3] : List Value).toArray RX12 279 12 45 0 .int := ⟨RX12, TX12, 83, wsX12_doRule, tyX12, rfl, by decide, by decide, rfl, rfl, hts, hi12, hts (.fieldLink RX12 279 "HillArmsModel" "left" "I") (by decide +kernel), tyX12_ok, nmX12, rfl, by decide +kernel⟩
  have cw0 := cwV (R := (headSpec wsX12_doRule ({ frames := 2, cells := 0, slots := 0, locals := 46 } : Room)).room) 2 hts gX12_doRule_X12_act (rm := ({ frames := 1, cells := 0, slots := 0, locals := 22 } : Room)) (mc := 0) (ms := 0) rfl rfl rfl (by decide +kernel) ⟨Nat.le_of_ble_eq_true rfl, Nat.le_of_ble_eq_true rfl⟩
  have cw1 := cwV (R := (headSpec wsX12_doRule ({ frames := 2, cells := 0, slots := 0, locals := 46 } : Room)).room) 2 hts gX12_doRule_X12_holds (rm := ({ frames := 1, cells := 0, slots := 0, locals := 22 } : Room)) (mc := 0) (ms := 0) rfl rfl rfl (by decide +kernel) ⟨Nat.le_of_ble_eq_true rfl, Nat.le_of_ble_eq_true rfl⟩
  have cw2 := cwV (R := (headSpec wsX12_doRule ({ frames := 2, cells := 0, slots := 0, locals := 46 } : Room)).room) 2 hts gX12_doRule_X12_isFoggy (rm := ({ frames := 1, cells := 0, slots := 0, locals := 22 } : Room)) (mc := 0) (ms := 0) rfl rfl rfl (by decide +kernel) ⟨Nat.le_of_ble_eq_true rfl, Nat.le_of_ble_eq_true rfl⟩
  have hl := lv_entry ([.ref (ad p0), .int p1, .int p2, .int p3]) (n := 8) (Nat.le_of_ble_eq_true rfl)
  rw [lg_entry_eq]
  generalize (lg_sl ([.ref (ad p0), .int p1, .int p2, .int p3]) ++ List.replicate (8 - (lg_sl ([.ref (ad p0), .int p1, .int p2, .int p3])).length) Slot.unset).toArray = ls at hl ⊢
  have hl : lv_has ls 8 [(0, .ref (ad p0)), (1, .int p1), (2, .int p2), (3, .int p3)] := hl
  refine (fun (K0 : ∀ (H : Heap) (locs : List Loc), va_P D vwCl (ha_wl cs ad mo_kd mo_ln N S) H → va_S (ha_A ad N) s.heap H locs → W p l e (headSpec wsX12_doRule ({ frames := 2, cells := 0, slots := 0, locals := 46 } : Room)).room s m ([.ref (ad p0), .int p1, .int p2, .int p3] : List Value).toArray below meth c H locs 0 0 (MQ below (va_Qv (fun (_ : Unit) => True) (fun _ => ha_H D cs ad mo_kd mo_ln N out) (ha_A ad N)) ([.ref (ad p0), .int p1, .int p2, .int p3] : List Value).toArray s 0 0 (ha_A ad N)) (F0 m 0 ls [])) => K0 _ _ hP hS) ?_
  intro H locs hP hS
  have hf := ha_rt hf
  have J229 : ∀  (S : ha_St) (H : Heap) (locs : List Loc) (ls : Array Slot), (f_X12_doRule_J229 p0 p1 p2 p3  S).bind some = some out → va_P D vwCl (ha_wl cs ad mo_kd mo_ln N S) H → va_D (ha_A ad N) (ha_wl cs ad mo_kd mo_ln N S) → va_S (ha_A ad N) s.heap H locs → lv_has ls 8 [(0, .ref (ad p0)), (1, .int p1), (2, .int p2), (3, .int p3)] → W p l e (headSpec wsX12_doRule ({ frames := 2, cells := 0, slots := 0, locals := 46 } : Room)).room s m ([.ref (ad p0), .int p1, .int p2, .int p3] : List Value).toArray below meth c H locs 0 0 (MQ below (va_Qv (fun (_ : Unit) => True) (fun _ => ha_H D cs ad mo_kd mo_ln N out) (ha_A ad N)) ([.ref (ad p0), .int p1, .int p2, .int p3] : List Value).toArray s 0 0 (ha_A ad N)) (F0 m 229 ls []) := by
    intro  S H locs ls hf  hP hD hS hl
    unfold f_X12_doRule_J229 at hf
    have he := Option.some.inj hf
    exact ha_retv hx hb hr hlocks hP hD hS dX12_doRule_229 he
  have J63 : ∀ (k0 : Nat) (k1 : Int32) (S : ha_St) (H : Heap) (locs : List Loc) (ls : Array Slot), (f_X12_doRule_J63 p0 p1 p2 p3 k0 k1 S).bind some = some out → mo_kd k0 = 12 → va_P D vwCl (ha_wl cs ad mo_kd mo_ln N S) H → va_D (ha_A ad N) (ha_wl cs ad mo_kd mo_ln N S) → va_S (ha_A ad N) s.heap H locs → lv_has ls 8 [(0, .ref (ad p0)), (1, .int p1), (2, .int p2), (3, .int p3)] → W p l e (headSpec wsX12_doRule ({ frames := 2, cells := 0, slots := 0, locals := 46 } : Room)).room s m ([.ref (ad p0), .int p1, .int p2, .int p3] : List Value).toArray below meth c H locs 0 0 (MQ below (va_Qv (fun (_ : Unit) => True) (fun _ => ha_H D cs ad mo_kd mo_ln N out) (ha_A ad N)) ([.ref (ad p0), .int p1, .int p2, .int p3] : List Value).toArray s 0 0 (ha_A ad N)) (F0 m 63 ls [.int k1, .ref (ad k0)]) := by
    intro k0 k1 S H locs ls hf hk0 hP hD hS hl
    unfold f_X12_doRule_J63 at hf
    refine ha_puti hx hb hown hK hP hD hS r282 hN hk0 dX12_doRule_63 (fun S1 H locs eS1 hP hD hS => ?_)
    have hf := ha_nms hf eS1
    refine lv_iconst (v := 0) hx hb dX12_doRule_66 (by decide) ?_
    refine lv_istore (lv' := [(4, .int 0), (0, .ref (ad p0)), (1, .int p1), (2, .int p2), (3, .int p3)]) hx hb dX12_doRule_67 hl (by decide) rfl (fun ls hl => ?_)
    have key28 : ∀ (K : ((ha_St) ⊕ (ha_St)) → Option (ha_St)), (∀  (S : ha_St) (H : Heap) (locs : List Loc) (ls : Array Slot), K (.inl S) = some out → va_P D vwCl (ha_wl cs ad mo_kd mo_ln N S) H → va_D (ha_A ad N) (ha_wl cs ad mo_kd mo_ln N S) → va_S (ha_A ad N) s.heap H locs → lv_has ls 8 [(0, .ref (ad p0)), (1, .int p1), (2, .int p2), (3, .int p3)] → W p l e (headSpec wsX12_doRule ({ frames := 2, cells := 0, slots := 0, locals := 46 } : Room)).room s m ([.ref (ad p0), .int p1, .int p2, .int p3] : List Value).toArray below meth c H locs 0 0 (MQ below (va_Qv (fun (_ : Unit) => True) (fun _ => ha_H D cs ad mo_kd mo_ln N out) (ha_A ad N)) ([.ref (ad p0), .int p1, .int p2, .int p3] : List Value).toArray s 0 0 (ha_A ad N)) (F0 m 229 ls [])) → (∀ r, K (.inr r) = some out → r = out) → ∀ (n : Nat) (v4 : Int32) (S : ha_St) (H : Heap) (locs : List Loc) (ls : Array Slot), (f_X12_doRule_L69i p0 p1 p2 p3 n (v4, S)).bind K = some out → va_P D vwCl (ha_wl cs ad mo_kd mo_ln N S) H → va_D (ha_A ad N) (ha_wl cs ad mo_kd mo_ln N S) → va_S (ha_A ad N) s.heap H locs → lv_has ls 8 [(0, .ref (ad p0)), (1, .int p1), (2, .int p2), (3, .int p3), (4, .int v4)] → W p l e (headSpec wsX12_doRule ({ frames := 2, cells := 0, slots := 0, locals := 46 } : Room)).room s m ([.ref (ad p0), .int p1, .int p2, .int p3] : List Value).toArray below meth c H locs 0 0 (MQ below (va_Qv (fun (_ : Unit) => True) (fun _ => ha_H D cs ad mo_kd mo_ln N out) (ha_A ad N)) ([.ref (ad p0), .int p1, .int p2, .int p3] : List Value).toArray s 0 0 (ha_A ad N)) (F0 m 69 ls []) := by
      intro K hk hke n
      induction n with
      | zero =>
        intro v4 S H locs ls hf
        exact absurd (show (none : Option (ha_St)) = some out from hf) (fun h => by cases h)
      | succ n ih =>
        intro v4 S H locs ls hf  hP hD hS hl
        have J222 : ∀  (S : ha_St) (H : Heap) (locs : List Loc) (ls : Array Slot), (f_X12_doRule_L69_J222 p0 p1 p2 p3 (f_X12_doRule_L69i p0 p1 p2 p3 n)  S).bind K = some out → va_P D vwCl (ha_wl cs ad mo_kd mo_ln N S) H → va_D (ha_A ad N) (ha_wl cs ad mo_kd mo_ln N S) → va_S (ha_A ad N) s.heap H locs → lv_has ls 8 [(0, .ref (ad p0)), (1, .int p1), (2, .int p2), (3, .int p3)] → W p l e (headSpec wsX12_doRule ({ frames := 2, cells := 0, slots := 0, locals := 46 } : Room)).room s m ([.ref (ad p0), .int p1, .int p2, .int p3] : List Value).toArray below meth c H locs 0 0 (MQ below (va_Qv (fun (_ : Unit) => True) (fun _ => ha_H D cs ad mo_kd mo_ln N out) (ha_A ad N)) ([.ref (ad p0), .int p1, .int p2, .int p3] : List Value).toArray s 0 0 (ha_A ad N)) (F0 m 222 ls []) := by
          intro  S H locs ls hf  hP hD hS hl
          unfold f_X12_doRule_L69_J222 at hf
          have he := hke _ hf
          exact ha_retv hx hb hr hlocks hP hD hS dX12_doRule_222 he
        have J185 : ∀ (v4 : Int32) (k0 : Int32) (S : ha_St) (H : Heap) (locs : List Loc) (ls : Array Slot), (f_X12_doRule_L69_J185 p0 p1 p2 p3 (f_X12_doRule_L69i p0 p1 p2 p3 n) v4 k0 S).bind K = some out → va_P D vwCl (ha_wl cs ad mo_kd mo_ln N S) H → va_D (ha_A ad N) (ha_wl cs ad mo_kd mo_ln N S) → va_S (ha_A ad N) s.heap H locs → lv_has ls 8 [(0, .ref (ad p0)), (1, .int p1), (2, .int p2), (3, .int p3), (4, .int v4)] → W p l e (headSpec wsX12_doRule ({ frames := 2, cells := 0, slots := 0, locals := 46 } : Room)).room s m ([.ref (ad p0), .int p1, .int p2, .int p3] : List Value).toArray below meth c H locs 0 0 (MQ below (va_Qv (fun (_ : Unit) => True) (fun _ => ha_H D cs ad mo_kd mo_ln N out) (ha_A ad N)) ([.ref (ad p0), .int p1, .int p2, .int p3] : List Value).toArray s 0 0 (ha_A ad N)) (F0 m 185 ls [.int k0]) := by
          intro v4 k0 S H locs ls hf  hP hD hS hl
          unfold f_X12_doRule_L69_J185 at hf
          refine lv_istore (lv' := [(7, .int k0), (0, .ref (ad p0)), (1, .int p1), (2, .int p2), (3, .int p3), (4, .int v4)]) hx hb dX12_doRule_185 hl (by decide) rfl (fun ls hl => ?_)
          have key7 : ∀ (K : (ha_St) → Option (ha_St)), (∀  (S : ha_St) (H : Heap) (locs : List Loc) (ls : Array Slot), K S = some out → va_P D vwCl (ha_wl cs ad mo_kd mo_ln N S) H → va_D (ha_A ad N) (ha_wl cs ad mo_kd mo_ln N S) → va_S (ha_A ad N) s.heap H locs → lv_has ls 8 [(0, .ref (ad p0)), (1, .int p1), (2, .int p2), (3, .int p3)] → W p l e (headSpec wsX12_doRule ({ frames := 2, cells := 0, slots := 0, locals := 46 } : Room)).room s m ([.ref (ad p0), .int p1, .int p2, .int p3] : List Value).toArray below meth c H locs 0 0 (MQ below (va_Qv (fun (_ : Unit) => True) (fun _ => ha_H D cs ad mo_kd mo_ln N out) (ha_A ad N)) ([.ref (ad p0), .int p1, .int p2, .int p3] : List Value).toArray s 0 0 (ha_A ad N)) (F0 m 222 ls [])) → ∀ (n : Nat) (v4 : Int32) (v7 : Int32) (S : ha_St) (H : Heap) (locs : List Loc) (ls : Array Slot), (f_X12_doRule_L187i p0 p1 p2 p3 n (v4, v7, S)).bind K = some out → va_P D vwCl (ha_wl cs ad mo_kd mo_ln N S) H → va_D (ha_A ad N) (ha_wl cs ad mo_kd mo_ln N S) → va_S (ha_A ad N) s.heap H locs → lv_has ls 8 [(0, .ref (ad p0)), (1, .int p1), (2, .int p2), (3, .int p3), (4, .int v4), (7, .int v7)] → W p l e (headSpec wsX12_doRule ({ frames := 2, cells := 0, slots := 0, locals := 46 } : Room)).room s m ([.ref (ad p0), .int p1, .int p2, .int p3] : List Value).toArray below meth c H locs 0 0 (MQ below (va_Qv (fun (_ : Unit) => True) (fun _ => ha_H D cs ad mo_kd mo_ln N out) (ha_A ad N)) ([.ref (ad p0), .int p1, .int p2, .int p3] : List Value).toArray s 0 0 (ha_A ad N)) (F0 m 187 ls []) := by
            intro K hk n
            induction n with
            | zero =>
              intro v4 v7 S H locs ls hf
              exact absurd (show (none : Option (ha_St)) = some out from hf) (fun h => by cases h)
            | succ n ih =>
              intro v4 v7 S H locs ls hf  hP hD hS hl
              have hf : (f_X12_doRule_L187 p0 p1 p2 p3 (f_X12_doRule_L187i p0 p1 p2 p3 n) v4 v7 S).bind K = some out := hf
              unfold f_X12_doRule_L187 at hf
              refine lv_iload hx hb dX12_doRule_187 (lv_at hl 5 rfl) ?_
              refine lv_aload_n hx hb dX12_doRule_189 rfl (lv_at hl 0 rfl) ?_
              obtain ⟨r2, wr2, hf⟩ := ha_bds hf
              obtain ⟨wr2, hr2⟩ := ha_rf_some wr2
              refine ha_getr hx hb hown hK hP q23 hN h0 wr2 dX12_doRule_190 ?_
              refine lv_bipush (v := 20) hx hb dX12_doRule_193 (by decide) ?_
              refine lv_iload_n hx hb dX12_doRule_195 rfl (lv_at hl 3 rfl) ?_
              refine lv_imul hx hb dX12_doRule_196 ?_
              refine lv_iload hx hb dX12_doRule_197 (lv_at hl 4 rfl) ?_
              refine lv_iadd hx hb dX12_doRule_199 ?_
              obtain ⟨g3, hf⟩ := ha_gds hf
              refine ha_iald hx hb hK hP hN hr2 g3 dX12_doRule_200 ?_
              refine lv_icmp_ge (tgt := 222) hx hb dX12_doRule_201 (by decide) (fun c4 => ?_) (fun c4 => ?_)
              · have hf := ha_it hf c4
                exact hk  S H locs ls hf  hP hD hS (lv_sub hl [0, 1, 2, 3] rfl)
              · have hf := ha_if hf c4
                refine lv_aload_n hx hb dX12_doRule_204 rfl (lv_at hl 0 rfl) ?_
                refine lv_bipush (v := 40) hx hb dX12_doRule_205 (by decide) ?_
                refine lv_iload_n hx hb dX12_doRule_207 rfl (lv_at hl 3 rfl) ?_
                refine lv_imul hx hb dX12_doRule_208 ?_
                refine lv_iload hx hb dX12_doRule_209 (lv_at hl 5 rfl) ?_
                refine lv_iadd hx hb dX12_doRule_211 ?_
                refine lv_iload_n hx hb dX12_doRule_212 rfl (lv_at hl 1 rfl) ?_
                obtain ⟨z5, wz5, hf⟩ := ha_bds hf
                refine ha_callVv (As := [.int (((((40 : Int32) * p3) : Int32) + v7)), .int p1]) (rest := []) hZ ⟨hx, hb, hml, hown, hts⟩ hK hz hP hD hS (c_X12_act hZ hN h0 wz5) cw0 hN h0 (by decide) rfl rfl hl.1 rfl (Nat.le_of_ble_eq_true rfl) dX12_doRule_213 ⟨Nat.le_of_ble_eq_true rfl, Nat.le_of_ble_eq_true rfl⟩ (fun H locs hP hD hS => ?_)
                obtain ⟨x6, ex6⟩ : ∃ y : Int32, y = (v7 : Int32) + 1 := ⟨_, rfl⟩
                have hf := ha_nms hf ex6
                refine lv_iinc (v := x6) (lv' := [(7, .int x6), (0, .ref (ad p0)), (1, .int p1), (2, .int p2), (3, .int p3), (4, .int v4)]) hx hb dX12_doRule_216 hl (k := 5) rfl (by rw [ex6]; rfl) (by decide) rfl (fun ls hl => ?_)
                refine lv_goto (tgt := 187) hx hb dX12_doRule_219 (by decide) ?_
                exact ih v4 x6 z5 H locs ls hf  hP hD hS (lv_sub hl [1, 2, 3, 4, 5, 0] rfl)
          refine key7 _ (fun  S H locs ls hf  hP hD hS hl => ?_) ha_fu v4 k0 S H locs ls (ha_as hf)  hP hD hS (lv_sub hl [1, 2, 3, 4, 5, 0] rfl)
          have hf : (f_X12_doRule_L69_J222 p0 p1 p2 p3 (f_X12_doRule_L69i p0 p1 p2 p3 n)  S).bind K = some out := hf
          exact J222  S H locs ls hf  hP hD hS (lv_sub hl [0, 1, 2, 3] rfl)
        have J154 : ∀ (v4 : Int32) (v6 : Int32) (S : ha_St) (H : Heap) (locs : List Loc) (ls : Array Slot), (f_X12_doRule_L69_J154 p0 p1 p2 p3 (f_X12_doRule_L69i p0 p1 p2 p3 n) v4 v6 S).bind K = some out → va_P D vwCl (ha_wl cs ad mo_kd mo_ln N S) H → va_D (ha_A ad N) (ha_wl cs ad mo_kd mo_ln N S) → va_S (ha_A ad N) s.heap H locs → lv_has ls 8 [(0, .ref (ad p0)), (1, .int p1), (2, .int p2), (3, .int p3), (4, .int v4), (6, .int v6)] → W p l e (headSpec wsX12_doRule ({ frames := 2, cells := 0, slots := 0, locals := 46 } : Room)).room s m ([.ref (ad p0), .int p1, .int p2, .int p3] : List Value).toArray below meth c H locs 0 0 (MQ below (va_Qv (fun (_ : Unit) => True) (fun _ => ha_H D cs ad mo_kd mo_ln N out) (ha_A ad N)) ([.ref (ad p0), .int p1, .int p2, .int p3] : List Value).toArray s 0 0 (ha_A ad N)) (F0 m 154 ls []) := by
          intro v4 v6 S H locs ls hf  hP hD hS hl
          unfold f_X12_doRule_L69_J154 at hf
          refine lv_iload hx hb dX12_doRule_154 (lv_at hl 5 rfl) ?_
          refine lv_if_ne (tgt := 162) hx hb dX12_doRule_156 (by decide) (fun c9 => ?_) (fun c9 => ?_)
          · have hf := ha_it hf c9
            refine lv_iload hx hb dX12_doRule_162 (lv_at hl 4 rfl) ?_
            refine lv_if_ne (tgt := 171) hx hb dX12_doRule_164 (by decide) (fun c10 => ?_) (fun c10 => ?_)
            · have hf := ha_it hf c10
              refine lv_aload_n hx hb dX12_doRule_171 rfl (lv_at hl 0 rfl) ?_
              obtain ⟨r11, wr11, hf⟩ := ha_bds hf
              obtain ⟨wr11, hr11⟩ := ha_rf_some wr11
              refine ha_getr hx hb hown hK hP q23 hN h0 wr11 dX12_doRule_172 ?_
              refine lv_bipush (v := 20) hx hb dX12_doRule_175 (by decide) ?_
              refine lv_iload_n hx hb dX12_doRule_177 rfl (lv_at hl 3 rfl) ?_
              refine lv_imul hx hb dX12_doRule_178 ?_
              refine lv_iload hx hb dX12_doRule_179 (lv_at hl 4 rfl) ?_
              refine lv_iadd hx hb dX12_doRule_181 ?_
              refine lv_iconst (v := 1) hx hb dX12_doRule_182 (by decide) ?_
              refine lv_isub hx hb dX12_doRule_183 ?_
              obtain ⟨g12, hf⟩ := ha_gds hf
              refine ha_iald hx hb hK hP hN hr11 g12 dX12_doRule_184 ?_
              exact J185 v4 ((ha_gA S r11 (((((((20 : Int32) * p3) : Int32) + v4) : Int32) - 1) : Int32).toNatClampNeg)) S H locs ls hf  hP hD hS (lv_sub hl [0, 1, 2, 3, 4] rfl)
            · have hf := ha_if hf (fun q => q c10)
              refine lv_iconst (v := 0) hx hb dX12_doRule_167 (by decide) ?_
              refine lv_goto (tgt := 185) hx hb dX12_doRule_168 (by decide) ?_
              exact J185 v4 0 S H locs ls hf  hP hD hS (lv_sub hl [0, 1, 2, 3, 4] rfl)
          · have hf := ha_if hf (fun q => q c9)
            refine lv_goto (tgt := 223) hx hb dX12_doRule_159 (by decide) ?_
            obtain ⟨x13, ex13⟩ : ∃ y : Int32, y = (v4 : Int32) + 1 := ⟨_, rfl⟩
            have hf := ha_nms hf ex13
            refine lv_iinc (v := x13) (lv' := [(4, .int x13), (0, .ref (ad p0)), (1, .int p1), (2, .int p2), (3, .int p3), (6, .int v6)]) hx hb dX12_doRule_223 hl (k := 4) rfl (by rw [ex13]; rfl) (by decide) rfl (fun ls hl => ?_)
            refine lv_goto (tgt := 69) hx hb dX12_doRule_226 (by decide) ?_
            exact ih x13 S H locs ls hf  hP hD hS (lv_sub hl [1, 2, 3, 4, 0] rfl)
        have J103 : ∀ (v4 : Int32) (k0 : Int32) (S : ha_St) (H : Heap) (locs : List Loc) (ls : Array Slot), (f_X12_doRule_L69_J103 p0 p1 p2 p3 (f_X12_doRule_L69i p0 p1 p2 p3 n) v4 k0 S).bind K = some out → va_P D vwCl (ha_wl cs ad mo_kd mo_ln N S) H → va_D (ha_A ad N) (ha_wl cs ad mo_kd mo_ln N S) → va_S (ha_A ad N) s.heap H locs → lv_has ls 8 [(0, .ref (ad p0)), (1, .int p1), (2, .int p2), (3, .int p3), (4, .int v4)] → W p l e (headSpec wsX12_doRule ({ frames := 2, cells := 0, slots := 0, locals := 46 } : Room)).room s m ([.ref (ad p0), .int p1, .int p2, .int p3] : List Value).toArray below meth c H locs 0 0 (MQ below (va_Qv (fun (_ : Unit) => True) (fun _ => ha_H D cs ad mo_kd mo_ln N out) (ha_A ad N)) ([.ref (ad p0), .int p1, .int p2, .int p3] : List Value).toArray s 0 0 (ha_A ad N)) (F0 m 103 ls [.int k0]) := by
          intro v4 k0 S H locs ls hf  hP hD hS hl
          unfold f_X12_doRule_L69_J103 at hf
          refine lv_istore (lv' := [(5, .int k0), (0, .ref (ad p0)), (1, .int p1), (2, .int p2), (3, .int p3), (4, .int v4)]) hx hb dX12_doRule_103 hl (by decide) rfl (fun ls hl => ?_)
          refine lv_iconst (v := 1) hx hb dX12_doRule_105 (by decide) ?_
          refine lv_istore (lv' := [(6, .int 1), (5, .int k0), (0, .ref (ad p0)), (1, .int p1), (2, .int p2), (3, .int p3), (4, .int v4)]) hx hb dX12_doRule_106 hl (by decide) rfl (fun ls hl => ?_)
          refine lv_iload hx hb dX12_doRule_108 (lv_at hl 1 rfl) ?_
          refine lv_istore (lv' := [(7, .int k0), (6, .int 1), (5, .int k0), (0, .ref (ad p0)), (1, .int p1), (2, .int p2), (3, .int p3), (4, .int v4)]) hx hb dX12_doRule_110 hl (by decide) rfl (fun ls hl => ?_)
          have key20 : ∀ (K : (Int32 × Int32 × ha_St) → Option (ha_St)), (∀ (v4 : Int32) (v6 : Int32) (S : ha_St) (H : Heap) (locs : List Loc) (ls : Array Slot), K (v4, v6, S) = some out → va_P D vwCl (ha_wl cs ad mo_kd mo_ln N S) H → va_D (ha_A ad N) (ha_wl cs ad mo_kd mo_ln N S) → va_S (ha_A ad N) s.heap H locs → lv_has ls 8 [(0, .ref (ad p0)), (1, .int p1), (2, .int p2), (3, .int p3), (4, .int v4), (6, .int v6)] → W p l e (headSpec wsX12_doRule ({ frames := 2, cells := 0, slots := 0, locals := 46 } : Room)).room s m ([.ref (ad p0), .int p1, .int p2, .int p3] : List Value).toArray below meth c H locs 0 0 (MQ below (va_Qv (fun (_ : Unit) => True) (fun _ => ha_H D cs ad mo_kd mo_ln N out) (ha_A ad N)) ([.ref (ad p0), .int p1, .int p2, .int p3] : List Value).toArray s 0 0 (ha_A ad N)) (F0 m 154 ls [])) → ∀ (n : Nat) (v4 : Int32) (v6 : Int32) (v7 : Int32) (S : ha_St) (H : Heap) (locs : List Loc) (ls : Array Slot), (f_X12_doRule_L112i p0 p1 p2 p3 n (v4, v6, v7, S)).bind K = some out → va_P D vwCl (ha_wl cs ad mo_kd mo_ln N S) H → va_D (ha_A ad N) (ha_wl cs ad mo_kd mo_ln N S) → va_S (ha_A ad N) s.heap H locs → lv_has ls 8 [(0, .ref (ad p0)), (1, .int p1), (2, .int p2), (3, .int p3), (4, .int v4), (6, .int v6), (7, .int v7)] → W p l e (headSpec wsX12_doRule ({ frames := 2, cells := 0, slots := 0, locals := 46 } : Room)).room s m ([.ref (ad p0), .int p1, .int p2, .int p3] : List Value).toArray below meth c H locs 0 0 (MQ below (va_Qv (fun (_ : Unit) => True) (fun _ => ha_H D cs ad mo_kd mo_ln N out) (ha_A ad N)) ([.ref (ad p0), .int p1, .int p2, .int p3] : List Value).toArray s 0 0 (ha_A ad N)) (F0 m 112 ls []) := by
            intro K hk n
            induction n with
            | zero =>
              intro v4 v6 v7 S H locs ls hf
              exact absurd (show (none : Option (ha_St)) = some out from hf) (fun h => by cases h)
            | succ n ih =>
              intro v4 v6 v7 S H locs ls hf  hP hD hS hl
              have hf : (f_X12_doRule_L112 p0 p1 p2 p3 (f_X12_doRule_L112i p0 p1 p2 p3 n) v4 v6 v7 S).bind K = some out := hf
              unfold f_X12_doRule_L112 at hf
              refine lv_iload hx hb dX12_doRule_112 (lv_at hl 6 rfl) ?_
              refine lv_aload_n hx hb dX12_doRule_114 rfl (lv_at hl 0 rfl) ?_
              obtain ⟨r14, wr14, hf⟩ := ha_bds hf
              obtain ⟨wr14, hr14⟩ := ha_rf_some wr14
              refine ha_getr hx hb hown hK hP q20 hN h0 wr14 dX12_doRule_115 ?_
              refine lv_bipush (v := 20) hx hb dX12_doRule_118 (by decide) ?_
              refine lv_iload_n hx hb dX12_doRule_120 rfl (lv_at hl 3 rfl) ?_
              refine lv_imul hx hb dX12_doRule_121 ?_
              refine lv_iload hx hb dX12_doRule_122 (lv_at hl 4 rfl) ?_
              refine lv_iadd hx hb dX12_doRule_124 ?_
              obtain ⟨g15, hf⟩ := ha_gds hf
              refine ha_iald hx hb hK hP hN hr14 g15 dX12_doRule_125 ?_
              refine lv_icmp_ge (tgt := 154) hx hb dX12_doRule_126 (by decide) (fun c16 => ?_) (fun c16 => ?_)
              · have hf := ha_it hf c16
                exact hk v4 v6 S H locs ls hf  hP hD hS (lv_sub hl [0, 1, 2, 3, 4, 5] rfl)
              · have hf := ha_if hf c16
                refine lv_iload hx hb dX12_doRule_129 (lv_at hl 5 rfl) ?_
                refine lv_if_eq (tgt := 154) hx hb dX12_doRule_131 (by decide) (fun c17 => ?_) (fun c17 => ?_)
                · have hf := ha_it hf c17
                  exact hk v4 v6 S H locs ls hf  hP hD hS (lv_sub hl [0, 1, 2, 3, 4, 5] rfl)
                · have hf := ha_if hf c17
                  refine lv_aload_n hx hb dX12_doRule_134 rfl (lv_at hl 0 rfl) ?_
                  refine lv_bipush (v := 40) hx hb dX12_doRule_135 (by decide) ?_
                  refine lv_iload_n hx hb dX12_doRule_137 rfl (lv_at hl 3 rfl) ?_
                  refine lv_imul hx hb dX12_doRule_138 ?_
                  refine lv_iload hx hb dX12_doRule_139 (lv_at hl 6 rfl) ?_
                  refine lv_iadd hx hb dX12_doRule_141 ?_
                  refine lv_iload_n hx hb dX12_doRule_142 rfl (lv_at hl 1 rfl) ?_
                  obtain ⟨z18, wz18, hf⟩ := ha_bds hf
                  refine ha_callVi (As := [.int (((((40 : Int32) * p3) : Int32) + v7)), .int p1]) (rest := []) hZ ⟨hx, hb, hml, hown, hts⟩ hK hz hP hD hS (c_X12_holds hZ hN h0 wz18) cw1 hN h0 (by decide) rfl rfl hl.1 rfl (Nat.le_of_ble_eq_true rfl) dX12_doRule_143 ⟨Nat.le_of_ble_eq_true rfl, Nat.le_of_ble_eq_true rfl⟩ (fun H locs hP hD hS => ?_)
                  refine lv_istore (lv' := [(6, .int z18.1), (0, .ref (ad p0)), (1, .int p1), (2, .int p2), (3, .int p3), (4, .int v4), (7, .int v7)]) hx hb dX12_doRule_146 hl (by decide) rfl (fun ls hl => ?_)
                  obtain ⟨x19, ex19⟩ : ∃ y : Int32, y = (v7 : Int32) + 1 := ⟨_, rfl⟩
                  have hf := ha_nms hf ex19
                  refine lv_iinc (v := x19) (lv' := [(7, .int x19), (6, .int z18.1), (0, .ref (ad p0)), (1, .int p1), (2, .int p2), (3, .int p3), (4, .int v4)]) hx hb dX12_doRule_148 hl (k := 6) rfl (by rw [ex19]; rfl) (by decide) rfl (fun ls hl => ?_)
                  refine lv_goto (tgt := 112) hx hb dX12_doRule_151 (by decide) ?_
                  exact ih v4 z18.1 x19 z18.2 H locs ls hf  hP hD hS (lv_sub hl [2, 3, 4, 5, 6, 1, 0] rfl)
          refine key20 _ (fun v4 v6 S H locs ls hf  hP hD hS hl => ?_) ha_fu v4 1 k0 S H locs ls (ha_as hf)  hP hD hS (lv_sub hl [3, 4, 5, 6, 7, 1, 0] rfl)
          have hf : (f_X12_doRule_L69_J154 p0 p1 p2 p3 (f_X12_doRule_L69i p0 p1 p2 p3 n) v4 v6 S).bind K = some out := hf
          exact J154 v4 v6 S H locs ls hf  hP hD hS (lv_sub hl [0, 1, 2, 3, 4, 5] rfl)
        have hf : (f_X12_doRule_L69 p0 p1 p2 p3 (f_X12_doRule_L69i p0 p1 p2 p3 n) v4 S).bind K = some out := hf
        unfold f_X12_doRule_L69 at hf
        refine lv_iload hx hb dX12_doRule_69 (lv_at hl 4 rfl) ?_
        refine lv_aload_n hx hb dX12_doRule_71 rfl (lv_at hl 0 rfl) ?_
        obtain ⟨r22, wr22, hf⟩ := ha_bds hf
        obtain ⟨wr22, hr22⟩ := ha_rf_some wr22
        refine ha_getr hx hb hown hK hP q17 hN h0 wr22 dX12_doRule_72 ?_
        refine lv_iload_n hx hb dX12_doRule_75 rfl (lv_at hl 3 rfl) ?_
        obtain ⟨g23, hf⟩ := ha_gds hf
        refine ha_iald hx hb hK hP hN hr22 g23 dX12_doRule_76 ?_
        refine lv_icmp_ge (tgt := 229) hx hb dX12_doRule_77 (by decide) (fun c24 => ?_) (fun c24 => ?_)
        · have hf := ha_it hf c24
          exact hk  S H locs ls hf  hP hD hS (lv_sub hl [0, 1, 2, 3] rfl)
        · have hf := ha_if hf c24
          refine lv_iload hx hb dX12_doRule_80 (lv_at hl 4 rfl) ?_
          refine lv_if_ne (tgt := 89) hx hb dX12_doRule_82 (by decide) (fun c25 => ?_) (fun c25 => ?_)
          · have hf := ha_it hf c25
            refine lv_aload_n hx hb dX12_doRule_89 rfl (lv_at hl 0 rfl) ?_
            obtain ⟨r26, wr26, hf⟩ := ha_bds hf
            obtain ⟨wr26, hr26⟩ := ha_rf_some wr26
            refine ha_getr hx hb hown hK hP q20 hN h0 wr26 dX12_doRule_90 ?_
            refine lv_bipush (v := 20) hx hb dX12_doRule_93 (by decide) ?_
            refine lv_iload_n hx hb dX12_doRule_95 rfl (lv_at hl 3 rfl) ?_
            refine lv_imul hx hb dX12_doRule_96 ?_
            refine lv_iload hx hb dX12_doRule_97 (lv_at hl 4 rfl) ?_
            refine lv_iadd hx hb dX12_doRule_99 ?_
            refine lv_iconst (v := 1) hx hb dX12_doRule_100 (by decide) ?_
            refine lv_isub hx hb dX12_doRule_101 ?_
            obtain ⟨g27, hf⟩ := ha_gds hf
            refine ha_iald hx hb hK hP hN hr26 g27 dX12_doRule_102 ?_
            exact J103 v4 ((ha_gA S r26 (((((((20 : Int32) * p3) : Int32) + v4) : Int32) - 1) : Int32).toNatClampNeg)) S H locs ls hf  hP hD hS (lv_sub hl [0, 1, 2, 3, 4] rfl)
          · have hf := ha_if hf (fun q => q c25)
            refine lv_iconst (v := 0) hx hb dX12_doRule_85 (by decide) ?_
            refine lv_goto (tgt := 103) hx hb dX12_doRule_86 (by decide) ?_
            exact J103 v4 0 S H locs ls hf  hP hD hS (lv_sub hl [0, 1, 2, 3, 4] rfl)
    refine key28 _ (fun  S H locs ls hf  hP hD hS hl => ?_) (fun r h => Option.some.inj h) ha_fu 0 S1 H locs ls (ha_as hf)  hP hD hS (lv_sub hl [1, 2, 3, 4, 0] rfl)
    have hf : (f_X12_doRule_J229 p0 p1 p2 p3  S).bind some = some out := hf
    exact J229  S H locs ls hf  hP hD hS (lv_sub hl [0, 1, 2, 3] rfl)
  have J51 : ∀ (k0 : Nat) (S : ha_St) (H : Heap) (locs : List Loc) (ls : Array Slot), (f_X12_doRule_J51 p0 p1 p2 p3 k0 S).bind some = some out → mo_kd k0 = 12 → va_P D vwCl (ha_wl cs ad mo_kd mo_ln N S) H → va_D (ha_A ad N) (ha_wl cs ad mo_kd mo_ln N S) → va_S (ha_A ad N) s.heap H locs → lv_has ls 8 [(0, .ref (ad p0)), (1, .int p1), (2, .int p2), (3, .int p3)] → W p l e (headSpec wsX12_doRule ({ frames := 2, cells := 0, slots := 0, locals := 46 } : Room)).room s m ([.ref (ad p0), .int p1, .int p2, .int p3] : List Value).toArray below meth c H locs 0 0 (MQ below (va_Qv (fun (_ : Unit) => True) (fun _ => ha_H D cs ad mo_kd mo_ln N out) (ha_A ad N)) ([.ref (ad p0), .int p1, .int p2, .int p3] : List Value).toArray s 0 0 (ha_A ad N)) (F0 m 51 ls [.ref (ad k0)]) := by
    intro k0 S H locs ls hf hk0 hP hD hS hl
    unfold f_X12_doRule_J51 at hf
    refine lv_iconst (v := (-1)) hx hb dX12_doRule_51 (by decide) ?_
    refine lv_goto (tgt := 63) hx hb dX12_doRule_52 (by decide) ?_
    exact J63 k0 (-1) S H locs ls hf hk0 hP hD hS (lv_sub hl [0, 1, 2, 3] rfl)
  have J28 : ∀ (k0 : Nat) (k1 : Int32) (S : ha_St) (H : Heap) (locs : List Loc) (ls : Array Slot), (f_X12_doRule_J28 p0 p1 p2 p3 k0 k1 S).bind some = some out → mo_kd k0 = 12 → va_P D vwCl (ha_wl cs ad mo_kd mo_ln N S) H → va_D (ha_A ad N) (ha_wl cs ad mo_kd mo_ln N S) → va_S (ha_A ad N) s.heap H locs → lv_has ls 8 [(0, .ref (ad p0)), (1, .int p1), (2, .int p2), (3, .int p3)] → W p l e (headSpec wsX12_doRule ({ frames := 2, cells := 0, slots := 0, locals := 46 } : Room)).room s m ([.ref (ad p0), .int p1, .int p2, .int p3] : List Value).toArray below meth c H locs 0 0 (MQ below (va_Qv (fun (_ : Unit) => True) (fun _ => ha_H D cs ad mo_kd mo_ln N out) (ha_A ad N)) ([.ref (ad p0), .int p1, .int p2, .int p3] : List Value).toArray s 0 0 (ha_A ad N)) (F0 m 28 ls [.int k1, .ref (ad k0)]) := by
    intro k0 k1 S H locs ls hf hk0 hP hD hS hl
    unfold f_X12_doRule_J28 at hf
    refine ha_puti hx hb hown hK hP hD hS r279 hN hk0 dX12_doRule_28 (fun S30 H locs eS30 hP hD hS => ?_)
    have hf := ha_nms hf eS30
    refine lv_aload_n hx hb dX12_doRule_31 rfl (lv_at hl 0 rfl) ?_
    refine lv_iload_n hx hb dX12_doRule_32 rfl (lv_at hl 1 rfl) ?_
    refine lv_aload_n hx hb dX12_doRule_33 rfl (lv_at hl 0 rfl) ?_
    refine ha_geti hx hb hown hK hP q13 hN h0 dX12_doRule_34 ?_
    refine lv_iconst (v := 1) hx hb dX12_doRule_37 (by decide) ?_
    refine lv_isub hx hb dX12_doRule_38 ?_
    refine lv_icmp_eq (tgt := 51) hx hb dX12_doRule_39 (by decide) (fun c31 => ?_) (fun c31 => ?_)
    · have hf := ha_it hf c31
      exact J51 p0 S30 H locs ls hf h0 hP hD hS (lv_sub hl [0, 1, 2, 3] rfl)
    · have hf := ha_if hf c31
      refine lv_aload_n hx hb dX12_doRule_42 rfl (lv_at hl 0 rfl) ?_
      refine lv_iload_n hx hb dX12_doRule_43 rfl (lv_at hl 1 rfl) ?_
      refine lv_iload_n hx hb dX12_doRule_44 rfl (lv_at hl 2 rfl) ?_
      obtain ⟨z32, wz32, hf⟩ := ha_bds hf
      refine ha_callVi (As := [.int p1, .int p2]) (rest := [.ref (ad p0)]) hZ ⟨hx, hb, hml, hown, hts⟩ hK hz hP hD hS (c_X12_isFoggy hZ hN h0 wz32) cw2 hN h0 (by decide) rfl rfl hl.1 rfl (Nat.le_of_ble_eq_true rfl) dX12_doRule_45 ⟨Nat.le_of_ble_eq_true rfl, Nat.le_of_ble_eq_true rfl⟩ (fun H locs hP hD hS => ?_)
      refine lv_if_eq (tgt := 55) hx hb dX12_doRule_48 (by decide) (fun c33 => ?_) (fun c33 => ?_)
      · have hf := ha_it hf c33
        refine lv_aload_n hx hb dX12_doRule_55 rfl (lv_at hl 0 rfl) ?_
        obtain ⟨r34, wr34, hf⟩ := ha_bds hf
        obtain ⟨wr34, hr34⟩ := ha_rf_some wr34
        refine ha_getr hx hb hown hK hP q59 hN h0 wr34 dX12_doRule_56 ?_
        refine lv_iload_n hx hb dX12_doRule_59 rfl (lv_at hl 1 rfl) ?_
        refine lv_iconst (v := 1) hx hb dX12_doRule_60 (by decide) ?_
        refine lv_iadd hx hb dX12_doRule_61 ?_
        obtain ⟨g35, hf⟩ := ha_gds hf
        refine ha_iald hx hb hK hP hN hr34 g35 dX12_doRule_62 ?_
        exact J63 p0 ((ha_gA z32.2 r34 (((p1 : Int32) + 1) : Int32).toNatClampNeg)) z32.2 H locs ls hf h0 hP hD hS (lv_sub hl [0, 1, 2, 3] rfl)
      · have hf := ha_if hf c33
        exact J51 p0 z32.2 H locs ls hf h0 hP hD hS (lv_sub hl [0, 1, 2, 3] rfl)
  have J16 : ∀ (k0 : Nat) (S : ha_St) (H : Heap) (locs : List Loc) (ls : Array Slot), (f_X12_doRule_J16 p0 p1 p2 p3 k0 S).bind some = some out → mo_kd k0 = 12 → va_P D vwCl (ha_wl cs ad mo_kd mo_ln N S) H → va_D (ha_A ad N) (ha_wl cs ad mo_kd mo_ln N S) → va_S (ha_A ad N) s.heap H locs → lv_has ls 8 [(0, .ref (ad p0)), (1, .int p1), (2, .int p2), (3, .int p3)] → W p l e (headSpec wsX12_doRule ({ frames := 2, cells := 0, slots := 0, locals := 46 } : Room)).room s m ([.ref (ad p0), .int p1, .int p2, .int p3] : List Value).toArray below meth c H locs 0 0 (MQ below (va_Qv (fun (_ : Unit) => True) (fun _ => ha_H D cs ad mo_kd mo_ln N out) (ha_A ad N)) ([.ref (ad p0), .int p1, .int p2, .int p3] : List Value).toArray s 0 0 (ha_A ad N)) (F0 m 16 ls [.ref (ad k0)]) := by
    intro k0 S H locs ls hf hk0 hP hD hS hl
    unfold f_X12_doRule_J16 at hf
    refine lv_iconst (v := (-1)) hx hb dX12_doRule_16 (by decide) ?_
    refine lv_goto (tgt := 28) hx hb dX12_doRule_17 (by decide) ?_
    exact J28 k0 (-1) S H locs ls hf hk0 hP hD hS (lv_sub hl [0, 1, 2, 3] rfl)
  unfold f_X12_doRule at hf
  refine lv_aload_n hx hb dX12_doRule_0 rfl (lv_at hl 0 rfl) ?_
  refine lv_iload_n hx hb dX12_doRule_1 rfl (lv_at hl 1 rfl) ?_
  refine lv_if_eq (tgt := 16) hx hb dX12_doRule_2 (by decide) (fun c36 => ?_) (fun c36 => ?_)
  · have hf := ha_it hf c36
    exact J16 p0 S H locs ls hf h0 hP hD hS (lv_sub hl [0, 1, 2, 3] rfl)
  · have hf := ha_if hf c36
    refine lv_aload_n hx hb dX12_doRule_5 rfl (lv_at hl 0 rfl) ?_
    refine lv_iload_n hx hb dX12_doRule_6 rfl (lv_at hl 1 rfl) ?_
    refine lv_iconst (v := 1) hx hb dX12_doRule_7 (by decide) ?_
    refine lv_isub hx hb dX12_doRule_8 ?_
    refine lv_iload_n hx hb dX12_doRule_9 rfl (lv_at hl 2 rfl) ?_
    obtain ⟨z37, wz37, hf⟩ := ha_bds hf
    refine ha_callVi (As := [.int (((p1 : Int32) - 1)), .int p2]) (rest := [.ref (ad p0)]) hZ ⟨hx, hb, hml, hown, hts⟩ hK hz hP hD hS (c_X12_isFoggy hZ hN h0 wz37) cw2 hN h0 (by decide) rfl rfl hl.1 rfl (Nat.le_of_ble_eq_true rfl) dX12_doRule_10 ⟨Nat.le_of_ble_eq_true rfl, Nat.le_of_ble_eq_true rfl⟩ (fun H locs hP hD hS => ?_)
    refine lv_if_eq (tgt := 20) hx hb dX12_doRule_13 (by decide) (fun c38 => ?_) (fun c38 => ?_)
    · have hf := ha_it hf c38
      refine lv_aload_n hx hb dX12_doRule_20 rfl (lv_at hl 0 rfl) ?_
      obtain ⟨r39, wr39, hf⟩ := ha_bds hf
      obtain ⟨wr39, hr39⟩ := ha_rf_some wr39
      refine ha_getr hx hb hown hK hP q59 hN h0 wr39 dX12_doRule_21 ?_
      refine lv_iload_n hx hb dX12_doRule_24 rfl (lv_at hl 1 rfl) ?_
      refine lv_iconst (v := 1) hx hb dX12_doRule_25 (by decide) ?_
      refine lv_isub hx hb dX12_doRule_26 ?_
      obtain ⟨g40, hf⟩ := ha_gds hf
      refine ha_iald hx hb hK hP hN hr39 g40 dX12_doRule_27 ?_
      exact J28 p0 ((ha_gA z37.2 r39 (((p1 : Int32) - 1) : Int32).toNatClampNeg)) z37.2 H locs ls hf h0 hP hD hS (lv_sub hl [0, 1, 2, 3] rfl)
    · have hf := ha_if hf c38
      exact J16 p0 z37.2 H locs ls hf h0 hP hD hS (lv_sub hl [0, 1, 2, 3] rfl)

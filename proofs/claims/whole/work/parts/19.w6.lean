set_option maxHeartbeats 4000000 in
set_option maxRecDepth 100000 in
theorem c_X9_numberCode {l : Launch} {D : va_G} {cs : Nat → ClassId} {ad adK adV : Nat → Nat} {N : List Nat} {Z : State → Prop} (hZ : ha_Zok (ha_A ad N) Z) (hN : ∀ x, xo_kd x < 999 → x ∈ N) (hX : ∀ U, Z U → xo_Z adK adV (ha_A ad N) U) {p0 : Nat} {S : ha_St} {out : Int32 × ha_St} (h0 : xo_kd p0 = 9) (hf : f_X9_numberCode p0 S = some out) : ha_Ci l D cs ad xo_kd xo_ln N Z yX9_numberCode wsX9_numberCode ({ frames := 1, cells := 0, slots := 0, locals := 20 } : Room) [.ref (ad p0)] S out.1 out.2 := by
  refine Met.ofW (cc := cX9_numberCode) (maxL := 3) (ret := (some .int)) (by decide +kernel) rfl ?_
  intro p e s m args below meth c s₁ B hml hv
  obtain ⟨rfl, hP, hD, hK, hz⟩ := hv
  have hx := B.exec
  have hb := B.bytes
  have hr := B.returns
  have hts := atoms_spec (ws := wsX9_numberCode) B.pre
  have hown : s.vm.findClass RX9 = some m.cls := findClass_of_methodNamed B.named
  have hlocks := B.notSynchronized
  have hS : va_S (ha_A ad N) s.heap s.heap [] := va_S.rf
  have hi9 : ∀ w ∈ wsX90, w ∈ wsX9_numberCode := fun w h => List.mem_cons_of_mem _ (List.mem_append_right _ h)
  have q33 : ha_Fk s ([.ref (ad p0)] : List Value).toArray RX9 33 9 5 0 := ⟨RX9, TX9, 8, wsX9_numberCode, rfl, by decide, by decide, rfl, rfl, hts, hi9, hts (.fieldLink RX9 33 "HillArms$Reader" "behind" "I") (by decide +kernel)⟩
  have q65 : ha_Fk s ([.ref (ad p0)] : List Value).toArray RX9 65 9 4 0 := ⟨RX9, TX9, 8, wsX9_numberCode, rfl, by decide, by decide, rfl, rfl, hts, hi9, hts (.fieldLink RX9 65 "HillArms$Reader" "at" "I") (by decide +kernel)⟩
  have q9 : ha_Fk s ([.ref (ad p0)] : List Value).toArray RX9 9 9 0 1 := ⟨RX9, TX9, 8, wsX9_numberCode, rfl, by decide, by decide, rfl, rfl, hts, hi9, hts (.fieldLink RX9 9 "HillArms$Reader" "bytes" "[I") (by decide +kernel)⟩
  have hl := lv_entry ([.ref (ad p0)]) (n := 3) (Nat.le_of_ble_eq_true rfl)
  rw [lg_entry_eq]
  generalize (lg_sl ([.ref (ad p0)]) ++ List.replicate (3 - (lg_sl ([.ref (ad p0)])).length) Slot.unset).toArray = ls at hl ⊢
  have hl : lv_has ls 3 [(0, .ref (ad p0))] := hl
  refine (fun (K0 : ∀ (H : Heap) (locs : List Loc), va_P D vwCl (ha_wl cs ad xo_kd xo_ln N S) H → va_S (ha_A ad N) s.heap H locs → W p l e (headSpec wsX9_numberCode ({ frames := 1, cells := 0, slots := 0, locals := 20 } : Room)).room s m ([.ref (ad p0)] : List Value).toArray below meth c H locs 0 0 (MQ below (va_Qi (fun (r : Int32) (_ : Unit) => r = out.1) (fun _ => ha_H D cs ad xo_kd xo_ln N out.2) (ha_A ad N)) ([.ref (ad p0)] : List Value).toArray s 0 0 (ha_A ad N)) (F0 m 0 ls [])) => K0 _ _ hP hS) ?_
  intro H locs hP hS
  have hf := ha_rt hf
  have J65 : ∀ (v1 : Int32) (S : ha_St) (H : Heap) (locs : List Loc) (ls : Array Slot), (f_X9_numberCode_J65 p0 v1 S).bind some = some out → va_P D vwCl (ha_wl cs ad xo_kd xo_ln N S) H → va_D (ha_A ad N) (ha_wl cs ad xo_kd xo_ln N S) → va_S (ha_A ad N) s.heap H locs → lv_has ls 3 [(0, .ref (ad p0)), (1, .int v1)] → W p l e (headSpec wsX9_numberCode ({ frames := 1, cells := 0, slots := 0, locals := 20 } : Room)).room s m ([.ref (ad p0)] : List Value).toArray below meth c H locs 0 0 (MQ below (va_Qi (fun (r : Int32) (_ : Unit) => r = out.1) (fun _ => ha_H D cs ad xo_kd xo_ln N out.2) (ha_A ad N)) ([.ref (ad p0)] : List Value).toArray s 0 0 (ha_A ad N)) (F0 m 65 ls []) := by
    intro v1 S H locs ls hf  hP hD hS hl
    unfold f_X9_numberCode_J65 at hf
    refine lv_iload_n hx hb dX9_numberCode_65 rfl (lv_at hl 1 rfl) ?_
    have he := Option.some.inj hf
    exact ha_reti hx hb hr hlocks hP hD hS dX9_numberCode_66 (ha_e1 he) (ha_e2 he)
  unfold f_X9_numberCode at hf
  refine lv_aload_n hx hb dX9_numberCode_0 rfl (lv_at hl 0 rfl) ?_
  refine ha_geti hx hb hown hK hP q33 hN h0 dX9_numberCode_1 ?_
  refine lv_aload_n hx hb dX9_numberCode_4 rfl (lv_at hl 0 rfl) ?_
  refine ha_geti hx hb hown hK hP q65 hN h0 dX9_numberCode_5 ?_
  refine lv_isub hx hb dX9_numberCode_8 ?_
  refine lv_iconst (v := 2) hx hb dX9_numberCode_9 (by decide) ?_
  refine lv_icmp_le (tgt := 15) hx hb dX9_numberCode_10 (by decide) (fun c1 => ?_) (fun c1 => ?_)
  · have hf := ha_it hf c1
    refine lv_iconst (v := 0) hx hb dX9_numberCode_15 (by decide) ?_
    refine lv_istore_n (lv' := [(1, .int 0), (0, .ref (ad p0))]) hx hb dX9_numberCode_16 rfl hl (by decide) rfl (fun ls hl => ?_)
    refine lv_aload_n hx hb dX9_numberCode_17 rfl (lv_at hl 1 rfl) ?_
    refine ha_geti hx hb hown hK hP q65 hN h0 dX9_numberCode_18 ?_
    refine lv_topi (fun x2 ex2 => ?_)
    have hf := ha_nms hf ex2
    refine lv_istore_n (lv' := [(2, .int x2), (1, .int 0), (0, .ref (ad p0))]) hx hb dX9_numberCode_21 rfl hl (by decide) rfl (fun ls hl => ?_)
    have key12 : ∀ (K : ((Int32 × ha_St) ⊕ (Int32 × ha_St)) → Option (Int32 × ha_St)), (∀ (v1 : Int32) (S : ha_St) (H : Heap) (locs : List Loc) (ls : Array Slot), K (.inl (v1, S)) = some out → va_P D vwCl (ha_wl cs ad xo_kd xo_ln N S) H → va_D (ha_A ad N) (ha_wl cs ad xo_kd xo_ln N S) → va_S (ha_A ad N) s.heap H locs → lv_has ls 3 [(0, .ref (ad p0)), (1, .int v1)] → W p l e (headSpec wsX9_numberCode ({ frames := 1, cells := 0, slots := 0, locals := 20 } : Room)).room s m ([.ref (ad p0)] : List Value).toArray below meth c H locs 0 0 (MQ below (va_Qi (fun (r : Int32) (_ : Unit) => r = out.1) (fun _ => ha_H D cs ad xo_kd xo_ln N out.2) (ha_A ad N)) ([.ref (ad p0)] : List Value).toArray s 0 0 (ha_A ad N)) (F0 m 65 ls [])) → (∀ r, K (.inr r) = some out → r = out) → ∀ (n : Nat) (v1 : Int32) (v2 : Int32) (S : ha_St) (H : Heap) (locs : List Loc) (ls : Array Slot), (f_X9_numberCode_L22i p0 n (v1, v2, S)).bind K = some out → va_P D vwCl (ha_wl cs ad xo_kd xo_ln N S) H → va_D (ha_A ad N) (ha_wl cs ad xo_kd xo_ln N S) → va_S (ha_A ad N) s.heap H locs → lv_has ls 3 [(0, .ref (ad p0)), (1, .int v1), (2, .int v2)] → W p l e (headSpec wsX9_numberCode ({ frames := 1, cells := 0, slots := 0, locals := 20 } : Room)).room s m ([.ref (ad p0)] : List Value).toArray below meth c H locs 0 0 (MQ below (va_Qi (fun (r : Int32) (_ : Unit) => r = out.1) (fun _ => ha_H D cs ad xo_kd xo_ln N out.2) (ha_A ad N)) ([.ref (ad p0)] : List Value).toArray s 0 0 (ha_A ad N)) (F0 m 22 ls []) := by
      intro K hk hke n
      induction n with
      | zero =>
        intro v1 v2 S H locs ls hf
        exact absurd (show (none : Option (Int32 × ha_St)) = some out from hf) (fun h => by cases h)
      | succ n ih =>
        intro v1 v2 S H locs ls hf  hP hD hS hl
        have hf : (f_X9_numberCode_L22 p0 (f_X9_numberCode_L22i p0 n) v1 v2 S).bind K = some out := hf
        unfold f_X9_numberCode_L22 at hf
        refine lv_iload_n hx hb dX9_numberCode_22 rfl (lv_at hl 2 rfl) ?_
        refine lv_aload_n hx hb dX9_numberCode_23 rfl (lv_at hl 0 rfl) ?_
        refine ha_geti hx hb hown hK hP q33 hN h0 dX9_numberCode_24 ?_
        refine lv_icmp_ge (tgt := 65) hx hb dX9_numberCode_27 (by decide) (fun c3 => ?_) (fun c3 => ?_)
        · have hf := ha_it hf c3
          exact hk v1 S H locs ls hf  hP hD hS (lv_sub hl [0, 1] rfl)
        · have hf := ha_if hf c3
          refine lv_aload_n hx hb dX9_numberCode_30 rfl (lv_at hl 0 rfl) ?_
          obtain ⟨r4, wr4, hf⟩ := ha_bds hf
          obtain ⟨wr4, hr4⟩ := ha_rf_some wr4
          refine ha_getr hx hb hown hK hP q9 hN h0 wr4 dX9_numberCode_31 ?_
          refine lv_iload_n hx hb dX9_numberCode_34 rfl (lv_at hl 2 rfl) ?_
          obtain ⟨g5, hf⟩ := ha_gds hf
          refine ha_iald hx hb hK hP hN hr4 g5 dX9_numberCode_35 ?_
          obtain ⟨z6, wz6, hf⟩ := ha_bds hf
          refine ha_callNi (As := [.int ((ha_gA S r4 (v2 : Int32).toNatClampNeg))]) (rest := []) hZ ⟨hx, hb, hml, hown, hts⟩ hK hz hP hD hS (c_X11_isDigit   wz6) ⟨va_cnB 1 hts gX9_numberCode_X11_isDigit_n99 (rm := ({ frames := 0, cells := 0, slots := 0, locals := 0 } : Room)) (mc := 0) (ms := 0) rfl rfl rfl (xo_nl_X9_99 (hX s hz)) (hts (.initialized RX11) (by decide +kernel)) (by decide +kernel) ⟨Nat.le_of_ble_eq_true rfl, Nat.le_of_ble_eq_true rfl⟩, hts (.static yX11_isDigit) (by decide +kernel), trivial⟩ rfl hl.1 rfl (Nat.le_of_ble_eq_true rfl) dX9_numberCode_36 ⟨Nat.le_of_ble_eq_true rfl, Nat.le_of_ble_eq_true rfl⟩ (fun H locs hP hD hS => ?_)
          refine lv_if_ne (tgt := 44) hx hb dX9_numberCode_39 (by decide) (fun c7 => ?_) (fun c7 => ?_)
          · have hf := ha_it hf c7
            refine lv_iload_n hx hb dX9_numberCode_44 rfl (lv_at hl 1 rfl) ?_
            refine lv_bipush (v := 10) hx hb dX9_numberCode_45 (by decide) ?_
            refine lv_imul hx hb dX9_numberCode_47 ?_
            refine lv_aload_n hx hb dX9_numberCode_48 rfl (lv_at hl 0 rfl) ?_
            obtain ⟨r8, wr8, hf⟩ := ha_bds hf
            obtain ⟨wr8, hr8⟩ := ha_rf_some wr8
            refine ha_getr hx hb hown hK hP q9 hN h0 wr8 dX9_numberCode_49 ?_
            refine lv_iload_n hx hb dX9_numberCode_52 rfl (lv_at hl 2 rfl) ?_
            obtain ⟨g9, hf⟩ := ha_gds hf
            refine ha_iald hx hb hK hP hN hr8 g9 dX9_numberCode_53 ?_
            refine lv_iadd hx hb dX9_numberCode_54 ?_
            refine lv_bipush (v := 48) hx hb dX9_numberCode_55 (by decide) ?_
            refine lv_isub hx hb dX9_numberCode_57 ?_
            refine lv_topi (fun x10 ex10 => ?_)
            have hf := ha_nms hf ex10
            refine lv_istore_n (lv' := [(1, .int x10), (0, .ref (ad p0)), (2, .int v2)]) hx hb dX9_numberCode_58 rfl hl (by decide) rfl (fun ls hl => ?_)
            obtain ⟨x11, ex11⟩ : ∃ y : Int32, y = (v2 : Int32) + 1 := ⟨_, rfl⟩
            have hf := ha_nms hf ex11
            refine lv_iinc (v := x11) (lv' := [(2, .int x11), (1, .int x10), (0, .ref (ad p0))]) hx hb dX9_numberCode_59 hl (k := 2) rfl (by rw [ex11]; rfl) (by decide) rfl (fun ls hl => ?_)
            refine lv_goto (tgt := 22) hx hb dX9_numberCode_62 (by decide) ?_
            exact ih x10 x11 S H locs ls hf  hP hD hS (lv_sub hl [2, 1, 0] rfl)
          · have hf := ha_if hf (fun q => q c7)
            refine lv_iconst (v := (-1)) hx hb dX9_numberCode_42 (by decide) ?_
            have he := hke _ hf
            exact ha_reti hx hb hr hlocks hP hD hS dX9_numberCode_43 (ha_e1 he) (ha_e2 he)
    refine key12 _ (fun v1 S H locs ls hf  hP hD hS hl => ?_) (fun r h => Option.some.inj h) ha_fu 0 x2 S H locs ls (ha_as hf)  hP hD hS (lv_sub hl [2, 1, 0] rfl)
    have hf : (f_X9_numberCode_J65 p0 v1 S).bind some = some out := hf
    exact J65 v1 S H locs ls hf  hP hD hS (lv_sub hl [0, 1] rfl)
  · have hf := ha_if hf c1
    refine lv_iconst (v := (-1)) hx hb dX9_numberCode_13 (by decide) ?_
    have he := Option.some.inj hf
    exact ha_reti hx hb hr hlocks hP hD hS dX9_numberCode_14 (ha_e1 he) (ha_e2 he)

set_option maxHeartbeats 4000000 in
set_option maxRecDepth 100000 in
theorem c_J0_coder_7d493 {l : Launch} {D : va_G} {cs : Nat → ClassId} {ad adK adV : Nat → Nat} {N : List Nat} {Z : State → Prop} (hZ : ha_Zok (ha_A ad N) Z) (hN : ∀ x, xo_kd x < 999 → x ∈ N) (hX : ∀ U, Z U → xo_Z adK adV (ha_A ad N) U) {p0 : Nat} {S : ha_St} {out : Int32 × ha_St} (h0 : p0 < 2) (hf : f_J0_coder_7d493 p0 S = some out) : ha_Ci l D cs ad xo_kd xo_ln N Z yJ0_coder_7d493 wsJ0_coder_7d493 ({ frames := 0, cells := 0, slots := 0, locals := 0 } : Room) [.ref (adK p0)] S out.1 out.2 := by
  refine va_MetF (cc := cJ0_coder_7d493) (maxL := 1) (ret := (some .byte)) (by decide +kernel) rfl ?_
  intro p e s m args below meth c s₁ B hml hv
  obtain ⟨rfl, hP, hD, hK, hz⟩ := hv
  have hx := B.exec
  have hb := B.bytes
  have hr := B.returns
  have hts := atoms_spec (ws := wsJ0_coder_7d493) B.pre
  have hown : s.vm.findClass RJ0 = some m.cls := findClass_of_methodNamed B.named
  have hlocks := B.notSynchronized
  have hS : va_S (ha_A ad N) s.heap s.heap [] := va_S.rf
  obtain ⟨-, hVS, hR0, hR1, hCS, hSI⟩ := id (hX s hz)
  have fl38 := hts (.fieldLink RJ0 38 "java/lang/String" "COMPACT_STRINGS" "Z") (by decide +kernel)
  have fl15 := hts (.fieldLink RJ0 15 "java/lang/String" "coder" "B") (by decide +kernel)
  have hl := lv_entry ([.ref (adK p0)]) (n := 1) (Nat.le_of_ble_eq_true rfl)
  rw [lg_entry_eq]
  generalize (lg_sl ([.ref (adK p0)]) ++ List.replicate (1 - (lg_sl ([.ref (adK p0)])).length) Slot.unset).toArray = ls at hl ⊢
  have hl : lv_has ls 1 [(0, .ref (adK p0))] := hl
  refine (fun (K0 : ∀ (H : Heap) (locs : List Loc), va_P D vwCl (ha_wl cs ad xo_kd xo_ln N S) H → va_S (ha_A ad N) s.heap H locs → W p l e (headSpec wsJ0_coder_7d493 ({ frames := 0, cells := 0, slots := 0, locals := 0 } : Room)).room s m ([.ref (adK p0)] : List Value).toArray below meth c H locs 0 0 (MQ below (va_Qi (fun (r : Int32) (_ : Unit) => r = out.1) (fun _ => ha_H D cs ad xo_kd xo_ln N out.2) (ha_A ad N)) ([.ref (adK p0)] : List Value).toArray s 0 0 (ha_A ad N)) (F0 m 0 ls [])) => K0 _ _ hP hS) ?_
  intro H locs hP hS
  have hf := ha_rt hf
  have J14 : ∀ (k0 : Int32) (S : ha_St) (H : Heap) (locs : List Loc) (ls : Array Slot), (f_J0_coder_7d493_J14 p0 k0 S).bind some = some out → va_P D vwCl (ha_wl cs ad xo_kd xo_ln N S) H → va_D (ha_A ad N) (ha_wl cs ad xo_kd xo_ln N S) → va_S (ha_A ad N) s.heap H locs → lv_has ls 1 [(0, .ref (adK p0))] → W p l e (headSpec wsJ0_coder_7d493 ({ frames := 0, cells := 0, slots := 0, locals := 0 } : Room)).room s m ([.ref (adK p0)] : List Value).toArray below meth c H locs 0 0 (MQ below (va_Qi (fun (r : Int32) (_ : Unit) => r = out.1) (fun _ => ha_H D cs ad xo_kd xo_ln N out.2) (ha_A ad N)) ([.ref (adK p0)] : List Value).toArray s 0 0 (ha_A ad N)) (F0 m 14 ls [.int k0]) := by
    intro k0 S H locs ls hf  hP hD hS hl
    unfold f_J0_coder_7d493_J14 at hf
    obtain ⟨g1, hf⟩ := ha_gds hf
    have he := Option.some.inj hf
    exact ha_retn hx hb hr hlocks hP hD hS dJ0_coder_7d493_14 (by rw [← g1]; exact pk_nb _) (ha_e1 he) (ha_e2 he)
  unfold f_J0_coder_7d493 at hf
  refine va_gets hx hb hCS hS hown fl38 (fun _ h => h) dJ0_coder_7d493_0 ?_
  refine lv_if_eq (tgt := 13) hx hb dJ0_coder_7d493_3 (by decide) (fun c2 => ?_) (fun c2 => ?_)
  · have hf := ha_it hf c2
    refine lv_iconst (v := 1) hx hb dJ0_coder_7d493_13 (by decide) ?_
    exact J14 1 S H locs ls hf  hP hD hS (lv_sub hl [0] rfl)
  · have hf := ha_if hf c2
    refine lv_aload_n hx hb dJ0_coder_7d493_6 rfl (lv_at hl 0 rfl) ?_
    refine vk_getf hx hb (hVS.1 p0 h0).2.1 hS hown fl15 (fun _ h => h) dJ0_coder_7d493_7 ?_
    refine lv_goto (tgt := 14) hx hb dJ0_coder_7d493_10 (by decide) ?_
    exact J14 0 S H locs ls hf  hP hD hS (lv_sub hl [0] rfl)

set_option maxHeartbeats 4000000 in
set_option maxRecDepth 100000 in
theorem c_J0_length_8abf5 {l : Launch} {D : va_G} {cs : Nat → ClassId} {ad adK adV : Nat → Nat} {N : List Nat} {Z : State → Prop} (hZ : ha_Zok (ha_A ad N) Z) (hN : ∀ x, xo_kd x < 999 → x ∈ N) (hX : ∀ U, Z U → xo_Z adK adV (ha_A ad N) U) {p0 : Nat} {S : ha_St} {out : Int32 × ha_St} (h0 : p0 < 2) (hf : f_J0_length_8abf5 p0 S = some out) : ha_Ci l D cs ad xo_kd xo_ln N Z yJ0_length_8abf5 wsJ0_length_8abf5 ({ frames := 1, cells := 0, slots := 0, locals := 20 } : Room) [.ref (adK p0)] S out.1 out.2 := by
  refine va_MetF (cc := cJ0_length_8abf5) (maxL := 1) (ret := (some .int)) (by decide +kernel) rfl ?_
  intro p e s m args below meth c s₁ B hml hv
  obtain ⟨rfl, hP, hD, hK, hz⟩ := hv
  have hx := B.exec
  have hb := B.bytes
  have hr := B.returns
  have hts := atoms_spec (ws := wsJ0_length_8abf5) B.pre
  have hown : s.vm.findClass RJ0 = some m.cls := findClass_of_methodNamed B.named
  have hlocks := B.notSynchronized
  have hS : va_S (ha_A ad N) s.heap s.heap [] := va_S.rf
  obtain ⟨-, hVS, hR0, hR1, hCS, hSI⟩ := id (hX s hz)
  have fl9 := hts (.fieldLink RJ0 9 "java/lang/String" "value" "[B") (by decide +kernel)
  have cw1 := cwV (R := (headSpec wsJ0_length_8abf5 ({ frames := 1, cells := 0, slots := 0, locals := 20 } : Room)).room) 0 hts gJ0_length_8abf5_J0_coder_7d493 (rm := ({ frames := 0, cells := 0, slots := 0, locals := 0 } : Room)) (mc := 0) (ms := 0) rfl rfl rfl (by decide +kernel) ⟨Nat.le_of_ble_eq_true rfl, Nat.le_of_ble_eq_true rfl⟩
  have hl := lv_entry ([.ref (adK p0)]) (n := 1) (Nat.le_of_ble_eq_true rfl)
  rw [lg_entry_eq]
  generalize (lg_sl ([.ref (adK p0)]) ++ List.replicate (1 - (lg_sl ([.ref (adK p0)])).length) Slot.unset).toArray = ls at hl ⊢
  have hl : lv_has ls 1 [(0, .ref (adK p0))] := hl
  refine (fun (K0 : ∀ (H : Heap) (locs : List Loc), va_P D vwCl (ha_wl cs ad xo_kd xo_ln N S) H → va_S (ha_A ad N) s.heap H locs → W p l e (headSpec wsJ0_length_8abf5 ({ frames := 1, cells := 0, slots := 0, locals := 20 } : Room)).room s m ([.ref (adK p0)] : List Value).toArray below meth c H locs 0 0 (MQ below (va_Qi (fun (r : Int32) (_ : Unit) => r = out.1) (fun _ => ha_H D cs ad xo_kd xo_ln N out.2) (ha_A ad N)) ([.ref (adK p0)] : List Value).toArray s 0 0 (ha_A ad N)) (F0 m 0 ls [])) => K0 _ _ hP hS) ?_
  intro H locs hP hS
  have hf := ha_rt hf
  unfold f_J0_length_8abf5 at hf
  refine lv_aload_n hx hb dJ0_length_8abf5_0 rfl (lv_at hl 0 rfl) ?_
  refine vk_getf hx hb (hVS.1 p0 h0).2.2.1 hS hown fl9 (fun _ h => h) dJ0_length_8abf5_1 ?_
  refine va_tlen (v := nI (xo_sl p0)) hx hb (hVS.1 p0 h0).2.2.2 hS rfl dJ0_length_8abf5_4 ?_
  refine lv_aload_n hx hb dJ0_length_8abf5_5 rfl (lv_at hl 0 rfl) ?_
  obtain ⟨z1, wz1, hf⟩ := ha_bds hf
  refine ha_callRi (As := []) (rest := [.int ((nI (xo_sl p0)))]) hZ ⟨hx, hb, hml, hown, hts⟩ hK hz hP hD hS (c_J0_coder_7d493 hZ hN hX h0 wz1) cw1 (vk_recv hVS h0 hS) rfl hl.1 rfl (Nat.le_of_ble_eq_true rfl) dJ0_length_8abf5_6 ⟨Nat.le_of_ble_eq_true rfl, Nat.le_of_ble_eq_true rfl⟩ (fun H locs hP hD hS => ?_)
  refine lv_ishr hx hb dJ0_length_8abf5_9 ?_
  have he := Option.some.inj hf
  exact ha_reti hx hb hr hlocks hP hD hS dJ0_length_8abf5_10 (ha_e1 he) (ha_e2 he)

set_option maxHeartbeats 4000000 in
set_option maxRecDepth 100000 in
theorem c_J0_isLatin1_aae02 {l : Launch} {D : va_G} {cs : Nat → ClassId} {ad adK adV : Nat → Nat} {N : List Nat} {Z : State → Prop} (hZ : ha_Zok (ha_A ad N) Z) (hN : ∀ x, xo_kd x < 999 → x ∈ N) (hX : ∀ U, Z U → xo_Z adK adV (ha_A ad N) U) {p0 : Nat} {S : ha_St} {out : Int32 × ha_St} (h0 : p0 < 2) (hf : f_J0_isLatin1_aae02 p0 S = some out) : ha_Ci l D cs ad xo_kd xo_ln N Z yJ0_isLatin1_aae02 wsJ0_isLatin1_aae02 ({ frames := 0, cells := 0, slots := 0, locals := 0 } : Room) [.ref (adK p0)] S out.1 out.2 := by
  refine va_MetF (cc := cJ0_isLatin1_aae02) (maxL := 1) (ret := (some .boolean)) (by decide +kernel) rfl ?_
  intro p e s m args below meth c s₁ B hml hv
  obtain ⟨rfl, hP, hD, hK, hz⟩ := hv
  have hx := B.exec
  have hb := B.bytes
  have hr := B.returns
  have hts := atoms_spec (ws := wsJ0_isLatin1_aae02) B.pre
  have hown : s.vm.findClass RJ0 = some m.cls := findClass_of_methodNamed B.named
  have hlocks := B.notSynchronized
  have hS : va_S (ha_A ad N) s.heap s.heap [] := va_S.rf
  obtain ⟨-, hVS, hR0, hR1, hCS, hSI⟩ := id (hX s hz)
  have fl38 := hts (.fieldLink RJ0 38 "java/lang/String" "COMPACT_STRINGS" "Z") (by decide +kernel)
  have fl15 := hts (.fieldLink RJ0 15 "java/lang/String" "coder" "B") (by decide +kernel)
  have hl := lv_entry ([.ref (adK p0)]) (n := 1) (Nat.le_of_ble_eq_true rfl)
  rw [lg_entry_eq]
  generalize (lg_sl ([.ref (adK p0)]) ++ List.replicate (1 - (lg_sl ([.ref (adK p0)])).length) Slot.unset).toArray = ls at hl ⊢
  have hl : lv_has ls 1 [(0, .ref (adK p0))] := hl
  refine (fun (K0 : ∀ (H : Heap) (locs : List Loc), va_P D vwCl (ha_wl cs ad xo_kd xo_ln N S) H → va_S (ha_A ad N) s.heap H locs → W p l e (headSpec wsJ0_isLatin1_aae02 ({ frames := 0, cells := 0, slots := 0, locals := 0 } : Room)).room s m ([.ref (adK p0)] : List Value).toArray below meth c H locs 0 0 (MQ below (va_Qi (fun (r : Int32) (_ : Unit) => r = out.1) (fun _ => ha_H D cs ad xo_kd xo_ln N out.2) (ha_A ad N)) ([.ref (adK p0)] : List Value).toArray s 0 0 (ha_A ad N)) (F0 m 0 ls [])) => K0 _ _ hP hS) ?_
  intro H locs hP hS
  have hf := ha_rt hf
  have J18 : ∀ (k0 : Int32) (S : ha_St) (H : Heap) (locs : List Loc) (ls : Array Slot), (f_J0_isLatin1_aae02_J18 p0 k0 S).bind some = some out → va_P D vwCl (ha_wl cs ad xo_kd xo_ln N S) H → va_D (ha_A ad N) (ha_wl cs ad xo_kd xo_ln N S) → va_S (ha_A ad N) s.heap H locs → lv_has ls 1 [(0, .ref (adK p0))] → W p l e (headSpec wsJ0_isLatin1_aae02 ({ frames := 0, cells := 0, slots := 0, locals := 0 } : Room)).room s m ([.ref (adK p0)] : List Value).toArray below meth c H locs 0 0 (MQ below (va_Qi (fun (r : Int32) (_ : Unit) => r = out.1) (fun _ => ha_H D cs ad xo_kd xo_ln N out.2) (ha_A ad N)) ([.ref (adK p0)] : List Value).toArray s 0 0 (ha_A ad N)) (F0 m 18 ls [.int k0]) := by
    intro k0 S H locs ls hf  hP hD hS hl
    unfold f_J0_isLatin1_aae02_J18 at hf
    obtain ⟨g1, hf⟩ := ha_gds hf
    have he := Option.some.inj hf
    exact ha_retz hx hb hr hlocks hP hD hS dJ0_isLatin1_aae02_18 g1 (ha_e1 he) (ha_e2 he)
  have J17 : ∀  (S : ha_St) (H : Heap) (locs : List Loc) (ls : Array Slot), (f_J0_isLatin1_aae02_J17 p0  S).bind some = some out → va_P D vwCl (ha_wl cs ad xo_kd xo_ln N S) H → va_D (ha_A ad N) (ha_wl cs ad xo_kd xo_ln N S) → va_S (ha_A ad N) s.heap H locs → lv_has ls 1 [(0, .ref (adK p0))] → W p l e (headSpec wsJ0_isLatin1_aae02 ({ frames := 0, cells := 0, slots := 0, locals := 0 } : Room)).room s m ([.ref (adK p0)] : List Value).toArray below meth c H locs 0 0 (MQ below (va_Qi (fun (r : Int32) (_ : Unit) => r = out.1) (fun _ => ha_H D cs ad xo_kd xo_ln N out.2) (ha_A ad N)) ([.ref (adK p0)] : List Value).toArray s 0 0 (ha_A ad N)) (F0 m 17 ls []) := by
    intro  S H locs ls hf  hP hD hS hl
    unfold f_J0_isLatin1_aae02_J17 at hf
    refine lv_iconst (v := 0) hx hb dJ0_isLatin1_aae02_17 (by decide) ?_
    exact J18 0 S H locs ls hf  hP hD hS (lv_sub hl [0] rfl)
  unfold f_J0_isLatin1_aae02 at hf
  refine va_gets hx hb hCS hS hown fl38 (fun _ h => h) dJ0_isLatin1_aae02_0 ?_
  refine lv_if_eq (tgt := 17) hx hb dJ0_isLatin1_aae02_3 (by decide) (fun c2 => ?_) (fun c2 => ?_)
  · have hf := ha_it hf c2
    exact J17  S H locs ls hf  hP hD hS (lv_sub hl [0] rfl)
  · have hf := ha_if hf c2
    refine lv_aload_n hx hb dJ0_isLatin1_aae02_6 rfl (lv_at hl 0 rfl) ?_
    refine vk_getf hx hb (hVS.1 p0 h0).2.1 hS hown fl15 (fun _ h => h) dJ0_isLatin1_aae02_7 ?_
    refine lv_if_ne (tgt := 17) hx hb dJ0_isLatin1_aae02_10 (by decide) (fun c3 => ?_) (fun c3 => ?_)
    · have hf := ha_it hf c3
      exact J17  S H locs ls hf  hP hD hS (lv_sub hl [0] rfl)
    · have hf := ha_if hf (fun q => q c3)
      refine lv_iconst (v := 1) hx hb dJ0_isLatin1_aae02_13 (by decide) ?_
      refine lv_goto (tgt := 18) hx hb dJ0_isLatin1_aae02_14 (by decide) ?_
      exact J18 1 S H locs ls hf  hP hD hS (lv_sub hl [0] rfl)

set_option maxHeartbeats 4000000 in
set_option maxRecDepth 100000 in
theorem c_J1_charAt_3b067 {l : Launch} {D : va_G} {cs : Nat → ClassId} {ad adK adV : Nat → Nat} {N : List Nat} {Z : State → Prop} (hZ : ha_Zok (ha_A ad N) Z) (hN : ∀ x, xo_kd x < 999 → x ∈ N) (hX : ∀ U, Z U → xo_Z adK adV (ha_A ad N) U) {p0 : Nat} {p1 : Int32} {S : ha_St} {out : Int32 × ha_St} (h0 : p0 < 2) (hf : f_J1_charAt_3b067 p0 p1 S = some out) : ha_Ci l D cs ad xo_kd xo_ln N Z yJ1_charAt_3b067 wsJ1_charAt_3b067 ({ frames := 2, cells := 0, slots := 0, locals := 43 } : Room) [.ref (adV p0), .int p1] S out.1 out.2 := by
  refine va_MetF (cc := cJ1_charAt_3b067) (maxL := 2) (ret := (some .char)) (by decide +kernel) rfl ?_
  intro p e s m args below meth c s₁ B hml hv
  obtain ⟨rfl, hP, hD, hK, hz⟩ := hv
  have hx := B.exec
  have hb := B.bytes
  have hr := B.returns
  have hts := atoms_spec (ws := wsJ1_charAt_3b067) B.pre
  have hown : s.vm.findClass RJ1 = some m.cls := findClass_of_methodNamed B.named
  have hlocks := B.notSynchronized
  have hS : va_S (ha_A ad N) s.heap s.heap [] := va_S.rf
  obtain ⟨-, hVS, hR0, hR1, hCS, hSI⟩ := id (hX s hz)
  have cw0 := va_cwS (R := (headSpec wsJ1_charAt_3b067 ({ frames := 2, cells := 0, slots := 0, locals := 43 } : Room)).room) 2 hts gJ1_charAt_3b067_J0_checkIndex_df160 (rm := ({ frames := 1, cells := 0, slots := 0, locals := 22 } : Room)) (mc := 0) (ms := 0) rfl rfl rfl (by decide +kernel) ⟨Nat.le_of_ble_eq_true rfl, Nat.le_of_ble_eq_true rfl⟩
  have hl := lv_entry ([.ref (adV p0), .int p1]) (n := 2) (Nat.le_of_ble_eq_true rfl)
  rw [lg_entry_eq]
  generalize (lg_sl ([.ref (adV p0), .int p1]) ++ List.replicate (2 - (lg_sl ([.ref (adV p0), .int p1])).length) Slot.unset).toArray = ls at hl ⊢
  have hl : lv_has ls 2 [(0, .ref (adV p0)), (1, .int p1)] := hl
  refine (fun (K0 : ∀ (H : Heap) (locs : List Loc), va_P D vwCl (ha_wl cs ad xo_kd xo_ln N S) H → va_S (ha_A ad N) s.heap H locs → W p l e (headSpec wsJ1_charAt_3b067 ({ frames := 2, cells := 0, slots := 0, locals := 43 } : Room)).room s m ([.ref (adV p0), .int p1] : List Value).toArray below meth c H locs 0 0 (MQ below (va_Qi (fun (r : Int32) (_ : Unit) => r = out.1) (fun _ => ha_H D cs ad xo_kd xo_ln N out.2) (ha_A ad N)) ([.ref (adV p0), .int p1] : List Value).toArray s 0 0 (ha_A ad N)) (F0 m 0 ls [])) => K0 _ _ hP hS) ?_
  intro H locs hP hS
  have hf := ha_rt hf
  unfold f_J1_charAt_3b067 at hf
  refine lv_iload_n hx hb dJ1_charAt_3b067_0 rfl (lv_at hl 1 rfl) ?_
  refine lv_aload_n hx hb dJ1_charAt_3b067_1 rfl (lv_at hl 0 rfl) ?_
  refine va_tlen (v := nI (xo_sl p0)) hx hb (hVS.1 p0 h0).2.2.2 hS rfl dJ1_charAt_3b067_2 ?_
  obtain ⟨z1, wz1, hf⟩ := ha_bds hf
  refine ha_callSv (As := [.int p1, .int ((nI (xo_sl p0)))]) (rest := []) hZ ⟨hx, hb, hml, hown, hts⟩ hK hz hP hD hS (c_J0_checkIndex_df160 hZ hX  wz1) cw0 rfl hl.1 rfl (Nat.le_of_ble_eq_true rfl) dJ1_charAt_3b067_3 ⟨Nat.le_of_ble_eq_true rfl, Nat.le_of_ble_eq_true rfl⟩ (fun H locs hP hD hS => ?_)
  refine lv_aload_n hx hb dJ1_charAt_3b067_6 rfl (lv_at hl 0 rfl) ?_
  refine lv_iload_n hx hb dJ1_charAt_3b067_7 rfl (lv_at hl 1 rfl) ?_
  obtain ⟨g2, hf⟩ := ha_gds hf
  refine va_tb hx hb (hVS.1 p0 h0).2.2.2 hS g2 rfl dJ1_charAt_3b067_8 ?_
  refine lv_sipush (v := 255) hx hb dJ1_charAt_3b067_9 (by decide) ?_
  refine lv_iand hx hb dJ1_charAt_3b067_12 ?_
  refine lv_i2c (v := ((((((xo_by p0 (p1 : Int32).toNatClampNeg) : Int32) &&& 255) : Int32).toUInt32 % 65536).toInt32)) hx hb dJ1_charAt_3b067_13 rfl ?_
  obtain ⟨g3, hf⟩ := ha_gds hf
  have he := Option.some.inj hf
  exact ha_retn hx hb hr hlocks hP hD hS dJ1_charAt_3b067_14 (by rw [← g3]; exact pk_nc _) (ha_e1 he) (ha_e2 he)

set_option maxHeartbeats 4000000 in
set_option maxRecDepth 100000 in
theorem c_J0_charAt_5068e {l : Launch} {D : va_G} {cs : Nat → ClassId} {ad adK adV : Nat → Nat} {N : List Nat} {Z : State → Prop} (hZ : ha_Zok (ha_A ad N) Z) (hN : ∀ x, xo_kd x < 999 → x ∈ N) (hX : ∀ U, Z U → xo_Z adK adV (ha_A ad N) U) {p0 : Nat} {p1 : Int32} {S : ha_St} {out : Int32 × ha_St} (h0 : p0 < 2) (hf : f_J0_charAt_5068e p0 p1 S = some out) : ha_Ci l D cs ad xo_kd xo_ln N Z yJ0_charAt_5068e wsJ0_charAt_5068e ({ frames := 3, cells := 0, slots := 0, locals := 64 } : Room) [.ref (adK p0), .int p1] S out.1 out.2 := by
  refine va_MetF (cc := cJ0_charAt_5068e) (maxL := 2) (ret := (some .char)) (by decide +kernel) rfl ?_
  intro p e s m args below meth c s₁ B hml hv
  obtain ⟨rfl, hP, hD, hK, hz⟩ := hv
  have hx := B.exec
  have hb := B.bytes
  have hr := B.returns
  have hts := atoms_spec (ws := wsJ0_charAt_5068e) B.pre
  have hown : s.vm.findClass RJ0 = some m.cls := findClass_of_methodNamed B.named
  have hlocks := B.notSynchronized
  have hS : va_S (ha_A ad N) s.heap s.heap [] := va_S.rf
  obtain ⟨-, hVS, hR0, hR1, hCS, hSI⟩ := id (hX s hz)
  have cw0 := cwV (R := (headSpec wsJ0_charAt_5068e ({ frames := 3, cells := 0, slots := 0, locals := 64 } : Room)).room) 0 hts gJ0_charAt_5068e_J0_isLatin1_aae02 (rm := ({ frames := 0, cells := 0, slots := 0, locals := 0 } : Room)) (mc := 0) (ms := 0) rfl rfl rfl (by decide +kernel) ⟨Nat.le_of_ble_eq_true rfl, Nat.le_of_ble_eq_true rfl⟩
  have fl9 := hts (.fieldLink RJ0 9 "java/lang/String" "value" "[B") (by decide +kernel)
  have cw2 := va_cwS (R := (headSpec wsJ0_charAt_5068e ({ frames := 3, cells := 0, slots := 0, locals := 64 } : Room)).room) 2 hts gJ0_charAt_5068e_J1_charAt_3b067 (rm := ({ frames := 2, cells := 0, slots := 0, locals := 43 } : Room)) (mc := 0) (ms := 0) rfl rfl rfl (by decide +kernel) ⟨Nat.le_of_ble_eq_true rfl, Nat.le_of_ble_eq_true rfl⟩
  have hl := lv_entry ([.ref (adK p0), .int p1]) (n := 2) (Nat.le_of_ble_eq_true rfl)
  rw [lg_entry_eq]
  generalize (lg_sl ([.ref (adK p0), .int p1]) ++ List.replicate (2 - (lg_sl ([.ref (adK p0), .int p1])).length) Slot.unset).toArray = ls at hl ⊢
  have hl : lv_has ls 2 [(0, .ref (adK p0)), (1, .int p1)] := hl
  refine (fun (K0 : ∀ (H : Heap) (locs : List Loc), va_P D vwCl (ha_wl cs ad xo_kd xo_ln N S) H → va_S (ha_A ad N) s.heap H locs → W p l e (headSpec wsJ0_charAt_5068e ({ frames := 3, cells := 0, slots := 0, locals := 64 } : Room)).room s m ([.ref (adK p0), .int p1] : List Value).toArray below meth c H locs 0 0 (MQ below (va_Qi (fun (r : Int32) (_ : Unit) => r = out.1) (fun _ => ha_H D cs ad xo_kd xo_ln N out.2) (ha_A ad N)) ([.ref (adK p0), .int p1] : List Value).toArray s 0 0 (ha_A ad N)) (F0 m 0 ls [])) => K0 _ _ hP hS) ?_
  intro H locs hP hS
  have hf := ha_rt hf
  unfold f_J0_charAt_5068e at hf
  refine lv_aload_n hx hb dJ0_charAt_5068e_0 rfl (lv_at hl 0 rfl) ?_
  obtain ⟨z1, wz1, hf⟩ := ha_bds hf
  refine ha_callRi (As := []) (rest := []) hZ ⟨hx, hb, hml, hown, hts⟩ hK hz hP hD hS (c_J0_isLatin1_aae02 hZ hN hX h0 wz1) cw0 (vk_recv hVS h0 hS) rfl hl.1 rfl (Nat.le_of_ble_eq_true rfl) dJ0_charAt_5068e_1 ⟨Nat.le_of_ble_eq_true rfl, Nat.le_of_ble_eq_true rfl⟩ (fun H locs hP hD hS => ?_)
  refine lv_if_eq (tgt := 16) hx hb dJ0_charAt_5068e_4 (by decide) (fun c2 => ?_) (fun c2 => ?_)
  · have hf := ha_it hf c2
    exact absurd (show (none : Option (Int32 × ha_St)) = some out from hf) (fun h => by cases h)
  · have hf := ha_if hf c2
    refine lv_aload_n hx hb dJ0_charAt_5068e_7 rfl (lv_at hl 0 rfl) ?_
    refine vk_getf hx hb (hVS.1 p0 h0).2.2.1 hS hown fl9 (fun _ h => h) dJ0_charAt_5068e_8 ?_
    refine lv_iload_n hx hb dJ0_charAt_5068e_11 rfl (lv_at hl 1 rfl) ?_
    obtain ⟨z3, wz3, hf⟩ := ha_bds hf
    refine ha_callSi (As := [.ref (adV p0), .int p1]) (rest := []) hZ ⟨hx, hb, hml, hown, hts⟩ hK hz hP hD hS (c_J1_charAt_3b067 hZ hN hX h0 wz3) cw2 rfl hl.1 rfl (Nat.le_of_ble_eq_true rfl) dJ0_charAt_5068e_12 ⟨Nat.le_of_ble_eq_true rfl, Nat.le_of_ble_eq_true rfl⟩ (fun H locs hP hD hS => ?_)
    obtain ⟨g4, hf⟩ := ha_gds hf
    have he := Option.some.inj hf
    exact ha_retn hx hb hr hlocks hP hD hS dJ0_charAt_5068e_15 (by rw [← g4]; exact pk_nc _) (ha_e1 he) (ha_e2 he)

set_option maxHeartbeats 4000000 in
set_option maxRecDepth 100000 in
theorem c_X9_isWordAt {l : Launch} {D : va_G} {cs : Nat → ClassId} {ad adK adV : Nat → Nat} {N : List Nat} {Z : State → Prop} (hZ : ha_Zok (ha_A ad N) Z) (hN : ∀ x, xo_kd x < 999 → x ∈ N) (hX : ∀ U, Z U → xo_Z adK adV (ha_A ad N) U) {p0 : Nat} {p1 : Int32} {S : ha_St} {out : Int32 × ha_St} (h0 : xo_kd p0 = 9) (hf : f_X9_isWordAt p0 p1 S = some out) : ha_Ci l D cs ad xo_kd xo_ln N Z yX9_isWordAt wsX9_isWordAt ({ frames := 4, cells := 0, slots := 0, locals := 85 } : Room) [.ref (ad p0), .int p1] S out.1 out.2 := by
  refine Met.ofW (cc := cX9_isWordAt) (maxL := 4) (ret := (some .boolean)) (by decide +kernel) rfl ?_
  intro p e s m args below meth c s₁ B hml hv
  obtain ⟨rfl, hP, hD, hK, hz⟩ := hv
  have hx := B.exec
  have hb := B.bytes
  have hr := B.returns
  have hts := atoms_spec (ws := wsX9_isWordAt) B.pre
  have hown : s.vm.findClass RX9 = some m.cls := findClass_of_methodNamed B.named
  have hlocks := B.notSynchronized
  have hS : va_S (ha_A ad N) s.heap s.heap [] := va_S.rf
  have hi9 : ∀ w ∈ wsX90, w ∈ wsX9_isWordAt := fun w h => List.mem_cons_of_mem _ (List.mem_append_right _ h)
  have q65 : ha_Fk s ([.ref (ad p0), .int p1] : List Value).toArray RX9 65 9 4 0 := ⟨RX9, TX9, 8, wsX9_isWordAt, rfl, by decide, by decide, rfl, rfl, hts, hi9, hts (.fieldLink RX9 65 "HillArms$Reader" "at" "I") (by decide +kernel)⟩
  have q33 : ha_Fk s ([.ref (ad p0), .int p1] : List Value).toArray RX9 33 9 5 0 := ⟨RX9, TX9, 8, wsX9_isWordAt, rfl, by decide, by decide, rfl, rfl, hts, hi9, hts (.fieldLink RX9 33 "HillArms$Reader" "behind" "I") (by decide +kernel)⟩
  have q9 : ha_Fk s ([.ref (ad p0), .int p1] : List Value).toArray RX9 9 9 0 1 := ⟨RX9, TX9, 8, wsX9_isWordAt, rfl, by decide, by decide, rfl, rfl, hts, hi9, hts (.fieldLink RX9 9 "HillArms$Reader" "bytes" "[I") (by decide +kernel)⟩
  obtain ⟨-, hVS, hR0, hR1, hCS, hSI⟩ := id (hX s hz)
  have cw0 := cwV (R := (headSpec wsX9_isWordAt ({ frames := 4, cells := 0, slots := 0, locals := 85 } : Room)).room) 1 hts gX9_isWordAt_J0_charAt_5068e (rm := ({ frames := 3, cells := 0, slots := 0, locals := 64 } : Room)) (mc := 0) (ms := 0) rfl rfl rfl (by decide +kernel) ⟨Nat.le_of_ble_eq_true rfl, Nat.le_of_ble_eq_true rfl⟩
  have hl := lv_entry ([.ref (ad p0), .int p1]) (n := 4) (Nat.le_of_ble_eq_true rfl)
  rw [lg_entry_eq]
  generalize (lg_sl ([.ref (ad p0), .int p1]) ++ List.replicate (4 - (lg_sl ([.ref (ad p0), .int p1])).length) Slot.unset).toArray = ls at hl ⊢
  have hl : lv_has ls 4 [(0, .ref (ad p0)), (1, .int p1)] := hl
  refine (fun (K0 : ∀ (H : Heap) (locs : List Loc), va_P D vwCl (ha_wl cs ad xo_kd xo_ln N S) H → va_S (ha_A ad N) s.heap H locs → W p l e (headSpec wsX9_isWordAt ({ frames := 4, cells := 0, slots := 0, locals := 85 } : Room)).room s m ([.ref (ad p0), .int p1] : List Value).toArray below meth c H locs 0 0 (MQ below (va_Qi (fun (r : Int32) (_ : Unit) => r = out.1) (fun _ => ha_H D cs ad xo_kd xo_ln N out.2) (ha_A ad N)) ([.ref (ad p0), .int p1] : List Value).toArray s 0 0 (ha_A ad N)) (F0 m 0 ls [])) => K0 _ _ hP hS) ?_
  intro H locs hP hS
  have hf := ha_rt hf
  have J57 : ∀  (S : ha_St) (H : Heap) (locs : List Loc) (ls : Array Slot), (f_X9_isWordAt_J57 p0 p1  S).bind some = some out → va_P D vwCl (ha_wl cs ad xo_kd xo_ln N S) H → va_D (ha_A ad N) (ha_wl cs ad xo_kd xo_ln N S) → va_S (ha_A ad N) s.heap H locs → lv_has ls 4 [(0, .ref (ad p0)), (1, .int p1)] → W p l e (headSpec wsX9_isWordAt ({ frames := 4, cells := 0, slots := 0, locals := 85 } : Room)).room s m ([.ref (ad p0), .int p1] : List Value).toArray below meth c H locs 0 0 (MQ below (va_Qi (fun (r : Int32) (_ : Unit) => r = out.1) (fun _ => ha_H D cs ad xo_kd xo_ln N out.2) (ha_A ad N)) ([.ref (ad p0), .int p1] : List Value).toArray s 0 0 (ha_A ad N)) (F0 m 57 ls []) := by
    intro  S H locs ls hf  hP hD hS hl
    unfold f_X9_isWordAt_J57 at hf
    refine lv_iconst (v := 1) hx hb dX9_isWordAt_57 (by decide) ?_
    have he := Option.some.inj hf
    exact ha_retz hx hb hr hlocks hP hD hS dX9_isWordAt_58 (by decide) (ha_e1 he) (ha_e2 he)
  unfold f_X9_isWordAt at hf
  refine lv_iconst (v := 0) hx hb dX9_isWordAt_0 (by decide) ?_
  refine lv_istore_n (lv' := [(2, .int 0), (0, .ref (ad p0)), (1, .int p1)]) hx hb dX9_isWordAt_1 rfl hl (by decide) rfl (fun ls hl => ?_)
  have key8 : ∀ (K : ((ha_St) ⊕ (Int32 × ha_St)) → Option (Int32 × ha_St)), (∀  (S : ha_St) (H : Heap) (locs : List Loc) (ls : Array Slot), K (.inl S) = some out → va_P D vwCl (ha_wl cs ad xo_kd xo_ln N S) H → va_D (ha_A ad N) (ha_wl cs ad xo_kd xo_ln N S) → va_S (ha_A ad N) s.heap H locs → lv_has ls 4 [(0, .ref (ad p0)), (1, .int p1)] → W p l e (headSpec wsX9_isWordAt ({ frames := 4, cells := 0, slots := 0, locals := 85 } : Room)).room s m ([.ref (ad p0), .int p1] : List Value).toArray below meth c H locs 0 0 (MQ below (va_Qi (fun (r : Int32) (_ : Unit) => r = out.1) (fun _ => ha_H D cs ad xo_kd xo_ln N out.2) (ha_A ad N)) ([.ref (ad p0), .int p1] : List Value).toArray s 0 0 (ha_A ad N)) (F0 m 57 ls [])) → (∀ r, K (.inr r) = some out → r = out) → ∀ (n : Nat) (v2 : Int32) (S : ha_St) (H : Heap) (locs : List Loc) (ls : Array Slot), (f_X9_isWordAt_L2i p0 p1 n (v2, S)).bind K = some out → va_P D vwCl (ha_wl cs ad xo_kd xo_ln N S) H → va_D (ha_A ad N) (ha_wl cs ad xo_kd xo_ln N S) → va_S (ha_A ad N) s.heap H locs → lv_has ls 4 [(0, .ref (ad p0)), (1, .int p1), (2, .int v2)] → W p l e (headSpec wsX9_isWordAt ({ frames := 4, cells := 0, slots := 0, locals := 85 } : Room)).room s m ([.ref (ad p0), .int p1] : List Value).toArray below meth c H locs 0 0 (MQ below (va_Qi (fun (r : Int32) (_ : Unit) => r = out.1) (fun _ => ha_H D cs ad xo_kd xo_ln N out.2) (ha_A ad N)) ([.ref (ad p0), .int p1] : List Value).toArray s 0 0 (ha_A ad N)) (F0 m 2 ls []) := by
    intro K hk hke n
    induction n with
    | zero =>
      intro v2 S H locs ls hf
      exact absurd (show (none : Option (Int32 × ha_St)) = some out from hf) (fun h => by cases h)
    | succ n ih =>
      intro v2 S H locs ls hf  hP hD hS hl
      have J36 : ∀ (v2 : Int32) (k0 : Int32) (S : ha_St) (H : Heap) (locs : List Loc) (ls : Array Slot), (f_X9_isWordAt_L2_J36 p0 p1 (f_X9_isWordAt_L2i p0 p1 n) v2 k0 S).bind K = some out → va_P D vwCl (ha_wl cs ad xo_kd xo_ln N S) H → va_D (ha_A ad N) (ha_wl cs ad xo_kd xo_ln N S) → va_S (ha_A ad N) s.heap H locs → lv_has ls 4 [(0, .ref (ad p0)), (1, .int p1), (2, .int v2)] → W p l e (headSpec wsX9_isWordAt ({ frames := 4, cells := 0, slots := 0, locals := 85 } : Room)).room s m ([.ref (ad p0), .int p1] : List Value).toArray below meth c H locs 0 0 (MQ below (va_Qi (fun (r : Int32) (_ : Unit) => r = out.1) (fun _ => ha_H D cs ad xo_kd xo_ln N out.2) (ha_A ad N)) ([.ref (ad p0), .int p1] : List Value).toArray s 0 0 (ha_A ad N)) (F0 m 36 ls [.int k0]) := by
        intro v2 k0 S H locs ls hf  hP hD hS hl
        unfold f_X9_isWordAt_L2_J36 at hf
        refine lv_istore_n (lv' := [(3, .int k0), (0, .ref (ad p0)), (1, .int p1), (2, .int v2)]) hx hb dX9_isWordAt_36 rfl hl (by decide) rfl (fun ls hl => ?_)
        refine va_ldcS hx hb hown hR1 dX9_isWordAt_37 ?_
        refine lv_iload_n hx hb dX9_isWordAt_39 rfl (lv_at hl 2 rfl) ?_
        refine lv_iload_n hx hb dX9_isWordAt_40 rfl (lv_at hl 3 rfl) ?_
        refine lv_iadd hx hb dX9_isWordAt_41 ?_
        obtain ⟨z1, wz1, hf⟩ := ha_bds hf
        refine ha_callRi (As := [.int (((p1 : Int32) + v2))]) (rest := []) hZ ⟨hx, hb, hml, hown, hts⟩ hK hz hP hD hS (c_J0_charAt_5068e hZ hN hX (show 1 < 2 by decide) wz1) cw0 (vk_recv hVS (show 1 < 2 by decide) hS) rfl hl.1 rfl (Nat.le_of_ble_eq_true rfl) dX9_isWordAt_42 ⟨Nat.le_of_ble_eq_true rfl, Nat.le_of_ble_eq_true rfl⟩ (fun H locs hP hD hS => ?_)
        refine lv_iload_n hx hb dX9_isWordAt_45 rfl (lv_at hl 0 rfl) ?_
        refine lv_icmp_eq (tgt := 51) hx hb dX9_isWordAt_46 (by decide) (fun c2 => ?_) (fun c2 => ?_)
        · have hf := ha_it hf c2
          obtain ⟨x3, ex3⟩ : ∃ y : Int32, y = (v2 : Int32) + 1 := ⟨_, rfl⟩
          have hf := ha_nms hf ex3
          refine lv_iinc (v := x3) (lv' := [(2, .int x3), (3, .int k0), (0, .ref (ad p0)), (1, .int p1)]) hx hb dX9_isWordAt_51 hl (k := 3) rfl (by rw [ex3]; rfl) (by decide) rfl (fun ls hl => ?_)
          refine lv_goto (tgt := 2) hx hb dX9_isWordAt_54 (by decide) ?_
          exact ih x3 z1.2 H locs ls hf  hP hD hS (lv_sub hl [2, 3, 0] rfl)
        · have hf := ha_if hf c2
          refine lv_iconst (v := 0) hx hb dX9_isWordAt_49 (by decide) ?_
          have he := hke _ hf
          exact ha_retz hx hb hr hlocks hP hD hS dX9_isWordAt_50 (by decide) (ha_e1 he) (ha_e2 he)
      have hf : (f_X9_isWordAt_L2 p0 p1 (f_X9_isWordAt_L2i p0 p1 n) v2 S).bind K = some out := hf
      unfold f_X9_isWordAt_L2 at hf
      refine lv_iload_n hx hb dX9_isWordAt_2 rfl (lv_at hl 2 rfl) ?_
      refine lv_iconst (v := 5) hx hb dX9_isWordAt_3 (by decide) ?_
      refine lv_icmp_ge (tgt := 57) hx hb dX9_isWordAt_4 (by decide) (fun c4 => ?_) (fun c4 => ?_)
      · have hf := ha_it hf c4
        exact hk  S H locs ls hf  hP hD hS (lv_sub hl [0, 1] rfl)
      · have hf := ha_if hf c4
        refine lv_aload_n hx hb dX9_isWordAt_7 rfl (lv_at hl 0 rfl) ?_
        refine ha_geti hx hb hown hK hP q65 hN h0 dX9_isWordAt_8 ?_
        refine lv_iload_n hx hb dX9_isWordAt_11 rfl (lv_at hl 2 rfl) ?_
        refine lv_iadd hx hb dX9_isWordAt_12 ?_
        refine lv_aload_n hx hb dX9_isWordAt_13 rfl (lv_at hl 0 rfl) ?_
        refine ha_geti hx hb hown hK hP q33 hN h0 dX9_isWordAt_14 ?_
        refine lv_icmp_ge (tgt := 34) hx hb dX9_isWordAt_17 (by decide) (fun c5 => ?_) (fun c5 => ?_)
        · have hf := ha_it hf c5
          refine lv_bipush (v := 32) hx hb dX9_isWordAt_34 (by decide) ?_
          exact J36 v2 32 S H locs ls hf  hP hD hS (lv_sub hl [0, 1, 2] rfl)
        · have hf := ha_if hf c5
          refine lv_aload_n hx hb dX9_isWordAt_20 rfl (lv_at hl 0 rfl) ?_
          obtain ⟨r6, wr6, hf⟩ := ha_bds hf
          obtain ⟨wr6, hr6⟩ := ha_rf_some wr6
          refine ha_getr hx hb hown hK hP q9 hN h0 wr6 dX9_isWordAt_21 ?_
          refine lv_aload_n hx hb dX9_isWordAt_24 rfl (lv_at hl 0 rfl) ?_
          refine ha_geti hx hb hown hK hP q65 hN h0 dX9_isWordAt_25 ?_
          refine lv_iload_n hx hb dX9_isWordAt_28 rfl (lv_at hl 2 rfl) ?_
          refine lv_iadd hx hb dX9_isWordAt_29 ?_
          obtain ⟨g7, hf⟩ := ha_gds hf
          refine ha_iald hx hb hK hP hN hr6 g7 dX9_isWordAt_30 ?_
          refine lv_goto (tgt := 36) hx hb dX9_isWordAt_31 (by decide) ?_
          exact J36 v2 ((ha_gA S r6 ((((ha_gI S p0 4) : Int32) + v2) : Int32).toNatClampNeg)) S H locs ls hf  hP hD hS (lv_sub hl [0, 1, 2] rfl)
  refine key8 _ (fun  S H locs ls hf  hP hD hS hl => ?_) (fun r h => Option.some.inj h) ha_fu 0 S H locs ls (ha_as hf)  hP hD hS (lv_sub hl [1, 2, 0] rfl)
  have hf : (f_X9_isWordAt_J57 p0 p1  S).bind some = some out := hf
  exact J57  S H locs ls hf  hP hD hS (lv_sub hl [0, 1] rfl)

set_option maxHeartbeats 4000000 in
set_option maxRecDepth 100000 in
theorem c_X9_wordCode {l : Launch} {D : va_G} {cs : Nat → ClassId} {ad adK adV : Nat → Nat} {N : List Nat} {Z : State → Prop} (hZ : ha_Zok (ha_A ad N) Z) (hN : ∀ x, xo_kd x < 999 → x ∈ N) (hX : ∀ U, Z U → xo_Z adK adV (ha_A ad N) U) {p0 : Nat} {S : ha_St} {out : Int32 × ha_St} (h0 : xo_kd p0 = 9) (hf : f_X9_wordCode p0 S = some out) : ha_Ci l D cs ad xo_kd xo_ln N Z yX9_wordCode wsX9_wordCode ({ frames := 5, cells := 0, slots := 0, locals := 108 } : Room) [.ref (ad p0)] S out.1 out.2 := by
  refine Met.ofW (cc := cX9_wordCode) (maxL := 3) (ret := (some .int)) (by decide +kernel) rfl ?_
  intro p e s m args below meth c s₁ B hml hv
  obtain ⟨rfl, hP, hD, hK, hz⟩ := hv
  have hx := B.exec
  have hb := B.bytes
  have hr := B.returns
  have hts := atoms_spec (ws := wsX9_wordCode) B.pre
  have hown : s.vm.findClass RX9 = some m.cls := findClass_of_methodNamed B.named
  have hlocks := B.notSynchronized
  have hS : va_S (ha_A ad N) s.heap s.heap [] := va_S.rf
  have hi9 : ∀ w ∈ wsX90, w ∈ wsX9_wordCode := fun w h => List.mem_cons_of_mem _ (List.mem_append_right _ h)
  have q33 : ha_Fk s ([.ref (ad p0)] : List Value).toArray RX9 33 9 5 0 := ⟨RX9, TX9, 8, wsX9_wordCode, rfl, by decide, by decide, rfl, rfl, hts, hi9, hts (.fieldLink RX9 33 "HillArms$Reader" "behind" "I") (by decide +kernel)⟩
  have q65 : ha_Fk s ([.ref (ad p0)] : List Value).toArray RX9 65 9 4 0 := ⟨RX9, TX9, 8, wsX9_wordCode, rfl, by decide, by decide, rfl, rfl, hts, hi9, hts (.fieldLink RX9 65 "HillArms$Reader" "at" "I") (by decide +kernel)⟩
  obtain ⟨-, hVS, hR0, hR1, hCS, hSI⟩ := id (hX s hz)
  have cw0 := cwV (R := (headSpec wsX9_wordCode ({ frames := 5, cells := 0, slots := 0, locals := 108 } : Room)).room) 0 hts gX9_wordCode_J0_length_8abf5 (rm := ({ frames := 1, cells := 0, slots := 0, locals := 20 } : Room)) (mc := 0) (ms := 0) rfl rfl rfl (by decide +kernel) ⟨Nat.le_of_ble_eq_true rfl, Nat.le_of_ble_eq_true rfl⟩
  have cw1 := cwV (R := (headSpec wsX9_wordCode ({ frames := 5, cells := 0, slots := 0, locals := 108 } : Room)).room) 1 hts gX9_wordCode_X9_isWordAt (rm := ({ frames := 4, cells := 0, slots := 0, locals := 85 } : Room)) (mc := 0) (ms := 0) rfl rfl rfl (by decide +kernel) ⟨Nat.le_of_ble_eq_true rfl, Nat.le_of_ble_eq_true rfl⟩
  have hl := lv_entry ([.ref (ad p0)]) (n := 3) (Nat.le_of_ble_eq_true rfl)
  rw [lg_entry_eq]
  generalize (lg_sl ([.ref (ad p0)]) ++ List.replicate (3 - (lg_sl ([.ref (ad p0)])).length) Slot.unset).toArray = ls at hl ⊢
  have hl : lv_has ls 3 [(0, .ref (ad p0))] := hl
  refine (fun (K0 : ∀ (H : Heap) (locs : List Loc), va_P D vwCl (ha_wl cs ad xo_kd xo_ln N S) H → va_S (ha_A ad N) s.heap H locs → W p l e (headSpec wsX9_wordCode ({ frames := 5, cells := 0, slots := 0, locals := 108 } : Room)).room s m ([.ref (ad p0)] : List Value).toArray below meth c H locs 0 0 (MQ below (va_Qi (fun (r : Int32) (_ : Unit) => r = out.1) (fun _ => ha_H D cs ad xo_kd xo_ln N out.2) (ha_A ad N)) ([.ref (ad p0)] : List Value).toArray s 0 0 (ha_A ad N)) (F0 m 0 ls [])) => K0 _ _ hP hS) ?_
  intro H locs hP hS
  have hf := ha_rt hf
  have J51 : ∀  (S : ha_St) (H : Heap) (locs : List Loc) (ls : Array Slot), (f_X9_wordCode_J51 p0  S).bind some = some out → va_P D vwCl (ha_wl cs ad xo_kd xo_ln N S) H → va_D (ha_A ad N) (ha_wl cs ad xo_kd xo_ln N S) → va_S (ha_A ad N) s.heap H locs → lv_has ls 3 [(0, .ref (ad p0))] → W p l e (headSpec wsX9_wordCode ({ frames := 5, cells := 0, slots := 0, locals := 108 } : Room)).room s m ([.ref (ad p0)] : List Value).toArray below meth c H locs 0 0 (MQ below (va_Qi (fun (r : Int32) (_ : Unit) => r = out.1) (fun _ => ha_H D cs ad xo_kd xo_ln N out.2) (ha_A ad N)) ([.ref (ad p0)] : List Value).toArray s 0 0 (ha_A ad N)) (F0 m 51 ls []) := by
    intro  S H locs ls hf  hP hD hS hl
    unfold f_X9_wordCode_J51 at hf
    refine lv_iconst (v := (-1)) hx hb dX9_wordCode_51 (by decide) ?_
    have he := Option.some.inj hf
    exact ha_reti hx hb hr hlocks hP hD hS dX9_wordCode_52 (ha_e1 he) (ha_e2 he)
  unfold f_X9_wordCode at hf
  refine lv_aload_n hx hb dX9_wordCode_0 rfl (lv_at hl 0 rfl) ?_
  refine ha_geti hx hb hown hK hP q33 hN h0 dX9_wordCode_1 ?_
  refine lv_aload_n hx hb dX9_wordCode_4 rfl (lv_at hl 0 rfl) ?_
  refine ha_geti hx hb hown hK hP q65 hN h0 dX9_wordCode_5 ?_
  refine lv_isub hx hb dX9_wordCode_8 ?_
  refine lv_iconst (v := 5) hx hb dX9_wordCode_9 (by decide) ?_
  refine lv_icmp_le (tgt := 15) hx hb dX9_wordCode_10 (by decide) (fun c1 => ?_) (fun c1 => ?_)
  · have hf := ha_it hf c1
    refine lv_bipush (v := 100) hx hb dX9_wordCode_15 (by decide) ?_
    refine lv_istore_n (lv' := [(1, .int 100), (0, .ref (ad p0))]) hx hb dX9_wordCode_17 rfl hl (by decide) rfl (fun ls hl => ?_)
    refine lv_iconst (v := 0) hx hb dX9_wordCode_18 (by decide) ?_
    refine lv_istore_n (lv' := [(2, .int 0), (1, .int 100), (0, .ref (ad p0))]) hx hb dX9_wordCode_19 rfl hl (by decide) rfl (fun ls hl => ?_)
    have key8 : ∀ (K : ((ha_St) ⊕ (Int32 × ha_St)) → Option (Int32 × ha_St)), (∀  (S : ha_St) (H : Heap) (locs : List Loc) (ls : Array Slot), K (.inl S) = some out → va_P D vwCl (ha_wl cs ad xo_kd xo_ln N S) H → va_D (ha_A ad N) (ha_wl cs ad xo_kd xo_ln N S) → va_S (ha_A ad N) s.heap H locs → lv_has ls 3 [(0, .ref (ad p0))] → W p l e (headSpec wsX9_wordCode ({ frames := 5, cells := 0, slots := 0, locals := 108 } : Room)).room s m ([.ref (ad p0)] : List Value).toArray below meth c H locs 0 0 (MQ below (va_Qi (fun (r : Int32) (_ : Unit) => r = out.1) (fun _ => ha_H D cs ad xo_kd xo_ln N out.2) (ha_A ad N)) ([.ref (ad p0)] : List Value).toArray s 0 0 (ha_A ad N)) (F0 m 51 ls [])) → (∀ r, K (.inr r) = some out → r = out) → ∀ (n : Nat) (v1 : Int32) (v2 : Int32) (S : ha_St) (H : Heap) (locs : List Loc) (ls : Array Slot), (f_X9_wordCode_L20i p0 n (v1, v2, S)).bind K = some out → va_P D vwCl (ha_wl cs ad xo_kd xo_ln N S) H → va_D (ha_A ad N) (ha_wl cs ad xo_kd xo_ln N S) → va_S (ha_A ad N) s.heap H locs → lv_has ls 3 [(0, .ref (ad p0)), (1, .int v1), (2, .int v2)] → W p l e (headSpec wsX9_wordCode ({ frames := 5, cells := 0, slots := 0, locals := 108 } : Room)).room s m ([.ref (ad p0)] : List Value).toArray below meth c H locs 0 0 (MQ below (va_Qi (fun (r : Int32) (_ : Unit) => r = out.1) (fun _ => ha_H D cs ad xo_kd xo_ln N out.2) (ha_A ad N)) ([.ref (ad p0)] : List Value).toArray s 0 0 (ha_A ad N)) (F0 m 20 ls []) := by
      intro K hk hke n
      induction n with
      | zero =>
        intro v1 v2 S H locs ls hf
        exact absurd (show (none : Option (Int32 × ha_St)) = some out from hf) (fun h => by cases h)
      | succ n ih =>
        intro v1 v2 S H locs ls hf  hP hD hS hl
        have hf : (f_X9_wordCode_L20 p0 (f_X9_wordCode_L20i p0 n) v1 v2 S).bind K = some out := hf
        unfold f_X9_wordCode_L20 at hf
        refine lv_iload_n hx hb dX9_wordCode_20 rfl (lv_at hl 2 rfl) ?_
        refine lv_bipush (v := 6) hx hb dX9_wordCode_21 (by decide) ?_
        refine lv_iadd hx hb dX9_wordCode_23 ?_
        refine va_ldcS hx hb hown hR1 dX9_wordCode_24 ?_
        obtain ⟨z2, wz2, hf⟩ := ha_bds hf
        refine ha_callRi (As := []) (rest := [.int (((v2 : Int32) + 6))]) hZ ⟨hx, hb, hml, hown, hts⟩ hK hz hP hD hS (c_J0_length_8abf5 hZ hN hX (show 1 < 2 by decide) wz2) cw0 (vk_recv hVS (show 1 < 2 by decide) hS) rfl hl.1 rfl (Nat.le_of_ble_eq_true rfl) dX9_wordCode_26 ⟨Nat.le_of_ble_eq_true rfl, Nat.le_of_ble_eq_true rfl⟩ (fun H locs hP hD hS => ?_)
        refine lv_icmp_gt (tgt := 51) hx hb dX9_wordCode_29 (by decide) (fun c3 => ?_) (fun c3 => ?_)
        · have hf := ha_it hf c3
          exact hk  z2.2 H locs ls hf  hP hD hS (lv_sub hl [0] rfl)
        · have hf := ha_if hf c3
          refine lv_aload_n hx hb dX9_wordCode_32 rfl (lv_at hl 0 rfl) ?_
          refine lv_iload_n hx hb dX9_wordCode_33 rfl (lv_at hl 2 rfl) ?_
          obtain ⟨z4, wz4, hf⟩ := ha_bds hf
          refine ha_callVi (As := [.int v2]) (rest := []) hZ ⟨hx, hb, hml, hown, hts⟩ hK hz hP hD hS (c_X9_isWordAt hZ hN hX h0 wz4) cw1 hN h0 (by decide) rfl rfl hl.1 rfl (Nat.le_of_ble_eq_true rfl) dX9_wordCode_34 ⟨Nat.le_of_ble_eq_true rfl, Nat.le_of_ble_eq_true rfl⟩ (fun H locs hP hD hS => ?_)
          refine lv_if_eq (tgt := 42) hx hb dX9_wordCode_37 (by decide) (fun c5 => ?_) (fun c5 => ?_)
          · have hf := ha_it hf c5
            obtain ⟨x6, ex6⟩ : ∃ y : Int32, y = (v1 : Int32) + 1 := ⟨_, rfl⟩
            have hf := ha_nms hf ex6
            refine lv_iinc (v := x6) (lv' := [(1, .int x6), (0, .ref (ad p0)), (2, .int v2)]) hx hb dX9_wordCode_42 hl (k := 1) rfl (by rw [ex6]; rfl) (by decide) rfl (fun ls hl => ?_)
            obtain ⟨x7, ex7⟩ : ∃ y : Int32, y = (v2 : Int32) + 6 := ⟨_, rfl⟩
            have hf := ha_nms hf ex7
            refine lv_iinc (v := x7) (lv' := [(2, .int x7), (1, .int x6), (0, .ref (ad p0))]) hx hb dX9_wordCode_45 hl (k := 2) rfl (by rw [ex7]; rfl) (by decide) rfl (fun ls hl => ?_)
            refine lv_goto (tgt := 20) hx hb dX9_wordCode_48 (by decide) ?_
            exact ih x6 x7 z4.2 H locs ls hf  hP hD hS (lv_sub hl [2, 1, 0] rfl)
          · have hf := ha_if hf c5
            refine lv_iload_n hx hb dX9_wordCode_40 rfl (lv_at hl 1 rfl) ?_
            have he := hke _ hf
            exact ha_reti hx hb hr hlocks hP hD hS dX9_wordCode_41 (ha_e1 he) (ha_e2 he)
    refine key8 _ (fun  S H locs ls hf  hP hD hS hl => ?_) (fun r h => Option.some.inj h) ha_fu 100 0 S H locs ls (ha_as hf)  hP hD hS (lv_sub hl [2, 1, 0] rfl)
    have hf : (f_X9_wordCode_J51 p0  S).bind some = some out := hf
    exact J51  S H locs ls hf  hP hD hS (lv_sub hl [0] rfl)
  · have hf := ha_if hf c1
    refine lv_iconst (v := (-1)) hx hb dX9_wordCode_13 (by decide) ?_
    have he := Option.some.inj hf
    exact ha_reti hx hb hr hlocks hP hD hS dX9_wordCode_14 (ha_e1 he) (ha_e2 he)

set_option maxHeartbeats 4000000 in
set_option maxRecDepth 100000 in
theorem c_J1_canEncode_9a6ad {l : Launch} {D : va_G} {cs : Nat → ClassId} {ad kd ln : Nat → Nat} {N : List Nat} {Z : State → Prop}  {p0 : Int32} {S : ha_St} {out : Int32}  (hf : f_J1_canEncode_9a6ad p0 = some out) : ha_Ci l D cs ad kd ln N Z yJ1_canEncode_9a6ad wsJ1_canEncode_9a6ad ({ frames := 0, cells := 0, slots := 0, locals := 0 } : Room) [.int p0] S out S := by
  refine va_MetF (cc := cJ1_canEncode_9a6ad) (maxL := 1) (ret := (some .boolean)) (by decide +kernel) rfl ?_
  intro p e s m args below meth c s₁ B hml hv
  obtain ⟨rfl, hP, hD, hK, hz⟩ := hv
  have hx := B.exec
  have hb := B.bytes
  have hr := B.returns
  have hts := atoms_spec (ws := wsJ1_canEncode_9a6ad) B.pre
  have hown : s.vm.findClass RJ1 = some m.cls := findClass_of_methodNamed B.named
  have hlocks := B.notSynchronized
  have hS : va_S (ha_A ad N) s.heap s.heap [] := va_S.rf
  have hl := lv_entry ([.int p0]) (n := 1) (Nat.le_of_ble_eq_true rfl)
  rw [lg_entry_eq]
  generalize (lg_sl ([.int p0]) ++ List.replicate (1 - (lg_sl ([.int p0])).length) Slot.unset).toArray = ls at hl ⊢
  have hl : lv_has ls 1 [(0, .int p0)] := hl
  refine (fun (K0 : ∀ (H : Heap) (locs : List Loc), va_P D vwCl (ha_wl cs ad kd ln N S) H → va_S (ha_A ad N) s.heap H locs → W p l e (headSpec wsJ1_canEncode_9a6ad ({ frames := 0, cells := 0, slots := 0, locals := 0 } : Room)).room s m ([.int p0] : List Value).toArray below meth c H locs 0 0 (MQ below (va_Qi (fun (r : Int32) (_ : Unit) => r = out) (fun _ => ha_H D cs ad kd ln N S) (ha_A ad N)) ([.int p0] : List Value).toArray s 0 0 (ha_A ad N)) (F0 m 0 ls [])) => K0 _ _ hP hS) ?_
  intro H locs hP hS
  have hf := ha_rt hf
  have J16 : ∀ (k0 : Int32) (H : Heap) (locs : List Loc) (ls : Array Slot), (f_J1_canEncode_9a6ad_J16 p0 k0).bind some = some out → va_P D vwCl (ha_wl cs ad kd ln N S) H → va_D (ha_A ad N) (ha_wl cs ad kd ln N S) → va_S (ha_A ad N) s.heap H locs → lv_has ls 1 [(0, .int p0)] → W p l e (headSpec wsJ1_canEncode_9a6ad ({ frames := 0, cells := 0, slots := 0, locals := 0 } : Room)).room s m ([.int p0] : List Value).toArray below meth c H locs 0 0 (MQ below (va_Qi (fun (r : Int32) (_ : Unit) => r = out) (fun _ => ha_H D cs ad kd ln N S) (ha_A ad N)) ([.int p0] : List Value).toArray s 0 0 (ha_A ad N)) (F0 m 16 ls [.int k0]) := by
    intro k0 H locs ls hf  hP hD hS hl
    unfold f_J1_canEncode_9a6ad_J16 at hf
    obtain ⟨g1, hf⟩ := ha_gds hf
    have he := Option.some.inj hf
    exact ha_retz hx hb hr hlocks hP hD hS dJ1_canEncode_9a6ad_16 g1 he rfl
  have J15 : ∀  (H : Heap) (locs : List Loc) (ls : Array Slot), (f_J1_canEncode_9a6ad_J15 p0 ).bind some = some out → va_P D vwCl (ha_wl cs ad kd ln N S) H → va_D (ha_A ad N) (ha_wl cs ad kd ln N S) → va_S (ha_A ad N) s.heap H locs → lv_has ls 1 [(0, .int p0)] → W p l e (headSpec wsJ1_canEncode_9a6ad ({ frames := 0, cells := 0, slots := 0, locals := 0 } : Room)).room s m ([.int p0] : List Value).toArray below meth c H locs 0 0 (MQ below (va_Qi (fun (r : Int32) (_ : Unit) => r = out) (fun _ => ha_H D cs ad kd ln N S) (ha_A ad N)) ([.int p0] : List Value).toArray s 0 0 (ha_A ad N)) (F0 m 15 ls []) := by
    intro  H locs ls hf  hP hD hS hl
    unfold f_J1_canEncode_9a6ad_J15 at hf
    refine lv_iconst (v := 0) hx hb dJ1_canEncode_9a6ad_15 (by decide) ?_
    exact J16 0 H locs ls hf  hP hD hS (lv_sub hl [0] rfl)
  unfold f_J1_canEncode_9a6ad at hf
  refine lv_iload_n hx hb dJ1_canEncode_9a6ad_0 rfl (lv_at hl 0 rfl) ?_
  refine lv_if_lt (tgt := 15) hx hb dJ1_canEncode_9a6ad_1 (by decide) (fun c2 => ?_) (fun c2 => ?_)
  · have hf := ha_it hf c2
    exact J15  H locs ls hf  hP hD hS (lv_sub hl [0] rfl)
  · have hf := ha_if hf c2
    refine lv_iload_n hx hb dJ1_canEncode_9a6ad_4 rfl (lv_at hl 0 rfl) ?_
    refine lv_sipush (v := 255) hx hb dJ1_canEncode_9a6ad_5 (by decide) ?_
    refine lv_icmp_gt (tgt := 15) hx hb dJ1_canEncode_9a6ad_8 (by decide) (fun c3 => ?_) (fun c3 => ?_)
    · have hf := ha_it hf c3
      exact J15  H locs ls hf  hP hD hS (lv_sub hl [0] rfl)
    · have hf := ha_if hf c3
      refine lv_iconst (v := 1) hx hb dJ1_canEncode_9a6ad_11 (by decide) ?_
      refine lv_goto (tgt := 16) hx hb dJ1_canEncode_9a6ad_12 (by decide) ?_
      exact J16 1 H locs ls hf  hP hD hS (lv_sub hl [0] rfl)

set_option maxHeartbeats 4000000 in
set_option maxRecDepth 100000 in
theorem c_J1_indexOfChar_4cfef {l : Launch} {D : va_G} {cs : Nat → ClassId} {ad adK adV : Nat → Nat} {N : List Nat} {Z : State → Prop} (hZ : ha_Zok (ha_A ad N) Z) (hN : ∀ x, xo_kd x < 999 → x ∈ N) (hX : ∀ U, Z U → xo_Z adK adV (ha_A ad N) U) {p0 : Nat} {p1 : Int32} {p2 : Int32} {p3 : Int32} {S : ha_St} {out : Int32 × ha_St} (h0 : p0 < 2) (hf : f_J1_indexOfChar_4cfef p0 p1 p2 p3 S = some out) : ha_Ci l D cs ad xo_kd xo_ln N Z yJ1_indexOfChar_4cfef wsJ1_indexOfChar_4cfef ({ frames := 0, cells := 0, slots := 0, locals := 0 } : Room) [.ref (adV p0), .int p1, .int p2, .int p3] S out.1 out.2 := by
  refine va_MetF (cc := cJ1_indexOfChar_4cfef) (maxL := 6) (ret := (some .int)) (by decide +kernel) rfl ?_
  intro p e s m args below meth c s₁ B hml hv
  obtain ⟨rfl, hP, hD, hK, hz⟩ := hv
  have hx := B.exec
  have hb := B.bytes
  have hr := B.returns
  have hts := atoms_spec (ws := wsJ1_indexOfChar_4cfef) B.pre
  have hown : s.vm.findClass RJ1 = some m.cls := findClass_of_methodNamed B.named
  have hlocks := B.notSynchronized
  have hS : va_S (ha_A ad N) s.heap s.heap [] := va_S.rf
  obtain ⟨-, hVS, hR0, hR1, hCS, hSI⟩ := id (hX s hz)
  have hl := lv_entry ([.ref (adV p0), .int p1, .int p2, .int p3]) (n := 6) (Nat.le_of_ble_eq_true rfl)
  rw [lg_entry_eq]
  generalize (lg_sl ([.ref (adV p0), .int p1, .int p2, .int p3]) ++ List.replicate (6 - (lg_sl ([.ref (adV p0), .int p1, .int p2, .int p3])).length) Slot.unset).toArray = ls at hl ⊢
  have hl : lv_has ls 6 [(0, .ref (adV p0)), (1, .int p1), (2, .int p2), (3, .int p3)] := hl
  refine (fun (K0 : ∀ (H : Heap) (locs : List Loc), va_P D vwCl (ha_wl cs ad xo_kd xo_ln N S) H → va_S (ha_A ad N) s.heap H locs → W p l e (headSpec wsJ1_indexOfChar_4cfef ({ frames := 0, cells := 0, slots := 0, locals := 0 } : Room)).room s m ([.ref (adV p0), .int p1, .int p2, .int p3] : List Value).toArray below meth c H locs 0 0 (MQ below (va_Qi (fun (r : Int32) (_ : Unit) => r = out.1) (fun _ => ha_H D cs ad xo_kd xo_ln N out.2) (ha_A ad N)) ([.ref (adV p0), .int p1, .int p2, .int p3] : List Value).toArray s 0 0 (ha_A ad N)) (F0 m 0 ls [])) => K0 _ _ hP hS) ?_
  intro H locs hP hS
  have hf := ha_rt hf
  have J31 : ∀  (S : ha_St) (H : Heap) (locs : List Loc) (ls : Array Slot), (f_J1_indexOfChar_4cfef_J31 p0 p1 p2 p3  S).bind some = some out → va_P D vwCl (ha_wl cs ad xo_kd xo_ln N S) H → va_D (ha_A ad N) (ha_wl cs ad xo_kd xo_ln N S) → va_S (ha_A ad N) s.heap H locs → lv_has ls 6 [(0, .ref (adV p0)), (1, .int p1), (2, .int p2), (3, .int p3)] → W p l e (headSpec wsJ1_indexOfChar_4cfef ({ frames := 0, cells := 0, slots := 0, locals := 0 } : Room)).room s m ([.ref (adV p0), .int p1, .int p2, .int p3] : List Value).toArray below meth c H locs 0 0 (MQ below (va_Qi (fun (r : Int32) (_ : Unit) => r = out.1) (fun _ => ha_H D cs ad xo_kd xo_ln N out.2) (ha_A ad N)) ([.ref (adV p0), .int p1, .int p2, .int p3] : List Value).toArray s 0 0 (ha_A ad N)) (F0 m 31 ls []) := by
    intro  S H locs ls hf  hP hD hS hl
    unfold f_J1_indexOfChar_4cfef_J31 at hf
    refine lv_iconst (v := (-1)) hx hb dJ1_indexOfChar_4cfef_31 (by decide) ?_
    have he := Option.some.inj hf
    exact ha_reti hx hb hr hlocks hP hD hS dJ1_indexOfChar_4cfef_32 (ha_e1 he) (ha_e2 he)
  unfold f_J1_indexOfChar_4cfef at hf
  refine lv_iload_n hx hb dJ1_indexOfChar_4cfef_0 rfl (lv_at hl 1 rfl) ?_
  refine lv_i2b (v := ((p1 : Int32).toInt8.toInt32)) hx hb dJ1_indexOfChar_4cfef_1 rfl ?_
  refine lv_topi (fun x1 ex1 => ?_)
  have hf := ha_nms hf ex1
  refine lv_istore (lv' := [(4, .int x1), (0, .ref (adV p0)), (1, .int p1), (2, .int p2), (3, .int p3)]) hx hb dJ1_indexOfChar_4cfef_2 hl (by decide) rfl (fun ls hl => ?_)
  refine lv_iload_n hx hb dJ1_indexOfChar_4cfef_4 rfl (lv_at hl 3 rfl) ?_
  refine lv_istore (lv' := [(5, .int p2), (4, .int x1), (0, .ref (adV p0)), (1, .int p1), (2, .int p2), (3, .int p3)]) hx hb dJ1_indexOfChar_4cfef_5 hl (by decide) rfl (fun ls hl => ?_)
  have key6 : ∀ (K : ((ha_St) ⊕ (Int32 × ha_St)) → Option (Int32 × ha_St)), (∀  (S : ha_St) (H : Heap) (locs : List Loc) (ls : Array Slot), K (.inl S) = some out → va_P D vwCl (ha_wl cs ad xo_kd xo_ln N S) H → va_D (ha_A ad N) (ha_wl cs ad xo_kd xo_ln N S) → va_S (ha_A ad N) s.heap H locs → lv_has ls 6 [(0, .ref (adV p0)), (1, .int p1), (2, .int p2), (3, .int p3)] → W p l e (headSpec wsJ1_indexOfChar_4cfef ({ frames := 0, cells := 0, slots := 0, locals := 0 } : Room)).room s m ([.ref (adV p0), .int p1, .int p2, .int p3] : List Value).toArray below meth c H locs 0 0 (MQ below (va_Qi (fun (r : Int32) (_ : Unit) => r = out.1) (fun _ => ha_H D cs ad xo_kd xo_ln N out.2) (ha_A ad N)) ([.ref (adV p0), .int p1, .int p2, .int p3] : List Value).toArray s 0 0 (ha_A ad N)) (F0 m 31 ls [])) → (∀ r, K (.inr r) = some out → r = out) → ∀ (n : Nat) (v4 : Int32) (v5 : Int32) (S : ha_St) (H : Heap) (locs : List Loc) (ls : Array Slot), (f_J1_indexOfChar_4cfef_L7i p0 p1 p2 p3 n (v4, v5, S)).bind K = some out → va_P D vwCl (ha_wl cs ad xo_kd xo_ln N S) H → va_D (ha_A ad N) (ha_wl cs ad xo_kd xo_ln N S) → va_S (ha_A ad N) s.heap H locs → lv_has ls 6 [(0, .ref (adV p0)), (1, .int p1), (2, .int p2), (3, .int p3), (4, .int v4), (5, .int v5)] → W p l e (headSpec wsJ1_indexOfChar_4cfef ({ frames := 0, cells := 0, slots := 0, locals := 0 } : Room)).room s m ([.ref (adV p0), .int p1, .int p2, .int p3] : List Value).toArray below meth c H locs 0 0 (MQ below (va_Qi (fun (r : Int32) (_ : Unit) => r = out.1) (fun _ => ha_H D cs ad xo_kd xo_ln N out.2) (ha_A ad N)) ([.ref (adV p0), .int p1, .int p2, .int p3] : List Value).toArray s 0 0 (ha_A ad N)) (F0 m 7 ls []) := by
    intro K hk hke n
    induction n with
    | zero =>
      intro v4 v5 S H locs ls hf
      exact absurd (show (none : Option (Int32 × ha_St)) = some out from hf) (fun h => by cases h)
    | succ n ih =>
      intro v4 v5 S H locs ls hf  hP hD hS hl
      have hf : (f_J1_indexOfChar_4cfef_L7 p0 p1 p2 p3 (f_J1_indexOfChar_4cfef_L7i p0 p1 p2 p3 n) v4 v5 S).bind K = some out := hf
      unfold f_J1_indexOfChar_4cfef_L7 at hf
      refine lv_iload hx hb dJ1_indexOfChar_4cfef_7 (lv_at hl 5 rfl) ?_
      refine lv_iload_n hx hb dJ1_indexOfChar_4cfef_9 rfl (lv_at hl 3 rfl) ?_
      refine lv_icmp_ge (tgt := 31) hx hb dJ1_indexOfChar_4cfef_10 (by decide) (fun c2 => ?_) (fun c2 => ?_)
      · have hf := ha_it hf c2
        exact hk  S H locs ls hf  hP hD hS (lv_sub hl [0, 1, 2, 3] rfl)
      · have hf := ha_if hf c2
        refine lv_aload_n hx hb dJ1_indexOfChar_4cfef_13 rfl (lv_at hl 0 rfl) ?_
        refine lv_iload hx hb dJ1_indexOfChar_4cfef_14 (lv_at hl 5 rfl) ?_
        obtain ⟨g3, hf⟩ := ha_gds hf
        refine va_tb hx hb (hVS.1 p0 h0).2.2.2 hS g3 rfl dJ1_indexOfChar_4cfef_16 ?_
        refine lv_iload hx hb dJ1_indexOfChar_4cfef_17 (lv_at hl 4 rfl) ?_
        refine lv_icmp_ne (tgt := 25) hx hb dJ1_indexOfChar_4cfef_19 (by decide) (fun c4 => ?_) (fun c4 => ?_)
        · have hf := ha_it hf c4
          obtain ⟨x5, ex5⟩ : ∃ y : Int32, y = (v5 : Int32) + 1 := ⟨_, rfl⟩
          have hf := ha_nms hf ex5
          refine lv_iinc (v := x5) (lv' := [(5, .int x5), (0, .ref (adV p0)), (1, .int p1), (2, .int p2), (3, .int p3), (4, .int v4)]) hx hb dJ1_indexOfChar_4cfef_25 hl (k := 5) rfl (by rw [ex5]; rfl) (by decide) rfl (fun ls hl => ?_)
          refine lv_goto (tgt := 7) hx hb dJ1_indexOfChar_4cfef_28 (by decide) ?_
          exact ih v4 x5 S H locs ls hf  hP hD hS (lv_sub hl [1, 2, 3, 4, 5, 0] rfl)
        · have hf := ha_if hf (fun q => q c4)
          refine lv_iload hx hb dJ1_indexOfChar_4cfef_22 (lv_at hl 5 rfl) ?_
          have he := hke _ hf
          exact ha_reti hx hb hr hlocks hP hD hS dJ1_indexOfChar_4cfef_24 (ha_e1 he) (ha_e2 he)
  refine key6 _ (fun  S H locs ls hf  hP hD hS hl => ?_) (fun r h => Option.some.inj h) ha_fu x1 p2 S H locs ls (ha_as hf)  hP hD hS (lv_sub hl [2, 3, 4, 5, 1, 0] rfl)
  have hf : (f_J1_indexOfChar_4cfef_J31 p0 p1 p2 p3  S).bind some = some out := hf
  exact J31  S H locs ls hf  hP hD hS (lv_sub hl [0, 1, 2, 3] rfl)

set_option maxHeartbeats 4000000 in
set_option maxRecDepth 100000 in
theorem c_J1_indexOf_4cfef {l : Launch} {D : va_G} {cs : Nat → ClassId} {ad adK adV : Nat → Nat} {N : List Nat} {Z : State → Prop} (hZ : ha_Zok (ha_A ad N) Z) (hN : ∀ x, xo_kd x < 999 → x ∈ N) (hX : ∀ U, Z U → xo_Z adK adV (ha_A ad N) U) {p0 : Nat} {p1 : Int32} {p2 : Int32} {p3 : Int32} {S : ha_St} {out : Int32 × ha_St} (h0 : p0 < 2) (hf : f_J1_indexOf_4cfef p0 p1 p2 p3 S = some out) : ha_Ci l D cs ad xo_kd xo_ln N Z yJ1_indexOf_4cfef wsJ1_indexOf_4cfef ({ frames := 1, cells := 0, slots := 0, locals := 25 } : Room) [.ref (adV p0), .int p1, .int p2, .int p3] S out.1 out.2 := by
  refine va_MetF (cc := cJ1_indexOf_4cfef) (maxL := 4) (ret := (some .int)) (by decide +kernel) rfl ?_
  intro p e s m args below meth c s₁ B hml hv
  obtain ⟨rfl, hP, hD, hK, hz⟩ := hv
  have hx := B.exec
  have hb := B.bytes
  have hr := B.returns
  have hts := atoms_spec (ws := wsJ1_indexOf_4cfef) B.pre
  have hown : s.vm.findClass RJ1 = some m.cls := findClass_of_methodNamed B.named
  have hlocks := B.notSynchronized
  have hS : va_S (ha_A ad N) s.heap s.heap [] := va_S.rf
  obtain ⟨-, hVS, hR0, hR1, hCS, hSI⟩ := id (hX s hz)
  have cw0 := va_cwS (R := (headSpec wsJ1_indexOf_4cfef ({ frames := 1, cells := 0, slots := 0, locals := 25 } : Room)).room) 1 hts gJ1_indexOf_4cfef_J1_canEncode_9a6ad (rm := ({ frames := 0, cells := 0, slots := 0, locals := 0 } : Room)) (mc := 0) (ms := 0) rfl rfl rfl (by decide +kernel) ⟨Nat.le_of_ble_eq_true rfl, Nat.le_of_ble_eq_true rfl⟩
  have cw1 := hts (.methodLink RJ1 92 Lib.Math.max.name) (by decide +kernel)
  have cw2 := hts (.static Lib.Math.max.name) (by decide +kernel)
  have cw3 := hts (.initialized "java/lang/Math") (by decide +kernel)
  have cw4 := hts (.code Lib.Math.max.name Lib.Math.max.code 2 (some .int)) (by decide +kernel)
  have cw5 := hts (.methodLink RJ1 38 Lib.Math.min.name) (by decide +kernel)
  have cw6 := hts (.static Lib.Math.min.name) (by decide +kernel)
  have cw7 := hts (.code Lib.Math.min.name Lib.Math.min.code 2 (some .int)) (by decide +kernel)
  have cw8 := va_cwS (R := (headSpec wsJ1_indexOf_4cfef ({ frames := 1, cells := 0, slots := 0, locals := 25 } : Room)).room) 4 hts gJ1_indexOf_4cfef_J1_indexOfChar_4cfef (rm := ({ frames := 0, cells := 0, slots := 0, locals := 0 } : Room)) (mc := 0) (ms := 0) rfl rfl rfl (by decide +kernel) ⟨Nat.le_of_ble_eq_true rfl, Nat.le_of_ble_eq_true rfl⟩
  have hl := lv_entry ([.ref (adV p0), .int p1, .int p2, .int p3]) (n := 4) (Nat.le_of_ble_eq_true rfl)
  rw [lg_entry_eq]
  generalize (lg_sl ([.ref (adV p0), .int p1, .int p2, .int p3]) ++ List.replicate (4 - (lg_sl ([.ref (adV p0), .int p1, .int p2, .int p3])).length) Slot.unset).toArray = ls at hl ⊢
  have hl : lv_has ls 4 [(0, .ref (adV p0)), (1, .int p1), (2, .int p2), (3, .int p3)] := hl
  refine (fun (K0 : ∀ (H : Heap) (locs : List Loc), va_P D vwCl (ha_wl cs ad xo_kd xo_ln N S) H → va_S (ha_A ad N) s.heap H locs → W p l e (headSpec wsJ1_indexOf_4cfef ({ frames := 1, cells := 0, slots := 0, locals := 25 } : Room)).room s m ([.ref (adV p0), .int p1, .int p2, .int p3] : List Value).toArray below meth c H locs 0 0 (MQ below (va_Qi (fun (r : Int32) (_ : Unit) => r = out.1) (fun _ => ha_H D cs ad xo_kd xo_ln N out.2) (ha_A ad N)) ([.ref (adV p0), .int p1, .int p2, .int p3] : List Value).toArray s 0 0 (ha_A ad N)) (F0 m 0 ls [])) => K0 _ _ hP hS) ?_
  intro H locs hP hS
  have hf := ha_rt hf
  unfold f_J1_indexOf_4cfef at hf
  refine lv_iload_n hx hb dJ1_indexOf_4cfef_0 rfl (lv_at hl 1 rfl) ?_
  obtain ⟨z1, wz1, hf⟩ := ha_bds hf
  refine ha_callSi (As := [.int p1]) (rest := []) hZ ⟨hx, hb, hml, hown, hts⟩ hK hz hP hD hS (c_J1_canEncode_9a6ad   wz1) cw0 rfl hl.1 rfl (Nat.le_of_ble_eq_true rfl) dJ1_indexOf_4cfef_1 ⟨Nat.le_of_ble_eq_true rfl, Nat.le_of_ble_eq_true rfl⟩ (fun H locs hP hD hS => ?_)
  refine lv_if_ne (tgt := 9) hx hb dJ1_indexOf_4cfef_4 (by decide) (fun c2 => ?_) (fun c2 => ?_)
  · have hf := ha_it hf c2
    refine lv_iload_n hx hb dJ1_indexOf_4cfef_9 rfl (lv_at hl 2 rfl) ?_
    refine lv_iconst (v := 0) hx hb dJ1_indexOf_4cfef_10 (by decide) ?_
    refine va_mmax hx hb (hml.trans hl.1.symm) hown cw1 cw2 cw3 cw4 (by decide) (Nat.le_of_ble_eq_true rfl) (Nat.zero_le _) (Nat.zero_le _) dJ1_indexOf_4cfef_11 ?_
    refine lv_topi (fun x3 ex3 => ?_)
    have hf := ha_nms hf ex3
    refine lv_istore_n (lv' := [(2, .int x3), (0, .ref (adV p0)), (1, .int p1), (3, .int p3)]) hx hb dJ1_indexOf_4cfef_14 rfl hl (by decide) rfl (fun ls hl => ?_)
    refine lv_iload_n hx hb dJ1_indexOf_4cfef_15 rfl (lv_at hl 3 rfl) ?_
    refine lv_aload_n hx hb dJ1_indexOf_4cfef_16 rfl (lv_at hl 1 rfl) ?_
    refine va_tlen (v := nI (xo_sl p0)) hx hb (hVS.1 p0 h0).2.2.2 hS rfl dJ1_indexOf_4cfef_17 ?_
    refine va_mmin hx hb (hml.trans hl.1.symm) hown cw5 cw6 cw3 cw7 (by decide) (Nat.le_of_ble_eq_true rfl) (Nat.zero_le _) (Nat.zero_le _) dJ1_indexOf_4cfef_18 ?_
    refine lv_topi (fun x4 ex4 => ?_)
    have hf := ha_nms hf ex4
    refine lv_istore_n (lv' := [(3, .int x4), (2, .int x3), (0, .ref (adV p0)), (1, .int p1)]) hx hb dJ1_indexOf_4cfef_21 rfl hl (by decide) rfl (fun ls hl => ?_)
    refine lv_iload_n hx hb dJ1_indexOf_4cfef_22 rfl (lv_at hl 1 rfl) ?_
    refine lv_iload_n hx hb dJ1_indexOf_4cfef_23 rfl (lv_at hl 0 rfl) ?_
    refine lv_icmp_lt (tgt := 29) hx hb dJ1_indexOf_4cfef_24 (by decide) (fun c5 => ?_) (fun c5 => ?_)
    · have hf := ha_it hf c5
      refine lv_aload_n hx hb dJ1_indexOf_4cfef_29 rfl (lv_at hl 2 rfl) ?_
      refine lv_iload_n hx hb dJ1_indexOf_4cfef_30 rfl (lv_at hl 3 rfl) ?_
      refine lv_iload_n hx hb dJ1_indexOf_4cfef_31 rfl (lv_at hl 1 rfl) ?_
      refine lv_iload_n hx hb dJ1_indexOf_4cfef_32 rfl (lv_at hl 0 rfl) ?_
      obtain ⟨z6, wz6, hf⟩ := ha_bds hf
      refine ha_callSi (As := [.ref (adV p0), .int p1, .int x3, .int x4]) (rest := []) hZ ⟨hx, hb, hml, hown, hts⟩ hK hz hP hD hS (c_J1_indexOfChar_4cfef hZ hN hX h0 wz6) cw8 rfl hl.1 rfl (Nat.le_of_ble_eq_true rfl) dJ1_indexOf_4cfef_33 ⟨Nat.le_of_ble_eq_true rfl, Nat.le_of_ble_eq_true rfl⟩ (fun H locs hP hD hS => ?_)
      have he := Option.some.inj hf
      exact ha_reti hx hb hr hlocks hP hD hS dJ1_indexOf_4cfef_36 (ha_e1 he) (ha_e2 he)
    · have hf := ha_if hf c5
      refine lv_iconst (v := (-1)) hx hb dJ1_indexOf_4cfef_27 (by decide) ?_
      have he := Option.some.inj hf
      exact ha_reti hx hb hr hlocks hP hD hS dJ1_indexOf_4cfef_28 (ha_e1 he) (ha_e2 he)
  · have hf := ha_if hf (fun q => q c2)
    refine lv_iconst (v := (-1)) hx hb dJ1_indexOf_4cfef_7 (by decide) ?_
    have he := Option.some.inj hf
    exact ha_reti hx hb hr hlocks hP hD hS dJ1_indexOf_4cfef_8 (ha_e1 he) (ha_e2 he)

set_option maxHeartbeats 4000000 in
set_option maxRecDepth 100000 in
theorem c_J0_indexOf_7cf53 {l : Launch} {D : va_G} {cs : Nat → ClassId} {ad adK adV : Nat → Nat} {N : List Nat} {Z : State → Prop} (hZ : ha_Zok (ha_A ad N) Z) (hN : ∀ x, xo_kd x < 999 → x ∈ N) (hX : ∀ U, Z U → xo_Z adK adV (ha_A ad N) U) {p0 : Nat} {p1 : Int32} {p2 : Int32} {S : ha_St} {out : Int32 × ha_St} (h0 : p0 < 2) (hf : f_J0_indexOf_7cf53 p0 p1 p2 S = some out) : ha_Ci l D cs ad xo_kd xo_ln N Z yJ0_indexOf_7cf53 wsJ0_indexOf_7cf53 ({ frames := 2, cells := 0, slots := 0, locals := 48 } : Room) [.ref (adK p0), .int p1, .int p2] S out.1 out.2 := by
  refine va_MetF (cc := cJ0_indexOf_7cf53) (maxL := 3) (ret := (some .int)) (by decide +kernel) rfl ?_
  intro p e s m args below meth c s₁ B hml hv
  obtain ⟨rfl, hP, hD, hK, hz⟩ := hv
  have hx := B.exec
  have hb := B.bytes
  have hr := B.returns
  have hts := atoms_spec (ws := wsJ0_indexOf_7cf53) B.pre
  have hown : s.vm.findClass RJ0 = some m.cls := findClass_of_methodNamed B.named
  have hlocks := B.notSynchronized
  have hS : va_S (ha_A ad N) s.heap s.heap [] := va_S.rf
  obtain ⟨-, hVS, hR0, hR1, hCS, hSI⟩ := id (hX s hz)
  have cw0 := cwV (R := (headSpec wsJ0_indexOf_7cf53 ({ frames := 2, cells := 0, slots := 0, locals := 48 } : Room)).room) 0 hts gJ0_indexOf_7cf53_J0_isLatin1_aae02 (rm := ({ frames := 0, cells := 0, slots := 0, locals := 0 } : Room)) (mc := 0) (ms := 0) rfl rfl rfl (by decide +kernel) ⟨Nat.le_of_ble_eq_true rfl, Nat.le_of_ble_eq_true rfl⟩
  have fl9 := hts (.fieldLink RJ0 9 "java/lang/String" "value" "[B") (by decide +kernel)
  have cw2 := cwV (R := (headSpec wsJ0_indexOf_7cf53 ({ frames := 2, cells := 0, slots := 0, locals := 48 } : Room)).room) 0 hts gJ0_indexOf_7cf53_J0_length_8abf5 (rm := ({ frames := 1, cells := 0, slots := 0, locals := 20 } : Room)) (mc := 0) (ms := 0) rfl rfl rfl (by decide +kernel) ⟨Nat.le_of_ble_eq_true rfl, Nat.le_of_ble_eq_true rfl⟩
  have cw3 := va_cwS (R := (headSpec wsJ0_indexOf_7cf53 ({ frames := 2, cells := 0, slots := 0, locals := 48 } : Room)).room) 4 hts gJ0_indexOf_7cf53_J1_indexOf_4cfef (rm := ({ frames := 1, cells := 0, slots := 0, locals := 25 } : Room)) (mc := 0) (ms := 0) rfl rfl rfl (by decide +kernel) ⟨Nat.le_of_ble_eq_true rfl, Nat.le_of_ble_eq_true rfl⟩
  have hl := lv_entry ([.ref (adK p0), .int p1, .int p2]) (n := 3) (Nat.le_of_ble_eq_true rfl)
  rw [lg_entry_eq]
  generalize (lg_sl ([.ref (adK p0), .int p1, .int p2]) ++ List.replicate (3 - (lg_sl ([.ref (adK p0), .int p1, .int p2])).length) Slot.unset).toArray = ls at hl ⊢
  have hl : lv_has ls 3 [(0, .ref (adK p0)), (1, .int p1), (2, .int p2)] := hl
  refine (fun (K0 : ∀ (H : Heap) (locs : List Loc), va_P D vwCl (ha_wl cs ad xo_kd xo_ln N S) H → va_S (ha_A ad N) s.heap H locs → W p l e (headSpec wsJ0_indexOf_7cf53 ({ frames := 2, cells := 0, slots := 0, locals := 48 } : Room)).room s m ([.ref (adK p0), .int p1, .int p2] : List Value).toArray below meth c H locs 0 0 (MQ below (va_Qi (fun (r : Int32) (_ : Unit) => r = out.1) (fun _ => ha_H D cs ad xo_kd xo_ln N out.2) (ha_A ad N)) ([.ref (adK p0), .int p1, .int p2] : List Value).toArray s 0 0 (ha_A ad N)) (F0 m 0 ls [])) => K0 _ _ hP hS) ?_
  intro H locs hP hS
  have hf := ha_rt hf
  have J36 : ∀ (k0 : Int32) (S : ha_St) (H : Heap) (locs : List Loc) (ls : Array Slot), (f_J0_indexOf_7cf53_J36 p0 p1 p2 k0 S).bind some = some out → va_P D vwCl (ha_wl cs ad xo_kd xo_ln N S) H → va_D (ha_A ad N) (ha_wl cs ad xo_kd xo_ln N S) → va_S (ha_A ad N) s.heap H locs → lv_has ls 3 [(0, .ref (adK p0)), (1, .int p1), (2, .int p2)] → W p l e (headSpec wsJ0_indexOf_7cf53 ({ frames := 2, cells := 0, slots := 0, locals := 48 } : Room)).room s m ([.ref (adK p0), .int p1, .int p2] : List Value).toArray below meth c H locs 0 0 (MQ below (va_Qi (fun (r : Int32) (_ : Unit) => r = out.1) (fun _ => ha_H D cs ad xo_kd xo_ln N out.2) (ha_A ad N)) ([.ref (adK p0), .int p1, .int p2] : List Value).toArray s 0 0 (ha_A ad N)) (F0 m 36 ls [.int k0]) := by
    intro k0 S H locs ls hf  hP hD hS hl
    unfold f_J0_indexOf_7cf53_J36 at hf
    have he := Option.some.inj hf
    exact ha_reti hx hb hr hlocks hP hD hS dJ0_indexOf_7cf53_36 (ha_e1 he) (ha_e2 he)
  unfold f_J0_indexOf_7cf53 at hf
  refine lv_aload_n hx hb dJ0_indexOf_7cf53_0 rfl (lv_at hl 0 rfl) ?_
  obtain ⟨z1, wz1, hf⟩ := ha_bds hf
  refine ha_callRi (As := []) (rest := []) hZ ⟨hx, hb, hml, hown, hts⟩ hK hz hP hD hS (c_J0_isLatin1_aae02 hZ hN hX h0 wz1) cw0 (vk_recv hVS h0 hS) rfl hl.1 rfl (Nat.le_of_ble_eq_true rfl) dJ0_indexOf_7cf53_1 ⟨Nat.le_of_ble_eq_true rfl, Nat.le_of_ble_eq_true rfl⟩ (fun H locs hP hD hS => ?_)
  refine lv_if_eq (tgt := 23) hx hb dJ0_indexOf_7cf53_4 (by decide) (fun c2 => ?_) (fun c2 => ?_)
  · have hf := ha_it hf c2
    exact absurd (show (none : Option (Int32 × ha_St)) = some out from hf) (fun h => by cases h)
  · have hf := ha_if hf c2
    refine lv_aload_n hx hb dJ0_indexOf_7cf53_7 rfl (lv_at hl 0 rfl) ?_
    refine vk_getf hx hb (hVS.1 p0 h0).2.2.1 hS hown fl9 (fun _ h => h) dJ0_indexOf_7cf53_8 ?_
    refine lv_iload_n hx hb dJ0_indexOf_7cf53_11 rfl (lv_at hl 1 rfl) ?_
    refine lv_iload_n hx hb dJ0_indexOf_7cf53_12 rfl (lv_at hl 2 rfl) ?_
    refine lv_aload_n hx hb dJ0_indexOf_7cf53_13 rfl (lv_at hl 0 rfl) ?_
    obtain ⟨z3, wz3, hf⟩ := ha_bds hf
    refine ha_callRi (As := []) (rest := [.int p2, .int p1, .ref (adV p0)]) hZ ⟨hx, hb, hml, hown, hts⟩ hK hz hP hD hS (c_J0_length_8abf5 hZ hN hX h0 wz3) cw2 (vk_recv hVS h0 hS) rfl hl.1 rfl (Nat.le_of_ble_eq_true rfl) dJ0_indexOf_7cf53_14 ⟨Nat.le_of_ble_eq_true rfl, Nat.le_of_ble_eq_true rfl⟩ (fun H locs hP hD hS => ?_)
    obtain ⟨z4, wz4, hf⟩ := ha_bds hf
    refine ha_callSi (As := [.ref (adV p0), .int p1, .int p2, .int z3.1]) (rest := []) hZ ⟨hx, hb, hml, hown, hts⟩ hK hz hP hD hS (c_J1_indexOf_4cfef hZ hN hX h0 wz4) cw3 rfl hl.1 rfl (Nat.le_of_ble_eq_true rfl) dJ0_indexOf_7cf53_17 ⟨Nat.le_of_ble_eq_true rfl, Nat.le_of_ble_eq_true rfl⟩ (fun H locs hP hD hS => ?_)
    refine lv_goto (tgt := 36) hx hb dJ0_indexOf_7cf53_20 (by decide) ?_
    exact J36 z4.1 z4.2 H locs ls hf  hP hD hS (lv_sub hl [0, 1, 2] rfl)

set_option maxHeartbeats 4000000 in
set_option maxRecDepth 100000 in
theorem c_J0_indexOf_0f7a4 {l : Launch} {D : va_G} {cs : Nat → ClassId} {ad adK adV : Nat → Nat} {N : List Nat} {Z : State → Prop} (hZ : ha_Zok (ha_A ad N) Z) (hN : ∀ x, xo_kd x < 999 → x ∈ N) (hX : ∀ U, Z U → xo_Z adK adV (ha_A ad N) U) {p0 : Nat} {p1 : Int32} {S : ha_St} {out : Int32 × ha_St} (h0 : p0 < 2) (hf : f_J0_indexOf_0f7a4 p0 p1 S = some out) : ha_Ci l D cs ad xo_kd xo_ln N Z yJ0_indexOf_0f7a4 wsJ0_indexOf_0f7a4 ({ frames := 3, cells := 0, slots := 0, locals := 70 } : Room) [.ref (adK p0), .int p1] S out.1 out.2 := by
  refine va_MetF (cc := cJ0_indexOf_0f7a4) (maxL := 2) (ret := (some .int)) (by decide +kernel) rfl ?_
  intro p e s m args below meth c s₁ B hml hv
  obtain ⟨rfl, hP, hD, hK, hz⟩ := hv
  have hx := B.exec
  have hb := B.bytes
  have hr := B.returns
  have hts := atoms_spec (ws := wsJ0_indexOf_0f7a4) B.pre
  have hown : s.vm.findClass RJ0 = some m.cls := findClass_of_methodNamed B.named
  have hlocks := B.notSynchronized
  have hS : va_S (ha_A ad N) s.heap s.heap [] := va_S.rf
  obtain ⟨-, hVS, hR0, hR1, hCS, hSI⟩ := id (hX s hz)
  have cw0 := cwV (R := (headSpec wsJ0_indexOf_0f7a4 ({ frames := 3, cells := 0, slots := 0, locals := 70 } : Room)).room) 2 hts gJ0_indexOf_0f7a4_J0_indexOf_7cf53 (rm := ({ frames := 2, cells := 0, slots := 0, locals := 48 } : Room)) (mc := 0) (ms := 0) rfl rfl rfl (by decide +kernel) ⟨Nat.le_of_ble_eq_true rfl, Nat.le_of_ble_eq_true rfl⟩
  have hl := lv_entry ([.ref (adK p0), .int p1]) (n := 2) (Nat.le_of_ble_eq_true rfl)
  rw [lg_entry_eq]
  generalize (lg_sl ([.ref (adK p0), .int p1]) ++ List.replicate (2 - (lg_sl ([.ref (adK p0), .int p1])).length) Slot.unset).toArray = ls at hl ⊢
  have hl : lv_has ls 2 [(0, .ref (adK p0)), (1, .int p1)] := hl
  refine (fun (K0 : ∀ (H : Heap) (locs : List Loc), va_P D vwCl (ha_wl cs ad xo_kd xo_ln N S) H → va_S (ha_A ad N) s.heap H locs → W p l e (headSpec wsJ0_indexOf_0f7a4 ({ frames := 3, cells := 0, slots := 0, locals := 70 } : Room)).room s m ([.ref (adK p0), .int p1] : List Value).toArray below meth c H locs 0 0 (MQ below (va_Qi (fun (r : Int32) (_ : Unit) => r = out.1) (fun _ => ha_H D cs ad xo_kd xo_ln N out.2) (ha_A ad N)) ([.ref (adK p0), .int p1] : List Value).toArray s 0 0 (ha_A ad N)) (F0 m 0 ls [])) => K0 _ _ hP hS) ?_
  intro H locs hP hS
  have hf := ha_rt hf
  unfold f_J0_indexOf_0f7a4 at hf
  refine lv_aload_n hx hb dJ0_indexOf_0f7a4_0 rfl (lv_at hl 0 rfl) ?_
  refine lv_iload_n hx hb dJ0_indexOf_0f7a4_1 rfl (lv_at hl 1 rfl) ?_
  refine lv_iconst (v := 0) hx hb dJ0_indexOf_0f7a4_2 (by decide) ?_
  obtain ⟨z1, wz1, hf⟩ := ha_bds hf
  refine ha_callRi (As := [.int p1, .int 0]) (rest := []) hZ ⟨hx, hb, hml, hown, hts⟩ hK hz hP hD hS (c_J0_indexOf_7cf53 hZ hN hX h0 wz1) cw0 (vk_recv hVS h0 hS) rfl hl.1 rfl (Nat.le_of_ble_eq_true rfl) dJ0_indexOf_0f7a4_3 ⟨Nat.le_of_ble_eq_true rfl, Nat.le_of_ble_eq_true rfl⟩ (fun H locs hP hD hS => ?_)
  have he := Option.some.inj hf
  exact ha_reti hx hb hr hlocks hP hD hS dJ0_indexOf_0f7a4_6 (ha_e1 he) (ha_e2 he)

set_option maxHeartbeats 4000000 in
set_option maxRecDepth 100000 in
theorem c_X9_step {l : Launch} {D : va_G} {cs : Nat → ClassId} {ad adK adV : Nat → Nat} {N : List Nat} {Z : State → Prop} (hZ : ha_Zok (ha_A ad N) Z) (hN : ∀ x, xo_kd x < 999 → x ∈ N) (hX : ∀ U, Z U → xo_Z adK adV (ha_A ad N) U) {p0 : Nat} {S : ha_St} {out : ha_St} (h0 : xo_kd p0 = 9) (hf : f_X9_step p0 S = some out) : ha_Cv l D cs ad xo_kd xo_ln N Z yX9_step wsX9_step ({ frames := 6, cells := 0, slots := 0, locals := 130 } : Room) [.ref (ad p0)] S out := by
  refine Met.ofW (cc := cX9_step) (maxL := 3) (ret := none) (by decide +kernel) rfl ?_
  intro p e s m args below meth c s₁ B hml hv
  obtain ⟨rfl, hP, hD, hK, hz⟩ := hv
  have hx := B.exec
  have hb := B.bytes
  have hr := B.returns
  have hts := atoms_spec (ws := wsX9_step) B.pre
  have hown : s.vm.findClass RX9 = some m.cls := findClass_of_methodNamed B.named
  have hlocks := B.notSynchronized
  have hS : va_S (ha_A ad N) s.heap s.heap [] := va_S.rf
  have hi9 : ∀ w ∈ wsX90, w ∈ wsX9_step := fun w h => List.mem_cons_of_mem _ (List.mem_append_right _ h)
  have q65 : ha_Fk s ([.ref (ad p0)] : List Value).toArray RX9 65 9 4 0 := ⟨RX9, TX9, 8, wsX9_step, rfl, by decide, by decide, rfl, rfl, hts, hi9, hts (.fieldLink RX9 65 "HillArms$Reader" "at" "I") (by decide +kernel)⟩
  have q33 : ha_Fk s ([.ref (ad p0)] : List Value).toArray RX9 33 9 5 0 := ⟨RX9, TX9, 8, wsX9_step, rfl, by decide, by decide, rfl, rfl, hts, hi9, hts (.fieldLink RX9 33 "HillArms$Reader" "behind" "I") (by decide +kernel)⟩
  have q9 : ha_Fk s ([.ref (ad p0)] : List Value).toArray RX9 9 9 0 1 := ⟨RX9, TX9, 8, wsX9_step, rfl, by decide, by decide, rfl, rfl, hts, hi9, hts (.fieldLink RX9 9 "HillArms$Reader" "bytes" "[I") (by decide +kernel)⟩
  have q29 : ha_Fk s ([.ref (ad p0)] : List Value).toArray RX9 29 9 1 0 := ⟨RX9, TX9, 8, wsX9_step, rfl, by decide, by decide, rfl, rfl, hts, hi9, hts (.fieldLink RX9 29 "HillArms$Reader" "size" "I") (by decide +kernel)⟩
  have r45 : ha_Fp s ([.ref (ad p0)] : List Value).toArray RX9 45 9 3 0 .int := ⟨RX9, TX9, 8, wsX9_step, tyX9, rfl, by decide, by decide, rfl, rfl, hts, hi9, hts (.fieldLink RX9 45 "HillArms$Reader" "token" "I") (by decide +kernel), tyX9_ok, nmX9, rfl, by decide +kernel⟩
  have r33 : ha_Fp s ([.ref (ad p0)] : List Value).toArray RX9 33 9 5 0 .int := ⟨RX9, TX9, 8, wsX9_step, tyX9, rfl, by decide, by decide, rfl, rfl, hts, hi9, hts (.fieldLink RX9 33 "HillArms$Reader" "behind" "I") (by decide +kernel), tyX9_ok, nmX9, rfl, by decide +kernel⟩
  have r65 : ha_Fp s ([.ref (ad p0)] : List Value).toArray RX9 65 9 4 0 .int := ⟨RX9, TX9, 8, wsX9_step, tyX9, rfl, by decide, by decide, rfl, rfl, hts, hi9, hts (.fieldLink RX9 65 "HillArms$Reader" "at" "I") (by decide +kernel), tyX9_ok, nmX9, rfl, by decide +kernel⟩
  obtain ⟨-, hVS, hR0, hR1, hCS, hSI⟩ := id (hX s hz)
  have cw0 := cwV (R := (headSpec wsX9_step ({ frames := 6, cells := 0, slots := 0, locals := 130 } : Room)).room) 1 hts gX9_step_J0_indexOf_0f7a4 (rm := ({ frames := 3, cells := 0, slots := 0, locals := 70 } : Room)) (mc := 0) (ms := 0) rfl rfl rfl (by decide +kernel) ⟨Nat.le_of_ble_eq_true rfl, Nat.le_of_ble_eq_true rfl⟩
  have cw1 := cwV (R := (headSpec wsX9_step ({ frames := 6, cells := 0, slots := 0, locals := 130 } : Room)).room) 0 hts gX9_step_X9_wordCode (rm := ({ frames := 5, cells := 0, slots := 0, locals := 108 } : Room)) (mc := 0) (ms := 0) rfl rfl rfl (by decide +kernel) ⟨Nat.le_of_ble_eq_true rfl, Nat.le_of_ble_eq_true rfl⟩
  have cw2 := cwV (R := (headSpec wsX9_step ({ frames := 6, cells := 0, slots := 0, locals := 130 } : Room)).room) 0 hts gX9_step_X9_numberCode (rm := ({ frames := 1, cells := 0, slots := 0, locals := 20 } : Room)) (mc := 0) (ms := 0) rfl rfl rfl (by decide +kernel) ⟨Nat.le_of_ble_eq_true rfl, Nat.le_of_ble_eq_true rfl⟩
  have cw3 := hts (.methodLink RX9 90 Lib.Math.min.name) (by decide +kernel)
  have cw4 := hts (.static Lib.Math.min.name) (by decide +kernel)
  have cw5 := hts (.initialized "java/lang/Math") (by decide +kernel)
  have cw6 := hts (.code Lib.Math.min.name Lib.Math.min.code 2 (some .int)) (by decide +kernel)
  have hl := lv_entry ([.ref (ad p0)]) (n := 3) (Nat.le_of_ble_eq_true rfl)
  rw [lg_entry_eq]
  generalize (lg_sl ([.ref (ad p0)]) ++ List.replicate (3 - (lg_sl ([.ref (ad p0)])).length) Slot.unset).toArray = ls at hl ⊢
  have hl : lv_has ls 3 [(0, .ref (ad p0))] := hl
  refine (fun (K0 : ∀ (H : Heap) (locs : List Loc), va_P D vwCl (ha_wl cs ad xo_kd xo_ln N S) H → va_S (ha_A ad N) s.heap H locs → W p l e (headSpec wsX9_step ({ frames := 6, cells := 0, slots := 0, locals := 130 } : Room)).room s m ([.ref (ad p0)] : List Value).toArray below meth c H locs 0 0 (MQ below (va_Qv (fun (_ : Unit) => True) (fun _ => ha_H D cs ad xo_kd xo_ln N out) (ha_A ad N)) ([.ref (ad p0)] : List Value).toArray s 0 0 (ha_A ad N)) (F0 m 0 ls [])) => K0 _ _ hP hS) ?_
  intro H locs hP hS
  have hf := ha_rt hf
  have J221 : ∀ (k0 : Nat) (k1 : Int32) (S : ha_St) (H : Heap) (locs : List Loc) (ls : Array Slot), (f_X9_step_J221 p0 k0 k1 S).bind some = some out → xo_kd k0 = 9 → va_P D vwCl (ha_wl cs ad xo_kd xo_ln N S) H → va_D (ha_A ad N) (ha_wl cs ad xo_kd xo_ln N S) → va_S (ha_A ad N) s.heap H locs → lv_has ls 3 [(0, .ref (ad p0))] → W p l e (headSpec wsX9_step ({ frames := 6, cells := 0, slots := 0, locals := 130 } : Room)).room s m ([.ref (ad p0)] : List Value).toArray below meth c H locs 0 0 (MQ below (va_Qv (fun (_ : Unit) => True) (fun _ => ha_H D cs ad xo_kd xo_ln N out) (ha_A ad N)) ([.ref (ad p0)] : List Value).toArray s 0 0 (ha_A ad N)) (F0 m 221 ls [.int k1, .ref (ad k0)]) := by
    intro k0 k1 S H locs ls hf hk0 hP hD hS hl
    unfold f_X9_step_J221 at hf
    refine ha_puti hx hb hown hK hP hD hS r45 hN hk0 dX9_step_221 (fun S1 H locs eS1 hP hD hS => ?_)
    have hf := ha_nms hf eS1
    refine lv_aload_n hx hb dX9_step_224 rfl (lv_at hl 0 rfl) ?_
    refine lv_aload_n hx hb dX9_step_225 rfl (lv_at hl 0 rfl) ?_
    refine ha_geti hx hb hown hK hP q65 hN h0 dX9_step_226 ?_
    refine lv_iconst (v := 1) hx hb dX9_step_229 (by decide) ?_
    refine lv_iadd hx hb dX9_step_230 ?_
    refine ha_puti hx hb hown hK hP hD hS r33 hN h0 dX9_step_231 (fun S2 H locs eS2 hP hD hS => ?_)
    have hf := ha_nms hf eS2
    have he := Option.some.inj hf
    exact ha_retv hx hb hr hlocks hP hD hS dX9_step_234 he
  have J188 : ∀ (k0 : Nat) (k1 : Int32) (S : ha_St) (H : Heap) (locs : List Loc) (ls : Array Slot), (f_X9_step_J188 p0 k0 k1 S).bind some = some out → xo_kd k0 = 9 → va_P D vwCl (ha_wl cs ad xo_kd xo_ln N S) H → va_D (ha_A ad N) (ha_wl cs ad xo_kd xo_ln N S) → va_S (ha_A ad N) s.heap H locs → lv_has ls 3 [(0, .ref (ad p0))] → W p l e (headSpec wsX9_step ({ frames := 6, cells := 0, slots := 0, locals := 130 } : Room)).room s m ([.ref (ad p0)] : List Value).toArray below meth c H locs 0 0 (MQ below (va_Qv (fun (_ : Unit) => True) (fun _ => ha_H D cs ad xo_kd xo_ln N out) (ha_A ad N)) ([.ref (ad p0)] : List Value).toArray s 0 0 (ha_A ad N)) (F0 m 188 ls [.int k1, .ref (ad k0)]) := by
    intro k0 k1 S H locs ls hf hk0 hP hD hS hl
    unfold f_X9_step_J188 at hf
    refine ha_puti hx hb hown hK hP hD hS r45 hN hk0 dX9_step_188 (fun S3 H locs eS3 hP hD hS => ?_)
    have hf := ha_nms hf eS3
    have he := Option.some.inj hf
    exact ha_retv hx hb hr hlocks hP hD hS dX9_step_191 he
  have J150 : ∀  (S : ha_St) (H : Heap) (locs : List Loc) (ls : Array Slot), (f_X9_step_J150 p0  S).bind some = some out → va_P D vwCl (ha_wl cs ad xo_kd xo_ln N S) H → va_D (ha_A ad N) (ha_wl cs ad xo_kd xo_ln N S) → va_S (ha_A ad N) s.heap H locs → lv_has ls 3 [(0, .ref (ad p0))] → W p l e (headSpec wsX9_step ({ frames := 6, cells := 0, slots := 0, locals := 130 } : Room)).room s m ([.ref (ad p0)] : List Value).toArray below meth c H locs 0 0 (MQ below (va_Qv (fun (_ : Unit) => True) (fun _ => ha_H D cs ad xo_kd xo_ln N out) (ha_A ad N)) ([.ref (ad p0)] : List Value).toArray s 0 0 (ha_A ad N)) (F0 m 150 ls []) := by
    intro  S H locs ls hf  hP hD hS hl
    unfold f_X9_step_J150 at hf
    refine lv_aload_n hx hb dX9_step_150 rfl (lv_at hl 0 rfl) ?_
    refine ha_geti hx hb hown hK hP q33 hN h0 dX9_step_151 ?_
    refine lv_aload_n hx hb dX9_step_154 rfl (lv_at hl 0 rfl) ?_
    refine ha_geti hx hb hown hK hP q65 hN h0 dX9_step_155 ?_
    refine lv_icmp_le (tgt := 192) hx hb dX9_step_158 (by decide) (fun c4 => ?_) (fun c4 => ?_)
    · have hf := ha_it hf c4
      refine va_ldcS hx hb hown hR0 dX9_step_192 ?_
      refine lv_aload_n hx hb dX9_step_194 rfl (lv_at hl 0 rfl) ?_
      obtain ⟨r5, wr5, hf⟩ := ha_bds hf
      obtain ⟨wr5, hr5⟩ := ha_rf_some wr5
      refine ha_getr hx hb hown hK hP q9 hN h0 wr5 dX9_step_195 ?_
      refine lv_aload_n hx hb dX9_step_198 rfl (lv_at hl 0 rfl) ?_
      refine ha_geti hx hb hown hK hP q65 hN h0 dX9_step_199 ?_
      obtain ⟨g6, hf⟩ := ha_gds hf
      refine ha_iald hx hb hK hP hN hr5 g6 dX9_step_202 ?_
      refine lv_i2c (v := ((((ha_gA S r5 ((ha_gI S p0 4) : Int32).toNatClampNeg) : Int32).toUInt32 % 65536).toInt32)) hx hb dX9_step_203 rfl ?_
      obtain ⟨z7, wz7, hf⟩ := ha_bds hf
      refine ha_callRi (As := [.int (((((ha_gA S r5 ((ha_gI S p0 4) : Int32).toNatClampNeg) : Int32).toUInt32 % 65536).toInt32))]) (rest := []) hZ ⟨hx, hb, hml, hown, hts⟩ hK hz hP hD hS (c_J0_indexOf_0f7a4 hZ hN hX (show 0 < 2 by decide) wz7) cw0 (vk_recv hVS (show 0 < 2 by decide) hS) rfl hl.1 rfl (Nat.le_of_ble_eq_true rfl) dX9_step_204 ⟨Nat.le_of_ble_eq_true rfl, Nat.le_of_ble_eq_true rfl⟩ (fun H locs hP hD hS => ?_)
      refine lv_istore_n (lv' := [(2, .int z7.1), (0, .ref (ad p0))]) hx hb dX9_step_207 rfl hl (by decide) rfl (fun ls hl => ?_)
      refine lv_aload_n hx hb dX9_step_208 rfl (lv_at hl 1 rfl) ?_
      refine lv_iload_n hx hb dX9_step_209 rfl (lv_at hl 0 rfl) ?_
      refine lv_if_ge (tgt := 217) hx hb dX9_step_210 (by decide) (fun c8 => ?_) (fun c8 => ?_)
      · have hf := ha_it hf c8
        refine lv_bipush (v := 117) hx hb dX9_step_217 (by decide) ?_
        refine lv_iload_n hx hb dX9_step_219 rfl (lv_at hl 0 rfl) ?_
        refine lv_iadd hx hb dX9_step_220 ?_
        exact J221 p0 (((117 : Int32) + z7.1)) z7.2 H locs ls hf h0 hP hD hS (lv_sub hl [1] rfl)
      · have hf := ha_if hf c8
        refine lv_iconst (v := (-1)) hx hb dX9_step_213 (by decide) ?_
        refine lv_goto (tgt := 221) hx hb dX9_step_214 (by decide) ?_
        exact J221 p0 (-1) z7.2 H locs ls hf h0 hP hD hS (lv_sub hl [1] rfl)
    · have hf := ha_if hf c4
      refine lv_aload_n hx hb dX9_step_161 rfl (lv_at hl 0 rfl) ?_
      refine lv_aload_n hx hb dX9_step_162 rfl (lv_at hl 0 rfl) ?_
      obtain ⟨r9, wr9, hf⟩ := ha_bds hf
      obtain ⟨wr9, hr9⟩ := ha_rf_some wr9
      refine ha_getr hx hb hown hK hP q9 hN h0 wr9 dX9_step_163 ?_
      refine lv_aload_n hx hb dX9_step_166 rfl (lv_at hl 0 rfl) ?_
      refine ha_geti hx hb hown hK hP q65 hN h0 dX9_step_167 ?_
      obtain ⟨g10, hf⟩ := ha_gds hf
      refine ha_iald hx hb hK hP hN hr9 g10 dX9_step_170 ?_
      obtain ⟨z11, wz11, hf⟩ := ha_bds hf
      refine ha_callNi (As := [.int ((ha_gA S r9 ((ha_gI S p0 4) : Int32).toNatClampNeg))]) (rest := [.ref (ad p0)]) hZ ⟨hx, hb, hml, hown, hts⟩ hK hz hP hD hS (c_X11_isDigit   wz11) ⟨va_cnB 1 hts gX9_step_X11_isDigit_n99 (rm := ({ frames := 0, cells := 0, slots := 0, locals := 0 } : Room)) (mc := 0) (ms := 0) rfl rfl rfl (xo_nl_X9_99 (hX s hz)) (hts (.initialized RX11) (by decide +kernel)) (by decide +kernel) ⟨Nat.le_of_ble_eq_true rfl, Nat.le_of_ble_eq_true rfl⟩, hts (.static yX11_isDigit) (by decide +kernel), trivial⟩ rfl hl.1 rfl (Nat.le_of_ble_eq_true rfl) dX9_step_171 ⟨Nat.le_of_ble_eq_true rfl, Nat.le_of_ble_eq_true rfl⟩ (fun H locs hP hD hS => ?_)
      refine lv_if_eq (tgt := 184) hx hb dX9_step_174 (by decide) (fun c12 => ?_) (fun c12 => ?_)
      · have hf := ha_it hf c12
        refine lv_aload_n hx hb dX9_step_184 rfl (lv_at hl 0 rfl) ?_
        obtain ⟨z13, wz13, hf⟩ := ha_bds hf
        refine ha_callVi (As := []) (rest := [.ref (ad p0)]) hZ ⟨hx, hb, hml, hown, hts⟩ hK hz hP hD hS (c_X9_wordCode hZ hN hX h0 wz13) cw1 hN h0 (by decide) rfl rfl hl.1 rfl (Nat.le_of_ble_eq_true rfl) dX9_step_185 ⟨Nat.le_of_ble_eq_true rfl, Nat.le_of_ble_eq_true rfl⟩ (fun H locs hP hD hS => ?_)
        exact J188 p0 z13.1 z13.2 H locs ls hf h0 hP hD hS (lv_sub hl [0] rfl)
      · have hf := ha_if hf c12
        refine lv_aload_n hx hb dX9_step_177 rfl (lv_at hl 0 rfl) ?_
        obtain ⟨z14, wz14, hf⟩ := ha_bds hf
        refine ha_callVi (As := []) (rest := [.ref (ad p0)]) hZ ⟨hx, hb, hml, hown, hts⟩ hK hz hP hD hS (c_X9_numberCode hZ hN hX h0 wz14) cw2 hN h0 (by decide) rfl rfl hl.1 rfl (Nat.le_of_ble_eq_true rfl) dX9_step_178 ⟨Nat.le_of_ble_eq_true rfl, Nat.le_of_ble_eq_true rfl⟩ (fun H locs hP hD hS => ?_)
        refine lv_goto (tgt := 188) hx hb dX9_step_181 (by decide) ?_
        exact J188 p0 z14.1 z14.2 H locs ls hf h0 hP hD hS (lv_sub hl [0] rfl)
  have J68 : ∀ (v1 : Int32) (S : ha_St) (H : Heap) (locs : List Loc) (ls : Array Slot), (f_X9_step_J68 p0 v1 S).bind some = some out → va_P D vwCl (ha_wl cs ad xo_kd xo_ln N S) H → va_D (ha_A ad N) (ha_wl cs ad xo_kd xo_ln N S) → va_S (ha_A ad N) s.heap H locs → lv_has ls 3 [(0, .ref (ad p0)), (1, .int v1)] → W p l e (headSpec wsX9_step ({ frames := 6, cells := 0, slots := 0, locals := 130 } : Room)).room s m ([.ref (ad p0)] : List Value).toArray below meth c H locs 0 0 (MQ below (va_Qv (fun (_ : Unit) => True) (fun _ => ha_H D cs ad xo_kd xo_ln N out) (ha_A ad N)) ([.ref (ad p0)] : List Value).toArray s 0 0 (ha_A ad N)) (F0 m 68 ls []) := by
    intro v1 S H locs ls hf  hP hD hS hl
    unfold f_X9_step_J68 at hf
    refine lv_aload_n hx hb dX9_step_68 rfl (lv_at hl 0 rfl) ?_
    refine ha_geti hx hb hown hK hP q65 hN h0 dX9_step_69 ?_
    refine lv_iload_n hx hb dX9_step_72 rfl (lv_at hl 1 rfl) ?_
    refine lv_icmp_lt (tgt := 88) hx hb dX9_step_73 (by decide) (fun c15 => ?_) (fun c15 => ?_)
    · have hf := ha_it hf c15
      refine lv_aload_n hx hb dX9_step_88 rfl (lv_at hl 0 rfl) ?_
      refine lv_aload_n hx hb dX9_step_89 rfl (lv_at hl 0 rfl) ?_
      refine ha_geti hx hb hown hK hP q65 hN h0 dX9_step_90 ?_
      refine ha_puti hx hb hown hK hP hD hS r33 hN h0 dX9_step_93 (fun S16 H locs eS16 hP hD hS => ?_)
      have hf := ha_nms hf eS16
      have key27 : ∀ (K : (ha_St) → Option (ha_St)), (∀  (S : ha_St) (H : Heap) (locs : List Loc) (ls : Array Slot), K S = some out → va_P D vwCl (ha_wl cs ad xo_kd xo_ln N S) H → va_D (ha_A ad N) (ha_wl cs ad xo_kd xo_ln N S) → va_S (ha_A ad N) s.heap H locs → lv_has ls 3 [(0, .ref (ad p0))] → W p l e (headSpec wsX9_step ({ frames := 6, cells := 0, slots := 0, locals := 130 } : Room)).room s m ([.ref (ad p0)] : List Value).toArray below meth c H locs 0 0 (MQ below (va_Qv (fun (_ : Unit) => True) (fun _ => ha_H D cs ad xo_kd xo_ln N out) (ha_A ad N)) ([.ref (ad p0)] : List Value).toArray s 0 0 (ha_A ad N)) (F0 m 150 ls [])) → ∀ (n : Nat)  (S : ha_St) (H : Heap) (locs : List Loc) (ls : Array Slot), (f_X9_step_L96i p0 n S).bind K = some out → va_P D vwCl (ha_wl cs ad xo_kd xo_ln N S) H → va_D (ha_A ad N) (ha_wl cs ad xo_kd xo_ln N S) → va_S (ha_A ad N) s.heap H locs → lv_has ls 3 [(0, .ref (ad p0))] → W p l e (headSpec wsX9_step ({ frames := 6, cells := 0, slots := 0, locals := 130 } : Room)).room s m ([.ref (ad p0)] : List Value).toArray below meth c H locs 0 0 (MQ below (va_Qv (fun (_ : Unit) => True) (fun _ => ha_H D cs ad xo_kd xo_ln N out) (ha_A ad N)) ([.ref (ad p0)] : List Value).toArray s 0 0 (ha_A ad N)) (F0 m 96 ls []) := by
        intro K hk n
        induction n with
        | zero =>
          intro  S H locs ls hf
          exact absurd (show (none : Option (ha_St)) = some out from hf) (fun h => by cases h)
        | succ n ih =>
          intro  S H locs ls hf  hP hD hS hl
          have J137 : ∀  (S : ha_St) (H : Heap) (locs : List Loc) (ls : Array Slot), (f_X9_step_L96_J137 p0 (f_X9_step_L96i p0 n)  S).bind K = some out → va_P D vwCl (ha_wl cs ad xo_kd xo_ln N S) H → va_D (ha_A ad N) (ha_wl cs ad xo_kd xo_ln N S) → va_S (ha_A ad N) s.heap H locs → lv_has ls 3 [(0, .ref (ad p0))] → W p l e (headSpec wsX9_step ({ frames := 6, cells := 0, slots := 0, locals := 130 } : Room)).room s m ([.ref (ad p0)] : List Value).toArray below meth c H locs 0 0 (MQ below (va_Qv (fun (_ : Unit) => True) (fun _ => ha_H D cs ad xo_kd xo_ln N out) (ha_A ad N)) ([.ref (ad p0)] : List Value).toArray s 0 0 (ha_A ad N)) (F0 m 137 ls []) := by
            intro  S H locs ls hf  hP hD hS hl
            unfold f_X9_step_L96_J137 at hf
            refine lv_aload_n hx hb dX9_step_137 rfl (lv_at hl 0 rfl) ?_
            refine lv_dup hx hb dX9_step_138 rfl ?_
            refine ha_geti hx hb hown hK hP q33 hN h0 dX9_step_139 ?_
            refine lv_iconst (v := 1) hx hb dX9_step_142 (by decide) ?_
            refine lv_iadd hx hb dX9_step_143 ?_
            refine ha_puti hx hb hown hK hP hD hS r33 hN h0 dX9_step_144 (fun S17 H locs eS17 hP hD hS => ?_)
            have hf := ha_nms hf eS17
            refine lv_goto (tgt := 96) hx hb dX9_step_147 (by decide) ?_
            exact ih  S17 H locs ls hf  hP hD hS (lv_sub hl [0] rfl)
          have hf : (f_X9_step_L96 p0 (f_X9_step_L96i p0 n)  S).bind K = some out := hf
          unfold f_X9_step_L96 at hf
          refine lv_aload_n hx hb dX9_step_96 rfl (lv_at hl 0 rfl) ?_
          refine ha_geti hx hb hown hK hP q33 hN h0 dX9_step_97 ?_
          refine lv_aload_n hx hb dX9_step_100 rfl (lv_at hl 0 rfl) ?_
          refine ha_geti hx hb hown hK hP q29 hN h0 dX9_step_101 ?_
          refine lv_icmp_ge (tgt := 150) hx hb dX9_step_104 (by decide) (fun c18 => ?_) (fun c18 => ?_)
          · have hf := ha_it hf c18
            exact hk  S H locs ls hf  hP hD hS (lv_sub hl [0] rfl)
          · have hf := ha_if hf c18
            refine lv_aload_n hx hb dX9_step_107 rfl (lv_at hl 0 rfl) ?_
            obtain ⟨r19, wr19, hf⟩ := ha_bds hf
            obtain ⟨wr19, hr19⟩ := ha_rf_some wr19
            refine ha_getr hx hb hown hK hP q9 hN h0 wr19 dX9_step_108 ?_
            refine lv_aload_n hx hb dX9_step_111 rfl (lv_at hl 0 rfl) ?_
            refine ha_geti hx hb hown hK hP q33 hN h0 dX9_step_112 ?_
            obtain ⟨g20, hf⟩ := ha_gds hf
            refine ha_iald hx hb hK hP hN hr19 g20 dX9_step_115 ?_
            obtain ⟨z21, wz21, hf⟩ := ha_bds hf
            refine ha_callNi (As := [.int ((ha_gA S r19 ((ha_gI S p0 5) : Int32).toNatClampNeg))]) (rest := []) hZ ⟨hx, hb, hml, hown, hts⟩ hK hz hP hD hS (c_X11_isLetter   wz21) ⟨va_cnB 1 hts gX9_step_X11_isLetter_n96 (rm := ({ frames := 0, cells := 0, slots := 0, locals := 0 } : Room)) (mc := 0) (ms := 0) rfl rfl rfl (xo_nl_X9_96 (hX s hz)) (hts (.initialized RX11) (by decide +kernel)) (by decide +kernel) ⟨Nat.le_of_ble_eq_true rfl, Nat.le_of_ble_eq_true rfl⟩, hts (.static yX11_isLetter) (by decide +kernel), trivial⟩ rfl hl.1 rfl (Nat.le_of_ble_eq_true rfl) dX9_step_116 ⟨Nat.le_of_ble_eq_true rfl, Nat.le_of_ble_eq_true rfl⟩ (fun H locs hP hD hS => ?_)
            refine lv_if_ne (tgt := 137) hx hb dX9_step_119 (by decide) (fun c22 => ?_) (fun c22 => ?_)
            · have hf := ha_it hf c22
              exact J137  S H locs ls hf  hP hD hS (lv_sub hl [0] rfl)
            · have hf := ha_if hf (fun q => q c22)
              refine lv_aload_n hx hb dX9_step_122 rfl (lv_at hl 0 rfl) ?_
              obtain ⟨r23, wr23, hf⟩ := ha_bds hf
              obtain ⟨wr23, hr23⟩ := ha_rf_some wr23
              refine ha_getr hx hb hown hK hP q9 hN h0 wr23 dX9_step_123 ?_
              refine lv_aload_n hx hb dX9_step_126 rfl (lv_at hl 0 rfl) ?_
              refine ha_geti hx hb hown hK hP q33 hN h0 dX9_step_127 ?_
              obtain ⟨g24, hf⟩ := ha_gds hf
              refine ha_iald hx hb hK hP hN hr23 g24 dX9_step_130 ?_
              obtain ⟨z25, wz25, hf⟩ := ha_bds hf
              refine ha_callNi (As := [.int ((ha_gA S r23 ((ha_gI S p0 5) : Int32).toNatClampNeg))]) (rest := []) hZ ⟨hx, hb, hml, hown, hts⟩ hK hz hP hD hS (c_X11_isDigit   wz25) ⟨va_cnB 1 hts gX9_step_X11_isDigit_n99 (rm := ({ frames := 0, cells := 0, slots := 0, locals := 0 } : Room)) (mc := 0) (ms := 0) rfl rfl rfl (xo_nl_X9_99 (hX s hz)) (hts (.initialized RX11) (by decide +kernel)) (by decide +kernel) ⟨Nat.le_of_ble_eq_true rfl, Nat.le_of_ble_eq_true rfl⟩, hts (.static yX11_isDigit) (by decide +kernel), trivial⟩ rfl hl.1 rfl (Nat.le_of_ble_eq_true rfl) dX9_step_131 ⟨Nat.le_of_ble_eq_true rfl, Nat.le_of_ble_eq_true rfl⟩ (fun H locs hP hD hS => ?_)
              refine lv_if_eq (tgt := 150) hx hb dX9_step_134 (by decide) (fun c26 => ?_) (fun c26 => ?_)
              · have hf := ha_it hf c26
                exact hk  S H locs ls hf  hP hD hS (lv_sub hl [0] rfl)
              · have hf := ha_if hf c26
                exact J137  S H locs ls hf  hP hD hS (lv_sub hl [0] rfl)
      refine key27 _ (fun  S H locs ls hf  hP hD hS hl => ?_) ha_fu  S16 H locs ls (ha_as hf)  hP hD hS (lv_sub hl [0] rfl)
      have hf : (f_X9_step_J150 p0  S).bind some = some out := hf
      exact J150  S H locs ls hf  hP hD hS (lv_sub hl [0] rfl)
    · have hf := ha_if hf c15
      refine lv_aload_n hx hb dX9_step_76 rfl (lv_at hl 0 rfl) ?_
      refine lv_iload_n hx hb dX9_step_77 rfl (lv_at hl 1 rfl) ?_
      refine ha_puti hx hb hown hK hP hD hS r65 hN h0 dX9_step_78 (fun S29 H locs eS29 hP hD hS => ?_)
      have hf := ha_nms hf eS29
      refine lv_aload_n hx hb dX9_step_81 rfl (lv_at hl 0 rfl) ?_
      refine lv_bipush (v := (-2)) hx hb dX9_step_82 (by decide) ?_
      refine ha_puti hx hb hown hK hP hD hS r45 hN h0 dX9_step_84 (fun S30 H locs eS30 hP hD hS => ?_)
      have hf := ha_nms hf eS30
      have he := Option.some.inj hf
      exact ha_retv hx hb hr hlocks hP hD hS dX9_step_87 he
  unfold f_X9_step at hf
  refine lv_aload_n hx hb dX9_step_0 rfl (lv_at hl 0 rfl) ?_
  refine ha_geti hx hb hown hK hP q29 hN h0 dX9_step_1 ?_
  refine lv_sipush (v := 400) hx hb dX9_step_4 (by decide) ?_
  refine va_mmin hx hb (hml.trans hl.1.symm) hown cw3 cw4 cw5 cw6 (by decide) (Nat.le_of_ble_eq_true rfl) (Nat.zero_le _) (Nat.zero_le _) dX9_step_7 ?_
  refine lv_topi (fun x31 ex31 => ?_)
  have hf := ha_nms hf ex31
  refine lv_istore_n (lv' := [(1, .int x31), (0, .ref (ad p0))]) hx hb dX9_step_10 rfl hl (by decide) rfl (fun ls hl => ?_)
  refine lv_aload_n hx hb dX9_step_11 rfl (lv_at hl 1 rfl) ?_
  refine lv_aload_n hx hb dX9_step_12 rfl (lv_at hl 1 rfl) ?_
  refine ha_geti hx hb hown hK hP q33 hN h0 dX9_step_13 ?_
  refine ha_puti hx hb hown hK hP hD hS r65 hN h0 dX9_step_16 (fun S32 H locs eS32 hP hD hS => ?_)
  have hf := ha_nms hf eS32
  have key41 : ∀ (K : (Int32 × ha_St) → Option (ha_St)), (∀ (v1 : Int32) (S : ha_St) (H : Heap) (locs : List Loc) (ls : Array Slot), K (v1, S) = some out → va_P D vwCl (ha_wl cs ad xo_kd xo_ln N S) H → va_D (ha_A ad N) (ha_wl cs ad xo_kd xo_ln N S) → va_S (ha_A ad N) s.heap H locs → lv_has ls 3 [(0, .ref (ad p0)), (1, .int v1)] → W p l e (headSpec wsX9_step ({ frames := 6, cells := 0, slots := 0, locals := 130 } : Room)).room s m ([.ref (ad p0)] : List Value).toArray below meth c H locs 0 0 (MQ below (va_Qv (fun (_ : Unit) => True) (fun _ => ha_H D cs ad xo_kd xo_ln N out) (ha_A ad N)) ([.ref (ad p0)] : List Value).toArray s 0 0 (ha_A ad N)) (F0 m 68 ls [])) → ∀ (n : Nat) (v1 : Int32) (S : ha_St) (H : Heap) (locs : List Loc) (ls : Array Slot), (f_X9_step_L19i p0 n (v1, S)).bind K = some out → va_P D vwCl (ha_wl cs ad xo_kd xo_ln N S) H → va_D (ha_A ad N) (ha_wl cs ad xo_kd xo_ln N S) → va_S (ha_A ad N) s.heap H locs → lv_has ls 3 [(0, .ref (ad p0)), (1, .int v1)] → W p l e (headSpec wsX9_step ({ frames := 6, cells := 0, slots := 0, locals := 130 } : Room)).room s m ([.ref (ad p0)] : List Value).toArray below meth c H locs 0 0 (MQ below (va_Qv (fun (_ : Unit) => True) (fun _ => ha_H D cs ad xo_kd xo_ln N out) (ha_A ad N)) ([.ref (ad p0)] : List Value).toArray s 0 0 (ha_A ad N)) (F0 m 19 ls []) := by
    intro K hk n
    induction n with
    | zero =>
      intro v1 S H locs ls hf
      exact absurd (show (none : Option (ha_St)) = some out from hf) (fun h => by cases h)
    | succ n ih =>
      intro v1 S H locs ls hf  hP hD hS hl
      have J55 : ∀ (v1 : Int32) (S : ha_St) (H : Heap) (locs : List Loc) (ls : Array Slot), (f_X9_step_L19_J55 p0 (f_X9_step_L19i p0 n) v1 S).bind K = some out → va_P D vwCl (ha_wl cs ad xo_kd xo_ln N S) H → va_D (ha_A ad N) (ha_wl cs ad xo_kd xo_ln N S) → va_S (ha_A ad N) s.heap H locs → lv_has ls 3 [(0, .ref (ad p0)), (1, .int v1)] → W p l e (headSpec wsX9_step ({ frames := 6, cells := 0, slots := 0, locals := 130 } : Room)).room s m ([.ref (ad p0)] : List Value).toArray below meth c H locs 0 0 (MQ below (va_Qv (fun (_ : Unit) => True) (fun _ => ha_H D cs ad xo_kd xo_ln N out) (ha_A ad N)) ([.ref (ad p0)] : List Value).toArray s 0 0 (ha_A ad N)) (F0 m 55 ls []) := by
        intro v1 S H locs ls hf  hP hD hS hl
        unfold f_X9_step_L19_J55 at hf
        refine lv_aload_n hx hb dX9_step_55 rfl (lv_at hl 0 rfl) ?_
        refine lv_dup hx hb dX9_step_56 rfl ?_
        refine ha_geti hx hb hown hK hP q65 hN h0 dX9_step_57 ?_
        refine lv_iconst (v := 1) hx hb dX9_step_60 (by decide) ?_
        refine lv_iadd hx hb dX9_step_61 ?_
        refine ha_puti hx hb hown hK hP hD hS r65 hN h0 dX9_step_62 (fun S33 H locs eS33 hP hD hS => ?_)
        have hf := ha_nms hf eS33
        refine lv_goto (tgt := 19) hx hb dX9_step_65 (by decide) ?_
        exact ih v1 S33 H locs ls hf  hP hD hS (lv_sub hl [0, 1] rfl)
      have hf : (f_X9_step_L19 p0 (f_X9_step_L19i p0 n) v1 S).bind K = some out := hf
      unfold f_X9_step_L19 at hf
      refine lv_aload_n hx hb dX9_step_19 rfl (lv_at hl 0 rfl) ?_
      refine ha_geti hx hb hown hK hP q65 hN h0 dX9_step_20 ?_
      refine lv_iload_n hx hb dX9_step_23 rfl (lv_at hl 1 rfl) ?_
      refine lv_icmp_ge (tgt := 68) hx hb dX9_step_24 (by decide) (fun c34 => ?_) (fun c34 => ?_)
      · have hf := ha_it hf c34
        exact hk v1 S H locs ls hf  hP hD hS (lv_sub hl [0, 1] rfl)
      · have hf := ha_if hf c34
        refine lv_aload_n hx hb dX9_step_27 rfl (lv_at hl 0 rfl) ?_
        obtain ⟨r35, wr35, hf⟩ := ha_bds hf
        obtain ⟨wr35, hr35⟩ := ha_rf_some wr35
        refine ha_getr hx hb hown hK hP q9 hN h0 wr35 dX9_step_28 ?_
        refine lv_aload_n hx hb dX9_step_31 rfl (lv_at hl 0 rfl) ?_
        refine ha_geti hx hb hown hK hP q65 hN h0 dX9_step_32 ?_
        obtain ⟨g36, hf⟩ := ha_gds hf
        refine ha_iald hx hb hK hP hN hr35 g36 dX9_step_35 ?_
        refine lv_bipush (v := 32) hx hb dX9_step_36 (by decide) ?_
        refine lv_icmp_eq (tgt := 55) hx hb dX9_step_38 (by decide) (fun c37 => ?_) (fun c37 => ?_)
        · have hf := ha_it hf c37
          exact J55 v1 S H locs ls hf  hP hD hS (lv_sub hl [0, 1] rfl)
        · have hf := ha_if hf c37
          refine lv_aload_n hx hb dX9_step_41 rfl (lv_at hl 0 rfl) ?_
          obtain ⟨r38, wr38, hf⟩ := ha_bds hf
          obtain ⟨wr38, hr38⟩ := ha_rf_some wr38
          refine ha_getr hx hb hown hK hP q9 hN h0 wr38 dX9_step_42 ?_
          refine lv_aload_n hx hb dX9_step_45 rfl (lv_at hl 0 rfl) ?_
          refine ha_geti hx hb hown hK hP q65 hN h0 dX9_step_46 ?_
          obtain ⟨g39, hf⟩ := ha_gds hf
          refine ha_iald hx hb hK hP hN hr38 g39 dX9_step_49 ?_
          refine lv_bipush (v := 10) hx hb dX9_step_50 (by decide) ?_
          refine lv_icmp_ne (tgt := 68) hx hb dX9_step_52 (by decide) (fun c40 => ?_) (fun c40 => ?_)
          · have hf := ha_it hf c40
            exact hk v1 S H locs ls hf  hP hD hS (lv_sub hl [0, 1] rfl)
          · have hf := ha_if hf (fun q => q c40)
            exact J55 v1 S H locs ls hf  hP hD hS (lv_sub hl [0, 1] rfl)
  refine key41 _ (fun v1 S H locs ls hf  hP hD hS hl => ?_) ha_fu x31 S32 H locs ls (ha_as hf)  hP hD hS (lv_sub hl [1, 0] rfl)
  have hf : (f_X9_step_J68 p0 v1 S).bind some = some out := hf
  exact J68 v1 S H locs ls hf  hP hD hS (lv_sub hl [0, 1] rfl)

set_option maxHeartbeats 4000000 in
set_option maxRecDepth 100000 in
theorem c_X9_refuse {l : Launch} {D : va_G} {cs : Nat → ClassId} {ad adK adV : Nat → Nat} {N : List Nat} {Z : State → Prop} (hZ : ha_Zok (ha_A ad N) Z) (hN : ∀ x, xo_kd x < 999 → x ∈ N) (hX : ∀ U, Z U → xo_Z adK adV (ha_A ad N) U) {p0 : Nat} {p1 : Int32} {S : ha_St} {out : Int32 × ha_St} (h0 : xo_kd p0 = 9) (hf : f_X9_refuse p0 p1 S = some out) : ha_Ci l D cs ad xo_kd xo_ln N Z yX9_refuse wsX9_refuse ({ frames := 0, cells := 0, slots := 0, locals := 0 } : Room) [.ref (ad p0), .int p1] S out.1 out.2 := by
  refine Met.ofW (cc := cX9_refuse) (maxL := 2) (ret := (some .boolean)) (by decide +kernel) rfl ?_
  intro p e s m args below meth c s₁ B hml hv
  obtain ⟨rfl, hP, hD, hK, hz⟩ := hv
  have hx := B.exec
  have hb := B.bytes
  have hr := B.returns
  have hts := atoms_spec (ws := wsX9_refuse) B.pre
  have hown : s.vm.findClass RX9 = some m.cls := findClass_of_methodNamed B.named
  have hlocks := B.notSynchronized
  have hS : va_S (ha_A ad N) s.heap s.heap [] := va_S.rf
  have hi9 : ∀ w ∈ wsX90, w ∈ wsX9_refuse := fun w h => List.mem_cons_of_mem _ (List.mem_append_right _ h)
  have q65 : ha_Fk s ([.ref (ad p0), .int p1] : List Value).toArray RX9 65 9 4 0 := ⟨RX9, TX9, 8, wsX9_refuse, rfl, by decide, by decide, rfl, rfl, hts, hi9, hts (.fieldLink RX9 65 "HillArms$Reader" "at" "I") (by decide +kernel)⟩
  have r36 : ha_Fp s ([.ref (ad p0), .int p1] : List Value).toArray RX9 36 9 6 0 .int := ⟨RX9, TX9, 8, wsX9_refuse, tyX9, rfl, by decide, by decide, rfl, rfl, hts, hi9, hts (.fieldLink RX9 36 "HillArms$Reader" "faultKind" "I") (by decide +kernel), tyX9_ok, nmX9, rfl, by decide +kernel⟩
  have r39 : ha_Fp s ([.ref (ad p0), .int p1] : List Value).toArray RX9 39 9 7 0 .int := ⟨RX9, TX9, 8, wsX9_refuse, tyX9, rfl, by decide, by decide, rfl, rfl, hts, hi9, hts (.fieldLink RX9 39 "HillArms$Reader" "faultAt" "I") (by decide +kernel), tyX9_ok, nmX9, rfl, by decide +kernel⟩
  have hl := lv_entry ([.ref (ad p0), .int p1]) (n := 2) (Nat.le_of_ble_eq_true rfl)
  rw [lg_entry_eq]
  generalize (lg_sl ([.ref (ad p0), .int p1]) ++ List.replicate (2 - (lg_sl ([.ref (ad p0), .int p1])).length) Slot.unset).toArray = ls at hl ⊢
  have hl : lv_has ls 2 [(0, .ref (ad p0)), (1, .int p1)] := hl
  refine (fun (K0 : ∀ (H : Heap) (locs : List Loc), va_P D vwCl (ha_wl cs ad xo_kd xo_ln N S) H → va_S (ha_A ad N) s.heap H locs → W p l e (headSpec wsX9_refuse ({ frames := 0, cells := 0, slots := 0, locals := 0 } : Room)).room s m ([.ref (ad p0), .int p1] : List Value).toArray below meth c H locs 0 0 (MQ below (va_Qi (fun (r : Int32) (_ : Unit) => r = out.1) (fun _ => ha_H D cs ad xo_kd xo_ln N out.2) (ha_A ad N)) ([.ref (ad p0), .int p1] : List Value).toArray s 0 0 (ha_A ad N)) (F0 m 0 ls [])) => K0 _ _ hP hS) ?_
  intro H locs hP hS
  have hf := ha_rt hf
  unfold f_X9_refuse at hf
  refine lv_aload_n hx hb dX9_refuse_0 rfl (lv_at hl 0 rfl) ?_
  refine lv_iload_n hx hb dX9_refuse_1 rfl (lv_at hl 1 rfl) ?_
  refine ha_puti hx hb hown hK hP hD hS r36 hN h0 dX9_refuse_2 (fun S1 H locs eS1 hP hD hS => ?_)
  have hf := ha_nms hf eS1
  refine lv_aload_n hx hb dX9_refuse_5 rfl (lv_at hl 0 rfl) ?_
  refine lv_aload_n hx hb dX9_refuse_6 rfl (lv_at hl 0 rfl) ?_
  refine ha_geti hx hb hown hK hP q65 hN h0 dX9_refuse_7 ?_
  refine ha_puti hx hb hown hK hP hD hS r39 hN h0 dX9_refuse_10 (fun S2 H locs eS2 hP hD hS => ?_)
  have hf := ha_nms hf eS2
  refine lv_iconst (v := 0) hx hb dX9_refuse_13 (by decide) ?_
  have he := Option.some.inj hf
  exact ha_retz hx hb hr hlocks hP hD hS dX9_refuse_14 (by decide) (ha_e1 he) (ha_e2 he)

set_option maxHeartbeats 4000000 in
set_option maxRecDepth 100000 in
theorem c_X9_endIsRight {l : Launch} {D : va_G} {cs : Nat → ClassId} {ad adK adV : Nat → Nat} {N : List Nat} {Z : State → Prop} (hZ : ha_Zok (ha_A ad N) Z) (hN : ∀ x, xo_kd x < 999 → x ∈ N) (hX : ∀ U, Z U → xo_Z adK adV (ha_A ad N) U) {p0 : Nat} {S : ha_St} {out : Int32 × ha_St} (h0 : xo_kd p0 = 9) (hf : f_X9_endIsRight p0 S = some out) : ha_Ci l D cs ad xo_kd xo_ln N Z yX9_endIsRight wsX9_endIsRight ({ frames := 1, cells := 0, slots := 0, locals := 21 } : Room) [.ref (ad p0)] S out.1 out.2 := by
  refine Met.ofW (cc := cX9_endIsRight) (maxL := 1) (ret := (some .boolean)) (by decide +kernel) rfl ?_
  intro p e s m args below meth c s₁ B hml hv
  obtain ⟨rfl, hP, hD, hK, hz⟩ := hv
  have hx := B.exec
  have hb := B.bytes
  have hr := B.returns
  have hts := atoms_spec (ws := wsX9_endIsRight) B.pre
  have hown : s.vm.findClass RX9 = some m.cls := findClass_of_methodNamed B.named
  have hlocks := B.notSynchronized
  have hS : va_S (ha_A ad N) s.heap s.heap [] := va_S.rf
  have hi9 : ∀ w ∈ wsX90, w ∈ wsX9_endIsRight := fun w h => List.mem_cons_of_mem _ (List.mem_append_right _ h)
  have q29 : ha_Fk s ([.ref (ad p0)] : List Value).toArray RX9 29 9 1 0 := ⟨RX9, TX9, 8, wsX9_endIsRight, rfl, by decide, by decide, rfl, rfl, hts, hi9, hts (.fieldLink RX9 29 "HillArms$Reader" "size" "I") (by decide +kernel)⟩
  have cw0 := cwV (R := (headSpec wsX9_endIsRight ({ frames := 1, cells := 0, slots := 0, locals := 21 } : Room)).room) 1 hts gX9_endIsRight_X9_refuse (rm := ({ frames := 0, cells := 0, slots := 0, locals := 0 } : Room)) (mc := 0) (ms := 0) rfl rfl rfl (by decide +kernel) ⟨Nat.le_of_ble_eq_true rfl, Nat.le_of_ble_eq_true rfl⟩
  have hl := lv_entry ([.ref (ad p0)]) (n := 1) (Nat.le_of_ble_eq_true rfl)
  rw [lg_entry_eq]
  generalize (lg_sl ([.ref (ad p0)]) ++ List.replicate (1 - (lg_sl ([.ref (ad p0)])).length) Slot.unset).toArray = ls at hl ⊢
  have hl : lv_has ls 1 [(0, .ref (ad p0))] := hl
  refine (fun (K0 : ∀ (H : Heap) (locs : List Loc), va_P D vwCl (ha_wl cs ad xo_kd xo_ln N S) H → va_S (ha_A ad N) s.heap H locs → W p l e (headSpec wsX9_endIsRight ({ frames := 1, cells := 0, slots := 0, locals := 21 } : Room)).room s m ([.ref (ad p0)] : List Value).toArray below meth c H locs 0 0 (MQ below (va_Qi (fun (r : Int32) (_ : Unit) => r = out.1) (fun _ => ha_H D cs ad xo_kd xo_ln N out.2) (ha_A ad N)) ([.ref (ad p0)] : List Value).toArray s 0 0 (ha_A ad N)) (F0 m 0 ls [])) => K0 _ _ hP hS) ?_
  intro H locs hP hS
  have hf := ha_rt hf
  have J23 : ∀ (k0 : Int32) (S : ha_St) (H : Heap) (locs : List Loc) (ls : Array Slot), (f_X9_endIsRight_J23 p0 k0 S).bind some = some out → va_P D vwCl (ha_wl cs ad xo_kd xo_ln N S) H → va_D (ha_A ad N) (ha_wl cs ad xo_kd xo_ln N S) → va_S (ha_A ad N) s.heap H locs → lv_has ls 1 [(0, .ref (ad p0))] → W p l e (headSpec wsX9_endIsRight ({ frames := 1, cells := 0, slots := 0, locals := 21 } : Room)).room s m ([.ref (ad p0)] : List Value).toArray below meth c H locs 0 0 (MQ below (va_Qi (fun (r : Int32) (_ : Unit) => r = out.1) (fun _ => ha_H D cs ad xo_kd xo_ln N out.2) (ha_A ad N)) ([.ref (ad p0)] : List Value).toArray s 0 0 (ha_A ad N)) (F0 m 23 ls [.int k0]) := by
    intro k0 S H locs ls hf  hP hD hS hl
    unfold f_X9_endIsRight_J23 at hf
    obtain ⟨g1, hf⟩ := ha_gds hf
    have he := Option.some.inj hf
    exact ha_retz hx hb hr hlocks hP hD hS dX9_endIsRight_23 g1 (ha_e1 he) (ha_e2 he)
  have J18 : ∀  (S : ha_St) (H : Heap) (locs : List Loc) (ls : Array Slot), (f_X9_endIsRight_J18 p0  S).bind some = some out → va_P D vwCl (ha_wl cs ad xo_kd xo_ln N S) H → va_D (ha_A ad N) (ha_wl cs ad xo_kd xo_ln N S) → va_S (ha_A ad N) s.heap H locs → lv_has ls 1 [(0, .ref (ad p0))] → W p l e (headSpec wsX9_endIsRight ({ frames := 1, cells := 0, slots := 0, locals := 21 } : Room)).room s m ([.ref (ad p0)] : List Value).toArray below meth c H locs 0 0 (MQ below (va_Qi (fun (r : Int32) (_ : Unit) => r = out.1) (fun _ => ha_H D cs ad xo_kd xo_ln N out.2) (ha_A ad N)) ([.ref (ad p0)] : List Value).toArray s 0 0 (ha_A ad N)) (F0 m 18 ls []) := by
    intro  S H locs ls hf  hP hD hS hl
    unfold f_X9_endIsRight_J18 at hf
    refine lv_iconst (v := 1) hx hb dX9_endIsRight_18 (by decide) ?_
    refine lv_goto (tgt := 23) hx hb dX9_endIsRight_19 (by decide) ?_
    exact J23 1 S H locs ls hf  hP hD hS (lv_sub hl [0] rfl)
  unfold f_X9_endIsRight at hf
  refine lv_aload_n hx hb dX9_endIsRight_0 rfl (lv_at hl 0 rfl) ?_
  refine ha_geti hx hb hown hK hP q29 hN h0 dX9_endIsRight_1 ?_
  refine lv_sipush (v := 400) hx hb dX9_endIsRight_4 (by decide) ?_
  refine lv_icmp_le (tgt := 18) hx hb dX9_endIsRight_7 (by decide) (fun c2 => ?_) (fun c2 => ?_)
  · have hf := ha_it hf c2
    exact J18  S H locs ls hf  hP hD hS (lv_sub hl [0] rfl)
  · have hf := ha_if hf c2
    refine lv_aload_n hx hb dX9_endIsRight_10 rfl (lv_at hl 0 rfl) ?_
    refine lv_iconst (v := 1) hx hb dX9_endIsRight_11 (by decide) ?_
    obtain ⟨z3, wz3, hf⟩ := ha_bds hf
    refine ha_callVi (As := [.int 1]) (rest := []) hZ ⟨hx, hb, hml, hown, hts⟩ hK hz hP hD hS (c_X9_refuse hZ hN hX h0 wz3) cw0 hN h0 (by decide) rfl rfl hl.1 rfl (Nat.le_of_ble_eq_true rfl) dX9_endIsRight_12 ⟨Nat.le_of_ble_eq_true rfl, Nat.le_of_ble_eq_true rfl⟩ (fun H locs hP hD hS => ?_)
    refine lv_if_eq (tgt := 22) hx hb dX9_endIsRight_15 (by decide) (fun c4 => ?_) (fun c4 => ?_)
    · have hf := ha_it hf c4
      refine lv_iconst (v := 0) hx hb dX9_endIsRight_22 (by decide) ?_
      exact J23 0 z3.2 H locs ls hf  hP hD hS (lv_sub hl [0] rfl)
    · have hf := ha_if hf c4
      exact J18  z3.2 H locs ls hf  hP hD hS (lv_sub hl [0] rfl)

set_option maxHeartbeats 4000000 in
set_option maxRecDepth 100000 in
theorem c_X9_isValue {l : Launch} {D : va_G} {cs : Nat → ClassId} {ad adK adV : Nat → Nat} {N : List Nat} {Z : State → Prop} (hZ : ha_Zok (ha_A ad N) Z) (hN : ∀ x, xo_kd x < 999 → x ∈ N) (hX : ∀ U, Z U → xo_Z adK adV (ha_A ad N) U) {p0 : Nat} {S : ha_St} {out : Int32 × ha_St} (h0 : xo_kd p0 = 9) (hf : f_X9_isValue p0 S = some out) : ha_Ci l D cs ad xo_kd xo_ln N Z yX9_isValue wsX9_isValue ({ frames := 0, cells := 0, slots := 0, locals := 0 } : Room) [.ref (ad p0)] S out.1 out.2 := by
  refine Met.ofW (cc := cX9_isValue) (maxL := 1) (ret := (some .boolean)) (by decide +kernel) rfl ?_
  intro p e s m args below meth c s₁ B hml hv
  obtain ⟨rfl, hP, hD, hK, hz⟩ := hv
  have hx := B.exec
  have hb := B.bytes
  have hr := B.returns
  have hts := atoms_spec (ws := wsX9_isValue) B.pre
  have hown : s.vm.findClass RX9 = some m.cls := findClass_of_methodNamed B.named
  have hlocks := B.notSynchronized
  have hS : va_S (ha_A ad N) s.heap s.heap [] := va_S.rf
  have hi9 : ∀ w ∈ wsX90, w ∈ wsX9_isValue := fun w h => List.mem_cons_of_mem _ (List.mem_append_right _ h)
  have q45 : ha_Fk s ([.ref (ad p0)] : List Value).toArray RX9 45 9 3 0 := ⟨RX9, TX9, 8, wsX9_isValue, rfl, by decide, by decide, rfl, rfl, hts, hi9, hts (.fieldLink RX9 45 "HillArms$Reader" "token" "I") (by decide +kernel)⟩
  have hl := lv_entry ([.ref (ad p0)]) (n := 1) (Nat.le_of_ble_eq_true rfl)
  rw [lg_entry_eq]
  generalize (lg_sl ([.ref (ad p0)]) ++ List.replicate (1 - (lg_sl ([.ref (ad p0)])).length) Slot.unset).toArray = ls at hl ⊢
  have hl : lv_has ls 1 [(0, .ref (ad p0))] := hl
  refine (fun (K0 : ∀ (H : Heap) (locs : List Loc), va_P D vwCl (ha_wl cs ad xo_kd xo_ln N S) H → va_S (ha_A ad N) s.heap H locs → W p l e (headSpec wsX9_isValue ({ frames := 0, cells := 0, slots := 0, locals := 0 } : Room)).room s m ([.ref (ad p0)] : List Value).toArray below meth c H locs 0 0 (MQ below (va_Qi (fun (r : Int32) (_ : Unit) => r = out.1) (fun _ => ha_H D cs ad xo_kd xo_ln N out.2) (ha_A ad N)) ([.ref (ad p0)] : List Value).toArray s 0 0 (ha_A ad N)) (F0 m 0 ls [])) => K0 _ _ hP hS) ?_
  intro H locs hP hS
  have hf := ha_rt hf
  have J21 : ∀ (k0 : Int32) (S : ha_St) (H : Heap) (locs : List Loc) (ls : Array Slot), (f_X9_isValue_J21 p0 k0 S).bind some = some out → va_P D vwCl (ha_wl cs ad xo_kd xo_ln N S) H → va_D (ha_A ad N) (ha_wl cs ad xo_kd xo_ln N S) → va_S (ha_A ad N) s.heap H locs → lv_has ls 1 [(0, .ref (ad p0))] → W p l e (headSpec wsX9_isValue ({ frames := 0, cells := 0, slots := 0, locals := 0 } : Room)).room s m ([.ref (ad p0)] : List Value).toArray below meth c H locs 0 0 (MQ below (va_Qi (fun (r : Int32) (_ : Unit) => r = out.1) (fun _ => ha_H D cs ad xo_kd xo_ln N out.2) (ha_A ad N)) ([.ref (ad p0)] : List Value).toArray s 0 0 (ha_A ad N)) (F0 m 21 ls [.int k0]) := by
    intro k0 S H locs ls hf  hP hD hS hl
    unfold f_X9_isValue_J21 at hf
    obtain ⟨g1, hf⟩ := ha_gds hf
    have he := Option.some.inj hf
    exact ha_retz hx hb hr hlocks hP hD hS dX9_isValue_21 g1 (ha_e1 he) (ha_e2 he)
  have J20 : ∀  (S : ha_St) (H : Heap) (locs : List Loc) (ls : Array Slot), (f_X9_isValue_J20 p0  S).bind some = some out → va_P D vwCl (ha_wl cs ad xo_kd xo_ln N S) H → va_D (ha_A ad N) (ha_wl cs ad xo_kd xo_ln N S) → va_S (ha_A ad N) s.heap H locs → lv_has ls 1 [(0, .ref (ad p0))] → W p l e (headSpec wsX9_isValue ({ frames := 0, cells := 0, slots := 0, locals := 0 } : Room)).room s m ([.ref (ad p0)] : List Value).toArray below meth c H locs 0 0 (MQ below (va_Qi (fun (r : Int32) (_ : Unit) => r = out.1) (fun _ => ha_H D cs ad xo_kd xo_ln N out.2) (ha_A ad N)) ([.ref (ad p0)] : List Value).toArray s 0 0 (ha_A ad N)) (F0 m 20 ls []) := by
    intro  S H locs ls hf  hP hD hS hl
    unfold f_X9_isValue_J20 at hf
    refine lv_iconst (v := 0) hx hb dX9_isValue_20 (by decide) ?_
    exact J21 0 S H locs ls hf  hP hD hS (lv_sub hl [0] rfl)
  unfold f_X9_isValue at hf
  refine lv_aload_n hx hb dX9_isValue_0 rfl (lv_at hl 0 rfl) ?_
  refine ha_geti hx hb hown hK hP q45 hN h0 dX9_isValue_1 ?_
  refine lv_if_lt (tgt := 20) hx hb dX9_isValue_4 (by decide) (fun c2 => ?_) (fun c2 => ?_)
  · have hf := ha_it hf c2
    exact J20  S H locs ls hf  hP hD hS (lv_sub hl [0] rfl)
  · have hf := ha_if hf c2
    refine lv_aload_n hx hb dX9_isValue_7 rfl (lv_at hl 0 rfl) ?_
    refine ha_geti hx hb hown hK hP q45 hN h0 dX9_isValue_8 ?_
    refine lv_bipush (v := 110) hx hb dX9_isValue_11 (by decide) ?_
    refine lv_icmp_ge (tgt := 20) hx hb dX9_isValue_13 (by decide) (fun c3 => ?_) (fun c3 => ?_)
    · have hf := ha_it hf c3
      exact J20  S H locs ls hf  hP hD hS (lv_sub hl [0] rfl)
    · have hf := ha_if hf c3
      refine lv_iconst (v := 1) hx hb dX9_isValue_16 (by decide) ?_
      refine lv_goto (tgt := 21) hx hb dX9_isValue_17 (by decide) ?_
      exact J21 1 S H locs ls hf  hP hD hS (lv_sub hl [0] rfl)

set_option maxHeartbeats 4000000 in
set_option maxRecDepth 100000 in
theorem c_X9_readOne {l : Launch} {D : va_G} {cs : Nat → ClassId} {ad adK adV : Nat → Nat} {N : List Nat} {Z : State → Prop} (hZ : ha_Zok (ha_A ad N) Z) (hN : ∀ x, xo_kd x < 999 → x ∈ N) (hX : ∀ U, Z U → xo_Z adK adV (ha_A ad N) U) {p0 : Nat} {S : ha_St} {out : Int32 × ha_St} (h0 : xo_kd p0 = 9) (hf : f_X9_readOne p0 S = some out) : ha_Ci l D cs ad xo_kd xo_ln N Z yX9_readOne wsX9_readOne ({ frames := 7, cells := 0, slots := 0, locals := 152 } : Room) [.ref (ad p0)] S out.1 out.2 := by
  refine Met.ofW (cc := cX9_readOne) (maxL := 3) (ret := (some .boolean)) (by decide +kernel) rfl ?_
  intro p e s m args below meth c s₁ B hml hv
  obtain ⟨rfl, hP, hD, hK, hz⟩ := hv
  have hx := B.exec
  have hb := B.bytes
  have hr := B.returns
  have hts := atoms_spec (ws := wsX9_readOne) B.pre
  have hown : s.vm.findClass RX9 = some m.cls := findClass_of_methodNamed B.named
  have hlocks := B.notSynchronized
  have hS : va_S (ha_A ad N) s.heap s.heap [] := va_S.rf
  have hi8 : ∀ w ∈ wsX80, w ∈ wsX9_readOne := fun w h => List.mem_cons_of_mem _ (List.mem_append_right _ h)
  have hi9 : ∀ w ∈ wsX90, w ∈ wsX9_readOne := fun w h => List.mem_cons_of_mem _ (List.mem_append_left _ (List.mem_append_right _ h))
  have q18 : ha_Fk s ([.ref (ad p0)] : List Value).toArray RX9 18 9 2 1 := ⟨RX9, TX9, 8, wsX9_readOne, rfl, by decide, by decide, rfl, rfl, hts, hi9, hts (.fieldLink RX9 18 "HillArms$Reader" "into" "LHillArms$Program;") (by decide +kernel)⟩
  have q74 : ha_Fk s ([.ref (ad p0)] : List Value).toArray RX9 74 8 9 0 := ⟨RX8, TX8, 12, wsX9_readOne, rfl, by decide, by decide, rfl, rfl, hts, hi8, hts (.fieldLink RX9 74 "HillArms$Program" "ones" "I") (by decide +kernel)⟩
  have q45 : ha_Fk s ([.ref (ad p0)] : List Value).toArray RX9 45 9 3 0 := ⟨RX9, TX9, 8, wsX9_readOne, rfl, by decide, by decide, rfl, rfl, hts, hi9, hts (.fieldLink RX9 45 "HillArms$Reader" "token" "I") (by decide +kernel)⟩
  have cw0 := cwV (R := (headSpec wsX9_readOne ({ frames := 7, cells := 0, slots := 0, locals := 152 } : Room)).room) 1 hts gX9_readOne_X9_refuse (rm := ({ frames := 0, cells := 0, slots := 0, locals := 0 } : Room)) (mc := 0) (ms := 0) rfl rfl rfl (by decide +kernel) ⟨Nat.le_of_ble_eq_true rfl, Nat.le_of_ble_eq_true rfl⟩
  have cw1 := cwV (R := (headSpec wsX9_readOne ({ frames := 7, cells := 0, slots := 0, locals := 152 } : Room)).room) 0 hts gX9_readOne_X9_isValue (rm := ({ frames := 0, cells := 0, slots := 0, locals := 0 } : Room)) (mc := 0) (ms := 0) rfl rfl rfl (by decide +kernel) ⟨Nat.le_of_ble_eq_true rfl, Nat.le_of_ble_eq_true rfl⟩
  have cw2 := cwV (R := (headSpec wsX9_readOne ({ frames := 7, cells := 0, slots := 0, locals := 152 } : Room)).room) 0 hts gX9_readOne_X9_step (rm := ({ frames := 6, cells := 0, slots := 0, locals := 130 } : Room)) (mc := 0) (ms := 0) rfl rfl rfl (by decide +kernel) ⟨Nat.le_of_ble_eq_true rfl, Nat.le_of_ble_eq_true rfl⟩
  have cw3 := cwV (R := (headSpec wsX9_readOne ({ frames := 7, cells := 0, slots := 0, locals := 152 } : Room)).room) 3 hts gX9_readOne_X8_addOne (rm := ({ frames := 0, cells := 0, slots := 0, locals := 0 } : Room)) (mc := 0) (ms := 0) rfl rfl rfl (by decide +kernel) ⟨Nat.le_of_ble_eq_true rfl, Nat.le_of_ble_eq_true rfl⟩
  have hl := lv_entry ([.ref (ad p0)]) (n := 3) (Nat.le_of_ble_eq_true rfl)
  rw [lg_entry_eq]
  generalize (lg_sl ([.ref (ad p0)]) ++ List.replicate (3 - (lg_sl ([.ref (ad p0)])).length) Slot.unset).toArray = ls at hl ⊢
  have hl : lv_has ls 3 [(0, .ref (ad p0))] := hl
  refine (fun (K0 : ∀ (H : Heap) (locs : List Loc), va_P D vwCl (ha_wl cs ad xo_kd xo_ln N S) H → va_S (ha_A ad N) s.heap H locs → W p l e (headSpec wsX9_readOne ({ frames := 7, cells := 0, slots := 0, locals := 152 } : Room)).room s m ([.ref (ad p0)] : List Value).toArray below meth c H locs 0 0 (MQ below (va_Qi (fun (r : Int32) (_ : Unit) => r = out.1) (fun _ => ha_H D cs ad xo_kd xo_ln N out.2) (ha_A ad N)) ([.ref (ad p0)] : List Value).toArray s 0 0 (ha_A ad N)) (F0 m 0 ls [])) => K0 _ _ hP hS) ?_
  intro H locs hP hS
  have hf := ha_rt hf
  have J57 : ∀  (S : ha_St) (H : Heap) (locs : List Loc) (ls : Array Slot), (f_X9_readOne_J57 p0  S).bind some = some out → va_P D vwCl (ha_wl cs ad xo_kd xo_ln N S) H → va_D (ha_A ad N) (ha_wl cs ad xo_kd xo_ln N S) → va_S (ha_A ad N) s.heap H locs → lv_has ls 3 [(0, .ref (ad p0))] → W p l e (headSpec wsX9_readOne ({ frames := 7, cells := 0, slots := 0, locals := 152 } : Room)).room s m ([.ref (ad p0)] : List Value).toArray below meth c H locs 0 0 (MQ below (va_Qi (fun (r : Int32) (_ : Unit) => r = out.1) (fun _ => ha_H D cs ad xo_kd xo_ln N out.2) (ha_A ad N)) ([.ref (ad p0)] : List Value).toArray s 0 0 (ha_A ad N)) (F0 m 57 ls []) := by
    intro  S H locs ls hf  hP hD hS hl
    unfold f_X9_readOne_J57 at hf
    refine lv_aload_n hx hb dX9_readOne_57 rfl (lv_at hl 0 rfl) ?_
    refine lv_iconst (v := 1) hx hb dX9_readOne_58 (by decide) ?_
    obtain ⟨z1, wz1, hf⟩ := ha_bds hf
    refine ha_callVi (As := [.int 1]) (rest := []) hZ ⟨hx, hb, hml, hown, hts⟩ hK hz hP hD hS (c_X9_refuse hZ hN hX h0 wz1) cw0 hN h0 (by decide) rfl rfl hl.1 rfl (Nat.le_of_ble_eq_true rfl) dX9_readOne_59 ⟨Nat.le_of_ble_eq_true rfl, Nat.le_of_ble_eq_true rfl⟩ (fun H locs hP hD hS => ?_)
    obtain ⟨g2, hf⟩ := ha_gds hf
    have he := Option.some.inj hf
    exact ha_retz hx hb hr hlocks hP hD hS dX9_readOne_62 g2 (ha_e1 he) (ha_e2 he)
  unfold f_X9_readOne at hf
  refine lv_aload_n hx hb dX9_readOne_0 rfl (lv_at hl 0 rfl) ?_
  obtain ⟨z3, wz3, hf⟩ := ha_bds hf
  refine ha_callVi (As := []) (rest := []) hZ ⟨hx, hb, hml, hown, hts⟩ hK hz hP hD hS (c_X9_isValue hZ hN hX h0 wz3) cw1 hN h0 (by decide) rfl rfl hl.1 rfl (Nat.le_of_ble_eq_true rfl) dX9_readOne_1 ⟨Nat.le_of_ble_eq_true rfl, Nat.le_of_ble_eq_true rfl⟩ (fun H locs hP hD hS => ?_)
  refine lv_if_ne (tgt := 13) hx hb dX9_readOne_4 (by decide) (fun c4 => ?_) (fun c4 => ?_)
  · have hf := ha_it hf c4
    refine lv_aload_n hx hb dX9_readOne_13 rfl (lv_at hl 0 rfl) ?_
    obtain ⟨r5, wr5, hf⟩ := ha_bds hf
    obtain ⟨wr5, hr5⟩ := ha_rf_some wr5
    refine ha_getr hx hb hown hK hP q18 hN h0 wr5 dX9_readOne_14 ?_
    refine ha_geti hx hb hown hK hP q74 hN hr5 dX9_readOne_17 ?_
    refine lv_bipush (v := 40) hx hb dX9_readOne_20 (by decide) ?_
    refine lv_icmp_lt (tgt := 31) hx hb dX9_readOne_22 (by decide) (fun c6 => ?_) (fun c6 => ?_)
    · have hf := ha_it hf c6
      refine lv_aload_n hx hb dX9_readOne_31 rfl (lv_at hl 0 rfl) ?_
      refine ha_geti hx hb hown hK hP q45 hN h0 dX9_readOne_32 ?_
      refine lv_topi (fun x7 ex7 => ?_)
      have hf := ha_nms hf ex7
      refine lv_istore_n (lv' := [(1, .int x7), (0, .ref (ad p0))]) hx hb dX9_readOne_35 rfl hl (by decide) rfl (fun ls hl => ?_)
      refine lv_aload_n hx hb dX9_readOne_36 rfl (lv_at hl 1 rfl) ?_
      obtain ⟨z8, wz8, hf⟩ := ha_bds hf
      refine ha_callVv (As := []) (rest := []) hZ ⟨hx, hb, hml, hown, hts⟩ hK hz hP hD hS (c_X9_step hZ hN hX h0 wz8) cw2 hN h0 (by decide) rfl rfl hl.1 rfl (Nat.le_of_ble_eq_true rfl) dX9_readOne_37 ⟨Nat.le_of_ble_eq_true rfl, Nat.le_of_ble_eq_true rfl⟩ (fun H locs hP hD hS => ?_)
      refine lv_aload_n hx hb dX9_readOne_40 rfl (lv_at hl 1 rfl) ?_
      refine ha_geti hx hb hown hK hP q45 hN h0 dX9_readOne_41 ?_
      refine lv_topi (fun x9 ex9 => ?_)
      have hf := ha_nms hf ex9
      refine lv_istore_n (lv' := [(2, .int x9), (1, .int x7), (0, .ref (ad p0))]) hx hb dX9_readOne_44 rfl hl (by decide) rfl (fun ls hl => ?_)
      refine lv_iload_n hx hb dX9_readOne_45 rfl (lv_at hl 0 rfl) ?_
      refine lv_bipush (v := 120) hx hb dX9_readOne_46 (by decide) ?_
      refine lv_icmp_lt (tgt := 57) hx hb dX9_readOne_48 (by decide) (fun c10 => ?_) (fun c10 => ?_)
      · have hf := ha_it hf c10
        exact J57  z8 H locs ls hf  hP hD hS (lv_sub hl [2] rfl)
      · have hf := ha_if hf c10
        refine lv_iload_n hx hb dX9_readOne_51 rfl (lv_at hl 0 rfl) ?_
        refine lv_bipush (v := 123) hx hb dX9_readOne_52 (by decide) ?_
        refine lv_icmp_le (tgt := 63) hx hb dX9_readOne_54 (by decide) (fun c11 => ?_) (fun c11 => ?_)
        · have hf := ha_it hf c11
          refine lv_aload_n hx hb dX9_readOne_63 rfl (lv_at hl 2 rfl) ?_
          obtain ⟨z12, wz12, hf⟩ := ha_bds hf
          refine ha_callVv (As := []) (rest := []) hZ ⟨hx, hb, hml, hown, hts⟩ hK hz hP hD hS (c_X9_step hZ hN hX h0 wz12) cw2 hN h0 (by decide) rfl rfl hl.1 rfl (Nat.le_of_ble_eq_true rfl) dX9_readOne_64 ⟨Nat.le_of_ble_eq_true rfl, Nat.le_of_ble_eq_true rfl⟩ (fun H locs hP hD hS => ?_)
          refine lv_aload_n hx hb dX9_readOne_67 rfl (lv_at hl 2 rfl) ?_
          obtain ⟨z13, wz13, hf⟩ := ha_bds hf
          refine ha_callVi (As := []) (rest := []) hZ ⟨hx, hb, hml, hown, hts⟩ hK hz hP hD hS (c_X9_isValue hZ hN hX h0 wz13) cw1 hN h0 (by decide) rfl rfl hl.1 rfl (Nat.le_of_ble_eq_true rfl) dX9_readOne_68 ⟨Nat.le_of_ble_eq_true rfl, Nat.le_of_ble_eq_true rfl⟩ (fun H locs hP hD hS => ?_)
          refine lv_if_ne (tgt := 80) hx hb dX9_readOne_71 (by decide) (fun c14 => ?_) (fun c14 => ?_)
          · have hf := ha_it hf c14
            refine lv_aload_n hx hb dX9_readOne_80 rfl (lv_at hl 2 rfl) ?_
            obtain ⟨r15, wr15, hf⟩ := ha_bds hf
            obtain ⟨wr15, hr15⟩ := ha_rf_some wr15
            refine ha_getr hx hb hown hK hP q18 hN h0 wr15 dX9_readOne_81 ?_
            refine lv_iload_n hx hb dX9_readOne_84 rfl (lv_at hl 1 rfl) ?_
            refine lv_iload_n hx hb dX9_readOne_85 rfl (lv_at hl 0 rfl) ?_
            refine lv_aload_n hx hb dX9_readOne_86 rfl (lv_at hl 2 rfl) ?_
            refine ha_geti hx hb hown hK hP q45 hN h0 dX9_readOne_87 ?_
            obtain ⟨z16, wz16, hf⟩ := ha_bds hf
            refine ha_callVv (As := [.int x7, .int x9, .int ((ha_gI z13.2 p0 3))]) (rest := []) hZ ⟨hx, hb, hml, hown, hts⟩ hK hz hP hD hS (c_X8_addOne hZ hN hX hr15 wz16) cw3 hN hr15 (by decide) rfl rfl hl.1 rfl (Nat.le_of_ble_eq_true rfl) dX9_readOne_90 ⟨Nat.le_of_ble_eq_true rfl, Nat.le_of_ble_eq_true rfl⟩ (fun H locs hP hD hS => ?_)
            refine lv_aload_n hx hb dX9_readOne_93 rfl (lv_at hl 2 rfl) ?_
            obtain ⟨z17, wz17, hf⟩ := ha_bds hf
            refine ha_callVv (As := []) (rest := []) hZ ⟨hx, hb, hml, hown, hts⟩ hK hz hP hD hS (c_X9_step hZ hN hX h0 wz17) cw2 hN h0 (by decide) rfl rfl hl.1 rfl (Nat.le_of_ble_eq_true rfl) dX9_readOne_94 ⟨Nat.le_of_ble_eq_true rfl, Nat.le_of_ble_eq_true rfl⟩ (fun H locs hP hD hS => ?_)
            refine lv_iconst (v := 1) hx hb dX9_readOne_97 (by decide) ?_
            have he := Option.some.inj hf
            exact ha_retz hx hb hr hlocks hP hD hS dX9_readOne_98 (by decide) (ha_e1 he) (ha_e2 he)
          · have hf := ha_if hf (fun q => q c14)
            refine lv_aload_n hx hb dX9_readOne_74 rfl (lv_at hl 2 rfl) ?_
            refine lv_iconst (v := 1) hx hb dX9_readOne_75 (by decide) ?_
            obtain ⟨z18, wz18, hf⟩ := ha_bds hf
            refine ha_callVi (As := [.int 1]) (rest := []) hZ ⟨hx, hb, hml, hown, hts⟩ hK hz hP hD hS (c_X9_refuse hZ hN hX h0 wz18) cw0 hN h0 (by decide) rfl rfl hl.1 rfl (Nat.le_of_ble_eq_true rfl) dX9_readOne_76 ⟨Nat.le_of_ble_eq_true rfl, Nat.le_of_ble_eq_true rfl⟩ (fun H locs hP hD hS => ?_)
            obtain ⟨g19, hf⟩ := ha_gds hf
            have he := Option.some.inj hf
            exact ha_retz hx hb hr hlocks hP hD hS dX9_readOne_79 g19 (ha_e1 he) (ha_e2 he)
        · have hf := ha_if hf c11
          exact J57  z8 H locs ls hf  hP hD hS (lv_sub hl [2] rfl)
    · have hf := ha_if hf c6
      refine lv_aload_n hx hb dX9_readOne_25 rfl (lv_at hl 0 rfl) ?_
      refine lv_iconst (v := 2) hx hb dX9_readOne_26 (by decide) ?_
      obtain ⟨z20, wz20, hf⟩ := ha_bds hf
      refine ha_callVi (As := [.int 2]) (rest := []) hZ ⟨hx, hb, hml, hown, hts⟩ hK hz hP hD hS (c_X9_refuse hZ hN hX h0 wz20) cw0 hN h0 (by decide) rfl rfl hl.1 rfl (Nat.le_of_ble_eq_true rfl) dX9_readOne_27 ⟨Nat.le_of_ble_eq_true rfl, Nat.le_of_ble_eq_true rfl⟩ (fun H locs hP hD hS => ?_)
      obtain ⟨g21, hf⟩ := ha_gds hf
      have he := Option.some.inj hf
      exact ha_retz hx hb hr hlocks hP hD hS dX9_readOne_30 g21 (ha_e1 he) (ha_e2 he)
  · have hf := ha_if hf (fun q => q c4)
    refine lv_aload_n hx hb dX9_readOne_7 rfl (lv_at hl 0 rfl) ?_
    refine lv_iconst (v := 1) hx hb dX9_readOne_8 (by decide) ?_
    obtain ⟨z22, wz22, hf⟩ := ha_bds hf
    refine ha_callVi (As := [.int 1]) (rest := []) hZ ⟨hx, hb, hml, hown, hts⟩ hK hz hP hD hS (c_X9_refuse hZ hN hX h0 wz22) cw0 hN h0 (by decide) rfl rfl hl.1 rfl (Nat.le_of_ble_eq_true rfl) dX9_readOne_9 ⟨Nat.le_of_ble_eq_true rfl, Nat.le_of_ble_eq_true rfl⟩ (fun H locs hP hD hS => ?_)
    obtain ⟨g23, hf⟩ := ha_gds hf
    have he := Option.some.inj hf
    exact ha_retz hx hb hr hlocks hP hD hS dX9_readOne_12 g23 (ha_e1 he) (ha_e2 he)

set_option maxHeartbeats 4000000 in
set_option maxRecDepth 100000 in
theorem c_X9_readOnes {l : Launch} {D : va_G} {cs : Nat → ClassId} {ad adK adV : Nat → Nat} {N : List Nat} {Z : State → Prop} (hZ : ha_Zok (ha_A ad N) Z) (hN : ∀ x, xo_kd x < 999 → x ∈ N) (hX : ∀ U, Z U → xo_Z adK adV (ha_A ad N) U) {p0 : Nat} {S : ha_St} {out : Int32 × ha_St} (h0 : xo_kd p0 = 9) (hf : f_X9_readOnes p0 S = some out) : ha_Ci l D cs ad xo_kd xo_ln N Z yX9_readOnes wsX9_readOnes ({ frames := 8, cells := 0, slots := 0, locals := 174 } : Room) [.ref (ad p0)] S out.1 out.2 := by
  refine Met.ofW (cc := cX9_readOnes) (maxL := 3) (ret := (some .boolean)) (by decide +kernel) rfl ?_
  intro p e s m args below meth c s₁ B hml hv
  obtain ⟨rfl, hP, hD, hK, hz⟩ := hv
  have hx := B.exec
  have hb := B.bytes
  have hr := B.returns
  have hts := atoms_spec (ws := wsX9_readOnes) B.pre
  have hown : s.vm.findClass RX9 = some m.cls := findClass_of_methodNamed B.named
  have hlocks := B.notSynchronized
  have hS : va_S (ha_A ad N) s.heap s.heap [] := va_S.rf
  have hi9 : ∀ w ∈ wsX90, w ∈ wsX9_readOnes := fun w h => List.mem_cons_of_mem _ (List.mem_append_left _ (List.mem_append_right _ h))
  have q45 : ha_Fk s ([.ref (ad p0)] : List Value).toArray RX9 45 9 3 0 := ⟨RX9, TX9, 8, wsX9_readOnes, rfl, by decide, by decide, rfl, rfl, hts, hi9, hts (.fieldLink RX9 45 "HillArms$Reader" "token" "I") (by decide +kernel)⟩
  have cw0 := cwV (R := (headSpec wsX9_readOnes ({ frames := 8, cells := 0, slots := 0, locals := 174 } : Room)).room) 1 hts gX9_readOnes_X9_refuse (rm := ({ frames := 0, cells := 0, slots := 0, locals := 0 } : Room)) (mc := 0) (ms := 0) rfl rfl rfl (by decide +kernel) ⟨Nat.le_of_ble_eq_true rfl, Nat.le_of_ble_eq_true rfl⟩
  have cw1 := cwV (R := (headSpec wsX9_readOnes ({ frames := 8, cells := 0, slots := 0, locals := 174 } : Room)).room) 0 hts gX9_readOnes_X9_step (rm := ({ frames := 6, cells := 0, slots := 0, locals := 130 } : Room)) (mc := 0) (ms := 0) rfl rfl rfl (by decide +kernel) ⟨Nat.le_of_ble_eq_true rfl, Nat.le_of_ble_eq_true rfl⟩
  have cw2 := cwV (R := (headSpec wsX9_readOnes ({ frames := 8, cells := 0, slots := 0, locals := 174 } : Room)).room) 0 hts gX9_readOnes_X9_readOne (rm := ({ frames := 7, cells := 0, slots := 0, locals := 152 } : Room)) (mc := 0) (ms := 0) rfl rfl rfl (by decide +kernel) ⟨Nat.le_of_ble_eq_true rfl, Nat.le_of_ble_eq_true rfl⟩
  have hl := lv_entry ([.ref (ad p0)]) (n := 3) (Nat.le_of_ble_eq_true rfl)
  rw [lg_entry_eq]
  generalize (lg_sl ([.ref (ad p0)]) ++ List.replicate (3 - (lg_sl ([.ref (ad p0)])).length) Slot.unset).toArray = ls at hl ⊢
  have hl : lv_has ls 3 [(0, .ref (ad p0))] := hl
  refine (fun (K0 : ∀ (H : Heap) (locs : List Loc), va_P D vwCl (ha_wl cs ad xo_kd xo_ln N S) H → va_S (ha_A ad N) s.heap H locs → W p l e (headSpec wsX9_readOnes ({ frames := 8, cells := 0, slots := 0, locals := 174 } : Room)).room s m ([.ref (ad p0)] : List Value).toArray below meth c H locs 0 0 (MQ below (va_Qi (fun (r : Int32) (_ : Unit) => r = out.1) (fun _ => ha_H D cs ad xo_kd xo_ln N out.2) (ha_A ad N)) ([.ref (ad p0)] : List Value).toArray s 0 0 (ha_A ad N)) (F0 m 0 ls [])) => K0 _ _ hP hS) ?_
  intro H locs hP hS
  have hf := ha_rt hf
  have J85 : ∀ (k0 : Int32) (S : ha_St) (H : Heap) (locs : List Loc) (ls : Array Slot), (f_X9_readOnes_J85 p0 k0 S).bind some = some out → va_P D vwCl (ha_wl cs ad xo_kd xo_ln N S) H → va_D (ha_A ad N) (ha_wl cs ad xo_kd xo_ln N S) → va_S (ha_A ad N) s.heap H locs → lv_has ls 3 [(0, .ref (ad p0))] → W p l e (headSpec wsX9_readOnes ({ frames := 8, cells := 0, slots := 0, locals := 174 } : Room)).room s m ([.ref (ad p0)] : List Value).toArray below meth c H locs 0 0 (MQ below (va_Qi (fun (r : Int32) (_ : Unit) => r = out.1) (fun _ => ha_H D cs ad xo_kd xo_ln N out.2) (ha_A ad N)) ([.ref (ad p0)] : List Value).toArray s 0 0 (ha_A ad N)) (F0 m 85 ls [.int k0]) := by
    intro k0 S H locs ls hf  hP hD hS hl
    unfold f_X9_readOnes_J85 at hf
    obtain ⟨g1, hf⟩ := ha_gds hf
    have he := Option.some.inj hf
    exact ha_retz hx hb hr hlocks hP hD hS dX9_readOnes_85 g1 (ha_e1 he) (ha_e2 he)
  have J80 : ∀  (S : ha_St) (H : Heap) (locs : List Loc) (ls : Array Slot), (f_X9_readOnes_J80 p0  S).bind some = some out → va_P D vwCl (ha_wl cs ad xo_kd xo_ln N S) H → va_D (ha_A ad N) (ha_wl cs ad xo_kd xo_ln N S) → va_S (ha_A ad N) s.heap H locs → lv_has ls 3 [(0, .ref (ad p0))] → W p l e (headSpec wsX9_readOnes ({ frames := 8, cells := 0, slots := 0, locals := 174 } : Room)).room s m ([.ref (ad p0)] : List Value).toArray below meth c H locs 0 0 (MQ below (va_Qi (fun (r : Int32) (_ : Unit) => r = out.1) (fun _ => ha_H D cs ad xo_kd xo_ln N out.2) (ha_A ad N)) ([.ref (ad p0)] : List Value).toArray s 0 0 (ha_A ad N)) (F0 m 80 ls []) := by
    intro  S H locs ls hf  hP hD hS hl
    unfold f_X9_readOnes_J80 at hf
    refine lv_iconst (v := 1) hx hb dX9_readOnes_80 (by decide) ?_
    refine lv_goto (tgt := 85) hx hb dX9_readOnes_81 (by decide) ?_
    exact J85 1 S H locs ls hf  hP hD hS (lv_sub hl [0] rfl)
  have J63 : ∀  (S : ha_St) (H : Heap) (locs : List Loc) (ls : Array Slot), (f_X9_readOnes_J63 p0  S).bind some = some out → va_P D vwCl (ha_wl cs ad xo_kd xo_ln N S) H → va_D (ha_A ad N) (ha_wl cs ad xo_kd xo_ln N S) → va_S (ha_A ad N) s.heap H locs → lv_has ls 3 [(0, .ref (ad p0))] → W p l e (headSpec wsX9_readOnes ({ frames := 8, cells := 0, slots := 0, locals := 174 } : Room)).room s m ([.ref (ad p0)] : List Value).toArray below meth c H locs 0 0 (MQ below (va_Qi (fun (r : Int32) (_ : Unit) => r = out.1) (fun _ => ha_H D cs ad xo_kd xo_ln N out.2) (ha_A ad N)) ([.ref (ad p0)] : List Value).toArray s 0 0 (ha_A ad N)) (F0 m 63 ls []) := by
    intro  S H locs ls hf  hP hD hS hl
    unfold f_X9_readOnes_J63 at hf
    refine lv_aload_n hx hb dX9_readOnes_63 rfl (lv_at hl 0 rfl) ?_
    refine ha_geti hx hb hown hK hP q45 hN h0 dX9_readOnes_64 ?_
    refine lv_bipush (v := 112) hx hb dX9_readOnes_67 (by decide) ?_
    refine lv_icmp_eq (tgt := 80) hx hb dX9_readOnes_69 (by decide) (fun c2 => ?_) (fun c2 => ?_)
    · have hf := ha_it hf c2
      exact J80  S H locs ls hf  hP hD hS (lv_sub hl [0] rfl)
    · have hf := ha_if hf c2
      refine lv_aload_n hx hb dX9_readOnes_72 rfl (lv_at hl 0 rfl) ?_
      refine lv_iconst (v := 1) hx hb dX9_readOnes_73 (by decide) ?_
      obtain ⟨z3, wz3, hf⟩ := ha_bds hf
      refine ha_callVi (As := [.int 1]) (rest := []) hZ ⟨hx, hb, hml, hown, hts⟩ hK hz hP hD hS (c_X9_refuse hZ hN hX h0 wz3) cw0 hN h0 (by decide) rfl rfl hl.1 rfl (Nat.le_of_ble_eq_true rfl) dX9_readOnes_74 ⟨Nat.le_of_ble_eq_true rfl, Nat.le_of_ble_eq_true rfl⟩ (fun H locs hP hD hS => ?_)
      refine lv_if_eq (tgt := 84) hx hb dX9_readOnes_77 (by decide) (fun c4 => ?_) (fun c4 => ?_)
      · have hf := ha_it hf c4
        refine lv_iconst (v := 0) hx hb dX9_readOnes_84 (by decide) ?_
        exact J85 0 z3.2 H locs ls hf  hP hD hS (lv_sub hl [0] rfl)
      · have hf := ha_if hf c4
        exact J80  z3.2 H locs ls hf  hP hD hS (lv_sub hl [0] rfl)
  unfold f_X9_readOnes at hf
  refine lv_aload_n hx hb dX9_readOnes_0 rfl (lv_at hl 0 rfl) ?_
  refine ha_geti hx hb hown hK hP q45 hN h0 dX9_readOnes_1 ?_
  refine lv_bipush (v := 110) hx hb dX9_readOnes_4 (by decide) ?_
  refine lv_icmp_eq (tgt := 15) hx hb dX9_readOnes_6 (by decide) (fun c5 => ?_) (fun c5 => ?_)
  · have hf := ha_it hf c5
    refine lv_iconst (v := 1) hx hb dX9_readOnes_15 (by decide) ?_
    refine lv_istore_n (lv' := [(1, .int 1), (0, .ref (ad p0))]) hx hb dX9_readOnes_16 rfl hl (by decide) rfl (fun ls hl => ?_)
    refine lv_iconst (v := 0) hx hb dX9_readOnes_17 (by decide) ?_
    refine lv_istore_n (lv' := [(2, .int 0), (1, .int 1), (0, .ref (ad p0))]) hx hb dX9_readOnes_18 rfl hl (by decide) rfl (fun ls hl => ?_)
    have key13 : ∀ (K : ((ha_St) ⊕ (Int32 × ha_St)) → Option (Int32 × ha_St)), (∀  (S : ha_St) (H : Heap) (locs : List Loc) (ls : Array Slot), K (.inl S) = some out → va_P D vwCl (ha_wl cs ad xo_kd xo_ln N S) H → va_D (ha_A ad N) (ha_wl cs ad xo_kd xo_ln N S) → va_S (ha_A ad N) s.heap H locs → lv_has ls 3 [(0, .ref (ad p0))] → W p l e (headSpec wsX9_readOnes ({ frames := 8, cells := 0, slots := 0, locals := 174 } : Room)).room s m ([.ref (ad p0)] : List Value).toArray below meth c H locs 0 0 (MQ below (va_Qi (fun (r : Int32) (_ : Unit) => r = out.1) (fun _ => ha_H D cs ad xo_kd xo_ln N out.2) (ha_A ad N)) ([.ref (ad p0)] : List Value).toArray s 0 0 (ha_A ad N)) (F0 m 63 ls [])) → (∀ r, K (.inr r) = some out → r = out) → ∀ (n : Nat) (v1 : Int32) (v2 : Int32) (S : ha_St) (H : Heap) (locs : List Loc) (ls : Array Slot), (f_X9_readOnes_L19i p0 n (v1, v2, S)).bind K = some out → va_P D vwCl (ha_wl cs ad xo_kd xo_ln N S) H → va_D (ha_A ad N) (ha_wl cs ad xo_kd xo_ln N S) → va_S (ha_A ad N) s.heap H locs → lv_has ls 3 [(0, .ref (ad p0)), (1, .int v1), (2, .int v2)] → W p l e (headSpec wsX9_readOnes ({ frames := 8, cells := 0, slots := 0, locals := 174 } : Room)).room s m ([.ref (ad p0)] : List Value).toArray below meth c H locs 0 0 (MQ below (va_Qi (fun (r : Int32) (_ : Unit) => r = out.1) (fun _ => ha_H D cs ad xo_kd xo_ln N out.2) (ha_A ad N)) ([.ref (ad p0)] : List Value).toArray s 0 0 (ha_A ad N)) (F0 m 19 ls []) := by
      intro K hk hke n
      induction n with
      | zero =>
        intro v1 v2 S H locs ls hf
        exact absurd (show (none : Option (Int32 × ha_St)) = some out from hf) (fun h => by cases h)
      | succ n ih =>
        intro v1 v2 S H locs ls hf  hP hD hS hl
        have J56 : ∀ (v2 : Int32) (k0 : Int32) (S : ha_St) (H : Heap) (locs : List Loc) (ls : Array Slot), (f_X9_readOnes_L19_J56 p0 (f_X9_readOnes_L19i p0 n) v2 k0 S).bind K = some out → va_P D vwCl (ha_wl cs ad xo_kd xo_ln N S) H → va_D (ha_A ad N) (ha_wl cs ad xo_kd xo_ln N S) → va_S (ha_A ad N) s.heap H locs → lv_has ls 3 [(0, .ref (ad p0)), (2, .int v2)] → W p l e (headSpec wsX9_readOnes ({ frames := 8, cells := 0, slots := 0, locals := 174 } : Room)).room s m ([.ref (ad p0)] : List Value).toArray below meth c H locs 0 0 (MQ below (va_Qi (fun (r : Int32) (_ : Unit) => r = out.1) (fun _ => ha_H D cs ad xo_kd xo_ln N out.2) (ha_A ad N)) ([.ref (ad p0)] : List Value).toArray s 0 0 (ha_A ad N)) (F0 m 56 ls [.int k0]) := by
          intro v2 k0 S H locs ls hf  hP hD hS hl
          unfold f_X9_readOnes_L19_J56 at hf
          refine lv_istore_n (lv' := [(1, .int k0), (0, .ref (ad p0)), (2, .int v2)]) hx hb dX9_readOnes_56 rfl hl (by decide) rfl (fun ls hl => ?_)
          obtain ⟨x6, ex6⟩ : ∃ y : Int32, y = (v2 : Int32) + 1 := ⟨_, rfl⟩
          have hf := ha_nms hf ex6
          refine lv_iinc (v := x6) (lv' := [(2, .int x6), (1, .int k0), (0, .ref (ad p0))]) hx hb dX9_readOnes_57 hl (k := 2) rfl (by rw [ex6]; rfl) (by decide) rfl (fun ls hl => ?_)
          refine lv_goto (tgt := 19) hx hb dX9_readOnes_60 (by decide) ?_
          exact ih k0 x6 S H locs ls hf  hP hD hS (lv_sub hl [2, 1, 0] rfl)
        have hf : (f_X9_readOnes_L19 p0 (f_X9_readOnes_L19i p0 n) v1 v2 S).bind K = some out := hf
        unfold f_X9_readOnes_L19 at hf
        refine lv_iload_n hx hb dX9_readOnes_19 rfl (lv_at hl 2 rfl) ?_
        refine lv_bipush (v := 40) hx hb dX9_readOnes_20 (by decide) ?_
        refine lv_icmp_gt (tgt := 63) hx hb dX9_readOnes_22 (by decide) (fun c7 => ?_) (fun c7 => ?_)
        · have hf := ha_it hf c7
          exact hk  S H locs ls hf  hP hD hS (lv_sub hl [0] rfl)
        · have hf := ha_if hf c7
          refine lv_iload_n hx hb dX9_readOnes_25 rfl (lv_at hl 1 rfl) ?_
          refine lv_if_eq (tgt := 63) hx hb dX9_readOnes_26 (by decide) (fun c8 => ?_) (fun c8 => ?_)
          · have hf := ha_it hf c8
            exact hk  S H locs ls hf  hP hD hS (lv_sub hl [0] rfl)
          · have hf := ha_if hf c8
            refine lv_aload_n hx hb dX9_readOnes_29 rfl (lv_at hl 0 rfl) ?_
            obtain ⟨z9, wz9, hf⟩ := ha_bds hf
            refine ha_callVv (As := []) (rest := []) hZ ⟨hx, hb, hml, hown, hts⟩ hK hz hP hD hS (c_X9_step hZ hN hX h0 wz9) cw1 hN h0 (by decide) rfl rfl hl.1 rfl (Nat.le_of_ble_eq_true rfl) dX9_readOnes_30 ⟨Nat.le_of_ble_eq_true rfl, Nat.le_of_ble_eq_true rfl⟩ (fun H locs hP hD hS => ?_)
            refine lv_aload_n hx hb dX9_readOnes_33 rfl (lv_at hl 0 rfl) ?_
            obtain ⟨z10, wz10, hf⟩ := ha_bds hf
            refine ha_callVi (As := []) (rest := []) hZ ⟨hx, hb, hml, hown, hts⟩ hK hz hP hD hS (c_X9_readOne hZ hN hX h0 wz10) cw2 hN h0 (by decide) rfl rfl hl.1 rfl (Nat.le_of_ble_eq_true rfl) dX9_readOnes_34 ⟨Nat.le_of_ble_eq_true rfl, Nat.le_of_ble_eq_true rfl⟩ (fun H locs hP hD hS => ?_)
            refine lv_if_ne (tgt := 42) hx hb dX9_readOnes_37 (by decide) (fun c11 => ?_) (fun c11 => ?_)
            · have hf := ha_it hf c11
              refine lv_aload_n hx hb dX9_readOnes_42 rfl (lv_at hl 0 rfl) ?_
              refine ha_geti hx hb hown hK hP q45 hN h0 dX9_readOnes_43 ?_
              refine lv_bipush (v := 111) hx hb dX9_readOnes_46 (by decide) ?_
              refine lv_icmp_ne (tgt := 55) hx hb dX9_readOnes_48 (by decide) (fun c12 => ?_) (fun c12 => ?_)
              · have hf := ha_it hf c12
                refine lv_iconst (v := 0) hx hb dX9_readOnes_55 (by decide) ?_
                exact J56 v2 0 z10.2 H locs ls hf  hP hD hS (lv_sub hl [0, 2] rfl)
              · have hf := ha_if hf (fun q => q c12)
                refine lv_iconst (v := 1) hx hb dX9_readOnes_51 (by decide) ?_
                refine lv_goto (tgt := 56) hx hb dX9_readOnes_52 (by decide) ?_
                exact J56 v2 1 z10.2 H locs ls hf  hP hD hS (lv_sub hl [0, 2] rfl)
            · have hf := ha_if hf (fun q => q c11)
              refine lv_iconst (v := 0) hx hb dX9_readOnes_40 (by decide) ?_
              have he := hke _ hf
              exact ha_retz hx hb hr hlocks hP hD hS dX9_readOnes_41 (by decide) (ha_e1 he) (ha_e2 he)
    refine key13 _ (fun  S H locs ls hf  hP hD hS hl => ?_) (fun r h => Option.some.inj h) ha_fu 1 0 S H locs ls (ha_as hf)  hP hD hS (lv_sub hl [2, 1, 0] rfl)
    have hf : (f_X9_readOnes_J63 p0  S).bind some = some out := hf
    exact J63  S H locs ls hf  hP hD hS (lv_sub hl [0] rfl)
  · have hf := ha_if hf c5
    refine lv_aload_n hx hb dX9_readOnes_9 rfl (lv_at hl 0 rfl) ?_
    refine lv_iconst (v := 1) hx hb dX9_readOnes_10 (by decide) ?_
    obtain ⟨z15, wz15, hf⟩ := ha_bds hf
    refine ha_callVi (As := [.int 1]) (rest := []) hZ ⟨hx, hb, hml, hown, hts⟩ hK hz hP hD hS (c_X9_refuse hZ hN hX h0 wz15) cw0 hN h0 (by decide) rfl rfl hl.1 rfl (Nat.le_of_ble_eq_true rfl) dX9_readOnes_11 ⟨Nat.le_of_ble_eq_true rfl, Nat.le_of_ble_eq_true rfl⟩ (fun H locs hP hD hS => ?_)
    obtain ⟨g16, hf⟩ := ha_gds hf
    have he := Option.some.inj hf
    exact ha_retz hx hb hr hlocks hP hD hS dX9_readOnes_14 g16 (ha_e1 he) (ha_e2 he)

set_option maxHeartbeats 4000000 in
set_option maxRecDepth 100000 in
theorem c_X9_readAct {l : Launch} {D : va_G} {cs : Nat → ClassId} {ad adK adV : Nat → Nat} {N : List Nat} {Z : State → Prop} (hZ : ha_Zok (ha_A ad N) Z) (hN : ∀ x, xo_kd x < 999 → x ∈ N) (hX : ∀ U, Z U → xo_Z adK adV (ha_A ad N) U) {p0 : Nat} {S : ha_St} {out : Int32 × ha_St} (h0 : xo_kd p0 = 9) (hf : f_X9_readAct p0 S = some out) : ha_Ci l D cs ad xo_kd xo_ln N Z yX9_readAct wsX9_readAct ({ frames := 7, cells := 0, slots := 0, locals := 152 } : Room) [.ref (ad p0)] S out.1 out.2 := by
  refine Met.ofW (cc := cX9_readAct) (maxL := 5) (ret := (some .boolean)) (by decide +kernel) rfl ?_
  intro p e s m args below meth c s₁ B hml hv
  obtain ⟨rfl, hP, hD, hK, hz⟩ := hv
  have hx := B.exec
  have hb := B.bytes
  have hr := B.returns
  have hts := atoms_spec (ws := wsX9_readAct) B.pre
  have hown : s.vm.findClass RX9 = some m.cls := findClass_of_methodNamed B.named
  have hlocks := B.notSynchronized
  have hS : va_S (ha_A ad N) s.heap s.heap [] := va_S.rf
  have hi8 : ∀ w ∈ wsX80, w ∈ wsX9_readAct := fun w h => List.mem_cons_of_mem _ (List.mem_append_right _ h)
  have hi9 : ∀ w ∈ wsX90, w ∈ wsX9_readAct := fun w h => List.mem_cons_of_mem _ (List.mem_append_left _ (List.mem_append_right _ h))
  have q18 : ha_Fk s ([.ref (ad p0)] : List Value).toArray RX9 18 9 2 1 := ⟨RX9, TX9, 8, wsX9_readAct, rfl, by decide, by decide, rfl, rfl, hts, hi9, hts (.fieldLink RX9 18 "HillArms$Reader" "into" "LHillArms$Program;") (by decide +kernel)⟩
  have q45 : ha_Fk s ([.ref (ad p0)] : List Value).toArray RX9 45 9 3 0 := ⟨RX9, TX9, 8, wsX9_readAct, rfl, by decide, by decide, rfl, rfl, hts, hi9, hts (.fieldLink RX9 45 "HillArms$Reader" "token" "I") (by decide +kernel)⟩
  have q84 : ha_Fk s ([.ref (ad p0)] : List Value).toArray RX9 84 8 10 0 := ⟨RX8, TX8, 12, wsX9_readAct, rfl, by decide, by decide, rfl, rfl, hts, hi8, hts (.fieldLink RX9 84 "HillArms$Program" "acts" "I") (by decide +kernel)⟩
  have cw0 := cwV (R := (headSpec wsX9_readAct ({ frames := 7, cells := 0, slots := 0, locals := 152 } : Room)).room) 3 hts gX9_readAct_X8_addAct (rm := ({ frames := 0, cells := 0, slots := 0, locals := 0 } : Room)) (mc := 0) (ms := 0) rfl rfl rfl (by decide +kernel) ⟨Nat.le_of_ble_eq_true rfl, Nat.le_of_ble_eq_true rfl⟩
  have cw1 := cwV (R := (headSpec wsX9_readAct ({ frames := 7, cells := 0, slots := 0, locals := 152 } : Room)).room) 0 hts gX9_readAct_X9_isValue (rm := ({ frames := 0, cells := 0, slots := 0, locals := 0 } : Room)) (mc := 0) (ms := 0) rfl rfl rfl (by decide +kernel) ⟨Nat.le_of_ble_eq_true rfl, Nat.le_of_ble_eq_true rfl⟩
  have cw2 := cwV (R := (headSpec wsX9_readAct ({ frames := 7, cells := 0, slots := 0, locals := 152 } : Room)).room) 0 hts gX9_readAct_X9_step (rm := ({ frames := 6, cells := 0, slots := 0, locals := 130 } : Room)) (mc := 0) (ms := 0) rfl rfl rfl (by decide +kernel) ⟨Nat.le_of_ble_eq_true rfl, Nat.le_of_ble_eq_true rfl⟩
  have cw3 := cwV (R := (headSpec wsX9_readAct ({ frames := 7, cells := 0, slots := 0, locals := 152 } : Room)).room) 1 hts gX9_readAct_X9_refuse (rm := ({ frames := 0, cells := 0, slots := 0, locals := 0 } : Room)) (mc := 0) (ms := 0) rfl rfl rfl (by decide +kernel) ⟨Nat.le_of_ble_eq_true rfl, Nat.le_of_ble_eq_true rfl⟩
  have hl := lv_entry ([.ref (ad p0)]) (n := 5) (Nat.le_of_ble_eq_true rfl)
  rw [lg_entry_eq]
  generalize (lg_sl ([.ref (ad p0)]) ++ List.replicate (5 - (lg_sl ([.ref (ad p0)])).length) Slot.unset).toArray = ls at hl ⊢
  have hl : lv_has ls 5 [(0, .ref (ad p0))] := hl
  refine (fun (K0 : ∀ (H : Heap) (locs : List Loc), va_P D vwCl (ha_wl cs ad xo_kd xo_ln N S) H → va_S (ha_A ad N) s.heap H locs → W p l e (headSpec wsX9_readAct ({ frames := 7, cells := 0, slots := 0, locals := 152 } : Room)).room s m ([.ref (ad p0)] : List Value).toArray below meth c H locs 0 0 (MQ below (va_Qi (fun (r : Int32) (_ : Unit) => r = out.1) (fun _ => ha_H D cs ad xo_kd xo_ln N out.2) (ha_A ad N)) ([.ref (ad p0)] : List Value).toArray s 0 0 (ha_A ad N)) (F0 m 0 ls [])) => K0 _ _ hP hS) ?_
  intro H locs hP hS
  have hf := ha_rt hf
  have J175 : ∀ (v1 : Int32) (v3 : Int32) (v4 : Int32) (S : ha_St) (H : Heap) (locs : List Loc) (ls : Array Slot), (f_X9_readAct_J175 p0 v1 v3 v4 S).bind some = some out → va_P D vwCl (ha_wl cs ad xo_kd xo_ln N S) H → va_D (ha_A ad N) (ha_wl cs ad xo_kd xo_ln N S) → va_S (ha_A ad N) s.heap H locs → lv_has ls 5 [(0, .ref (ad p0)), (1, .int v1), (3, .int v3), (4, .int v4)] → W p l e (headSpec wsX9_readAct ({ frames := 7, cells := 0, slots := 0, locals := 152 } : Room)).room s m ([.ref (ad p0)] : List Value).toArray below meth c H locs 0 0 (MQ below (va_Qi (fun (r : Int32) (_ : Unit) => r = out.1) (fun _ => ha_H D cs ad xo_kd xo_ln N out.2) (ha_A ad N)) ([.ref (ad p0)] : List Value).toArray s 0 0 (ha_A ad N)) (F0 m 175 ls []) := by
    intro v1 v3 v4 S H locs ls hf  hP hD hS hl
    unfold f_X9_readAct_J175 at hf
    refine lv_aload_n hx hb dX9_readAct_175 rfl (lv_at hl 0 rfl) ?_
    obtain ⟨r1, wr1, hf⟩ := ha_bds hf
    obtain ⟨wr1, hr1⟩ := ha_rf_some wr1
    refine ha_getr hx hb hown hK hP q18 hN h0 wr1 dX9_readAct_176 ?_
    refine lv_iload_n hx hb dX9_readAct_179 rfl (lv_at hl 1 rfl) ?_
    refine lv_iload_n hx hb dX9_readAct_180 rfl (lv_at hl 2 rfl) ?_
    refine lv_iload hx hb dX9_readAct_181 (lv_at hl 3 rfl) ?_
    obtain ⟨z2, wz2, hf⟩ := ha_bds hf
    refine ha_callVv (As := [.int v1, .int v3, .int v4]) (rest := []) hZ ⟨hx, hb, hml, hown, hts⟩ hK hz hP hD hS (c_X8_addAct hZ hN hX hr1 wz2) cw0 hN hr1 (by decide) rfl rfl hl.1 rfl (Nat.le_of_ble_eq_true rfl) dX9_readAct_183 ⟨Nat.le_of_ble_eq_true rfl, Nat.le_of_ble_eq_true rfl⟩ (fun H locs hP hD hS => ?_)
    refine lv_iconst (v := 1) hx hb dX9_readAct_186 (by decide) ?_
    have he := Option.some.inj hf
    exact ha_retz hx hb hr hlocks hP hD hS dX9_readAct_187 (by decide) (ha_e1 he) (ha_e2 he)
  have J114 : ∀ (v1 : Int32) (S : ha_St) (H : Heap) (locs : List Loc) (ls : Array Slot), (f_X9_readAct_J114 p0 v1 S).bind some = some out → va_P D vwCl (ha_wl cs ad xo_kd xo_ln N S) H → va_D (ha_A ad N) (ha_wl cs ad xo_kd xo_ln N S) → va_S (ha_A ad N) s.heap H locs → lv_has ls 5 [(0, .ref (ad p0)), (1, .int v1)] → W p l e (headSpec wsX9_readAct ({ frames := 7, cells := 0, slots := 0, locals := 152 } : Room)).room s m ([.ref (ad p0)] : List Value).toArray below meth c H locs 0 0 (MQ below (va_Qi (fun (r : Int32) (_ : Unit) => r = out.1) (fun _ => ha_H D cs ad xo_kd xo_ln N out.2) (ha_A ad N)) ([.ref (ad p0)] : List Value).toArray s 0 0 (ha_A ad N)) (F0 m 114 ls []) := by
    intro v1 S H locs ls hf  hP hD hS hl
    unfold f_X9_readAct_J114 at hf
    refine lv_aload_n hx hb dX9_readAct_114 rfl (lv_at hl 0 rfl) ?_
    obtain ⟨z3, wz3, hf⟩ := ha_bds hf
    refine ha_callVi (As := []) (rest := []) hZ ⟨hx, hb, hml, hown, hts⟩ hK hz hP hD hS (c_X9_isValue hZ hN hX h0 wz3) cw1 hN h0 (by decide) rfl rfl hl.1 rfl (Nat.le_of_ble_eq_true rfl) dX9_readAct_115 ⟨Nat.le_of_ble_eq_true rfl, Nat.le_of_ble_eq_true rfl⟩ (fun H locs hP hD hS => ?_)
    refine lv_if_ne (tgt := 127) hx hb dX9_readAct_118 (by decide) (fun c4 => ?_) (fun c4 => ?_)
    · have hf := ha_it hf c4
      refine lv_aload_n hx hb dX9_readAct_127 rfl (lv_at hl 0 rfl) ?_
      refine ha_geti hx hb hown hK hP q45 hN h0 dX9_readAct_128 ?_
      refine lv_topi (fun x5 ex5 => ?_)
      have hf := ha_nms hf ex5
      refine lv_istore_n (lv' := [(3, .int x5), (0, .ref (ad p0)), (1, .int v1)]) hx hb dX9_readAct_131 rfl hl (by decide) rfl (fun ls hl => ?_)
      refine lv_iconst (v := 0) hx hb dX9_readAct_132 (by decide) ?_
      refine lv_istore (lv' := [(4, .int 0), (3, .int x5), (0, .ref (ad p0)), (1, .int v1)]) hx hb dX9_readAct_133 hl (by decide) rfl (fun ls hl => ?_)
      refine lv_aload_n hx hb dX9_readAct_135 rfl (lv_at hl 2 rfl) ?_
      obtain ⟨z6, wz6, hf⟩ := ha_bds hf
      refine ha_callVv (As := []) (rest := []) hZ ⟨hx, hb, hml, hown, hts⟩ hK hz hP hD hS (c_X9_step hZ hN hX h0 wz6) cw2 hN h0 (by decide) rfl rfl hl.1 rfl (Nat.le_of_ble_eq_true rfl) dX9_readAct_136 ⟨Nat.le_of_ble_eq_true rfl, Nat.le_of_ble_eq_true rfl⟩ (fun H locs hP hD hS => ?_)
      refine lv_aload_n hx hb dX9_readAct_139 rfl (lv_at hl 2 rfl) ?_
      refine ha_geti hx hb hown hK hP q45 hN h0 dX9_readAct_140 ?_
      refine lv_bipush (v := 119) hx hb dX9_readAct_143 (by decide) ?_
      refine lv_icmp_ne (tgt := 175) hx hb dX9_readAct_145 (by decide) (fun c7 => ?_) (fun c7 => ?_)
      · have hf := ha_it hf c7
        exact J175 v1 x5 0 z6 H locs ls hf  hP hD hS (lv_sub hl [2, 3, 1, 0] rfl)
      · have hf := ha_if hf (fun q => q c7)
        refine lv_aload_n hx hb dX9_readAct_148 rfl (lv_at hl 2 rfl) ?_
        obtain ⟨z8, wz8, hf⟩ := ha_bds hf
        refine ha_callVv (As := []) (rest := []) hZ ⟨hx, hb, hml, hown, hts⟩ hK hz hP hD hS (c_X9_step hZ hN hX h0 wz8) cw2 hN h0 (by decide) rfl rfl hl.1 rfl (Nat.le_of_ble_eq_true rfl) dX9_readAct_149 ⟨Nat.le_of_ble_eq_true rfl, Nat.le_of_ble_eq_true rfl⟩ (fun H locs hP hD hS => ?_)
        refine lv_aload_n hx hb dX9_readAct_152 rfl (lv_at hl 2 rfl) ?_
        obtain ⟨z9, wz9, hf⟩ := ha_bds hf
        refine ha_callVi (As := []) (rest := []) hZ ⟨hx, hb, hml, hown, hts⟩ hK hz hP hD hS (c_X9_isValue hZ hN hX h0 wz9) cw1 hN h0 (by decide) rfl rfl hl.1 rfl (Nat.le_of_ble_eq_true rfl) dX9_readAct_153 ⟨Nat.le_of_ble_eq_true rfl, Nat.le_of_ble_eq_true rfl⟩ (fun H locs hP hD hS => ?_)
        refine lv_if_ne (tgt := 165) hx hb dX9_readAct_156 (by decide) (fun c10 => ?_) (fun c10 => ?_)
        · have hf := ha_it hf c10
          refine lv_aload_n hx hb dX9_readAct_165 rfl (lv_at hl 2 rfl) ?_
          refine ha_geti hx hb hown hK hP q45 hN h0 dX9_readAct_166 ?_
          refine lv_topi (fun x11 ex11 => ?_)
          have hf := ha_nms hf ex11
          refine lv_istore (lv' := [(4, .int x11), (3, .int x5), (0, .ref (ad p0)), (1, .int v1)]) hx hb dX9_readAct_169 hl (by decide) rfl (fun ls hl => ?_)
          refine lv_aload_n hx hb dX9_readAct_171 rfl (lv_at hl 2 rfl) ?_
          obtain ⟨z12, wz12, hf⟩ := ha_bds hf
          refine ha_callVv (As := []) (rest := []) hZ ⟨hx, hb, hml, hown, hts⟩ hK hz hP hD hS (c_X9_step hZ hN hX h0 wz12) cw2 hN h0 (by decide) rfl rfl hl.1 rfl (Nat.le_of_ble_eq_true rfl) dX9_readAct_172 ⟨Nat.le_of_ble_eq_true rfl, Nat.le_of_ble_eq_true rfl⟩ (fun H locs hP hD hS => ?_)
          exact J175 v1 x5 x11 z12 H locs ls hf  hP hD hS (lv_sub hl [2, 3, 1, 0] rfl)
        · have hf := ha_if hf (fun q => q c10)
          refine lv_aload_n hx hb dX9_readAct_159 rfl (lv_at hl 2 rfl) ?_
          refine lv_iconst (v := 1) hx hb dX9_readAct_160 (by decide) ?_
          obtain ⟨z13, wz13, hf⟩ := ha_bds hf
          refine ha_callVi (As := [.int 1]) (rest := []) hZ ⟨hx, hb, hml, hown, hts⟩ hK hz hP hD hS (c_X9_refuse hZ hN hX h0 wz13) cw3 hN h0 (by decide) rfl rfl hl.1 rfl (Nat.le_of_ble_eq_true rfl) dX9_readAct_161 ⟨Nat.le_of_ble_eq_true rfl, Nat.le_of_ble_eq_true rfl⟩ (fun H locs hP hD hS => ?_)
          obtain ⟨g14, hf⟩ := ha_gds hf
          have he := Option.some.inj hf
          exact ha_retz hx hb hr hlocks hP hD hS dX9_readAct_164 g14 (ha_e1 he) (ha_e2 he)
    · have hf := ha_if hf (fun q => q c4)
      refine lv_aload_n hx hb dX9_readAct_121 rfl (lv_at hl 0 rfl) ?_
      refine lv_iconst (v := 1) hx hb dX9_readAct_122 (by decide) ?_
      obtain ⟨z15, wz15, hf⟩ := ha_bds hf
      refine ha_callVi (As := [.int 1]) (rest := []) hZ ⟨hx, hb, hml, hown, hts⟩ hK hz hP hD hS (c_X9_refuse hZ hN hX h0 wz15) cw3 hN h0 (by decide) rfl rfl hl.1 rfl (Nat.le_of_ble_eq_true rfl) dX9_readAct_123 ⟨Nat.le_of_ble_eq_true rfl, Nat.le_of_ble_eq_true rfl⟩ (fun H locs hP hD hS => ?_)
      obtain ⟨g16, hf⟩ := ha_gds hf
      have he := Option.some.inj hf
      exact ha_retz hx hb hr hlocks hP hD hS dX9_readAct_126 g16 (ha_e1 he) (ha_e2 he)
  have J51 : ∀ (v1 : Int32) (v2 : Int32) (S : ha_St) (H : Heap) (locs : List Loc) (ls : Array Slot), (f_X9_readAct_J51 p0 v1 v2 S).bind some = some out → va_P D vwCl (ha_wl cs ad xo_kd xo_ln N S) H → va_D (ha_A ad N) (ha_wl cs ad xo_kd xo_ln N S) → va_S (ha_A ad N) s.heap H locs → lv_has ls 5 [(0, .ref (ad p0)), (1, .int v1), (2, .int v2)] → W p l e (headSpec wsX9_readAct ({ frames := 7, cells := 0, slots := 0, locals := 152 } : Room)).room s m ([.ref (ad p0)] : List Value).toArray below meth c H locs 0 0 (MQ below (va_Qi (fun (r : Int32) (_ : Unit) => r = out.1) (fun _ => ha_H D cs ad xo_kd xo_ln N out.2) (ha_A ad N)) ([.ref (ad p0)] : List Value).toArray s 0 0 (ha_A ad N)) (F0 m 51 ls []) := by
    intro v1 v2 S H locs ls hf  hP hD hS hl
    unfold f_X9_readAct_J51 at hf
    refine lv_aload_n hx hb dX9_readAct_51 rfl (lv_at hl 0 rfl) ?_
    obtain ⟨r17, wr17, hf⟩ := ha_bds hf
    obtain ⟨wr17, hr17⟩ := ha_rf_some wr17
    refine ha_getr hx hb hown hK hP q18 hN h0 wr17 dX9_readAct_52 ?_
    refine ha_geti hx hb hown hK hP q84 hN hr17 dX9_readAct_55 ?_
    refine lv_bipush (v := 40) hx hb dX9_readAct_58 (by decide) ?_
    refine lv_icmp_lt (tgt := 69) hx hb dX9_readAct_60 (by decide) (fun c18 => ?_) (fun c18 => ?_)
    · have hf := ha_it hf c18
      refine lv_aload_n hx hb dX9_readAct_69 rfl (lv_at hl 0 rfl) ?_
      obtain ⟨z19, wz19, hf⟩ := ha_bds hf
      refine ha_callVv (As := []) (rest := []) hZ ⟨hx, hb, hml, hown, hts⟩ hK hz hP hD hS (c_X9_step hZ hN hX h0 wz19) cw2 hN h0 (by decide) rfl rfl hl.1 rfl (Nat.le_of_ble_eq_true rfl) dX9_readAct_70 ⟨Nat.le_of_ble_eq_true rfl, Nat.le_of_ble_eq_true rfl⟩ (fun H locs hP hD hS => ?_)
      refine lv_iload_n hx hb dX9_readAct_73 rfl (lv_at hl 1 rfl) ?_
      refine lv_bipush (v := 116) hx hb dX9_readAct_74 (by decide) ?_
      refine lv_icmp_ne (tgt := 91) hx hb dX9_readAct_76 (by decide) (fun c20 => ?_) (fun c20 => ?_)
      · have hf := ha_it hf c20
        refine lv_iload_n hx hb dX9_readAct_91 rfl (lv_at hl 2 rfl) ?_
        refine lv_if_eq (tgt := 114) hx hb dX9_readAct_92 (by decide) (fun c21 => ?_) (fun c21 => ?_)
        · have hf := ha_it hf c21
          exact J114 v1 z19 H locs ls hf  hP hD hS (lv_sub hl [0, 1] rfl)
        · have hf := ha_if hf c21
          refine lv_aload_n hx hb dX9_readAct_95 rfl (lv_at hl 0 rfl) ?_
          refine ha_geti hx hb hown hK hP q45 hN h0 dX9_readAct_96 ?_
          refine lv_bipush (v := 114) hx hb dX9_readAct_99 (by decide) ?_
          refine lv_icmp_eq (tgt := 110) hx hb dX9_readAct_101 (by decide) (fun c22 => ?_) (fun c22 => ?_)
          · have hf := ha_it hf c22
            refine lv_aload_n hx hb dX9_readAct_110 rfl (lv_at hl 0 rfl) ?_
            obtain ⟨z23, wz23, hf⟩ := ha_bds hf
            refine ha_callVv (As := []) (rest := []) hZ ⟨hx, hb, hml, hown, hts⟩ hK hz hP hD hS (c_X9_step hZ hN hX h0 wz23) cw2 hN h0 (by decide) rfl rfl hl.1 rfl (Nat.le_of_ble_eq_true rfl) dX9_readAct_111 ⟨Nat.le_of_ble_eq_true rfl, Nat.le_of_ble_eq_true rfl⟩ (fun H locs hP hD hS => ?_)
            exact J114 v1 z23 H locs ls hf  hP hD hS (lv_sub hl [0, 1] rfl)
          · have hf := ha_if hf c22
            refine lv_aload_n hx hb dX9_readAct_104 rfl (lv_at hl 0 rfl) ?_
            refine lv_iconst (v := 1) hx hb dX9_readAct_105 (by decide) ?_
            obtain ⟨z24, wz24, hf⟩ := ha_bds hf
            refine ha_callVi (As := [.int 1]) (rest := []) hZ ⟨hx, hb, hml, hown, hts⟩ hK hz hP hD hS (c_X9_refuse hZ hN hX h0 wz24) cw3 hN h0 (by decide) rfl rfl hl.1 rfl (Nat.le_of_ble_eq_true rfl) dX9_readAct_106 ⟨Nat.le_of_ble_eq_true rfl, Nat.le_of_ble_eq_true rfl⟩ (fun H locs hP hD hS => ?_)
            obtain ⟨g25, hf⟩ := ha_gds hf
            have he := Option.some.inj hf
            exact ha_retz hx hb hr hlocks hP hD hS dX9_readAct_109 g25 (ha_e1 he) (ha_e2 he)
      · have hf := ha_if hf (fun q => q c20)
        refine lv_aload_n hx hb dX9_readAct_79 rfl (lv_at hl 0 rfl) ?_
        obtain ⟨r26, wr26, hf⟩ := ha_bds hf
        obtain ⟨wr26, hr26⟩ := ha_rf_some wr26
        refine ha_getr hx hb hown hK hP q18 hN h0 wr26 dX9_readAct_80 ?_
        refine lv_iload_n hx hb dX9_readAct_83 rfl (lv_at hl 1 rfl) ?_
        refine lv_iconst (v := 0) hx hb dX9_readAct_84 (by decide) ?_
        refine lv_iconst (v := 0) hx hb dX9_readAct_85 (by decide) ?_
        obtain ⟨z27, wz27, hf⟩ := ha_bds hf
        refine ha_callVv (As := [.int v1, .int 0, .int 0]) (rest := []) hZ ⟨hx, hb, hml, hown, hts⟩ hK hz hP hD hS (c_X8_addAct hZ hN hX hr26 wz27) cw0 hN hr26 (by decide) rfl rfl hl.1 rfl (Nat.le_of_ble_eq_true rfl) dX9_readAct_86 ⟨Nat.le_of_ble_eq_true rfl, Nat.le_of_ble_eq_true rfl⟩ (fun H locs hP hD hS => ?_)
        refine lv_iconst (v := 1) hx hb dX9_readAct_89 (by decide) ?_
        have he := Option.some.inj hf
        exact ha_retz hx hb hr hlocks hP hD hS dX9_readAct_90 (by decide) (ha_e1 he) (ha_e2 he)
    · have hf := ha_if hf c18
      refine lv_aload_n hx hb dX9_readAct_63 rfl (lv_at hl 0 rfl) ?_
      refine lv_iconst (v := 2) hx hb dX9_readAct_64 (by decide) ?_
      obtain ⟨z28, wz28, hf⟩ := ha_bds hf
      refine ha_callVi (As := [.int 2]) (rest := []) hZ ⟨hx, hb, hml, hown, hts⟩ hK hz hP hD hS (c_X9_refuse hZ hN hX h0 wz28) cw3 hN h0 (by decide) rfl rfl hl.1 rfl (Nat.le_of_ble_eq_true rfl) dX9_readAct_65 ⟨Nat.le_of_ble_eq_true rfl, Nat.le_of_ble_eq_true rfl⟩ (fun H locs hP hD hS => ?_)
      obtain ⟨g29, hf⟩ := ha_gds hf
      have he := Option.some.inj hf
      exact ha_retz hx hb hr hlocks hP hD hS dX9_readAct_68 g29 (ha_e1 he) (ha_e2 he)
  have J22 : ∀ (v1 : Int32) (k0 : Int32) (S : ha_St) (H : Heap) (locs : List Loc) (ls : Array Slot), (f_X9_readAct_J22 p0 v1 k0 S).bind some = some out → va_P D vwCl (ha_wl cs ad xo_kd xo_ln N S) H → va_D (ha_A ad N) (ha_wl cs ad xo_kd xo_ln N S) → va_S (ha_A ad N) s.heap H locs → lv_has ls 5 [(0, .ref (ad p0)), (1, .int v1)] → W p l e (headSpec wsX9_readAct ({ frames := 7, cells := 0, slots := 0, locals := 152 } : Room)).room s m ([.ref (ad p0)] : List Value).toArray below meth c H locs 0 0 (MQ below (va_Qi (fun (r : Int32) (_ : Unit) => r = out.1) (fun _ => ha_H D cs ad xo_kd xo_ln N out.2) (ha_A ad N)) ([.ref (ad p0)] : List Value).toArray s 0 0 (ha_A ad N)) (F0 m 22 ls [.int k0]) := by
    intro v1 k0 S H locs ls hf  hP hD hS hl
    unfold f_X9_readAct_J22 at hf
    refine lv_istore_n (lv' := [(2, .int k0), (0, .ref (ad p0)), (1, .int v1)]) hx hb dX9_readAct_22 rfl hl (by decide) rfl (fun ls hl => ?_)
    refine lv_iload_n hx hb dX9_readAct_23 rfl (lv_at hl 0 rfl) ?_
    refine lv_if_ne (tgt := 51) hx hb dX9_readAct_24 (by decide) (fun c30 => ?_) (fun c30 => ?_)
    · have hf := ha_it hf c30
      exact J51 v1 k0 S H locs ls hf  hP hD hS (lv_sub hl [1, 2, 0] rfl)
    · have hf := ha_if hf (fun q => q c30)
      refine lv_iload_n hx hb dX9_readAct_27 rfl (lv_at hl 2 rfl) ?_
      refine lv_bipush (v := 113) hx hb dX9_readAct_28 (by decide) ?_
      refine lv_icmp_eq (tgt := 51) hx hb dX9_readAct_30 (by decide) (fun c31 => ?_) (fun c31 => ?_)
      · have hf := ha_it hf c31
        exact J51 v1 k0 S H locs ls hf  hP hD hS (lv_sub hl [1, 2, 0] rfl)
      · have hf := ha_if hf c31
        refine lv_iload_n hx hb dX9_readAct_33 rfl (lv_at hl 2 rfl) ?_
        refine lv_bipush (v := 115) hx hb dX9_readAct_34 (by decide) ?_
        refine lv_icmp_eq (tgt := 51) hx hb dX9_readAct_36 (by decide) (fun c32 => ?_) (fun c32 => ?_)
        · have hf := ha_it hf c32
          exact J51 v1 k0 S H locs ls hf  hP hD hS (lv_sub hl [1, 2, 0] rfl)
        · have hf := ha_if hf c32
          refine lv_iload_n hx hb dX9_readAct_39 rfl (lv_at hl 2 rfl) ?_
          refine lv_bipush (v := 116) hx hb dX9_readAct_40 (by decide) ?_
          refine lv_icmp_eq (tgt := 51) hx hb dX9_readAct_42 (by decide) (fun c33 => ?_) (fun c33 => ?_)
          · have hf := ha_it hf c33
            exact J51 v1 k0 S H locs ls hf  hP hD hS (lv_sub hl [1, 2, 0] rfl)
          · have hf := ha_if hf c33
            refine lv_aload_n hx hb dX9_readAct_45 rfl (lv_at hl 1 rfl) ?_
            refine lv_iconst (v := 1) hx hb dX9_readAct_46 (by decide) ?_
            obtain ⟨z34, wz34, hf⟩ := ha_bds hf
            refine ha_callVi (As := [.int 1]) (rest := []) hZ ⟨hx, hb, hml, hown, hts⟩ hK hz hP hD hS (c_X9_refuse hZ hN hX h0 wz34) cw3 hN h0 (by decide) rfl rfl hl.1 rfl (Nat.le_of_ble_eq_true rfl) dX9_readAct_47 ⟨Nat.le_of_ble_eq_true rfl, Nat.le_of_ble_eq_true rfl⟩ (fun H locs hP hD hS => ?_)
            obtain ⟨g35, hf⟩ := ha_gds hf
            have he := Option.some.inj hf
            exact ha_retz hx hb hr hlocks hP hD hS dX9_readAct_50 g35 (ha_e1 he) (ha_e2 he)
  have J21 : ∀ (v1 : Int32) (S : ha_St) (H : Heap) (locs : List Loc) (ls : Array Slot), (f_X9_readAct_J21 p0 v1 S).bind some = some out → va_P D vwCl (ha_wl cs ad xo_kd xo_ln N S) H → va_D (ha_A ad N) (ha_wl cs ad xo_kd xo_ln N S) → va_S (ha_A ad N) s.heap H locs → lv_has ls 5 [(0, .ref (ad p0)), (1, .int v1)] → W p l e (headSpec wsX9_readAct ({ frames := 7, cells := 0, slots := 0, locals := 152 } : Room)).room s m ([.ref (ad p0)] : List Value).toArray below meth c H locs 0 0 (MQ below (va_Qi (fun (r : Int32) (_ : Unit) => r = out.1) (fun _ => ha_H D cs ad xo_kd xo_ln N out.2) (ha_A ad N)) ([.ref (ad p0)] : List Value).toArray s 0 0 (ha_A ad N)) (F0 m 21 ls []) := by
    intro v1 S H locs ls hf  hP hD hS hl
    unfold f_X9_readAct_J21 at hf
    refine lv_iconst (v := 0) hx hb dX9_readAct_21 (by decide) ?_
    exact J22 v1 0 S H locs ls hf  hP hD hS (lv_sub hl [0, 1] rfl)
  unfold f_X9_readAct at hf
  refine lv_aload_n hx hb dX9_readAct_0 rfl (lv_at hl 0 rfl) ?_
  refine ha_geti hx hb hown hK hP q45 hN h0 dX9_readAct_1 ?_
  refine lv_topi (fun x36 ex36 => ?_)
  have hf := ha_nms hf ex36
  refine lv_istore_n (lv' := [(1, .int x36), (0, .ref (ad p0))]) hx hb dX9_readAct_4 rfl hl (by decide) rfl (fun ls hl => ?_)
  refine lv_iload_n hx hb dX9_readAct_5 rfl (lv_at hl 0 rfl) ?_
  refine lv_bipush (v := 106) hx hb dX9_readAct_6 (by decide) ?_
  refine lv_icmp_lt (tgt := 21) hx hb dX9_readAct_8 (by decide) (fun c37 => ?_) (fun c37 => ?_)
  · have hf := ha_it hf c37
    exact J21 x36 S H locs ls hf  hP hD hS (lv_sub hl [1, 0] rfl)
  · have hf := ha_if hf c37
    refine lv_iload_n hx hb dX9_readAct_11 rfl (lv_at hl 0 rfl) ?_
    refine lv_bipush (v := 109) hx hb dX9_readAct_12 (by decide) ?_
    refine lv_icmp_gt (tgt := 21) hx hb dX9_readAct_14 (by decide) (fun c38 => ?_) (fun c38 => ?_)
    · have hf := ha_it hf c38
      exact J21 x36 S H locs ls hf  hP hD hS (lv_sub hl [1, 0] rfl)
    · have hf := ha_if hf c38
      refine lv_iconst (v := 1) hx hb dX9_readAct_17 (by decide) ?_
      refine lv_goto (tgt := 22) hx hb dX9_readAct_18 (by decide) ?_
      exact J22 x36 1 S H locs ls hf  hP hD hS (lv_sub hl [1, 0] rfl)

set_option maxHeartbeats 4000000 in
set_option maxRecDepth 100000 in
theorem c_X9_readActs {l : Launch} {D : va_G} {cs : Nat → ClassId} {ad adK adV : Nat → Nat} {N : List Nat} {Z : State → Prop} (hZ : ha_Zok (ha_A ad N) Z) (hN : ∀ x, xo_kd x < 999 → x ∈ N) (hX : ∀ U, Z U → xo_Z adK adV (ha_A ad N) U) {p0 : Nat} {S : ha_St} {out : Int32 × ha_St} (h0 : xo_kd p0 = 9) (hf : f_X9_readActs p0 S = some out) : ha_Ci l D cs ad xo_kd xo_ln N Z yX9_readActs wsX9_readActs ({ frames := 8, cells := 0, slots := 0, locals := 176 } : Room) [.ref (ad p0)] S out.1 out.2 := by
  refine Met.ofW (cc := cX9_readActs) (maxL := 3) (ret := (some .boolean)) (by decide +kernel) rfl ?_
  intro p e s m args below meth c s₁ B hml hv
  obtain ⟨rfl, hP, hD, hK, hz⟩ := hv
  have hx := B.exec
  have hb := B.bytes
  have hr := B.returns
  have hts := atoms_spec (ws := wsX9_readActs) B.pre
  have hown : s.vm.findClass RX9 = some m.cls := findClass_of_methodNamed B.named
  have hlocks := B.notSynchronized
  have hS : va_S (ha_A ad N) s.heap s.heap [] := va_S.rf
  have hi9 : ∀ w ∈ wsX90, w ∈ wsX9_readActs := fun w h => List.mem_cons_of_mem _ (List.mem_append_left _ (List.mem_append_right _ h))
  have q45 : ha_Fk s ([.ref (ad p0)] : List Value).toArray RX9 45 9 3 0 := ⟨RX9, TX9, 8, wsX9_readActs, rfl, by decide, by decide, rfl, rfl, hts, hi9, hts (.fieldLink RX9 45 "HillArms$Reader" "token" "I") (by decide +kernel)⟩
  have cw0 := cwV (R := (headSpec wsX9_readActs ({ frames := 8, cells := 0, slots := 0, locals := 176 } : Room)).room) 0 hts gX9_readActs_X9_step (rm := ({ frames := 6, cells := 0, slots := 0, locals := 130 } : Room)) (mc := 0) (ms := 0) rfl rfl rfl (by decide +kernel) ⟨Nat.le_of_ble_eq_true rfl, Nat.le_of_ble_eq_true rfl⟩
  have cw1 := cwV (R := (headSpec wsX9_readActs ({ frames := 8, cells := 0, slots := 0, locals := 176 } : Room)).room) 1 hts gX9_readActs_X9_refuse (rm := ({ frames := 0, cells := 0, slots := 0, locals := 0 } : Room)) (mc := 0) (ms := 0) rfl rfl rfl (by decide +kernel) ⟨Nat.le_of_ble_eq_true rfl, Nat.le_of_ble_eq_true rfl⟩
  have cw2 := cwV (R := (headSpec wsX9_readActs ({ frames := 8, cells := 0, slots := 0, locals := 176 } : Room)).room) 0 hts gX9_readActs_X9_readAct (rm := ({ frames := 7, cells := 0, slots := 0, locals := 152 } : Room)) (mc := 0) (ms := 0) rfl rfl rfl (by decide +kernel) ⟨Nat.le_of_ble_eq_true rfl, Nat.le_of_ble_eq_true rfl⟩
  have hl := lv_entry ([.ref (ad p0)]) (n := 3) (Nat.le_of_ble_eq_true rfl)
  rw [lg_entry_eq]
  generalize (lg_sl ([.ref (ad p0)]) ++ List.replicate (3 - (lg_sl ([.ref (ad p0)])).length) Slot.unset).toArray = ls at hl ⊢
  have hl : lv_has ls 3 [(0, .ref (ad p0))] := hl
  refine (fun (K0 : ∀ (H : Heap) (locs : List Loc), va_P D vwCl (ha_wl cs ad xo_kd xo_ln N S) H → va_S (ha_A ad N) s.heap H locs → W p l e (headSpec wsX9_readActs ({ frames := 8, cells := 0, slots := 0, locals := 176 } : Room)).room s m ([.ref (ad p0)] : List Value).toArray below meth c H locs 0 0 (MQ below (va_Qi (fun (r : Int32) (_ : Unit) => r = out.1) (fun _ => ha_H D cs ad xo_kd xo_ln N out.2) (ha_A ad N)) ([.ref (ad p0)] : List Value).toArray s 0 0 (ha_A ad N)) (F0 m 0 ls [])) => K0 _ _ hP hS) ?_
  intro H locs hP hS
  have hf := ha_rt hf
  have J48 : ∀  (S : ha_St) (H : Heap) (locs : List Loc) (ls : Array Slot), (f_X9_readActs_J48 p0  S).bind some = some out → va_P D vwCl (ha_wl cs ad xo_kd xo_ln N S) H → va_D (ha_A ad N) (ha_wl cs ad xo_kd xo_ln N S) → va_S (ha_A ad N) s.heap H locs → lv_has ls 3 [(0, .ref (ad p0))] → W p l e (headSpec wsX9_readActs ({ frames := 8, cells := 0, slots := 0, locals := 176 } : Room)).room s m ([.ref (ad p0)] : List Value).toArray below meth c H locs 0 0 (MQ below (va_Qi (fun (r : Int32) (_ : Unit) => r = out.1) (fun _ => ha_H D cs ad xo_kd xo_ln N out.2) (ha_A ad N)) ([.ref (ad p0)] : List Value).toArray s 0 0 (ha_A ad N)) (F0 m 48 ls []) := by
    intro  S H locs ls hf  hP hD hS hl
    unfold f_X9_readActs_J48 at hf
    refine lv_aload_n hx hb dX9_readActs_48 rfl (lv_at hl 0 rfl) ?_
    refine ha_geti hx hb hown hK hP q45 hN h0 dX9_readActs_49 ?_
    refine lv_bipush (v := 117) hx hb dX9_readActs_52 (by decide) ?_
    refine lv_icmp_eq (tgt := 63) hx hb dX9_readActs_54 (by decide) (fun c1 => ?_) (fun c1 => ?_)
    · have hf := ha_it hf c1
      refine lv_aload_n hx hb dX9_readActs_63 rfl (lv_at hl 0 rfl) ?_
      obtain ⟨z2, wz2, hf⟩ := ha_bds hf
      refine ha_callVv (As := []) (rest := []) hZ ⟨hx, hb, hml, hown, hts⟩ hK hz hP hD hS (c_X9_step hZ hN hX h0 wz2) cw0 hN h0 (by decide) rfl rfl hl.1 rfl (Nat.le_of_ble_eq_true rfl) dX9_readActs_64 ⟨Nat.le_of_ble_eq_true rfl, Nat.le_of_ble_eq_true rfl⟩ (fun H locs hP hD hS => ?_)
      refine lv_iconst (v := 1) hx hb dX9_readActs_67 (by decide) ?_
      have he := Option.some.inj hf
      exact ha_retz hx hb hr hlocks hP hD hS dX9_readActs_68 (by decide) (ha_e1 he) (ha_e2 he)
    · have hf := ha_if hf c1
      refine lv_aload_n hx hb dX9_readActs_57 rfl (lv_at hl 0 rfl) ?_
      refine lv_iconst (v := 1) hx hb dX9_readActs_58 (by decide) ?_
      obtain ⟨z3, wz3, hf⟩ := ha_bds hf
      refine ha_callVi (As := [.int 1]) (rest := []) hZ ⟨hx, hb, hml, hown, hts⟩ hK hz hP hD hS (c_X9_refuse hZ hN hX h0 wz3) cw1 hN h0 (by decide) rfl rfl hl.1 rfl (Nat.le_of_ble_eq_true rfl) dX9_readActs_59 ⟨Nat.le_of_ble_eq_true rfl, Nat.le_of_ble_eq_true rfl⟩ (fun H locs hP hD hS => ?_)
      obtain ⟨g4, hf⟩ := ha_gds hf
      have he := Option.some.inj hf
      exact ha_retz hx hb hr hlocks hP hD hS dX9_readActs_62 g4 (ha_e1 he) (ha_e2 he)
  unfold f_X9_readActs at hf
  refine lv_iconst (v := 1) hx hb dX9_readActs_0 (by decide) ?_
  refine lv_istore_n (lv' := [(1, .int 1), (0, .ref (ad p0))]) hx hb dX9_readActs_1 rfl hl (by decide) rfl (fun ls hl => ?_)
  refine lv_iconst (v := 0) hx hb dX9_readActs_2 (by decide) ?_
  refine lv_istore_n (lv' := [(2, .int 0), (1, .int 1), (0, .ref (ad p0))]) hx hb dX9_readActs_3 rfl hl (by decide) rfl (fun ls hl => ?_)
  have key12 : ∀ (K : ((ha_St) ⊕ (Int32 × ha_St)) → Option (Int32 × ha_St)), (∀  (S : ha_St) (H : Heap) (locs : List Loc) (ls : Array Slot), K (.inl S) = some out → va_P D vwCl (ha_wl cs ad xo_kd xo_ln N S) H → va_D (ha_A ad N) (ha_wl cs ad xo_kd xo_ln N S) → va_S (ha_A ad N) s.heap H locs → lv_has ls 3 [(0, .ref (ad p0))] → W p l e (headSpec wsX9_readActs ({ frames := 8, cells := 0, slots := 0, locals := 176 } : Room)).room s m ([.ref (ad p0)] : List Value).toArray below meth c H locs 0 0 (MQ below (va_Qi (fun (r : Int32) (_ : Unit) => r = out.1) (fun _ => ha_H D cs ad xo_kd xo_ln N out.2) (ha_A ad N)) ([.ref (ad p0)] : List Value).toArray s 0 0 (ha_A ad N)) (F0 m 48 ls [])) → (∀ r, K (.inr r) = some out → r = out) → ∀ (n : Nat) (v1 : Int32) (v2 : Int32) (S : ha_St) (H : Heap) (locs : List Loc) (ls : Array Slot), (f_X9_readActs_L4i p0 n (v1, v2, S)).bind K = some out → va_P D vwCl (ha_wl cs ad xo_kd xo_ln N S) H → va_D (ha_A ad N) (ha_wl cs ad xo_kd xo_ln N S) → va_S (ha_A ad N) s.heap H locs → lv_has ls 3 [(0, .ref (ad p0)), (1, .int v1), (2, .int v2)] → W p l e (headSpec wsX9_readActs ({ frames := 8, cells := 0, slots := 0, locals := 176 } : Room)).room s m ([.ref (ad p0)] : List Value).toArray below meth c H locs 0 0 (MQ below (va_Qi (fun (r : Int32) (_ : Unit) => r = out.1) (fun _ => ha_H D cs ad xo_kd xo_ln N out.2) (ha_A ad N)) ([.ref (ad p0)] : List Value).toArray s 0 0 (ha_A ad N)) (F0 m 4 ls []) := by
    intro K hk hke n
    induction n with
    | zero =>
      intro v1 v2 S H locs ls hf
      exact absurd (show (none : Option (Int32 × ha_St)) = some out from hf) (fun h => by cases h)
    | succ n ih =>
      intro v1 v2 S H locs ls hf  hP hD hS hl
      have J41 : ∀ (v2 : Int32) (k0 : Int32) (S : ha_St) (H : Heap) (locs : List Loc) (ls : Array Slot), (f_X9_readActs_L4_J41 p0 (f_X9_readActs_L4i p0 n) v2 k0 S).bind K = some out → va_P D vwCl (ha_wl cs ad xo_kd xo_ln N S) H → va_D (ha_A ad N) (ha_wl cs ad xo_kd xo_ln N S) → va_S (ha_A ad N) s.heap H locs → lv_has ls 3 [(0, .ref (ad p0)), (2, .int v2)] → W p l e (headSpec wsX9_readActs ({ frames := 8, cells := 0, slots := 0, locals := 176 } : Room)).room s m ([.ref (ad p0)] : List Value).toArray below meth c H locs 0 0 (MQ below (va_Qi (fun (r : Int32) (_ : Unit) => r = out.1) (fun _ => ha_H D cs ad xo_kd xo_ln N out.2) (ha_A ad N)) ([.ref (ad p0)] : List Value).toArray s 0 0 (ha_A ad N)) (F0 m 41 ls [.int k0]) := by
        intro v2 k0 S H locs ls hf  hP hD hS hl
        unfold f_X9_readActs_L4_J41 at hf
        refine lv_istore_n (lv' := [(1, .int k0), (0, .ref (ad p0)), (2, .int v2)]) hx hb dX9_readActs_41 rfl hl (by decide) rfl (fun ls hl => ?_)
        obtain ⟨x5, ex5⟩ : ∃ y : Int32, y = (v2 : Int32) + 1 := ⟨_, rfl⟩
        have hf := ha_nms hf ex5
        refine lv_iinc (v := x5) (lv' := [(2, .int x5), (1, .int k0), (0, .ref (ad p0))]) hx hb dX9_readActs_42 hl (k := 2) rfl (by rw [ex5]; rfl) (by decide) rfl (fun ls hl => ?_)
        refine lv_goto (tgt := 4) hx hb dX9_readActs_45 (by decide) ?_
        exact ih k0 x5 S H locs ls hf  hP hD hS (lv_sub hl [2, 1, 0] rfl)
      have hf : (f_X9_readActs_L4 p0 (f_X9_readActs_L4i p0 n) v1 v2 S).bind K = some out := hf
      unfold f_X9_readActs_L4 at hf
      refine lv_iload_n hx hb dX9_readActs_4 rfl (lv_at hl 2 rfl) ?_
      refine lv_bipush (v := 40) hx hb dX9_readActs_5 (by decide) ?_
      refine lv_icmp_gt (tgt := 48) hx hb dX9_readActs_7 (by decide) (fun c6 => ?_) (fun c6 => ?_)
      · have hf := ha_it hf c6
        exact hk  S H locs ls hf  hP hD hS (lv_sub hl [0] rfl)
      · have hf := ha_if hf c6
        refine lv_iload_n hx hb dX9_readActs_10 rfl (lv_at hl 1 rfl) ?_
        refine lv_if_eq (tgt := 48) hx hb dX9_readActs_11 (by decide) (fun c7 => ?_) (fun c7 => ?_)
        · have hf := ha_it hf c7
          exact hk  S H locs ls hf  hP hD hS (lv_sub hl [0] rfl)
        · have hf := ha_if hf c7
          refine lv_aload_n hx hb dX9_readActs_14 rfl (lv_at hl 0 rfl) ?_
          obtain ⟨z8, wz8, hf⟩ := ha_bds hf
          refine ha_callVv (As := []) (rest := []) hZ ⟨hx, hb, hml, hown, hts⟩ hK hz hP hD hS (c_X9_step hZ hN hX h0 wz8) cw0 hN h0 (by decide) rfl rfl hl.1 rfl (Nat.le_of_ble_eq_true rfl) dX9_readActs_15 ⟨Nat.le_of_ble_eq_true rfl, Nat.le_of_ble_eq_true rfl⟩ (fun H locs hP hD hS => ?_)
          refine lv_aload_n hx hb dX9_readActs_18 rfl (lv_at hl 0 rfl) ?_
          obtain ⟨z9, wz9, hf⟩ := ha_bds hf
          refine ha_callVi (As := []) (rest := []) hZ ⟨hx, hb, hml, hown, hts⟩ hK hz hP hD hS (c_X9_readAct hZ hN hX h0 wz9) cw2 hN h0 (by decide) rfl rfl hl.1 rfl (Nat.le_of_ble_eq_true rfl) dX9_readActs_19 ⟨Nat.le_of_ble_eq_true rfl, Nat.le_of_ble_eq_true rfl⟩ (fun H locs hP hD hS => ?_)
          refine lv_if_ne (tgt := 27) hx hb dX9_readActs_22 (by decide) (fun c10 => ?_) (fun c10 => ?_)
          · have hf := ha_it hf c10
            refine lv_aload_n hx hb dX9_readActs_27 rfl (lv_at hl 0 rfl) ?_
            refine ha_geti hx hb hown hK hP q45 hN h0 dX9_readActs_28 ?_
            refine lv_bipush (v := 118) hx hb dX9_readActs_31 (by decide) ?_
            refine lv_icmp_ne (tgt := 40) hx hb dX9_readActs_33 (by decide) (fun c11 => ?_) (fun c11 => ?_)
            · have hf := ha_it hf c11
              refine lv_iconst (v := 0) hx hb dX9_readActs_40 (by decide) ?_
              exact J41 v2 0 z9.2 H locs ls hf  hP hD hS (lv_sub hl [0, 2] rfl)
            · have hf := ha_if hf (fun q => q c11)
              refine lv_iconst (v := 1) hx hb dX9_readActs_36 (by decide) ?_
              refine lv_goto (tgt := 41) hx hb dX9_readActs_37 (by decide) ?_
              exact J41 v2 1 z9.2 H locs ls hf  hP hD hS (lv_sub hl [0, 2] rfl)
          · have hf := ha_if hf (fun q => q c10)
            refine lv_iconst (v := 0) hx hb dX9_readActs_25 (by decide) ?_
            have he := hke _ hf
            exact ha_retz hx hb hr hlocks hP hD hS dX9_readActs_26 (by decide) (ha_e1 he) (ha_e2 he)
  refine key12 _ (fun  S H locs ls hf  hP hD hS hl => ?_) (fun r h => Option.some.inj h) ha_fu 1 0 S H locs ls (ha_as hf)  hP hD hS (lv_sub hl [2, 1, 0] rfl)
  have hf : (f_X9_readActs_J48 p0  S).bind some = some out := hf
  exact J48  S H locs ls hf  hP hD hS (lv_sub hl [0] rfl)

set_option maxHeartbeats 4000000 in
set_option maxRecDepth 100000 in
theorem c_X9_read {l : Launch} {D : va_G} {cs : Nat → ClassId} {ad adK adV : Nat → Nat} {N : List Nat} {Z : State → Prop} (hZ : ha_Zok (ha_A ad N) Z) (hN : ∀ x, xo_kd x < 999 → x ∈ N) (hX : ∀ U, Z U → xo_Z adK adV (ha_A ad N) U) {p0 : Nat} {p1 : Nat} {p2 : Nat} {S : ha_St} {out : Int32 × ha_St} (h0 : xo_kd p0 = 9) (h1 : xo_kd p1 = 10) (h2 : xo_kd p2 = 8) (hf : f_X9_read p0 p1 p2 S = some out) : ha_Ci l D cs ad xo_kd xo_ln N Z yX9_read wsX9_read ({ frames := 9, cells := 0, slots := 0, locals := 198 } : Room) [.ref (ad p0), .ref (ad p1), .ref (ad p2)] S out.1 out.2 := by
  refine Met.ofW (cc := cX9_read) (maxL := 4) (ret := (some .boolean)) (by decide +kernel) rfl ?_
  intro p e s m args below meth c s₁ B hml hv
  obtain ⟨rfl, hP, hD, hK, hz⟩ := hv
  have hx := B.exec
  have hb := B.bytes
  have hr := B.returns
  have hts := atoms_spec (ws := wsX9_read) B.pre
  have hown : s.vm.findClass RX9 = some m.cls := findClass_of_methodNamed B.named
  have hlocks := B.notSynchronized
  have hS : va_S (ha_A ad N) s.heap s.heap [] := va_S.rf
  have hi9 : ∀ w ∈ wsX90, w ∈ wsX9_read := fun w h => List.mem_cons_of_mem _ (List.mem_append_left _ (List.mem_append_right _ h))
  have hi10 : ∀ w ∈ wsX100, w ∈ wsX9_read := fun w h => List.mem_cons_of_mem _ (List.mem_append_left _ (List.mem_append_left _ (List.mem_append_right _ h)))
  have q45 : ha_Fk s ([.ref (ad p0), .ref (ad p1), .ref (ad p2)] : List Value).toArray RX9 45 9 3 0 := ⟨RX9, TX9, 8, wsX9_read, rfl, by decide, by decide, rfl, rfl, hts, hi9, hts (.fieldLink RX9 45 "HillArms$Reader" "token" "I") (by decide +kernel)⟩
  have q22 : ha_Fk s ([.ref (ad p0), .ref (ad p1), .ref (ad p2)] : List Value).toArray RX9 22 10 0 1 := ⟨RX10, TX10, 2, wsX9_read, rfl, by decide, by decide, rfl, rfl, hts, hi10, hts (.fieldLink RX9 22 "HillArms$Tape" "bytes" "[I") (by decide +kernel)⟩
  have q25 : ha_Fk s ([.ref (ad p0), .ref (ad p1), .ref (ad p2)] : List Value).toArray RX9 25 10 1 0 := ⟨RX10, TX10, 2, wsX9_read, rfl, by decide, by decide, rfl, rfl, hts, hi10, hts (.fieldLink RX9 25 "HillArms$Tape" "size" "I") (by decide +kernel)⟩
  have q18 : ha_Fk s ([.ref (ad p0), .ref (ad p1), .ref (ad p2)] : List Value).toArray RX9 18 9 2 1 := ⟨RX9, TX9, 8, wsX9_read, rfl, by decide, by decide, rfl, rfl, hts, hi9, hts (.fieldLink RX9 18 "HillArms$Reader" "into" "LHillArms$Program;") (by decide +kernel)⟩
  have r9 : ha_Fp s ([.ref (ad p0), .ref (ad p1), .ref (ad p2)] : List Value).toArray RX9 9 9 0 1 (.array .int) := ⟨RX9, TX9, 8, wsX9_read, tyX9, rfl, by decide, by decide, rfl, rfl, hts, hi9, hts (.fieldLink RX9 9 "HillArms$Reader" "bytes" "[I") (by decide +kernel), tyX9_ok, nmX9, rfl, by decide +kernel⟩
  have r29 : ha_Fp s ([.ref (ad p0), .ref (ad p1), .ref (ad p2)] : List Value).toArray RX9 29 9 1 0 .int := ⟨RX9, TX9, 8, wsX9_read, tyX9, rfl, by decide, by decide, rfl, rfl, hts, hi9, hts (.fieldLink RX9 29 "HillArms$Reader" "size" "I") (by decide +kernel), tyX9_ok, nmX9, rfl, by decide +kernel⟩
  have r18 : ha_Fp s ([.ref (ad p0), .ref (ad p1), .ref (ad p2)] : List Value).toArray RX9 18 9 2 1 (.object "HillArms$Program") := ⟨RX9, TX9, 8, wsX9_read, tyX9, rfl, by decide, by decide, rfl, rfl, hts, hi9, hts (.fieldLink RX9 18 "HillArms$Reader" "into" "LHillArms$Program;") (by decide +kernel), tyX9_ok, nmX9, rfl, by decide +kernel⟩
  have r33 : ha_Fp s ([.ref (ad p0), .ref (ad p1), .ref (ad p2)] : List Value).toArray RX9 33 9 5 0 .int := ⟨RX9, TX9, 8, wsX9_read, tyX9, rfl, by decide, by decide, rfl, rfl, hts, hi9, hts (.fieldLink RX9 33 "HillArms$Reader" "behind" "I") (by decide +kernel), tyX9_ok, nmX9, rfl, by decide +kernel⟩
  have r36 : ha_Fp s ([.ref (ad p0), .ref (ad p1), .ref (ad p2)] : List Value).toArray RX9 36 9 6 0 .int := ⟨RX9, TX9, 8, wsX9_read, tyX9, rfl, by decide, by decide, rfl, rfl, hts, hi9, hts (.fieldLink RX9 36 "HillArms$Reader" "faultKind" "I") (by decide +kernel), tyX9_ok, nmX9, rfl, by decide +kernel⟩
  have r39 : ha_Fp s ([.ref (ad p0), .ref (ad p1), .ref (ad p2)] : List Value).toArray RX9 39 9 7 0 .int := ⟨RX9, TX9, 8, wsX9_read, tyX9, rfl, by decide, by decide, rfl, rfl, hts, hi9, hts (.fieldLink RX9 39 "HillArms$Reader" "faultAt" "I") (by decide +kernel), tyX9_ok, nmX9, rfl, by decide +kernel⟩
  have cw0 := cwV (R := (headSpec wsX9_read ({ frames := 9, cells := 0, slots := 0, locals := 198 } : Room)).room) 1 hts gX9_read_X9_refuse (rm := ({ frames := 0, cells := 0, slots := 0, locals := 0 } : Room)) (mc := 0) (ms := 0) rfl rfl rfl (by decide +kernel) ⟨Nat.le_of_ble_eq_true rfl, Nat.le_of_ble_eq_true rfl⟩
  have cw1 := cwV (R := (headSpec wsX9_read ({ frames := 9, cells := 0, slots := 0, locals := 198 } : Room)).room) 0 hts gX9_read_X9_endIsRight (rm := ({ frames := 1, cells := 0, slots := 0, locals := 21 } : Room)) (mc := 0) (ms := 0) rfl rfl rfl (by decide +kernel) ⟨Nat.le_of_ble_eq_true rfl, Nat.le_of_ble_eq_true rfl⟩
  have cw2 := cwV (R := (headSpec wsX9_read ({ frames := 9, cells := 0, slots := 0, locals := 198 } : Room)).room) 0 hts gX9_read_X8_clear (rm := ({ frames := 0, cells := 0, slots := 0, locals := 0 } : Room)) (mc := 0) (ms := 0) rfl rfl rfl (by decide +kernel) ⟨Nat.le_of_ble_eq_true rfl, Nat.le_of_ble_eq_true rfl⟩
  have cw3 := cwV (R := (headSpec wsX9_read ({ frames := 9, cells := 0, slots := 0, locals := 198 } : Room)).room) 0 hts gX9_read_X9_step (rm := ({ frames := 6, cells := 0, slots := 0, locals := 130 } : Room)) (mc := 0) (ms := 0) rfl rfl rfl (by decide +kernel) ⟨Nat.le_of_ble_eq_true rfl, Nat.le_of_ble_eq_true rfl⟩
  have cw4 := cwV (R := (headSpec wsX9_read ({ frames := 9, cells := 0, slots := 0, locals := 198 } : Room)).room) 0 hts gX9_read_X9_readOnes (rm := ({ frames := 8, cells := 0, slots := 0, locals := 174 } : Room)) (mc := 0) (ms := 0) rfl rfl rfl (by decide +kernel) ⟨Nat.le_of_ble_eq_true rfl, Nat.le_of_ble_eq_true rfl⟩
  have cw5 := cwV (R := (headSpec wsX9_read ({ frames := 9, cells := 0, slots := 0, locals := 198 } : Room)).room) 0 hts gX9_read_X9_readActs (rm := ({ frames := 8, cells := 0, slots := 0, locals := 176 } : Room)) (mc := 0) (ms := 0) rfl rfl rfl (by decide +kernel) ⟨Nat.le_of_ble_eq_true rfl, Nat.le_of_ble_eq_true rfl⟩
  have cw6 := cwV (R := (headSpec wsX9_read ({ frames := 9, cells := 0, slots := 0, locals := 198 } : Room)).room) 0 hts gX9_read_X8_closeRule (rm := ({ frames := 0, cells := 0, slots := 0, locals := 0 } : Room)) (mc := 0) (ms := 0) rfl rfl rfl (by decide +kernel) ⟨Nat.le_of_ble_eq_true rfl, Nat.le_of_ble_eq_true rfl⟩
  have hl := lv_entry ([.ref (ad p0), .ref (ad p1), .ref (ad p2)]) (n := 4) (Nat.le_of_ble_eq_true rfl)
  rw [lg_entry_eq]
  generalize (lg_sl ([.ref (ad p0), .ref (ad p1), .ref (ad p2)]) ++ List.replicate (4 - (lg_sl ([.ref (ad p0), .ref (ad p1), .ref (ad p2)])).length) Slot.unset).toArray = ls at hl ⊢
  have hl : lv_has ls 4 [(0, .ref (ad p0)), (1, .ref (ad p1)), (2, .ref (ad p2))] := hl
  refine (fun (K0 : ∀ (H : Heap) (locs : List Loc), va_P D vwCl (ha_wl cs ad xo_kd xo_ln N S) H → va_S (ha_A ad N) s.heap H locs → W p l e (headSpec wsX9_read ({ frames := 9, cells := 0, slots := 0, locals := 198 } : Room)).room s m ([.ref (ad p0), .ref (ad p1), .ref (ad p2)] : List Value).toArray below meth c H locs 0 0 (MQ below (va_Qi (fun (r : Int32) (_ : Unit) => r = out.1) (fun _ => ha_H D cs ad xo_kd xo_ln N out.2) (ha_A ad N)) ([.ref (ad p0), .ref (ad p1), .ref (ad p2)] : List Value).toArray s 0 0 (ha_A ad N)) (F0 m 0 ls [])) => K0 _ _ hP hS) ?_
  intro H locs hP hS
  have hf := ha_rt hf
  have J127 : ∀ (k0 : Nat) (k1 : Int32) (S : ha_St) (H : Heap) (locs : List Loc) (ls : Array Slot), (f_X9_read_J127 p0 p1 p2 k0 k1 S).bind some = some out → xo_kd k0 = 9 → va_P D vwCl (ha_wl cs ad xo_kd xo_ln N S) H → va_D (ha_A ad N) (ha_wl cs ad xo_kd xo_ln N S) → va_S (ha_A ad N) s.heap H locs → lv_has ls 4 [(0, .ref (ad p0)), (1, .ref (ad p1)), (2, .ref (ad p2))] → W p l e (headSpec wsX9_read ({ frames := 9, cells := 0, slots := 0, locals := 198 } : Room)).room s m ([.ref (ad p0), .ref (ad p1), .ref (ad p2)] : List Value).toArray below meth c H locs 0 0 (MQ below (va_Qi (fun (r : Int32) (_ : Unit) => r = out.1) (fun _ => ha_H D cs ad xo_kd xo_ln N out.2) (ha_A ad N)) ([.ref (ad p0), .ref (ad p1), .ref (ad p2)] : List Value).toArray s 0 0 (ha_A ad N)) (F0 m 127 ls [.int k1, .ref (ad k0)]) := by
    intro k0 k1 S H locs ls hf hk0 hP hD hS hl
    unfold f_X9_read_J127 at hf
    obtain ⟨z1, wz1, hf⟩ := ha_bds hf
    refine ha_callVi (As := [.int k1]) (rest := []) hZ ⟨hx, hb, hml, hown, hts⟩ hK hz hP hD hS (c_X9_refuse hZ hN hX hk0 wz1) cw0 hN hk0 (by decide) rfl rfl hl.1 rfl (Nat.le_of_ble_eq_true rfl) dX9_read_127 ⟨Nat.le_of_ble_eq_true rfl, Nat.le_of_ble_eq_true rfl⟩ (fun H locs hP hD hS => ?_)
    obtain ⟨g2, hf⟩ := ha_gds hf
    have he := Option.some.inj hf
    exact ha_retz hx hb hr hlocks hP hD hS dX9_read_130 g2 (ha_e1 he) (ha_e2 he)
  have J98 : ∀  (S : ha_St) (H : Heap) (locs : List Loc) (ls : Array Slot), (f_X9_read_J98 p0 p1 p2  S).bind some = some out → va_P D vwCl (ha_wl cs ad xo_kd xo_ln N S) H → va_D (ha_A ad N) (ha_wl cs ad xo_kd xo_ln N S) → va_S (ha_A ad N) s.heap H locs → lv_has ls 4 [(0, .ref (ad p0)), (1, .ref (ad p1)), (2, .ref (ad p2))] → W p l e (headSpec wsX9_read ({ frames := 9, cells := 0, slots := 0, locals := 198 } : Room)).room s m ([.ref (ad p0), .ref (ad p1), .ref (ad p2)] : List Value).toArray below meth c H locs 0 0 (MQ below (va_Qi (fun (r : Int32) (_ : Unit) => r = out.1) (fun _ => ha_H D cs ad xo_kd xo_ln N out.2) (ha_A ad N)) ([.ref (ad p0), .ref (ad p1), .ref (ad p2)] : List Value).toArray s 0 0 (ha_A ad N)) (F0 m 98 ls []) := by
    intro  S H locs ls hf  hP hD hS hl
    unfold f_X9_read_J98 at hf
    refine lv_aload_n hx hb dX9_read_98 rfl (lv_at hl 0 rfl) ?_
    refine ha_geti hx hb hown hK hP q45 hN h0 dX9_read_99 ?_
    refine lv_bipush (v := (-2)) hx hb dX9_read_102 (by decide) ?_
    refine lv_icmp_ne (tgt := 112) hx hb dX9_read_104 (by decide) (fun c3 => ?_) (fun c3 => ?_)
    · have hf := ha_it hf c3
      refine lv_aload_n hx hb dX9_read_112 rfl (lv_at hl 0 rfl) ?_
      refine lv_aload_n hx hb dX9_read_113 rfl (lv_at hl 0 rfl) ?_
      refine ha_geti hx hb hown hK hP q45 hN h0 dX9_read_114 ?_
      refine lv_bipush (v := 110) hx hb dX9_read_117 (by decide) ?_
      refine lv_icmp_ne (tgt := 126) hx hb dX9_read_119 (by decide) (fun c4 => ?_) (fun c4 => ?_)
      · have hf := ha_it hf c4
        refine lv_iconst (v := 1) hx hb dX9_read_126 (by decide) ?_
        exact J127 p0 1 S H locs ls hf h0 hP hD hS (lv_sub hl [0, 1, 2] rfl)
      · have hf := ha_if hf (fun q => q c4)
        refine lv_iconst (v := 2) hx hb dX9_read_122 (by decide) ?_
        refine lv_goto (tgt := 127) hx hb dX9_read_123 (by decide) ?_
        exact J127 p0 2 S H locs ls hf h0 hP hD hS (lv_sub hl [0, 1, 2] rfl)
    · have hf := ha_if hf (fun q => q c3)
      refine lv_aload_n hx hb dX9_read_107 rfl (lv_at hl 0 rfl) ?_
      obtain ⟨z5, wz5, hf⟩ := ha_bds hf
      refine ha_callVi (As := []) (rest := []) hZ ⟨hx, hb, hml, hown, hts⟩ hK hz hP hD hS (c_X9_endIsRight hZ hN hX h0 wz5) cw1 hN h0 (by decide) rfl rfl hl.1 rfl (Nat.le_of_ble_eq_true rfl) dX9_read_108 ⟨Nat.le_of_ble_eq_true rfl, Nat.le_of_ble_eq_true rfl⟩ (fun H locs hP hD hS => ?_)
      obtain ⟨g6, hf⟩ := ha_gds hf
      have he := Option.some.inj hf
      exact ha_retz hx hb hr hlocks hP hD hS dX9_read_111 g6 (ha_e1 he) (ha_e2 he)
  unfold f_X9_read at hf
  refine lv_aload_n hx hb dX9_read_0 rfl (lv_at hl 0 rfl) ?_
  refine lv_aload_n hx hb dX9_read_1 rfl (lv_at hl 1 rfl) ?_
  obtain ⟨r7, wr7, hf⟩ := ha_bds hf
  obtain ⟨wr7, hr7⟩ := ha_rf_some wr7
  refine ha_getr hx hb hown hK hP q22 hN h1 wr7 dX9_read_2 ?_
  refine ha_putr hx hb hown hK hP hD hS r9 hN h0 rfl rfl dX9_read_5 (fun S8 H locs eS8 hP hD hS => ?_)
  have hf := ha_nms hf eS8
  refine lv_aload_n hx hb dX9_read_8 rfl (lv_at hl 0 rfl) ?_
  refine lv_aload_n hx hb dX9_read_9 rfl (lv_at hl 1 rfl) ?_
  refine ha_geti hx hb hown hK hP q25 hN h1 dX9_read_10 ?_
  refine ha_puti hx hb hown hK hP hD hS r29 hN h0 dX9_read_13 (fun S9 H locs eS9 hP hD hS => ?_)
  have hf := ha_nms hf eS9
  refine lv_aload_n hx hb dX9_read_16 rfl (lv_at hl 0 rfl) ?_
  refine lv_aload_n hx hb dX9_read_17 rfl (lv_at hl 2 rfl) ?_
  refine ha_putr hx hb hown hK hP hD hS r18 hN h0 rfl rfl dX9_read_18 (fun S10 H locs eS10 hP hD hS => ?_)
  have hf := ha_nms hf eS10
  refine lv_aload_n hx hb dX9_read_21 rfl (lv_at hl 0 rfl) ?_
  obtain ⟨r11, wr11, hf⟩ := ha_bds hf
  obtain ⟨wr11, hr11⟩ := ha_rf_some wr11
  refine ha_getr hx hb hown hK hP q18 hN h0 wr11 dX9_read_22 ?_
  obtain ⟨z12, wz12, hf⟩ := ha_bds hf
  refine ha_callVv (As := []) (rest := []) hZ ⟨hx, hb, hml, hown, hts⟩ hK hz hP hD hS (c_X8_clear hZ hN hX hr11 wz12) cw2 hN hr11 (by decide) rfl rfl hl.1 rfl (Nat.le_of_ble_eq_true rfl) dX9_read_25 ⟨Nat.le_of_ble_eq_true rfl, Nat.le_of_ble_eq_true rfl⟩ (fun H locs hP hD hS => ?_)
  refine lv_aload_n hx hb dX9_read_28 rfl (lv_at hl 0 rfl) ?_
  refine lv_iconst (v := 0) hx hb dX9_read_29 (by decide) ?_
  refine ha_puti hx hb hown hK hP hD hS r33 hN h0 dX9_read_30 (fun S13 H locs eS13 hP hD hS => ?_)
  have hf := ha_nms hf eS13
  refine lv_aload_n hx hb dX9_read_33 rfl (lv_at hl 0 rfl) ?_
  refine lv_iconst (v := 0) hx hb dX9_read_34 (by decide) ?_
  refine ha_puti hx hb hown hK hP hD hS r36 hN h0 dX9_read_35 (fun S14 H locs eS14 hP hD hS => ?_)
  have hf := ha_nms hf eS14
  refine lv_aload_n hx hb dX9_read_38 rfl (lv_at hl 0 rfl) ?_
  refine lv_iconst (v := 0) hx hb dX9_read_39 (by decide) ?_
  refine ha_puti hx hb hown hK hP hD hS r39 hN h0 dX9_read_40 (fun S15 H locs eS15 hP hD hS => ?_)
  have hf := ha_nms hf eS15
  refine lv_aload_n hx hb dX9_read_43 rfl (lv_at hl 0 rfl) ?_
  obtain ⟨z16, wz16, hf⟩ := ha_bds hf
  refine ha_callVv (As := []) (rest := []) hZ ⟨hx, hb, hml, hown, hts⟩ hK hz hP hD hS (c_X9_step hZ hN hX h0 wz16) cw3 hN h0 (by decide) rfl rfl hl.1 rfl (Nat.le_of_ble_eq_true rfl) dX9_read_44 ⟨Nat.le_of_ble_eq_true rfl, Nat.le_of_ble_eq_true rfl⟩ (fun H locs hP hD hS => ?_)
  refine lv_iconst (v := 0) hx hb dX9_read_47 (by decide) ?_
  refine lv_istore_n (lv' := [(3, .int 0), (0, .ref (ad p0)), (1, .ref (ad p1)), (2, .ref (ad p2))]) hx hb dX9_read_48 rfl hl (by decide) rfl (fun ls hl => ?_)
  have key28 : ∀ (K : ((ha_St) ⊕ (Int32 × ha_St)) → Option (Int32 × ha_St)), (∀  (S : ha_St) (H : Heap) (locs : List Loc) (ls : Array Slot), K (.inl S) = some out → va_P D vwCl (ha_wl cs ad xo_kd xo_ln N S) H → va_D (ha_A ad N) (ha_wl cs ad xo_kd xo_ln N S) → va_S (ha_A ad N) s.heap H locs → lv_has ls 4 [(0, .ref (ad p0)), (1, .ref (ad p1)), (2, .ref (ad p2))] → W p l e (headSpec wsX9_read ({ frames := 9, cells := 0, slots := 0, locals := 198 } : Room)).room s m ([.ref (ad p0), .ref (ad p1), .ref (ad p2)] : List Value).toArray below meth c H locs 0 0 (MQ below (va_Qi (fun (r : Int32) (_ : Unit) => r = out.1) (fun _ => ha_H D cs ad xo_kd xo_ln N out.2) (ha_A ad N)) ([.ref (ad p0), .ref (ad p1), .ref (ad p2)] : List Value).toArray s 0 0 (ha_A ad N)) (F0 m 98 ls [])) → (∀ r, K (.inr r) = some out → r = out) → ∀ (n : Nat) (v3 : Int32) (S : ha_St) (H : Heap) (locs : List Loc) (ls : Array Slot), (f_X9_read_L49i p0 p1 p2 n (v3, S)).bind K = some out → va_P D vwCl (ha_wl cs ad xo_kd xo_ln N S) H → va_D (ha_A ad N) (ha_wl cs ad xo_kd xo_ln N S) → va_S (ha_A ad N) s.heap H locs → lv_has ls 4 [(0, .ref (ad p0)), (1, .ref (ad p1)), (2, .ref (ad p2)), (3, .int v3)] → W p l e (headSpec wsX9_read ({ frames := 9, cells := 0, slots := 0, locals := 198 } : Room)).room s m ([.ref (ad p0), .ref (ad p1), .ref (ad p2)] : List Value).toArray below meth c H locs 0 0 (MQ below (va_Qi (fun (r : Int32) (_ : Unit) => r = out.1) (fun _ => ha_H D cs ad xo_kd xo_ln N out.2) (ha_A ad N)) ([.ref (ad p0), .ref (ad p1), .ref (ad p2)] : List Value).toArray s 0 0 (ha_A ad N)) (F0 m 49 ls []) := by
    intro K hk hke n
    induction n with
    | zero =>
      intro v3 S H locs ls hf
      exact absurd (show (none : Option (Int32 × ha_St)) = some out from hf) (fun h => by cases h)
    | succ n ih =>
      intro v3 S H locs ls hf  hP hD hS hl
      have J83 : ∀  (S : ha_St) (H : Heap) (locs : List Loc) (ls : Array Slot), (f_X9_read_L49_J83 p0 p1 p2 (f_X9_read_L49i p0 p1 p2 n)  S).bind K = some out → va_P D vwCl (ha_wl cs ad xo_kd xo_ln N S) H → va_D (ha_A ad N) (ha_wl cs ad xo_kd xo_ln N S) → va_S (ha_A ad N) s.heap H locs → lv_has ls 4 [(0, .ref (ad p0)), (1, .ref (ad p1)), (2, .ref (ad p2))] → W p l e (headSpec wsX9_read ({ frames := 9, cells := 0, slots := 0, locals := 198 } : Room)).room s m ([.ref (ad p0), .ref (ad p1), .ref (ad p2)] : List Value).toArray below meth c H locs 0 0 (MQ below (va_Qi (fun (r : Int32) (_ : Unit) => r = out.1) (fun _ => ha_H D cs ad xo_kd xo_ln N out.2) (ha_A ad N)) ([.ref (ad p0), .ref (ad p1), .ref (ad p2)] : List Value).toArray s 0 0 (ha_A ad N)) (F0 m 83 ls []) := by
        intro  S H locs ls hf  hP hD hS hl
        unfold f_X9_read_L49_J83 at hf
        refine lv_iconst (v := 0) hx hb dX9_read_83 (by decide) ?_
        have he := hke _ hf
        exact ha_retz hx hb hr hlocks hP hD hS dX9_read_84 (by decide) (ha_e1 he) (ha_e2 he)
      have hf : (f_X9_read_L49 p0 p1 p2 (f_X9_read_L49i p0 p1 p2 n) v3 S).bind K = some out := hf
      unfold f_X9_read_L49 at hf
      refine lv_iload_n hx hb dX9_read_49 rfl (lv_at hl 3 rfl) ?_
      refine lv_bipush (v := 20) hx hb dX9_read_50 (by decide) ?_
      refine lv_icmp_ge (tgt := 98) hx hb dX9_read_52 (by decide) (fun c17 => ?_) (fun c17 => ?_)
      · have hf := ha_it hf c17
        exact hk  S H locs ls hf  hP hD hS (lv_sub hl [0, 1, 2] rfl)
      · have hf := ha_if hf c17
        refine lv_aload_n hx hb dX9_read_55 rfl (lv_at hl 0 rfl) ?_
        refine ha_geti hx hb hown hK hP q45 hN h0 dX9_read_56 ?_
        refine lv_bipush (v := (-2)) hx hb dX9_read_59 (by decide) ?_
        refine lv_icmp_ne (tgt := 69) hx hb dX9_read_61 (by decide) (fun c18 => ?_) (fun c18 => ?_)
        · have hf := ha_it hf c18
          refine lv_aload_n hx hb dX9_read_69 rfl (lv_at hl 0 rfl) ?_
          obtain ⟨z19, wz19, hf⟩ := ha_bds hf
          refine ha_callVi (As := []) (rest := []) hZ ⟨hx, hb, hml, hown, hts⟩ hK hz hP hD hS (c_X9_readOnes hZ hN hX h0 wz19) cw4 hN h0 (by decide) rfl rfl hl.1 rfl (Nat.le_of_ble_eq_true rfl) dX9_read_70 ⟨Nat.le_of_ble_eq_true rfl, Nat.le_of_ble_eq_true rfl⟩ (fun H locs hP hD hS => ?_)
          refine lv_if_eq (tgt := 83) hx hb dX9_read_73 (by decide) (fun c20 => ?_) (fun c20 => ?_)
          · have hf := ha_it hf c20
            exact J83  z19.2 H locs ls hf  hP hD hS (lv_sub hl [0, 1, 2] rfl)
          · have hf := ha_if hf c20
            refine lv_aload_n hx hb dX9_read_76 rfl (lv_at hl 0 rfl) ?_
            obtain ⟨z21, wz21, hf⟩ := ha_bds hf
            refine ha_callVi (As := []) (rest := []) hZ ⟨hx, hb, hml, hown, hts⟩ hK hz hP hD hS (c_X9_readActs hZ hN hX h0 wz21) cw5 hN h0 (by decide) rfl rfl hl.1 rfl (Nat.le_of_ble_eq_true rfl) dX9_read_77 ⟨Nat.le_of_ble_eq_true rfl, Nat.le_of_ble_eq_true rfl⟩ (fun H locs hP hD hS => ?_)
            refine lv_if_ne (tgt := 85) hx hb dX9_read_80 (by decide) (fun c22 => ?_) (fun c22 => ?_)
            · have hf := ha_it hf c22
              refine lv_aload_n hx hb dX9_read_85 rfl (lv_at hl 0 rfl) ?_
              obtain ⟨r23, wr23, hf⟩ := ha_bds hf
              obtain ⟨wr23, hr23⟩ := ha_rf_some wr23
              refine ha_getr hx hb hown hK hP q18 hN h0 wr23 dX9_read_86 ?_
              obtain ⟨z24, wz24, hf⟩ := ha_bds hf
              refine ha_callVv (As := []) (rest := []) hZ ⟨hx, hb, hml, hown, hts⟩ hK hz hP hD hS (c_X8_closeRule hZ hN hX hr23 wz24) cw6 hN hr23 (by decide) rfl rfl hl.1 rfl (Nat.le_of_ble_eq_true rfl) dX9_read_89 ⟨Nat.le_of_ble_eq_true rfl, Nat.le_of_ble_eq_true rfl⟩ (fun H locs hP hD hS => ?_)
              obtain ⟨x25, ex25⟩ : ∃ y : Int32, y = (v3 : Int32) + 1 := ⟨_, rfl⟩
              have hf := ha_nms hf ex25
              refine lv_iinc (v := x25) (lv' := [(3, .int x25), (0, .ref (ad p0)), (1, .ref (ad p1)), (2, .ref (ad p2))]) hx hb dX9_read_92 hl (k := 3) rfl (by rw [ex25]; rfl) (by decide) rfl (fun ls hl => ?_)
              refine lv_goto (tgt := 49) hx hb dX9_read_95 (by decide) ?_
              exact ih x25 z24 H locs ls hf  hP hD hS (lv_sub hl [1, 2, 3, 0] rfl)
            · have hf := ha_if hf (fun q => q c22)
              exact J83  z21.2 H locs ls hf  hP hD hS (lv_sub hl [0, 1, 2] rfl)
        · have hf := ha_if hf (fun q => q c18)
          refine lv_aload_n hx hb dX9_read_64 rfl (lv_at hl 0 rfl) ?_
          obtain ⟨z26, wz26, hf⟩ := ha_bds hf
          refine ha_callVi (As := []) (rest := []) hZ ⟨hx, hb, hml, hown, hts⟩ hK hz hP hD hS (c_X9_endIsRight hZ hN hX h0 wz26) cw1 hN h0 (by decide) rfl rfl hl.1 rfl (Nat.le_of_ble_eq_true rfl) dX9_read_65 ⟨Nat.le_of_ble_eq_true rfl, Nat.le_of_ble_eq_true rfl⟩ (fun H locs hP hD hS => ?_)
          obtain ⟨g27, hf⟩ := ha_gds hf
          have he := hke _ hf
          exact ha_retz hx hb hr hlocks hP hD hS dX9_read_68 g27 (ha_e1 he) (ha_e2 he)
  refine key28 _ (fun  S H locs ls hf  hP hD hS hl => ?_) (fun r h => Option.some.inj h) ha_fu 0 z16 H locs ls (ha_as hf)  hP hD hS (lv_sub hl [1, 2, 3, 0] rfl)
  have hf : (f_X9_read_J98 p0 p1 p2  S).bind some = some out := hf
  exact J98  S H locs ls hf  hP hD hS (lv_sub hl [0, 1, 2] rfl)

set_option maxHeartbeats 4000000 in
set_option maxRecDepth 100000 in
theorem c_X11_program {l : Launch} {D : va_G} {cs : Nat → ClassId} {ad adK adV : Nat → Nat} {N : List Nat} {Z : State → Prop} (hZ : ha_Zok (ha_A ad N) Z) (hN : ∀ x, xo_kd x < 999 → x ∈ N) (hX : ∀ U, Z U → xo_Z adK adV (ha_A ad N) U) {p0 : Nat} {p1 : Int32} {S : ha_St} {out : Int32 × ha_St} (h0 : xo_kd p0 = 11) (hf : f_X11_program p0 p1 S = some out) : ha_Ci l D cs ad xo_kd xo_ln N Z yX11_program wsX11_program ({ frames := 10, cells := 0, slots := 0, locals := 221 } : Room) [.ref (ad p0), .int p1] S out.1 out.2 := by
  refine Met.ofW (cc := cX11_program) (maxL := 5) (ret := (some .int)) (by decide +kernel) rfl ?_
  intro p e s m args below meth c s₁ B hml hv
  obtain ⟨rfl, hP, hD, hK, hz⟩ := hv
  have hx := B.exec
  have hb := B.bytes
  have hr := B.returns
  have hts := atoms_spec (ws := wsX11_program) B.pre
  have hown : s.vm.findClass RX11 = some m.cls := findClass_of_methodNamed B.named
  have hlocks := B.notSynchronized
  have hS : va_S (ha_A ad N) s.heap s.heap [] := va_S.rf
  have hi1 : ∀ w ∈ wsX10, w ∈ wsX11_program := fun w h => List.mem_cons_of_mem _ (List.mem_append_left _ (List.mem_append_right _ h))
  have hi8 : ∀ w ∈ wsX80, w ∈ wsX11_program := fun w h => List.mem_cons_of_mem _ (List.mem_append_left _ (List.mem_append_left _ (List.mem_append_right _ h)))
  have hi9 : ∀ w ∈ wsX90, w ∈ wsX11_program := fun w h => List.mem_cons_of_mem _ (List.mem_append_left _ (List.mem_append_left _ (List.mem_append_left _ (List.mem_append_right _ h))))
  have hi10 : ∀ w ∈ wsX100, w ∈ wsX11_program := fun w h => List.mem_cons_of_mem _ (List.mem_append_right _ h)
  have hi11 : ∀ w ∈ wsX110, w ∈ wsX11_program := fun w h => List.mem_cons_of_mem _ (List.mem_append_left _ (List.mem_append_left _ (List.mem_append_left _ (List.mem_append_left _ (List.mem_append_right _ h)))))
  have q10 : ha_Fk s ([.ref (ad p0), .int p1] : List Value).toArray RX11 10 11 0 1 := ⟨RX11, TX11, 17, wsX11_program, rfl, by decide, by decide, rfl, rfl, hts, hi11, hts (.fieldLink RX11 10 "HillArms" "tape" "LHillArms$Tape;") (by decide +kernel)⟩
  have q19 : ha_Fk s ([.ref (ad p0), .int p1] : List Value).toArray RX11 19 11 1 1 := ⟨RX11, TX11, 17, wsX11_program, rfl, by decide, by decide, rfl, rfl, hts, hi11, hts (.fieldLink RX11 19 "HillArms" "crew" "LHillArms$Crew;") (by decide +kernel)⟩
  have q126 : ha_Fk s ([.ref (ad p0), .int p1] : List Value).toArray RX11 126 1 0 1 := ⟨RX1, TX1, 8, wsX11_program, rfl, by decide, by decide, rfl, rfl, hts, hi1, hts (.fieldLink RX11 126 "HillArms$Crew" "programs" "[LHillArms$Program;") (by decide +kernel)⟩
  have q84 : ha_Fk s ([.ref (ad p0), .int p1] : List Value).toArray RX11 84 11 11 1 := ⟨RX11, TX11, 17, wsX11_program, rfl, by decide, by decide, rfl, rfl, hts, hi11, hts (.fieldLink RX11 84 "HillArms" "spare" "LHillArms$Program;") (by decide +kernel)⟩
  have q26 : ha_Fk s ([.ref (ad p0), .int p1] : List Value).toArray RX11 26 11 2 1 := ⟨RX11, TX11, 17, wsX11_program, rfl, by decide, by decide, rfl, rfl, hts, hi11, hts (.fieldLink RX11 26 "HillArms" "reader" "LHillArms$Reader;") (by decide +kernel)⟩
  have q114 : ha_Fk s ([.ref (ad p0), .int p1] : List Value).toArray RX11 114 9 6 0 := ⟨RX9, TX9, 8, wsX11_program, rfl, by decide, by decide, rfl, rfl, hts, hi9, hts (.fieldLink RX11 114 "HillArms$Reader" "faultKind" "I") (by decide +kernel)⟩
  have q123 : ha_Fk s ([.ref (ad p0), .int p1] : List Value).toArray RX11 123 9 7 0 := ⟨RX9, TX9, 8, wsX11_program, rfl, by decide, by decide, rfl, rfl, hts, hi9, hts (.fieldLink RX11 123 "HillArms$Reader" "faultAt" "I") (by decide +kernel)⟩
  have q120 : ha_Fk s ([.ref (ad p0), .int p1] : List Value).toArray RX11 120 8 8 0 := ⟨RX8, TX8, 12, wsX11_program, rfl, by decide, by decide, rfl, rfl, hts, hi8, hts (.fieldLink RX11 120 "HillArms$Program" "rules" "I") (by decide +kernel)⟩
  have r92 : ha_Fp s ([.ref (ad p0), .int p1] : List Value).toArray RX11 92 10 1 0 .int := ⟨RX10, TX10, 2, wsX11_program, tyX10, rfl, by decide, by decide, rfl, rfl, hts, hi10, hts (.fieldLink RX11 92 "HillArms$Tape" "size" "I") (by decide +kernel), tyX10_ok, nmX10, rfl, by decide +kernel⟩
  have r84 : ha_Fp s ([.ref (ad p0), .int p1] : List Value).toArray RX11 84 11 11 1 (.object "HillArms$Program") := ⟨RX11, TX11, 17, wsX11_program, tyX11, rfl, by decide, by decide, rfl, rfl, hts, hi11, hts (.fieldLink RX11 84 "HillArms" "spare" "LHillArms$Program;") (by decide +kernel), tyX11_ok, nmX11, rfl, by decide +kernel⟩
  have r117 : ha_Fp s ([.ref (ad p0), .int p1] : List Value).toArray RX11 117 11 12 0 .int := ⟨RX11, TX11, 17, wsX11_program, tyX11, rfl, by decide, by decide, rfl, rfl, hts, hi11, hts (.fieldLink RX11 117 "HillArms" "latestFault" "I") (by decide +kernel), tyX11_ok, nmX11, rfl, by decide +kernel⟩
  have cw0 := cwV (R := (headSpec wsX11_program ({ frames := 10, cells := 0, slots := 0, locals := 221 } : Room)).room) 2 hts gX11_program_X9_read (rm := ({ frames := 9, cells := 0, slots := 0, locals := 198 } : Room)) (mc := 0) (ms := 0) rfl rfl rfl (by decide +kernel) ⟨Nat.le_of_ble_eq_true rfl, Nat.le_of_ble_eq_true rfl⟩
  have hl := lv_entry ([.ref (ad p0), .int p1]) (n := 5) (Nat.le_of_ble_eq_true rfl)
  rw [lg_entry_eq]
  generalize (lg_sl ([.ref (ad p0), .int p1]) ++ List.replicate (5 - (lg_sl ([.ref (ad p0), .int p1])).length) Slot.unset).toArray = ls at hl ⊢
  have hl : lv_has ls 5 [(0, .ref (ad p0)), (1, .int p1)] := hl
  refine (fun (K0 : ∀ (H : Heap) (locs : List Loc), va_P D vwCl (ha_wl cs ad xo_kd xo_ln N S) H → va_S (ha_A ad N) s.heap H locs → W p l e (headSpec wsX11_program ({ frames := 10, cells := 0, slots := 0, locals := 221 } : Room)).room s m ([.ref (ad p0), .int p1] : List Value).toArray below meth c H locs 0 0 (MQ below (va_Qi (fun (r : Int32) (_ : Unit) => r = out.1) (fun _ => ha_H D cs ad xo_kd xo_ln N out.2) (ha_A ad N)) ([.ref (ad p0), .int p1] : List Value).toArray s 0 0 (ha_A ad N)) (F0 m 0 ls [])) => K0 _ _ hP hS) ?_
  intro H locs hP hS
  have hf := ha_rt hf
  have J98 : ∀ (v2 : Int32) (S : ha_St) (H : Heap) (locs : List Loc) (ls : Array Slot), (f_X11_program_J98 p0 p1 v2 S).bind some = some out → va_P D vwCl (ha_wl cs ad xo_kd xo_ln N S) H → va_D (ha_A ad N) (ha_wl cs ad xo_kd xo_ln N S) → va_S (ha_A ad N) s.heap H locs → lv_has ls 5 [(0, .ref (ad p0)), (1, .int p1), (2, .int v2)] → W p l e (headSpec wsX11_program ({ frames := 10, cells := 0, slots := 0, locals := 221 } : Room)).room s m ([.ref (ad p0), .int p1] : List Value).toArray below meth c H locs 0 0 (MQ below (va_Qi (fun (r : Int32) (_ : Unit) => r = out.1) (fun _ => ha_H D cs ad xo_kd xo_ln N out.2) (ha_A ad N)) ([.ref (ad p0), .int p1] : List Value).toArray s 0 0 (ha_A ad N)) (F0 m 98 ls []) := by
    intro v2 S H locs ls hf  hP hD hS hl
    unfold f_X11_program_J98 at hf
    refine lv_aload_n hx hb dX11_program_98 rfl (lv_at hl 0 rfl) ?_
    obtain ⟨r1, wr1, hf⟩ := ha_bds hf
    obtain ⟨wr1, hr1⟩ := ha_rf_some wr1
    refine ha_getr hx hb hown hK hP q10 hN h0 wr1 dX11_program_99 ?_
    refine lv_iconst (v := 0) hx hb dX11_program_102 (by decide) ?_
    refine ha_puti hx hb hown hK hP hD hS r92 hN hr1 dX11_program_103 (fun S2 H locs eS2 hP hD hS => ?_)
    have hf := ha_nms hf eS2
    refine lv_iload_n hx hb dX11_program_106 rfl (lv_at hl 2 rfl) ?_
    have he := Option.some.inj hf
    exact ha_reti hx hb hr hlocks hP hD hS dX11_program_107 (ha_e1 he) (ha_e2 he)
  have J63 : ∀ (v3 : Int32) (k0 : Int32) (S : ha_St) (H : Heap) (locs : List Loc) (ls : Array Slot), (f_X11_program_J63 p0 p1 v3 k0 S).bind some = some out → va_P D vwCl (ha_wl cs ad xo_kd xo_ln N S) H → va_D (ha_A ad N) (ha_wl cs ad xo_kd xo_ln N S) → va_S (ha_A ad N) s.heap H locs → lv_has ls 5 [(0, .ref (ad p0)), (1, .int p1), (3, .int v3)] → W p l e (headSpec wsX11_program ({ frames := 10, cells := 0, slots := 0, locals := 221 } : Room)).room s m ([.ref (ad p0), .int p1] : List Value).toArray below meth c H locs 0 0 (MQ below (va_Qi (fun (r : Int32) (_ : Unit) => r = out.1) (fun _ => ha_H D cs ad xo_kd xo_ln N out.2) (ha_A ad N)) ([.ref (ad p0), .int p1] : List Value).toArray s 0 0 (ha_A ad N)) (F0 m 63 ls [.int k0]) := by
    intro v3 k0 S H locs ls hf  hP hD hS hl
    unfold f_X11_program_J63 at hf
    refine lv_istore_n (lv' := [(2, .int k0), (0, .ref (ad p0)), (1, .int p1), (3, .int v3)]) hx hb dX11_program_63 rfl hl (by decide) rfl (fun ls hl => ?_)
    refine lv_iload_n hx hb dX11_program_64 rfl (lv_at hl 3 rfl) ?_
    refine lv_if_eq (tgt := 98) hx hb dX11_program_65 (by decide) (fun c3 => ?_) (fun c3 => ?_)
    · have hf := ha_it hf c3
      exact J98 k0 S H locs ls hf  hP hD hS (lv_sub hl [1, 2, 0] rfl)
    · have hf := ha_if hf c3
      refine lv_aload_n hx hb dX11_program_68 rfl (lv_at hl 1 rfl) ?_
      obtain ⟨r4, wr4, hf⟩ := ha_bds hf
      obtain ⟨wr4, hr4⟩ := ha_rf_some wr4
      refine ha_getr hx hb hown hK hP q19 hN h0 wr4 dX11_program_69 ?_
      obtain ⟨r5, wr5, hf⟩ := ha_bds hf
      obtain ⟨wr5, hr5⟩ := ha_rf_some wr5
      refine ha_getr hx hb hown hK hP q126 hN hr4 wr5 dX11_program_72 ?_
      refine lv_iload_n hx hb dX11_program_75 rfl (lv_at hl 2 rfl) ?_
      obtain ⟨g6, hf⟩ := ha_gds hf
      obtain ⟨r7, wr7, hf⟩ := ha_bds hf
      obtain ⟨wr7, hr7⟩ := ha_rb_some wr7
      refine ha_aald hx hb hK hP hN hr5 (by decide) g6 wr7 dX11_program_76 ?_
      refine lv_astore (lv' := [(4, .ref (ad r7)), (2, .int k0), (0, .ref (ad p0)), (1, .int p1), (3, .int v3)]) hx hb dX11_program_77 hl (by decide) rfl (fun ls hl => ?_)
      refine lv_aload_n hx hb dX11_program_79 rfl (lv_at hl 2 rfl) ?_
      obtain ⟨r8, wr8, hf⟩ := ha_bds hf
      obtain ⟨wr8, hr8⟩ := ha_rf_some wr8
      refine ha_getr hx hb hown hK hP q19 hN h0 wr8 dX11_program_80 ?_
      obtain ⟨r9, wr9, hf⟩ := ha_bds hf
      obtain ⟨wr9, hr9⟩ := ha_rf_some wr9
      refine ha_getr hx hb hown hK hP q126 hN hr8 wr9 dX11_program_83 ?_
      refine lv_iload_n hx hb dX11_program_86 rfl (lv_at hl 3 rfl) ?_
      refine lv_aload_n hx hb dX11_program_87 rfl (lv_at hl 2 rfl) ?_
      obtain ⟨r10, wr10, hf⟩ := ha_bds hf
      obtain ⟨wr10, hr10⟩ := ha_rf_some wr10
      refine ha_getr hx hb hown hK hP q84 hN h0 wr10 dX11_program_88 ?_
      obtain ⟨g11, hf⟩ := ha_gds hf
      refine ha_aast (C := "") hx hb hK hP hD hS hN hr9 hr10 rfl g11 dX11_program_91 (fun S12 H locs eS12 hP hD hS => ?_)
      have hf := ha_nms hf eS12
      refine lv_aload_n hx hb dX11_program_92 rfl (lv_at hl 2 rfl) ?_
      refine lv_aload hx hb dX11_program_93 (lv_at hl 0 rfl) ?_
      refine ha_putr hx hb hown hK hP hD hS r84 hN h0 rfl rfl dX11_program_95 (fun S13 H locs eS13 hP hD hS => ?_)
      have hf := ha_nms hf eS13
      exact J98 k0 S13 H locs ls hf  hP hD hS (lv_sub hl [2, 3, 1] rfl)
  unfold f_X11_program at hf
  refine lv_sipush (v := (-1000)) hx hb dX11_program_0 (by decide) ?_
  refine lv_istore_n (lv' := [(2, .int (-1000)), (0, .ref (ad p0)), (1, .int p1)]) hx hb dX11_program_3 rfl hl (by decide) rfl (fun ls hl => ?_)
  refine lv_iload_n hx hb dX11_program_4 rfl (lv_at hl 2 rfl) ?_
  refine lv_if_lt (tgt := 98) hx hb dX11_program_5 (by decide) (fun c14 => ?_) (fun c14 => ?_)
  · have hf := ha_it hf c14
    exact J98 (-1000) S H locs ls hf  hP hD hS (lv_sub hl [1, 2, 0] rfl)
  · have hf := ha_if hf c14
    refine lv_iload_n hx hb dX11_program_8 rfl (lv_at hl 2 rfl) ?_
    refine lv_iconst (v := 3) hx hb dX11_program_9 (by decide) ?_
    refine lv_icmp_ge (tgt := 98) hx hb dX11_program_10 (by decide) (fun c15 => ?_) (fun c15 => ?_)
    · have hf := ha_it hf c15
      exact J98 (-1000) S H locs ls hf  hP hD hS (lv_sub hl [1, 2, 0] rfl)
    · have hf := ha_if hf c15
      refine lv_aload_n hx hb dX11_program_13 rfl (lv_at hl 1 rfl) ?_
      obtain ⟨r16, wr16, hf⟩ := ha_bds hf
      obtain ⟨wr16, hr16⟩ := ha_rf_some wr16
      refine ha_getr hx hb hown hK hP q26 hN h0 wr16 dX11_program_14 ?_
      refine lv_aload_n hx hb dX11_program_17 rfl (lv_at hl 1 rfl) ?_
      obtain ⟨r17, wr17, hf⟩ := ha_bds hf
      obtain ⟨wr17, hr17⟩ := ha_rf_some wr17
      refine ha_getr hx hb hown hK hP q10 hN h0 wr17 dX11_program_18 ?_
      refine lv_aload_n hx hb dX11_program_21 rfl (lv_at hl 1 rfl) ?_
      obtain ⟨r18, wr18, hf⟩ := ha_bds hf
      obtain ⟨wr18, hr18⟩ := ha_rf_some wr18
      refine ha_getr hx hb hown hK hP q84 hN h0 wr18 dX11_program_22 ?_
      obtain ⟨z19, wz19, hf⟩ := ha_bds hf
      refine ha_callVi (As := [.ref (ad r17), .ref (ad r18)]) (rest := []) hZ ⟨hx, hb, hml, hown, hts⟩ hK hz hP hD hS (c_X9_read hZ hN hX hr16 hr17 hr18 wz19) cw0 hN hr16 (by decide) rfl rfl hl.1 rfl (Nat.le_of_ble_eq_true rfl) dX11_program_25 ⟨Nat.le_of_ble_eq_true rfl, Nat.le_of_ble_eq_true rfl⟩ (fun H locs hP hD hS => ?_)
      refine lv_istore_n (lv' := [(3, .int z19.1), (2, .int (-1000)), (0, .ref (ad p0)), (1, .int p1)]) hx hb dX11_program_28 rfl hl (by decide) rfl (fun ls hl => ?_)
      refine lv_aload_n hx hb dX11_program_29 rfl (lv_at hl 2 rfl) ?_
      refine lv_aload_n hx hb dX11_program_30 rfl (lv_at hl 2 rfl) ?_
      obtain ⟨r20, wr20, hf⟩ := ha_bds hf
      obtain ⟨wr20, hr20⟩ := ha_rf_some wr20
      refine ha_getr hx hb hown hK hP q26 hN h0 wr20 dX11_program_31 ?_
      refine ha_geti hx hb hown hK hP q114 hN hr20 dX11_program_34 ?_
      refine ha_puti hx hb hown hK hP hD hS r117 hN h0 dX11_program_37 (fun S21 H locs eS21 hP hD hS => ?_)
      have hf := ha_nms hf eS21
      refine lv_iload_n hx hb dX11_program_40 rfl (lv_at hl 0 rfl) ?_
      refine lv_if_eq (tgt := 54) hx hb dX11_program_41 (by decide) (fun c22 => ?_) (fun c22 => ?_)
      · have hf := ha_it hf c22
        refine lv_iconst (v := (-1)) hx hb dX11_program_54 (by decide) ?_
        refine lv_aload_n hx hb dX11_program_55 rfl (lv_at hl 2 rfl) ?_
        obtain ⟨r23, wr23, hf⟩ := ha_bds hf
        obtain ⟨wr23, hr23⟩ := ha_rf_some wr23
        refine ha_getr hx hb hown hK hP q26 hN h0 wr23 dX11_program_56 ?_
        refine ha_geti hx hb hown hK hP q123 hN hr23 dX11_program_59 ?_
        refine lv_isub hx hb dX11_program_62 ?_
        exact J63 z19.1 ((((-1) : Int32) - (ha_gI S21 r23 7))) S21 H locs ls hf  hP hD hS (lv_sub hl [2, 3, 0] rfl)
      · have hf := ha_if hf c22
        refine lv_aload_n hx hb dX11_program_44 rfl (lv_at hl 2 rfl) ?_
        obtain ⟨r24, wr24, hf⟩ := ha_bds hf
        obtain ⟨wr24, hr24⟩ := ha_rf_some wr24
        refine ha_getr hx hb hown hK hP q84 hN h0 wr24 dX11_program_45 ?_
        refine ha_geti hx hb hown hK hP q120 hN hr24 dX11_program_48 ?_
        refine lv_goto (tgt := 63) hx hb dX11_program_51 (by decide) ?_
        exact J63 z19.1 ((ha_gI S21 r24 8)) S21 H locs ls hf  hP hD hS (lv_sub hl [2, 3, 0] rfl)
